abbrev rm_X6_swap : Room := { frames := 0, cells := 0, slots := 0, locals := 0 }
theorem ms_X6_swap : MsS yX6_swap cX6_swap 4 none 3 := ⟨⟨q3_11, q1_1, by decide, by decide, by decide⟩, q3_10⟩
set_option maxRecDepth 20000 in
theorem c_X6_swap (l : Launch) (X : Wx) {S S' : Mm} {r : Unit} {a0 : Nat} {x1 : Int32} {x2 : Int32} (ha0 : KK a0 = 9) (h : f_X6_swap S a0 x1 x2 = some (r, S')) : Ct l X yX6_swap cX6_swap 4 none rm_X6_swap [.ref (X.1 + a0), .int x1, .int x2] S none S' := by
  refine r_entry (by decide) (Nat.le_of_ble_eq_true rfl) ?_
  intro p e s m args below meth c ls hc hr hw hl
  have hc : Cx p s m args meth c X cX6_swap 4 RX6 := hc
  have hl : lv_has ls 4 [(0, .ref (X.1 + a0)), (1, .int x1), (2, .int x2)] := hl
  have hx := hc.1
  have hb := hc.2.1
  unfold f_X6_swap at h
  refine lv_aload_n hx hb dX6_swap_0 rfl (lv_at hl 0 rfl) ?_
  refine lv_iload_n hx hb dX6_swap_1 rfl (lv_at hl 1 rfl) ?_
  obtain ⟨b1, h⟩ := bnd_some h
  refine r_iald hc hw ha0 (inL b1 rfl) dX6_swap_2 ?_
  obtain ⟨v2, e3, h⟩ := nm_some h
  refine r_top e3 ?_
  refine lv_istore_n (lv' := [(3, .int v2), (0, .ref (X.1 + a0)), (1, .int x1), (2, .int x2)]) hx hb dX6_swap_3 rfl hl (by decide) rfl (fun ls hl => ?_)
  refine lv_aload_n hx hb dX6_swap_4 rfl (lv_at hl 1 rfl) ?_
  refine lv_iload_n hx hb dX6_swap_5 rfl (lv_at hl 2 rfl) ?_
  refine lv_aload_n hx hb dX6_swap_6 rfl (lv_at hl 1 rfl) ?_
  refine lv_iload_n hx hb dX6_swap_7 rfl (lv_at hl 3 rfl) ?_
  obtain ⟨b4, h⟩ := bnd_some h
  refine r_iald hc hw ha0 (inL b4 rfl) dX6_swap_8 ?_
  obtain ⟨b5, h⟩ := bnd_some h
  obtain ⟨S6, e7, h⟩ := nm_some h
  refine r_iast hc hw ha0 (inL b5 rfl) e7 dX6_swap_9 (fun H locs hw => ?_)
  refine lv_aload_n hx hb dX6_swap_10 rfl (lv_at hl 1 rfl) ?_
  refine lv_iload_n hx hb dX6_swap_11 rfl (lv_at hl 3 rfl) ?_
  refine lv_iload_n hx hb dX6_swap_12 rfl (lv_at hl 0 rfl) ?_
  obtain ⟨b8, h⟩ := bnd_some h
  obtain ⟨S9, e10, h⟩ := nm_some h
  refine r_iast hc hw ha0 (inL b8 rfl) e10 dX6_swap_13 (fun H locs hw => ?_)
  obtain ⟨rfl, rfl⟩ := sm_inj h
  exact r_vret hc hr hw dX6_swap_14
abbrev rm_X6_advance : Room := { frames := 1, cells := 0, slots := 0, locals := 23 }
theorem ms_X6_advance : MsS yX6_advance cX6_advance 6 (some .boolean) 2 := ⟨⟨q3_8, q1_1, by decide, by decide, by decide⟩, q3_7⟩
set_option maxRecDepth 20000 in
theorem w_X6_advance_71 {p : Program} {l : Launch} {e : Env} {s : State} {m : MethodId} {args : Array Value} {below : List Frame} {meth : Method} {c : Code} {X : Wx} {r : Int32} {S' : Mm} (hc : Cx p s m args meth c X cX6_advance 6 RX6) (hr : meth.sig.returnType = (some .boolean)) {a0 : Nat} (ha0 : KK a0 = 9)  : ∀ (n : Nat), ∀ (x4 : Int32) (x5 : Int32) (S : Mm) (H : Heap) (locs : List Loc) (ls : Array Slot), Wd X s.heap S H locs → lv_has ls 6 [(0, .ref (X.1 + a0)), (4, .int x4), (5, .int x5)] → f_X6_advance_71 a0 n x4 x5 S = some (r, S') → W p l e rm_X6_advance s m args below meth c H locs 0 0 (MQ below (Qq X (some (.int r)) S') args s 0 0 (AA X.1)) (F0 m 71 ls []) := by
  have hx := hc.1
  have hb := hc.2.1
  intro n
  induction n with
  | zero => intro x4 x5 S H locs ls hw hl h; cases h
  | succ n ih =>
    intro x4 x5 S H locs ls hw hl h
    rw [f_X6_advance_71] at h
    refine lv_iload hx hb dX6_advance_71 (lv_at hl 1 rfl) ?_
    refine lv_iload hx hb dX6_advance_73 (lv_at hl 2 rfl) ?_
    refine lv_icmp_ge (tgt := 95) hx hb dX6_advance_75 (by decide) (fun c1 => ?_) (fun c1 => ?_)
    · have h := ifT c1 h
      refine lv_iconst (v := 1) hx hb dX6_advance_95 (by decide) ?_
      obtain ⟨rfl, rfl⟩ := sm_inj h
      exact r_zret hc hr (Or.inr rfl) hw dX6_advance_96
    · have h := ifF c1 h
      refine lv_aload_n hx hb dX6_advance_78 rfl (lv_at hl 0 rfl) ?_
      refine lv_iload hx hb dX6_advance_79 (lv_at hl 1 rfl) ?_
      refine lv_iload hx hb dX6_advance_81 (lv_at hl 2 rfl) ?_
      obtain ⟨r2, S3, h4, h⟩ := bd_some h
      refine r_callSv hc hw hl.1 (As := [.ref (X.1 + a0), .int x4, .int x5]) (rest := []) (c_X6_swap l X ha0 h4) ms_X6_swap q3_9 rfl rfl ⟨rfl, rfl, Nat.le_of_ble_eq_true rfl, Nat.le_of_ble_eq_true rfl⟩ (Nat.le_of_ble_eq_true rfl) ⟨Nat.zero_le _, Nat.zero_le _⟩ dX6_advance_83 (fun H locs hw => ?_)
      obtain ⟨v5, e6, h⟩ := nm_some h
      refine lv_iinc (v := v5) (lv' := [(4, .int v5), (0, .ref (X.1 + a0)), (5, .int x5)]) hx hb dX6_advance_86 hl (k := 1) rfl (by rw [e6]; rfl) (by decide) rfl (fun ls hl => ?_)
      obtain ⟨v7, e8, h⟩ := nm_some h
      refine lv_iinc (v := v7) (lv' := [(5, .int v7), (4, .int v5), (0, .ref (X.1 + a0))]) hx hb dX6_advance_89 hl (k := 2) rfl (by rw [e8]; rfl) (by decide) rfl (fun ls hl => ?_)
      refine lv_goto (tgt := 71) hx hb dX6_advance_92 (by decide) ?_
      exact ih v5 v7 S3 _ _ _ hw (lv_sub hl [2, 1, 0] rfl) h
set_option maxRecDepth 20000 in
theorem w_X6_advance_55 {p : Program} {l : Launch} {e : Env} {s : State} {m : MethodId} {args : Array Value} {below : List Frame} {meth : Method} {c : Code} {X : Wx} {r : Int32} {S' : Mm} (hc : Cx p s m args meth c X cX6_advance 6 RX6) (hr : meth.sig.returnType = (some .boolean)) {a0 : Nat} (ha0 : KK a0 = 9)  : ∀ (x1 : Int32) (x2 : Int32) (x3 : Int32) (S : Mm) (H : Heap) (locs : List Loc) (ls : Array Slot), Wd X s.heap S H locs → lv_has ls 6 [(0, .ref (X.1 + a0)), (1, .int x1), (2, .int x2), (3, .int x3)] → f_X6_advance_55 a0 x1 x2 x3 S = some (r, S') → W p l e rm_X6_advance s m args below meth c H locs 0 0 (MQ below (Qq X (some (.int r)) S') args s 0 0 (AA X.1)) (F0 m 55 ls []) := by
  have hx := hc.1
  have hb := hc.2.1
  intro x1 x2 x3 S H locs ls hw hl h
  unfold f_X6_advance_55 at h
  refine lv_aload_n hx hb dX6_advance_55 rfl (lv_at hl 0 rfl) ?_
  refine lv_iload_n hx hb dX6_advance_56 rfl (lv_at hl 2 rfl) ?_
  refine lv_iload_n hx hb dX6_advance_57 rfl (lv_at hl 3 rfl) ?_
  obtain ⟨r1, S2, h3, h⟩ := bd_some h
  refine r_callSv hc hw hl.1 (As := [.ref (X.1 + a0), .int x2, .int x3]) (rest := []) (c_X6_swap l X ha0 h3) ms_X6_swap q3_9 rfl rfl ⟨rfl, rfl, Nat.le_of_ble_eq_true rfl, Nat.le_of_ble_eq_true rfl⟩ (Nat.le_of_ble_eq_true rfl) ⟨Nat.zero_le _, Nat.zero_le _⟩ dX6_advance_58 (fun H locs hw => ?_)
  refine lv_iload_n hx hb dX6_advance_61 rfl (lv_at hl 2 rfl) ?_
  refine lv_iconst (v := 1) hx hb dX6_advance_62 (by decide) ?_
  refine lv_iadd hx hb dX6_advance_63 ?_
  obtain ⟨v4, e5, h⟩ := nm_some h
  refine r_top e5 ?_
  refine lv_istore (lv' := [(4, .int v4), (0, .ref (X.1 + a0)), (1, .int x1), (2, .int x2), (3, .int x3)]) hx hb dX6_advance_64 hl (by decide) rfl (fun ls hl => ?_)
  refine lv_iload_n hx hb dX6_advance_66 rfl (lv_at hl 2 rfl) ?_
  refine lv_iconst (v := 1) hx hb dX6_advance_67 (by decide) ?_
  refine lv_isub hx hb dX6_advance_68 ?_
  obtain ⟨v6, e7, h⟩ := nm_some h
  refine r_top e7 ?_
  refine lv_istore (lv' := [(5, .int v6), (4, .int v4), (0, .ref (X.1 + a0)), (1, .int x1), (2, .int x2), (3, .int x3)]) hx hb dX6_advance_69 hl (by decide) rfl (fun ls hl => ?_)
  exact w_X6_advance_71 hc hr ha0 400 v4 v6 S2 _ _ _ hw (lv_sub hl [2, 1, 0] rfl) h
set_option maxRecDepth 20000 in
theorem w_X6_advance_35 {p : Program} {l : Launch} {e : Env} {s : State} {m : MethodId} {args : Array Value} {below : List Frame} {meth : Method} {c : Code} {X : Wx} {r : Int32} {S' : Mm} (hc : Cx p s m args meth c X cX6_advance 6 RX6) (hr : meth.sig.returnType = (some .boolean)) {a0 : Nat} (ha0 : KK a0 = 9)  : ∀ (n : Nat), ∀ (x1 : Int32) (x2 : Int32) (x3 : Int32) (S : Mm) (H : Heap) (locs : List Loc) (ls : Array Slot), Wd X s.heap S H locs → lv_has ls 6 [(0, .ref (X.1 + a0)), (1, .int x1), (2, .int x2), (3, .int x3)] → f_X6_advance_35 a0 n x1 x2 x3 S = some (r, S') → W p l e rm_X6_advance s m args below meth c H locs 0 0 (MQ below (Qq X (some (.int r)) S') args s 0 0 (AA X.1)) (F0 m 35 ls []) := by
  have hx := hc.1
  have hb := hc.2.1
  intro n
  induction n with
  | zero => intro x1 x2 x3 S H locs ls hw hl h; cases h
  | succ n ih =>
    intro x1 x2 x3 S H locs ls hw hl h
    rw [f_X6_advance_35] at h
    refine lv_iload_n hx hb dX6_advance_35 rfl (lv_at hl 3 rfl) ?_
    refine lv_iload_n hx hb dX6_advance_36 rfl (lv_at hl 2 rfl) ?_
    refine lv_icmp_le (tgt := 55) hx hb dX6_advance_37 (by decide) (fun c1 => ?_) (fun c1 => ?_)
    · have h := ifT c1 h
      exact w_X6_advance_55 hc hr ha0 x1 x2 x3 S _ _ _ hw (lv_sub hl [0, 1, 2, 3] rfl) h
    · have h := ifF c1 h
      refine lv_aload_n hx hb dX6_advance_40 rfl (lv_at hl 0 rfl) ?_
      refine lv_iload_n hx hb dX6_advance_41 rfl (lv_at hl 3 rfl) ?_
      obtain ⟨b2, h⟩ := bnd_some h
      refine r_iald hc hw ha0 (inL b2 rfl) dX6_advance_42 ?_
      refine lv_aload_n hx hb dX6_advance_43 rfl (lv_at hl 0 rfl) ?_
      refine lv_iload_n hx hb dX6_advance_44 rfl (lv_at hl 2 rfl) ?_
      obtain ⟨b3, h⟩ := bnd_some h
      refine r_iald hc hw ha0 (inL b3 rfl) dX6_advance_45 ?_
      refine lv_icmp_ge (tgt := 55) hx hb dX6_advance_46 (by decide) (fun c4 => ?_) (fun c4 => ?_)
      · have h := ifT c4 h
        exact w_X6_advance_55 hc hr ha0 x1 x2 x3 S _ _ _ hw (lv_sub hl [0, 1, 2, 3] rfl) h
      · have h := ifF c4 h
        obtain ⟨v5, e6, h⟩ := nm_some h
        refine lv_iinc (v := v5) (lv' := [(3, .int v5), (0, .ref (X.1 + a0)), (1, .int x1), (2, .int x2)]) hx hb dX6_advance_49 hl (k := 3) rfl (by rw [e6]; rfl) (by decide) rfl (fun ls hl => ?_)
        refine lv_goto (tgt := 35) hx hb dX6_advance_52 (by decide) ?_
        exact ih x1 x2 v5 S _ _ _ hw (lv_sub hl [1, 2, 3, 0] rfl) h
set_option maxRecDepth 20000 in
theorem w_X6_advance_25 {p : Program} {l : Launch} {e : Env} {s : State} {m : MethodId} {args : Array Value} {below : List Frame} {meth : Method} {c : Code} {X : Wx} {r : Int32} {S' : Mm} (hc : Cx p s m args meth c X cX6_advance 6 RX6) (hr : meth.sig.returnType = (some .boolean)) {a0 : Nat} (ha0 : KK a0 = 9)  : ∀ (x1 : Int32) (x2 : Int32) (S : Mm) (H : Heap) (locs : List Loc) (ls : Array Slot), Wd X s.heap S H locs → lv_has ls 6 [(0, .ref (X.1 + a0)), (1, .int x1), (2, .int x2)] → f_X6_advance_25 a0 x1 x2 S = some (r, S') → W p l e rm_X6_advance s m args below meth c H locs 0 0 (MQ below (Qq X (some (.int r)) S') args s 0 0 (AA X.1)) (F0 m 25 ls []) := by
  have hx := hc.1
  have hb := hc.2.1
  intro x1 x2 S H locs ls hw hl h
  unfold f_X6_advance_25 at h
  refine lv_iload_n hx hb dX6_advance_25 rfl (lv_at hl 2 rfl) ?_
  refine lv_if_ge (tgt := 31) hx hb dX6_advance_26 (by decide) (fun c1 => ?_) (fun c1 => ?_)
  · have h := ifT c1 h
    refine lv_iload_n hx hb dX6_advance_31 rfl (lv_at hl 1 rfl) ?_
    refine lv_iconst (v := 1) hx hb dX6_advance_32 (by decide) ?_
    refine lv_isub hx hb dX6_advance_33 ?_
    obtain ⟨v2, e3, h⟩ := nm_some h
    refine r_top e3 ?_
    refine lv_istore_n (lv' := [(3, .int v2), (0, .ref (X.1 + a0)), (1, .int x1), (2, .int x2)]) hx hb dX6_advance_34 rfl hl (by decide) rfl (fun ls hl => ?_)
    exact w_X6_advance_35 hc hr ha0 400 x1 x2 v2 S _ _ _ hw (lv_sub hl [1, 2, 3, 0] rfl) h
  · have h := ifF c1 h
    refine lv_iconst (v := 0) hx hb dX6_advance_29 (by decide) ?_
    obtain ⟨rfl, rfl⟩ := sm_inj h
    exact r_zret hc hr (Or.inl rfl) hw dX6_advance_30
set_option maxRecDepth 20000 in
theorem w_X6_advance_4 {p : Program} {l : Launch} {e : Env} {s : State} {m : MethodId} {args : Array Value} {below : List Frame} {meth : Method} {c : Code} {X : Wx} {r : Int32} {S' : Mm} (hc : Cx p s m args meth c X cX6_advance 6 RX6) (hr : meth.sig.returnType = (some .boolean)) {a0 : Nat} (ha0 : KK a0 = 9)  : ∀ (n : Nat), ∀ (x1 : Int32) (x2 : Int32) (S : Mm) (H : Heap) (locs : List Loc) (ls : Array Slot), Wd X s.heap S H locs → lv_has ls 6 [(0, .ref (X.1 + a0)), (1, .int x1), (2, .int x2)] → f_X6_advance_4 a0 n x1 x2 S = some (r, S') → W p l e rm_X6_advance s m args below meth c H locs 0 0 (MQ below (Qq X (some (.int r)) S') args s 0 0 (AA X.1)) (F0 m 4 ls []) := by
  have hx := hc.1
  have hb := hc.2.1
  intro n
  induction n with
  | zero => intro x1 x2 S H locs ls hw hl h; cases h
  | succ n ih =>
    intro x1 x2 S H locs ls hw hl h
    rw [f_X6_advance_4] at h
    refine lv_iload_n hx hb dX6_advance_4 rfl (lv_at hl 2 rfl) ?_
    refine lv_if_lt (tgt := 25) hx hb dX6_advance_5 (by decide) (fun c1 => ?_) (fun c1 => ?_)
    · have h := ifT c1 h
      exact w_X6_advance_25 hc hr ha0 x1 x2 S _ _ _ hw (lv_sub hl [0, 1, 2] rfl) h
    · have h := ifF c1 h
      refine lv_aload_n hx hb dX6_advance_8 rfl (lv_at hl 0 rfl) ?_
      refine lv_iload_n hx hb dX6_advance_9 rfl (lv_at hl 2 rfl) ?_
      obtain ⟨b2, h⟩ := bnd_some h
      refine r_iald hc hw ha0 (inL b2 rfl) dX6_advance_10 ?_
      refine lv_aload_n hx hb dX6_advance_11 rfl (lv_at hl 0 rfl) ?_
      refine lv_iload_n hx hb dX6_advance_12 rfl (lv_at hl 2 rfl) ?_
      refine lv_iconst (v := 1) hx hb dX6_advance_13 (by decide) ?_
      refine lv_iadd hx hb dX6_advance_14 ?_
      obtain ⟨b3, h⟩ := bnd_some h
      refine r_iald hc hw ha0 (inL b3 rfl) dX6_advance_15 ?_
      refine lv_icmp_le (tgt := 25) hx hb dX6_advance_16 (by decide) (fun c4 => ?_) (fun c4 => ?_)
      · have h := ifT c4 h
        exact w_X6_advance_25 hc hr ha0 x1 x2 S _ _ _ hw (lv_sub hl [0, 1, 2] rfl) h
      · have h := ifF c4 h
        obtain ⟨v5, e6, h⟩ := nm_some h
        refine lv_iinc (v := v5) (lv' := [(2, .int v5), (0, .ref (X.1 + a0)), (1, .int x1)]) hx hb dX6_advance_19 hl (k := 2) rfl (by rw [e6]; rfl) (by decide) rfl (fun ls hl => ?_)
        refine lv_goto (tgt := 4) hx hb dX6_advance_22 (by decide) ?_
        exact ih x1 v5 S _ _ _ hw (lv_sub hl [1, 2, 0] rfl) h
set_option maxRecDepth 20000 in
theorem c_X6_advance (l : Launch) (X : Wx) {S S' : Mm} {r : Int32} {a0 : Nat} {x1 : Int32} (ha0 : KK a0 = 9) (h : f_X6_advance S a0 x1 = some (r, S')) : Ct l X yX6_advance cX6_advance 6 (some .boolean) rm_X6_advance [.ref (X.1 + a0), .int x1] S (some (.int r)) S' := by
  refine r_entry (by decide) (Nat.le_of_ble_eq_true rfl) ?_
  intro p e s m args below meth c ls hc hr hw hl
  have hc : Cx p s m args meth c X cX6_advance 6 RX6 := hc
  have hl : lv_has ls 6 [(0, .ref (X.1 + a0)), (1, .int x1)] := hl
  have hx := hc.1
  have hb := hc.2.1
  unfold f_X6_advance at h
  refine lv_iload_n hx hb dX6_advance_0 rfl (lv_at hl 1 rfl) ?_
  refine lv_iconst (v := 2) hx hb dX6_advance_1 (by decide) ?_
  refine lv_isub hx hb dX6_advance_2 ?_
  obtain ⟨v1, e2, h⟩ := nm_some h
  refine r_top e2 ?_
  refine lv_istore_n (lv' := [(2, .int v1), (0, .ref (X.1 + a0)), (1, .int x1)]) hx hb dX6_advance_3 rfl hl (by decide) rfl (fun ls hl => ?_)
  exact w_X6_advance_4 hc hr ha0 400 x1 v1 S _ _ _ hw (lv_sub hl [1, 2, 0] rfl) h
abbrev rm_X6_isImage : Room := { frames := 0, cells := 0, slots := 0, locals := 0 }
theorem ms_X6_isImage : MsS yX6_isImage cX6_isImage 1 (some .boolean) 1 := ⟨⟨q3_97, q1_1, by decide, by decide, by decide⟩, q3_96⟩
set_option maxRecDepth 20000 in
theorem c_X6_isImage (l : Launch) (X : Wx) {S S' : Mm} {r : Int32} {x0 : Int32}  (h : f_X6_isImage S x0 = some (r, S')) : Ct l X yX6_isImage cX6_isImage 1 (some .boolean) rm_X6_isImage [.int x0] S (some (.int r)) S' := by
  refine r_entry (by decide) (Nat.le_of_ble_eq_true rfl) ?_
  intro p e s m args below meth c ls hc hr hw hl
  have hc : Cx p s m args meth c X cX6_isImage 1 RX6 := hc
  have hl : lv_has ls 1 [(0, .int x0)] := hl
  have hx := hc.1
  have hb := hc.2.1
  unfold f_X6_isImage at h
  refine lv_iload_n hx hb dX6_isImage_0 rfl (lv_at hl 0 rfl) ?_
  refine lv_if_lt (tgt := 13) hx hb dX6_isImage_1 (by decide) (fun c1 => ?_) (fun c1 => ?_)
  · have h := ifT c1 h
    refine lv_iconst (v := 0) hx hb dX6_isImage_13 (by decide) ?_
    obtain ⟨rfl, rfl⟩ := sm_inj h
    exact r_zret hc hr (Or.inl rfl) hw dX6_isImage_14
  · have h := ifF c1 h
    refine lv_iload_n hx hb dX6_isImage_4 rfl (lv_at hl 0 rfl) ?_
    refine lv_iconst (v := 2) hx hb dX6_isImage_5 (by decide) ?_
    refine lv_icmp_ge (tgt := 13) hx hb dX6_isImage_6 (by decide) (fun c2 => ?_) (fun c2 => ?_)
    · have h := ifT c2 h
      refine lv_iconst (v := 0) hx hb dX6_isImage_13 (by decide) ?_
      obtain ⟨rfl, rfl⟩ := sm_inj h
      exact r_zret hc hr (Or.inl rfl) hw dX6_isImage_14
    · have h := ifF c2 h
      refine lv_iconst (v := 1) hx hb dX6_isImage_9 (by decide) ?_
      refine lv_goto (tgt := 14) hx hb dX6_isImage_10 (by decide) ?_
      obtain ⟨rfl, rfl⟩ := sm_inj h
      exact r_zret hc hr (Or.inr rfl) hw dX6_isImage_14
abbrev rm_X6_back : Room := { frames := 3, cells := 0, slots := 0, locals := 83 }
theorem ms_X6_back : MsV yX6_back cX6_back 2 (some .int) 1 := ⟨⟨q3_105, q1_1, by decide, by decide, by decide⟩, q3_103, q3_104⟩
set_option maxRecDepth 20000 in
theorem c_X6_back (l : Launch) (X : Wx) {S S' : Mm} {r : Int32} {x1 : Int32}  (h : f_X6_back S x1 = some (r, S')) : Ct l X yX6_back cX6_back 2 (some .int) rm_X6_back [.ref (X.1 + 0), .int x1] S (some (.int r)) S' := by
  refine r_entry (by decide) (Nat.le_of_ble_eq_true rfl) ?_
  intro p e s m args below meth c ls hc hr hw hl
  have hc : Cx p s m args meth c X cX6_back 2 RX6 := hc
  have hl : lv_has ls 2 [(0, .ref (X.1 + 0)), (1, .int x1)] := hl
  have hx := hc.1
  have hb := hc.2.1
  unfold f_X6_back at h
  refine lv_iload_n hx hb dX6_back_0 rfl (lv_at hl 1 rfl) ?_
  obtain ⟨r1, S2, h3, h⟩ := bd_some h
  refine r_callSi hc hw hl.1 (As := [.int x1]) (rest := []) (c_X6_isImage l X  h3) ms_X6_isImage q3_95 rfl rfl ⟨rfl, rfl, Nat.le_of_ble_eq_true rfl, Nat.le_of_ble_eq_true rfl⟩ (Nat.le_of_ble_eq_true rfl) ⟨Nat.zero_le _, Nat.zero_le _⟩ dX6_back_1 (fun H locs hw => ?_)
  refine lv_if_ne (tgt := 9) hx hb dX6_back_4 (by decide) (fun c4 => ?_) (fun c4 => ?_)
  · have h := ifF c4 h
    refine lv_aload_n hx hb dX6_back_9 rfl (lv_at hl 0 rfl) ?_
    refine r_get6 hc hw k0 5 (by decide) (v := .ref (X.1 + 154)) rfl q1_222 dX6_back_10 ?_
    refine lv_iload_n hx hb dX6_back_13 rfl (lv_at hl 1 rfl) ?_
    obtain ⟨b5, h⟩ := bnd_some h
    refine r_zald hc hw k154 (inL b5 l154) dX6_back_14 ?_
    refine lv_if_ne (tgt := 21) hx hb dX6_back_15 (by decide) (fun c6 => ?_) (fun c6 => ?_)
    · have h := ifF c6 h
      refine lv_aload_n hx hb dX6_back_21 rfl (lv_at hl 0 rfl) ?_
      refine r_get6 hc hw k0 3 (by decide) (v := .ref (X.1 + 15)) rfl q1_220 dX6_back_22 ?_
      refine lv_aload_n hx hb dX6_back_25 rfl (lv_at hl 0 rfl) ?_
      refine r_get6 hc hw k0 4 (by decide) (v := .ref (X.1 + 61)) rfl q1_221 dX6_back_26 ?_
      refine lv_iload_n hx hb dX6_back_29 rfl (lv_at hl 1 rfl) ?_
      obtain ⟨b7, h⟩ := bnd_some h
      refine r_aaldP hc hw k61 (inL b7 l61) dX6_back_30 ?_
      have kq8 := kel_P k61 b7
      obtain ⟨r9, S10, h11, h⟩ := bd_some h
      refine r_callV3v hc hw hl.1 (As := [.ref (X.1 + (61 + 1 + 46 * x1.toNatClampNeg))]) (rest := []) k15 (c_X3_become l X k15 kq8 h11) ms_X3_become rfl q3_98 rfl rfl ⟨rfl, rfl, Nat.le_of_ble_eq_true rfl, Nat.le_of_ble_eq_true rfl⟩ (Nat.le_of_ble_eq_true rfl) ⟨Nat.zero_le _, Nat.zero_le _⟩ dX6_back_31 (fun H locs hw => ?_)
      refine lv_aload_n hx hb dX6_back_34 rfl (lv_at hl 0 rfl) ?_
      refine r_get6 hc hw k0 3 (by decide) (v := .ref (X.1 + 15)) rfl q1_220 dX6_back_35 ?_
      refine r_get3 hc hw k15 0 (by decide) (v := .ref (X.1 + 16)) rfl q1_154 dX6_back_38 ?_
      refine r_get1 hc hw k16 4 (by decide) (v := .int (gI S10 16 4)) rfl q1_128 dX6_back_41 ?_
      obtain ⟨rfl, rfl⟩ := sm_inj h
      exact r_iret hc hr hw dX6_back_44
    · have h := ifT c6 h
      refine lv_bipush (v := (-2)) hx hb dX6_back_18 (by decide) ?_
      obtain ⟨rfl, rfl⟩ := sm_inj h
      exact r_iret hc hr hw dX6_back_20
  · have h := ifT c4 h
    refine lv_iconst (v := (-1)) hx hb dX6_back_7 (by decide) ?_
    obtain ⟨rfl, rfl⟩ := sm_inj h
    exact r_iret hc hr hw dX6_back_8
abbrev rm_X6_bestLooks : Room := { frames := 2, cells := 0, slots := 0, locals := 49 }
theorem ms_X6_bestLooks : MsV yX6_bestLooks cX6_bestLooks 5 (some .int) 0 := ⟨⟨q2_231, q1_1, by decide, by decide, by decide⟩, q2_229, q2_230⟩
set_option maxRecDepth 20000 in
theorem w_X6_bestLooks_9 {p : Program} {l : Launch} {e : Env} {s : State} {m : MethodId} {args : Array Value} {below : List Frame} {meth : Method} {c : Code} {X : Wx} {r : Int32} {S' : Mm} (hc : Cx p s m args meth c X cX6_bestLooks 5 RX6) (hr : meth.sig.returnType = (some .int))   : ∀ (n : Nat), ∀ (x1 : Int32) (x2 : Int64) (x4 : Int32) (S : Mm) (H : Heap) (locs : List Loc) (ls : Array Slot), Wd X s.heap S H locs → lv_has ls 5 [(0, .ref (X.1 + 0)), (1, .int x1), (2, .long x2), (4, .int x4)] → f_X6_bestLooks_9 n x1 x2 x4 S = some (r, S') → W p l e rm_X6_bestLooks s m args below meth c H locs 0 0 (MQ below (Qq X (some (.int r)) S') args s 0 0 (AA X.1)) (F0 m 9 ls []) := by
  have hx := hc.1
  have hb := hc.2.1
  intro n
  induction n with
  | zero => intro x1 x2 x4 S H locs ls hw hl h; cases h
  | succ n ih =>
    intro x1 x2 x4 S H locs ls hw hl h
    rw [f_X6_bestLooks_9] at h
    refine lv_iload hx hb dX6_bestLooks_9 (lv_at hl 3 rfl) ?_
    refine lv_iconst (v := 1) hx hb dX6_bestLooks_11 (by decide) ?_
    refine lv_aload_n hx hb dX6_bestLooks_12 rfl (lv_at hl 0 rfl) ?_
    refine r_get6 hc hw k0 1 (by decide) (v := .ref (X.1 + (pl S))) rfl q1_218 dX6_bestLooks_13 ?_
    have kq1 := hw.2.2.1
    refine r_get4 hc hw kq1 0 (by decide) (v := .int (gI S (pl S) 0)) rfl q1_61 dX6_bestLooks_16 ?_
    refine lv_ishl hx hb dX6_bestLooks_19 ?_
    refine lv_icmp_ge (tgt := 82) hx hb dX6_bestLooks_20 (by decide) (fun c2 => ?_) (fun c2 => ?_)
    · have h := ifT c2 h
      refine lv_iload_n hx hb dX6_bestLooks_82 rfl (lv_at hl 1 rfl) ?_
      obtain ⟨rfl, rfl⟩ := sm_inj h
      exact r_iret hc hr hw dX6_bestLooks_83
    · have h := ifF c2 h
      refine lv_aload_n hx hb dX6_bestLooks_23 rfl (lv_at hl 0 rfl) ?_
      refine r_get6 hc hw k0 10 (by decide) (v := .ref (X.1 + 158)) rfl q1_227 dX6_bestLooks_24 ?_
      refine lv_aload_n hx hb dX6_bestLooks_27 rfl (lv_at hl 0 rfl) ?_
      refine r_get6 hc hw k0 1 (by decide) (v := .ref (X.1 + (pl S))) rfl q1_218 dX6_bestLooks_28 ?_
      have kq3 := hw.2.2.1
      refine lv_aload_n hx hb dX6_bestLooks_31 rfl (lv_at hl 0 rfl) ?_
      refine r_get6 hc hw k0 3 (by decide) (v := .ref (X.1 + 15)) rfl q1_220 dX6_bestLooks_32 ?_
      refine r_get3 hc hw k15 0 (by decide) (v := .ref (X.1 + 16)) rfl q1_154 dX6_bestLooks_35 ?_
      refine lv_aload_n hx hb dX6_bestLooks_38 rfl (lv_at hl 0 rfl) ?_
      refine r_get6 hc hw k0 3 (by decide) (v := .ref (X.1 + 15)) rfl q1_220 dX6_bestLooks_39 ?_
      refine r_get3 hc hw k15 0 (by decide) (v := .ref (X.1 + 16)) rfl q1_154 dX6_bestLooks_42 ?_
      refine r_get1 hc hw k16 0 (by decide) (v := .ref (X.1 + 17)) rfl q1_117 dX6_bestLooks_45 ?_
      refine lv_iload hx hb dX6_bestLooks_48 (lv_at hl 3 rfl) ?_
      obtain ⟨r4, S5, h6, h⟩ := bd_some h
      refine r_callV0v hc hw hl.1 (As := [.ref (X.1 + (pl S)), .ref (X.1 + 16), .ref (X.1 + 17), .int x4]) (rest := []) k158 (c_X0_through l X kq3 k16 k17 h6) ms_X0_through rfl q2_194 rfl rfl ⟨rfl, rfl, Nat.le_of_ble_eq_true rfl, Nat.le_of_ble_eq_true rfl⟩ (Nat.le_of_ble_eq_true rfl) ⟨Nat.zero_le _, Nat.zero_le _⟩ dX6_bestLooks_50 (fun H locs hw => ?_)
      refine lv_aload_n hx hb dX6_bestLooks_53 rfl (lv_at hl 0 rfl) ?_
      refine r_get6 hc hw k0 10 (by decide) (v := .ref (X.1 + 158)) rfl q1_227 dX6_bestLooks_54 ?_
      refine r_get0 hc hw k158 2 (by decide) (v := .long (gJ S5 158 2)) rfl q1_200 dX6_bestLooks_57 ?_
      refine lv_lload_n hx hb dX6_bestLooks_60 rfl (lv_at hl 2 rfl) ?_
      refine W.lcmp hx hb dX6_bestLooks_61 ?_
      refine lv_if_ge (tgt := 76) hx hb dX6_bestLooks_62 (by decide) (fun c7 => ?_) (fun c7 => ?_)
      · have h := ifT c7 h
        obtain ⟨v8, e9, h⟩ := nm_some h
        refine lv_iinc (v := v8) (lv' := [(4, .int v8), (0, .ref (X.1 + 0)), (1, .int x1), (2, .long x2)]) hx hb dX6_bestLooks_76 hl (k := 3) rfl (by rw [e9]; rfl) (by decide) rfl (fun ls hl => ?_)
        refine lv_goto (tgt := 9) hx hb dX6_bestLooks_79 (by decide) ?_
        exact ih x1 x2 v8 S5 _ _ _ hw (lv_sub hl [1, 2, 3, 0] rfl) h
      · have h := ifF c7 h
        refine lv_aload_n hx hb dX6_bestLooks_65 rfl (lv_at hl 0 rfl) ?_
        refine r_get6 hc hw k0 10 (by decide) (v := .ref (X.1 + 158)) rfl q1_227 dX6_bestLooks_66 ?_
        refine r_get0 hc hw k158 2 (by decide) (v := .long (gJ S5 158 2)) rfl q1_200 dX6_bestLooks_69 ?_
        obtain ⟨v10, e11, h⟩ := nm_some h
        refine r_topl e11 ?_
        refine lv_lstore_n (lv' := [(2, .long v10), (0, .ref (X.1 + 0)), (1, .int x1), (4, .int x4)]) hx hb dX6_bestLooks_72 rfl hl (by decide) rfl (fun ls hl => ?_)
        refine lv_iload hx hb dX6_bestLooks_73 (lv_at hl 3 rfl) ?_
        refine lv_istore_n (lv' := [(1, .int x4), (2, .long v10), (0, .ref (X.1 + 0)), (4, .int x4)]) hx hb dX6_bestLooks_75 rfl hl (by decide) rfl (fun ls hl => ?_)
        obtain ⟨v12, e13, h⟩ := nm_some h
        refine lv_iinc (v := v12) (lv' := [(4, .int v12), (1, .int x4), (2, .long v10), (0, .ref (X.1 + 0))]) hx hb dX6_bestLooks_76 hl (k := 3) rfl (by rw [e13]; rfl) (by decide) rfl (fun ls hl => ?_)
        refine lv_goto (tgt := 9) hx hb dX6_bestLooks_79 (by decide) ?_
        exact ih x4 v10 v12 S5 _ _ _ hw (lv_sub hl [3, 1, 2, 0] rfl) h
set_option maxRecDepth 20000 in
theorem c_X6_bestLooks (l : Launch) (X : Wx) {S S' : Mm} {r : Int32}   (h : f_X6_bestLooks S = some (r, S')) : Ct l X yX6_bestLooks cX6_bestLooks 5 (some .int) rm_X6_bestLooks [.ref (X.1 + 0)] S (some (.int r)) S' := by
  refine r_entry (by decide) (Nat.le_of_ble_eq_true rfl) ?_
  intro p e s m args below meth c ls hc hr hw hl
  have hc : Cx p s m args meth c X cX6_bestLooks 5 RX6 := hc
  have hl : lv_has ls 5 [(0, .ref (X.1 + 0))] := hl
  have hx := hc.1
  have hb := hc.2.1
  unfold f_X6_bestLooks at h
  refine lv_iconst (v := 0) hx hb dX6_bestLooks_0 (by decide) ?_
  refine lv_istore_n (lv' := [(1, .int 0), (0, .ref (X.1 + 0))]) hx hb dX6_bestLooks_1 rfl hl (by decide) rfl (fun ls hl => ?_)
  refine lv_ldc2 hx hb hc.2.2.2.1 (hc.2.2.2.2.1 _ q2_232) dX6_bestLooks_2 ?_
  refine lv_lstore_n (lv' := [(2, .long 10000000000000), (1, .int 0), (0, .ref (X.1 + 0))]) hx hb dX6_bestLooks_5 rfl hl (by decide) rfl (fun ls hl => ?_)
  refine lv_iconst (v := 0) hx hb dX6_bestLooks_6 (by decide) ?_
  refine lv_istore (lv' := [(4, .int 0), (2, .long 10000000000000), (1, .int 0), (0, .ref (X.1 + 0))]) hx hb dX6_bestLooks_7 hl (by decide) rfl (fun ls hl => ?_)
  exact w_X6_bestLooks_9 hc hr 400 0 10000000000000 0 S _ _ _ hw (lv_sub hl [3, 2, 1, 0] rfl) h
abbrev rm_X6_isStep : Room := { frames := 0, cells := 0, slots := 0, locals := 0 }
theorem ms_X6_isStep : MsV yX6_isStep cX6_isStep 2 (some .boolean) 1 := ⟨⟨q2_97, q1_1, by decide, by decide, by decide⟩, q2_96, qs_8⟩
set_option maxRecDepth 20000 in
theorem c_X6_isStep (l : Launch) (X : Wx) {S S' : Mm} {r : Int32} {x1 : Int32}  (h : f_X6_isStep S x1 = some (r, S')) : Ct l X yX6_isStep cX6_isStep 2 (some .boolean) rm_X6_isStep [.ref (X.1 + 0), .int x1] S (some (.int r)) S' := by
  refine r_entry (by decide) (Nat.le_of_ble_eq_true rfl) ?_
  intro p e s m args below meth c ls hc hr hw hl
  have hc : Cx p s m args meth c X cX6_isStep 2 RX6 := hc
  have hl : lv_has ls 2 [(0, .ref (X.1 + 0)), (1, .int x1)] := hl
  have hx := hc.1
  have hb := hc.2.1
  unfold f_X6_isStep at h
  refine lv_iload_n hx hb dX6_isStep_0 rfl (lv_at hl 1 rfl) ?_
  refine lv_if_lt (tgt := 19) hx hb dX6_isStep_1 (by decide) (fun c1 => ?_) (fun c1 => ?_)
  · have h := ifT c1 h
    refine lv_iconst (v := 0) hx hb dX6_isStep_19 (by decide) ?_
    obtain ⟨rfl, rfl⟩ := sm_inj h
    exact r_zret hc hr (Or.inl rfl) hw dX6_isStep_20
  · have h := ifF c1 h
    refine lv_iload_n hx hb dX6_isStep_4 rfl (lv_at hl 1 rfl) ?_
    refine lv_aload_n hx hb dX6_isStep_5 rfl (lv_at hl 0 rfl) ?_
    refine r_get6 hc hw k0 1 (by decide) (v := .ref (X.1 + (pl S))) rfl q1_218 dX6_isStep_6 ?_
    have kq2 := hw.2.2.1
    refine r_get4 hc hw kq2 0 (by decide) (v := .int (gI S (pl S) 0)) rfl q1_61 dX6_isStep_9 ?_
    refine lv_icmp_ge (tgt := 19) hx hb dX6_isStep_12 (by decide) (fun c3 => ?_) (fun c3 => ?_)
    · have h := ifT c3 h
      refine lv_iconst (v := 0) hx hb dX6_isStep_19 (by decide) ?_
      obtain ⟨rfl, rfl⟩ := sm_inj h
      exact r_zret hc hr (Or.inl rfl) hw dX6_isStep_20
    · have h := ifF c3 h
      refine lv_iconst (v := 1) hx hb dX6_isStep_15 (by decide) ?_
      refine lv_goto (tgt := 20) hx hb dX6_isStep_16 (by decide) ?_
      obtain ⟨rfl, rfl⟩ := sm_inj h
      exact r_zret hc hr (Or.inr rfl) hw dX6_isStep_20
abbrev rm_X6_findLeastOrder : Room := { frames := 2, cells := 0, slots := 0, locals := 49 }
theorem ms_X6_findLeastOrder : MsV yX6_findLeastOrder cX6_findLeastOrder 4 none 0 := ⟨⟨q3_0, q1_1, by decide, by decide, by decide⟩, q2_239, qs_13⟩
set_option maxRecDepth 20000 in
theorem w_X6_findLeastOrder_124 {p : Program} {l : Launch} {e : Env} {s : State} {m : MethodId} {args : Array Value} {below : List Frame} {meth : Method} {c : Code} {X : Wx} {r : Unit} {S' : Mm} (hc : Cx p s m args meth c X cX6_findLeastOrder 4 RX6) (hr : meth.sig.returnType = none)  {kk32 : Int64 → Int32 → Mm → Option (Unit × Mm)} (hk32 : ∀ (x1 : Int64) (x3 : Int32) (S : Mm) (H : Heap) (locs : List Loc) (ls : Array Slot), Wd X s.heap S H locs → lv_has ls 4 [(0, .ref (X.1 + 0)), (1, .long x1), (3, .int x3)] → kk32 x1 x3 S = some (r, S') → W p l e rm_X6_findLeastOrder s m args below meth c H locs 0 0 (MQ below (Qq X none S') args s 0 0 (AA X.1)) (F0 m 32 ls [])) : ∀ (x1 : Int64) (x3 : Int32) (S : Mm) (H : Heap) (locs : List Loc) (ls : Array Slot), Wd X s.heap S H locs → lv_has ls 4 [(0, .ref (X.1 + 0)), (1, .long x1), (3, .int x3)] → f_X6_findLeastOrder_124 kk32 x1 x3 S = some (r, S') → W p l e rm_X6_findLeastOrder s m args below meth c H locs 0 0 (MQ below (Qq X none S') args s 0 0 (AA X.1)) (F0 m 124 ls []) := by
  have hx := hc.1
  have hb := hc.2.1
  intro x1 x3 S H locs ls hw hl h
  unfold f_X6_findLeastOrder_124 at h
  refine lv_aload_n hx hb dX6_findLeastOrder_124 rfl (lv_at hl 0 rfl) ?_
  refine r_get6 hc hw k0 11 (by decide) (v := .ref (X.1 + 161)) rfl q1_228 dX6_findLeastOrder_125 ?_
  refine lv_aload_n hx hb dX6_findLeastOrder_128 rfl (lv_at hl 0 rfl) ?_
  refine r_get6 hc hw k0 1 (by decide) (v := .ref (X.1 + (pl S))) rfl q1_218 dX6_findLeastOrder_129 ?_
  have kq1 := hw.2.2.1
  refine r_get4 hc hw kq1 0 (by decide) (v := .int (gI S (pl S) 0)) rfl q1_61 dX6_findLeastOrder_132 ?_
  obtain ⟨r2, S3, h4, h⟩ := bd_some h
  refine r_callSi hc hw hl.1 (As := [.ref (X.1 + 161), .int (gI S (pl S) 0)]) (rest := []) (c_X6_advance l X k161 h4) ms_X6_advance q3_6 rfl rfl ⟨rfl, rfl, Nat.le_of_ble_eq_true rfl, Nat.le_of_ble_eq_true rfl⟩ (Nat.le_of_ble_eq_true rfl) ⟨Nat.zero_le _, Nat.zero_le _⟩ dX6_findLeastOrder_135 (fun H locs hw => ?_)
  refine lv_if_ne (tgt := 144) hx hb dX6_findLeastOrder_138 (by decide) (fun c5 => ?_) (fun c5 => ?_)
  · have h := ifF c5 h
    obtain ⟨v6, e7, h⟩ := nm_some h
    refine lv_iinc (v := v6) (lv' := [(3, .int v6), (0, .ref (X.1 + 0)), (1, .long x1)]) hx hb dX6_findLeastOrder_144 hl (k := 2) rfl (by rw [e7]; rfl) (by decide) rfl (fun ls hl => ?_)
    refine lv_goto (tgt := 32) hx hb dX6_findLeastOrder_147 (by decide) ?_
    exact hk32 x1 v6 S3 _ _ _ hw (lv_sub hl [1, 2, 0] rfl) h
  · have h := ifT c5 h
    refine lv_goto (tgt := 150) hx hb dX6_findLeastOrder_141 (by decide) ?_
    obtain ⟨rfl, rfl⟩ := sm_inj h
    exact r_vret hc hr hw dX6_findLeastOrder_150
set_option maxRecDepth 20000 in
theorem w_X6_findLeastOrder_32 {p : Program} {l : Launch} {e : Env} {s : State} {m : MethodId} {args : Array Value} {below : List Frame} {meth : Method} {c : Code} {X : Wx} {r : Unit} {S' : Mm} (hc : Cx p s m args meth c X cX6_findLeastOrder 4 RX6) (hr : meth.sig.returnType = none)   : ∀ (n : Nat), ∀ (x1 : Int64) (x3 : Int32) (S : Mm) (H : Heap) (locs : List Loc) (ls : Array Slot), Wd X s.heap S H locs → lv_has ls 4 [(0, .ref (X.1 + 0)), (1, .long x1), (3, .int x3)] → f_X6_findLeastOrder_32 n x1 x3 S = some (r, S') → W p l e rm_X6_findLeastOrder s m args below meth c H locs 0 0 (MQ below (Qq X none S') args s 0 0 (AA X.1)) (F0 m 32 ls []) := by
  have hx := hc.1
  have hb := hc.2.1
  intro n
  induction n with
  | zero => intro x1 x3 S H locs ls hw hl h; cases h
  | succ n ih =>
    intro x1 x3 S H locs ls hw hl h
    rw [f_X6_findLeastOrder_32] at h
    refine lv_iload_n hx hb dX6_findLeastOrder_32 rfl (lv_at hl 2 rfl) ?_
    refine lv_bipush (v := 120) hx hb dX6_findLeastOrder_33 (by decide) ?_
    refine lv_icmp_ge (tgt := 150) hx hb dX6_findLeastOrder_35 (by decide) (fun c1 => ?_) (fun c1 => ?_)
    · have h := ifT c1 h
      obtain ⟨rfl, rfl⟩ := sm_inj h
      exact r_vret hc hr hw dX6_findLeastOrder_150
    · have h := ifF c1 h
      refine lv_aload_n hx hb dX6_findLeastOrder_38 rfl (lv_at hl 0 rfl) ?_
      refine r_get6 hc hw k0 1 (by decide) (v := .ref (X.1 + (pl S))) rfl q1_218 dX6_findLeastOrder_39 ?_
      have kq2 := hw.2.2.1
      refine lv_aload_n hx hb dX6_findLeastOrder_42 rfl (lv_at hl 0 rfl) ?_
      refine r_get6 hc hw k0 11 (by decide) (v := .ref (X.1 + 161)) rfl q1_228 dX6_findLeastOrder_43 ?_
      obtain ⟨r3, S4, h5, h⟩ := bd_some h
      refine r_callV4i hc hw hl.1 (As := [.ref (X.1 + 161)]) (rest := []) kq2 (c_X4_allows l X kq2 k161 h5) ms_X4_allows rfl q3_1 rfl rfl ⟨rfl, rfl, Nat.le_of_ble_eq_true rfl, Nat.le_of_ble_eq_true rfl⟩ (Nat.le_of_ble_eq_true rfl) ⟨Nat.zero_le _, Nat.zero_le _⟩ dX6_findLeastOrder_46 (fun H locs hw => ?_)
      refine lv_if_eq (tgt := 124) hx hb dX6_findLeastOrder_49 (by decide) (fun c6 => ?_) (fun c6 => ?_)
      · have h := ifT c6 h
        exact w_X6_findLeastOrder_124 hc hr ih x1 x3 S4 _ _ _ hw (lv_sub hl [0, 1, 2] rfl) h
      · have h := ifF c6 h
        refine lv_aload_n hx hb dX6_findLeastOrder_52 rfl (lv_at hl 0 rfl) ?_
        refine r_get6 hc hw k0 10 (by decide) (v := .ref (X.1 + 158)) rfl q1_227 dX6_findLeastOrder_53 ?_
        refine lv_aload_n hx hb dX6_findLeastOrder_56 rfl (lv_at hl 0 rfl) ?_
        refine r_get6 hc hw k0 1 (by decide) (v := .ref (X.1 + (pl S4))) rfl q1_218 dX6_findLeastOrder_57 ?_
        have kq7 := hw.2.2.1
        refine lv_aload_n hx hb dX6_findLeastOrder_60 rfl (lv_at hl 0 rfl) ?_
        refine r_get6 hc hw k0 3 (by decide) (v := .ref (X.1 + 15)) rfl q1_220 dX6_findLeastOrder_61 ?_
        refine r_get3 hc hw k15 0 (by decide) (v := .ref (X.1 + 16)) rfl q1_154 dX6_findLeastOrder_64 ?_
        refine lv_aload_n hx hb dX6_findLeastOrder_67 rfl (lv_at hl 0 rfl) ?_
        refine r_get6 hc hw k0 11 (by decide) (v := .ref (X.1 + 161)) rfl q1_228 dX6_findLeastOrder_68 ?_
        refine lv_aload_n hx hb dX6_findLeastOrder_71 rfl (lv_at hl 0 rfl) ?_
        refine r_get6 hc hw k0 3 (by decide) (v := .ref (X.1 + 15)) rfl q1_220 dX6_findLeastOrder_72 ?_
        refine r_get3 hc hw k15 0 (by decide) (v := .ref (X.1 + 16)) rfl q1_154 dX6_findLeastOrder_75 ?_
        refine r_get1 hc hw k16 3 (by decide) (v := .int (gI S4 16 3)) rfl q1_126 dX6_findLeastOrder_78 ?_
        obtain ⟨r8, S9, h10, h⟩ := bd_some h
        refine r_callV0v hc hw hl.1 (As := [.ref (X.1 + (pl S4)), .ref (X.1 + 16), .ref (X.1 + 161), .int (gI S4 16 3)]) (rest := []) k158 (c_X0_through l X kq7 k16 k161 h10) ms_X0_through rfl q2_194 rfl rfl ⟨rfl, rfl, Nat.le_of_ble_eq_true rfl, Nat.le_of_ble_eq_true rfl⟩ (Nat.le_of_ble_eq_true rfl) ⟨Nat.zero_le _, Nat.zero_le _⟩ dX6_findLeastOrder_81 (fun H locs hw => ?_)
        refine lv_aload_n hx hb dX6_findLeastOrder_84 rfl (lv_at hl 0 rfl) ?_
        refine r_get6 hc hw k0 10 (by decide) (v := .ref (X.1 + 158)) rfl q1_227 dX6_findLeastOrder_85 ?_
        refine r_get0 hc hw k158 2 (by decide) (v := .long (gJ S9 158 2)) rfl q1_200 dX6_findLeastOrder_88 ?_
        refine lv_lload_n hx hb dX6_findLeastOrder_91 rfl (lv_at hl 1 rfl) ?_
        refine W.lcmp hx hb dX6_findLeastOrder_92 ?_
        refine lv_if_ge (tgt := 124) hx hb dX6_findLeastOrder_93 (by decide) (fun c11 => ?_) (fun c11 => ?_)
        · have h := ifT c11 h
          exact w_X6_findLeastOrder_124 hc hr ih x1 x3 S9 _ _ _ hw (lv_sub hl [0, 1, 2] rfl) h
        · have h := ifF c11 h
          refine lv_aload_n hx hb dX6_findLeastOrder_96 rfl (lv_at hl 0 rfl) ?_
          refine r_get6 hc hw k0 10 (by decide) (v := .ref (X.1 + 158)) rfl q1_227 dX6_findLeastOrder_97 ?_
          refine r_get0 hc hw k158 2 (by decide) (v := .long (gJ S9 158 2)) rfl q1_200 dX6_findLeastOrder_100 ?_
          obtain ⟨v12, e13, h⟩ := nm_some h
          refine r_topl e13 ?_
          refine lv_lstore_n (lv' := [(1, .long v12), (0, .ref (X.1 + 0)), (3, .int x3)]) hx hb dX6_findLeastOrder_103 rfl hl (by decide) rfl (fun ls hl => ?_)
          refine lv_aload_n hx hb dX6_findLeastOrder_104 rfl (lv_at hl 1 rfl) ?_
          refine r_get6 hc hw k0 11 (by decide) (v := .ref (X.1 + 161)) rfl q1_228 dX6_findLeastOrder_105 ?_
          refine lv_iconst (v := 0) hx hb dX6_findLeastOrder_108 (by decide) ?_
          refine lv_aload_n hx hb dX6_findLeastOrder_109 rfl (lv_at hl 1 rfl) ?_
          refine r_get6 hc hw k0 12 (by decide) (v := .ref (X.1 + 162)) rfl q1_229 dX6_findLeastOrder_110 ?_
          refine lv_iconst (v := 0) hx hb dX6_findLeastOrder_113 (by decide) ?_
          refine lv_aload_n hx hb dX6_findLeastOrder_114 rfl (lv_at hl 1 rfl) ?_
          refine r_get6 hc hw k0 1 (by decide) (v := .ref (X.1 + (pl S9))) rfl q1_218 dX6_findLeastOrder_115 ?_
          have kq14 := hw.2.2.1
          refine r_get4 hc hw kq14 0 (by decide) (v := .int (gI S9 (pl S9) 0)) rfl q1_61 dX6_findLeastOrder_118 ?_
          obtain ⟨b15, h⟩ := bnd_some h
          obtain ⟨S16, e17, h⟩ := nm_some h
          refine r_copy hc hw hl.1 k161 k162 b15 e17 q3_5 (Nat.le_of_ble_eq_true rfl) (Nat.le_of_ble_eq_true rfl) dX6_findLeastOrder_121 (fun H locs hw => ?_)
          exact w_X6_findLeastOrder_124 hc hr ih v12 x3 S16 _ _ _ hw (lv_sub hl [1, 0, 2] rfl) h
set_option maxRecDepth 20000 in
theorem w_X6_findLeastOrder_2 {p : Program} {l : Launch} {e : Env} {s : State} {m : MethodId} {args : Array Value} {below : List Frame} {meth : Method} {c : Code} {X : Wx} {r : Unit} {S' : Mm} (hc : Cx p s m args meth c X cX6_findLeastOrder 4 RX6) (hr : meth.sig.returnType = none)   : ∀ (n : Nat), ∀ (x1 : Int32) (S : Mm) (H : Heap) (locs : List Loc) (ls : Array Slot), Wd X s.heap S H locs → lv_has ls 4 [(0, .ref (X.1 + 0)), (1, .int x1)] → f_X6_findLeastOrder_2 n x1 S = some (r, S') → W p l e rm_X6_findLeastOrder s m args below meth c H locs 0 0 (MQ below (Qq X none S') args s 0 0 (AA X.1)) (F0 m 2 ls []) := by
  have hx := hc.1
  have hb := hc.2.1
  intro n
  induction n with
  | zero => intro x1 S H locs ls hw hl h; cases h
  | succ n ih =>
    intro x1 S H locs ls hw hl h
    rw [f_X6_findLeastOrder_2] at h
    refine lv_iload_n hx hb dX6_findLeastOrder_2 rfl (lv_at hl 1 rfl) ?_
    refine lv_aload_n hx hb dX6_findLeastOrder_3 rfl (lv_at hl 0 rfl) ?_
    refine r_get6 hc hw k0 1 (by decide) (v := .ref (X.1 + (pl S))) rfl q1_218 dX6_findLeastOrder_4 ?_
    have kq1 := hw.2.2.1
    refine r_get4 hc hw kq1 0 (by decide) (v := .int (gI S (pl S) 0)) rfl q1_61 dX6_findLeastOrder_7 ?_
    refine lv_icmp_ge (tgt := 26) hx hb dX6_findLeastOrder_10 (by decide) (fun c2 => ?_) (fun c2 => ?_)
    · have h := ifT c2 h
      refine lv_ldc2 hx hb hc.2.2.2.1 (hc.2.2.2.2.1 _ q2_232) dX6_findLeastOrder_26 ?_
      refine lv_lstore_n (lv' := [(1, .long 10000000000000), (0, .ref (X.1 + 0))]) hx hb dX6_findLeastOrder_29 rfl hl (by decide) rfl (fun ls hl => ?_)
      refine lv_iconst (v := 0) hx hb dX6_findLeastOrder_30 (by decide) ?_
      refine lv_istore_n (lv' := [(3, .int 0), (1, .long 10000000000000), (0, .ref (X.1 + 0))]) hx hb dX6_findLeastOrder_31 rfl hl (by decide) rfl (fun ls hl => ?_)
      exact w_X6_findLeastOrder_32 hc hr 400 10000000000000 0 S _ _ _ hw (lv_sub hl [2, 1, 0] rfl) h
    · have h := ifF c2 h
      refine lv_aload_n hx hb dX6_findLeastOrder_13 rfl (lv_at hl 0 rfl) ?_
      refine r_get6 hc hw k0 11 (by decide) (v := .ref (X.1 + 161)) rfl q1_228 dX6_findLeastOrder_14 ?_
      refine lv_iload_n hx hb dX6_findLeastOrder_17 rfl (lv_at hl 1 rfl) ?_
      refine lv_iload_n hx hb dX6_findLeastOrder_18 rfl (lv_at hl 1 rfl) ?_
      obtain ⟨b3, h⟩ := bnd_some h
      obtain ⟨S4, e5, h⟩ := nm_some h
      refine r_iast hc hw k161 (inL b3 l161) e5 dX6_findLeastOrder_19 (fun H locs hw => ?_)
      obtain ⟨v6, e7, h⟩ := nm_some h
      refine lv_iinc (v := v6) (lv' := [(1, .int v6), (0, .ref (X.1 + 0))]) hx hb dX6_findLeastOrder_20 hl (k := 1) rfl (by rw [e7]; rfl) (by decide) rfl (fun ls hl => ?_)
      refine lv_goto (tgt := 2) hx hb dX6_findLeastOrder_23 (by decide) ?_
      exact ih v6 S4 _ _ _ hw (lv_sub hl [1, 0] rfl) h
set_option maxRecDepth 20000 in
theorem c_X6_findLeastOrder (l : Launch) (X : Wx) {S S' : Mm} {r : Unit}   (h : f_X6_findLeastOrder S = some (r, S')) : Ct l X yX6_findLeastOrder cX6_findLeastOrder 4 none rm_X6_findLeastOrder [.ref (X.1 + 0)] S none S' := by
  refine r_entry (by decide) (Nat.le_of_ble_eq_true rfl) ?_
  intro p e s m args below meth c ls hc hr hw hl
  have hc : Cx p s m args meth c X cX6_findLeastOrder 4 RX6 := hc
  have hl : lv_has ls 4 [(0, .ref (X.1 + 0))] := hl
  have hx := hc.1
  have hb := hc.2.1
  unfold f_X6_findLeastOrder at h
  refine lv_iconst (v := 0) hx hb dX6_findLeastOrder_0 (by decide) ?_
  refine lv_istore_n (lv' := [(1, .int 0), (0, .ref (X.1 + 0))]) hx hb dX6_findLeastOrder_1 rfl hl (by decide) rfl (fun ls hl => ?_)
  exact w_X6_findLeastOrder_2 hc hr 400 0 S _ _ _ hw (lv_sub hl [1, 0] rfl) h
abbrev rm_X6_bestOrder : Room := { frames := 3, cells := 0, slots := 0, locals := 72 }
theorem ms_X6_bestOrder : MsV yX6_bestOrder cX6_bestOrder 2 (some .int) 1 := ⟨⟨q2_236, q1_1, by decide, by decide, by decide⟩, q2_234, q2_235⟩
set_option maxRecDepth 20000 in
theorem c_X6_bestOrder (l : Launch) (X : Wx) {S S' : Mm} {r : Int32} {x1 : Int32}  (h : f_X6_bestOrder S x1 = some (r, S')) : Ct l X yX6_bestOrder cX6_bestOrder 2 (some .int) rm_X6_bestOrder [.ref (X.1 + 0), .int x1] S (some (.int r)) S' := by
  refine r_entry (by decide) (Nat.le_of_ble_eq_true rfl) ?_
  intro p e s m args below meth c ls hc hr hw hl
  have hc : Cx p s m args meth c X cX6_bestOrder 2 RX6 := hc
  have hl : lv_has ls 2 [(0, .ref (X.1 + 0)), (1, .int x1)] := hl
  have hx := hc.1
  have hb := hc.2.1
  unfold f_X6_bestOrder at h
  refine lv_aload_n hx hb dX6_bestOrder_0 rfl (lv_at hl 0 rfl) ?_
  refine lv_iload_n hx hb dX6_bestOrder_1 rfl (lv_at hl 1 rfl) ?_
  obtain ⟨r1, S2, h3, h⟩ := bd_some h
  refine r_callV6i hc hw hl.1 (As := [.int x1]) (rest := []) k0 (c_X6_isStep l X  h3) ms_X6_isStep rfl q2_94 rfl rfl ⟨rfl, rfl, Nat.le_of_ble_eq_true rfl, Nat.le_of_ble_eq_true rfl⟩ (Nat.le_of_ble_eq_true rfl) ⟨Nat.zero_le _, Nat.zero_le _⟩ dX6_bestOrder_2 (fun H locs hw => ?_)
  refine lv_if_ne (tgt := 10) hx hb dX6_bestOrder_5 (by decide) (fun c4 => ?_) (fun c4 => ?_)
  · have h := ifF c4 h
    refine lv_aload_n hx hb dX6_bestOrder_10 rfl (lv_at hl 0 rfl) ?_
    obtain ⟨r5, S6, h7, h⟩ := bd_some h
    refine r_callV6v hc hw hl.1 (As := []) (rest := []) k0 (c_X6_findLeastOrder l X  h7) ms_X6_findLeastOrder rfl q2_237 rfl rfl ⟨rfl, rfl, Nat.le_of_ble_eq_true rfl, Nat.le_of_ble_eq_true rfl⟩ (Nat.le_of_ble_eq_true rfl) ⟨Nat.zero_le _, Nat.zero_le _⟩ dX6_bestOrder_11 (fun H locs hw => ?_)
    refine lv_aload_n hx hb dX6_bestOrder_14 rfl (lv_at hl 0 rfl) ?_
    refine r_get6 hc hw k0 12 (by decide) (v := .ref (X.1 + 162)) rfl q1_229 dX6_bestOrder_15 ?_
    refine lv_iload_n hx hb dX6_bestOrder_18 rfl (lv_at hl 1 rfl) ?_
    obtain ⟨b8, h⟩ := bnd_some h
    refine r_iald hc hw k162 (inL b8 l162) dX6_bestOrder_19 ?_
    obtain ⟨rfl, rfl⟩ := sm_inj h
    exact r_iret hc hr hw dX6_bestOrder_20
  · have h := ifT c4 h
    refine lv_iconst (v := (-1)) hx hb dX6_bestOrder_8 (by decide) ?_
    obtain ⟨rfl, rfl⟩ := sm_inj h
    exact r_iret hc hr hw dX6_bestOrder_9
abbrev rm_X6_isBit : Room := { frames := 0, cells := 0, slots := 0, locals := 0 }
theorem ms_X6_isBit : MsS yX6_isBit cX6_isBit 1 (some .boolean) 1 := ⟨⟨q2_154, q1_1, by decide, by decide, by decide⟩, q2_153⟩
set_option maxRecDepth 20000 in
theorem c_X6_isBit (l : Launch) (X : Wx) {S S' : Mm} {r : Int32} {x0 : Int32}  (h : f_X6_isBit S x0 = some (r, S')) : Ct l X yX6_isBit cX6_isBit 1 (some .boolean) rm_X6_isBit [.int x0] S (some (.int r)) S' := by
  refine r_entry (by decide) (Nat.le_of_ble_eq_true rfl) ?_
  intro p e s m args below meth c ls hc hr hw hl
  have hc : Cx p s m args meth c X cX6_isBit 1 RX6 := hc
  have hl : lv_has ls 1 [(0, .int x0)] := hl
  have hx := hc.1
  have hb := hc.2.1
  unfold f_X6_isBit at h
  refine lv_iload_n hx hb dX6_isBit_0 rfl (lv_at hl 0 rfl) ?_
  refine lv_if_eq (tgt := 9) hx hb dX6_isBit_1 (by decide) (fun c1 => ?_) (fun c1 => ?_)
  · have h := ifT c1 h
    refine lv_iconst (v := 1) hx hb dX6_isBit_9 (by decide) ?_
    refine lv_goto (tgt := 14) hx hb dX6_isBit_10 (by decide) ?_
    obtain ⟨rfl, rfl⟩ := sm_inj h
    exact r_zret hc hr (Or.inr rfl) hw dX6_isBit_14
  · have h := ifF c1 h
    refine lv_iload_n hx hb dX6_isBit_4 rfl (lv_at hl 0 rfl) ?_
    refine lv_iconst (v := 1) hx hb dX6_isBit_5 (by decide) ?_
    refine lv_icmp_ne (tgt := 13) hx hb dX6_isBit_6 (by decide) (fun c2 => ?_) (fun c2 => ?_)
    · have h := ifF c2 h
      refine lv_iconst (v := 0) hx hb dX6_isBit_13 (by decide) ?_
      obtain ⟨rfl, rfl⟩ := sm_inj h
      exact r_zret hc hr (Or.inl rfl) hw dX6_isBit_14
    · have h := ifT c2 h
      refine lv_iconst (v := 1) hx hb dX6_isBit_9 (by decide) ?_
      refine lv_goto (tgt := 14) hx hb dX6_isBit_10 (by decide) ?_
      obtain ⟨rfl, rfl⟩ := sm_inj h
      exact r_zret hc hr (Or.inr rfl) hw dX6_isBit_14
abbrev rm_X6_isFoundBehind : Room := { frames := 2, cells := 0, slots := 0, locals := 48 }
theorem ms_X6_isFoundBehind : MsV yX6_isFoundBehind cX6_isFoundBehind 3 (some .boolean) 1 := ⟨⟨q3_28, q1_1, by decide, by decide, by decide⟩, q3_27, qs_15⟩
set_option maxRecDepth 20000 in
theorem c_X6_isFoundBehind (l : Launch) (X : Wx) {S S' : Mm} {r : Int32} {x1 : Int32}  (h : f_X6_isFoundBehind S x1 = some (r, S')) : Ct l X yX6_isFoundBehind cX6_isFoundBehind 3 (some .boolean) rm_X6_isFoundBehind [.ref (X.1 + 0), .int x1] S (some (.int r)) S' := by
  refine r_entry (by decide) (Nat.le_of_ble_eq_true rfl) ?_
  intro p e s m args below meth c ls hc hr hw hl
  have hc : Cx p s m args meth c X cX6_isFoundBehind 3 RX6 := hc
  have hl : lv_has ls 3 [(0, .ref (X.1 + 0)), (1, .int x1)] := hl
  have hx := hc.1
  have hb := hc.2.1
  unfold f_X6_isFoundBehind at h
  refine lv_aload_n hx hb dX6_isFoundBehind_0 rfl (lv_at hl 0 rfl) ?_
  refine r_get6 hc hw k0 3 (by decide) (v := .ref (X.1 + 15)) rfl q1_220 dX6_isFoundBehind_1 ?_
  refine r_get3 hc hw k15 0 (by decide) (v := .ref (X.1 + 16)) rfl q1_154 dX6_isFoundBehind_4 ?_
  refine lv_astore_n (lv' := [(2, .ref (X.1 + 16)), (0, .ref (X.1 + 0)), (1, .int x1)]) hx hb dX6_isFoundBehind_7 rfl hl (by decide) rfl (fun ls hl => ?_)
  refine lv_aload_n hx hb dX6_isFoundBehind_8 rfl (lv_at hl 0 rfl) ?_
  refine r_get1 hc hw k16 3 (by decide) (v := .int (gI S 16 3)) rfl q1_126 dX6_isFoundBehind_9 ?_
  refine lv_aload_n hx hb dX6_isFoundBehind_12 rfl (lv_at hl 0 rfl) ?_
  refine r_get1 hc hw k16 0 (by decide) (v := .ref (X.1 + 17)) rfl q1_117 dX6_isFoundBehind_13 ?_
  refine lv_iload_n hx hb dX6_isFoundBehind_16 rfl (lv_at hl 2 rfl) ?_
  obtain ⟨b1, h⟩ := bnd_some h
  refine r_iald hc hw k17 (inL b1 l17) dX6_isFoundBehind_17 ?_
  refine lv_ishr hx hb dX6_isFoundBehind_18 ?_
  refine lv_iconst (v := 1) hx hb dX6_isFoundBehind_19 (by decide) ?_
  refine lv_iand hx hb dX6_isFoundBehind_20 ?_
  refine lv_if_ne (tgt := 26) hx hb dX6_isFoundBehind_21 (by decide) (fun c2 => ?_) (fun c2 => ?_)
  · have h := ifF c2 h
    refine lv_aload_n hx hb dX6_isFoundBehind_26 rfl (lv_at hl 1 rfl) ?_
    refine r_get6 hc hw k0 10 (by decide) (v := .ref (X.1 + 158)) rfl q1_227 dX6_isFoundBehind_27 ?_
    refine lv_iload_n hx hb dX6_isFoundBehind_30 rfl (lv_at hl 2 rfl) ?_
    refine lv_aload_n hx hb dX6_isFoundBehind_31 rfl (lv_at hl 1 rfl) ?_
    refine r_get6 hc hw k0 1 (by decide) (v := .ref (X.1 + (pl S))) rfl q1_218 dX6_isFoundBehind_32 ?_
    have kq3 := hw.2.2.1
    refine lv_aload_n hx hb dX6_isFoundBehind_35 rfl (lv_at hl 0 rfl) ?_
    obtain ⟨r4, S5, h6, h⟩ := bd_some h
    refine r_callV0v hc hw hl.1 (As := [.int x1, .ref (X.1 + (pl S)), .ref (X.1 + 16)]) (rest := []) k158 (c_X0_upTo l X kq3 k16 h6) ms_X0_upTo rfl q3_29 rfl rfl ⟨rfl, rfl, Nat.le_of_ble_eq_true rfl, Nat.le_of_ble_eq_true rfl⟩ (Nat.le_of_ble_eq_true rfl) ⟨Nat.zero_le _, Nat.zero_le _⟩ dX6_isFoundBehind_36 (fun H locs hw => ?_)
    refine lv_aload_n hx hb dX6_isFoundBehind_39 rfl (lv_at hl 1 rfl) ?_
    refine r_get6 hc hw k0 10 (by decide) (v := .ref (X.1 + 158)) rfl q1_227 dX6_isFoundBehind_40 ?_
    refine r_get0 hc hw k158 1 (by decide) (v := .long (gJ S5 158 1)) rfl q1_198 dX6_isFoundBehind_43 ?_
    refine lv_lconst (v := 0) hx hb dX6_isFoundBehind_46 (by decide) ?_
    refine W.lcmp hx hb dX6_isFoundBehind_47 ?_
    refine lv_if_le (tgt := 55) hx hb dX6_isFoundBehind_48 (by decide) (fun c7 => ?_) (fun c7 => ?_)
    · have h := ifT c7 h
      refine lv_iconst (v := 0) hx hb dX6_isFoundBehind_55 (by decide) ?_
      obtain ⟨rfl, rfl⟩ := sm_inj h
      exact r_zret hc hr (Or.inl rfl) hw dX6_isFoundBehind_56
    · have h := ifF c7 h
      refine lv_iconst (v := 1) hx hb dX6_isFoundBehind_51 (by decide) ?_
      refine lv_goto (tgt := 56) hx hb dX6_isFoundBehind_52 (by decide) ?_
      obtain ⟨rfl, rfl⟩ := sm_inj h
      exact r_zret hc hr (Or.inr rfl) hw dX6_isFoundBehind_56
  · have h := ifT c2 h
    refine lv_iconst (v := 0) hx hb dX6_isFoundBehind_24 (by decide) ?_
    obtain ⟨rfl, rfl⟩ := sm_inj h
    exact r_zret hc hr (Or.inl rfl) hw dX6_isFoundBehind_25
abbrev rm_X6_commonDivisor : Room := { frames := 0, cells := 0, slots := 0, locals := 0 }
theorem ms_X6_commonDivisor : MsS yX6_commonDivisor cX6_commonDivisor 11 (some .long) 2 := ⟨⟨q2_218, q1_1, by decide, by decide, by decide⟩, q2_217⟩
set_option maxRecDepth 20000 in
theorem w_X6_commonDivisor_9 {p : Program} {l : Launch} {e : Env} {s : State} {m : MethodId} {args : Array Value} {below : List Frame} {meth : Method} {c : Code} {X : Wx} {r : Int64} {S' : Mm} (hc : Cx p s m args meth c X cX6_commonDivisor 11 RX6) (hr : meth.sig.returnType = (some .long))   : ∀ (n : Nat), ∀ (x4 : Int64) (x6 : Int64) (x8 : Int32) (S : Mm) (H : Heap) (locs : List Loc) (ls : Array Slot), Wd X s.heap S H locs → lv_has ls 11 [(4, .long x4), (6, .long x6), (8, .int x8)] → f_X6_commonDivisor_9 n x4 x6 x8 S = some (r, S') → W p l e rm_X6_commonDivisor s m args below meth c H locs 0 0 (MQ below (Qq X (some (.long r)) S') args s 0 0 (AA X.1)) (F0 m 9 ls []) := by
  have hx := hc.1
  have hb := hc.2.1
  intro n
  induction n with
  | zero => intro x4 x6 x8 S H locs ls hw hl h; cases h
  | succ n ih =>
    intro x4 x6 x8 S H locs ls hw hl h
    rw [f_X6_commonDivisor_9] at h
    refine lv_iload hx hb dX6_commonDivisor_9 (lv_at hl 2 rfl) ?_
    refine lv_bipush (v := 100) hx hb dX6_commonDivisor_11 (by decide) ?_
    refine lv_icmp_ge (tgt := 44) hx hb dX6_commonDivisor_13 (by decide) (fun c1 => ?_) (fun c1 => ?_)
    · have h := ifT c1 h
      refine lv_lload hx hb dX6_commonDivisor_44 (lv_at hl 0 rfl) ?_
      obtain ⟨rfl, rfl⟩ := sm_inj h
      exact r_lret hc hr hw dX6_commonDivisor_46
    · have h := ifF c1 h
      refine lv_lload hx hb dX6_commonDivisor_16 (lv_at hl 1 rfl) ?_
      refine lv_lconst (v := 0) hx hb dX6_commonDivisor_18 (by decide) ?_
      refine W.lcmp hx hb dX6_commonDivisor_19 ?_
      refine lv_if_eq (tgt := 44) hx hb dX6_commonDivisor_20 (by decide) (fun c2 => ?_) (fun c2 => ?_)
      · have h := ifT c2 h
        refine lv_lload hx hb dX6_commonDivisor_44 (lv_at hl 0 rfl) ?_
        obtain ⟨rfl, rfl⟩ := sm_inj h
        exact r_lret hc hr hw dX6_commonDivisor_46
      · have h := ifF c2 h
        refine lv_lload hx hb dX6_commonDivisor_23 (lv_at hl 0 rfl) ?_
        refine lv_lload hx hb dX6_commonDivisor_25 (lv_at hl 1 rfl) ?_
        obtain ⟨b3, h⟩ := bnd_some h
        refine lv_lrem hx hb dX6_commonDivisor_27 (of_decide_eq_true b3) ?_
        obtain ⟨v4, e5, h⟩ := nm_some h
        refine r_topl e5 ?_
        refine lv_lstore (lv' := [(9, .long v4), (4, .long x4), (6, .long x6), (8, .int x8)]) hx hb dX6_commonDivisor_28 hl (by decide) rfl (fun ls hl => ?_)
        refine lv_lload hx hb dX6_commonDivisor_30 (lv_at hl 2 rfl) ?_
        refine lv_lstore (lv' := [(4, .long x6), (9, .long v4), (6, .long x6), (8, .int x8)]) hx hb dX6_commonDivisor_32 hl (by decide) rfl (fun ls hl => ?_)
        refine lv_lload hx hb dX6_commonDivisor_34 (lv_at hl 1 rfl) ?_
        refine lv_lstore (lv' := [(6, .long v4), (4, .long x6), (9, .long v4), (8, .int x8)]) hx hb dX6_commonDivisor_36 hl (by decide) rfl (fun ls hl => ?_)
        obtain ⟨v6, e7, h⟩ := nm_some h
        refine lv_iinc (v := v6) (lv' := [(8, .int v6), (6, .long v4), (4, .long x6), (9, .long v4)]) hx hb dX6_commonDivisor_38 hl (k := 3) rfl (by rw [e7]; rfl) (by decide) rfl (fun ls hl => ?_)
        refine lv_goto (tgt := 9) hx hb dX6_commonDivisor_41 (by decide) ?_
        exact ih x6 v4 v6 S _ _ _ hw (lv_sub hl [2, 1, 0] rfl) h
set_option maxRecDepth 20000 in
theorem c_X6_commonDivisor (l : Launch) (X : Wx) {S S' : Mm} {r : Int64} {x0 : Int64} {x2 : Int64}  (h : f_X6_commonDivisor S x0 x2 = some (r, S')) : Ct l X yX6_commonDivisor cX6_commonDivisor 11 (some .long) rm_X6_commonDivisor [.long x0, .long x2] S (some (.long r)) S' := by
  refine r_entry (by decide) (Nat.le_of_ble_eq_true rfl) ?_
  intro p e s m args below meth c ls hc hr hw hl
  have hc : Cx p s m args meth c X cX6_commonDivisor 11 RX6 := hc
  have hl : lv_has ls 11 [(0, .long x0), (2, .long x2)] := hl
  have hx := hc.1
  have hb := hc.2.1
  unfold f_X6_commonDivisor at h
  refine lv_lload_n hx hb dX6_commonDivisor_0 rfl (lv_at hl 0 rfl) ?_
  refine lv_lstore (lv' := [(4, .long x0), (0, .long x0), (2, .long x2)]) hx hb dX6_commonDivisor_1 hl (by decide) rfl (fun ls hl => ?_)
  refine lv_lload_n hx hb dX6_commonDivisor_3 rfl (lv_at hl 2 rfl) ?_
  refine lv_lstore (lv' := [(6, .long x2), (4, .long x0), (0, .long x0), (2, .long x2)]) hx hb dX6_commonDivisor_4 hl (by decide) rfl (fun ls hl => ?_)
  refine lv_iconst (v := 0) hx hb dX6_commonDivisor_6 (by decide) ?_
  refine lv_istore (lv' := [(8, .int 0), (6, .long x2), (4, .long x0), (0, .long x0), (2, .long x2)]) hx hb dX6_commonDivisor_7 hl (by decide) rfl (fun ls hl => ?_)
  exact w_X6_commonDivisor_9 hc hr 400 x0 x2 0 S _ _ _ hw (lv_sub hl [2, 1, 0] rfl) h
abbrev rm_X6_part : Room := { frames := 1, cells := 0, slots := 0, locals := 30 }
theorem ms_X6_part : MsS yX6_part cX6_part 7 (some .long) 3 := ⟨⟨q2_215, q1_1, by decide, by decide, by decide⟩, q2_214⟩
set_option maxRecDepth 20000 in
theorem c_X6_part (l : Launch) (X : Wx) {S S' : Mm} {r : Int64} {x0 : Int64} {x2 : Int64} {x4 : Int32}  (h : f_X6_part S x0 x2 x4 = some (r, S')) : Ct l X yX6_part cX6_part 7 (some .long) rm_X6_part [.long x0, .long x2, .int x4] S (some (.long r)) S' := by
  refine r_entry (by decide) (Nat.le_of_ble_eq_true rfl) ?_
  intro p e s m args below meth c ls hc hr hw hl
  have hc : Cx p s m args meth c X cX6_part 7 RX6 := hc
  have hl : lv_has ls 7 [(0, .long x0), (2, .long x2), (4, .int x4)] := hl
  have hx := hc.1
  have hb := hc.2.1
  unfold f_X6_part at h
  refine lv_lload_n hx hb dX6_part_0 rfl (lv_at hl 0 rfl) ?_
  refine lv_lload_n hx hb dX6_part_1 rfl (lv_at hl 1 rfl) ?_
  obtain ⟨r1, S2, h3, h⟩ := bd_some h
  refine r_callSl hc hw hl.1 (As := [.long x0, .long x2]) (rest := []) (c_X6_commonDivisor l X  h3) ms_X6_commonDivisor q2_216 rfl rfl ⟨rfl, rfl, Nat.le_of_ble_eq_true rfl, Nat.le_of_ble_eq_true rfl⟩ (Nat.le_of_ble_eq_true rfl) ⟨Nat.zero_le _, Nat.zero_le _⟩ dX6_part_2 (fun H locs hw => ?_)
  refine lv_lstore (lv' := [(5, .long r1), (0, .long x0), (2, .long x2), (4, .int x4)]) hx hb dX6_part_5 hl (by decide) rfl (fun ls hl => ?_)
  refine lv_lload_n hx hb dX6_part_7 rfl (lv_at hl 2 rfl) ?_
  refine lv_lconst (v := 0) hx hb dX6_part_8 (by decide) ?_
  refine W.lcmp hx hb dX6_part_9 ?_
  refine lv_if_eq (tgt := 20) hx hb dX6_part_10 (by decide) (fun c4 => ?_) (fun c4 => ?_)
  · have h := ifT c4 h
    refine lv_ldc2 hx hb hc.2.2.2.1 (hc.2.2.2.2.1 _ q2_219) dX6_part_20 ?_
    obtain ⟨rfl, rfl⟩ := sm_inj h
    exact r_lret hc hr hw dX6_part_23
  · have h := ifF c4 h
    refine lv_lload hx hb dX6_part_13 (lv_at hl 0 rfl) ?_
    refine lv_lconst (v := 0) hx hb dX6_part_15 (by decide) ?_
    refine W.lcmp hx hb dX6_part_16 ?_
    refine lv_if_ne (tgt := 24) hx hb dX6_part_17 (by decide) (fun c5 => ?_) (fun c5 => ?_)
    · have h := ifF c5 h
      refine lv_iload hx hb dX6_part_24 (lv_at hl 3 rfl) ?_
      refine lv_if_ne (tgt := 33) hx hb dX6_part_26 (by decide) (fun c6 => ?_) (fun c6 => ?_)
      · have h := ifF c6 h
        refine lv_lload_n hx hb dX6_part_33 rfl (lv_at hl 2 rfl) ?_
        refine lv_lload hx hb dX6_part_34 (lv_at hl 0 rfl) ?_
        obtain ⟨b7, h⟩ := bnd_some h
        refine lv_ldiv hx hb dX6_part_36 (of_decide_eq_true b7) ?_
        obtain ⟨rfl, rfl⟩ := sm_inj h
        exact r_lret hc hr hw dX6_part_37
      · have h := ifT c6 h
        refine lv_lload_n hx hb dX6_part_29 rfl (lv_at hl 1 rfl) ?_
        refine lv_goto (tgt := 34) hx hb dX6_part_30 (by decide) ?_
        refine lv_lload hx hb dX6_part_34 (lv_at hl 0 rfl) ?_
        obtain ⟨b8, h⟩ := bnd_some h
        refine lv_ldiv hx hb dX6_part_36 (of_decide_eq_true b8) ?_
        obtain ⟨rfl, rfl⟩ := sm_inj h
        exact r_lret hc hr hw dX6_part_37
    · have h := ifT c5 h
      refine lv_ldc2 hx hb hc.2.2.2.1 (hc.2.2.2.2.1 _ q2_219) dX6_part_20 ?_
      obtain ⟨rfl, rfl⟩ := sm_inj h
      exact r_lret hc hr hw dX6_part_23
abbrev rm_X6_blame : Room := { frames := 3, cells := 0, slots := 0, locals := 70 }
theorem ms_X6_blame : MsV yX6_blame cX6_blame 4 (some .long) 3 := ⟨⟨q3_24, q1_1, by decide, by decide, by decide⟩, q3_22, q3_23⟩
set_option maxRecDepth 20000 in
theorem c_X6_blame (l : Launch) (X : Wx) {S S' : Mm} {r : Int64} {x1 : Int32} {x2 : Int32} {x3 : Int32}  (h : f_X6_blame S x1 x2 x3 = some (r, S')) : Ct l X yX6_blame cX6_blame 4 (some .long) rm_X6_blame [.ref (X.1 + 0), .int x1, .int x2, .int x3] S (some (.long r)) S' := by
  refine r_entry (by decide) (Nat.le_of_ble_eq_true rfl) ?_
  intro p e s m args below meth c ls hc hr hw hl
  have hc : Cx p s m args meth c X cX6_blame 4 RX6 := hc
  have hl : lv_has ls 4 [(0, .ref (X.1 + 0)), (1, .int x1), (2, .int x2), (3, .int x3)] := hl
  have hx := hc.1
  have hb := hc.2.1
  unfold f_X6_blame at h
  refine lv_aload_n hx hb dX6_blame_0 rfl (lv_at hl 0 rfl) ?_
  refine lv_iload_n hx hb dX6_blame_1 rfl (lv_at hl 1 rfl) ?_
  obtain ⟨r1, S2, h3, h⟩ := bd_some h
  refine r_callV6i hc hw hl.1 (As := [.int x1]) (rest := []) k0 (c_X6_isStep l X  h3) ms_X6_isStep rfl q2_94 rfl rfl ⟨rfl, rfl, Nat.le_of_ble_eq_true rfl, Nat.le_of_ble_eq_true rfl⟩ (Nat.le_of_ble_eq_true rfl) ⟨Nat.zero_le _, Nat.zero_le _⟩ dX6_blame_2 (fun H locs hw => ?_)
  refine lv_if_eq (tgt := 23) hx hb dX6_blame_5 (by decide) (fun c4 => ?_) (fun c4 => ?_)
  · have h := ifT c4 h
    refine lv_ldc2 hx hb hc.2.2.2.1 (hc.2.2.2.2.1 _ q2_189) dX6_blame_23 ?_
    obtain ⟨rfl, rfl⟩ := sm_inj h
    exact r_lret hc hr hw dX6_blame_26
  · have h := ifF c4 h
    refine lv_aload_n hx hb dX6_blame_8 rfl (lv_at hl 0 rfl) ?_
    refine lv_iload_n hx hb dX6_blame_9 rfl (lv_at hl 2 rfl) ?_
    obtain ⟨r5, S6, h7, h⟩ := bd_some h
    refine r_callV6i hc hw hl.1 (As := [.int x2]) (rest := []) k0 (c_X6_isStep l X  h7) ms_X6_isStep rfl q2_94 rfl rfl ⟨rfl, rfl, Nat.le_of_ble_eq_true rfl, Nat.le_of_ble_eq_true rfl⟩ (Nat.le_of_ble_eq_true rfl) ⟨Nat.zero_le _, Nat.zero_le _⟩ dX6_blame_10 (fun H locs hw => ?_)
    refine lv_if_eq (tgt := 23) hx hb dX6_blame_13 (by decide) (fun c8 => ?_) (fun c8 => ?_)
    · have h := ifT c8 h
      refine lv_ldc2 hx hb hc.2.2.2.1 (hc.2.2.2.2.1 _ q2_189) dX6_blame_23 ?_
      obtain ⟨rfl, rfl⟩ := sm_inj h
      exact r_lret hc hr hw dX6_blame_26
    · have h := ifF c8 h
      refine lv_iload_n hx hb dX6_blame_16 rfl (lv_at hl 3 rfl) ?_
      obtain ⟨r9, S10, h11, h⟩ := bd_some h
      refine r_callSi hc hw hl.1 (As := [.int x3]) (rest := []) (c_X6_isBit l X  h11) ms_X6_isBit q2_152 rfl rfl ⟨rfl, rfl, Nat.le_of_ble_eq_true rfl, Nat.le_of_ble_eq_true rfl⟩ (Nat.le_of_ble_eq_true rfl) ⟨Nat.zero_le _, Nat.zero_le _⟩ dX6_blame_17 (fun H locs hw => ?_)
      refine lv_if_ne (tgt := 27) hx hb dX6_blame_20 (by decide) (fun c12 => ?_) (fun c12 => ?_)
      · have h := ifF c12 h
        refine lv_aload_n hx hb dX6_blame_27 rfl (lv_at hl 0 rfl) ?_
        refine lv_iload_n hx hb dX6_blame_28 rfl (lv_at hl 1 rfl) ?_
        obtain ⟨r13, S14, h15, h⟩ := bd_some h
        refine r_callV6i hc hw hl.1 (As := [.int x1]) (rest := []) k0 (c_X6_isFoundBehind l X  h15) ms_X6_isFoundBehind rfl q3_25 rfl rfl ⟨rfl, rfl, Nat.le_of_ble_eq_true rfl, Nat.le_of_ble_eq_true rfl⟩ (Nat.le_of_ble_eq_true rfl) ⟨Nat.zero_le _, Nat.zero_le _⟩ dX6_blame_29 (fun H locs hw => ?_)
        refine lv_if_ne (tgt := 39) hx hb dX6_blame_32 (by decide) (fun c16 => ?_) (fun c16 => ?_)
        · have h := ifF c16 h
          refine lv_iload_n hx hb dX6_blame_39 rfl (lv_at hl 2 rfl) ?_
          refine lv_iload_n hx hb dX6_blame_40 rfl (lv_at hl 1 rfl) ?_
          refine lv_icmp_le (tgt := 48) hx hb dX6_blame_41 (by decide) (fun c17 => ?_) (fun c17 => ?_)
          · have h := ifT c17 h
            refine lv_aload_n hx hb dX6_blame_48 rfl (lv_at hl 0 rfl) ?_
            refine r_get6 hc hw k0 10 (by decide) (v := .ref (X.1 + 158)) rfl q1_227 dX6_blame_49 ?_
            refine r_get0 hc hw k158 4 (by decide) (v := .ref (X.1 + 160)) rfl q1_204 dX6_blame_52 ?_
            refine lv_iload_n hx hb dX6_blame_55 rfl (lv_at hl 2 rfl) ?_
            obtain ⟨b18, h⟩ := bnd_some h
            refine r_lald hc hw k160 (inL b18 l160) dX6_blame_56 ?_
            refine lv_aload_n hx hb dX6_blame_57 rfl (lv_at hl 0 rfl) ?_
            refine r_get6 hc hw k0 10 (by decide) (v := .ref (X.1 + 158)) rfl q1_227 dX6_blame_58 ?_
            refine r_get0 hc hw k158 1 (by decide) (v := .long (gJ S14 158 1)) rfl q1_198 dX6_blame_61 ?_
            refine lv_iload_n hx hb dX6_blame_64 rfl (lv_at hl 3 rfl) ?_
            obtain ⟨r19, S20, h21, h⟩ := bd_some h
            refine r_callSl hc hw hl.1 (As := [.long (gJ S14 160 x2.toNatClampNeg), .long (gJ S14 158 1), .int x3]) (rest := []) (c_X6_part l X  h21) ms_X6_part q2_213 rfl rfl ⟨rfl, rfl, Nat.le_of_ble_eq_true rfl, Nat.le_of_ble_eq_true rfl⟩ (Nat.le_of_ble_eq_true rfl) ⟨Nat.zero_le _, Nat.zero_le _⟩ dX6_blame_65 (fun H locs hw => ?_)
            obtain ⟨rfl, rfl⟩ := sm_inj h
            exact r_lret hc hr hw dX6_blame_68
          · have h := ifF c17 h
            refine lv_lconst (v := 0) hx hb dX6_blame_44 (by decide) ?_
            refine lv_goto (tgt := 57) hx hb dX6_blame_45 (by decide) ?_
            refine lv_aload_n hx hb dX6_blame_57 rfl (lv_at hl 0 rfl) ?_
            refine r_get6 hc hw k0 10 (by decide) (v := .ref (X.1 + 158)) rfl q1_227 dX6_blame_58 ?_
            refine r_get0 hc hw k158 1 (by decide) (v := .long (gJ S14 158 1)) rfl q1_198 dX6_blame_61 ?_
            refine lv_iload_n hx hb dX6_blame_64 rfl (lv_at hl 3 rfl) ?_
            obtain ⟨r22, S23, h24, h⟩ := bd_some h
            refine r_callSl hc hw hl.1 (As := [.long 0, .long (gJ S14 158 1), .int x3]) (rest := []) (c_X6_part l X  h24) ms_X6_part q2_213 rfl rfl ⟨rfl, rfl, Nat.le_of_ble_eq_true rfl, Nat.le_of_ble_eq_true rfl⟩ (Nat.le_of_ble_eq_true rfl) ⟨Nat.zero_le _, Nat.zero_le _⟩ dX6_blame_65 (fun H locs hw => ?_)
            obtain ⟨rfl, rfl⟩ := sm_inj h
            exact r_lret hc hr hw dX6_blame_68
        · have h := ifT c16 h
          refine lv_ldc2 hx hb hc.2.2.2.1 (hc.2.2.2.2.1 _ q2_219) dX6_blame_35 ?_
          obtain ⟨rfl, rfl⟩ := sm_inj h
          exact r_lret hc hr hw dX6_blame_38
      · have h := ifT c12 h
        refine lv_ldc2 hx hb hc.2.2.2.1 (hc.2.2.2.2.1 _ q2_189) dX6_blame_23 ?_
        obtain ⟨rfl, rfl⟩ := sm_inj h
        exact r_lret hc hr hw dX6_blame_26
abbrev rm_X6_clear : Room := { frames := 0, cells := 0, slots := 0, locals := 0 }
theorem ms_X6_clear : MsV yX6_clear cX6_clear 2 (some .int) 0 := ⟨⟨q2_31, q1_1, by decide, by decide, by decide⟩, q2_29, q2_30⟩
set_option maxRecDepth 20000 in
theorem c_X6_clear (l : Launch) (X : Wx) {S S' : Mm} {r : Int32}   (h : f_X6_clear S = some (r, S')) : Ct l X yX6_clear cX6_clear 2 (some .int) rm_X6_clear [.ref (X.1 + 0)] S (some (.int r)) S' := by
  refine r_entry (by decide) (Nat.le_of_ble_eq_true rfl) ?_
  intro p e s m args below meth c ls hc hr hw hl
  have hc : Cx p s m args meth c X cX6_clear 2 RX6 := hc
  have hl : lv_has ls 2 [(0, .ref (X.1 + 0))] := hl
  have hx := hc.1
  have hb := hc.2.1
  unfold f_X6_clear at h
  refine lv_aload_n hx hb dX6_clear_0 rfl (lv_at hl 0 rfl) ?_
  refine r_get6 hc hw k0 0 (by decide) (v := .ref (X.1 + 1)) rfl q1_217 dX6_clear_1 ?_
  refine r_get5 hc hw k1 1 (by decide) (v := .int (gI S 1 1)) rfl q1_28 dX6_clear_4 ?_
  obtain ⟨v1, e2, h⟩ := nm_some h
  refine r_top e2 ?_
  refine lv_istore_n (lv' := [(1, .int v1), (0, .ref (X.1 + 0))]) hx hb dX6_clear_7 rfl hl (by decide) rfl (fun ls hl => ?_)
  refine lv_aload_n hx hb dX6_clear_8 rfl (lv_at hl 1 rfl) ?_
  refine r_get6 hc hw k0 0 (by decide) (v := .ref (X.1 + 1)) rfl q1_217 dX6_clear_9 ?_
  refine lv_iconst (v := 0) hx hb dX6_clear_12 (by decide) ?_
  obtain ⟨S3, e4, h⟩ := nm_some h
  refine r_put5_1 hc hw k1 e4 q1_28 dX6_clear_13 (fun H locs hw => ?_)
  refine lv_iload_n hx hb dX6_clear_16 rfl (lv_at hl 0 rfl) ?_
  obtain ⟨rfl, rfl⟩ := sm_inj h
  exact r_iret hc hr hw dX6_clear_17
abbrev rm_X6_count : Room := { frames := 0, cells := 0, slots := 0, locals := 0 }
theorem ms_X6_count : MsV yX6_count cX6_count 2 (some .int) 1 := ⟨⟨q3_109, q1_1, by decide, by decide, by decide⟩, q3_107, q3_108⟩
set_option maxRecDepth 20000 in
theorem c_X6_count (l : Launch) (X : Wx) {S S' : Mm} {r : Int32} {x1 : Int32}  (h : f_X6_count S x1 = some (r, S')) : Ct l X yX6_count cX6_count 2 (some .int) rm_X6_count [.ref (X.1 + 0), .int x1] S (some (.int r)) S' := by
  refine r_entry (by decide) (Nat.le_of_ble_eq_true rfl) ?_
  intro p e s m args below meth c ls hc hr hw hl
  have hc : Cx p s m args meth c X cX6_count 2 RX6 := hc
  have hl : lv_has ls 2 [(0, .ref (X.1 + 0)), (1, .int x1)] := hl
  have hx := hc.1
  have hb := hc.2.1
  unfold f_X6_count at h
  refine lv_iload_n hx hb dX6_count_0 rfl (lv_at hl 1 rfl) ?_
  by_cases c1 : x1 = 0
  · have h := ifT c1 h
    refine lv_tableIn (off := 35) (tgt := 36) hx hb dX6_count_1 (by rw [c1]; decide) (by rw [c1]; decide) (by rw [c1]; rfl) (by decide) ?_
    refine lv_aload_n hx hb dX6_count_36 rfl (lv_at hl 0 rfl) ?_
    refine r_get6 hc hw k0 1 (by decide) (v := .ref (X.1 + (pl S))) rfl q1_218 dX6_count_37 ?_
    have kq2 := hw.2.2.1
    refine r_get4 hc hw kq2 0 (by decide) (v := .int (gI S (pl S) 0)) rfl q1_61 dX6_count_40 ?_
    obtain ⟨rfl, rfl⟩ := sm_inj h
    exact r_iret hc hr hw dX6_count_43
  · have h := ifF c1 h
    by_cases c3 : x1 = 1
    · have h := ifT c3 h
      refine lv_tableIn (off := 43) (tgt := 44) hx hb dX6_count_1 (by rw [c3]; decide) (by rw [c3]; decide) (by rw [c3]; rfl) (by decide) ?_
      refine lv_aload_n hx hb dX6_count_44 rfl (lv_at hl 0 rfl) ?_
      refine r_get6 hc hw k0 1 (by decide) (v := .ref (X.1 + (pl S))) rfl q1_218 dX6_count_45 ?_
      have kq4 := hw.2.2.1
      refine r_get4 hc hw kq4 1 (by decide) (v := .int (gI S (pl S) 1)) rfl q1_65 dX6_count_48 ?_
      obtain ⟨rfl, rfl⟩ := sm_inj h
      exact r_iret hc hr hw dX6_count_51
    · have h := ifF c3 h
      by_cases c5 : x1 = 2
      · have h := ifT c5 h
        refine lv_tableIn (off := 51) (tgt := 52) hx hb dX6_count_1 (by rw [c5]; decide) (by rw [c5]; decide) (by rw [c5]; rfl) (by decide) ?_
        refine lv_aload_n hx hb dX6_count_52 rfl (lv_at hl 0 rfl) ?_
        refine r_get6 hc hw k0 8 (by decide) (v := .int (gI S 0 8)) rfl q1_225 dX6_count_53 ?_
        obtain ⟨rfl, rfl⟩ := sm_inj h
        exact r_iret hc hr hw dX6_count_56
      · have h := ifF c5 h
        by_cases c6 : x1 = 3
        · have h := ifT c6 h
          refine lv_tableIn (off := 56) (tgt := 57) hx hb dX6_count_1 (by rw [c6]; decide) (by rw [c6]; decide) (by rw [c6]; rfl) (by decide) ?_
          refine lv_aload_n hx hb dX6_count_57 rfl (lv_at hl 0 rfl) ?_
          refine r_get6 hc hw k0 3 (by decide) (v := .ref (X.1 + 15)) rfl q1_220 dX6_count_58 ?_
          refine r_get3 hc hw k15 3 (by decide) (v := .int (gI S 15 3)) rfl q1_158 dX6_count_61 ?_
          obtain ⟨rfl, rfl⟩ := sm_inj h
          exact r_iret hc hr hw dX6_count_64
        · have h := ifF c6 h
          by_cases c7 : x1 = 4
          · have h := ifT c7 h
            refine lv_tableIn (off := 64) (tgt := 65) hx hb dX6_count_1 (by rw [c7]; decide) (by rw [c7]; decide) (by rw [c7]; rfl) (by decide) ?_
            refine lv_aload_n hx hb dX6_count_65 rfl (lv_at hl 0 rfl) ?_
            refine r_get6 hc hw k0 0 (by decide) (v := .ref (X.1 + 1)) rfl q1_217 dX6_count_66 ?_
            refine r_get5 hc hw k1 1 (by decide) (v := .int (gI S 1 1)) rfl q1_28 dX6_count_69 ?_
            obtain ⟨rfl, rfl⟩ := sm_inj h
            exact r_iret hc hr hw dX6_count_72
          · have h := ifF c7 h
            refine lv_tableOut (tgt := 73) hx hb dX6_count_1 (by have := lv_neT c1 (a := 0) (by decide); have := lv_neT c3 (a := 1) (by decide); have := lv_neT c5 (a := 2) (by decide); have := lv_neT c6 (a := 3) (by decide); have := lv_neT c7 (a := 4) (by decide); omega) (by decide) ?_
            refine lv_iconst (v := (-1)) hx hb dX6_count_73 (by decide) ?_
            obtain ⟨rfl, rfl⟩ := sm_inj h
            exact r_iret hc hr hw dX6_count_74
abbrev rm_X6_explainsTold : Room := { frames := 2, cells := 0, slots := 0, locals := 49 }
theorem ms_X6_explainsTold : MsV yX6_explainsTold cX6_explainsTold 3 (some .boolean) 1 := ⟨⟨q3_56, q1_1, by decide, by decide, by decide⟩, q3_55, qs_17⟩
set_option maxRecDepth 20000 in
theorem w_X6_explainsTold_2 {p : Program} {l : Launch} {e : Env} {s : State} {m : MethodId} {args : Array Value} {below : List Frame} {meth : Method} {c : Code} {X : Wx} {r : Int32} {S' : Mm} (hc : Cx p s m args meth c X cX6_explainsTold 3 RX6) (hr : meth.sig.returnType = (some .boolean))   : ∀ (n : Nat), ∀ (x1 : Int32) (x2 : Int32) (S : Mm) (H : Heap) (locs : List Loc) (ls : Array Slot), Wd X s.heap S H locs → lv_has ls 3 [(0, .ref (X.1 + 0)), (1, .int x1), (2, .int x2)] → f_X6_explainsTold_2 n x1 x2 S = some (r, S') → W p l e rm_X6_explainsTold s m args below meth c H locs 0 0 (MQ below (Qq X (some (.int r)) S') args s 0 0 (AA X.1)) (F0 m 2 ls []) := by
  have hx := hc.1
  have hb := hc.2.1
  intro n
  induction n with
  | zero => intro x1 x2 S H locs ls hw hl h; cases h
  | succ n ih =>
    intro x1 x2 S H locs ls hw hl h
    rw [f_X6_explainsTold_2] at h
    refine lv_iload_n hx hb dX6_explainsTold_2 rfl (lv_at hl 2 rfl) ?_
    refine lv_aload_n hx hb dX6_explainsTold_3 rfl (lv_at hl 0 rfl) ?_
    refine r_get6 hc hw k0 8 (by decide) (v := .int (gI S 0 8)) rfl q1_225 dX6_explainsTold_4 ?_
    refine lv_icmp_ge (tgt := 59) hx hb dX6_explainsTold_7 (by decide) (fun c1 => ?_) (fun c1 => ?_)
    · have h := ifT c1 h
      refine lv_iconst (v := 1) hx hb dX6_explainsTold_59 (by decide) ?_
      obtain ⟨rfl, rfl⟩ := sm_inj h
      exact r_zret hc hr (Or.inr rfl) hw dX6_explainsTold_60
    · have h := ifF c1 h
      refine lv_aload_n hx hb dX6_explainsTold_10 rfl (lv_at hl 0 rfl) ?_
      refine r_get6 hc hw k0 9 (by decide) (v := .ref (X.1 + 157)) rfl q1_226 dX6_explainsTold_11 ?_
      refine lv_aload_n hx hb dX6_explainsTold_14 rfl (lv_at hl 0 rfl) ?_
      refine r_get6 hc hw k0 1 (by decide) (v := .ref (X.1 + (pl S))) rfl q1_218 dX6_explainsTold_15 ?_
      have kq2 := hw.2.2.1
      refine lv_aload_n hx hb dX6_explainsTold_18 rfl (lv_at hl 0 rfl) ?_
      refine r_get6 hc hw k0 3 (by decide) (v := .ref (X.1 + 15)) rfl q1_220 dX6_explainsTold_19 ?_
      refine r_get3 hc hw k15 0 (by decide) (v := .ref (X.1 + 16)) rfl q1_154 dX6_explainsTold_22 ?_
      refine lv_iload_n hx hb dX6_explainsTold_25 rfl (lv_at hl 1 rfl) ?_
      refine lv_aload_n hx hb dX6_explainsTold_26 rfl (lv_at hl 0 rfl) ?_
      refine r_get6 hc hw k0 6 (by decide) (v := .ref (X.1 + 155)) rfl q1_223 dX6_explainsTold_27 ?_
      refine lv_iload_n hx hb dX6_explainsTold_30 rfl (lv_at hl 2 rfl) ?_
      obtain ⟨b3, h⟩ := bnd_some h
      refine r_iald hc hw k155 (inL b3 l155) dX6_explainsTold_31 ?_
      obtain ⟨r4, S5, h6, h⟩ := bd_some h
      refine r_callV2v hc hw hl.1 (As := [.ref (X.1 + (pl S)), .ref (X.1 + 16), .int x1, .int (gI S 155 x2.toNatClampNeg)]) (rest := []) k157 (c_X2_go l X kq2 k16 h6) ms_X2_go rfl q2_127 rfl rfl ⟨rfl, rfl, Nat.le_of_ble_eq_true rfl, Nat.le_of_ble_eq_true rfl⟩ (Nat.le_of_ble_eq_true rfl) ⟨Nat.zero_le _, Nat.zero_le _⟩ dX6_explainsTold_32 (fun H locs hw => ?_)
      refine lv_aload_n hx hb dX6_explainsTold_35 rfl (lv_at hl 0 rfl) ?_
      refine r_get6 hc hw k0 9 (by decide) (v := .ref (X.1 + 157)) rfl q1_226 dX6_explainsTold_36 ?_
      obtain ⟨r7, S8, h9, h⟩ := bd_some h
      refine r_callV2i hc hw hl.1 (As := []) (rest := []) k157 (c_X2_fate l X  h9) ms_X2_fate rfl q2_147 rfl rfl ⟨rfl, rfl, Nat.le_of_ble_eq_true rfl, Nat.le_of_ble_eq_true rfl⟩ (Nat.le_of_ble_eq_true rfl) ⟨Nat.zero_le _, Nat.zero_le _⟩ dX6_explainsTold_39 (fun H locs hw => ?_)
      refine lv_aload_n hx hb dX6_explainsTold_42 rfl (lv_at hl 0 rfl) ?_
      refine r_get6 hc hw k0 7 (by decide) (v := .ref (X.1 + 156)) rfl q1_224 dX6_explainsTold_43 ?_
      refine lv_iload_n hx hb dX6_explainsTold_46 rfl (lv_at hl 2 rfl) ?_
      obtain ⟨b10, h⟩ := bnd_some h
      refine r_iald hc hw k156 (inL b10 l156) dX6_explainsTold_47 ?_
      refine lv_icmp_eq (tgt := 53) hx hb dX6_explainsTold_48 (by decide) (fun c11 => ?_) (fun c11 => ?_)
      · have h := ifT c11 h
        obtain ⟨v12, e13, h⟩ := nm_some h
        refine lv_iinc (v := v12) (lv' := [(2, .int v12), (0, .ref (X.1 + 0)), (1, .int x1)]) hx hb dX6_explainsTold_53 hl (k := 2) rfl (by rw [e13]; rfl) (by decide) rfl (fun ls hl => ?_)
        refine lv_goto (tgt := 2) hx hb dX6_explainsTold_56 (by decide) ?_
        exact ih x1 v12 S8 _ _ _ hw (lv_sub hl [1, 2, 0] rfl) h
      · have h := ifF c11 h
        refine lv_iconst (v := 0) hx hb dX6_explainsTold_51 (by decide) ?_
        obtain ⟨rfl, rfl⟩ := sm_inj h
        exact r_zret hc hr (Or.inl rfl) hw dX6_explainsTold_52
set_option maxRecDepth 20000 in
theorem c_X6_explainsTold (l : Launch) (X : Wx) {S S' : Mm} {r : Int32} {x1 : Int32}  (h : f_X6_explainsTold S x1 = some (r, S')) : Ct l X yX6_explainsTold cX6_explainsTold 3 (some .boolean) rm_X6_explainsTold [.ref (X.1 + 0), .int x1] S (some (.int r)) S' := by
  refine r_entry (by decide) (Nat.le_of_ble_eq_true rfl) ?_
  intro p e s m args below meth c ls hc hr hw hl
  have hc : Cx p s m args meth c X cX6_explainsTold 3 RX6 := hc
  have hl : lv_has ls 3 [(0, .ref (X.1 + 0)), (1, .int x1)] := hl
  have hx := hc.1
  have hb := hc.2.1
  unfold f_X6_explainsTold at h
  refine lv_iconst (v := 0) hx hb dX6_explainsTold_0 (by decide) ?_
  refine lv_istore_n (lv' := [(2, .int 0), (0, .ref (X.1 + 0)), (1, .int x1)]) hx hb dX6_explainsTold_1 rfl hl (by decide) rfl (fun ls hl => ?_)
  exact w_X6_explainsTold_2 hc hr 400 x1 0 S _ _ _ hw (lv_sub hl [1, 2, 0] rfl) h
abbrev rm_X6_hasFewDuds : Room := { frames := 2, cells := 0, slots := 0, locals := 49 }
theorem ms_X6_hasFewDuds : MsV yX6_hasFewDuds cX6_hasFewDuds 5 (some .boolean) 2 := ⟨⟨q3_19, q1_1, by decide, by decide, by decide⟩, q3_18, qs_14⟩
set_option maxRecDepth 20000 in
theorem c_X6_hasFewDuds (l : Launch) (X : Wx) {S S' : Mm} {r : Int32} {x1 : Int32} {x2 : Int32}  (h : f_X6_hasFewDuds S x1 x2 = some (r, S')) : Ct l X yX6_hasFewDuds cX6_hasFewDuds 5 (some .boolean) rm_X6_hasFewDuds [.ref (X.1 + 0), .int x1, .int x2] S (some (.int r)) S' := by
  refine r_entry (by decide) (Nat.le_of_ble_eq_true rfl) ?_
  intro p e s m args below meth c ls hc hr hw hl
  have hc : Cx p s m args meth c X cX6_hasFewDuds 5 RX6 := hc
  have hl : lv_has ls 5 [(0, .ref (X.1 + 0)), (1, .int x1), (2, .int x2)] := hl
  have hx := hc.1
  have hb := hc.2.1
  unfold f_X6_hasFewDuds at h
  refine lv_aload_n hx hb dX6_hasFewDuds_0 rfl (lv_at hl 0 rfl) ?_
  refine r_get6 hc hw k0 10 (by decide) (v := .ref (X.1 + 158)) rfl q1_227 dX6_hasFewDuds_1 ?_
  refine lv_aload_n hx hb dX6_hasFewDuds_4 rfl (lv_at hl 0 rfl) ?_
  refine r_get6 hc hw k0 1 (by decide) (v := .ref (X.1 + (pl S))) rfl q1_218 dX6_hasFewDuds_5 ?_
  have kq1 := hw.2.2.1
  refine lv_aload_n hx hb dX6_hasFewDuds_8 rfl (lv_at hl 0 rfl) ?_
  refine r_get6 hc hw k0 3 (by decide) (v := .ref (X.1 + 15)) rfl q1_220 dX6_hasFewDuds_9 ?_
  refine r_get3 hc hw k15 0 (by decide) (v := .ref (X.1 + 16)) rfl q1_154 dX6_hasFewDuds_12 ?_
  refine lv_aload_n hx hb dX6_hasFewDuds_15 rfl (lv_at hl 0 rfl) ?_
  refine r_get6 hc hw k0 3 (by decide) (v := .ref (X.1 + 15)) rfl q1_220 dX6_hasFewDuds_16 ?_
  refine r_get3 hc hw k15 0 (by decide) (v := .ref (X.1 + 16)) rfl q1_154 dX6_hasFewDuds_19 ?_
  refine r_get1 hc hw k16 0 (by decide) (v := .ref (X.1 + 17)) rfl q1_117 dX6_hasFewDuds_22 ?_
  refine lv_iload_n hx hb dX6_hasFewDuds_25 rfl (lv_at hl 1 rfl) ?_
  obtain ⟨r2, S3, h4, h⟩ := bd_some h
  refine r_callV0v hc hw hl.1 (As := [.ref (X.1 + (pl S)), .ref (X.1 + 16), .ref (X.1 + 17), .int x1]) (rest := []) k158 (c_X0_through l X kq1 k16 k17 h4) ms_X0_through rfl q2_194 rfl rfl ⟨rfl, rfl, Nat.le_of_ble_eq_true rfl, Nat.le_of_ble_eq_true rfl⟩ (Nat.le_of_ble_eq_true rfl) ⟨Nat.zero_le _, Nat.zero_le _⟩ dX6_hasFewDuds_26 (fun H locs hw => ?_)
  refine lv_aload_n hx hb dX6_hasFewDuds_29 rfl (lv_at hl 0 rfl) ?_
  refine r_get6 hc hw k0 10 (by decide) (v := .ref (X.1 + 158)) rfl q1_227 dX6_hasFewDuds_30 ?_
  refine r_get0 hc hw k158 0 (by decide) (v := .long (gJ S3 158 0)) rfl q1_196 dX6_hasFewDuds_33 ?_
  refine lv_aload_n hx hb dX6_hasFewDuds_36 rfl (lv_at hl 0 rfl) ?_
  refine r_get6 hc hw k0 10 (by decide) (v := .ref (X.1 + 158)) rfl q1_227 dX6_hasFewDuds_37 ?_
  refine r_get0 hc hw k158 1 (by decide) (v := .long (gJ S3 158 1)) rfl q1_198 dX6_hasFewDuds_40 ?_
  refine lv_ladd hx hb dX6_hasFewDuds_43 ?_
  obtain ⟨v5, e6, h⟩ := nm_some h
  refine r_topl e6 ?_
  refine lv_lstore_n (lv' := [(3, .long v5), (0, .ref (X.1 + 0)), (1, .int x1), (2, .int x2)]) hx hb dX6_hasFewDuds_44 rfl hl (by decide) rfl (fun ls hl => ?_)
  refine lv_lload_n hx hb dX6_hasFewDuds_45 rfl (lv_at hl 0 rfl) ?_
  refine lv_lconst (v := 0) hx hb dX6_hasFewDuds_46 (by decide) ?_
  refine W.lcmp hx hb dX6_hasFewDuds_47 ?_
  refine lv_if_le (tgt := 74) hx hb dX6_hasFewDuds_48 (by decide) (fun c7 => ?_) (fun c7 => ?_)
  · have h := ifT c7 h
    refine lv_iconst (v := 0) hx hb dX6_hasFewDuds_74 (by decide) ?_
    obtain ⟨rfl, rfl⟩ := sm_inj h
    exact r_zret hc hr (Or.inl rfl) hw dX6_hasFewDuds_75
  · have h := ifF c7 h
    refine lv_aload_n hx hb dX6_hasFewDuds_51 rfl (lv_at hl 1 rfl) ?_
    refine r_get6 hc hw k0 10 (by decide) (v := .ref (X.1 + 158)) rfl q1_227 dX6_hasFewDuds_52 ?_
    refine r_get0 hc hw k158 1 (by decide) (v := .long (gJ S3 158 1)) rfl q1_198 dX6_hasFewDuds_55 ?_
    refine lv_ldc2 hx hb hc.2.2.2.1 (hc.2.2.2.2.1 _ q3_20) dX6_hasFewDuds_58 ?_
    refine lv_lmul hx hb dX6_hasFewDuds_61 ?_
    refine lv_lload_n hx hb dX6_hasFewDuds_62 rfl (lv_at hl 0 rfl) ?_
    refine lv_iload_n hx hb dX6_hasFewDuds_63 rfl (lv_at hl 3 rfl) ?_
    refine lv_i2l hx hb dX6_hasFewDuds_64 rfl ?_
    refine lv_lmul hx hb dX6_hasFewDuds_65 ?_
    refine W.lcmp hx hb dX6_hasFewDuds_66 ?_
    refine lv_if_gt (tgt := 74) hx hb dX6_hasFewDuds_67 (by decide) (fun c8 => ?_) (fun c8 => ?_)
    · have h := ifT c8 h
      refine lv_iconst (v := 0) hx hb dX6_hasFewDuds_74 (by decide) ?_
      obtain ⟨rfl, rfl⟩ := sm_inj h
      exact r_zret hc hr (Or.inl rfl) hw dX6_hasFewDuds_75
    · have h := ifF c8 h
      refine lv_iconst (v := 1) hx hb dX6_hasFewDuds_70 (by decide) ?_
      refine lv_goto (tgt := 75) hx hb dX6_hasFewDuds_71 (by decide) ?_
      obtain ⟨rfl, rfl⟩ := sm_inj h
      exact r_zret hc hr (Or.inr rfl) hw dX6_hasFewDuds_75
abbrev rm_X6_few : Room := { frames := 3, cells := 0, slots := 0, locals := 73 }
theorem ms_X6_few : MsV yX6_few cX6_few 5 (some .int) 1 := ⟨⟨q3_15, q1_1, by decide, by decide, by decide⟩, q3_13, q3_14⟩
set_option maxRecDepth 20000 in
theorem w_X6_few_22 {p : Program} {l : Launch} {e : Env} {s : State} {m : MethodId} {args : Array Value} {below : List Frame} {meth : Method} {c : Code} {X : Wx} {r : Int32} {S' : Mm} (hc : Cx p s m args meth c X cX6_few 5 RX6) (hr : meth.sig.returnType = (some .int))   : ∀ (n : Nat), ∀ (x1 : Int32) (x2 : Int32) (x3 : Int32) (x4 : Int32) (S : Mm) (H : Heap) (locs : List Loc) (ls : Array Slot), Wd X s.heap S H locs → lv_has ls 5 [(0, .ref (X.1 + 0)), (1, .int x1), (2, .int x2), (3, .int x3), (4, .int x4)] → f_X6_few_22 n x1 x2 x3 x4 S = some (r, S') → W p l e rm_X6_few s m args below meth c H locs 0 0 (MQ below (Qq X (some (.int r)) S') args s 0 0 (AA X.1)) (F0 m 22 ls []) := by
  have hx := hc.1
  have hb := hc.2.1
  intro n
  induction n with
  | zero => intro x1 x2 x3 x4 S H locs ls hw hl h; cases h
  | succ n ih =>
    intro x1 x2 x3 x4 S H locs ls hw hl h
    rw [f_X6_few_22] at h
    refine lv_iload hx hb dX6_few_22 (lv_at hl 4 rfl) ?_
    refine lv_iconst (v := 1) hx hb dX6_few_24 (by decide) ?_
    refine lv_aload_n hx hb dX6_few_25 rfl (lv_at hl 0 rfl) ?_
    refine r_get6 hc hw k0 1 (by decide) (v := .ref (X.1 + (pl S))) rfl q1_218 dX6_few_26 ?_
    have kq1 := hw.2.2.1
    refine r_get4 hc hw kq1 0 (by decide) (v := .int (gI S (pl S) 0)) rfl q1_61 dX6_few_29 ?_
    refine lv_ishl hx hb dX6_few_32 ?_
    refine lv_icmp_ge (tgt := 70) hx hb dX6_few_33 (by decide) (fun c2 => ?_) (fun c2 => ?_)
    · have h := ifT c2 h
      refine lv_iload_n hx hb dX6_few_70 rfl (lv_at hl 2 rfl) ?_
      obtain ⟨rfl, rfl⟩ := sm_inj h
      exact r_iret hc hr hw dX6_few_71
    · have h := ifF c2 h
      refine lv_iload hx hb dX6_few_36 (lv_at hl 4 rfl) ?_
      obtain ⟨r3, S4, h5, h⟩ := bd_some h
      refine r_callSi hc hw hl.1 (As := [.int x4]) (rest := []) (c_J6_bitCount_0f7a4 l X  h5) ms_J6_bitCount_0f7a4 q2_155 rfl rfl ⟨rfl, rfl, Nat.le_of_ble_eq_true rfl, Nat.le_of_ble_eq_true rfl⟩ (Nat.le_of_ble_eq_true rfl) ⟨Nat.zero_le _, Nat.zero_le _⟩ dX6_few_38 (fun H locs hw => ?_)
      refine lv_iload_n hx hb dX6_few_41 rfl (lv_at hl 3 rfl) ?_
      refine lv_icmp_ge (tgt := 64) hx hb dX6_few_42 (by decide) (fun c6 => ?_) (fun c6 => ?_)
      · have h := ifT c6 h
        obtain ⟨v7, e8, h⟩ := nm_some h
        refine lv_iinc (v := v7) (lv' := [(4, .int v7), (0, .ref (X.1 + 0)), (1, .int x1), (2, .int x2), (3, .int x3)]) hx hb dX6_few_64 hl (k := 4) rfl (by rw [e8]; rfl) (by decide) rfl (fun ls hl => ?_)
        refine lv_goto (tgt := 22) hx hb dX6_few_67 (by decide) ?_
        exact ih x1 x2 x3 v7 S4 _ _ _ hw (lv_sub hl [1, 2, 3, 4, 0] rfl) h
      · have h := ifF c6 h
        refine lv_aload_n hx hb dX6_few_45 rfl (lv_at hl 0 rfl) ?_
        refine lv_iload hx hb dX6_few_46 (lv_at hl 4 rfl) ?_
        refine lv_iload_n hx hb dX6_few_48 rfl (lv_at hl 1 rfl) ?_
        obtain ⟨r9, S10, h11, h⟩ := bd_some h
        refine r_callV6i hc hw hl.1 (As := [.int x4, .int x1]) (rest := []) k0 (c_X6_hasFewDuds l X  h11) ms_X6_hasFewDuds rfl q3_16 rfl rfl ⟨rfl, rfl, Nat.le_of_ble_eq_true rfl, Nat.le_of_ble_eq_true rfl⟩ (Nat.le_of_ble_eq_true rfl) ⟨Nat.zero_le _, Nat.zero_le _⟩ dX6_few_49 (fun H locs hw => ?_)
        refine lv_if_eq (tgt := 64) hx hb dX6_few_52 (by decide) (fun c12 => ?_) (fun c12 => ?_)
        · have h := ifT c12 h
          obtain ⟨v13, e14, h⟩ := nm_some h
          refine lv_iinc (v := v13) (lv' := [(4, .int v13), (0, .ref (X.1 + 0)), (1, .int x1), (2, .int x2), (3, .int x3)]) hx hb dX6_few_64 hl (k := 4) rfl (by rw [e14]; rfl) (by decide) rfl (fun ls hl => ?_)
          refine lv_goto (tgt := 22) hx hb dX6_few_67 (by decide) ?_
          exact ih x1 x2 x3 v13 S10 _ _ _ hw (lv_sub hl [1, 2, 3, 4, 0] rfl) h
        · have h := ifF c12 h
          refine lv_iload hx hb dX6_few_55 (lv_at hl 4 rfl) ?_
          refine lv_istore_n (lv' := [(2, .int x4), (0, .ref (X.1 + 0)), (1, .int x1), (3, .int x3), (4, .int x4)]) hx hb dX6_few_57 rfl hl (by decide) rfl (fun ls hl => ?_)
          refine lv_iload hx hb dX6_few_58 (lv_at hl 4 rfl) ?_
          obtain ⟨r15, S16, h17, h⟩ := bd_some h
          refine r_callSi hc hw hl.1 (As := [.int x4]) (rest := []) (c_J6_bitCount_0f7a4 l X  h17) ms_J6_bitCount_0f7a4 q2_155 rfl rfl ⟨rfl, rfl, Nat.le_of_ble_eq_true rfl, Nat.le_of_ble_eq_true rfl⟩ (Nat.le_of_ble_eq_true rfl) ⟨Nat.zero_le _, Nat.zero_le _⟩ dX6_few_60 (fun H locs hw => ?_)
          refine lv_istore_n (lv' := [(3, .int r15), (2, .int x4), (0, .ref (X.1 + 0)), (1, .int x1), (4, .int x4)]) hx hb dX6_few_63 rfl hl (by decide) rfl (fun ls hl => ?_)
          obtain ⟨v18, e19, h⟩ := nm_some h
          refine lv_iinc (v := v18) (lv' := [(4, .int v18), (3, .int r15), (2, .int x4), (0, .ref (X.1 + 0)), (1, .int x1)]) hx hb dX6_few_64 hl (k := 4) rfl (by rw [e19]; rfl) (by decide) rfl (fun ls hl => ?_)
          refine lv_goto (tgt := 22) hx hb dX6_few_67 (by decide) ?_
          exact ih x1 x4 r15 v18 S16 _ _ _ hw (lv_sub hl [3, 4, 2, 1, 0] rfl) h
set_option maxRecDepth 20000 in
theorem c_X6_few (l : Launch) (X : Wx) {S S' : Mm} {r : Int32} {x1 : Int32}  (h : f_X6_few S x1 = some (r, S')) : Ct l X yX6_few cX6_few 5 (some .int) rm_X6_few [.ref (X.1 + 0), .int x1] S (some (.int r)) S' := by
  refine r_entry (by decide) (Nat.le_of_ble_eq_true rfl) ?_
  intro p e s m args below meth c ls hc hr hw hl
  have hc : Cx p s m args meth c X cX6_few 5 RX6 := hc
  have hl : lv_has ls 5 [(0, .ref (X.1 + 0)), (1, .int x1)] := hl
  have hx := hc.1
  have hb := hc.2.1
  unfold f_X6_few at h
  refine lv_iload_n hx hb dX6_few_0 rfl (lv_at hl 1 rfl) ?_
  refine lv_if_lt (tgt := 11) hx hb dX6_few_1 (by decide) (fun c1 => ?_) (fun c1 => ?_)
  · have h := ifT c1 h
    refine lv_iconst (v := (-1)) hx hb dX6_few_11 (by decide) ?_
    obtain ⟨rfl, rfl⟩ := sm_inj h
    exact r_iret hc hr hw dX6_few_12
  · have h := ifF c1 h
    refine lv_iload_n hx hb dX6_few_4 rfl (lv_at hl 1 rfl) ?_
    refine lv_sipush (v := 250) hx hb dX6_few_5 (by decide) ?_
    refine lv_icmp_le (tgt := 13) hx hb dX6_few_8 (by decide) (fun c2 => ?_) (fun c2 => ?_)
    · have h := ifT c2 h
      refine lv_bipush (v := (-9)) hx hb dX6_few_13 (by decide) ?_
      refine lv_istore_n (lv' := [(2, .int (-9)), (0, .ref (X.1 + 0)), (1, .int x1)]) hx hb dX6_few_15 rfl hl (by decide) rfl (fun ls hl => ?_)
      refine lv_bipush (v := 6) hx hb dX6_few_16 (by decide) ?_
      refine lv_istore_n (lv' := [(3, .int 6), (2, .int (-9)), (0, .ref (X.1 + 0)), (1, .int x1)]) hx hb dX6_few_18 rfl hl (by decide) rfl (fun ls hl => ?_)
      refine lv_iconst (v := 0) hx hb dX6_few_19 (by decide) ?_
      refine lv_istore (lv' := [(4, .int 0), (3, .int 6), (2, .int (-9)), (0, .ref (X.1 + 0)), (1, .int x1)]) hx hb dX6_few_20 hl (by decide) rfl (fun ls hl => ?_)
      exact w_X6_few_22 hc hr 400 x1 ((-9)) 6 0 S _ _ _ hw (lv_sub hl [3, 4, 2, 1, 0] rfl) h
    · have h := ifF c2 h
      refine lv_iconst (v := (-1)) hx hb dX6_few_11 (by decide) ?_
      obtain ⟨rfl, rfl⟩ := sm_inj h
      exact r_iret hc hr hw dX6_few_12
