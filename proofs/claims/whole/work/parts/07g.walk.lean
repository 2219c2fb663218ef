abbrev rm_X7_due : Room := { frames := 2, cells := 0, slots := 0, locals := 43 }
theorem ms_X7_due : MsV yX7_due cX7_due 3 (some .int) 1 := ⟨⟨q4_13, q1_8, by decide, by decide, by decide⟩, q4_12, qs_29⟩
set_option maxRecDepth 20000 in
theorem c_X7_due (l : Launch) (X : Wx) {S S' : Mm} {r : Int32} {x1 : Int32}  (h : f_X7_due S x1 = some (r, S')) : Ct l X yX7_due cX7_due 3 (some .int) rm_X7_due [.ref (X.1 + 163), .int x1] S (some (.int r)) S' := by
  refine r_entry (by decide) (Nat.le_of_ble_eq_true rfl) ?_
  intro p e s m args below meth c ls hc hr hw hl
  have hc : Cx p s m args meth c X cX7_due 3 RX7 := hc
  have hl : lv_has ls 3 [(0, .ref (X.1 + 163)), (1, .int x1)] := hl
  have hx := hc.1
  have hb := hc.2.1
  unfold f_X7_due at h
  refine lv_aload_n hx hb dX7_due_0 rfl (lv_at hl 0 rfl) ?_
  refine r_get7 hc hw k163 14 (by decide) (v := .int (gI S 163 14)) rfl q3_142 dX7_due_1 ?_
  obtain ⟨v1, e2, h⟩ := nm_some h
  refine r_top e2 ?_
  refine lv_istore_n (lv' := [(2, .int v1), (0, .ref (X.1 + 163)), (1, .int x1)]) hx hb dX7_due_4 rfl hl (by decide) rfl (fun ls hl => ?_)
  refine lv_aload_n hx hb dX7_due_5 rfl (lv_at hl 1 rfl) ?_
  refine r_get7 hc hw k163 15 (by decide) (v := .int (gI S 163 15)) rfl q3_143 dX7_due_6 ?_
  refine lv_bipush (v := (-9)) hx hb dX7_due_9 (by decide) ?_
  refine lv_icmp_ne (tgt := 33) hx hb dX7_due_11 (by decide) (fun c3 => ?_) (fun c3 => ?_)
  · have h := ifF c3 h
    refine lv_iload_n hx hb dX7_due_33 rfl (lv_at hl 0 rfl) ?_
    obtain ⟨rfl, rfl⟩ := sm_inj h
    exact r_iret hc hr hw dX7_due_34
  · have h := ifT c3 h
    refine lv_iload_n hx hb dX7_due_14 rfl (lv_at hl 2 rfl) ?_
    refine lv_if_eq (tgt := 25) hx hb dX7_due_15 (by decide) (fun c4 => ?_) (fun c4 => ?_)
    · have h := ifT c4 h
      refine lv_aload_n hx hb dX7_due_25 rfl (lv_at hl 1 rfl) ?_
      refine lv_aload_n hx hb dX7_due_26 rfl (lv_at hl 1 rfl) ?_
      refine r_get7 hc hw k163 12 (by decide) (v := .int (gI S 163 12)) rfl q3_140 dX7_due_27 ?_
      obtain ⟨S5, e6, h⟩ := nm_some h
      refine r_put7_15 hc hw k163 e6 q3_143 dX7_due_30 (fun H locs hw => ?_)
      refine lv_iload_n hx hb dX7_due_33 rfl (lv_at hl 0 rfl) ?_
      obtain ⟨rfl, rfl⟩ := sm_inj h
      exact r_iret hc hr hw dX7_due_34
    · have h := ifF c4 h
      refine lv_aload_n hx hb dX7_due_18 rfl (lv_at hl 1 rfl) ?_
      obtain ⟨r7, S8, h9, h⟩ := bd_some h
      refine r_callV7v hc hw hl.1 (As := []) (rest := []) k163 (c_X7_read l X  h9) ms_X7_read rfl q3_238 rfl rfl ⟨rfl, rfl, Nat.le_of_ble_eq_true rfl, Nat.le_of_ble_eq_true rfl⟩ (Nat.le_of_ble_eq_true rfl) ⟨Nat.zero_le _, Nat.zero_le _⟩ dX7_due_19 (fun H locs hw => ?_)
      refine lv_goto (tgt := 33) hx hb dX7_due_22 (by decide) ?_
      refine lv_iload_n hx hb dX7_due_33 rfl (lv_at hl 0 rfl) ?_
      obtain ⟨rfl, rfl⟩ := sm_inj h
      exact r_iret hc hr hw dX7_due_34
abbrev rm_X7_manyOf : Room := { frames := 0, cells := 0, slots := 0, locals := 0 }
theorem ms_X7_manyOf : MsS yX7_manyOf cX7_manyOf 3 (some .int) 1 := ⟨⟨q4_66, q1_8, by decide, by decide, by decide⟩, q4_65⟩
set_option maxRecDepth 20000 in
theorem w_X7_manyOf_4 {p : Program} {l : Launch} {e : Env} {s : State} {m : MethodId} {args : Array Value} {below : List Frame} {meth : Method} {c : Code} {X : Wx} {r : Int32} {S' : Mm} (hc : Cx p s m args meth c X cX7_manyOf 3 RX7) (hr : meth.sig.returnType = (some .int))   : ∀ (n : Nat), ∀ (x0 : Int32) (x1 : Int32) (x2 : Int32) (S : Mm) (H : Heap) (locs : List Loc) (ls : Array Slot), Wd X s.heap S H locs → lv_has ls 3 [(0, .int x0), (1, .int x1), (2, .int x2)] → f_X7_manyOf_4 n x0 x1 x2 S = some (r, S') → W p l e rm_X7_manyOf s m args below meth c H locs 0 0 (MQ below (Qq X (some (.int r)) S') args s 0 0 (AA X.1)) (F0 m 4 ls []) := by
  have hx := hc.1
  have hb := hc.2.1
  intro n
  induction n with
  | zero => intro x0 x1 x2 S H locs ls hw hl h; cases h
  | succ n ih =>
    intro x0 x1 x2 S H locs ls hw hl h
    rw [f_X7_manyOf_4] at h
    refine lv_iload_n hx hb dX7_manyOf_4 rfl (lv_at hl 2 rfl) ?_
    refine lv_iconst (v := 5) hx hb dX7_manyOf_5 (by decide) ?_
    refine lv_icmp_ge (tgt := 23) hx hb dX7_manyOf_6 (by decide) (fun c1 => ?_) (fun c1 => ?_)
    · have h := ifT c1 h
      refine lv_iload_n hx hb dX7_manyOf_23 rfl (lv_at hl 1 rfl) ?_
      obtain ⟨rfl, rfl⟩ := sm_inj h
      exact r_iret hc hr hw dX7_manyOf_24
    · have h := ifF c1 h
      refine lv_iload_n hx hb dX7_manyOf_9 rfl (lv_at hl 1 rfl) ?_
      refine lv_iload_n hx hb dX7_manyOf_10 rfl (lv_at hl 0 rfl) ?_
      refine lv_iload_n hx hb dX7_manyOf_11 rfl (lv_at hl 2 rfl) ?_
      refine lv_ishr hx hb dX7_manyOf_12 ?_
      refine lv_iconst (v := 1) hx hb dX7_manyOf_13 (by decide) ?_
      refine lv_iand hx hb dX7_manyOf_14 ?_
      refine lv_iadd hx hb dX7_manyOf_15 ?_
      obtain ⟨v2, e3, h⟩ := nm_some h
      refine r_top e3 ?_
      refine lv_istore_n (lv' := [(1, .int v2), (0, .int x0), (2, .int x2)]) hx hb dX7_manyOf_16 rfl hl (by decide) rfl (fun ls hl => ?_)
      obtain ⟨v4, e5, h⟩ := nm_some h
      refine lv_iinc (v := v4) (lv' := [(2, .int v4), (1, .int v2), (0, .int x0)]) hx hb dX7_manyOf_17 hl (k := 2) rfl (by rw [e5]; rfl) (by decide) rfl (fun ls hl => ?_)
      refine lv_goto (tgt := 4) hx hb dX7_manyOf_20 (by decide) ?_
      exact ih x0 v2 v4 S _ _ _ hw (lv_sub hl [2, 1, 0] rfl) h
set_option maxRecDepth 20000 in
theorem c_X7_manyOf (l : Launch) (X : Wx) {S S' : Mm} {r : Int32} {x0 : Int32}  (h : f_X7_manyOf S x0 = some (r, S')) : Ct l X yX7_manyOf cX7_manyOf 3 (some .int) rm_X7_manyOf [.int x0] S (some (.int r)) S' := by
  refine r_entry (by decide) (Nat.le_of_ble_eq_true rfl) ?_
  intro p e s m args below meth c ls hc hr hw hl
  have hc : Cx p s m args meth c X cX7_manyOf 3 RX7 := hc
  have hl : lv_has ls 3 [(0, .int x0)] := hl
  have hx := hc.1
  have hb := hc.2.1
  unfold f_X7_manyOf at h
  refine lv_iconst (v := 0) hx hb dX7_manyOf_0 (by decide) ?_
  refine lv_istore_n (lv' := [(1, .int 0), (0, .int x0)]) hx hb dX7_manyOf_1 rfl hl (by decide) rfl (fun ls hl => ?_)
  refine lv_iconst (v := 0) hx hb dX7_manyOf_2 (by decide) ?_
  refine lv_istore_n (lv' := [(2, .int 0), (1, .int 0), (0, .int x0)]) hx hb dX7_manyOf_3 rfl hl (by decide) rfl (fun ls hl => ?_)
  exact w_X7_manyOf_4 hc hr 400 x0 0 0 S _ _ _ hw (lv_sub hl [2, 1, 0] rfl) h
abbrev rm_X7_few : Room := { frames := 3, cells := 0, slots := 0, locals := 67 }
theorem ms_X7_few : MsV yX7_few cX7_few 4 (some .int) 1 := ⟨⟨q4_144, q1_8, by decide, by decide, by decide⟩, q4_142, q4_143⟩
set_option maxRecDepth 20000 in
theorem w_X7_few_51 {p : Program} {l : Launch} {e : Env} {s : State} {m : MethodId} {args : Array Value} {below : List Frame} {meth : Method} {c : Code} {X : Wx} {r : Int32} {S' : Mm} (hc : Cx p s m args meth c X cX7_few 4 RX7) (hr : meth.sig.returnType = (some .int))  {kk22 : Int32 → Int32 → Int32 → Mm → Option (Int32 × Mm)} (hk22 : ∀ (x1 : Int32) (x2 : Int32) (x3 : Int32) (S : Mm) (H : Heap) (locs : List Loc) (ls : Array Slot), Wd X s.heap S H locs → lv_has ls 4 [(0, .ref (X.1 + 163)), (1, .int x1), (2, .int x2), (3, .int x3)] → kk22 x1 x2 x3 S = some (r, S') → W p l e rm_X7_few s m args below meth c H locs 0 0 (MQ below (Qq X (some (.int r)) S') args s 0 0 (AA X.1)) (F0 m 22 ls [])) : ∀ (x1 : Int32) (x2 : Int32) (x3 : Int32) (S : Mm) (H : Heap) (locs : List Loc) (ls : Array Slot), Wd X s.heap S H locs → lv_has ls 4 [(0, .ref (X.1 + 163)), (1, .int x1), (2, .int x2), (3, .int x3)] → f_X7_few_51 kk22 x1 x2 x3 S = some (r, S') → W p l e rm_X7_few s m args below meth c H locs 0 0 (MQ below (Qq X (some (.int r)) S') args s 0 0 (AA X.1)) (F0 m 51 ls []) := by
  have hx := hc.1
  have hb := hc.2.1
  intro x1 x2 x3 S H locs ls hw hl h
  unfold f_X7_few_51 at h
  refine lv_aload_n hx hb dX7_few_51 rfl (lv_at hl 0 rfl) ?_
  refine lv_iload_n hx hb dX7_few_52 rfl (lv_at hl 3 rfl) ?_
  obtain ⟨r1, S2, h3, h⟩ := bd_some h
  refine r_callV7v hc hw hl.1 (As := [.int x3]) (rest := []) k163 (c_X7_measure l X  h3) ms_X7_measure rfl q4_92 rfl rfl ⟨rfl, rfl, Nat.le_of_ble_eq_true rfl, Nat.le_of_ble_eq_true rfl⟩ (Nat.le_of_ble_eq_true rfl) ⟨Nat.zero_le _, Nat.zero_le _⟩ dX7_few_53 (fun H locs hw => ?_)
  refine lv_aload_n hx hb dX7_few_56 rfl (lv_at hl 0 rfl) ?_
  refine r_get7 hc hw k163 23 (by decide) (v := .long (gJ S2 163 23)) rfl q3_151 dX7_few_57 ?_
  refine lv_aload_n hx hb dX7_few_60 rfl (lv_at hl 0 rfl) ?_
  refine r_get7 hc hw k163 24 (by decide) (v := .long (gJ S2 163 24)) rfl q3_152 dX7_few_61 ?_
  refine lv_ladd hx hb dX7_few_64 ?_
  refine lv_lconst (v := 0) hx hb dX7_few_65 (by decide) ?_
  refine W.lcmp hx hb dX7_few_66 ?_
  refine lv_if_le (tgt := 98) hx hb dX7_few_67 (by decide) (fun c4 => ?_) (fun c4 => ?_)
  · have h := ifT c4 h
    refine lv_iload_n hx hb dX7_few_98 rfl (lv_at hl 2 rfl) ?_
    refine lv_istore_n (lv' := [(2, .int x2), (0, .ref (X.1 + 163)), (1, .int x1), (3, .int x3)]) hx hb dX7_few_99 rfl hl (by decide) rfl (fun ls hl => ?_)
    obtain ⟨v5, e6, h⟩ := nm_some h
    refine lv_iinc (v := v5) (lv' := [(3, .int v5), (2, .int x2), (0, .ref (X.1 + 163)), (1, .int x1)]) hx hb dX7_few_100 hl (k := 3) rfl (by rw [e6]; rfl) (by decide) rfl (fun ls hl => ?_)
    refine lv_goto (tgt := 22) hx hb dX7_few_103 (by decide) ?_
    exact hk22 x1 x2 v5 S2 _ _ _ hw (lv_sub hl [2, 3, 1, 0] rfl) h
  · have h := ifF c4 h
    refine lv_ldc2 hx hb hc.2.2.2.1 (hc.2.2.2.2.1 _ q4_145) dX7_few_70 ?_
    refine lv_aload_n hx hb dX7_few_73 rfl (lv_at hl 0 rfl) ?_
    refine r_get7 hc hw k163 24 (by decide) (v := .long (gJ S2 163 24)) rfl q3_152 dX7_few_74 ?_
    refine lv_lmul hx hb dX7_few_77 ?_
    refine lv_iload_n hx hb dX7_few_78 rfl (lv_at hl 1 rfl) ?_
    refine lv_i2l hx hb dX7_few_79 rfl ?_
    refine lv_aload_n hx hb dX7_few_80 rfl (lv_at hl 0 rfl) ?_
    refine r_get7 hc hw k163 23 (by decide) (v := .long (gJ S2 163 23)) rfl q3_151 dX7_few_81 ?_
    refine lv_aload_n hx hb dX7_few_84 rfl (lv_at hl 0 rfl) ?_
    refine r_get7 hc hw k163 24 (by decide) (v := .long (gJ S2 163 24)) rfl q3_152 dX7_few_85 ?_
    refine lv_ladd hx hb dX7_few_88 ?_
    refine lv_lmul hx hb dX7_few_89 ?_
    refine W.lcmp hx hb dX7_few_90 ?_
    refine lv_if_gt (tgt := 98) hx hb dX7_few_91 (by decide) (fun c7 => ?_) (fun c7 => ?_)
    · have h := ifT c7 h
      refine lv_iload_n hx hb dX7_few_98 rfl (lv_at hl 2 rfl) ?_
      refine lv_istore_n (lv' := [(2, .int x2), (0, .ref (X.1 + 163)), (1, .int x1), (3, .int x3)]) hx hb dX7_few_99 rfl hl (by decide) rfl (fun ls hl => ?_)
      obtain ⟨v8, e9, h⟩ := nm_some h
      refine lv_iinc (v := v8) (lv' := [(3, .int v8), (2, .int x2), (0, .ref (X.1 + 163)), (1, .int x1)]) hx hb dX7_few_100 hl (k := 3) rfl (by rw [e9]; rfl) (by decide) rfl (fun ls hl => ?_)
      refine lv_goto (tgt := 22) hx hb dX7_few_103 (by decide) ?_
      exact hk22 x1 x2 v8 S2 _ _ _ hw (lv_sub hl [2, 3, 1, 0] rfl) h
    · have h := ifF c7 h
      refine lv_iload_n hx hb dX7_few_94 rfl (lv_at hl 3 rfl) ?_
      refine lv_goto (tgt := 99) hx hb dX7_few_95 (by decide) ?_
      refine lv_istore_n (lv' := [(2, .int x3), (0, .ref (X.1 + 163)), (1, .int x1), (3, .int x3)]) hx hb dX7_few_99 rfl hl (by decide) rfl (fun ls hl => ?_)
      obtain ⟨v10, e11, h⟩ := nm_some h
      refine lv_iinc (v := v10) (lv' := [(3, .int v10), (2, .int x3), (0, .ref (X.1 + 163)), (1, .int x1)]) hx hb dX7_few_100 hl (k := 3) rfl (by rw [e11]; rfl) (by decide) rfl (fun ls hl => ?_)
      refine lv_goto (tgt := 22) hx hb dX7_few_103 (by decide) ?_
      exact hk22 x1 x3 v10 S2 _ _ _ hw (lv_sub hl [2, 3, 1, 0] rfl) h
set_option maxRecDepth 20000 in
theorem w_X7_few_22 {p : Program} {l : Launch} {e : Env} {s : State} {m : MethodId} {args : Array Value} {below : List Frame} {meth : Method} {c : Code} {X : Wx} {r : Int32} {S' : Mm} (hc : Cx p s m args meth c X cX7_few 4 RX7) (hr : meth.sig.returnType = (some .int))   : ∀ (n : Nat), ∀ (x1 : Int32) (x2 : Int32) (x3 : Int32) (S : Mm) (H : Heap) (locs : List Loc) (ls : Array Slot), Wd X s.heap S H locs → lv_has ls 4 [(0, .ref (X.1 + 163)), (1, .int x1), (2, .int x2), (3, .int x3)] → f_X7_few_22 n x1 x2 x3 S = some (r, S') → W p l e rm_X7_few s m args below meth c H locs 0 0 (MQ below (Qq X (some (.int r)) S') args s 0 0 (AA X.1)) (F0 m 22 ls []) := by
  have hx := hc.1
  have hb := hc.2.1
  intro n
  induction n with
  | zero => intro x1 x2 x3 S H locs ls hw hl h; cases h
  | succ n ih =>
    intro x1 x2 x3 S H locs ls hw hl h
    rw [f_X7_few_22] at h
    refine lv_iload_n hx hb dX7_few_22 rfl (lv_at hl 3 rfl) ?_
    refine lv_iconst (v := 1) hx hb dX7_few_23 (by decide) ?_
    refine lv_aload_n hx hb dX7_few_24 rfl (lv_at hl 0 rfl) ?_
    refine r_get7 hc hw k163 3 (by decide) (v := .ref (X.1 + 165)) rfl q3_131 dX7_few_25 ?_
    refine lv_iconst (v := 0) hx hb dX7_few_28 (by decide) ?_
    obtain ⟨b1, h⟩ := bnd_some h
    refine r_iald hc hw k165 (inL b1 l165) dX7_few_29 ?_
    refine lv_ishl hx hb dX7_few_30 ?_
    refine lv_icmp_ge (tgt := 106) hx hb dX7_few_31 (by decide) (fun c2 => ?_) (fun c2 => ?_)
    · have h := ifT c2 h
      refine lv_iload_n hx hb dX7_few_106 rfl (lv_at hl 2 rfl) ?_
      obtain ⟨rfl, rfl⟩ := sm_inj h
      exact r_iret hc hr hw dX7_few_107
    · have h := ifF c2 h
      refine lv_iload_n hx hb dX7_few_34 rfl (lv_at hl 2 rfl) ?_
      refine lv_bipush (v := (-9)) hx hb dX7_few_35 (by decide) ?_
      refine lv_icmp_eq (tgt := 51) hx hb dX7_few_37 (by decide) (fun c3 => ?_) (fun c3 => ?_)
      · have h := ifT c3 h
        exact w_X7_few_51 hc hr ih x1 x2 x3 S _ _ _ hw (lv_sub hl [0, 1, 2, 3] rfl) h
      · have h := ifF c3 h
        refine lv_iload_n hx hb dX7_few_40 rfl (lv_at hl 3 rfl) ?_
        obtain ⟨r4, S5, h6, h⟩ := bd_some h
        refine r_callSi hc hw hl.1 (As := [.int x3]) (rest := []) (c_X7_manyOf l X  h6) ms_X7_manyOf q4_64 rfl rfl ⟨rfl, rfl, Nat.le_of_ble_eq_true rfl, Nat.le_of_ble_eq_true rfl⟩ (Nat.le_of_ble_eq_true rfl) ⟨Nat.zero_le _, Nat.zero_le _⟩ dX7_few_41 (fun H locs hw => ?_)
        refine lv_iload_n hx hb dX7_few_44 rfl (lv_at hl 2 rfl) ?_
        obtain ⟨r7, S8, h9, h⟩ := bd_some h
        refine r_callSi hc hw hl.1 (As := [.int x2]) (rest := [.int r4]) (c_X7_manyOf l X  h9) ms_X7_manyOf q4_64 rfl rfl ⟨rfl, rfl, Nat.le_of_ble_eq_true rfl, Nat.le_of_ble_eq_true rfl⟩ (Nat.le_of_ble_eq_true rfl) ⟨Nat.zero_le _, Nat.zero_le _⟩ dX7_few_45 (fun H locs hw => ?_)
        refine lv_icmp_ge (tgt := 100) hx hb dX7_few_48 (by decide) (fun c10 => ?_) (fun c10 => ?_)
        · have h := ifT c10 h
          obtain ⟨v11, e12, h⟩ := nm_some h
          refine lv_iinc (v := v11) (lv' := [(3, .int v11), (0, .ref (X.1 + 163)), (1, .int x1), (2, .int x2)]) hx hb dX7_few_100 hl (k := 3) rfl (by rw [e12]; rfl) (by decide) rfl (fun ls hl => ?_)
          refine lv_goto (tgt := 22) hx hb dX7_few_103 (by decide) ?_
          exact ih x1 x2 v11 S8 _ _ _ hw (lv_sub hl [1, 2, 3, 0] rfl) h
        · have h := ifF c10 h
          exact w_X7_few_51 hc hr ih x1 x2 x3 S8 _ _ _ hw (lv_sub hl [0, 1, 2, 3] rfl) h
set_option maxRecDepth 20000 in
theorem c_X7_few (l : Launch) (X : Wx) {S S' : Mm} {r : Int32} {x1 : Int32}  (h : f_X7_few S x1 = some (r, S')) : Ct l X yX7_few cX7_few 4 (some .int) rm_X7_few [.ref (X.1 + 163), .int x1] S (some (.int r)) S' := by
  refine r_entry (by decide) (Nat.le_of_ble_eq_true rfl) ?_
  intro p e s m args below meth c ls hc hr hw hl
  have hc : Cx p s m args meth c X cX7_few 4 RX7 := hc
  have hl : lv_has ls 4 [(0, .ref (X.1 + 163)), (1, .int x1)] := hl
  have hx := hc.1
  have hb := hc.2.1
  unfold f_X7_few at h
  refine lv_iload_n hx hb dX7_few_0 rfl (lv_at hl 1 rfl) ?_
  refine lv_iconst (v := 0) hx hb dX7_few_1 (by decide) ?_
  refine lv_sipush (v := 250) hx hb dX7_few_2 (by decide) ?_
  obtain ⟨r1, S2, h3, h⟩ := bd_some h
  refine r_callSi hc hw hl.1 (As := [.int x1, .int 0, .int 250]) (rest := []) (c_X7_in l X  h3) ms_X7_in q3_227 rfl rfl ⟨rfl, rfl, Nat.le_of_ble_eq_true rfl, Nat.le_of_ble_eq_true rfl⟩ (Nat.le_of_ble_eq_true rfl) ⟨Nat.zero_le _, Nat.zero_le _⟩ dX7_few_5 (fun H locs hw => ?_)
  refine lv_if_ne (tgt := 13) hx hb dX7_few_8 (by decide) (fun c4 => ?_) (fun c4 => ?_)
  · have h := ifF c4 h
    refine lv_aload_n hx hb dX7_few_13 rfl (lv_at hl 0 rfl) ?_
    obtain ⟨r5, S6, h7, h⟩ := bd_some h
    refine r_callV7v hc hw hl.1 (As := []) (rest := []) k163 (c_X7_takeRow l X  h7) ms_X7_takeRow rfl q4_88 rfl rfl ⟨rfl, rfl, Nat.le_of_ble_eq_true rfl, Nat.le_of_ble_eq_true rfl⟩ (Nat.le_of_ble_eq_true rfl) ⟨Nat.zero_le _, Nat.zero_le _⟩ dX7_few_14 (fun H locs hw => ?_)
    refine lv_bipush (v := (-9)) hx hb dX7_few_17 (by decide) ?_
    refine lv_istore_n (lv' := [(2, .int (-9)), (0, .ref (X.1 + 163)), (1, .int x1)]) hx hb dX7_few_19 rfl hl (by decide) rfl (fun ls hl => ?_)
    refine lv_iconst (v := 0) hx hb dX7_few_20 (by decide) ?_
    refine lv_istore_n (lv' := [(3, .int 0), (2, .int (-9)), (0, .ref (X.1 + 163)), (1, .int x1)]) hx hb dX7_few_21 rfl hl (by decide) rfl (fun ls hl => ?_)
    exact w_X7_few_22 hc hr 400 x1 ((-9)) 0 S6 _ _ _ hw (lv_sub hl [2, 3, 1, 0] rfl) h
  · have h := ifT c4 h
    refine lv_iconst (v := (-1)) hx hb dX7_few_11 (by decide) ?_
    obtain ⟨rfl, rfl⟩ := sm_inj h
    exact r_iret hc hr hw dX7_few_12
abbrev rm_X7_first : Room := { frames := 3, cells := 0, slots := 0, locals := 67 }
theorem ms_X7_first : MsV yX7_first cX7_first 4 (some .int) 1 := ⟨⟨q4_161, q1_8, by decide, by decide, by decide⟩, q4_159, q4_160⟩
set_option maxRecDepth 20000 in
theorem w_X7_first_19 {p : Program} {l : Launch} {e : Env} {s : State} {m : MethodId} {args : Array Value} {below : List Frame} {meth : Method} {c : Code} {X : Wx} {r : Int32} {S' : Mm} (hc : Cx p s m args meth c X cX7_first 4 RX7) (hr : meth.sig.returnType = (some .int))   : ∀ (n : Nat), ∀ (x1 : Int32) (x2 : Int32) (x3 : Int32) (S : Mm) (H : Heap) (locs : List Loc) (ls : Array Slot), Wd X s.heap S H locs → lv_has ls 4 [(0, .ref (X.1 + 163)), (1, .int x1), (2, .int x2), (3, .int x3)] → f_X7_first_19 n x1 x2 x3 S = some (r, S') → W p l e rm_X7_first s m args below meth c H locs 0 0 (MQ below (Qq X (some (.int r)) S') args s 0 0 (AA X.1)) (F0 m 19 ls []) := by
  have hx := hc.1
  have hb := hc.2.1
  intro n
  induction n with
  | zero => intro x1 x2 x3 S H locs ls hw hl h; cases h
  | succ n ih =>
    intro x1 x2 x3 S H locs ls hw hl h
    rw [f_X7_first_19] at h
    refine lv_iload_n hx hb dX7_first_19 rfl (lv_at hl 3 rfl) ?_
    refine lv_iload_n hx hb dX7_first_20 rfl (lv_at hl 1 rfl) ?_
    refine lv_icmp_gt (tgt := 52) hx hb dX7_first_21 (by decide) (fun c1 => ?_) (fun c1 => ?_)
    · have h := ifT c1 h
      refine lv_aload_n hx hb dX7_first_52 rfl (lv_at hl 0 rfl) ?_
      refine lv_iload_n hx hb dX7_first_53 rfl (lv_at hl 1 rfl) ?_
      obtain ⟨r2, S3, h4, h⟩ := bd_some h
      refine r_callV7i hc hw hl.1 (As := [.int x1]) (rest := []) k163 (c_X7_isTold l X  h4) ms_X7_isTold rfl q4_154 rfl rfl ⟨rfl, rfl, Nat.le_of_ble_eq_true rfl, Nat.le_of_ble_eq_true rfl⟩ (Nat.le_of_ble_eq_true rfl) ⟨Nat.zero_le _, Nat.zero_le _⟩ dX7_first_54 (fun H locs hw => ?_)
      refine lv_if_eq (tgt := 64) hx hb dX7_first_57 (by decide) (fun c5 => ?_) (fun c5 => ?_)
      · have h := ifT c5 h
        refine lv_bipush (v := (-9)) hx hb dX7_first_64 (by decide) ?_
        obtain ⟨rfl, rfl⟩ := sm_inj h
        exact r_iret hc hr hw dX7_first_66
      · have h := ifF c5 h
        refine lv_iload_n hx hb dX7_first_60 rfl (lv_at hl 2 rfl) ?_
        refine lv_goto (tgt := 66) hx hb dX7_first_61 (by decide) ?_
        obtain ⟨rfl, rfl⟩ := sm_inj h
        exact r_iret hc hr hw dX7_first_66
    · have h := ifF c1 h
      refine lv_aload_n hx hb dX7_first_24 rfl (lv_at hl 0 rfl) ?_
      refine r_get7 hc hw k163 26 (by decide) (v := .ref (X.1 + 176)) rfl q3_154 dX7_first_25 ?_
      refine lv_iload_n hx hb dX7_first_28 rfl (lv_at hl 3 rfl) ?_
      obtain ⟨b6, h⟩ := bnd_some h
      refine r_lald hc hw k176 (inL b6 l176) dX7_first_29 ?_
      refine lv_aload_n hx hb dX7_first_30 rfl (lv_at hl 0 rfl) ?_
      refine r_get7 hc hw k163 26 (by decide) (v := .ref (X.1 + 176)) rfl q3_154 dX7_first_31 ?_
      refine lv_iload_n hx hb dX7_first_34 rfl (lv_at hl 2 rfl) ?_
      obtain ⟨b7, h⟩ := bnd_some h
      refine r_lald hc hw k176 (inL b7 l176) dX7_first_35 ?_
      refine W.lcmp hx hb dX7_first_36 ?_
      refine lv_if_le (tgt := 44) hx hb dX7_first_37 (by decide) (fun c8 => ?_) (fun c8 => ?_)
      · have h := ifT c8 h
        refine lv_iload_n hx hb dX7_first_44 rfl (lv_at hl 2 rfl) ?_
        refine lv_istore_n (lv' := [(2, .int x2), (0, .ref (X.1 + 163)), (1, .int x1), (3, .int x3)]) hx hb dX7_first_45 rfl hl (by decide) rfl (fun ls hl => ?_)
        obtain ⟨v9, e10, h⟩ := nm_some h
        refine lv_iinc (v := v9) (lv' := [(3, .int v9), (2, .int x2), (0, .ref (X.1 + 163)), (1, .int x1)]) hx hb dX7_first_46 hl (k := 3) rfl (by rw [e10]; rfl) (by decide) rfl (fun ls hl => ?_)
        refine lv_goto (tgt := 19) hx hb dX7_first_49 (by decide) ?_
        exact ih x1 x2 v9 S _ _ _ hw (lv_sub hl [2, 3, 1, 0] rfl) h
      · have h := ifF c8 h
        refine lv_iload_n hx hb dX7_first_40 rfl (lv_at hl 3 rfl) ?_
        refine lv_goto (tgt := 45) hx hb dX7_first_41 (by decide) ?_
        refine lv_istore_n (lv' := [(2, .int x3), (0, .ref (X.1 + 163)), (1, .int x1), (3, .int x3)]) hx hb dX7_first_45 rfl hl (by decide) rfl (fun ls hl => ?_)
        obtain ⟨v11, e12, h⟩ := nm_some h
        refine lv_iinc (v := v11) (lv' := [(3, .int v11), (2, .int x3), (0, .ref (X.1 + 163)), (1, .int x1)]) hx hb dX7_first_46 hl (k := 3) rfl (by rw [e12]; rfl) (by decide) rfl (fun ls hl => ?_)
        refine lv_goto (tgt := 19) hx hb dX7_first_49 (by decide) ?_
        exact ih x1 x3 v11 S _ _ _ hw (lv_sub hl [2, 3, 1, 0] rfl) h
set_option maxRecDepth 20000 in
theorem c_X7_first (l : Launch) (X : Wx) {S S' : Mm} {r : Int32} {x1 : Int32}  (h : f_X7_first S x1 = some (r, S')) : Ct l X yX7_first cX7_first 4 (some .int) rm_X7_first [.ref (X.1 + 163), .int x1] S (some (.int r)) S' := by
  refine r_entry (by decide) (Nat.le_of_ble_eq_true rfl) ?_
  intro p e s m args below meth c ls hc hr hw hl
  have hc : Cx p s m args meth c X cX7_first 4 RX7 := hc
  have hl : lv_has ls 4 [(0, .ref (X.1 + 163)), (1, .int x1)] := hl
  have hx := hc.1
  have hb := hc.2.1
  unfold f_X7_first at h
  refine lv_aload_n hx hb dX7_first_0 rfl (lv_at hl 0 rfl) ?_
  refine lv_iload_n hx hb dX7_first_1 rfl (lv_at hl 1 rfl) ?_
  obtain ⟨r1, S2, h3, h⟩ := bd_some h
  refine r_callV7i hc hw hl.1 (As := [.int x1]) (rest := []) k163 (c_X7_isStep l X  h3) ms_X7_isStep rfl q4_26 rfl rfl ⟨rfl, rfl, Nat.le_of_ble_eq_true rfl, Nat.le_of_ble_eq_true rfl⟩ (Nat.le_of_ble_eq_true rfl) ⟨Nat.zero_le _, Nat.zero_le _⟩ dX7_first_2 (fun H locs hw => ?_)
  refine lv_if_ne (tgt := 10) hx hb dX7_first_5 (by decide) (fun c4 => ?_) (fun c4 => ?_)
  · have h := ifF c4 h
    refine lv_aload_n hx hb dX7_first_10 rfl (lv_at hl 0 rfl) ?_
    refine lv_iload_n hx hb dX7_first_11 rfl (lv_at hl 1 rfl) ?_
    obtain ⟨r5, S6, h7, h⟩ := bd_some h
    refine r_callV7v hc hw hl.1 (As := [.int x1]) (rest := []) k163 (c_X7_blameFor l X  h7) ms_X7_blameFor rfl q4_150 rfl rfl ⟨rfl, rfl, Nat.le_of_ble_eq_true rfl, Nat.le_of_ble_eq_true rfl⟩ (Nat.le_of_ble_eq_true rfl) ⟨Nat.zero_le _, Nat.zero_le _⟩ dX7_first_12 (fun H locs hw => ?_)
    refine lv_iconst (v := 0) hx hb dX7_first_15 (by decide) ?_
    refine lv_istore_n (lv' := [(2, .int 0), (0, .ref (X.1 + 163)), (1, .int x1)]) hx hb dX7_first_16 rfl hl (by decide) rfl (fun ls hl => ?_)
    refine lv_iconst (v := 1) hx hb dX7_first_17 (by decide) ?_
    refine lv_istore_n (lv' := [(3, .int 1), (2, .int 0), (0, .ref (X.1 + 163)), (1, .int x1)]) hx hb dX7_first_18 rfl hl (by decide) rfl (fun ls hl => ?_)
    exact w_X7_first_19 hc hr 400 x1 0 1 S6 _ _ _ hw (lv_sub hl [2, 3, 1, 0] rfl) h
  · have h := ifT c4 h
    refine lv_iconst (v := (-1)) hx hb dX7_first_8 (by decide) ?_
    obtain ⟨rfl, rfl⟩ := sm_inj h
    exact r_iret hc hr hw dX7_first_9
abbrev rm_X7_forget : Room := { frames := 0, cells := 0, slots := 0, locals := 0 }
theorem ms_X7_forget : MsV yX7_forget cX7_forget 2 (some .int) 0 := ⟨⟨q4_169, q1_8, by decide, by decide, by decide⟩, q4_167, q4_168⟩
set_option maxRecDepth 20000 in
theorem c_X7_forget (l : Launch) (X : Wx) {S S' : Mm} {r : Int32}   (h : f_X7_forget S = some (r, S')) : Ct l X yX7_forget cX7_forget 2 (some .int) rm_X7_forget [.ref (X.1 + 163)] S (some (.int r)) S' := by
  refine r_entry (by decide) (Nat.le_of_ble_eq_true rfl) ?_
  intro p e s m args below meth c ls hc hr hw hl
  have hc : Cx p s m args meth c X cX7_forget 2 RX7 := hc
  have hl : lv_has ls 2 [(0, .ref (X.1 + 163))] := hl
  have hx := hc.1
  have hb := hc.2.1
  unfold f_X7_forget at h
  refine lv_aload_n hx hb dX7_forget_0 rfl (lv_at hl 0 rfl) ?_
  refine r_get7 hc hw k163 30 (by decide) (v := .int (gI S 163 30)) rfl q3_158 dX7_forget_1 ?_
  obtain ⟨v1, e2, h⟩ := nm_some h
  refine r_top e2 ?_
  refine lv_istore_n (lv' := [(1, .int v1), (0, .ref (X.1 + 163))]) hx hb dX7_forget_4 rfl hl (by decide) rfl (fun ls hl => ?_)
  refine lv_aload_n hx hb dX7_forget_5 rfl (lv_at hl 1 rfl) ?_
  refine lv_iconst (v := 0) hx hb dX7_forget_6 (by decide) ?_
  obtain ⟨S3, e4, h⟩ := nm_some h
  refine r_put7_30 hc hw k163 e4 q3_158 dX7_forget_7 (fun H locs hw => ?_)
  refine lv_iload_n hx hb dX7_forget_10 rfl (lv_at hl 0 rfl) ?_
  obtain ⟨rfl, rfl⟩ := sm_inj h
  exact r_iret hc hr hw dX7_forget_11
abbrev rm_X7_go : Room := { frames := 1, cells := 0, slots := 0, locals := 23 }
theorem ms_X7_go : MsV yX7_go cX7_go 6 (some .int) 2 := ⟨⟨q4_52, q1_8, by decide, by decide, by decide⟩, q4_51, qs_35⟩
set_option maxRecDepth 20000 in
theorem w_X7_go_82 {p : Program} {l : Launch} {e : Env} {s : State} {m : MethodId} {args : Array Value} {below : List Frame} {meth : Method} {c : Code} {X : Wx} {r : Int32} {S' : Mm} (hc : Cx p s m args meth c X cX7_go 6 RX7) (hr : meth.sig.returnType = (some .int))  {kk16 : Int32 → Int32 → Int32 → Int32 → Mm → Option (Int32 × Mm)} (hk16 : ∀ (x1 : Int32) (x2 : Int32) (x3 : Int32) (x4 : Int32) (S : Mm) (H : Heap) (locs : List Loc) (ls : Array Slot), Wd X s.heap S H locs → lv_has ls 6 [(0, .ref (X.1 + 163)), (1, .int x1), (2, .int x2), (3, .int x3), (4, .int x4)] → kk16 x1 x2 x3 x4 S = some (r, S') → W p l e rm_X7_go s m args below meth c H locs 0 0 (MQ below (Qq X (some (.int r)) S') args s 0 0 (AA X.1)) (F0 m 16 ls [])) : ∀ (x1 : Int32) (x2 : Int32) (x3 : Int32) (x4 : Int32) (x5 : Int32) (S : Mm) (H : Heap) (locs : List Loc) (ls : Array Slot), Wd X s.heap S H locs → lv_has ls 6 [(0, .ref (X.1 + 163)), (1, .int x1), (2, .int x2), (3, .int x3), (4, .int x4), (5, .int x5)] → f_X7_go_82 kk16 x1 x2 x3 x4 x5 S = some (r, S') → W p l e rm_X7_go s m args below meth c H locs 0 0 (MQ below (Qq X (some (.int r)) S') args s 0 0 (AA X.1)) (F0 m 82 ls []) := by
  have hx := hc.1
  have hb := hc.2.1
  intro x1 x2 x3 x4 x5 S H locs ls hw hl h
  unfold f_X7_go_82 at h
  refine lv_iload_n hx hb dX7_go_82 rfl (lv_at hl 2 rfl) ?_
  refine lv_iload hx hb dX7_go_83 (lv_at hl 5 rfl) ?_
  refine lv_ishr hx hb dX7_go_85 ?_
  refine lv_iconst (v := 1) hx hb dX7_go_86 (by decide) ?_
  refine lv_iand hx hb dX7_go_87 ?_
  refine lv_iconst (v := 1) hx hb dX7_go_88 (by decide) ?_
  refine lv_icmp_ne (tgt := 138) hx hb dX7_go_89 (by decide) (fun c1 => ?_) (fun c1 => ?_)
  · have h := ifF c1 h
    obtain ⟨v2, e3, h⟩ := nm_some h
    refine lv_iinc (v := v2) (lv' := [(4, .int v2), (0, .ref (X.1 + 163)), (1, .int x1), (2, .int x2), (3, .int x3), (5, .int x5)]) hx hb dX7_go_138 hl (k := 4) rfl (by rw [e3]; rfl) (by decide) rfl (fun ls hl => ?_)
    refine lv_goto (tgt := 16) hx hb dX7_go_141 (by decide) ?_
    exact hk16 x1 x2 x3 v2 S _ _ _ hw (lv_sub hl [1, 2, 3, 4, 0] rfl) h
  · have h := ifT c1 h
    refine lv_aload_n hx hb dX7_go_92 rfl (lv_at hl 0 rfl) ?_
    refine lv_dup hx hb dX7_go_93 rfl ?_
    refine r_get7 hc hw k163 18 (by decide) (v := .int (gI S 163 18)) rfl q3_146 dX7_go_94 ?_
    refine lv_aload_n hx hb dX7_go_97 rfl (lv_at hl 0 rfl) ?_
    refine r_get7 hc hw k163 6 (by decide) (v := .ref (X.1 + 168)) rfl q3_134 dX7_go_98 ?_
    refine lv_iload hx hb dX7_go_101 (lv_at hl 5 rfl) ?_
    obtain ⟨b4, h⟩ := bnd_some h
    refine r_iald hc hw k168 (inL b4 l168) dX7_go_103 ?_
    refine lv_iadd hx hb dX7_go_104 ?_
    obtain ⟨S5, e6, h⟩ := nm_some h
    refine r_put7_18 hc hw k163 e6 q3_146 dX7_go_105 (fun H locs hw => ?_)
    refine lv_iload_n hx hb dX7_go_108 rfl (lv_at hl 3 rfl) ?_
    refine lv_if_eq (tgt := 138) hx hb dX7_go_109 (by decide) (fun c7 => ?_) (fun c7 => ?_)
    · have h := ifT c7 h
      obtain ⟨v8, e9, h⟩ := nm_some h
      refine lv_iinc (v := v8) (lv' := [(4, .int v8), (0, .ref (X.1 + 163)), (1, .int x1), (2, .int x2), (3, .int x3), (5, .int x5)]) hx hb dX7_go_138 hl (k := 4) rfl (by rw [e9]; rfl) (by decide) rfl (fun ls hl => ?_)
      refine lv_goto (tgt := 16) hx hb dX7_go_141 (by decide) ?_
      exact hk16 x1 x2 x3 v8 S5 _ _ _ hw (lv_sub hl [1, 2, 3, 4, 0] rfl) h
    · have h := ifF c7 h
      refine lv_iload_n hx hb dX7_go_112 rfl (lv_at hl 1 rfl) ?_
      refine lv_iload hx hb dX7_go_113 (lv_at hl 5 rfl) ?_
      refine lv_iconst (v := 5) hx hb dX7_go_115 (by decide) ?_
      refine lv_iadd hx hb dX7_go_116 ?_
      obtain ⟨r10, S11, h12, h⟩ := bd_some h
      refine r_callSi hc hw hl.1 (As := [.int x1, .int (x5 + 5)]) (rest := []) (c_X7_drawOf l X  h12) ms_X7_drawOf q4_53 rfl rfl ⟨rfl, rfl, Nat.le_of_ble_eq_true rfl, Nat.le_of_ble_eq_true rfl⟩ (Nat.le_of_ble_eq_true rfl) ⟨Nat.zero_le _, Nat.zero_le _⟩ dX7_go_117 (fun H locs hw => ?_)
      refine lv_aload_n hx hb dX7_go_120 rfl (lv_at hl 0 rfl) ?_
      refine r_get7 hc hw k163 7 (by decide) (v := .ref (X.1 + 169)) rfl q3_135 dX7_go_121 ?_
      refine lv_iload hx hb dX7_go_124 (lv_at hl 5 rfl) ?_
      obtain ⟨b13, h⟩ := bnd_some h
      refine r_iald hc hw k169 (inL b13 l169) dX7_go_126 ?_
      refine lv_icmp_lt (tgt := 138) hx hb dX7_go_127 (by decide) (fun c14 => ?_) (fun c14 => ?_)
      · have h := ifT c14 h
        obtain ⟨v15, e16, h⟩ := nm_some h
        refine lv_iinc (v := v15) (lv' := [(4, .int v15), (0, .ref (X.1 + 163)), (1, .int x1), (2, .int x2), (3, .int x3), (5, .int x5)]) hx hb dX7_go_138 hl (k := 4) rfl (by rw [e16]; rfl) (by decide) rfl (fun ls hl => ?_)
        refine lv_goto (tgt := 16) hx hb dX7_go_141 (by decide) ?_
        exact hk16 x1 x2 x3 v15 S11 _ _ _ hw (lv_sub hl [1, 2, 3, 4, 0] rfl) h
      · have h := ifF c14 h
        refine lv_aload_n hx hb dX7_go_130 rfl (lv_at hl 0 rfl) ?_
        refine lv_iload hx hb dX7_go_131 (lv_at hl 5 rfl) ?_
        obtain ⟨S17, e18, h⟩ := nm_some h
        refine r_put7_19 hc hw k163 e18 q3_147 dX7_go_133 (fun H locs hw => ?_)
        refine lv_iconst (v := 2) hx hb dX7_go_136 (by decide) ?_
        obtain ⟨rfl, rfl⟩ := sm_inj h
        exact r_iret hc hr hw dX7_go_137
set_option maxRecDepth 20000 in
theorem w_X7_go_76 {p : Program} {l : Launch} {e : Env} {s : State} {m : MethodId} {args : Array Value} {below : List Frame} {meth : Method} {c : Code} {X : Wx} {r : Int32} {S' : Mm} (hc : Cx p s m args meth c X cX7_go 6 RX7) (hr : meth.sig.returnType = (some .int))  {kk16 : Int32 → Int32 → Int32 → Int32 → Mm → Option (Int32 × Mm)} (hk16 : ∀ (x1 : Int32) (x2 : Int32) (x3 : Int32) (x4 : Int32) (S : Mm) (H : Heap) (locs : List Loc) (ls : Array Slot), Wd X s.heap S H locs → lv_has ls 6 [(0, .ref (X.1 + 163)), (1, .int x1), (2, .int x2), (3, .int x3), (4, .int x4)] → kk16 x1 x2 x3 x4 S = some (r, S') → W p l e rm_X7_go s m args below meth c H locs 0 0 (MQ below (Qq X (some (.int r)) S') args s 0 0 (AA X.1)) (F0 m 16 ls [])) : ∀ (x1 : Int32) (x2 : Int32) (x4 : Int32) (x5 : Int32) (S : Mm) (H : Heap) (locs : List Loc) (ls : Array Slot), Wd X s.heap S H locs → lv_has ls 6 [(0, .ref (X.1 + 163)), (1, .int x1), (2, .int x2), (4, .int x4), (5, .int x5)] → f_X7_go_76 kk16 x1 x2 x4 x5 S = some (r, S') → W p l e rm_X7_go s m args below meth c H locs 0 0 (MQ below (Qq X (some (.int r)) S') args s 0 0 (AA X.1)) (F0 m 76 ls []) := by
  have hx := hc.1
  have hb := hc.2.1
  intro x1 x2 x4 x5 S H locs ls hw hl h
  unfold f_X7_go_76 at h
  refine lv_iconst (v := 1) hx hb dX7_go_76 (by decide) ?_
  refine lv_goto (tgt := 81) hx hb dX7_go_77 (by decide) ?_
  refine lv_istore_n (lv' := [(3, .int 1), (0, .ref (X.1 + 163)), (1, .int x1), (2, .int x2), (4, .int x4), (5, .int x5)]) hx hb dX7_go_81 rfl hl (by decide) rfl (fun ls hl => ?_)
  exact w_X7_go_82 hc hr hk16 x1 x2 1 x4 x5 S _ _ _ hw (lv_sub hl [1, 2, 3, 0, 4, 5] rfl) h
set_option maxRecDepth 20000 in
theorem w_X7_go_16 {p : Program} {l : Launch} {e : Env} {s : State} {m : MethodId} {args : Array Value} {below : List Frame} {meth : Method} {c : Code} {X : Wx} {r : Int32} {S' : Mm} (hc : Cx p s m args meth c X cX7_go 6 RX7) (hr : meth.sig.returnType = (some .int))   : ∀ (n : Nat), ∀ (x1 : Int32) (x2 : Int32) (x3 : Int32) (x4 : Int32) (S : Mm) (H : Heap) (locs : List Loc) (ls : Array Slot), Wd X s.heap S H locs → lv_has ls 6 [(0, .ref (X.1 + 163)), (1, .int x1), (2, .int x2), (3, .int x3), (4, .int x4)] → f_X7_go_16 n x1 x2 x3 x4 S = some (r, S') → W p l e rm_X7_go s m args below meth c H locs 0 0 (MQ below (Qq X (some (.int r)) S') args s 0 0 (AA X.1)) (F0 m 16 ls []) := by
  have hx := hc.1
  have hb := hc.2.1
  intro n
  induction n with
  | zero => intro x1 x2 x3 x4 S H locs ls hw hl h; cases h
  | succ n ih =>
    intro x1 x2 x3 x4 S H locs ls hw hl h
    rw [f_X7_go_16] at h
    refine lv_iload hx hb dX7_go_16 (lv_at hl 4 rfl) ?_
    refine lv_aload_n hx hb dX7_go_18 rfl (lv_at hl 0 rfl) ?_
    refine r_get7 hc hw k163 3 (by decide) (v := .ref (X.1 + 165)) rfl q3_131 dX7_go_19 ?_
    refine lv_iconst (v := 0) hx hb dX7_go_22 (by decide) ?_
    obtain ⟨b1, h⟩ := bnd_some h
    refine r_iald hc hw k165 (inL b1 l165) dX7_go_23 ?_
    refine lv_icmp_ge (tgt := 144) hx hb dX7_go_24 (by decide) (fun c2 => ?_) (fun c2 => ?_)
    · have h := ifT c2 h
      refine lv_aload_n hx hb dX7_go_144 rfl (lv_at hl 0 rfl) ?_
      refine lv_dup hx hb dX7_go_145 rfl ?_
      refine r_get7 hc hw k163 18 (by decide) (v := .int (gI S 163 18)) rfl q3_146 dX7_go_146 ?_
      refine lv_iload_n hx hb dX7_go_149 rfl (lv_at hl 3 rfl) ?_
      refine lv_if_eq (tgt := 162) hx hb dX7_go_150 (by decide) (fun c3 => ?_) (fun c3 => ?_)
      · have h := ifT c3 h
        refine lv_iconst (v := 0) hx hb dX7_go_162 (by decide) ?_
        refine lv_iadd hx hb dX7_go_163 ?_
        obtain ⟨S4, e5, h⟩ := nm_some h
        refine r_put7_18 hc hw k163 e5 q3_146 dX7_go_164 (fun H locs hw => ?_)
        refine lv_iload_n hx hb dX7_go_167 rfl (lv_at hl 3 rfl) ?_
        refine lv_if_eq (tgt := 175) hx hb dX7_go_168 (by decide) (fun c6 => ?_) (fun c6 => ?_)
        · have h := ifT c6 h
          refine lv_iconst (v := 0) hx hb dX7_go_175 (by decide) ?_
          obtain ⟨rfl, rfl⟩ := sm_inj h
          exact r_iret hc hr hw dX7_go_176
        · have h := ifF c6 h
          refine lv_iconst (v := 1) hx hb dX7_go_171 (by decide) ?_
          refine lv_goto (tgt := 176) hx hb dX7_go_172 (by decide) ?_
          obtain ⟨rfl, rfl⟩ := sm_inj h
          exact r_iret hc hr hw dX7_go_176
      · have h := ifF c3 h
        refine lv_aload_n hx hb dX7_go_153 rfl (lv_at hl 0 rfl) ?_
        refine r_get7 hc hw k163 9 (by decide) (v := .ref (X.1 + 171)) rfl q3_137 dX7_go_154 ?_
        refine lv_iconst (v := 0) hx hb dX7_go_157 (by decide) ?_
        obtain ⟨b7, h⟩ := bnd_some h
        refine r_iald hc hw k171 (inL b7 l171) dX7_go_158 ?_
        refine lv_goto (tgt := 163) hx hb dX7_go_159 (by decide) ?_
        refine lv_iadd hx hb dX7_go_163 ?_
        obtain ⟨S8, e9, h⟩ := nm_some h
        refine r_put7_18 hc hw k163 e9 q3_146 dX7_go_164 (fun H locs hw => ?_)
        refine lv_iload_n hx hb dX7_go_167 rfl (lv_at hl 3 rfl) ?_
        refine lv_if_eq (tgt := 175) hx hb dX7_go_168 (by decide) (fun c10 => ?_) (fun c10 => ?_)
        · have h := ifT c10 h
          refine lv_iconst (v := 0) hx hb dX7_go_175 (by decide) ?_
          obtain ⟨rfl, rfl⟩ := sm_inj h
          exact r_iret hc hr hw dX7_go_176
        · have h := ifF c10 h
          refine lv_iconst (v := 1) hx hb dX7_go_171 (by decide) ?_
          refine lv_goto (tgt := 176) hx hb dX7_go_172 (by decide) ?_
          obtain ⟨rfl, rfl⟩ := sm_inj h
          exact r_iret hc hr hw dX7_go_176
    · have h := ifF c2 h
      refine lv_aload_n hx hb dX7_go_27 rfl (lv_at hl 0 rfl) ?_
      refine r_get7 hc hw k163 16 (by decide) (v := .ref (X.1 + 172)) rfl q3_144 dX7_go_28 ?_
      refine lv_iconst (v := 0) hx hb dX7_go_31 (by decide) ?_
      refine lv_iload hx hb dX7_go_32 (lv_at hl 4 rfl) ?_
      refine lv_iadd hx hb dX7_go_34 ?_
      obtain ⟨b11, h⟩ := bnd_some h
      refine r_iald hc hw k172 (inL b11 l172) dX7_go_35 ?_
      obtain ⟨v12, e13, h⟩ := nm_some h
      refine r_top e13 ?_
      refine lv_istore (lv' := [(5, .int v12), (0, .ref (X.1 + 163)), (1, .int x1), (2, .int x2), (3, .int x3), (4, .int x4)]) hx hb dX7_go_36 hl (by decide) rfl (fun ls hl => ?_)
      refine lv_aload_n hx hb dX7_go_38 rfl (lv_at hl 1 rfl) ?_
      refine lv_dup hx hb dX7_go_39 rfl ?_
      refine r_get7 hc hw k163 18 (by decide) (v := .int (gI S 163 18)) rfl q3_146 dX7_go_40 ?_
      refine lv_aload_n hx hb dX7_go_43 rfl (lv_at hl 1 rfl) ?_
      refine r_get7 hc hw k163 4 (by decide) (v := .ref (X.1 + 166)) rfl q3_132 dX7_go_44 ?_
      refine lv_iload hx hb dX7_go_47 (lv_at hl 0 rfl) ?_
      obtain ⟨b14, h⟩ := bnd_some h
      refine r_iald hc hw k166 (inL b14 l166) dX7_go_49 ?_
      refine lv_iadd hx hb dX7_go_50 ?_
      obtain ⟨S15, e16, h⟩ := nm_some h
      refine r_put7_18 hc hw k163 e16 q3_146 dX7_go_51 (fun H locs hw => ?_)
      refine lv_iload_n hx hb dX7_go_54 rfl (lv_at hl 4 rfl) ?_
      refine lv_if_ne (tgt := 76) hx hb dX7_go_55 (by decide) (fun c17 => ?_) (fun c17 => ?_)
      · have h := ifF c17 h
        exact w_X7_go_76 hc hr ih x1 x2 x4 v12 S15 _ _ _ hw (lv_sub hl [1, 2, 3, 5, 0] rfl) h
      · have h := ifT c17 h
        refine lv_iload_n hx hb dX7_go_58 rfl (lv_at hl 2 rfl) ?_
        refine lv_iload hx hb dX7_go_59 (lv_at hl 0 rfl) ?_
        obtain ⟨r18, S19, h20, h⟩ := bd_some h
        refine r_callSi hc hw hl.1 (As := [.int x1, .int v12]) (rest := []) (c_X7_drawOf l X  h20) ms_X7_drawOf q4_53 rfl rfl ⟨rfl, rfl, Nat.le_of_ble_eq_true rfl, Nat.le_of_ble_eq_true rfl⟩ (Nat.le_of_ble_eq_true rfl) ⟨Nat.zero_le _, Nat.zero_le _⟩ dX7_go_61 (fun H locs hw => ?_)
        refine lv_aload_n hx hb dX7_go_64 rfl (lv_at hl 1 rfl) ?_
        refine r_get7 hc hw k163 16 (by decide) (v := .ref (X.1 + 172)) rfl q3_144 dX7_go_65 ?_
        refine lv_iconst (v := 5) hx hb dX7_go_68 (by decide) ?_
        refine lv_iload hx hb dX7_go_69 (lv_at hl 0 rfl) ?_
        refine lv_iadd hx hb dX7_go_71 ?_
        obtain ⟨b21, h⟩ := bnd_some h
        refine r_iald hc hw k172 (inL b21 l172) dX7_go_72 ?_
        refine lv_icmp_ge (tgt := 80) hx hb dX7_go_73 (by decide) (fun c22 => ?_) (fun c22 => ?_)
        · have h := ifT c22 h
          refine lv_iconst (v := 0) hx hb dX7_go_80 (by decide) ?_
          refine lv_istore_n (lv' := [(3, .int 0), (5, .int v12), (0, .ref (X.1 + 163)), (1, .int x1), (2, .int x2), (4, .int x4)]) hx hb dX7_go_81 rfl hl (by decide) rfl (fun ls hl => ?_)
          exact w_X7_go_82 hc hr ih x1 x2 0 x4 v12 S19 _ _ _ hw (lv_sub hl [2, 3, 4, 0, 5, 1] rfl) h
        · have h := ifF c22 h
          exact w_X7_go_76 hc hr ih x1 x2 x4 v12 S19 _ _ _ hw (lv_sub hl [1, 2, 3, 5, 0] rfl) h
set_option maxRecDepth 20000 in
theorem c_X7_go (l : Launch) (X : Wx) {S S' : Mm} {r : Int32} {x1 : Int32} {x2 : Int32}  (h : f_X7_go S x1 x2 = some (r, S')) : Ct l X yX7_go cX7_go 6 (some .int) rm_X7_go [.ref (X.1 + 163), .int x1, .int x2] S (some (.int r)) S' := by
  refine r_entry (by decide) (Nat.le_of_ble_eq_true rfl) ?_
  intro p e s m args below meth c ls hc hr hw hl
  have hc : Cx p s m args meth c X cX7_go 6 RX7 := hc
  have hl : lv_has ls 6 [(0, .ref (X.1 + 163)), (1, .int x1), (2, .int x2)] := hl
  have hx := hc.1
  have hb := hc.2.1
  unfold f_X7_go at h
  refine lv_iconst (v := 0) hx hb dX7_go_0 (by decide) ?_
  refine lv_istore_n (lv' := [(3, .int 0), (0, .ref (X.1 + 163)), (1, .int x1), (2, .int x2)]) hx hb dX7_go_1 rfl hl (by decide) rfl (fun ls hl => ?_)
  refine lv_aload_n hx hb dX7_go_2 rfl (lv_at hl 1 rfl) ?_
  refine lv_iconst (v := 0) hx hb dX7_go_3 (by decide) ?_
  obtain ⟨S1, e2, h⟩ := nm_some h
  refine r_put7_18 hc hw k163 e2 q3_146 dX7_go_4 (fun H locs hw => ?_)
  refine lv_aload_n hx hb dX7_go_7 rfl (lv_at hl 1 rfl) ?_
  refine lv_bipush (v := (-9)) hx hb dX7_go_8 (by decide) ?_
  obtain ⟨S3, e4, h⟩ := nm_some h
  refine r_put7_19 hc hw k163 e4 q3_147 dX7_go_10 (fun H locs hw => ?_)
  refine lv_iconst (v := 0) hx hb dX7_go_13 (by decide) ?_
  refine lv_istore (lv' := [(4, .int 0), (3, .int 0), (0, .ref (X.1 + 163)), (1, .int x1), (2, .int x2)]) hx hb dX7_go_14 hl (by decide) rfl (fun ls hl => ?_)
  exact w_X7_go_16 hc hr 400 x1 x2 0 0 S3 _ _ _ hw (lv_sub hl [2, 3, 4, 1, 0] rfl) h
abbrev rm_X7_isSeed : Room := { frames := 1, cells := 0, slots := 0, locals := 22 }
theorem ms_X7_isSeed : MsS yX7_isSeed cX7_isSeed 1 (some .boolean) 1 := ⟨⟨q4_44, q1_8, by decide, by decide, by decide⟩, q4_43⟩
set_option maxRecDepth 20000 in
theorem c_X7_isSeed (l : Launch) (X : Wx) {S S' : Mm} {r : Int32} {x0 : Int32}  (h : f_X7_isSeed S x0 = some (r, S')) : Ct l X yX7_isSeed cX7_isSeed 1 (some .boolean) rm_X7_isSeed [.int x0] S (some (.int r)) S' := by
  refine r_entry (by decide) (Nat.le_of_ble_eq_true rfl) ?_
  intro p e s m args below meth c ls hc hr hw hl
  have hc : Cx p s m args meth c X cX7_isSeed 1 RX7 := hc
  have hl : lv_has ls 1 [(0, .int x0)] := hl
  have hx := hc.1
  have hb := hc.2.1
  unfold f_X7_isSeed at h
  refine lv_iload_n hx hb dX7_isSeed_0 rfl (lv_at hl 0 rfl) ?_
  refine lv_iconst (v := 0) hx hb dX7_isSeed_1 (by decide) ?_
  refine lv_sipush (v := 9999) hx hb dX7_isSeed_2 (by decide) ?_
  obtain ⟨r1, S2, h3, h⟩ := bd_some h
  refine r_callSi hc hw hl.1 (As := [.int x0, .int 0, .int 9999]) (rest := []) (c_X7_in l X  h3) ms_X7_in q3_227 rfl rfl ⟨rfl, rfl, Nat.le_of_ble_eq_true rfl, Nat.le_of_ble_eq_true rfl⟩ (Nat.le_of_ble_eq_true rfl) ⟨Nat.zero_le _, Nat.zero_le _⟩ dX7_isSeed_5 (fun H locs hw => ?_)
  obtain ⟨b4, h⟩ := bnd_some h
  obtain ⟨rfl, rfl⟩ := sm_inj h
  exact r_zret hc hr (of_decide_eq_true b4) hw dX7_isSeed_8
abbrev rm_X7_keep : Room := { frames := 1, cells := 0, slots := 0, locals := 22 }
theorem ms_X7_keep : MsV yX7_keep cX7_keep 3 (some .int) 1 := ⟨⟨q4_187, q1_8, by decide, by decide, by decide⟩, q4_185, q4_186⟩
set_option maxRecDepth 20000 in
theorem w_X7_keep_13 {p : Program} {l : Launch} {e : Env} {s : State} {m : MethodId} {args : Array Value} {below : List Frame} {meth : Method} {c : Code} {X : Wx} {r : Int32} {S' : Mm} (hc : Cx p s m args meth c X cX7_keep 3 RX7) (hr : meth.sig.returnType = (some .int))   : ∀ (n : Nat), ∀ (x1 : Int32) (x2 : Int32) (S : Mm) (H : Heap) (locs : List Loc) (ls : Array Slot), Wd X s.heap S H locs → lv_has ls 3 [(0, .ref (X.1 + 163)), (1, .int x1), (2, .int x2)] → f_X7_keep_13 n x1 x2 S = some (r, S') → W p l e rm_X7_keep s m args below meth c H locs 0 0 (MQ below (Qq X (some (.int r)) S') args s 0 0 (AA X.1)) (F0 m 13 ls []) := by
  have hx := hc.1
  have hb := hc.2.1
  intro n
  induction n with
  | zero => intro x1 x2 S H locs ls hw hl h; cases h
  | succ n ih =>
    intro x1 x2 S H locs ls hw hl h
    rw [f_X7_keep_13] at h
    refine lv_iload_n hx hb dX7_keep_13 rfl (lv_at hl 2 rfl) ?_
    refine lv_sipush (v := 221) hx hb dX7_keep_14 (by decide) ?_
    refine lv_icmp_ge (tgt := 46) hx hb dX7_keep_17 (by decide) (fun c1 => ?_) (fun c1 => ?_)
    · have h := ifT c1 h
      refine lv_aload_n hx hb dX7_keep_46 rfl (lv_at hl 0 rfl) ?_
      refine r_get7 hc hw k163 17 (by decide) (v := .ref (X.1 + 173)) rfl q3_145 dX7_keep_47 ?_
      refine lv_iload_n hx hb dX7_keep_50 rfl (lv_at hl 1 rfl) ?_
      refine lv_iconst (v := 1) hx hb dX7_keep_51 (by decide) ?_
      obtain ⟨b2, h⟩ := bnd_some h
      obtain ⟨S3, e4, h⟩ := nm_some h
      refine r_zast hc hw k173 (inL b2 l173) e4 dX7_keep_52 (fun H locs hw => ?_)
      refine lv_aload_n hx hb dX7_keep_53 rfl (lv_at hl 0 rfl) ?_
      refine r_get7 hc hw k163 16 (by decide) (v := .ref (X.1 + 172)) rfl q3_144 dX7_keep_54 ?_
      refine lv_bipush (v := 11) hx hb dX7_keep_57 (by decide) ?_
      obtain ⟨b5, h⟩ := bnd_some h
      refine r_iald hc hw k172 (inL b5 l172) dX7_keep_59 ?_
      obtain ⟨rfl, rfl⟩ := sm_inj h
      exact r_iret hc hr hw dX7_keep_60
    · have h := ifF c1 h
      refine lv_aload_n hx hb dX7_keep_20 rfl (lv_at hl 0 rfl) ?_
      refine r_get7 hc hw k163 16 (by decide) (v := .ref (X.1 + 172)) rfl q3_144 dX7_keep_21 ?_
      refine lv_sipush (v := 221) hx hb dX7_keep_24 (by decide) ?_
      refine lv_iconst (v := 1) hx hb dX7_keep_27 (by decide) ?_
      refine lv_iload_n hx hb dX7_keep_28 rfl (lv_at hl 1 rfl) ?_
      refine lv_iadd hx hb dX7_keep_29 ?_
      refine lv_imul hx hb dX7_keep_30 ?_
      refine lv_iload_n hx hb dX7_keep_31 rfl (lv_at hl 2 rfl) ?_
      refine lv_iadd hx hb dX7_keep_32 ?_
      refine lv_aload_n hx hb dX7_keep_33 rfl (lv_at hl 0 rfl) ?_
      refine r_get7 hc hw k163 16 (by decide) (v := .ref (X.1 + 172)) rfl q3_144 dX7_keep_34 ?_
      refine lv_iload_n hx hb dX7_keep_37 rfl (lv_at hl 2 rfl) ?_
      obtain ⟨b6, h⟩ := bnd_some h
      refine r_iald hc hw k172 (inL b6 l172) dX7_keep_38 ?_
      obtain ⟨b7, h⟩ := bnd_some h
      obtain ⟨S8, e9, h⟩ := nm_some h
      refine r_iast hc hw k172 (inL b7 l172) e9 dX7_keep_39 (fun H locs hw => ?_)
      obtain ⟨v10, e11, h⟩ := nm_some h
      refine lv_iinc (v := v10) (lv' := [(2, .int v10), (0, .ref (X.1 + 163)), (1, .int x1)]) hx hb dX7_keep_40 hl (k := 2) rfl (by rw [e11]; rfl) (by decide) rfl (fun ls hl => ?_)
      refine lv_goto (tgt := 13) hx hb dX7_keep_43 (by decide) ?_
      exact ih x1 v10 S8 _ _ _ hw (lv_sub hl [1, 2, 0] rfl) h
set_option maxRecDepth 20000 in
theorem c_X7_keep (l : Launch) (X : Wx) {S S' : Mm} {r : Int32} {x1 : Int32}  (h : f_X7_keep S x1 = some (r, S')) : Ct l X yX7_keep cX7_keep 3 (some .int) rm_X7_keep [.ref (X.1 + 163), .int x1] S (some (.int r)) S' := by
  refine r_entry (by decide) (Nat.le_of_ble_eq_true rfl) ?_
  intro p e s m args below meth c ls hc hr hw hl
  have hc : Cx p s m args meth c X cX7_keep 3 RX7 := hc
  have hl : lv_has ls 3 [(0, .ref (X.1 + 163)), (1, .int x1)] := hl
  have hx := hc.1
  have hb := hc.2.1
  unfold f_X7_keep at h
  refine lv_iload_n hx hb dX7_keep_0 rfl (lv_at hl 1 rfl) ?_
  refine lv_iconst (v := 0) hx hb dX7_keep_1 (by decide) ?_
  refine lv_iconst (v := 1) hx hb dX7_keep_2 (by decide) ?_
  obtain ⟨r1, S2, h3, h⟩ := bd_some h
  refine r_callSi hc hw hl.1 (As := [.int x1, .int 0, .int 1]) (rest := []) (c_X7_in l X  h3) ms_X7_in q3_227 rfl rfl ⟨rfl, rfl, Nat.le_of_ble_eq_true rfl, Nat.le_of_ble_eq_true rfl⟩ (Nat.le_of_ble_eq_true rfl) ⟨Nat.zero_le _, Nat.zero_le _⟩ dX7_keep_3 (fun H locs hw => ?_)
  refine lv_if_ne (tgt := 11) hx hb dX7_keep_6 (by decide) (fun c4 => ?_) (fun c4 => ?_)
  · have h := ifF c4 h
    refine lv_iconst (v := 0) hx hb dX7_keep_11 (by decide) ?_
    refine lv_istore_n (lv' := [(2, .int 0), (0, .ref (X.1 + 163)), (1, .int x1)]) hx hb dX7_keep_12 rfl hl (by decide) rfl (fun ls hl => ?_)
    exact w_X7_keep_13 hc hr 400 x1 0 S2 _ _ _ hw (lv_sub hl [1, 2, 0] rfl) h
  · have h := ifT c4 h
    refine lv_iconst (v := (-1)) hx hb dX7_keep_9 (by decide) ?_
    obtain ⟨rfl, rfl⟩ := sm_inj h
    exact r_iret hc hr hw dX7_keep_10
abbrev rm_X7_know : Room := { frames := 0, cells := 0, slots := 0, locals := 0 }
theorem ms_X7_know : MsV yX7_know cX7_know 2 none 0 := ⟨⟨q4_48, q1_8, by decide, by decide, by decide⟩, q4_47, qs_34⟩
set_option maxRecDepth 20000 in
theorem w_X7_know_58 {p : Program} {l : Launch} {e : Env} {s : State} {m : MethodId} {args : Array Value} {below : List Frame} {meth : Method} {c : Code} {X : Wx} {r : Unit} {S' : Mm} (hc : Cx p s m args meth c X cX7_know 2 RX7) (hr : meth.sig.returnType = none)   : ∀ (n : Nat), ∀ (x1 : Int32) (S : Mm) (H : Heap) (locs : List Loc) (ls : Array Slot), Wd X s.heap S H locs → lv_has ls 2 [(0, .ref (X.1 + 163)), (1, .int x1)] → f_X7_know_58 n x1 S = some (r, S') → W p l e rm_X7_know s m args below meth c H locs 0 0 (MQ below (Qq X none S') args s 0 0 (AA X.1)) (F0 m 58 ls []) := by
  have hx := hc.1
  have hb := hc.2.1
  intro n
  induction n with
  | zero => intro x1 S H locs ls hw hl h; cases h
  | succ n ih =>
    intro x1 S H locs ls hw hl h
    rw [f_X7_know_58] at h
    refine lv_iload_n hx hb dX7_know_58 rfl (lv_at hl 1 rfl) ?_
    refine lv_bipush (v := 20) hx hb dX7_know_59 (by decide) ?_
    refine lv_icmp_ge (tgt := 96) hx hb dX7_know_61 (by decide) (fun c1 => ?_) (fun c1 => ?_)
    · have h := ifT c1 h
      refine lv_aload_n hx hb dX7_know_96 rfl (lv_at hl 0 rfl) ?_
      refine r_get7 hc hw k163 16 (by decide) (v := .ref (X.1 + 172)) rfl q3_144 dX7_know_97 ?_
      refine lv_bipush (v := 20) hx hb dX7_know_100 (by decide) ?_
      refine lv_dup2_11 hx hb dX7_know_102 rfl rfl ?_
      obtain ⟨b2, h⟩ := bnd_some h
      refine r_iald hc hw k172 (inL b2 l172) dX7_know_103 ?_
      refine lv_iconst (v := 1) hx hb dX7_know_104 (by decide) ?_
      refine lv_iadd hx hb dX7_know_105 ?_
      obtain ⟨b3, h⟩ := bnd_some h
      obtain ⟨S4, e5, h⟩ := nm_some h
      refine r_iast hc hw k172 (inL b3 l172) e5 dX7_know_106 (fun H locs hw => ?_)
      obtain ⟨rfl, rfl⟩ := sm_inj h
      exact r_vret hc hr hw dX7_know_107
    · have h := ifF c1 h
      refine lv_aload_n hx hb dX7_know_64 rfl (lv_at hl 0 rfl) ?_
      refine r_get7 hc hw k163 16 (by decide) (v := .ref (X.1 + 172)) rfl q3_144 dX7_know_65 ?_
      refine lv_bipush (v := 21) hx hb dX7_know_68 (by decide) ?_
      refine lv_bipush (v := 20) hx hb dX7_know_70 (by decide) ?_
      refine lv_aload_n hx hb dX7_know_72 rfl (lv_at hl 0 rfl) ?_
      refine r_get7 hc hw k163 16 (by decide) (v := .ref (X.1 + 172)) rfl q3_144 dX7_know_73 ?_
      refine lv_bipush (v := 20) hx hb dX7_know_76 (by decide) ?_
      obtain ⟨b6, h⟩ := bnd_some h
      refine r_iald hc hw k172 (inL b6 l172) dX7_know_78 ?_
      refine lv_imul hx hb dX7_know_79 ?_
      refine lv_iadd hx hb dX7_know_80 ?_
      refine lv_iload_n hx hb dX7_know_81 rfl (lv_at hl 1 rfl) ?_
      refine lv_iadd hx hb dX7_know_82 ?_
      refine lv_aload_n hx hb dX7_know_83 rfl (lv_at hl 0 rfl) ?_
      refine r_get7 hc hw k163 16 (by decide) (v := .ref (X.1 + 172)) rfl q3_144 dX7_know_84 ?_
      refine lv_iload_n hx hb dX7_know_87 rfl (lv_at hl 1 rfl) ?_
      obtain ⟨b7, h⟩ := bnd_some h
      refine r_iald hc hw k172 (inL b7 l172) dX7_know_88 ?_
      obtain ⟨b8, h⟩ := bnd_some h
      obtain ⟨S9, e10, h⟩ := nm_some h
      refine r_iast hc hw k172 (inL b8 l172) e10 dX7_know_89 (fun H locs hw => ?_)
      obtain ⟨v11, e12, h⟩ := nm_some h
      refine lv_iinc (v := v11) (lv' := [(1, .int v11), (0, .ref (X.1 + 163))]) hx hb dX7_know_90 hl (k := 1) rfl (by rw [e12]; rfl) (by decide) rfl (fun ls hl => ?_)
      refine lv_goto (tgt := 58) hx hb dX7_know_93 (by decide) ?_
      exact ih v11 S9 _ _ _ hw (lv_sub hl [1, 0] rfl) h
set_option maxRecDepth 20000 in
theorem w_X7_know_14 {p : Program} {l : Launch} {e : Env} {s : State} {m : MethodId} {args : Array Value} {below : List Frame} {meth : Method} {c : Code} {X : Wx} {r : Unit} {S' : Mm} (hc : Cx p s m args meth c X cX7_know 2 RX7) (hr : meth.sig.returnType = none)   : ∀ (n : Nat), ∀ (x1 : Int32) (S : Mm) (H : Heap) (locs : List Loc) (ls : Array Slot), Wd X s.heap S H locs → lv_has ls 2 [(0, .ref (X.1 + 163)), (1, .int x1)] → f_X7_know_14 n x1 S = some (r, S') → W p l e rm_X7_know s m args below meth c H locs 0 0 (MQ below (Qq X none S') args s 0 0 (AA X.1)) (F0 m 14 ls []) := by
  have hx := hc.1
  have hb := hc.2.1
  intro n
  induction n with
  | zero => intro x1 S H locs ls hw hl h; cases h
  | succ n ih =>
    intro x1 S H locs ls hw hl h
    rw [f_X7_know_14] at h
    refine lv_iload_n hx hb dX7_know_14 rfl (lv_at hl 1 rfl) ?_
    refine lv_sipush (v := 180) hx hb dX7_know_15 (by decide) ?_
    refine lv_icmp_ge (tgt := 45) hx hb dX7_know_18 (by decide) (fun c1 => ?_) (fun c1 => ?_)
    · have h := ifT c1 h
      refine lv_aload_n hx hb dX7_know_45 rfl (lv_at hl 0 rfl) ?_
      refine r_get7 hc hw k163 16 (by decide) (v := .ref (X.1 + 172)) rfl q3_144 dX7_know_46 ?_
      refine lv_bipush (v := 20) hx hb dX7_know_49 (by decide) ?_
      refine lv_dup2_11 hx hb dX7_know_51 rfl rfl ?_
      obtain ⟨b2, h⟩ := bnd_some h
      refine r_iald hc hw k172 (inL b2 l172) dX7_know_52 ?_
      refine lv_iconst (v := 1) hx hb dX7_know_53 (by decide) ?_
      refine lv_isub hx hb dX7_know_54 ?_
      obtain ⟨b3, h⟩ := bnd_some h
      obtain ⟨S4, e5, h⟩ := nm_some h
      refine r_iast hc hw k172 (inL b3 l172) e5 dX7_know_55 (fun H locs hw => ?_)
      refine lv_iconst (v := 0) hx hb dX7_know_56 (by decide) ?_
      refine lv_istore_n (lv' := [(1, .int 0), (0, .ref (X.1 + 163))]) hx hb dX7_know_57 rfl hl (by decide) rfl (fun ls hl => ?_)
      exact w_X7_know_58 hc hr 400 0 S4 _ _ _ hw (lv_sub hl [1, 0] rfl) h
    · have h := ifF c1 h
      refine lv_aload_n hx hb dX7_know_21 rfl (lv_at hl 0 rfl) ?_
      refine r_get7 hc hw k163 16 (by decide) (v := .ref (X.1 + 172)) rfl q3_144 dX7_know_22 ?_
      refine lv_bipush (v := 21) hx hb dX7_know_25 (by decide) ?_
      refine lv_iload_n hx hb dX7_know_27 rfl (lv_at hl 1 rfl) ?_
      refine lv_iadd hx hb dX7_know_28 ?_
      refine lv_aload_n hx hb dX7_know_29 rfl (lv_at hl 0 rfl) ?_
      refine r_get7 hc hw k163 16 (by decide) (v := .ref (X.1 + 172)) rfl q3_144 dX7_know_30 ?_
      refine lv_bipush (v := 41) hx hb dX7_know_33 (by decide) ?_
      refine lv_iload_n hx hb dX7_know_35 rfl (lv_at hl 1 rfl) ?_
      refine lv_iadd hx hb dX7_know_36 ?_
      obtain ⟨b6, h⟩ := bnd_some h
      refine r_iald hc hw k172 (inL b6 l172) dX7_know_37 ?_
      obtain ⟨b7, h⟩ := bnd_some h
      obtain ⟨S8, e9, h⟩ := nm_some h
      refine r_iast hc hw k172 (inL b7 l172) e9 dX7_know_38 (fun H locs hw => ?_)
      obtain ⟨v10, e11, h⟩ := nm_some h
      refine lv_iinc (v := v10) (lv' := [(1, .int v10), (0, .ref (X.1 + 163))]) hx hb dX7_know_39 hl (k := 1) rfl (by rw [e11]; rfl) (by decide) rfl (fun ls hl => ?_)
      refine lv_goto (tgt := 14) hx hb dX7_know_42 (by decide) ?_
      exact ih v10 S8 _ _ _ hw (lv_sub hl [1, 0] rfl) h
set_option maxRecDepth 20000 in
theorem c_X7_know (l : Launch) (X : Wx) {S S' : Mm} {r : Unit}   (h : f_X7_know S = some (r, S')) : Ct l X yX7_know cX7_know 2 none rm_X7_know [.ref (X.1 + 163)] S none S' := by
  refine r_entry (by decide) (Nat.le_of_ble_eq_true rfl) ?_
  intro p e s m args below meth c ls hc hr hw hl
  have hc : Cx p s m args meth c X cX7_know 2 RX7 := hc
  have hl : lv_has ls 2 [(0, .ref (X.1 + 163))] := hl
  have hx := hc.1
  have hb := hc.2.1
  unfold f_X7_know at h
  refine lv_aload_n hx hb dX7_know_0 rfl (lv_at hl 0 rfl) ?_
  refine r_get7 hc hw k163 16 (by decide) (v := .ref (X.1 + 172)) rfl q3_144 dX7_know_1 ?_
  refine lv_bipush (v := 20) hx hb dX7_know_4 (by decide) ?_
  obtain ⟨b1, h⟩ := bnd_some h
  refine r_iald hc hw k172 (inL b1 l172) dX7_know_6 ?_
  refine lv_bipush (v := 10) hx hb dX7_know_7 (by decide) ?_
  refine lv_icmp_ne (tgt := 56) hx hb dX7_know_9 (by decide) (fun c2 => ?_) (fun c2 => ?_)
  · have h := ifF c2 h
    refine lv_iconst (v := 0) hx hb dX7_know_56 (by decide) ?_
    refine lv_istore_n (lv' := [(1, .int 0), (0, .ref (X.1 + 163))]) hx hb dX7_know_57 rfl hl (by decide) rfl (fun ls hl => ?_)
    exact w_X7_know_58 hc hr 400 0 S _ _ _ hw (lv_sub hl [1, 0] rfl) h
  · have h := ifT c2 h
    refine lv_iconst (v := 0) hx hb dX7_know_12 (by decide) ?_
    refine lv_istore_n (lv' := [(1, .int 0), (0, .ref (X.1 + 163))]) hx hb dX7_know_13 rfl hl (by decide) rfl (fun ls hl => ?_)
    exact w_X7_know_14 hc hr 400 0 S _ _ _ hw (lv_sub hl [1, 0] rfl) h
abbrev rm_X7_line : Room := { frames := 2, cells := 0, slots := 0, locals := 43 }
theorem ms_X7_line : MsV yX7_line cX7_line 2 (some .int) 1 := ⟨⟨q4_37, q1_8, by decide, by decide, by decide⟩, q4_35, q4_36⟩
set_option maxRecDepth 20000 in
theorem c_X7_line (l : Launch) (X : Wx) {S S' : Mm} {r : Int32} {x1 : Int32}  (h : f_X7_line S x1 = some (r, S')) : Ct l X yX7_line cX7_line 2 (some .int) rm_X7_line [.ref (X.1 + 163), .int x1] S (some (.int r)) S' := by
  refine r_entry (by decide) (Nat.le_of_ble_eq_true rfl) ?_
  intro p e s m args below meth c ls hc hr hw hl
  have hc : Cx p s m args meth c X cX7_line 2 RX7 := hc
  have hl : lv_has ls 2 [(0, .ref (X.1 + 163)), (1, .int x1)] := hl
  have hx := hc.1
  have hb := hc.2.1
  unfold f_X7_line at h
  refine lv_aload_n hx hb dX7_line_0 rfl (lv_at hl 0 rfl) ?_
  refine lv_iload_n hx hb dX7_line_1 rfl (lv_at hl 1 rfl) ?_
  obtain ⟨r1, S2, h3, h⟩ := bd_some h
  refine r_callV7i hc hw hl.1 (As := [.int x1]) (rest := []) k163 (c_X7_isStep l X  h3) ms_X7_isStep rfl q4_26 rfl rfl ⟨rfl, rfl, Nat.le_of_ble_eq_true rfl, Nat.le_of_ble_eq_true rfl⟩ (Nat.le_of_ble_eq_true rfl) ⟨Nat.zero_le _, Nat.zero_le _⟩ dX7_line_2 (fun H locs hw => ?_)
  refine lv_if_eq (tgt := 19) hx hb dX7_line_5 (by decide) (fun c4 => ?_) (fun c4 => ?_)
  · have h := ifT c4 h
    refine lv_iconst (v := (-1)) hx hb dX7_line_19 (by decide) ?_
    obtain ⟨rfl, rfl⟩ := sm_inj h
    exact r_iret hc hr hw dX7_line_20
  · have h := ifF c4 h
    refine lv_aload_n hx hb dX7_line_8 rfl (lv_at hl 0 rfl) ?_
    refine r_get7 hc hw k163 16 (by decide) (v := .ref (X.1 + 172)) rfl q3_144 dX7_line_9 ?_
    refine lv_iconst (v := 0) hx hb dX7_line_12 (by decide) ?_
    refine lv_iload_n hx hb dX7_line_13 rfl (lv_at hl 1 rfl) ?_
    refine lv_iadd hx hb dX7_line_14 ?_
    obtain ⟨b5, h⟩ := bnd_some h
    refine r_iald hc hw k172 (inL b5 l172) dX7_line_15 ?_
    refine lv_goto (tgt := 20) hx hb dX7_line_16 (by decide) ?_
    obtain ⟨rfl, rfl⟩ := sm_inj h
    exact r_iret hc hr hw dX7_line_20
abbrev rm_X7_looks : Room := { frames := 2, cells := 0, slots := 0, locals := 43 }
theorem ms_X7_looks : MsV yX7_looks cX7_looks 3 (some .int) 2 := ⟨⟨q4_63, q1_8, by decide, by decide, by decide⟩, q4_61, q4_62⟩
set_option maxRecDepth 20000 in
theorem c_X7_looks (l : Launch) (X : Wx) {S S' : Mm} {r : Int32} {x1 : Int32} {x2 : Int32}  (h : f_X7_looks S x1 x2 = some (r, S')) : Ct l X yX7_looks cX7_looks 3 (some .int) rm_X7_looks [.ref (X.1 + 163), .int x1, .int x2] S (some (.int r)) S' := by
  refine r_entry (by decide) (Nat.le_of_ble_eq_true rfl) ?_
  intro p e s m args below meth c ls hc hr hw hl
  have hc : Cx p s m args meth c X cX7_looks 3 RX7 := hc
  have hl : lv_has ls 3 [(0, .ref (X.1 + 163)), (1, .int x1), (2, .int x2)] := hl
  have hx := hc.1
  have hb := hc.2.1
  unfold f_X7_looks at h
  refine lv_aload_n hx hb dX7_looks_0 rfl (lv_at hl 0 rfl) ?_
  refine lv_iload_n hx hb dX7_looks_1 rfl (lv_at hl 1 rfl) ?_
  obtain ⟨r1, S2, h3, h⟩ := bd_some h
  refine r_callV7i hc hw hl.1 (As := [.int x1]) (rest := []) k163 (c_X7_isStep l X  h3) ms_X7_isStep rfl q4_26 rfl rfl ⟨rfl, rfl, Nat.le_of_ble_eq_true rfl, Nat.le_of_ble_eq_true rfl⟩ (Nat.le_of_ble_eq_true rfl) ⟨Nat.zero_le _, Nat.zero_le _⟩ dX7_looks_2 (fun H locs hw => ?_)
  refine lv_if_eq (tgt := 17) hx hb dX7_looks_5 (by decide) (fun c4 => ?_) (fun c4 => ?_)
  · have h := ifT c4 h
    refine lv_iconst (v := (-1)) hx hb dX7_looks_17 (by decide) ?_
    obtain ⟨rfl, rfl⟩ := sm_inj h
    exact r_iret hc hr hw dX7_looks_18
  · have h := ifF c4 h
    refine lv_iload_n hx hb dX7_looks_8 rfl (lv_at hl 2 rfl) ?_
    refine lv_iconst (v := 0) hx hb dX7_looks_9 (by decide) ?_
    refine lv_iconst (v := 1) hx hb dX7_looks_10 (by decide) ?_
    obtain ⟨r5, S6, h7, h⟩ := bd_some h
    refine r_callSi hc hw hl.1 (As := [.int x2, .int 0, .int 1]) (rest := []) (c_X7_in l X  h7) ms_X7_in q3_227 rfl rfl ⟨rfl, rfl, Nat.le_of_ble_eq_true rfl, Nat.le_of_ble_eq_true rfl⟩ (Nat.le_of_ble_eq_true rfl) ⟨Nat.zero_le _, Nat.zero_le _⟩ dX7_looks_11 (fun H locs hw => ?_)
    refine lv_if_ne (tgt := 19) hx hb dX7_looks_14 (by decide) (fun c8 => ?_) (fun c8 => ?_)
    · have h := ifF c8 h
      refine lv_aload_n hx hb dX7_looks_19 rfl (lv_at hl 0 rfl) ?_
      refine r_get7 hc hw k163 16 (by decide) (v := .ref (X.1 + 172)) rfl q3_144 dX7_looks_20 ?_
      refine lv_bipush (v := 10) hx hb dX7_looks_23 (by decide) ?_
      obtain ⟨b9, h⟩ := bnd_some h
      refine r_iald hc hw k172 (inL b9 l172) dX7_looks_25 ?_
      refine lv_iload_n hx hb dX7_looks_26 rfl (lv_at hl 1 rfl) ?_
      refine lv_ishr hx hb dX7_looks_27 ?_
      refine lv_iconst (v := 1) hx hb dX7_looks_28 (by decide) ?_
      refine lv_iand hx hb dX7_looks_29 ?_
      refine lv_iload_n hx hb dX7_looks_30 rfl (lv_at hl 2 rfl) ?_
      refine lv_icmp_ne (tgt := 37) hx hb dX7_looks_31 (by decide) (fun c10 => ?_) (fun c10 => ?_)
      · have h := ifF c10 h
        refine lv_aload_n hx hb dX7_looks_37 rfl (lv_at hl 0 rfl) ?_
        obtain ⟨r11, S12, h13, h⟩ := bd_some h
        refine r_callV7v hc hw hl.1 (As := []) (rest := []) k163 (c_X7_know l X  h13) ms_X7_know rfl q4_45 rfl rfl ⟨rfl, rfl, Nat.le_of_ble_eq_true rfl, Nat.le_of_ble_eq_true rfl⟩ (Nat.le_of_ble_eq_true rfl) ⟨Nat.zero_le _, Nat.zero_le _⟩ dX7_looks_38 (fun H locs hw => ?_)
        refine lv_aload_n hx hb dX7_looks_41 rfl (lv_at hl 0 rfl) ?_
        refine r_get7 hc hw k163 16 (by decide) (v := .ref (X.1 + 172)) rfl q3_144 dX7_looks_42 ?_
        refine lv_bipush (v := 10) hx hb dX7_looks_45 (by decide) ?_
        refine lv_dup2_11 hx hb dX7_looks_47 rfl rfl ?_
        obtain ⟨b14, h⟩ := bnd_some h
        refine r_iald hc hw k172 (inL b14 l172) dX7_looks_48 ?_
        refine lv_iconst (v := 1) hx hb dX7_looks_49 (by decide) ?_
        refine lv_iload_n hx hb dX7_looks_50 rfl (lv_at hl 1 rfl) ?_
        refine lv_ishl hx hb dX7_looks_51 ?_
        refine lv_ixor hx hb dX7_looks_52 ?_
        obtain ⟨b15, h⟩ := bnd_some h
        obtain ⟨S16, e17, h⟩ := nm_some h
        refine r_iast hc hw k172 (inL b15 l172) e17 dX7_looks_53 (fun H locs hw => ?_)
        refine lv_aload_n hx hb dX7_looks_54 rfl (lv_at hl 0 rfl) ?_
        refine r_get7 hc hw k163 16 (by decide) (v := .ref (X.1 + 172)) rfl q3_144 dX7_looks_55 ?_
        refine lv_bipush (v := 10) hx hb dX7_looks_58 (by decide) ?_
        obtain ⟨b18, h⟩ := bnd_some h
        refine r_iald hc hw k172 (inL b18 l172) dX7_looks_60 ?_
        obtain ⟨r19, S20, h21, h⟩ := bd_some h
        refine r_callSi hc hw hl.1 (As := [.int (gI S16 172 (10 : Int32).toNatClampNeg)]) (rest := []) (c_X7_manyOf l X  h21) ms_X7_manyOf q4_64 rfl rfl ⟨rfl, rfl, Nat.le_of_ble_eq_true rfl, Nat.le_of_ble_eq_true rfl⟩ (Nat.le_of_ble_eq_true rfl) ⟨Nat.zero_le _, Nat.zero_le _⟩ dX7_looks_61 (fun H locs hw => ?_)
        obtain ⟨rfl, rfl⟩ := sm_inj h
        exact r_iret hc hr hw dX7_looks_64
      · have h := ifT c10 h
        refine lv_bipush (v := (-2)) hx hb dX7_looks_34 (by decide) ?_
        obtain ⟨rfl, rfl⟩ := sm_inj h
        exact r_iret hc hr hw dX7_looks_36
    · have h := ifT c8 h
      refine lv_iconst (v := (-1)) hx hb dX7_looks_17 (by decide) ?_
      obtain ⟨rfl, rfl⟩ := sm_inj h
      exact r_iret hc hr hw dX7_looks_18
abbrev rm_X7_lost : Room := { frames := 3, cells := 0, slots := 0, locals := 67 }
theorem ms_X7_lost : MsV yX7_lost cX7_lost 3 (some .long) 2 := ⟨⟨q4_120, q1_8, by decide, by decide, by decide⟩, q4_118, q4_119⟩
set_option maxRecDepth 20000 in
theorem c_X7_lost (l : Launch) (X : Wx) {S S' : Mm} {r : Int64} {x1 : Int32} {x2 : Int32}  (h : f_X7_lost S x1 x2 = some (r, S')) : Ct l X yX7_lost cX7_lost 3 (some .long) rm_X7_lost [.ref (X.1 + 163), .int x1, .int x2] S (some (.long r)) S' := by
  refine r_entry (by decide) (Nat.le_of_ble_eq_true rfl) ?_
  intro p e s m args below meth c ls hc hr hw hl
  have hc : Cx p s m args meth c X cX7_lost 3 RX7 := hc
  have hl : lv_has ls 3 [(0, .ref (X.1 + 163)), (1, .int x1), (2, .int x2)] := hl
  have hx := hc.1
  have hb := hc.2.1
  unfold f_X7_lost at h
  refine lv_aload_n hx hb dX7_lost_0 rfl (lv_at hl 0 rfl) ?_
  refine lv_iload_n hx hb dX7_lost_1 rfl (lv_at hl 1 rfl) ?_
  obtain ⟨r1, S2, h3, h⟩ := bd_some h
  refine r_callV7i hc hw hl.1 (As := [.int x1]) (rest := []) k163 (c_X7_isStep l X  h3) ms_X7_isStep rfl q4_26 rfl rfl ⟨rfl, rfl, Nat.le_of_ble_eq_true rfl, Nat.le_of_ble_eq_true rfl⟩ (Nat.le_of_ble_eq_true rfl) ⟨Nat.zero_le _, Nat.zero_le _⟩ dX7_lost_2 (fun H locs hw => ?_)
  refine lv_if_eq (tgt := 17) hx hb dX7_lost_5 (by decide) (fun c4 => ?_) (fun c4 => ?_)
  · have h := ifT c4 h
    refine lv_ldc2 hx hb hc.2.2.2.1 (hc.2.2.2.2.1 _ q4_87) dX7_lost_17 ?_
    obtain ⟨rfl, rfl⟩ := sm_inj h
    exact r_lret hc hr hw dX7_lost_20
  · have h := ifF c4 h
    refine lv_iload_n hx hb dX7_lost_8 rfl (lv_at hl 2 rfl) ?_
    refine lv_iconst (v := 0) hx hb dX7_lost_9 (by decide) ?_
    refine lv_iconst (v := 1) hx hb dX7_lost_10 (by decide) ?_
    obtain ⟨r5, S6, h7, h⟩ := bd_some h
    refine r_callSi hc hw hl.1 (As := [.int x2, .int 0, .int 1]) (rest := []) (c_X7_in l X  h7) ms_X7_in q3_227 rfl rfl ⟨rfl, rfl, Nat.le_of_ble_eq_true rfl, Nat.le_of_ble_eq_true rfl⟩ (Nat.le_of_ble_eq_true rfl) ⟨Nat.zero_le _, Nat.zero_le _⟩ dX7_lost_11 (fun H locs hw => ?_)
    refine lv_if_ne (tgt := 21) hx hb dX7_lost_14 (by decide) (fun c8 => ?_) (fun c8 => ?_)
    · have h := ifF c8 h
      refine lv_aload_n hx hb dX7_lost_21 rfl (lv_at hl 0 rfl) ?_
      obtain ⟨r9, S10, h11, h⟩ := bd_some h
      refine r_callV7v hc hw hl.1 (As := []) (rest := []) k163 (c_X7_takeRow l X  h11) ms_X7_takeRow rfl q4_88 rfl rfl ⟨rfl, rfl, Nat.le_of_ble_eq_true rfl, Nat.le_of_ble_eq_true rfl⟩ (Nat.le_of_ble_eq_true rfl) ⟨Nat.zero_le _, Nat.zero_le _⟩ dX7_lost_22 (fun H locs hw => ?_)
      refine lv_aload_n hx hb dX7_lost_25 rfl (lv_at hl 0 rfl) ?_
      refine lv_aload_n hx hb dX7_lost_26 rfl (lv_at hl 0 rfl) ?_
      refine r_get7 hc hw k163 16 (by decide) (v := .ref (X.1 + 172)) rfl q3_144 dX7_lost_27 ?_
      refine lv_bipush (v := 10) hx hb dX7_lost_30 (by decide) ?_
      obtain ⟨b12, h⟩ := bnd_some h
      refine r_iald hc hw k172 (inL b12 l172) dX7_lost_32 ?_
      obtain ⟨r13, S14, h15, h⟩ := bd_some h
      refine r_callV7v hc hw hl.1 (As := [.int (gI S10 172 (10 : Int32).toNatClampNeg)]) (rest := []) k163 (c_X7_measure l X  h15) ms_X7_measure rfl q4_92 rfl rfl ⟨rfl, rfl, Nat.le_of_ble_eq_true rfl, Nat.le_of_ble_eq_true rfl⟩ (Nat.le_of_ble_eq_true rfl) ⟨Nat.zero_le _, Nat.zero_le _⟩ dX7_lost_33 (fun H locs hw => ?_)
      refine lv_aload_n hx hb dX7_lost_36 rfl (lv_at hl 0 rfl) ?_
      refine r_get7 hc hw k163 25 (by decide) (v := .ref (X.1 + 175)) rfl q3_153 dX7_lost_37 ?_
      refine lv_iload_n hx hb dX7_lost_40 rfl (lv_at hl 1 rfl) ?_
      obtain ⟨b16, h⟩ := bnd_some h
      refine r_lald hc hw k175 (inL b16 l175) dX7_lost_41 ?_
      refine lv_aload_n hx hb dX7_lost_42 rfl (lv_at hl 0 rfl) ?_
      refine r_get7 hc hw k163 21 (by decide) (v := .long (gJ S14 163 21)) rfl q3_149 dX7_lost_43 ?_
      refine lv_iload_n hx hb dX7_lost_46 rfl (lv_at hl 2 rfl) ?_
      obtain ⟨r17, S18, h19, h⟩ := bd_some h
      refine r_callSl hc hw hl.1 (As := [.long (gJ S14 175 x1.toNatClampNeg), .long (gJ S14 163 21), .int x2]) (rest := []) (c_X7_part l X  h19) ms_X7_part q4_113 rfl rfl ⟨rfl, rfl, Nat.le_of_ble_eq_true rfl, Nat.le_of_ble_eq_true rfl⟩ (Nat.le_of_ble_eq_true rfl) ⟨Nat.zero_le _, Nat.zero_le _⟩ dX7_lost_47 (fun H locs hw => ?_)
      obtain ⟨rfl, rfl⟩ := sm_inj h
      exact r_lret hc hr hw dX7_lost_50
    · have h := ifT c8 h
      refine lv_ldc2 hx hb hc.2.2.2.1 (hc.2.2.2.2.1 _ q4_87) dX7_lost_17 ?_
      obtain ⟨rfl, rfl⟩ := sm_inj h
      exact r_lret hc hr hw dX7_lost_20
abbrev rm_X7_makes : Room := { frames := 2, cells := 0, slots := 0, locals := 48 }
theorem ms_X7_makes : MsV yX7_makes cX7_makes 3 (some .int) 1 := ⟨⟨q4_41, q1_8, by decide, by decide, by decide⟩, q4_39, q4_40⟩
set_option maxRecDepth 20000 in
theorem w_X7_makes_114 {p : Program} {l : Launch} {e : Env} {s : State} {m : MethodId} {args : Array Value} {below : List Frame} {meth : Method} {c : Code} {X : Wx} {r : Int32} {S' : Mm} (hc : Cx p s m args meth c X cX7_makes 3 RX7) (hr : meth.sig.returnType = (some .int))   : ∀ (x2 : Int32) (S : Mm) (H : Heap) (locs : List Loc) (ls : Array Slot), Wd X s.heap S H locs → lv_has ls 3 [(0, .ref (X.1 + 163)), (2, .int x2)] → f_X7_makes_114 x2 S = some (r, S') → W p l e rm_X7_makes s m args below meth c H locs 0 0 (MQ below (Qq X (some (.int r)) S') args s 0 0 (AA X.1)) (F0 m 114 ls []) := by
  have hx := hc.1
  have hb := hc.2.1
  intro x2 S H locs ls hw hl h
  unfold f_X7_makes_114 at h
  refine lv_aload_n hx hb dX7_makes_114 rfl (lv_at hl 0 rfl) ?_
  refine r_get7 hc hw k163 16 (by decide) (v := .ref (X.1 + 172)) rfl q3_144 dX7_makes_115 ?_
  refine lv_bipush (v := 19) hx hb dX7_makes_118 (by decide) ?_
  refine lv_dup2_11 hx hb dX7_makes_120 rfl rfl ?_
  obtain ⟨b1, h⟩ := bnd_some h
  refine r_iald hc hw k172 (inL b1 l172) dX7_makes_121 ?_
  refine lv_aload_n hx hb dX7_makes_122 rfl (lv_at hl 0 rfl) ?_
  refine r_get7 hc hw k163 18 (by decide) (v := .int (gI S 163 18)) rfl q3_146 dX7_makes_123 ?_
  refine lv_iadd hx hb dX7_makes_126 ?_
  obtain ⟨b2, h⟩ := bnd_some h
  obtain ⟨S3, e4, h⟩ := nm_some h
  refine r_iast hc hw k172 (inL b2 l172) e4 dX7_makes_127 (fun H locs hw => ?_)
  refine lv_aload_n hx hb dX7_makes_128 rfl (lv_at hl 0 rfl) ?_
  refine r_get7 hc hw k163 16 (by decide) (v := .ref (X.1 + 172)) rfl q3_144 dX7_makes_129 ?_
  refine lv_bipush (v := 19) hx hb dX7_makes_132 (by decide) ?_
  refine lv_aload_n hx hb dX7_makes_134 rfl (lv_at hl 0 rfl) ?_
  refine r_get7 hc hw k163 16 (by decide) (v := .ref (X.1 + 172)) rfl q3_144 dX7_makes_135 ?_
  refine lv_bipush (v := 19) hx hb dX7_makes_138 (by decide) ?_
  obtain ⟨b5, h⟩ := bnd_some h
  refine r_iald hc hw k172 (inL b5 l172) dX7_makes_140 ?_
  refine lv_ldc hx hb hc.2.2.2.1 (hc.2.2.2.2.1 _ q4_59) dX7_makes_141 ?_
  refine lv_icmp_le (tgt := 151) hx hb dX7_makes_143 (by decide) (fun c6 => ?_) (fun c6 => ?_)
  · have h := ifT c6 h
    refine lv_aload_n hx hb dX7_makes_151 rfl (lv_at hl 0 rfl) ?_
    refine r_get7 hc hw k163 16 (by decide) (v := .ref (X.1 + 172)) rfl q3_144 dX7_makes_152 ?_
    refine lv_bipush (v := 19) hx hb dX7_makes_155 (by decide) ?_
    obtain ⟨b7, h⟩ := bnd_some h
    refine r_iald hc hw k172 (inL b7 l172) dX7_makes_157 ?_
    obtain ⟨b8, h⟩ := bnd_some h
    obtain ⟨S9, e10, h⟩ := nm_some h
    refine r_iast hc hw k172 (inL b8 l172) e10 dX7_makes_158 (fun H locs hw => ?_)
    refine lv_iload_n hx hb dX7_makes_159 rfl (lv_at hl 1 rfl) ?_
    obtain ⟨rfl, rfl⟩ := sm_inj h
    exact r_iret hc hr hw dX7_makes_160
  · have h := ifF c6 h
    refine lv_ldc hx hb hc.2.2.2.1 (hc.2.2.2.2.1 _ q4_59) dX7_makes_146 ?_
    refine lv_goto (tgt := 158) hx hb dX7_makes_148 (by decide) ?_
    obtain ⟨b11, h⟩ := bnd_some h
    obtain ⟨S12, e13, h⟩ := nm_some h
    refine r_iast hc hw k172 (inL b11 l172) e13 dX7_makes_158 (fun H locs hw => ?_)
    refine lv_iload_n hx hb dX7_makes_159 rfl (lv_at hl 1 rfl) ?_
    obtain ⟨rfl, rfl⟩ := sm_inj h
    exact r_iret hc hr hw dX7_makes_160
set_option maxRecDepth 20000 in
theorem w_X7_makes_93 {p : Program} {l : Launch} {e : Env} {s : State} {m : MethodId} {args : Array Value} {below : List Frame} {meth : Method} {c : Code} {X : Wx} {r : Int32} {S' : Mm} (hc : Cx p s m args meth c X cX7_makes 3 RX7) (hr : meth.sig.returnType = (some .int))   : ∀ (x2 : Int32) (S : Mm) (H : Heap) (locs : List Loc) (ls : Array Slot), Wd X s.heap S H locs → lv_has ls 3 [(0, .ref (X.1 + 163)), (2, .int x2)] → f_X7_makes_93 x2 S = some (r, S') → W p l e rm_X7_makes s m args below meth c H locs 0 0 (MQ below (Qq X (some (.int r)) S') args s 0 0 (AA X.1)) (F0 m 93 ls []) := by
  have hx := hc.1
  have hb := hc.2.1
  intro x2 S H locs ls hw hl h
  unfold f_X7_makes_93 at h
  refine lv_iload_n hx hb dX7_makes_93 rfl (lv_at hl 1 rfl) ?_
  refine lv_iconst (v := 2) hx hb dX7_makes_94 (by decide) ?_
  refine lv_icmp_ne (tgt := 114) hx hb dX7_makes_95 (by decide) (fun c1 => ?_) (fun c1 => ?_)
  · have h := ifF c1 h
    exact w_X7_makes_114 hc hr x2 S _ _ _ hw (lv_sub hl [0, 1] rfl) h
  · have h := ifT c1 h
    refine lv_aload_n hx hb dX7_makes_98 rfl (lv_at hl 0 rfl) ?_
    refine r_get7 hc hw k163 16 (by decide) (v := .ref (X.1 + 172)) rfl q3_144 dX7_makes_99 ?_
    refine lv_bipush (v := 14) hx hb dX7_makes_102 (by decide) ?_
    refine lv_aload_n hx hb dX7_makes_104 rfl (lv_at hl 0 rfl) ?_
    refine r_get7 hc hw k163 19 (by decide) (v := .int (gI S 163 19)) rfl q3_147 dX7_makes_105 ?_
    refine lv_iadd hx hb dX7_makes_108 ?_
    refine lv_dup2_11 hx hb dX7_makes_109 rfl rfl ?_
    obtain ⟨b2, h⟩ := bnd_some h
    refine r_iald hc hw k172 (inL b2 l172) dX7_makes_110 ?_
    refine lv_iconst (v := 1) hx hb dX7_makes_111 (by decide) ?_
    refine lv_iadd hx hb dX7_makes_112 ?_
    obtain ⟨b3, h⟩ := bnd_some h
    obtain ⟨S4, e5, h⟩ := nm_some h
    refine r_iast hc hw k172 (inL b3 l172) e5 dX7_makes_113 (fun H locs hw => ?_)
    exact w_X7_makes_114 hc hr x2 S4 _ _ _ hw (lv_sub hl [0, 1] rfl) h
set_option maxRecDepth 20000 in
theorem w_X7_makes_73 {p : Program} {l : Launch} {e : Env} {s : State} {m : MethodId} {args : Array Value} {below : List Frame} {meth : Method} {c : Code} {X : Wx} {r : Int32} {S' : Mm} (hc : Cx p s m args meth c X cX7_makes 3 RX7) (hr : meth.sig.returnType = (some .int))   : ∀ (x2 : Int32) (S : Mm) (H : Heap) (locs : List Loc) (ls : Array Slot), Wd X s.heap S H locs → lv_has ls 3 [(0, .ref (X.1 + 163)), (2, .int x2)] → f_X7_makes_73 x2 S = some (r, S') → W p l e rm_X7_makes s m args below meth c H locs 0 0 (MQ below (Qq X (some (.int r)) S') args s 0 0 (AA X.1)) (F0 m 73 ls []) := by
  have hx := hc.1
  have hb := hc.2.1
  intro x2 S H locs ls hw hl h
  unfold f_X7_makes_73 at h
  refine lv_aload_n hx hb dX7_makes_73 rfl (lv_at hl 0 rfl) ?_
  refine r_get7 hc hw k163 16 (by decide) (v := .ref (X.1 + 172)) rfl q3_144 dX7_makes_74 ?_
  refine lv_bipush (v := 13) hx hb dX7_makes_77 (by decide) ?_
  refine lv_dup2_11 hx hb dX7_makes_79 rfl rfl ?_
  obtain ⟨b1, h⟩ := bnd_some h
  refine r_iald hc hw k172 (inL b1 l172) dX7_makes_80 ?_
  refine lv_iload_n hx hb dX7_makes_81 rfl (lv_at hl 1 rfl) ?_
  refine lv_iconst (v := 1) hx hb dX7_makes_82 (by decide) ?_
  refine lv_icmp_ne (tgt := 90) hx hb dX7_makes_83 (by decide) (fun c2 => ?_) (fun c2 => ?_)
  · have h := ifF c2 h
    refine lv_iconst (v := 0) hx hb dX7_makes_90 (by decide) ?_
    refine lv_iadd hx hb dX7_makes_91 ?_
    obtain ⟨b3, h⟩ := bnd_some h
    obtain ⟨S4, e5, h⟩ := nm_some h
    refine r_iast hc hw k172 (inL b3 l172) e5 dX7_makes_92 (fun H locs hw => ?_)
    exact w_X7_makes_93 hc hr x2 S4 _ _ _ hw (lv_sub hl [0, 1] rfl) h
  · have h := ifT c2 h
    refine lv_iconst (v := 1) hx hb dX7_makes_86 (by decide) ?_
    refine lv_goto (tgt := 91) hx hb dX7_makes_87 (by decide) ?_
    refine lv_iadd hx hb dX7_makes_91 ?_
    obtain ⟨b6, h⟩ := bnd_some h
    obtain ⟨S7, e8, h⟩ := nm_some h
    refine r_iast hc hw k172 (inL b6 l172) e8 dX7_makes_92 (fun H locs hw => ?_)
    exact w_X7_makes_93 hc hr x2 S7 _ _ _ hw (lv_sub hl [0, 1] rfl) h
set_option maxRecDepth 20000 in
theorem c_X7_makes (l : Launch) (X : Wx) {S S' : Mm} {r : Int32} {x1 : Int32}  (h : f_X7_makes S x1 = some (r, S')) : Ct l X yX7_makes cX7_makes 3 (some .int) rm_X7_makes [.ref (X.1 + 163), .int x1] S (some (.int r)) S' := by
  refine r_entry (by decide) (Nat.le_of_ble_eq_true rfl) ?_
  intro p e s m args below meth c ls hc hr hw hl
  have hc : Cx p s m args meth c X cX7_makes 3 RX7 := hc
  have hl : lv_has ls 3 [(0, .ref (X.1 + 163)), (1, .int x1)] := hl
  have hx := hc.1
  have hb := hc.2.1
  unfold f_X7_makes at h
  refine lv_iload_n hx hb dX7_makes_0 rfl (lv_at hl 1 rfl) ?_
  obtain ⟨r1, S2, h3, h⟩ := bd_some h
  refine r_callSi hc hw hl.1 (As := [.int x1]) (rest := []) (c_X7_isSeed l X  h3) ms_X7_isSeed q4_42 rfl rfl ⟨rfl, rfl, Nat.le_of_ble_eq_true rfl, Nat.le_of_ble_eq_true rfl⟩ (Nat.le_of_ble_eq_true rfl) ⟨Nat.zero_le _, Nat.zero_le _⟩ dX7_makes_1 (fun H locs hw => ?_)
  refine lv_if_ne (tgt := 9) hx hb dX7_makes_4 (by decide) (fun c4 => ?_) (fun c4 => ?_)
  · have h := ifF c4 h
    refine lv_aload_n hx hb dX7_makes_9 rfl (lv_at hl 0 rfl) ?_
    refine r_get7 hc hw k163 16 (by decide) (v := .ref (X.1 + 172)) rfl q3_144 dX7_makes_10 ?_
    refine lv_bipush (v := 11) hx hb dX7_makes_13 (by decide) ?_
    obtain ⟨b5, h⟩ := bnd_some h
    refine r_iald hc hw k172 (inL b5 l172) dX7_makes_15 ?_
    refine lv_sipush (v := 9999) hx hb dX7_makes_16 (by decide) ?_
    refine lv_icmp_ne (tgt := 25) hx hb dX7_makes_19 (by decide) (fun c6 => ?_) (fun c6 => ?_)
    · have h := ifF c6 h
      refine lv_aload_n hx hb dX7_makes_25 rfl (lv_at hl 0 rfl) ?_
      obtain ⟨r7, S8, h9, h⟩ := bd_some h
      refine r_callV7v hc hw hl.1 (As := []) (rest := []) k163 (c_X7_know l X  h9) ms_X7_know rfl q4_45 rfl rfl ⟨rfl, rfl, Nat.le_of_ble_eq_true rfl, Nat.le_of_ble_eq_true rfl⟩ (Nat.le_of_ble_eq_true rfl) ⟨Nat.zero_le _, Nat.zero_le _⟩ dX7_makes_26 (fun H locs hw => ?_)
      refine lv_aload_n hx hb dX7_makes_29 rfl (lv_at hl 0 rfl) ?_
      refine lv_iload_n hx hb dX7_makes_30 rfl (lv_at hl 1 rfl) ?_
      refine lv_aload_n hx hb dX7_makes_31 rfl (lv_at hl 0 rfl) ?_
      refine r_get7 hc hw k163 16 (by decide) (v := .ref (X.1 + 172)) rfl q3_144 dX7_makes_32 ?_
      refine lv_bipush (v := 10) hx hb dX7_makes_35 (by decide) ?_
      obtain ⟨b10, h⟩ := bnd_some h
      refine r_iald hc hw k172 (inL b10 l172) dX7_makes_37 ?_
      obtain ⟨r11, S12, h13, h⟩ := bd_some h
      refine r_callV7i hc hw hl.1 (As := [.int x1, .int (gI S8 172 (10 : Int32).toNatClampNeg)]) (rest := []) k163 (c_X7_go l X  h13) ms_X7_go rfl q4_49 rfl rfl ⟨rfl, rfl, Nat.le_of_ble_eq_true rfl, Nat.le_of_ble_eq_true rfl⟩ (Nat.le_of_ble_eq_true rfl) ⟨Nat.zero_le _, Nat.zero_le _⟩ dX7_makes_38 (fun H locs hw => ?_)
      refine lv_istore_n (lv' := [(2, .int r11), (0, .ref (X.1 + 163)), (1, .int x1)]) hx hb dX7_makes_41 rfl hl (by decide) rfl (fun ls hl => ?_)
      refine lv_aload_n hx hb dX7_makes_42 rfl (lv_at hl 1 rfl) ?_
      refine r_get7 hc hw k163 16 (by decide) (v := .ref (X.1 + 172)) rfl q3_144 dX7_makes_43 ?_
      refine lv_bipush (v := 11) hx hb dX7_makes_46 (by decide) ?_
      refine lv_dup2_11 hx hb dX7_makes_48 rfl rfl ?_
      obtain ⟨b14, h⟩ := bnd_some h
      refine r_iald hc hw k172 (inL b14 l172) dX7_makes_49 ?_
      refine lv_iconst (v := 1) hx hb dX7_makes_50 (by decide) ?_
      refine lv_iadd hx hb dX7_makes_51 ?_
      obtain ⟨b15, h⟩ := bnd_some h
      obtain ⟨S16, e17, h⟩ := nm_some h
      refine r_iast hc hw k172 (inL b15 l172) e17 dX7_makes_52 (fun H locs hw => ?_)
      refine lv_aload_n hx hb dX7_makes_53 rfl (lv_at hl 1 rfl) ?_
      refine r_get7 hc hw k163 16 (by decide) (v := .ref (X.1 + 172)) rfl q3_144 dX7_makes_54 ?_
      refine lv_bipush (v := 12) hx hb dX7_makes_57 (by decide) ?_
      refine lv_dup2_11 hx hb dX7_makes_59 rfl rfl ?_
      obtain ⟨b18, h⟩ := bnd_some h
      refine r_iald hc hw k172 (inL b18 l172) dX7_makes_60 ?_
      refine lv_iload_n hx hb dX7_makes_61 rfl (lv_at hl 0 rfl) ?_
      refine lv_iconst (v := 2) hx hb dX7_makes_62 (by decide) ?_
      refine lv_icmp_ge (tgt := 70) hx hb dX7_makes_63 (by decide) (fun c19 => ?_) (fun c19 => ?_)
      · have h := ifT c19 h
        refine lv_iconst (v := 0) hx hb dX7_makes_70 (by decide) ?_
        refine lv_iadd hx hb dX7_makes_71 ?_
        obtain ⟨b20, h⟩ := bnd_some h
        obtain ⟨S21, e22, h⟩ := nm_some h
        refine r_iast hc hw k172 (inL b20 l172) e22 dX7_makes_72 (fun H locs hw => ?_)
        exact w_X7_makes_73 hc hr r11 S21 _ _ _ hw (lv_sub hl [1, 0] rfl) h
      · have h := ifF c19 h
        refine lv_iconst (v := 1) hx hb dX7_makes_66 (by decide) ?_
        refine lv_goto (tgt := 71) hx hb dX7_makes_67 (by decide) ?_
        refine lv_iadd hx hb dX7_makes_71 ?_
        obtain ⟨b23, h⟩ := bnd_some h
        obtain ⟨S24, e25, h⟩ := nm_some h
        refine r_iast hc hw k172 (inL b23 l172) e25 dX7_makes_72 (fun H locs hw => ?_)
        exact w_X7_makes_73 hc hr r11 S24 _ _ _ hw (lv_sub hl [1, 0] rfl) h
    · have h := ifT c6 h
      refine lv_bipush (v := (-2)) hx hb dX7_makes_22 (by decide) ?_
      obtain ⟨rfl, rfl⟩ := sm_inj h
      exact r_iret hc hr hw dX7_makes_24
  · have h := ifT c4 h
    refine lv_iconst (v := (-1)) hx hb dX7_makes_7 (by decide) ?_
    obtain ⟨rfl, rfl⟩ := sm_inj h
    exact r_iret hc hr hw dX7_makes_8
abbrev rm_X7_mark : Room := { frames := 2, cells := 0, slots := 0, locals := 43 }
theorem ms_X7_mark : MsV yX7_mark cX7_mark 5 (some .int) 2 := ⟨⟨q4_177, q1_8, by decide, by decide, by decide⟩, q4_175, q4_176⟩
set_option maxRecDepth 20000 in
theorem c_X7_mark (l : Launch) (X : Wx) {S S' : Mm} {r : Int32} {x1 : Int32} {x2 : Int32}  (h : f_X7_mark S x1 x2 = some (r, S')) : Ct l X yX7_mark cX7_mark 5 (some .int) rm_X7_mark [.ref (X.1 + 163), .int x1, .int x2] S (some (.int r)) S' := by
  refine r_entry (by decide) (Nat.le_of_ble_eq_true rfl) ?_
  intro p e s m args below meth c ls hc hr hw hl
  have hc : Cx p s m args meth c X cX7_mark 5 RX7 := hc
  have hl : lv_has ls 5 [(0, .ref (X.1 + 163)), (1, .int x1), (2, .int x2)] := hl
  have hx := hc.1
  have hb := hc.2.1
  unfold f_X7_mark at h
  refine lv_iload_n hx hb dX7_mark_0 rfl (lv_at hl 1 rfl) ?_
  refine lv_iconst (v := 0) hx hb dX7_mark_1 (by decide) ?_
  refine lv_iconst (v := 5) hx hb dX7_mark_2 (by decide) ?_
  obtain ⟨r1, S2, h3, h⟩ := bd_some h
  refine r_callSi hc hw hl.1 (As := [.int x1, .int 0, .int 5]) (rest := []) (c_X7_in l X  h3) ms_X7_in q3_227 rfl rfl ⟨rfl, rfl, Nat.le_of_ble_eq_true rfl, Nat.le_of_ble_eq_true rfl⟩ (Nat.le_of_ble_eq_true rfl) ⟨Nat.zero_le _, Nat.zero_le _⟩ dX7_mark_3 (fun H locs hw => ?_)
  refine lv_if_eq (tgt := 17) hx hb dX7_mark_6 (by decide) (fun c4 => ?_) (fun c4 => ?_)
  · have h := ifT c4 h
    refine lv_ldc hx hb hc.2.2.2.1 (hc.2.2.2.2.1 _ q4_178) dX7_mark_17 ?_
    obtain ⟨rfl, rfl⟩ := sm_inj h
    exact r_iret hc hr hw dX7_mark_19
  · have h := ifF c4 h
    refine lv_aload_n hx hb dX7_mark_9 rfl (lv_at hl 0 rfl) ?_
    refine lv_iload_n hx hb dX7_mark_10 rfl (lv_at hl 2 rfl) ?_
    obtain ⟨r5, S6, h7, h⟩ := bd_some h
    refine r_callV7i hc hw hl.1 (As := [.int x2]) (rest := []) k163 (c_X7_isStep l X  h7) ms_X7_isStep rfl q4_26 rfl rfl ⟨rfl, rfl, Nat.le_of_ble_eq_true rfl, Nat.le_of_ble_eq_true rfl⟩ (Nat.le_of_ble_eq_true rfl) ⟨Nat.zero_le _, Nat.zero_le _⟩ dX7_mark_11 (fun H locs hw => ?_)
    refine lv_if_ne (tgt := 20) hx hb dX7_mark_14 (by decide) (fun c8 => ?_) (fun c8 => ?_)
    · have h := ifF c8 h
      refine lv_aload_n hx hb dX7_mark_20 rfl (lv_at hl 0 rfl) ?_
      refine r_get7 hc hw k163 4 (by decide) (v := .ref (X.1 + 166)) rfl q3_132 dX7_mark_21 ?_
      refine lv_iload_n hx hb dX7_mark_24 rfl (lv_at hl 2 rfl) ?_
      obtain ⟨b9, h⟩ := bnd_some h
      refine r_iald hc hw k166 (inL b9 l166) dX7_mark_25 ?_
      refine lv_aload_n hx hb dX7_mark_26 rfl (lv_at hl 0 rfl) ?_
      refine r_get7 hc hw k163 16 (by decide) (v := .ref (X.1 + 172)) rfl q3_144 dX7_mark_27 ?_
      refine lv_iconst (v := 5) hx hb dX7_mark_30 (by decide) ?_
      refine lv_iload_n hx hb dX7_mark_31 rfl (lv_at hl 2 rfl) ?_
      refine lv_iadd hx hb dX7_mark_32 ?_
      obtain ⟨b10, h⟩ := bnd_some h
      refine r_iald hc hw k172 (inL b10 l172) dX7_mark_33 ?_
      refine lv_iadd hx hb dX7_mark_34 ?_
      obtain ⟨v11, e12, h⟩ := nm_some h
      refine r_top e12 ?_
      refine lv_istore_n (lv' := [(3, .int v11), (0, .ref (X.1 + 163)), (1, .int x1), (2, .int x2)]) hx hb dX7_mark_35 rfl hl (by decide) rfl (fun ls hl => ?_)
      refine lv_aload_n hx hb dX7_mark_36 rfl (lv_at hl 1 rfl) ?_
      refine r_get7 hc hw k163 4 (by decide) (v := .ref (X.1 + 166)) rfl q3_132 dX7_mark_37 ?_
      refine lv_iload_n hx hb dX7_mark_40 rfl (lv_at hl 3 rfl) ?_
      obtain ⟨b13, h⟩ := bnd_some h
      refine r_iald hc hw k166 (inL b13 l166) dX7_mark_41 ?_
      refine lv_aload_n hx hb dX7_mark_42 rfl (lv_at hl 1 rfl) ?_
      refine r_get7 hc hw k163 6 (by decide) (v := .ref (X.1 + 168)) rfl q3_134 dX7_mark_43 ?_
      refine lv_iload_n hx hb dX7_mark_46 rfl (lv_at hl 3 rfl) ?_
      obtain ⟨b14, h⟩ := bnd_some h
      refine r_iald hc hw k168 (inL b14 l168) dX7_mark_47 ?_
      refine lv_isub hx hb dX7_mark_48 ?_
      obtain ⟨v15, e16, h⟩ := nm_some h
      refine r_top e16 ?_
      refine lv_istore (lv' := [(4, .int v15), (3, .int v11), (0, .ref (X.1 + 163)), (1, .int x1), (2, .int x2)]) hx hb dX7_mark_49 hl (by decide) rfl (fun ls hl => ?_)
      refine lv_iload_n hx hb dX7_mark_51 rfl (lv_at hl 3 rfl) ?_
      by_cases c17 : x1 = 0
      · have h := ifT c17 h
        refine lv_tableIn (off := 36) (tgt := 88) hx hb dX7_mark_52 (by rw [c17]; decide) (by rw [c17]; decide) (by rw [c17]; rfl) (by decide) ?_
        refine lv_aload_n hx hb dX7_mark_88 rfl (lv_at hl 2 rfl) ?_
        refine lv_dup hx hb dX7_mark_89 rfl ?_
        refine r_get7 hc hw k163 0 (by decide) (v := .long (gJ S6 163 0)) rfl q3_128 dX7_mark_90 ?_
        refine lv_lconst (v := 1) hx hb dX7_mark_93 (by decide) ?_
        refine lv_ladd hx hb dX7_mark_94 ?_
        obtain ⟨S18, e19, h⟩ := nm_some h
        refine r_put7_0 hc hw k163 e19 q3_128 dX7_mark_95 (fun H locs hw => ?_)
        refine lv_aload_n hx hb dX7_mark_98 rfl (lv_at hl 2 rfl) ?_
        refine r_get7 hc hw k163 4 (by decide) (v := .ref (X.1 + 166)) rfl q3_132 dX7_mark_99 ?_
        refine lv_iload_n hx hb dX7_mark_102 rfl (lv_at hl 4 rfl) ?_
        obtain ⟨b20, h⟩ := bnd_some h
        refine r_iald hc hw k166 (inL b20 l166) dX7_mark_103 ?_
        obtain ⟨rfl, rfl⟩ := sm_inj h
        exact r_iret hc hr hw dX7_mark_104
      · have h := ifF c17 h
        by_cases c21 : x1 = 1
        · have h := ifT c21 h
          refine lv_tableIn (off := 53) (tgt := 105) hx hb dX7_mark_52 (by rw [c21]; decide) (by rw [c21]; decide) (by rw [c21]; rfl) (by decide) ?_
          refine lv_aload_n hx hb dX7_mark_105 rfl (lv_at hl 2 rfl) ?_
          refine lv_dup hx hb dX7_mark_106 rfl ?_
          refine r_get7 hc hw k163 0 (by decide) (v := .long (gJ S6 163 0)) rfl q3_128 dX7_mark_107 ?_
          refine lv_ldc2 hx hb hc.2.2.2.1 (hc.2.2.2.2.1 _ q4_179) dX7_mark_110 ?_
          refine lv_ladd hx hb dX7_mark_113 ?_
          obtain ⟨S22, e23, h⟩ := nm_some h
          refine r_put7_0 hc hw k163 e23 q3_128 dX7_mark_114 (fun H locs hw => ?_)
          refine lv_iload_n hx hb dX7_mark_117 rfl (lv_at hl 1 rfl) ?_
          obtain ⟨rfl, rfl⟩ := sm_inj h
          exact r_iret hc hr hw dX7_mark_118
        · have h := ifF c21 h
          by_cases c24 : x1 = 2
          · have h := ifT c24 h
            refine lv_tableIn (off := 67) (tgt := 119) hx hb dX7_mark_52 (by rw [c24]; decide) (by rw [c24]; decide) (by rw [c24]; rfl) (by decide) ?_
            refine lv_aload_n hx hb dX7_mark_119 rfl (lv_at hl 2 rfl) ?_
            refine lv_dup hx hb dX7_mark_120 rfl ?_
            refine r_get7 hc hw k163 0 (by decide) (v := .long (gJ S6 163 0)) rfl q3_128 dX7_mark_121 ?_
            refine lv_ldc2 hx hb hc.2.2.2.1 (hc.2.2.2.2.1 _ q4_180) dX7_mark_124 ?_
            refine lv_ladd hx hb dX7_mark_127 ?_
            obtain ⟨S25, e26, h⟩ := nm_some h
            refine r_put7_0 hc hw k163 e26 q3_128 dX7_mark_128 (fun H locs hw => ?_)
            refine lv_iload hx hb dX7_mark_131 (lv_at hl 0 rfl) ?_
            obtain ⟨rfl, rfl⟩ := sm_inj h
            exact r_iret hc hr hw dX7_mark_133
          · have h := ifF c24 h
            by_cases c27 : x1 = 3
            · have h := ifT c27 h
              refine lv_tableIn (off := 82) (tgt := 134) hx hb dX7_mark_52 (by rw [c27]; decide) (by rw [c27]; decide) (by rw [c27]; rfl) (by decide) ?_
              refine lv_aload_n hx hb dX7_mark_134 rfl (lv_at hl 2 rfl) ?_
              refine lv_dup hx hb dX7_mark_135 rfl ?_
              refine r_get7 hc hw k163 0 (by decide) (v := .long (gJ S6 163 0)) rfl q3_128 dX7_mark_136 ?_
              refine lv_ldc2 hx hb hc.2.2.2.1 (hc.2.2.2.2.1 _ q4_181) dX7_mark_139 ?_
              refine lv_ladd hx hb dX7_mark_142 ?_
              obtain ⟨S28, e29, h⟩ := nm_some h
              refine r_put7_0 hc hw k163 e29 q3_128 dX7_mark_143 (fun H locs hw => ?_)
              refine lv_iconst (v := 2) hx hb dX7_mark_146 (by decide) ?_
              refine lv_iload_n hx hb dX7_mark_147 rfl (lv_at hl 1 rfl) ?_
              refine lv_imul hx hb dX7_mark_148 ?_
              obtain ⟨rfl, rfl⟩ := sm_inj h
              exact r_iret hc hr hw dX7_mark_149
            · have h := ifF c27 h
              by_cases c30 : x1 = 4
              · have h := ifT c30 h
                refine lv_tableIn (off := 98) (tgt := 150) hx hb dX7_mark_52 (by rw [c30]; decide) (by rw [c30]; decide) (by rw [c30]; rfl) (by decide) ?_
                refine lv_aload_n hx hb dX7_mark_150 rfl (lv_at hl 2 rfl) ?_
                refine lv_dup hx hb dX7_mark_151 rfl ?_
                refine r_get7 hc hw k163 0 (by decide) (v := .long (gJ S6 163 0)) rfl q3_128 dX7_mark_152 ?_
                refine lv_ldc2 hx hb hc.2.2.2.1 (hc.2.2.2.2.1 _ q4_182) dX7_mark_155 ?_
                refine lv_ladd hx hb dX7_mark_158 ?_
                obtain ⟨S31, e32, h⟩ := nm_some h
                refine r_put7_0 hc hw k163 e32 q3_128 dX7_mark_159 (fun H locs hw => ?_)
                refine lv_iload hx hb dX7_mark_162 (lv_at hl 0 rfl) ?_
                refine lv_aload_n hx hb dX7_mark_164 rfl (lv_at hl 2 rfl) ?_
                refine r_get7 hc hw k163 16 (by decide) (v := .ref (X.1 + 172)) rfl q3_144 dX7_mark_165 ?_
                refine lv_bipush (v := 14) hx hb dX7_mark_168 (by decide) ?_
                refine lv_iload_n hx hb dX7_mark_170 rfl (lv_at hl 4 rfl) ?_
                refine lv_iadd hx hb dX7_mark_171 ?_
                obtain ⟨b33, h⟩ := bnd_some h
                refine r_iald hc hw k172 (inL b33 l172) dX7_mark_172 ?_
                refine lv_iadd hx hb dX7_mark_173 ?_
                obtain ⟨rfl, rfl⟩ := sm_inj h
                exact r_iret hc hr hw dX7_mark_174
              · have h := ifF c30 h
                refine lv_tableOut (tgt := 175) hx hb dX7_mark_52 (by have := lv_neT c17 (a := 0) (by decide); have := lv_neT c21 (a := 1) (by decide); have := lv_neT c24 (a := 2) (by decide); have := lv_neT c27 (a := 3) (by decide); have := lv_neT c30 (a := 4) (by decide); omega) (by decide) ?_
                refine lv_aload_n hx hb dX7_mark_175 rfl (lv_at hl 2 rfl) ?_
                refine lv_dup hx hb dX7_mark_176 rfl ?_
                refine r_get7 hc hw k163 0 (by decide) (v := .long (gJ S6 163 0)) rfl q3_128 dX7_mark_177 ?_
                refine lv_ldc2 hx hb hc.2.2.2.1 (hc.2.2.2.2.1 _ q4_183) dX7_mark_180 ?_
                refine lv_ladd hx hb dX7_mark_183 ?_
                obtain ⟨S34, e35, h⟩ := nm_some h
                refine r_put7_0 hc hw k163 e35 q3_128 dX7_mark_184 (fun H locs hw => ?_)
                refine lv_aload_n hx hb dX7_mark_187 rfl (lv_at hl 2 rfl) ?_
                refine r_get7 hc hw k163 4 (by decide) (v := .ref (X.1 + 166)) rfl q3_132 dX7_mark_188 ?_
                refine lv_iload_n hx hb dX7_mark_191 rfl (lv_at hl 4 rfl) ?_
                obtain ⟨b36, h⟩ := bnd_some h
                refine r_iald hc hw k166 (inL b36 l166) dX7_mark_192 ?_
                refine lv_aload_n hx hb dX7_mark_193 rfl (lv_at hl 2 rfl) ?_
                refine r_get7 hc hw k163 16 (by decide) (v := .ref (X.1 + 172)) rfl q3_144 dX7_mark_194 ?_
                refine lv_bipush (v := 11) hx hb dX7_mark_197 (by decide) ?_
                obtain ⟨b37, h⟩ := bnd_some h
                refine r_iald hc hw k172 (inL b37 l172) dX7_mark_199 ?_
                refine lv_iadd hx hb dX7_mark_200 ?_
                obtain ⟨rfl, rfl⟩ := sm_inj h
                exact r_iret hc hr hw dX7_mark_201
    · have h := ifT c8 h
      refine lv_ldc hx hb hc.2.2.2.1 (hc.2.2.2.2.1 _ q4_178) dX7_mark_17 ?_
      obtain ⟨rfl, rfl⟩ := sm_inj h
      exact r_iret hc hr hw dX7_mark_19
