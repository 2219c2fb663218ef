abbrev rm_J6_bitCount_0f7a4 : Room := { frames := 0, cells := 0, slots := 0, locals := 0 }
theorem ms_J6_bitCount_0f7a4 : MsS yJ6_bitCount_0f7a4 cJ6_bitCount_0f7a4 1 (some .int) 1 := ⟨⟨q2_157, q1_11, by decide, by decide, by decide⟩, q2_156⟩
set_option maxRecDepth 20000 in
theorem c_J6_bitCount_0f7a4 (l : Launch) (X : Wx) {S S' : Mm} {r : Int32} {x0 : Int32}  (h : f_J6_bitCount_0f7a4 S x0 = some (r, S')) : Ct l X yJ6_bitCount_0f7a4 cJ6_bitCount_0f7a4 1 (some .int) rm_J6_bitCount_0f7a4 [.int x0] S (some (.int r)) S' := by
  refine r_entry (by decide) (Nat.le_of_ble_eq_true rfl) ?_
  intro p e s m args below meth c ls hc hr hw hl
  have hc : Cx p s m args meth c X cJ6_bitCount_0f7a4 1 RJ6 := hc
  have hl : lv_has ls 1 [(0, .int x0)] := hl
  have hx := hc.1
  have hb := hc.2.1
  unfold f_J6_bitCount_0f7a4 at h
  refine lv_iload_n hx hb dJ6_bitCount_0f7a4_0 rfl (lv_at hl 0 rfl) ?_
  refine lv_iload_n hx hb dJ6_bitCount_0f7a4_1 rfl (lv_at hl 0 rfl) ?_
  refine lv_iconst (v := 1) hx hb dJ6_bitCount_0f7a4_2 (by decide) ?_
  refine lv_iushr hx hb dJ6_bitCount_0f7a4_3 rfl ?_
  refine lv_ldcw hx hb hc.2.2.2.1 (hc.2.2.2.2.1 _ q2_158) dJ6_bitCount_0f7a4_4 ?_
  refine lv_iand hx hb dJ6_bitCount_0f7a4_7 ?_
  refine lv_isub hx hb dJ6_bitCount_0f7a4_8 ?_
  obtain ⟨v1, e2, h⟩ := nm_some h
  refine r_top e2 ?_
  refine lv_istore_n (lv' := [(0, .int v1)]) hx hb dJ6_bitCount_0f7a4_9 rfl hl (by decide) rfl (fun ls hl => ?_)
  refine lv_iload_n hx hb dJ6_bitCount_0f7a4_10 rfl (lv_at hl 0 rfl) ?_
  refine lv_ldcw hx hb hc.2.2.2.1 (hc.2.2.2.2.1 _ q2_159) dJ6_bitCount_0f7a4_11 ?_
  refine lv_iand hx hb dJ6_bitCount_0f7a4_14 ?_
  refine lv_iload_n hx hb dJ6_bitCount_0f7a4_15 rfl (lv_at hl 0 rfl) ?_
  refine lv_iconst (v := 2) hx hb dJ6_bitCount_0f7a4_16 (by decide) ?_
  refine lv_iushr hx hb dJ6_bitCount_0f7a4_17 rfl ?_
  refine lv_ldcw hx hb hc.2.2.2.1 (hc.2.2.2.2.1 _ q2_159) dJ6_bitCount_0f7a4_18 ?_
  refine lv_iand hx hb dJ6_bitCount_0f7a4_21 ?_
  refine lv_iadd hx hb dJ6_bitCount_0f7a4_22 ?_
  obtain ⟨v3, e4, h⟩ := nm_some h
  refine r_top e4 ?_
  refine lv_istore_n (lv' := [(0, .int v3)]) hx hb dJ6_bitCount_0f7a4_23 rfl hl (by decide) rfl (fun ls hl => ?_)
  refine lv_iload_n hx hb dJ6_bitCount_0f7a4_24 rfl (lv_at hl 0 rfl) ?_
  refine lv_iload_n hx hb dJ6_bitCount_0f7a4_25 rfl (lv_at hl 0 rfl) ?_
  refine lv_iconst (v := 4) hx hb dJ6_bitCount_0f7a4_26 (by decide) ?_
  refine lv_iushr hx hb dJ6_bitCount_0f7a4_27 rfl ?_
  refine lv_iadd hx hb dJ6_bitCount_0f7a4_28 ?_
  refine lv_ldcw hx hb hc.2.2.2.1 (hc.2.2.2.2.1 _ q2_160) dJ6_bitCount_0f7a4_29 ?_
  refine lv_iand hx hb dJ6_bitCount_0f7a4_32 ?_
  obtain ⟨v5, e6, h⟩ := nm_some h
  refine r_top e6 ?_
  refine lv_istore_n (lv' := [(0, .int v5)]) hx hb dJ6_bitCount_0f7a4_33 rfl hl (by decide) rfl (fun ls hl => ?_)
  refine lv_iload_n hx hb dJ6_bitCount_0f7a4_34 rfl (lv_at hl 0 rfl) ?_
  refine lv_iload_n hx hb dJ6_bitCount_0f7a4_35 rfl (lv_at hl 0 rfl) ?_
  refine lv_bipush (v := 8) hx hb dJ6_bitCount_0f7a4_36 (by decide) ?_
  refine lv_iushr hx hb dJ6_bitCount_0f7a4_38 rfl ?_
  refine lv_iadd hx hb dJ6_bitCount_0f7a4_39 ?_
  obtain ⟨v7, e8, h⟩ := nm_some h
  refine r_top e8 ?_
  refine lv_istore_n (lv' := [(0, .int v7)]) hx hb dJ6_bitCount_0f7a4_40 rfl hl (by decide) rfl (fun ls hl => ?_)
  refine lv_iload_n hx hb dJ6_bitCount_0f7a4_41 rfl (lv_at hl 0 rfl) ?_
  refine lv_iload_n hx hb dJ6_bitCount_0f7a4_42 rfl (lv_at hl 0 rfl) ?_
  refine lv_bipush (v := 16) hx hb dJ6_bitCount_0f7a4_43 (by decide) ?_
  refine lv_iushr hx hb dJ6_bitCount_0f7a4_45 rfl ?_
  refine lv_iadd hx hb dJ6_bitCount_0f7a4_46 ?_
  obtain ⟨v9, e10, h⟩ := nm_some h
  refine r_top e10 ?_
  refine lv_istore_n (lv' := [(0, .int v9)]) hx hb dJ6_bitCount_0f7a4_47 rfl hl (by decide) rfl (fun ls hl => ?_)
  refine lv_iload_n hx hb dJ6_bitCount_0f7a4_48 rfl (lv_at hl 0 rfl) ?_
  refine lv_bipush (v := 63) hx hb dJ6_bitCount_0f7a4_49 (by decide) ?_
  refine lv_iand hx hb dJ6_bitCount_0f7a4_51 ?_
  obtain ⟨rfl, rfl⟩ := sm_inj h
  exact r_iret hc hr hw dJ6_bitCount_0f7a4_52
abbrev rm_X0_begin : Room := { frames := 0, cells := 0, slots := 0, locals := 0 }
theorem ms_X0_begin : MsV yX0_begin cX0_begin 1 none 0 := ⟨⟨q2_201, q1_7, by decide, by decide, by decide⟩, q2_200, qs_10⟩
set_option maxRecDepth 20000 in
theorem c_X0_begin (l : Launch) (X : Wx) {S S' : Mm} {r : Unit}   (h : f_X0_begin S = some (r, S')) : Ct l X yX0_begin cX0_begin 1 none rm_X0_begin [.ref (X.1 + 158)] S none S' := by
  refine r_entry (by decide) (Nat.le_of_ble_eq_true rfl) ?_
  intro p e s m args below meth c ls hc hr hw hl
  have hc : Cx p s m args meth c X cX0_begin 1 RX0 := hc
  have hl : lv_has ls 1 [(0, .ref (X.1 + 158))] := hl
  have hx := hc.1
  have hb := hc.2.1
  unfold f_X0_begin at h
  refine lv_aload_n hx hb dX0_begin_0 rfl (lv_at hl 0 rfl) ?_
  refine lv_ldc2 hx hb hc.2.2.2.1 (hc.2.2.2.2.1 _ q2_202) dX0_begin_1 ?_
  obtain ⟨S1, e2, h⟩ := nm_some h
  refine r_put0_0 hc hw k158 e2 q1_195 dX0_begin_4 (fun H locs hw => ?_)
  refine lv_aload_n hx hb dX0_begin_7 rfl (lv_at hl 0 rfl) ?_
  refine lv_lconst (v := 0) hx hb dX0_begin_8 (by decide) ?_
  obtain ⟨S3, e4, h⟩ := nm_some h
  refine r_put0_1 hc hw k158 e4 q1_197 dX0_begin_9 (fun H locs hw => ?_)
  refine lv_aload_n hx hb dX0_begin_12 rfl (lv_at hl 0 rfl) ?_
  refine lv_lconst (v := 0) hx hb dX0_begin_13 (by decide) ?_
  obtain ⟨S5, e6, h⟩ := nm_some h
  refine r_put0_2 hc hw k158 e6 q1_199 dX0_begin_14 (fun H locs hw => ?_)
  obtain ⟨rfl, rfl⟩ := sm_inj h
  exact r_vret hc hr hw dX0_begin_17
abbrev rm_X0_lookBehind : Room := { frames := 0, cells := 0, slots := 0, locals := 0 }
theorem ms_X0_lookBehind : MsV yX0_lookBehind cX0_lookBehind 4 none 3 := ⟨⟨q2_211, q1_7, by decide, by decide, by decide⟩, q2_210, qs_12⟩
set_option maxRecDepth 20000 in
theorem c_X0_lookBehind (l : Launch) (X : Wx) {S S' : Mm} {r : Unit} {x1 : Int32} {x2 : Int32} {x3 : Int32}  (h : f_X0_lookBehind S x1 x2 x3 = some (r, S')) : Ct l X yX0_lookBehind cX0_lookBehind 4 none rm_X0_lookBehind [.ref (X.1 + 158), .int x1, .int x2, .int x3] S none S' := by
  refine r_entry (by decide) (Nat.le_of_ble_eq_true rfl) ?_
  intro p e s m args below meth c ls hc hr hw hl
  have hc : Cx p s m args meth c X cX0_lookBehind 4 RX0 := hc
  have hl : lv_has ls 4 [(0, .ref (X.1 + 158)), (1, .int x1), (2, .int x2), (3, .int x3)] := hl
  have hx := hc.1
  have hb := hc.2.1
  unfold f_X0_lookBehind at h
  refine lv_aload_n hx hb dX0_lookBehind_0 rfl (lv_at hl 0 rfl) ?_
  refine lv_dup hx hb dX0_lookBehind_1 rfl ?_
  refine r_get0 hc hw k158 2 (by decide) (v := .long (gJ S 158 2)) rfl q1_199 dX0_lookBehind_2 ?_
  refine lv_aload_n hx hb dX0_lookBehind_5 rfl (lv_at hl 0 rfl) ?_
  refine r_get0 hc hw k158 0 (by decide) (v := .long (gJ S 158 0)) rfl q1_195 dX0_lookBehind_6 ?_
  refine lv_aload_n hx hb dX0_lookBehind_9 rfl (lv_at hl 0 rfl) ?_
  refine r_get0 hc hw k158 1 (by decide) (v := .long (gJ S 158 1)) rfl q1_197 dX0_lookBehind_10 ?_
  refine lv_ladd hx hb dX0_lookBehind_13 ?_
  refine lv_iload_n hx hb dX0_lookBehind_14 rfl (lv_at hl 2 rfl) ?_
  refine lv_i2l hx hb dX0_lookBehind_15 rfl ?_
  refine lv_lmul hx hb dX0_lookBehind_16 ?_
  refine lv_ladd hx hb dX0_lookBehind_17 ?_
  obtain ⟨S1, e2, h⟩ := nm_some h
  refine r_put0_2 hc hw k158 e2 q1_199 dX0_lookBehind_18 (fun H locs hw => ?_)
  refine lv_aload_n hx hb dX0_lookBehind_21 rfl (lv_at hl 0 rfl) ?_
  refine r_get0 hc hw k158 3 (by decide) (v := .ref (X.1 + 159)) rfl q1_201 dX0_lookBehind_22 ?_
  refine lv_iload_n hx hb dX0_lookBehind_25 rfl (lv_at hl 1 rfl) ?_
  refine lv_aload_n hx hb dX0_lookBehind_26 rfl (lv_at hl 0 rfl) ?_
  refine r_get0 hc hw k158 1 (by decide) (v := .long (gJ S1 158 1)) rfl q1_197 dX0_lookBehind_27 ?_
  refine lv_ldc2 hx hb hc.2.2.2.1 (hc.2.2.2.2.1 _ q2_207) dX0_lookBehind_30 ?_
  refine lv_ldiv hx hb dX0_lookBehind_33 (by decide) ?_
  refine lv_bipush (v := 10) hx hb dX0_lookBehind_34 (by decide) ?_
  refine lv_iload_n hx hb dX0_lookBehind_36 rfl (lv_at hl 3 rfl) ?_
  refine lv_isub hx hb dX0_lookBehind_37 ?_
  refine lv_i2l hx hb dX0_lookBehind_38 rfl ?_
  refine lv_lmul hx hb dX0_lookBehind_39 ?_
  obtain ⟨b3, h⟩ := bnd_some h
  obtain ⟨S4, e5, h⟩ := nm_some h
  refine r_last hc hw k159 (inL b3 l159) e5 dX0_lookBehind_40 (fun H locs hw => ?_)
  refine lv_aload_n hx hb dX0_lookBehind_41 rfl (lv_at hl 0 rfl) ?_
  refine lv_dup hx hb dX0_lookBehind_42 rfl ?_
  refine r_get0 hc hw k158 1 (by decide) (v := .long (gJ S4 158 1)) rfl q1_197 dX0_lookBehind_43 ?_
  refine lv_aload_n hx hb dX0_lookBehind_46 rfl (lv_at hl 0 rfl) ?_
  refine r_get0 hc hw k158 3 (by decide) (v := .ref (X.1 + 159)) rfl q1_201 dX0_lookBehind_47 ?_
  refine lv_iload_n hx hb dX0_lookBehind_50 rfl (lv_at hl 1 rfl) ?_
  obtain ⟨b6, h⟩ := bnd_some h
  refine r_lald hc hw k159 (inL b6 l159) dX0_lookBehind_51 ?_
  refine lv_lsub hx hb dX0_lookBehind_52 ?_
  obtain ⟨S7, e8, h⟩ := nm_some h
  refine r_put0_1 hc hw k158 e8 q1_197 dX0_lookBehind_53 (fun H locs hw => ?_)
  obtain ⟨rfl, rfl⟩ := sm_inj h
  exact r_vret hc hr hw dX0_lookBehind_56
abbrev rm_X0_thinShares : Room := { frames := 0, cells := 0, slots := 0, locals := 0 }
theorem ms_X0_thinShares : MsV yX0_thinShares cX0_thinShares 4 none 2 := ⟨⟨q3_36, q1_7, by decide, by decide, by decide⟩, q3_35, qs_16⟩
set_option maxRecDepth 20000 in
theorem w_X0_thinShares_2 {p : Program} {l : Launch} {e : Env} {s : State} {m : MethodId} {args : Array Value} {below : List Frame} {meth : Method} {c : Code} {X : Wx} {r : Unit} {S' : Mm} (hc : Cx p s m args meth c X cX0_thinShares 4 RX0) (hr : meth.sig.returnType = none)   : ∀ (n : Nat), ∀ (x1 : Int32) (x2 : Int32) (x3 : Int32) (S : Mm) (H : Heap) (locs : List Loc) (ls : Array Slot), Wd X s.heap S H locs → lv_has ls 4 [(0, .ref (X.1 + 158)), (1, .int x1), (2, .int x2), (3, .int x3)] → f_X0_thinShares_2 n x1 x2 x3 S = some (r, S') → W p l e rm_X0_thinShares s m args below meth c H locs 0 0 (MQ below (Qq X none S') args s 0 0 (AA X.1)) (F0 m 2 ls []) := by
  have hx := hc.1
  have hb := hc.2.1
  intro n
  induction n with
  | zero => intro x1 x2 x3 S H locs ls hw hl h; cases h
  | succ n ih =>
    intro x1 x2 x3 S H locs ls hw hl h
    rw [f_X0_thinShares_2] at h
    refine lv_iload_n hx hb dX0_thinShares_2 rfl (lv_at hl 3 rfl) ?_
    refine lv_iload_n hx hb dX0_thinShares_3 rfl (lv_at hl 1 rfl) ?_
    refine lv_icmp_gt (tgt := 32) hx hb dX0_thinShares_4 (by decide) (fun c1 => ?_) (fun c1 => ?_)
    · have h := ifT c1 h
      obtain ⟨rfl, rfl⟩ := sm_inj h
      exact r_vret hc hr hw dX0_thinShares_32
    · have h := ifF c1 h
      refine lv_aload_n hx hb dX0_thinShares_7 rfl (lv_at hl 0 rfl) ?_
      refine r_get0 hc hw k158 4 (by decide) (v := .ref (X.1 + 160)) rfl q1_203 dX0_thinShares_8 ?_
      refine lv_iload_n hx hb dX0_thinShares_11 rfl (lv_at hl 3 rfl) ?_
      refine lv_aload_n hx hb dX0_thinShares_12 rfl (lv_at hl 0 rfl) ?_
      refine r_get0 hc hw k158 4 (by decide) (v := .ref (X.1 + 160)) rfl q1_203 dX0_thinShares_13 ?_
      refine lv_iload_n hx hb dX0_thinShares_16 rfl (lv_at hl 3 rfl) ?_
      obtain ⟨b2, h⟩ := bnd_some h
      refine r_lald hc hw k160 (inL b2 l160) dX0_thinShares_17 ?_
      refine lv_ldc2 hx hb hc.2.2.2.1 (hc.2.2.2.2.1 _ q2_207) dX0_thinShares_18 ?_
      refine lv_ldiv hx hb dX0_thinShares_21 (by decide) ?_
      refine lv_iload_n hx hb dX0_thinShares_22 rfl (lv_at hl 2 rfl) ?_
      refine lv_i2l hx hb dX0_thinShares_23 rfl ?_
      refine lv_lmul hx hb dX0_thinShares_24 ?_
      obtain ⟨b3, h⟩ := bnd_some h
      obtain ⟨S4, e5, h⟩ := nm_some h
      refine r_last hc hw k160 (inL b3 l160) e5 dX0_thinShares_25 (fun H locs hw => ?_)
      obtain ⟨v6, e7, h⟩ := nm_some h
      refine lv_iinc (v := v6) (lv' := [(3, .int v6), (0, .ref (X.1 + 158)), (1, .int x1), (2, .int x2)]) hx hb dX0_thinShares_26 hl (k := 3) rfl (by rw [e7]; rfl) (by decide) rfl (fun ls hl => ?_)
      refine lv_goto (tgt := 2) hx hb dX0_thinShares_29 (by decide) ?_
      exact ih x1 x2 v6 S4 _ _ _ hw (lv_sub hl [1, 2, 3, 0] rfl) h
set_option maxRecDepth 20000 in
theorem c_X0_thinShares (l : Launch) (X : Wx) {S S' : Mm} {r : Unit} {x1 : Int32} {x2 : Int32}  (h : f_X0_thinShares S x1 x2 = some (r, S')) : Ct l X yX0_thinShares cX0_thinShares 4 none rm_X0_thinShares [.ref (X.1 + 158), .int x1, .int x2] S none S' := by
  refine r_entry (by decide) (Nat.le_of_ble_eq_true rfl) ?_
  intro p e s m args below meth c ls hc hr hw hl
  have hc : Cx p s m args meth c X cX0_thinShares 4 RX0 := hc
  have hl : lv_has ls 4 [(0, .ref (X.1 + 158)), (1, .int x1), (2, .int x2)] := hl
  have hx := hc.1
  have hb := hc.2.1
  unfold f_X0_thinShares at h
  refine lv_iconst (v := 0) hx hb dX0_thinShares_0 (by decide) ?_
  refine lv_istore_n (lv' := [(3, .int 0), (0, .ref (X.1 + 158)), (1, .int x1), (2, .int x2)]) hx hb dX0_thinShares_1 rfl hl (by decide) rfl (fun ls hl => ?_)
  exact w_X0_thinShares_2 hc hr 400 x1 x2 0 S _ _ _ hw (lv_sub hl [1, 2, 3, 0] rfl) h
abbrev rm_X0_work : Room := { frames := 0, cells := 0, slots := 0, locals := 0 }
theorem ms_X0_work : MsV yX0_work cX0_work 4 none 3 := ⟨⟨q2_206, q1_7, by decide, by decide, by decide⟩, q2_205, qs_11⟩
set_option maxRecDepth 20000 in
theorem c_X0_work (l : Launch) (X : Wx) {S S' : Mm} {r : Unit} {x1 : Int32} {x2 : Int32} {x3 : Int32}  (h : f_X0_work S x1 x2 x3 = some (r, S')) : Ct l X yX0_work cX0_work 4 none rm_X0_work [.ref (X.1 + 158), .int x1, .int x2, .int x3] S none S' := by
  refine r_entry (by decide) (Nat.le_of_ble_eq_true rfl) ?_
  intro p e s m args below meth c ls hc hr hw hl
  have hc : Cx p s m args meth c X cX0_work 4 RX0 := hc
  have hl : lv_has ls 4 [(0, .ref (X.1 + 158)), (1, .int x1), (2, .int x2), (3, .int x3)] := hl
  have hx := hc.1
  have hb := hc.2.1
  unfold f_X0_work at h
  refine lv_aload_n hx hb dX0_work_0 rfl (lv_at hl 0 rfl) ?_
  refine lv_dup hx hb dX0_work_1 rfl ?_
  refine r_get0 hc hw k158 2 (by decide) (v := .long (gJ S 158 2)) rfl q1_199 dX0_work_2 ?_
  refine lv_aload_n hx hb dX0_work_5 rfl (lv_at hl 0 rfl) ?_
  refine r_get0 hc hw k158 0 (by decide) (v := .long (gJ S 158 0)) rfl q1_195 dX0_work_6 ?_
  refine lv_aload_n hx hb dX0_work_9 rfl (lv_at hl 0 rfl) ?_
  refine r_get0 hc hw k158 1 (by decide) (v := .long (gJ S 158 1)) rfl q1_197 dX0_work_10 ?_
  refine lv_ladd hx hb dX0_work_13 ?_
  refine lv_iload_n hx hb dX0_work_14 rfl (lv_at hl 2 rfl) ?_
  refine lv_i2l hx hb dX0_work_15 rfl ?_
  refine lv_lmul hx hb dX0_work_16 ?_
  refine lv_ladd hx hb dX0_work_17 ?_
  obtain ⟨S1, e2, h⟩ := nm_some h
  refine r_put0_2 hc hw k158 e2 q1_199 dX0_work_18 (fun H locs hw => ?_)
  refine lv_aload_n hx hb dX0_work_21 rfl (lv_at hl 0 rfl) ?_
  refine r_get0 hc hw k158 4 (by decide) (v := .ref (X.1 + 160)) rfl q1_203 dX0_work_22 ?_
  refine lv_iload_n hx hb dX0_work_25 rfl (lv_at hl 1 rfl) ?_
  refine lv_aload_n hx hb dX0_work_26 rfl (lv_at hl 0 rfl) ?_
  refine r_get0 hc hw k158 0 (by decide) (v := .long (gJ S1 158 0)) rfl q1_195 dX0_work_27 ?_
  refine lv_ldc2 hx hb hc.2.2.2.1 (hc.2.2.2.2.1 _ q2_207) dX0_work_30 ?_
  refine lv_ldiv hx hb dX0_work_33 (by decide) ?_
  refine lv_iload_n hx hb dX0_work_34 rfl (lv_at hl 3 rfl) ?_
  refine lv_i2l hx hb dX0_work_35 rfl ?_
  refine lv_lmul hx hb dX0_work_36 ?_
  obtain ⟨b3, h⟩ := bnd_some h
  obtain ⟨S4, e5, h⟩ := nm_some h
  refine r_last hc hw k160 (inL b3 l160) e5 dX0_work_37 (fun H locs hw => ?_)
  refine lv_aload_n hx hb dX0_work_38 rfl (lv_at hl 0 rfl) ?_
  refine lv_dup hx hb dX0_work_39 rfl ?_
  refine r_get0 hc hw k158 0 (by decide) (v := .long (gJ S4 158 0)) rfl q1_195 dX0_work_40 ?_
  refine lv_aload_n hx hb dX0_work_43 rfl (lv_at hl 0 rfl) ?_
  refine r_get0 hc hw k158 4 (by decide) (v := .ref (X.1 + 160)) rfl q1_203 dX0_work_44 ?_
  refine lv_iload_n hx hb dX0_work_47 rfl (lv_at hl 1 rfl) ?_
  obtain ⟨b6, h⟩ := bnd_some h
  refine r_lald hc hw k160 (inL b6 l160) dX0_work_48 ?_
  refine lv_lsub hx hb dX0_work_49 ?_
  obtain ⟨S7, e8, h⟩ := nm_some h
  refine r_put0_0 hc hw k158 e8 q1_195 dX0_work_50 (fun H locs hw => ?_)
  refine lv_aload_n hx hb dX0_work_53 rfl (lv_at hl 0 rfl) ?_
  refine lv_dup hx hb dX0_work_54 rfl ?_
  refine r_get0 hc hw k158 1 (by decide) (v := .long (gJ S7 158 1)) rfl q1_197 dX0_work_55 ?_
  refine lv_aload_n hx hb dX0_work_58 rfl (lv_at hl 0 rfl) ?_
  refine r_get0 hc hw k158 4 (by decide) (v := .ref (X.1 + 160)) rfl q1_203 dX0_work_59 ?_
  refine lv_iload_n hx hb dX0_work_62 rfl (lv_at hl 1 rfl) ?_
  obtain ⟨b9, h⟩ := bnd_some h
  refine r_lald hc hw k160 (inL b9 l160) dX0_work_63 ?_
  refine lv_ladd hx hb dX0_work_64 ?_
  obtain ⟨S10, e11, h⟩ := nm_some h
  refine r_put0_1 hc hw k158 e11 q1_197 dX0_work_65 (fun H locs hw => ?_)
  obtain ⟨rfl, rfl⟩ := sm_inj h
  exact r_vret hc hr hw dX0_work_68
abbrev rm_X0_through : Room := { frames := 1, cells := 0, slots := 0, locals := 23 }
theorem ms_X0_through : MsV yX0_through cX0_through 7 none 4 := ⟨⟨q2_197, q1_7, by decide, by decide, by decide⟩, q2_195, q2_196⟩
set_option maxRecDepth 20000 in
theorem w_X0_through_7 {p : Program} {l : Launch} {e : Env} {s : State} {m : MethodId} {args : Array Value} {below : List Frame} {meth : Method} {c : Code} {X : Wx} {r : Unit} {S' : Mm} (hc : Cx p s m args meth c X cX0_through 7 RX0) (hr : meth.sig.returnType = none) {a1 : Nat} (ha1 : KK a1 = 4) {a2 : Nat} (ha2 : KK a2 = 1) {a3 : Nat} (ha3 : KK a3 = 9)  : ∀ (n : Nat), ∀ (x4 : Int32) (x5 : Int32) (S : Mm) (H : Heap) (locs : List Loc) (ls : Array Slot), Wd X s.heap S H locs → lv_has ls 7 [(0, .ref (X.1 + 158)), (1, .ref (X.1 + a1)), (2, .ref (X.1 + a2)), (3, .ref (X.1 + a3)), (4, .int x4), (5, .int x5)] → f_X0_through_7 a1 a2 a3 n x4 x5 S = some (r, S') → W p l e rm_X0_through s m args below meth c H locs 0 0 (MQ below (Qq X none S') args s 0 0 (AA X.1)) (F0 m 7 ls []) := by
  have hx := hc.1
  have hb := hc.2.1
  intro n
  induction n with
  | zero => intro x4 x5 S H locs ls hw hl h; cases h
  | succ n ih =>
    intro x4 x5 S H locs ls hw hl h
    rw [f_X0_through_7] at h
    refine lv_iload hx hb dX0_through_7 (lv_at hl 5 rfl) ?_
    refine lv_aload_n hx hb dX0_through_9 rfl (lv_at hl 1 rfl) ?_
    refine r_get4 hc hw ha1 0 (by decide) (v := .int (gI S a1 0)) rfl q1_58 dX0_through_10 ?_
    refine lv_icmp_ge (tgt := 87) hx hb dX0_through_13 (by decide) (fun c1 => ?_) (fun c1 => ?_)
    · have h := ifT c1 h
      refine lv_aload_n hx hb dX0_through_87 rfl (lv_at hl 0 rfl) ?_
      refine lv_dup hx hb dX0_through_88 rfl ?_
      refine r_get0 hc hw k158 2 (by decide) (v := .long (gJ S 158 2)) rfl q1_199 dX0_through_89 ?_
      refine lv_aload_n hx hb dX0_through_92 rfl (lv_at hl 0 rfl) ?_
      refine r_get0 hc hw k158 1 (by decide) (v := .long (gJ S 158 1)) rfl q1_197 dX0_through_93 ?_
      refine lv_aload_n hx hb dX0_through_96 rfl (lv_at hl 1 rfl) ?_
      refine r_get4 hc hw ha1 1 (by decide) (v := .int (gI S a1 1)) rfl q1_63 dX0_through_97 ?_
      refine lv_i2l hx hb dX0_through_100 rfl ?_
      refine lv_lmul hx hb dX0_through_101 ?_
      refine lv_ladd hx hb dX0_through_102 ?_
      obtain ⟨S2, e3, h⟩ := nm_some h
      refine r_put0_2 hc hw k158 e3 q1_199 dX0_through_103 (fun H locs hw => ?_)
      obtain ⟨rfl, rfl⟩ := sm_inj h
      exact r_vret hc hr hw dX0_through_106
    · have h := ifF c1 h
      refine lv_aload_n hx hb dX0_through_16 rfl (lv_at hl 3 rfl) ?_
      refine lv_iload hx hb dX0_through_17 (lv_at hl 5 rfl) ?_
      obtain ⟨b4, h⟩ := bnd_some h
      refine r_iald hc hw ha3 (inL b4 rfl) dX0_through_19 ?_
      obtain ⟨v5, e6, h⟩ := nm_some h
      refine r_top e6 ?_
      refine lv_istore (lv' := [(6, .int v5), (0, .ref (X.1 + 158)), (1, .ref (X.1 + a1)), (2, .ref (X.1 + a2)), (3, .ref (X.1 + a3)), (4, .int x4), (5, .int x5)]) hx hb dX0_through_20 hl (by decide) rfl (fun ls hl => ?_)
      refine lv_aload_n hx hb dX0_through_22 rfl (lv_at hl 1 rfl) ?_
      refine lv_iload hx hb dX0_through_23 (lv_at hl 6 rfl) ?_
      refine lv_aload_n hx hb dX0_through_25 rfl (lv_at hl 2 rfl) ?_
      refine r_get4 hc hw ha1 2 (by decide) (v := .ref (X.1 + (a1 + 1))) rfl q1_67 dX0_through_26 ?_
      refine lv_iload hx hb dX0_through_29 (lv_at hl 0 rfl) ?_
      obtain ⟨b7, h⟩ := bnd_some h
      refine r_iald hc hw (kf_4_seconds ha1) (inL b7 (lf_4_seconds ha1)) dX0_through_31 ?_
      refine lv_aload_n hx hb dX0_through_32 rfl (lv_at hl 3 rfl) ?_
      refine r_get1 hc hw ha2 1 (by decide) (v := .ref (X.1 + (a2 + 2))) rfl q1_119 dX0_through_33 ?_
      refine lv_iload hx hb dX0_through_36 (lv_at hl 0 rfl) ?_
      obtain ⟨b8, h⟩ := bnd_some h
      refine r_iald hc hw (kf_1_fault ha2) (inL b8 (lf_1_fault ha2)) dX0_through_38 ?_
      obtain ⟨r9, S10, h11, h⟩ := bd_some h
      refine r_callV0v hc hw hl.1 (As := [.int x5, .int (gI S (a1 + 1) v5.toNatClampNeg), .int (gI S (a2 + 2) v5.toNatClampNeg)]) (rest := []) k158 (c_X0_work l X  h11) ms_X0_work rfl q2_203 rfl rfl ⟨rfl, rfl, Nat.le_of_ble_eq_true rfl, Nat.le_of_ble_eq_true rfl⟩ (Nat.le_of_ble_eq_true rfl) ⟨Nat.zero_le _, Nat.zero_le _⟩ dX0_through_39 (fun H locs hw => ?_)
      refine lv_aload_n hx hb dX0_through_42 rfl (lv_at hl 1 rfl) ?_
      refine r_get0 hc hw k158 3 (by decide) (v := .ref (X.1 + 159)) rfl q1_201 dX0_through_43 ?_
      refine lv_iload hx hb dX0_through_46 (lv_at hl 6 rfl) ?_
      refine lv_lconst (v := 0) hx hb dX0_through_48 (by decide) ?_
      obtain ⟨b12, h⟩ := bnd_some h
      obtain ⟨S13, e14, h⟩ := nm_some h
      refine r_last hc hw k159 (inL b12 l159) e14 dX0_through_49 (fun H locs hw => ?_)
      refine lv_iload hx hb dX0_through_50 (lv_at hl 5 rfl) ?_
      refine lv_iload hx hb dX0_through_52 (lv_at hl 0 rfl) ?_
      refine lv_ishr hx hb dX0_through_54 ?_
      refine lv_iconst (v := 1) hx hb dX0_through_55 (by decide) ?_
      refine lv_iand hx hb dX0_through_56 ?_
      refine lv_iconst (v := 1) hx hb dX0_through_57 (by decide) ?_
      refine lv_icmp_ne (tgt := 81) hx hb dX0_through_58 (by decide) (fun c15 => ?_) (fun c15 => ?_)
      · have h := ifF c15 h
        obtain ⟨v16, e17, h⟩ := nm_some h
        refine lv_iinc (v := v16) (lv' := [(5, .int v16), (6, .int v5), (0, .ref (X.1 + 158)), (1, .ref (X.1 + a1)), (2, .ref (X.1 + a2)), (3, .ref (X.1 + a3)), (4, .int x4)]) hx hb dX0_through_81 hl (k := 6) rfl (by rw [e17]; rfl) (by decide) rfl (fun ls hl => ?_)
        refine lv_goto (tgt := 7) hx hb dX0_through_84 (by decide) ?_
        exact ih x4 v16 S13 _ _ _ hw (lv_sub hl [2, 3, 4, 5, 6, 0] rfl) h
      · have h := ifT c15 h
        refine lv_aload_n hx hb dX0_through_61 rfl (lv_at hl 1 rfl) ?_
        refine lv_iload hx hb dX0_through_62 (lv_at hl 6 rfl) ?_
        refine lv_aload_n hx hb dX0_through_64 rfl (lv_at hl 2 rfl) ?_
        refine r_get4 hc hw ha1 4 (by decide) (v := .ref (X.1 + (a1 + 3))) rfl q1_75 dX0_through_65 ?_
        refine lv_iload hx hb dX0_through_68 (lv_at hl 0 rfl) ?_
        obtain ⟨b18, h⟩ := bnd_some h
        refine r_iald hc hw (kf_4_look ha1) (inL b18 (lf_4_look ha1)) dX0_through_70 ?_
        refine lv_aload_n hx hb dX0_through_71 rfl (lv_at hl 2 rfl) ?_
        refine r_get4 hc hw ha1 5 (by decide) (v := .ref (X.1 + (a1 + 4))) rfl q1_80 dX0_through_72 ?_
        refine lv_iload hx hb dX0_through_75 (lv_at hl 0 rfl) ?_
        obtain ⟨b19, h⟩ := bnd_some h
        refine r_iald hc hw (kf_4_miss ha1) (inL b19 (lf_4_miss ha1)) dX0_through_77 ?_
        obtain ⟨r20, S21, h22, h⟩ := bd_some h
        refine r_callV0v hc hw hl.1 (As := [.int x5, .int (gI S13 (a1 + 3) v5.toNatClampNeg), .int (gI S13 (a1 + 4) v5.toNatClampNeg)]) (rest := []) k158 (c_X0_lookBehind l X  h22) ms_X0_lookBehind rfl q2_208 rfl rfl ⟨rfl, rfl, Nat.le_of_ble_eq_true rfl, Nat.le_of_ble_eq_true rfl⟩ (Nat.le_of_ble_eq_true rfl) ⟨Nat.zero_le _, Nat.zero_le _⟩ dX0_through_78 (fun H locs hw => ?_)
        obtain ⟨v23, e24, h⟩ := nm_some h
        refine lv_iinc (v := v23) (lv' := [(5, .int v23), (6, .int v5), (0, .ref (X.1 + 158)), (1, .ref (X.1 + a1)), (2, .ref (X.1 + a2)), (3, .ref (X.1 + a3)), (4, .int x4)]) hx hb dX0_through_81 hl (k := 6) rfl (by rw [e24]; rfl) (by decide) rfl (fun ls hl => ?_)
        refine lv_goto (tgt := 7) hx hb dX0_through_84 (by decide) ?_
        exact ih x4 v23 S21 _ _ _ hw (lv_sub hl [2, 3, 4, 5, 6, 0] rfl) h
set_option maxRecDepth 20000 in
theorem c_X0_through (l : Launch) (X : Wx) {S S' : Mm} {r : Unit} {a1 : Nat} {a2 : Nat} {a3 : Nat} {x4 : Int32} (ha1 : KK a1 = 4) (ha2 : KK a2 = 1) (ha3 : KK a3 = 9) (h : f_X0_through S a1 a2 a3 x4 = some (r, S')) : Ct l X yX0_through cX0_through 7 none rm_X0_through [.ref (X.1 + 158), .ref (X.1 + a1), .ref (X.1 + a2), .ref (X.1 + a3), .int x4] S none S' := by
  refine r_entry (by decide) (Nat.le_of_ble_eq_true rfl) ?_
  intro p e s m args below meth c ls hc hr hw hl
  have hc : Cx p s m args meth c X cX0_through 7 RX0 := hc
  have hl : lv_has ls 7 [(0, .ref (X.1 + 158)), (1, .ref (X.1 + a1)), (2, .ref (X.1 + a2)), (3, .ref (X.1 + a3)), (4, .int x4)] := hl
  have hx := hc.1
  have hb := hc.2.1
  unfold f_X0_through at h
  refine lv_aload_n hx hb dX0_through_0 rfl (lv_at hl 0 rfl) ?_
  obtain ⟨r1, S2, h3, h⟩ := bd_some h
  refine r_callV0v hc hw hl.1 (As := []) (rest := []) k158 (c_X0_begin l X  h3) ms_X0_begin rfl q2_198 rfl rfl ⟨rfl, rfl, Nat.le_of_ble_eq_true rfl, Nat.le_of_ble_eq_true rfl⟩ (Nat.le_of_ble_eq_true rfl) ⟨Nat.zero_le _, Nat.zero_le _⟩ dX0_through_1 (fun H locs hw => ?_)
  refine lv_iconst (v := 0) hx hb dX0_through_4 (by decide) ?_
  refine lv_istore (lv' := [(5, .int 0), (0, .ref (X.1 + 158)), (1, .ref (X.1 + a1)), (2, .ref (X.1 + a2)), (3, .ref (X.1 + a3)), (4, .int x4)]) hx hb dX0_through_5 hl (by decide) rfl (fun ls hl => ?_)
  exact w_X0_through_7 hc hr ha1 ha2 ha3 400 x4 0 S2 _ _ _ hw (lv_sub hl [1, 2, 3, 4, 5, 0] rfl) h
abbrev rm_X0_upTo : Room := { frames := 1, cells := 0, slots := 0, locals := 23 }
theorem ms_X0_upTo : MsV yX0_upTo cX0_upTo 6 none 3 := ⟨⟨q3_32, q1_7, by decide, by decide, by decide⟩, q3_30, q3_31⟩
set_option maxRecDepth 20000 in
theorem w_X0_upTo_7 {p : Program} {l : Launch} {e : Env} {s : State} {m : MethodId} {args : Array Value} {below : List Frame} {meth : Method} {c : Code} {X : Wx} {r : Unit} {S' : Mm} (hc : Cx p s m args meth c X cX0_upTo 6 RX0) (hr : meth.sig.returnType = none) {a2 : Nat} (ha2 : KK a2 = 4) {a3 : Nat} (ha3 : KK a3 = 1)  : ∀ (n : Nat), ∀ (x1 : Int32) (x4 : Int32) (S : Mm) (H : Heap) (locs : List Loc) (ls : Array Slot), Wd X s.heap S H locs → lv_has ls 6 [(0, .ref (X.1 + 158)), (1, .int x1), (2, .ref (X.1 + a2)), (3, .ref (X.1 + a3)), (4, .int x4)] → f_X0_upTo_7 a2 a3 n x1 x4 S = some (r, S') → W p l e rm_X0_upTo s m args below meth c H locs 0 0 (MQ below (Qq X none S') args s 0 0 (AA X.1)) (F0 m 7 ls []) := by
  have hx := hc.1
  have hb := hc.2.1
  intro n
  induction n with
  | zero => intro x1 x4 S H locs ls hw hl h; cases h
  | succ n ih =>
    intro x1 x4 S H locs ls hw hl h
    rw [f_X0_upTo_7] at h
    refine lv_iload hx hb dX0_upTo_7 (lv_at hl 4 rfl) ?_
    refine lv_iload_n hx hb dX0_upTo_9 rfl (lv_at hl 1 rfl) ?_
    refine lv_icmp_gt (tgt := 109) hx hb dX0_upTo_10 (by decide) (fun c1 => ?_) (fun c1 => ?_)
    · have h := ifT c1 h
      obtain ⟨rfl, rfl⟩ := sm_inj h
      exact r_vret hc hr hw dX0_upTo_109
    · have h := ifF c1 h
      refine lv_iload hx hb dX0_upTo_13 (lv_at hl 4 rfl) ?_
      refine lv_aload_n hx hb dX0_upTo_15 rfl (lv_at hl 2 rfl) ?_
      refine r_get4 hc hw ha2 0 (by decide) (v := .int (gI S a2 0)) rfl q1_58 dX0_upTo_16 ?_
      refine lv_icmp_ge (tgt := 109) hx hb dX0_upTo_19 (by decide) (fun c2 => ?_) (fun c2 => ?_)
      · have h := ifT c2 h
        obtain ⟨rfl, rfl⟩ := sm_inj h
        exact r_vret hc hr hw dX0_upTo_109
      · have h := ifF c2 h
        refine lv_aload_n hx hb dX0_upTo_22 rfl (lv_at hl 3 rfl) ?_
        refine r_get1 hc hw ha3 0 (by decide) (v := .ref (X.1 + (a3 + 1))) rfl q1_116 dX0_upTo_23 ?_
        refine lv_iload hx hb dX0_upTo_26 (lv_at hl 4 rfl) ?_
        obtain ⟨b3, h⟩ := bnd_some h
        refine r_iald hc hw (kf_1_line ha3) (inL b3 (lf_1_line ha3)) dX0_upTo_28 ?_
        obtain ⟨v4, e5, h⟩ := nm_some h
        refine r_top e5 ?_
        refine lv_istore (lv' := [(5, .int v4), (0, .ref (X.1 + 158)), (1, .int x1), (2, .ref (X.1 + a2)), (3, .ref (X.1 + a3)), (4, .int x4)]) hx hb dX0_upTo_29 hl (by decide) rfl (fun ls hl => ?_)
        refine lv_aload_n hx hb dX0_upTo_31 rfl (lv_at hl 1 rfl) ?_
        refine lv_iload hx hb dX0_upTo_32 (lv_at hl 5 rfl) ?_
        refine lv_aload_n hx hb dX0_upTo_34 rfl (lv_at hl 3 rfl) ?_
        refine r_get4 hc hw ha2 2 (by decide) (v := .ref (X.1 + (a2 + 1))) rfl q1_67 dX0_upTo_35 ?_
        refine lv_iload hx hb dX0_upTo_38 (lv_at hl 0 rfl) ?_
        obtain ⟨b6, h⟩ := bnd_some h
        refine r_iald hc hw (kf_4_seconds ha2) (inL b6 (lf_4_seconds ha2)) dX0_upTo_40 ?_
        refine lv_aload_n hx hb dX0_upTo_41 rfl (lv_at hl 4 rfl) ?_
        refine r_get1 hc hw ha3 1 (by decide) (v := .ref (X.1 + (a3 + 2))) rfl q1_119 dX0_upTo_42 ?_
        refine lv_iload hx hb dX0_upTo_45 (lv_at hl 0 rfl) ?_
        obtain ⟨b7, h⟩ := bnd_some h
        refine r_iald hc hw (kf_1_fault ha3) (inL b7 (lf_1_fault ha3)) dX0_upTo_47 ?_
        obtain ⟨r8, S9, h10, h⟩ := bd_some h
        refine r_callV0v hc hw hl.1 (As := [.int x4, .int (gI S (a2 + 1) v4.toNatClampNeg), .int (gI S (a3 + 2) v4.toNatClampNeg)]) (rest := []) k158 (c_X0_work l X  h10) ms_X0_work rfl q2_203 rfl rfl ⟨rfl, rfl, Nat.le_of_ble_eq_true rfl, Nat.le_of_ble_eq_true rfl⟩ (Nat.le_of_ble_eq_true rfl) ⟨Nat.zero_le _, Nat.zero_le _⟩ dX0_upTo_48 (fun H locs hw => ?_)
        refine lv_iload hx hb dX0_upTo_51 (lv_at hl 5 rfl) ?_
        refine lv_iload_n hx hb dX0_upTo_53 rfl (lv_at hl 2 rfl) ?_
        refine lv_icmp_ge (tgt := 103) hx hb dX0_upTo_54 (by decide) (fun c11 => ?_) (fun c11 => ?_)
        · have h := ifT c11 h
          obtain ⟨v12, e13, h⟩ := nm_some h
          refine lv_iinc (v := v12) (lv' := [(4, .int v12), (5, .int v4), (0, .ref (X.1 + 158)), (1, .int x1), (2, .ref (X.1 + a2)), (3, .ref (X.1 + a3))]) hx hb dX0_upTo_103 hl (k := 5) rfl (by rw [e13]; rfl) (by decide) rfl (fun ls hl => ?_)
          refine lv_goto (tgt := 7) hx hb dX0_upTo_106 (by decide) ?_
          exact ih x1 v12 S9 _ _ _ hw (lv_sub hl [2, 3, 4, 5, 0] rfl) h
        · have h := ifF c11 h
          refine lv_aload_n hx hb dX0_upTo_57 rfl (lv_at hl 4 rfl) ?_
          refine r_get1 hc hw ha3 3 (by decide) (v := .int (gI S9 a3 3)) rfl q1_125 dX0_upTo_58 ?_
          refine lv_iload hx hb dX0_upTo_61 (lv_at hl 0 rfl) ?_
          refine lv_ishr hx hb dX0_upTo_63 ?_
          refine lv_iconst (v := 1) hx hb dX0_upTo_64 (by decide) ?_
          refine lv_iand hx hb dX0_upTo_65 ?_
          refine lv_iconst (v := 1) hx hb dX0_upTo_66 (by decide) ?_
          refine lv_icmp_ne (tgt := 103) hx hb dX0_upTo_67 (by decide) (fun c14 => ?_) (fun c14 => ?_)
          · have h := ifF c14 h
            obtain ⟨v15, e16, h⟩ := nm_some h
            refine lv_iinc (v := v15) (lv' := [(4, .int v15), (5, .int v4), (0, .ref (X.1 + 158)), (1, .int x1), (2, .ref (X.1 + a2)), (3, .ref (X.1 + a3))]) hx hb dX0_upTo_103 hl (k := 5) rfl (by rw [e16]; rfl) (by decide) rfl (fun ls hl => ?_)
            refine lv_goto (tgt := 7) hx hb dX0_upTo_106 (by decide) ?_
            exact ih x1 v15 S9 _ _ _ hw (lv_sub hl [2, 3, 4, 5, 0] rfl) h
          · have h := ifT c14 h
            refine lv_aload_n hx hb dX0_upTo_70 rfl (lv_at hl 1 rfl) ?_
            refine lv_iload hx hb dX0_upTo_71 (lv_at hl 5 rfl) ?_
            refine lv_aload_n hx hb dX0_upTo_73 rfl (lv_at hl 3 rfl) ?_
            refine r_get4 hc hw ha2 4 (by decide) (v := .ref (X.1 + (a2 + 3))) rfl q1_75 dX0_upTo_74 ?_
            refine lv_iload hx hb dX0_upTo_77 (lv_at hl 0 rfl) ?_
            obtain ⟨b17, h⟩ := bnd_some h
            refine r_iald hc hw (kf_4_look ha2) (inL b17 (lf_4_look ha2)) dX0_upTo_79 ?_
            refine lv_aload_n hx hb dX0_upTo_80 rfl (lv_at hl 3 rfl) ?_
            refine r_get4 hc hw ha2 5 (by decide) (v := .ref (X.1 + (a2 + 4))) rfl q1_80 dX0_upTo_81 ?_
            refine lv_iload hx hb dX0_upTo_84 (lv_at hl 0 rfl) ?_
            obtain ⟨b18, h⟩ := bnd_some h
            refine r_iald hc hw (kf_4_miss ha2) (inL b18 (lf_4_miss ha2)) dX0_upTo_86 ?_
            obtain ⟨r19, S20, h21, h⟩ := bd_some h
            refine r_callV0v hc hw hl.1 (As := [.int x4, .int (gI S9 (a2 + 3) v4.toNatClampNeg), .int (gI S9 (a2 + 4) v4.toNatClampNeg)]) (rest := []) k158 (c_X0_lookBehind l X  h21) ms_X0_lookBehind rfl q2_208 rfl rfl ⟨rfl, rfl, Nat.le_of_ble_eq_true rfl, Nat.le_of_ble_eq_true rfl⟩ (Nat.le_of_ble_eq_true rfl) ⟨Nat.zero_le _, Nat.zero_le _⟩ dX0_upTo_87 (fun H locs hw => ?_)
            refine lv_aload_n hx hb dX0_upTo_90 rfl (lv_at hl 1 rfl) ?_
            refine lv_iload hx hb dX0_upTo_91 (lv_at hl 5 rfl) ?_
            refine lv_aload_n hx hb dX0_upTo_93 rfl (lv_at hl 3 rfl) ?_
            refine r_get4 hc hw ha2 5 (by decide) (v := .ref (X.1 + (a2 + 4))) rfl q1_80 dX0_upTo_94 ?_
            refine lv_iload hx hb dX0_upTo_97 (lv_at hl 0 rfl) ?_
            obtain ⟨b22, h⟩ := bnd_some h
            refine r_iald hc hw (kf_4_miss ha2) (inL b22 (lf_4_miss ha2)) dX0_upTo_99 ?_
            obtain ⟨r23, S24, h25, h⟩ := bd_some h
            refine r_callV0v hc hw hl.1 (As := [.int x4, .int (gI S20 (a2 + 4) v4.toNatClampNeg)]) (rest := []) k158 (c_X0_thinShares l X  h25) ms_X0_thinShares rfl q3_33 rfl rfl ⟨rfl, rfl, Nat.le_of_ble_eq_true rfl, Nat.le_of_ble_eq_true rfl⟩ (Nat.le_of_ble_eq_true rfl) ⟨Nat.zero_le _, Nat.zero_le _⟩ dX0_upTo_100 (fun H locs hw => ?_)
            obtain ⟨v26, e27, h⟩ := nm_some h
            refine lv_iinc (v := v26) (lv' := [(4, .int v26), (5, .int v4), (0, .ref (X.1 + 158)), (1, .int x1), (2, .ref (X.1 + a2)), (3, .ref (X.1 + a3))]) hx hb dX0_upTo_103 hl (k := 5) rfl (by rw [e27]; rfl) (by decide) rfl (fun ls hl => ?_)
            refine lv_goto (tgt := 7) hx hb dX0_upTo_106 (by decide) ?_
            exact ih x1 v26 S24 _ _ _ hw (lv_sub hl [2, 3, 4, 5, 0] rfl) h
set_option maxRecDepth 20000 in
theorem c_X0_upTo (l : Launch) (X : Wx) {S S' : Mm} {r : Unit} {x1 : Int32} {a2 : Nat} {a3 : Nat} (ha2 : KK a2 = 4) (ha3 : KK a3 = 1) (h : f_X0_upTo S x1 a2 a3 = some (r, S')) : Ct l X yX0_upTo cX0_upTo 6 none rm_X0_upTo [.ref (X.1 + 158), .int x1, .ref (X.1 + a2), .ref (X.1 + a3)] S none S' := by
  refine r_entry (by decide) (Nat.le_of_ble_eq_true rfl) ?_
  intro p e s m args below meth c ls hc hr hw hl
  have hc : Cx p s m args meth c X cX0_upTo 6 RX0 := hc
  have hl : lv_has ls 6 [(0, .ref (X.1 + 158)), (1, .int x1), (2, .ref (X.1 + a2)), (3, .ref (X.1 + a3))] := hl
  have hx := hc.1
  have hb := hc.2.1
  unfold f_X0_upTo at h
  refine lv_aload_n hx hb dX0_upTo_0 rfl (lv_at hl 0 rfl) ?_
  obtain ⟨r1, S2, h3, h⟩ := bd_some h
  refine r_callV0v hc hw hl.1 (As := []) (rest := []) k158 (c_X0_begin l X  h3) ms_X0_begin rfl q2_198 rfl rfl ⟨rfl, rfl, Nat.le_of_ble_eq_true rfl, Nat.le_of_ble_eq_true rfl⟩ (Nat.le_of_ble_eq_true rfl) ⟨Nat.zero_le _, Nat.zero_le _⟩ dX0_upTo_1 (fun H locs hw => ?_)
  refine lv_iconst (v := 0) hx hb dX0_upTo_4 (by decide) ?_
  refine lv_istore (lv' := [(4, .int 0), (0, .ref (X.1 + 158)), (1, .int x1), (2, .ref (X.1 + a2)), (3, .ref (X.1 + a3))]) hx hb dX0_upTo_5 hl (by decide) rfl (fun ls hl => ?_)
  exact w_X0_upTo_7 hc hr ha2 ha3 400 x1 0 S2 _ _ _ hw (lv_sub hl [1, 2, 3, 4, 0] rfl) h
abbrev rm_X1_become : Room := { frames := 1, cells := 0, slots := 0, locals := 40 }
theorem ms_X1_become : MsV yX1_become cX1_become 2 none 1 := ⟨⟨q2_120, q1_5, by decide, by decide, by decide⟩, q2_118, q2_119⟩
set_option maxRecDepth 20000 in
theorem c_X1_become (l : Launch) (X : Wx) {S S' : Mm} {r : Unit} {o : Nat} {a1 : Nat} (ho : KK o = 1) (ha1 : KK a1 = 1) (h : f_X1_become S o a1 = some (r, S')) : Ct l X yX1_become cX1_become 2 none rm_X1_become [.ref (X.1 + o), .ref (X.1 + a1)] S none S' := by
  refine r_entry (by decide) (Nat.le_of_ble_eq_true rfl) ?_
  intro p e s m args below meth c ls hc hr hw hl
  have hc : Cx p s m args meth c X cX1_become 2 RX1 := hc
  have hl : lv_has ls 2 [(0, .ref (X.1 + o)), (1, .ref (X.1 + a1))] := hl
  have hx := hc.1
  have hb := hc.2.1
  unfold f_X1_become at h
  refine lv_aload_n hx hb dX1_become_0 rfl (lv_at hl 1 rfl) ?_
  refine r_get1 hc hw ha1 0 (by decide) (v := .ref (X.1 + (a1 + 1))) rfl q1_114 dX1_become_1 ?_
  refine lv_iconst (v := 0) hx hb dX1_become_4 (by decide) ?_
  refine lv_aload_n hx hb dX1_become_5 rfl (lv_at hl 0 rfl) ?_
  refine r_get1 hc hw ho 0 (by decide) (v := .ref (X.1 + (o + 1))) rfl q1_114 dX1_become_6 ?_
  refine lv_iconst (v := 0) hx hb dX1_become_9 (by decide) ?_
  refine lv_iconst (v := 5) hx hb dX1_become_10 (by decide) ?_
  obtain ⟨b1, h⟩ := bnd_some h
  obtain ⟨S2, e3, h⟩ := nm_some h
  refine r_copy hc hw hl.1 (kf_1_line ha1) (kf_1_line ho) b1 e3 q2_121 (Nat.le_of_ble_eq_true rfl) (Nat.le_of_ble_eq_true rfl) dX1_become_11 (fun H locs hw => ?_)
  refine lv_aload_n hx hb dX1_become_14 rfl (lv_at hl 1 rfl) ?_
  refine r_get1 hc hw ha1 1 (by decide) (v := .ref (X.1 + (a1 + 2))) rfl q1_118 dX1_become_15 ?_
  refine lv_iconst (v := 0) hx hb dX1_become_18 (by decide) ?_
  refine lv_aload_n hx hb dX1_become_19 rfl (lv_at hl 0 rfl) ?_
  refine r_get1 hc hw ho 1 (by decide) (v := .ref (X.1 + (o + 2))) rfl q1_118 dX1_become_20 ?_
  refine lv_iconst (v := 0) hx hb dX1_become_23 (by decide) ?_
  refine lv_iconst (v := 5) hx hb dX1_become_24 (by decide) ?_
  obtain ⟨b4, h⟩ := bnd_some h
  obtain ⟨S5, e6, h⟩ := nm_some h
  refine r_copy hc hw hl.1 (kf_1_fault ha1) (kf_1_fault ho) b4 e6 q2_121 (Nat.le_of_ble_eq_true rfl) (Nat.le_of_ble_eq_true rfl) dX1_become_25 (fun H locs hw => ?_)
  refine lv_aload_n hx hb dX1_become_28 rfl (lv_at hl 1 rfl) ?_
  refine r_get1 hc hw ha1 2 (by decide) (v := .ref (X.1 + (a1 + 3))) rfl q1_122 dX1_become_29 ?_
  refine lv_iconst (v := 0) hx hb dX1_become_32 (by decide) ?_
  refine lv_aload_n hx hb dX1_become_33 rfl (lv_at hl 0 rfl) ?_
  refine r_get1 hc hw ho 2 (by decide) (v := .ref (X.1 + (o + 3))) rfl q1_122 dX1_become_34 ?_
  refine lv_iconst (v := 0) hx hb dX1_become_37 (by decide) ?_
  refine lv_iconst (v := 5) hx hb dX1_become_38 (by decide) ?_
  obtain ⟨b7, h⟩ := bnd_some h
  obtain ⟨S8, e9, h⟩ := nm_some h
  refine r_copy hc hw hl.1 (kf_1_thrown ha1) (kf_1_thrown ho) b7 e9 q2_121 (Nat.le_of_ble_eq_true rfl) (Nat.le_of_ble_eq_true rfl) dX1_become_39 (fun H locs hw => ?_)
  refine lv_aload_n hx hb dX1_become_42 rfl (lv_at hl 0 rfl) ?_
  refine lv_aload_n hx hb dX1_become_43 rfl (lv_at hl 1 rfl) ?_
  refine r_get1 hc hw ha1 3 (by decide) (v := .int (gI S8 a1 3)) rfl q1_124 dX1_become_44 ?_
  obtain ⟨S10, e11, h⟩ := nm_some h
  refine r_put1_3 hc hw ho e11 q1_124 dX1_become_47 (fun H locs hw => ?_)
  refine lv_aload_n hx hb dX1_become_50 rfl (lv_at hl 0 rfl) ?_
  refine lv_aload_n hx hb dX1_become_51 rfl (lv_at hl 1 rfl) ?_
  refine r_get1 hc hw ha1 4 (by decide) (v := .int (gI S10 a1 4)) rfl q1_127 dX1_become_52 ?_
  obtain ⟨S12, e13, h⟩ := nm_some h
  refine r_put1_4 hc hw ho e13 q1_127 dX1_become_55 (fun H locs hw => ?_)
  refine lv_aload_n hx hb dX1_become_58 rfl (lv_at hl 0 rfl) ?_
  refine lv_aload_n hx hb dX1_become_59 rfl (lv_at hl 1 rfl) ?_
  refine r_get1 hc hw ha1 5 (by decide) (v := .int (gI S12 a1 5)) rfl q1_129 dX1_become_60 ?_
  obtain ⟨S14, e15, h⟩ := nm_some h
  refine r_put1_5 hc hw ho e15 q1_129 dX1_become_63 (fun H locs hw => ?_)
  refine lv_aload_n hx hb dX1_become_66 rfl (lv_at hl 0 rfl) ?_
  refine lv_aload_n hx hb dX1_become_67 rfl (lv_at hl 1 rfl) ?_
  refine r_get1 hc hw ha1 6 (by decide) (v := .int (gI S14 a1 6)) rfl q1_131 dX1_become_68 ?_
  obtain ⟨S16, e17, h⟩ := nm_some h
  refine r_put1_6 hc hw ho e17 q1_131 dX1_become_71 (fun H locs hw => ?_)
  refine lv_aload_n hx hb dX1_become_74 rfl (lv_at hl 0 rfl) ?_
  refine lv_aload_n hx hb dX1_become_75 rfl (lv_at hl 1 rfl) ?_
  refine r_get1 hc hw ha1 7 (by decide) (v := .int (gI S16 a1 7)) rfl q1_133 dX1_become_76 ?_
  obtain ⟨S18, e19, h⟩ := nm_some h
  refine r_put1_7 hc hw ho e19 q1_133 dX1_become_79 (fun H locs hw => ?_)
  obtain ⟨rfl, rfl⟩ := sm_inj h
  exact r_vret hc hr hw dX1_become_82
abbrev rm_X2_fate : Room := { frames := 0, cells := 0, slots := 0, locals := 0 }
theorem ms_X2_fate : MsV yX2_fate cX2_fate 1 (some .int) 0 := ⟨⟨q2_146, q1_6, by decide, by decide, by decide⟩, q2_144, q2_145⟩
set_option maxRecDepth 20000 in
theorem c_X2_fate (l : Launch) (X : Wx) {S S' : Mm} {r : Int32}   (h : f_X2_fate S = some (r, S')) : Ct l X yX2_fate cX2_fate 1 (some .int) rm_X2_fate [.ref (X.1 + 157)] S (some (.int r)) S' := by
  refine r_entry (by decide) (Nat.le_of_ble_eq_true rfl) ?_
  intro p e s m args below meth c ls hc hr hw hl
  have hc : Cx p s m args meth c X cX2_fate 1 RX2 := hc
  have hl : lv_has ls 1 [(0, .ref (X.1 + 157))] := hl
  have hx := hc.1
  have hb := hc.2.1
  unfold f_X2_fate at h
  refine lv_aload_n hx hb dX2_fate_0 rfl (lv_at hl 0 rfl) ?_
  refine r_get2 hc hw k157 2 (by decide) (v := .int (gI S 157 2)) rfl q1_179 dX2_fate_1 ?_
  refine lv_iconst (v := (-1)) hx hb dX2_fate_4 (by decide) ?_
  refine lv_icmp_eq (tgt := 10) hx hb dX2_fate_5 (by decide) (fun c1 => ?_) (fun c1 => ?_)
  · have h := ifT c1 h
    refine lv_aload_n hx hb dX2_fate_10 rfl (lv_at hl 0 rfl) ?_
    refine r_get2 hc hw k157 1 (by decide) (v := .int (gI S 157 1)) rfl q1_177 dX2_fate_11 ?_
    refine lv_if_eq (tgt := 21) hx hb dX2_fate_14 (by decide) (fun c2 => ?_) (fun c2 => ?_)
    · have h := ifT c2 h
      refine lv_iconst (v := 0) hx hb dX2_fate_21 (by decide) ?_
      obtain ⟨rfl, rfl⟩ := sm_inj h
      exact r_iret hc hr hw dX2_fate_22
    · have h := ifF c2 h
      refine lv_iconst (v := 1) hx hb dX2_fate_17 (by decide) ?_
      refine lv_goto (tgt := 22) hx hb dX2_fate_18 (by decide) ?_
      obtain ⟨rfl, rfl⟩ := sm_inj h
      exact r_iret hc hr hw dX2_fate_22
  · have h := ifF c1 h
    refine lv_iconst (v := 2) hx hb dX2_fate_8 (by decide) ?_
    obtain ⟨rfl, rfl⟩ := sm_inj h
    exact r_iret hc hr hw dX2_fate_9
abbrev rm_X1_enter : Room := { frames := 1, cells := 0, slots := 0, locals := 20 }
theorem ms_X1_enter : MsV yX1_enter cX1_enter 3 none 2 := ⟨⟨q2_142, q1_5, by decide, by decide, by decide⟩, q2_140, q2_141⟩
set_option maxRecDepth 20000 in
theorem c_X1_enter (l : Launch) (X : Wx) {S S' : Mm} {r : Unit} {o : Nat} {x2 : Int32} (ho : KK o = 1) (h : f_X1_enter S o x2 = some (r, S')) : Ct l X yX1_enter cX1_enter 3 none rm_X1_enter [.ref (X.1 + o), .ref (X.1 + 157), .int x2] S none S' := by
  refine r_entry (by decide) (Nat.le_of_ble_eq_true rfl) ?_
  intro p e s m args below meth c ls hc hr hw hl
  have hc : Cx p s m args meth c X cX1_enter 3 RX1 := hc
  have hl : lv_has ls 3 [(0, .ref (X.1 + o)), (1, .ref (X.1 + 157)), (2, .int x2)] := hl
  have hx := hc.1
  have hb := hc.2.1
  unfold f_X1_enter at h
  refine lv_aload_n hx hb dX1_enter_0 rfl (lv_at hl 0 rfl) ?_
  refine lv_dup hx hb dX1_enter_1 rfl ?_
  refine r_get1 hc hw ho 4 (by decide) (v := .int (gI S o 4)) rfl q1_127 dX1_enter_2 ?_
  refine lv_iconst (v := 1) hx hb dX1_enter_5 (by decide) ?_
  refine lv_iadd hx hb dX1_enter_6 ?_
  obtain ⟨S1, e2, h⟩ := nm_some h
  refine r_put1_4 hc hw ho e2 q1_127 dX1_enter_7 (fun H locs hw => ?_)
  refine lv_aload_n hx hb dX1_enter_10 rfl (lv_at hl 0 rfl) ?_
  refine lv_dup hx hb dX1_enter_11 rfl ?_
  refine r_get1 hc hw ho 7 (by decide) (v := .int (gI S1 o 7)) rfl q1_133 dX1_enter_12 ?_
  refine lv_aload_n hx hb dX1_enter_15 rfl (lv_at hl 1 rfl) ?_
  refine r_get2 hc hw k157 0 (by decide) (v := .int (gI S1 157 0)) rfl q1_176 dX1_enter_16 ?_
  refine lv_iadd hx hb dX1_enter_19 ?_
  obtain ⟨S3, e4, h⟩ := nm_some h
  refine r_put1_7 hc hw ho e4 q1_133 dX1_enter_20 (fun H locs hw => ?_)
  refine lv_aload_n hx hb dX1_enter_23 rfl (lv_at hl 1 rfl) ?_
  obtain ⟨r5, S6, h7, h⟩ := bd_some h
  refine r_callV2i hc hw hl.1 (As := []) (rest := []) k157 (c_X2_fate l X  h7) ms_X2_fate rfl q2_143 rfl rfl ⟨rfl, rfl, Nat.le_of_ble_eq_true rfl, Nat.le_of_ble_eq_true rfl⟩ (Nat.le_of_ble_eq_true rfl) ⟨Nat.zero_le _, Nat.zero_le _⟩ dX1_enter_24 (fun H locs hw => ?_)
  refine lv_iconst (v := 2) hx hb dX1_enter_27 (by decide) ?_
  refine lv_icmp_ne (tgt := 45) hx hb dX1_enter_28 (by decide) (fun c8 => ?_) (fun c8 => ?_)
  · have h := ifF c8 h
    refine lv_aload_n hx hb dX1_enter_45 rfl (lv_at hl 0 rfl) ?_
    refine lv_dup hx hb dX1_enter_46 rfl ?_
    refine r_get1 hc hw ho 5 (by decide) (v := .int (gI S6 o 5)) rfl q1_129 dX1_enter_47 ?_
    refine lv_iconst (v := 1) hx hb dX1_enter_50 (by decide) ?_
    refine lv_iadd hx hb dX1_enter_51 ?_
    obtain ⟨S9, e10, h⟩ := nm_some h
    refine r_put1_5 hc hw ho e10 q1_129 dX1_enter_52 (fun H locs hw => ?_)
    refine lv_aload_n hx hb dX1_enter_55 rfl (lv_at hl 1 rfl) ?_
    refine r_get2 hc hw k157 1 (by decide) (v := .int (gI S9 157 1)) rfl q1_178 dX1_enter_56 ?_
    refine lv_if_eq (tgt := 82) hx hb dX1_enter_59 (by decide) (fun c11 => ?_) (fun c11 => ?_)
    · have h := ifT c11 h
      obtain ⟨rfl, rfl⟩ := sm_inj h
      exact r_vret hc hr hw dX1_enter_82
    · have h := ifF c11 h
      refine lv_aload_n hx hb dX1_enter_62 rfl (lv_at hl 0 rfl) ?_
      refine lv_dup hx hb dX1_enter_63 rfl ?_
      refine r_get1 hc hw ho 6 (by decide) (v := .int (gI S9 o 6)) rfl q1_131 dX1_enter_64 ?_
      refine lv_iconst (v := 1) hx hb dX1_enter_67 (by decide) ?_
      refine lv_iadd hx hb dX1_enter_68 ?_
      obtain ⟨S12, e13, h⟩ := nm_some h
      refine r_put1_6 hc hw ho e13 q1_131 dX1_enter_69 (fun H locs hw => ?_)
      refine lv_aload_n hx hb dX1_enter_72 rfl (lv_at hl 0 rfl) ?_
      refine lv_dup hx hb dX1_enter_73 rfl ?_
      refine r_get1 hc hw ho 7 (by decide) (v := .int (gI S12 o 7)) rfl q1_133 dX1_enter_74 ?_
      refine lv_iload_n hx hb dX1_enter_77 rfl (lv_at hl 2 rfl) ?_
      refine lv_iadd hx hb dX1_enter_78 ?_
      obtain ⟨S14, e15, h⟩ := nm_some h
      refine r_put1_7 hc hw ho e15 q1_133 dX1_enter_79 (fun H locs hw => ?_)
      obtain ⟨rfl, rfl⟩ := sm_inj h
      exact r_vret hc hr hw dX1_enter_82
  · have h := ifT c8 h
    refine lv_aload_n hx hb dX1_enter_31 rfl (lv_at hl 0 rfl) ?_
    refine r_get1 hc hw ho 2 (by decide) (v := .ref (X.1 + (o + 3))) rfl q1_122 dX1_enter_32 ?_
    refine lv_aload_n hx hb dX1_enter_35 rfl (lv_at hl 1 rfl) ?_
    refine r_get2 hc hw k157 2 (by decide) (v := .int (gI S6 157 2)) rfl q1_180 dX1_enter_36 ?_
    refine lv_dup2_11 hx hb dX1_enter_39 rfl rfl ?_
    obtain ⟨b16, h⟩ := bnd_some h
    refine r_iald hc hw (kf_1_thrown ho) (inL b16 (lf_1_thrown ho)) dX1_enter_40 ?_
    refine lv_iconst (v := 1) hx hb dX1_enter_41 (by decide) ?_
    refine lv_iadd hx hb dX1_enter_42 ?_
    obtain ⟨b17, h⟩ := bnd_some h
    obtain ⟨S18, e19, h⟩ := nm_some h
    refine r_iast hc hw (kf_1_thrown ho) (inL b17 (lf_1_thrown ho)) e19 dX1_enter_43 (fun H locs hw => ?_)
    obtain ⟨rfl, rfl⟩ := sm_inj h
    exact r_vret hc hr hw dX1_enter_44
abbrev rm_X1_open : Room := { frames := 0, cells := 0, slots := 0, locals := 0 }
theorem ms_X1_open : MsV yX1_open cX1_open 3 none 1 := ⟨⟨q2_89, q1_5, by decide, by decide, by decide⟩, q2_87, q2_88⟩
set_option maxRecDepth 20000 in
theorem w_X1_open_2 {p : Program} {l : Launch} {e : Env} {s : State} {m : MethodId} {args : Array Value} {below : List Frame} {meth : Method} {c : Code} {X : Wx} {r : Unit} {S' : Mm} (hc : Cx p s m args meth c X cX1_open 3 RX1) (hr : meth.sig.returnType = none) {o : Nat} (ho : KK o = 1) {a1 : Nat} (ha1 : KK a1 = 4)  : ∀ (n : Nat), ∀ (x2 : Int32) (S : Mm) (H : Heap) (locs : List Loc) (ls : Array Slot), Wd X s.heap S H locs → lv_has ls 3 [(0, .ref (X.1 + o)), (1, .ref (X.1 + a1)), (2, .int x2)] → f_X1_open_2 o a1 n x2 S = some (r, S') → W p l e rm_X1_open s m args below meth c H locs 0 0 (MQ below (Qq X none S') args s 0 0 (AA X.1)) (F0 m 2 ls []) := by
  have hx := hc.1
  have hb := hc.2.1
  intro n
  induction n with
  | zero => intro x2 S H locs ls hw hl h; cases h
  | succ n ih =>
    intro x2 S H locs ls hw hl h
    rw [f_X1_open_2] at h
    refine lv_iload_n hx hb dX1_open_2 rfl (lv_at hl 2 rfl) ?_
    refine lv_iconst (v := 5) hx hb dX1_open_3 (by decide) ?_
    refine lv_icmp_ge (tgt := 39) hx hb dX1_open_4 (by decide) (fun c1 => ?_) (fun c1 => ?_)
    · have h := ifT c1 h
      refine lv_aload_n hx hb dX1_open_39 rfl (lv_at hl 0 rfl) ?_
      refine lv_iconst (v := 0) hx hb dX1_open_40 (by decide) ?_
      obtain ⟨S2, e3, h⟩ := nm_some h
      refine r_put1_3 hc hw ho e3 q1_124 dX1_open_41 (fun H locs hw => ?_)
      refine lv_aload_n hx hb dX1_open_44 rfl (lv_at hl 0 rfl) ?_
      refine lv_iconst (v := 0) hx hb dX1_open_45 (by decide) ?_
      obtain ⟨S4, e5, h⟩ := nm_some h
      refine r_put1_4 hc hw ho e5 q1_127 dX1_open_46 (fun H locs hw => ?_)
      refine lv_aload_n hx hb dX1_open_49 rfl (lv_at hl 0 rfl) ?_
      refine lv_iconst (v := 0) hx hb dX1_open_50 (by decide) ?_
      obtain ⟨S6, e7, h⟩ := nm_some h
      refine r_put1_5 hc hw ho e7 q1_129 dX1_open_51 (fun H locs hw => ?_)
      refine lv_aload_n hx hb dX1_open_54 rfl (lv_at hl 0 rfl) ?_
      refine lv_iconst (v := 0) hx hb dX1_open_55 (by decide) ?_
      obtain ⟨S8, e9, h⟩ := nm_some h
      refine r_put1_6 hc hw ho e9 q1_131 dX1_open_56 (fun H locs hw => ?_)
      refine lv_aload_n hx hb dX1_open_59 rfl (lv_at hl 0 rfl) ?_
      refine lv_iconst (v := 0) hx hb dX1_open_60 (by decide) ?_
      obtain ⟨S10, e11, h⟩ := nm_some h
      refine r_put1_7 hc hw ho e11 q1_133 dX1_open_61 (fun H locs hw => ?_)
      obtain ⟨rfl, rfl⟩ := sm_inj h
      exact r_vret hc hr hw dX1_open_64
    · have h := ifF c1 h
      refine lv_aload_n hx hb dX1_open_7 rfl (lv_at hl 0 rfl) ?_
      refine r_get1 hc hw ho 0 (by decide) (v := .ref (X.1 + (o + 1))) rfl q1_114 dX1_open_8 ?_
      refine lv_iload_n hx hb dX1_open_11 rfl (lv_at hl 2 rfl) ?_
      refine lv_iload_n hx hb dX1_open_12 rfl (lv_at hl 2 rfl) ?_
      obtain ⟨b12, h⟩ := bnd_some h
      obtain ⟨S13, e14, h⟩ := nm_some h
      refine r_iast hc hw (kf_1_line ho) (inL b12 (lf_1_line ho)) e14 dX1_open_13 (fun H locs hw => ?_)
      refine lv_aload_n hx hb dX1_open_14 rfl (lv_at hl 0 rfl) ?_
      refine r_get1 hc hw ho 1 (by decide) (v := .ref (X.1 + (o + 2))) rfl q1_118 dX1_open_15 ?_
      refine lv_iload_n hx hb dX1_open_18 rfl (lv_at hl 2 rfl) ?_
      refine lv_aload_n hx hb dX1_open_19 rfl (lv_at hl 1 rfl) ?_
      refine r_get4 hc hw ha1 3 (by decide) (v := .ref (X.1 + (a1 + 2))) rfl q1_72 dX1_open_20 ?_
      refine lv_iload_n hx hb dX1_open_23 rfl (lv_at hl 2 rfl) ?_
      obtain ⟨b15, h⟩ := bnd_some h
      refine r_iald hc hw (kf_4_fault ha1) (inL b15 (lf_4_fault ha1)) dX1_open_24 ?_
      obtain ⟨b16, h⟩ := bnd_some h
      obtain ⟨S17, e18, h⟩ := nm_some h
      refine r_iast hc hw (kf_1_fault ho) (inL b16 (lf_1_fault ho)) e18 dX1_open_25 (fun H locs hw => ?_)
      refine lv_aload_n hx hb dX1_open_26 rfl (lv_at hl 0 rfl) ?_
      refine r_get1 hc hw ho 2 (by decide) (v := .ref (X.1 + (o + 3))) rfl q1_122 dX1_open_27 ?_
      refine lv_iload_n hx hb dX1_open_30 rfl (lv_at hl 2 rfl) ?_
      refine lv_iconst (v := 0) hx hb dX1_open_31 (by decide) ?_
      obtain ⟨b19, h⟩ := bnd_some h
      obtain ⟨S20, e21, h⟩ := nm_some h
      refine r_iast hc hw (kf_1_thrown ho) (inL b19 (lf_1_thrown ho)) e21 dX1_open_32 (fun H locs hw => ?_)
      obtain ⟨v22, e23, h⟩ := nm_some h
      refine lv_iinc (v := v22) (lv' := [(2, .int v22), (0, .ref (X.1 + o)), (1, .ref (X.1 + a1))]) hx hb dX1_open_33 hl (k := 2) rfl (by rw [e23]; rfl) (by decide) rfl (fun ls hl => ?_)
      refine lv_goto (tgt := 2) hx hb dX1_open_36 (by decide) ?_
      exact ih v22 S20 _ _ _ hw (lv_sub hl [1, 2, 0] rfl) h
set_option maxRecDepth 20000 in
theorem c_X1_open (l : Launch) (X : Wx) {S S' : Mm} {r : Unit} {o : Nat} {a1 : Nat} (ho : KK o = 1) (ha1 : KK a1 = 4) (h : f_X1_open S o a1 = some (r, S')) : Ct l X yX1_open cX1_open 3 none rm_X1_open [.ref (X.1 + o), .ref (X.1 + a1)] S none S' := by
  refine r_entry (by decide) (Nat.le_of_ble_eq_true rfl) ?_
  intro p e s m args below meth c ls hc hr hw hl
  have hc : Cx p s m args meth c X cX1_open 3 RX1 := hc
  have hl : lv_has ls 3 [(0, .ref (X.1 + o)), (1, .ref (X.1 + a1))] := hl
  have hx := hc.1
  have hb := hc.2.1
  unfold f_X1_open at h
  refine lv_iconst (v := 0) hx hb dX1_open_0 (by decide) ?_
  refine lv_istore_n (lv' := [(2, .int 0), (0, .ref (X.1 + o)), (1, .ref (X.1 + a1))]) hx hb dX1_open_1 rfl hl (by decide) rfl (fun ls hl => ?_)
  exact w_X1_open_2 hc hr ho ha1 400 0 S _ _ _ hw (lv_sub hl [1, 2, 0] rfl) h
abbrev rm_X1_placeOf : Room := { frames := 0, cells := 0, slots := 0, locals := 0 }
theorem ms_X1_placeOf : MsV yX1_placeOf cX1_placeOf 4 (some .int) 2 := ⟨⟨q2_101, q1_5, by decide, by decide, by decide⟩, q2_99, q2_100⟩
set_option maxRecDepth 20000 in
theorem w_X1_placeOf_2 {p : Program} {l : Launch} {e : Env} {s : State} {m : MethodId} {args : Array Value} {below : List Frame} {meth : Method} {c : Code} {X : Wx} {r : Int32} {S' : Mm} (hc : Cx p s m args meth c X cX1_placeOf 4 RX1) (hr : meth.sig.returnType = (some .int)) {o : Nat} (ho : KK o = 1)  : ∀ (n : Nat), ∀ (x1 : Int32) (x2 : Int32) (x3 : Int32) (S : Mm) (H : Heap) (locs : List Loc) (ls : Array Slot), Wd X s.heap S H locs → lv_has ls 4 [(0, .ref (X.1 + o)), (1, .int x1), (2, .int x2), (3, .int x3)] → f_X1_placeOf_2 o n x1 x2 x3 S = some (r, S') → W p l e rm_X1_placeOf s m args below meth c H locs 0 0 (MQ below (Qq X (some (.int r)) S') args s 0 0 (AA X.1)) (F0 m 2 ls []) := by
  have hx := hc.1
  have hb := hc.2.1
  intro n
  induction n with
  | zero => intro x1 x2 x3 S H locs ls hw hl h; cases h
  | succ n ih =>
    intro x1 x2 x3 S H locs ls hw hl h
    rw [f_X1_placeOf_2] at h
    refine lv_iload_n hx hb dX1_placeOf_2 rfl (lv_at hl 3 rfl) ?_
    refine lv_iload_n hx hb dX1_placeOf_3 rfl (lv_at hl 2 rfl) ?_
    refine lv_icmp_ge (tgt := 25) hx hb dX1_placeOf_4 (by decide) (fun c1 => ?_) (fun c1 => ?_)
    · have h := ifT c1 h
      refine lv_iconst (v := (-1)) hx hb dX1_placeOf_25 (by decide) ?_
      obtain ⟨rfl, rfl⟩ := sm_inj h
      exact r_iret hc hr hw dX1_placeOf_26
    · have h := ifF c1 h
      refine lv_aload_n hx hb dX1_placeOf_7 rfl (lv_at hl 0 rfl) ?_
      refine r_get1 hc hw ho 0 (by decide) (v := .ref (X.1 + (o + 1))) rfl q1_114 dX1_placeOf_8 ?_
      refine lv_iload_n hx hb dX1_placeOf_11 rfl (lv_at hl 3 rfl) ?_
      obtain ⟨b2, h⟩ := bnd_some h
      refine r_iald hc hw (kf_1_line ho) (inL b2 (lf_1_line ho)) dX1_placeOf_12 ?_
      refine lv_iload_n hx hb dX1_placeOf_13 rfl (lv_at hl 1 rfl) ?_
      refine lv_icmp_ne (tgt := 19) hx hb dX1_placeOf_14 (by decide) (fun c3 => ?_) (fun c3 => ?_)
      · have h := ifF c3 h
        obtain ⟨v4, e5, h⟩ := nm_some h
        refine lv_iinc (v := v4) (lv' := [(3, .int v4), (0, .ref (X.1 + o)), (1, .int x1), (2, .int x2)]) hx hb dX1_placeOf_19 hl (k := 3) rfl (by rw [e5]; rfl) (by decide) rfl (fun ls hl => ?_)
        refine lv_goto (tgt := 2) hx hb dX1_placeOf_22 (by decide) ?_
        exact ih x1 x2 v4 S _ _ _ hw (lv_sub hl [1, 2, 3, 0] rfl) h
      · have h := ifT c3 h
        refine lv_iload_n hx hb dX1_placeOf_17 rfl (lv_at hl 3 rfl) ?_
        obtain ⟨rfl, rfl⟩ := sm_inj h
        exact r_iret hc hr hw dX1_placeOf_18
set_option maxRecDepth 20000 in
theorem c_X1_placeOf (l : Launch) (X : Wx) {S S' : Mm} {r : Int32} {o : Nat} {x1 : Int32} {x2 : Int32} (ho : KK o = 1) (h : f_X1_placeOf S o x1 x2 = some (r, S')) : Ct l X yX1_placeOf cX1_placeOf 4 (some .int) rm_X1_placeOf [.ref (X.1 + o), .int x1, .int x2] S (some (.int r)) S' := by
  refine r_entry (by decide) (Nat.le_of_ble_eq_true rfl) ?_
  intro p e s m args below meth c ls hc hr hw hl
  have hc : Cx p s m args meth c X cX1_placeOf 4 RX1 := hc
  have hl : lv_has ls 4 [(0, .ref (X.1 + o)), (1, .int x1), (2, .int x2)] := hl
  have hx := hc.1
  have hb := hc.2.1
  unfold f_X1_placeOf at h
  refine lv_iconst (v := 0) hx hb dX1_placeOf_0 (by decide) ?_
  refine lv_istore_n (lv' := [(3, .int 0), (0, .ref (X.1 + o)), (1, .int x1), (2, .int x2)]) hx hb dX1_placeOf_1 rfl hl (by decide) rfl (fun ls hl => ?_)
  exact w_X1_placeOf_2 hc hr ho 400 x1 x2 0 S _ _ _ hw (lv_sub hl [1, 2, 3, 0] rfl) h
abbrev rm_X2_draw : Room := { frames := 0, cells := 0, slots := 0, locals := 0 }
theorem ms_X2_draw : MsS yX2_draw cX2_draw 4 (some .int) 2 := ⟨⟨q2_133, q1_6, by decide, by decide, by decide⟩, q2_132⟩
set_option maxRecDepth 20000 in
theorem c_X2_draw (l : Launch) (X : Wx) {S S' : Mm} {r : Int32} {x0 : Int32} {x1 : Int32}  (h : f_X2_draw S x0 x1 = some (r, S')) : Ct l X yX2_draw cX2_draw 4 (some .int) rm_X2_draw [.int x0, .int x1] S (some (.int r)) S' := by
  refine r_entry (by decide) (Nat.le_of_ble_eq_true rfl) ?_
  intro p e s m args below meth c ls hc hr hw hl
  have hc : Cx p s m args meth c X cX2_draw 4 RX2 := hc
  have hl : lv_has ls 4 [(0, .int x0), (1, .int x1)] := hl
  have hx := hc.1
  have hb := hc.2.1
  unfold f_X2_draw at h
  refine lv_ldc2 hx hb hc.2.2.2.1 (hc.2.2.2.2.1 _ q2_134) dX2_draw_0 ?_
  refine lv_iload_n hx hb dX2_draw_3 rfl (lv_at hl 0 rfl) ?_
  refine lv_i2l hx hb dX2_draw_4 rfl ?_
  refine lv_lmul hx hb dX2_draw_5 ?_
  refine lv_ldc2 hx hb hc.2.2.2.1 (hc.2.2.2.2.1 _ q2_135) dX2_draw_6 ?_
  refine lv_iload_n hx hb dX2_draw_9 rfl (lv_at hl 1 rfl) ?_
  refine lv_i2l hx hb dX2_draw_10 rfl ?_
  refine lv_lmul hx hb dX2_draw_11 ?_
  refine lv_ladd hx hb dX2_draw_12 ?_
  refine lv_lconst (v := 1) hx hb dX2_draw_13 (by decide) ?_
  refine lv_ladd hx hb dX2_draw_14 ?_
  obtain ⟨v1, e2, h⟩ := nm_some h
  refine r_topl e2 ?_
  refine lv_lstore_n (lv' := [(2, .long v1), (0, .int x0), (1, .int x1)]) hx hb dX2_draw_15 rfl hl (by decide) rfl (fun ls hl => ?_)
  refine lv_lload_n hx hb dX2_draw_16 rfl (lv_at hl 0 rfl) ?_
  refine lv_lload_n hx hb dX2_draw_17 rfl (lv_at hl 0 rfl) ?_
  refine lv_lmul hx hb dX2_draw_18 ?_
  refine lv_ldc2 hx hb hc.2.2.2.1 (hc.2.2.2.2.1 _ q2_136) dX2_draw_19 ?_
  refine lv_lrem hx hb dX2_draw_22 (by decide) ?_
  refine lv_ldc2 hx hb hc.2.2.2.1 (hc.2.2.2.2.1 _ q2_137) dX2_draw_23 ?_
  refine lv_ldiv hx hb dX2_draw_26 (by decide) ?_
  refine lv_ldc2 hx hb hc.2.2.2.1 (hc.2.2.2.2.1 _ q2_138) dX2_draw_27 ?_
  refine lv_lrem hx hb dX2_draw_30 (by decide) ?_
  refine lv_l2i hx hb dX2_draw_31 rfl ?_
  obtain ⟨rfl, rfl⟩ := sm_inj h
  exact r_iret hc hr hw dX2_draw_32
abbrev rm_X2_go : Room := { frames := 1, cells := 0, slots := 0, locals := 23 }
theorem ms_X2_go : MsV yX2_go cX2_go 7 none 4 := ⟨⟨q2_130, q1_6, by decide, by decide, by decide⟩, q2_128, q2_129⟩
set_option maxRecDepth 20000 in
theorem w_X2_go_93 {p : Program} {l : Launch} {e : Env} {s : State} {m : MethodId} {args : Array Value} {below : List Frame} {meth : Method} {c : Code} {X : Wx} {r : Unit} {S' : Mm} (hc : Cx p s m args meth c X cX2_go 7 RX2) (hr : meth.sig.returnType = none) {a1 : Nat} (ha1 : KK a1 = 4) {a2 : Nat} (ha2 : KK a2 = 1) {kk18 : Int32 → Int32 → Int32 → Mm → Option (Unit × Mm)} (hk18 : ∀ (x3 : Int32) (x4 : Int32) (x5 : Int32) (S : Mm) (H : Heap) (locs : List Loc) (ls : Array Slot), Wd X s.heap S H locs → lv_has ls 7 [(0, .ref (X.1 + 157)), (1, .ref (X.1 + a1)), (2, .ref (X.1 + a2)), (3, .int x3), (4, .int x4), (5, .int x5)] → kk18 x3 x4 x5 S = some (r, S') → W p l e rm_X2_go s m args below meth c H locs 0 0 (MQ below (Qq X none S') args s 0 0 (AA X.1)) (F0 m 18 ls [])) : ∀ (x3 : Int32) (x4 : Int32) (x5 : Int32) (x6 : Int32) (S : Mm) (H : Heap) (locs : List Loc) (ls : Array Slot), Wd X s.heap S H locs → lv_has ls 7 [(0, .ref (X.1 + 157)), (1, .ref (X.1 + a1)), (2, .ref (X.1 + a2)), (3, .int x3), (4, .int x4), (5, .int x5), (6, .int x6)] → f_X2_go_93 kk18 a1 a2 x3 x4 x5 x6 S = some (r, S') → W p l e rm_X2_go s m args below meth c H locs 0 0 (MQ below (Qq X none S') args s 0 0 (AA X.1)) (F0 m 93 ls []) := by
  have hx := hc.1
  have hb := hc.2.1
  intro x3 x4 x5 x6 S H locs ls hw hl h
  unfold f_X2_go_93 at h
  refine lv_iload_n hx hb dX2_go_93 rfl (lv_at hl 3 rfl) ?_
  refine lv_iload hx hb dX2_go_94 (lv_at hl 6 rfl) ?_
  refine lv_ishr hx hb dX2_go_96 ?_
  refine lv_iconst (v := 1) hx hb dX2_go_97 (by decide) ?_
  refine lv_iand hx hb dX2_go_98 ?_
  refine lv_iconst (v := 1) hx hb dX2_go_99 (by decide) ?_
  refine lv_icmp_ne (tgt := 151) hx hb dX2_go_100 (by decide) (fun c1 => ?_) (fun c1 => ?_)
  · have h := ifF c1 h
    obtain ⟨v2, e3, h⟩ := nm_some h
    refine lv_iinc (v := v2) (lv' := [(5, .int v2), (0, .ref (X.1 + 157)), (1, .ref (X.1 + a1)), (2, .ref (X.1 + a2)), (3, .int x3), (4, .int x4), (6, .int x6)]) hx hb dX2_go_151 hl (k := 5) rfl (by rw [e3]; rfl) (by decide) rfl (fun ls hl => ?_)
    refine lv_goto (tgt := 18) hx hb dX2_go_154 (by decide) ?_
    exact hk18 x3 x4 v2 S _ _ _ hw (lv_sub hl [1, 2, 3, 4, 5, 0] rfl) h
  · have h := ifT c1 h
    refine lv_aload_n hx hb dX2_go_103 rfl (lv_at hl 0 rfl) ?_
    refine lv_dup hx hb dX2_go_104 rfl ?_
    refine r_get2 hc hw k157 0 (by decide) (v := .int (gI S 157 0)) rfl q1_175 dX2_go_105 ?_
    refine lv_aload_n hx hb dX2_go_108 rfl (lv_at hl 1 rfl) ?_
    refine r_get4 hc hw ha1 4 (by decide) (v := .ref (X.1 + (a1 + 3))) rfl q1_76 dX2_go_109 ?_
    refine lv_iload hx hb dX2_go_112 (lv_at hl 6 rfl) ?_
    obtain ⟨b4, h⟩ := bnd_some h
    refine r_iald hc hw (kf_4_look ha1) (inL b4 (lf_4_look ha1)) dX2_go_114 ?_
    refine lv_iadd hx hb dX2_go_115 ?_
    obtain ⟨S5, e6, h⟩ := nm_some h
    refine r_put2_0 hc hw k157 e6 q1_175 dX2_go_116 (fun H locs hw => ?_)
    refine lv_aload_n hx hb dX2_go_119 rfl (lv_at hl 0 rfl) ?_
    refine r_get2 hc hw k157 1 (by decide) (v := .int (gI S5 157 1)) rfl q1_177 dX2_go_120 ?_
    refine lv_if_eq (tgt := 151) hx hb dX2_go_123 (by decide) (fun c7 => ?_) (fun c7 => ?_)
    · have h := ifT c7 h
      obtain ⟨v8, e9, h⟩ := nm_some h
      refine lv_iinc (v := v8) (lv' := [(5, .int v8), (0, .ref (X.1 + 157)), (1, .ref (X.1 + a1)), (2, .ref (X.1 + a2)), (3, .int x3), (4, .int x4), (6, .int x6)]) hx hb dX2_go_151 hl (k := 5) rfl (by rw [e9]; rfl) (by decide) rfl (fun ls hl => ?_)
      refine lv_goto (tgt := 18) hx hb dX2_go_154 (by decide) ?_
      exact hk18 x3 x4 v8 S5 _ _ _ hw (lv_sub hl [1, 2, 3, 4, 5, 0] rfl) h
    · have h := ifF c7 h
      refine lv_iload hx hb dX2_go_126 (lv_at hl 4 rfl) ?_
      refine lv_iload hx hb dX2_go_128 (lv_at hl 6 rfl) ?_
      refine lv_iconst (v := 5) hx hb dX2_go_130 (by decide) ?_
      refine lv_iadd hx hb dX2_go_131 ?_
      obtain ⟨r10, S11, h12, h⟩ := bd_some h
      refine r_callSi hc hw hl.1 (As := [.int x4, .int (x6 + 5)]) (rest := []) (c_X2_draw l X  h12) ms_X2_draw q2_131 rfl rfl ⟨rfl, rfl, Nat.le_of_ble_eq_true rfl, Nat.le_of_ble_eq_true rfl⟩ (Nat.le_of_ble_eq_true rfl) ⟨Nat.zero_le _, Nat.zero_le _⟩ dX2_go_132 (fun H locs hw => ?_)
      refine lv_aload_n hx hb dX2_go_135 rfl (lv_at hl 1 rfl) ?_
      refine r_get4 hc hw ha1 5 (by decide) (v := .ref (X.1 + (a1 + 4))) rfl q1_81 dX2_go_136 ?_
      refine lv_iload hx hb dX2_go_139 (lv_at hl 6 rfl) ?_
      obtain ⟨b13, h⟩ := bnd_some h
      refine r_iald hc hw (kf_4_miss ha1) (inL b13 (lf_4_miss ha1)) dX2_go_141 ?_
      refine lv_icmp_lt (tgt := 151) hx hb dX2_go_142 (by decide) (fun c14 => ?_) (fun c14 => ?_)
      · have h := ifT c14 h
        obtain ⟨v15, e16, h⟩ := nm_some h
        refine lv_iinc (v := v15) (lv' := [(5, .int v15), (0, .ref (X.1 + 157)), (1, .ref (X.1 + a1)), (2, .ref (X.1 + a2)), (3, .int x3), (4, .int x4), (6, .int x6)]) hx hb dX2_go_151 hl (k := 5) rfl (by rw [e16]; rfl) (by decide) rfl (fun ls hl => ?_)
        refine lv_goto (tgt := 18) hx hb dX2_go_154 (by decide) ?_
        exact hk18 x3 x4 v15 S11 _ _ _ hw (lv_sub hl [1, 2, 3, 4, 5, 0] rfl) h
      · have h := ifF c14 h
        refine lv_aload_n hx hb dX2_go_145 rfl (lv_at hl 0 rfl) ?_
        refine lv_iload hx hb dX2_go_146 (lv_at hl 6 rfl) ?_
        obtain ⟨S17, e18, h⟩ := nm_some h
        refine r_put2_2 hc hw k157 e18 q1_179 dX2_go_148 (fun H locs hw => ?_)
        obtain ⟨v19, e20, h⟩ := nm_some h
        refine lv_iinc (v := v19) (lv' := [(5, .int v19), (0, .ref (X.1 + 157)), (1, .ref (X.1 + a1)), (2, .ref (X.1 + a2)), (3, .int x3), (4, .int x4), (6, .int x6)]) hx hb dX2_go_151 hl (k := 5) rfl (by rw [e20]; rfl) (by decide) rfl (fun ls hl => ?_)
        refine lv_goto (tgt := 18) hx hb dX2_go_154 (by decide) ?_
        exact hk18 x3 x4 v19 S17 _ _ _ hw (lv_sub hl [1, 2, 3, 4, 5, 0] rfl) h
set_option maxRecDepth 20000 in
theorem w_X2_go_18 {p : Program} {l : Launch} {e : Env} {s : State} {m : MethodId} {args : Array Value} {below : List Frame} {meth : Method} {c : Code} {X : Wx} {r : Unit} {S' : Mm} (hc : Cx p s m args meth c X cX2_go 7 RX2) (hr : meth.sig.returnType = none) {a1 : Nat} (ha1 : KK a1 = 4) {a2 : Nat} (ha2 : KK a2 = 1)  : ∀ (n : Nat), ∀ (x3 : Int32) (x4 : Int32) (x5 : Int32) (S : Mm) (H : Heap) (locs : List Loc) (ls : Array Slot), Wd X s.heap S H locs → lv_has ls 7 [(0, .ref (X.1 + 157)), (1, .ref (X.1 + a1)), (2, .ref (X.1 + a2)), (3, .int x3), (4, .int x4), (5, .int x5)] → f_X2_go_18 a1 a2 n x3 x4 x5 S = some (r, S') → W p l e rm_X2_go s m args below meth c H locs 0 0 (MQ below (Qq X none S') args s 0 0 (AA X.1)) (F0 m 18 ls []) := by
  have hx := hc.1
  have hb := hc.2.1
  intro n
  induction n with
  | zero => intro x3 x4 x5 S H locs ls hw hl h; cases h
  | succ n ih =>
    intro x3 x4 x5 S H locs ls hw hl h
    rw [f_X2_go_18] at h
    refine lv_iload hx hb dX2_go_18 (lv_at hl 5 rfl) ?_
    refine lv_aload_n hx hb dX2_go_20 rfl (lv_at hl 1 rfl) ?_
    refine r_get4 hc hw ha1 0 (by decide) (v := .int (gI S a1 0)) rfl q1_59 dX2_go_21 ?_
    refine lv_icmp_ge (tgt := 157) hx hb dX2_go_24 (by decide) (fun c1 => ?_) (fun c1 => ?_)
    · have h := ifT c1 h
      obtain ⟨rfl, rfl⟩ := sm_inj h
      exact r_vret hc hr hw dX2_go_157
    · have h := ifF c1 h
      refine lv_aload_n hx hb dX2_go_27 rfl (lv_at hl 0 rfl) ?_
      refine r_get2 hc hw k157 2 (by decide) (v := .int (gI S 157 2)) rfl q1_179 dX2_go_28 ?_
      refine lv_iconst (v := (-1)) hx hb dX2_go_31 (by decide) ?_
      refine lv_icmp_ne (tgt := 157) hx hb dX2_go_32 (by decide) (fun c2 => ?_) (fun c2 => ?_)
      · have h := ifF c2 h
        obtain ⟨rfl, rfl⟩ := sm_inj h
        exact r_vret hc hr hw dX2_go_157
      · have h := ifT c2 h
        refine lv_aload_n hx hb dX2_go_35 rfl (lv_at hl 2 rfl) ?_
        refine r_get1 hc hw ha2 0 (by decide) (v := .ref (X.1 + (a2 + 1))) rfl q1_115 dX2_go_36 ?_
        refine lv_iload hx hb dX2_go_39 (lv_at hl 5 rfl) ?_
        obtain ⟨b3, h⟩ := bnd_some h
        refine r_iald hc hw (kf_1_line ha2) (inL b3 (lf_1_line ha2)) dX2_go_41 ?_
        obtain ⟨v4, e5, h⟩ := nm_some h
        refine r_top e5 ?_
        refine lv_istore (lv' := [(6, .int v4), (0, .ref (X.1 + 157)), (1, .ref (X.1 + a1)), (2, .ref (X.1 + a2)), (3, .int x3), (4, .int x4), (5, .int x5)]) hx hb dX2_go_42 hl (by decide) rfl (fun ls hl => ?_)
        refine lv_aload_n hx hb dX2_go_44 rfl (lv_at hl 1 rfl) ?_
        refine lv_dup hx hb dX2_go_45 rfl ?_
        refine r_get2 hc hw k157 0 (by decide) (v := .int (gI S 157 0)) rfl q1_175 dX2_go_46 ?_
        refine lv_aload_n hx hb dX2_go_49 rfl (lv_at hl 2 rfl) ?_
        refine r_get4 hc hw ha1 2 (by decide) (v := .ref (X.1 + (a1 + 1))) rfl q1_68 dX2_go_50 ?_
        refine lv_iload hx hb dX2_go_53 (lv_at hl 0 rfl) ?_
        obtain ⟨b6, h⟩ := bnd_some h
        refine r_iald hc hw (kf_4_seconds ha1) (inL b6 (lf_4_seconds ha1)) dX2_go_55 ?_
        refine lv_iadd hx hb dX2_go_56 ?_
        obtain ⟨S7, e8, h⟩ := nm_some h
        refine r_put2_0 hc hw k157 e8 q1_175 dX2_go_57 (fun H locs hw => ?_)
        refine lv_aload_n hx hb dX2_go_60 rfl (lv_at hl 1 rfl) ?_
        refine lv_aload_n hx hb dX2_go_61 rfl (lv_at hl 1 rfl) ?_
        refine r_get2 hc hw k157 1 (by decide) (v := .int (gI S7 157 1)) rfl q1_177 dX2_go_62 ?_
        refine lv_if_ne (tgt := 85) hx hb dX2_go_65 (by decide) (fun c9 => ?_) (fun c9 => ?_)
        · have h := ifF c9 h
          refine lv_iconst (v := 1) hx hb dX2_go_85 (by decide) ?_
          refine lv_goto (tgt := 90) hx hb dX2_go_86 (by decide) ?_
          obtain ⟨S10, e11, h⟩ := nm_some h
          refine r_put2_1 hc hw k157 e11 (Or.inr rfl) q1_177 dX2_go_90 (fun H locs hw => ?_)
          exact w_X2_go_93 hc hr ha1 ha2 ih x3 x4 x5 v4 S10 _ _ _ hw (lv_sub hl [1, 2, 3, 4, 5, 6, 0] rfl) h
        · have h := ifT c9 h
          refine lv_iload hx hb dX2_go_68 (lv_at hl 5 rfl) ?_
          refine lv_iload hx hb dX2_go_70 (lv_at hl 0 rfl) ?_
          obtain ⟨r12, S13, h14, h⟩ := bd_some h
          refine r_callSi hc hw hl.1 (As := [.int x4, .int v4]) (rest := [.ref (X.1 + 157)]) (c_X2_draw l X  h14) ms_X2_draw q2_131 rfl rfl ⟨rfl, rfl, Nat.le_of_ble_eq_true rfl, Nat.le_of_ble_eq_true rfl⟩ (Nat.le_of_ble_eq_true rfl) ⟨Nat.zero_le _, Nat.zero_le _⟩ dX2_go_72 (fun H locs hw => ?_)
          refine lv_aload_n hx hb dX2_go_75 rfl (lv_at hl 3 rfl) ?_
          refine r_get1 hc hw ha2 1 (by decide) (v := .ref (X.1 + (a2 + 2))) rfl q1_120 dX2_go_76 ?_
          refine lv_iload hx hb dX2_go_79 (lv_at hl 0 rfl) ?_
          obtain ⟨b15, h⟩ := bnd_some h
          refine r_iald hc hw (kf_1_fault ha2) (inL b15 (lf_1_fault ha2)) dX2_go_81 ?_
          refine lv_icmp_ge (tgt := 89) hx hb dX2_go_82 (by decide) (fun c16 => ?_) (fun c16 => ?_)
          · have h := ifT c16 h
            refine lv_iconst (v := 0) hx hb dX2_go_89 (by decide) ?_
            obtain ⟨S17, e18, h⟩ := nm_some h
            refine r_put2_1 hc hw k157 e18 (Or.inl rfl) q1_177 dX2_go_90 (fun H locs hw => ?_)
            exact w_X2_go_93 hc hr ha1 ha2 ih x3 x4 x5 v4 S17 _ _ _ hw (lv_sub hl [1, 2, 3, 4, 5, 6, 0] rfl) h
          · have h := ifF c16 h
            refine lv_iconst (v := 1) hx hb dX2_go_85 (by decide) ?_
            refine lv_goto (tgt := 90) hx hb dX2_go_86 (by decide) ?_
            obtain ⟨S19, e20, h⟩ := nm_some h
            refine r_put2_1 hc hw k157 e20 (Or.inr rfl) q1_177 dX2_go_90 (fun H locs hw => ?_)
            exact w_X2_go_93 hc hr ha1 ha2 ih x3 x4 x5 v4 S19 _ _ _ hw (lv_sub hl [1, 2, 3, 4, 5, 6, 0] rfl) h
set_option maxRecDepth 20000 in
theorem c_X2_go (l : Launch) (X : Wx) {S S' : Mm} {r : Unit} {a1 : Nat} {a2 : Nat} {x3 : Int32} {x4 : Int32} (ha1 : KK a1 = 4) (ha2 : KK a2 = 1) (h : f_X2_go S a1 a2 x3 x4 = some (r, S')) : Ct l X yX2_go cX2_go 7 none rm_X2_go [.ref (X.1 + 157), .ref (X.1 + a1), .ref (X.1 + a2), .int x3, .int x4] S none S' := by
  refine r_entry (by decide) (Nat.le_of_ble_eq_true rfl) ?_
  intro p e s m args below meth c ls hc hr hw hl
  have hc : Cx p s m args meth c X cX2_go 7 RX2 := hc
  have hl : lv_has ls 7 [(0, .ref (X.1 + 157)), (1, .ref (X.1 + a1)), (2, .ref (X.1 + a2)), (3, .int x3), (4, .int x4)] := hl
  have hx := hc.1
  have hb := hc.2.1
  unfold f_X2_go at h
  refine lv_aload_n hx hb dX2_go_0 rfl (lv_at hl 0 rfl) ?_
  refine lv_iconst (v := 0) hx hb dX2_go_1 (by decide) ?_
  obtain ⟨S1, e2, h⟩ := nm_some h
  refine r_put2_0 hc hw k157 e2 q1_175 dX2_go_2 (fun H locs hw => ?_)
  refine lv_aload_n hx hb dX2_go_5 rfl (lv_at hl 0 rfl) ?_
  refine lv_iconst (v := 0) hx hb dX2_go_6 (by decide) ?_
  obtain ⟨S3, e4, h⟩ := nm_some h
  refine r_put2_1 hc hw k157 e4 (Or.inl rfl) q1_177 dX2_go_7 (fun H locs hw => ?_)
  refine lv_aload_n hx hb dX2_go_10 rfl (lv_at hl 0 rfl) ?_
  refine lv_iconst (v := (-1)) hx hb dX2_go_11 (by decide) ?_
  obtain ⟨S5, e6, h⟩ := nm_some h
  refine r_put2_2 hc hw k157 e6 q1_179 dX2_go_12 (fun H locs hw => ?_)
  refine lv_iconst (v := 0) hx hb dX2_go_15 (by decide) ?_
  refine lv_istore (lv' := [(5, .int 0), (0, .ref (X.1 + 157)), (1, .ref (X.1 + a1)), (2, .ref (X.1 + a2)), (3, .int x3), (4, .int x4)]) hx hb dX2_go_16 hl (by decide) rfl (fun ls hl => ?_)
  exact w_X2_go_18 hc hr ha1 ha2 400 x3 x4 0 S5 _ _ _ hw (lv_sub hl [1, 2, 3, 4, 5, 0] rfl) h
abbrev rm_X3_become : Room := { frames := 2, cells := 0, slots := 0, locals := 61 }
theorem ms_X3_become : MsV yX3_become cX3_become 3 none 1 := ⟨⟨q3_101, q1_4, by decide, by decide, by decide⟩, q3_99, q3_100⟩
set_option maxRecDepth 20000 in
theorem w_X3_become_13 {p : Program} {l : Launch} {e : Env} {s : State} {m : MethodId} {args : Array Value} {below : List Frame} {meth : Method} {c : Code} {X : Wx} {r : Unit} {S' : Mm} (hc : Cx p s m args meth c X cX3_become 3 RX3) (hr : meth.sig.returnType = none) {o : Nat} (ho : KK o = 3) {a1 : Nat} (ha1 : KK a1 = 3)  : ∀ (n : Nat), ∀ (x2 : Int32) (S : Mm) (H : Heap) (locs : List Loc) (ls : Array Slot), Wd X s.heap S H locs → lv_has ls 3 [(0, .ref (X.1 + o)), (1, .ref (X.1 + a1)), (2, .int x2)] → f_X3_become_13 o a1 n x2 S = some (r, S') → W p l e rm_X3_become s m args below meth c H locs 0 0 (MQ below (Qq X none S') args s 0 0 (AA X.1)) (F0 m 13 ls []) := by
  have hx := hc.1
  have hb := hc.2.1
  intro n
  induction n with
  | zero => intro x2 S H locs ls hw hl h; cases h
  | succ n ih =>
    intro x2 S H locs ls hw hl h
    rw [f_X3_become_13] at h
    refine lv_iload_n hx hb dX3_become_13 rfl (lv_at hl 2 rfl) ?_
    refine lv_bipush (v := 10) hx hb dX3_become_14 (by decide) ?_
    refine lv_icmp_ge (tgt := 40) hx hb dX3_become_16 (by decide) (fun c1 => ?_) (fun c1 => ?_)
    · have h := ifT c1 h
      refine lv_aload_n hx hb dX3_become_40 rfl (lv_at hl 0 rfl) ?_
      refine lv_aload_n hx hb dX3_become_41 rfl (lv_at hl 1 rfl) ?_
      refine r_get3 hc hw ha1 2 (by decide) (v := .int (gI S a1 2)) rfl q1_156 dX3_become_42 ?_
      obtain ⟨S2, e3, h⟩ := nm_some h
      refine r_put3_2 hc hw ho e3 q1_156 dX3_become_45 (fun H locs hw => ?_)
      refine lv_aload_n hx hb dX3_become_48 rfl (lv_at hl 0 rfl) ?_
      refine lv_aload_n hx hb dX3_become_49 rfl (lv_at hl 1 rfl) ?_
      refine r_get3 hc hw ha1 3 (by decide) (v := .int (gI S2 a1 3)) rfl q1_157 dX3_become_50 ?_
      obtain ⟨S4, e5, h⟩ := nm_some h
      refine r_put3_3 hc hw ho e5 q1_157 dX3_become_53 (fun H locs hw => ?_)
      obtain ⟨rfl, rfl⟩ := sm_inj h
      exact r_vret hc hr hw dX3_become_56
    · have h := ifF c1 h
      refine lv_aload_n hx hb dX3_become_19 rfl (lv_at hl 0 rfl) ?_
      refine r_get3 hc hw ho 1 (by decide) (v := .ref (X.1 + (o + 5))) rfl q1_155 dX3_become_20 ?_
      refine lv_iload_n hx hb dX3_become_23 rfl (lv_at hl 2 rfl) ?_
      obtain ⟨b6, h⟩ := bnd_some h
      refine r_aaldM hc hw (kf_3_earlier ho) (inL b6 (lf_3_earlier ho)) dX3_become_24 ?_
      have kq7 := kel_M (kf_3_earlier ho) b6
      refine lv_aload_n hx hb dX3_become_25 rfl (lv_at hl 1 rfl) ?_
      refine r_get3 hc hw ha1 1 (by decide) (v := .ref (X.1 + (a1 + 5))) rfl q1_155 dX3_become_26 ?_
      refine lv_iload_n hx hb dX3_become_29 rfl (lv_at hl 2 rfl) ?_
      obtain ⟨b8, h⟩ := bnd_some h
      refine r_aaldM hc hw (kf_3_earlier ha1) (inL b8 (lf_3_earlier ha1)) dX3_become_30 ?_
      have kq9 := kel_M (kf_3_earlier ha1) b8
      obtain ⟨r10, S11, h12, h⟩ := bd_some h
      refine r_callV1v hc hw hl.1 (As := [.ref (X.1 + ((a1 + 5) + 1 + 4 * x2.toNatClampNeg))]) (rest := []) kq7 (c_X1_become l X kq7 kq9 h12) ms_X1_become rfl q2_117 rfl rfl ⟨rfl, rfl, Nat.le_of_ble_eq_true rfl, Nat.le_of_ble_eq_true rfl⟩ (Nat.le_of_ble_eq_true rfl) ⟨Nat.zero_le _, Nat.zero_le _⟩ dX3_become_31 (fun H locs hw => ?_)
      obtain ⟨v13, e14, h⟩ := nm_some h
      refine lv_iinc (v := v13) (lv' := [(2, .int v13), (0, .ref (X.1 + o)), (1, .ref (X.1 + a1))]) hx hb dX3_become_34 hl (k := 2) rfl (by rw [e14]; rfl) (by decide) rfl (fun ls hl => ?_)
      refine lv_goto (tgt := 13) hx hb dX3_become_37 (by decide) ?_
      exact ih v13 S11 _ _ _ hw (lv_sub hl [1, 2, 0] rfl) h
set_option maxRecDepth 20000 in
theorem c_X3_become (l : Launch) (X : Wx) {S S' : Mm} {r : Unit} {o : Nat} {a1 : Nat} (ho : KK o = 3) (ha1 : KK a1 = 3) (h : f_X3_become S o a1 = some (r, S')) : Ct l X yX3_become cX3_become 3 none rm_X3_become [.ref (X.1 + o), .ref (X.1 + a1)] S none S' := by
  refine r_entry (by decide) (Nat.le_of_ble_eq_true rfl) ?_
  intro p e s m args below meth c ls hc hr hw hl
  have hc : Cx p s m args meth c X cX3_become 3 RX3 := hc
  have hl : lv_has ls 3 [(0, .ref (X.1 + o)), (1, .ref (X.1 + a1))] := hl
  have hx := hc.1
  have hb := hc.2.1
  unfold f_X3_become at h
  refine lv_aload_n hx hb dX3_become_0 rfl (lv_at hl 0 rfl) ?_
  refine r_get3 hc hw ho 0 (by decide) (v := .ref (X.1 + (o + 1))) rfl q1_153 dX3_become_1 ?_
  refine lv_aload_n hx hb dX3_become_4 rfl (lv_at hl 1 rfl) ?_
  refine r_get3 hc hw ha1 0 (by decide) (v := .ref (X.1 + (a1 + 1))) rfl q1_153 dX3_become_5 ?_
  obtain ⟨r1, S2, h3, h⟩ := bd_some h
  refine r_callV1v hc hw hl.1 (As := [.ref (X.1 + (a1 + 1))]) (rest := []) (kf_3_present ho) (c_X1_become l X (kf_3_present ho) (kf_3_present ha1) h3) ms_X1_become rfl q2_117 rfl rfl ⟨rfl, rfl, Nat.le_of_ble_eq_true rfl, Nat.le_of_ble_eq_true rfl⟩ (Nat.le_of_ble_eq_true rfl) ⟨Nat.zero_le _, Nat.zero_le _⟩ dX3_become_8 (fun H locs hw => ?_)
  refine lv_iconst (v := 0) hx hb dX3_become_11 (by decide) ?_
  refine lv_istore_n (lv' := [(2, .int 0), (0, .ref (X.1 + o)), (1, .ref (X.1 + a1))]) hx hb dX3_become_12 rfl hl (by decide) rfl (fun ls hl => ?_)
  exact w_X3_become_13 hc hr ho ha1 400 0 S2 _ _ _ hw (lv_sub hl [1, 2, 0] rfl) h
abbrev rm_X3_open : Room := { frames := 1, cells := 0, slots := 0, locals := 22 }
theorem ms_X3_open : MsV yX3_open cX3_open 2 none 1 := ⟨⟨q2_85, q1_4, by decide, by decide, by decide⟩, q2_83, q2_84⟩
set_option maxRecDepth 20000 in
theorem c_X3_open (l : Launch) (X : Wx) {S S' : Mm} {r : Unit} {o : Nat} {a1 : Nat} (ho : KK o = 3) (ha1 : KK a1 = 4) (h : f_X3_open S o a1 = some (r, S')) : Ct l X yX3_open cX3_open 2 none rm_X3_open [.ref (X.1 + o), .ref (X.1 + a1)] S none S' := by
  refine r_entry (by decide) (Nat.le_of_ble_eq_true rfl) ?_
  intro p e s m args below meth c ls hc hr hw hl
  have hc : Cx p s m args meth c X cX3_open 2 RX3 := hc
  have hl : lv_has ls 2 [(0, .ref (X.1 + o)), (1, .ref (X.1 + a1))] := hl
  have hx := hc.1
  have hb := hc.2.1
  unfold f_X3_open at h
  refine lv_aload_n hx hb dX3_open_0 rfl (lv_at hl 0 rfl) ?_
  refine r_get3 hc hw ho 0 (by decide) (v := .ref (X.1 + (o + 1))) rfl q1_153 dX3_open_1 ?_
  refine lv_aload_n hx hb dX3_open_4 rfl (lv_at hl 1 rfl) ?_
  obtain ⟨r1, S2, h3, h⟩ := bd_some h
  refine r_callV1v hc hw hl.1 (As := [.ref (X.1 + a1)]) (rest := []) (kf_3_present ho) (c_X1_open l X (kf_3_present ho) ha1 h3) ms_X1_open rfl q2_86 rfl rfl ⟨rfl, rfl, Nat.le_of_ble_eq_true rfl, Nat.le_of_ble_eq_true rfl⟩ (Nat.le_of_ble_eq_true rfl) ⟨Nat.zero_le _, Nat.zero_le _⟩ dX3_open_5 (fun H locs hw => ?_)
  refine lv_aload_n hx hb dX3_open_8 rfl (lv_at hl 0 rfl) ?_
  refine lv_iconst (v := 0) hx hb dX3_open_9 (by decide) ?_
  obtain ⟨S4, e5, h⟩ := nm_some h
  refine r_put3_2 hc hw ho e5 q1_156 dX3_open_10 (fun H locs hw => ?_)
  refine lv_aload_n hx hb dX3_open_13 rfl (lv_at hl 0 rfl) ?_
  refine lv_iconst (v := 0) hx hb dX3_open_14 (by decide) ?_
  obtain ⟨S6, e7, h⟩ := nm_some h
  refine r_put3_3 hc hw ho e7 q1_157 dX3_open_15 (fun H locs hw => ?_)
  obtain ⟨rfl, rfl⟩ := sm_inj h
  exact r_vret hc hr hw dX3_open_18
abbrev rm_X3_remember : Room := { frames := 2, cells := 0, slots := 0, locals := 61 }
theorem ms_X3_remember : MsV yX3_remember cX3_remember 1 none 0 := ⟨⟨q2_116, q1_4, by decide, by decide, by decide⟩, q2_114, q2_115⟩
set_option maxRecDepth 20000 in
theorem c_X3_remember (l : Launch) (X : Wx) {S S' : Mm} {r : Unit} {o : Nat} (ho : KK o = 3) (h : f_X3_remember S o = some (r, S')) : Ct l X yX3_remember cX3_remember 1 none rm_X3_remember [.ref (X.1 + o)] S none S' := by
  refine r_entry (by decide) (Nat.le_of_ble_eq_true rfl) ?_
  intro p e s m args below meth c ls hc hr hw hl
  have hc : Cx p s m args meth c X cX3_remember 1 RX3 := hc
  have hl : lv_has ls 1 [(0, .ref (X.1 + o))] := hl
  have hx := hc.1
  have hb := hc.2.1
  unfold f_X3_remember at h
  refine lv_aload_n hx hb dX3_remember_0 rfl (lv_at hl 0 rfl) ?_
  refine r_get3 hc hw ho 1 (by decide) (v := .ref (X.1 + (o + 5))) rfl q1_155 dX3_remember_1 ?_
  refine lv_aload_n hx hb dX3_remember_4 rfl (lv_at hl 0 rfl) ?_
  refine r_get3 hc hw ho 2 (by decide) (v := .int (gI S o 2)) rfl q1_156 dX3_remember_5 ?_
  obtain ⟨b1, h⟩ := bnd_some h
  refine r_aaldM hc hw (kf_3_earlier ho) (inL b1 (lf_3_earlier ho)) dX3_remember_8 ?_
  have kq2 := kel_M (kf_3_earlier ho) b1
  refine lv_aload_n hx hb dX3_remember_9 rfl (lv_at hl 0 rfl) ?_
  refine r_get3 hc hw ho 0 (by decide) (v := .ref (X.1 + (o + 1))) rfl q1_153 dX3_remember_10 ?_
  obtain ⟨r3, S4, h5, h⟩ := bd_some h
  refine r_callV1v hc hw hl.1 (As := [.ref (X.1 + (o + 1))]) (rest := []) kq2 (c_X1_become l X kq2 (kf_3_present ho) h5) ms_X1_become rfl q2_117 rfl rfl ⟨rfl, rfl, Nat.le_of_ble_eq_true rfl, Nat.le_of_ble_eq_true rfl⟩ (Nat.le_of_ble_eq_true rfl) ⟨Nat.zero_le _, Nat.zero_le _⟩ dX3_remember_13 (fun H locs hw => ?_)
  refine lv_aload_n hx hb dX3_remember_16 rfl (lv_at hl 0 rfl) ?_
  refine lv_aload_n hx hb dX3_remember_17 rfl (lv_at hl 0 rfl) ?_
  refine r_get3 hc hw ho 2 (by decide) (v := .int (gI S4 o 2)) rfl q1_156 dX3_remember_18 ?_
  refine lv_iconst (v := 1) hx hb dX3_remember_21 (by decide) ?_
  refine lv_iadd hx hb dX3_remember_22 ?_
  refine lv_bipush (v := 10) hx hb dX3_remember_23 (by decide) ?_
  refine lv_irem hx hb dX3_remember_25 (by decide) ?_
  obtain ⟨S6, e7, h⟩ := nm_some h
  refine r_put3_2 hc hw ho e7 q1_156 dX3_remember_26 (fun H locs hw => ?_)
  refine lv_aload_n hx hb dX3_remember_29 rfl (lv_at hl 0 rfl) ?_
  refine lv_aload_n hx hb dX3_remember_30 rfl (lv_at hl 0 rfl) ?_
  refine r_get3 hc hw ho 3 (by decide) (v := .int (gI S6 o 3)) rfl q1_157 dX3_remember_31 ?_
  refine lv_iconst (v := 1) hx hb dX3_remember_34 (by decide) ?_
  refine lv_iadd hx hb dX3_remember_35 ?_
  refine lv_bipush (v := 10) hx hb dX3_remember_36 (by decide) ?_
  refine va_mmin hx hb (hc.2.2.1.trans hl.1.symm) hc.2.2.2.1 (hc.2.2.2.2.1 _ q2_124) (hc.2.2.2.2.1 _ q2_125) (hc.2.2.2.2.1 _ q1_10) (hc.2.2.2.2.1 _ q2_126) (Nat.le_of_ble_eq_true rfl) (Nat.le_of_ble_eq_true rfl) (Nat.zero_le _) (Nat.zero_le _) dX3_remember_38 ?_
  obtain ⟨S8, e9, h⟩ := nm_some h
  refine r_put3_3 hc hw ho e9 q1_157 dX3_remember_41 (fun H locs hw => ?_)
  obtain ⟨rfl, rfl⟩ := sm_inj h
  exact r_vret hc hr hw dX3_remember_44
