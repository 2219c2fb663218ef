abbrev rm_X6_first : Room := { frames := 3, cells := 0, slots := 0, locals := 70 }
theorem ms_X6_first : MsV yX6_first cX6_first 4 (some .int) 1 := ⟨⟨q3_40, q1_1, by decide, by decide, by decide⟩, q3_38, q3_39⟩
set_option maxRecDepth 20000 in
theorem w_X6_first_25 {p : Program} {l : Launch} {e : Env} {s : State} {m : MethodId} {args : Array Value} {below : List Frame} {meth : Method} {c : Code} {X : Wx} {r : Int32} {S' : Mm} (hc : Cx p s m args meth c X cX6_first 4 RX6) (hr : meth.sig.returnType = (some .int))   : ∀ (n : Nat), ∀ (x1 : Int32) (x2 : Int32) (x3 : Int32) (S : Mm) (H : Heap) (locs : List Loc) (ls : Array Slot), Wd X s.heap S H locs → lv_has ls 4 [(0, .ref (X.1 + 0)), (1, .int x1), (2, .int x2), (3, .int x3)] → f_X6_first_25 n x1 x2 x3 S = some (r, S') → W p l e rm_X6_first s m args below meth c H locs 0 0 (MQ below (Qq X (some (.int r)) S') args s 0 0 (AA X.1)) (F0 m 25 ls []) := by
  have hx := hc.1
  have hb := hc.2.1
  intro n
  induction n with
  | zero => intro x1 x2 x3 S H locs ls hw hl h; cases h
  | succ n ih =>
    intro x1 x2 x3 S H locs ls hw hl h
    rw [f_X6_first_25] at h
    refine lv_iload_n hx hb dX6_first_25 rfl (lv_at hl 3 rfl) ?_
    refine lv_iload_n hx hb dX6_first_26 rfl (lv_at hl 1 rfl) ?_
    refine lv_icmp_gt (tgt := 60) hx hb dX6_first_27 (by decide) (fun c1 => ?_) (fun c1 => ?_)
    · have h := ifT c1 h
      refine lv_iload_n hx hb dX6_first_60 rfl (lv_at hl 2 rfl) ?_
      obtain ⟨rfl, rfl⟩ := sm_inj h
      exact r_iret hc hr hw dX6_first_61
    · have h := ifF c1 h
      refine lv_aload_n hx hb dX6_first_30 rfl (lv_at hl 0 rfl) ?_
      refine r_get6 hc hw k0 10 (by decide) (v := .ref (X.1 + 158)) rfl q1_227 dX6_first_31 ?_
      refine r_get0 hc hw k158 4 (by decide) (v := .ref (X.1 + 160)) rfl q1_204 dX6_first_34 ?_
      refine lv_iload_n hx hb dX6_first_37 rfl (lv_at hl 3 rfl) ?_
      obtain ⟨b2, h⟩ := bnd_some h
      refine r_lald hc hw k160 (inL b2 l160) dX6_first_38 ?_
      refine lv_aload_n hx hb dX6_first_39 rfl (lv_at hl 0 rfl) ?_
      refine r_get6 hc hw k0 10 (by decide) (v := .ref (X.1 + 158)) rfl q1_227 dX6_first_40 ?_
      refine r_get0 hc hw k158 4 (by decide) (v := .ref (X.1 + 160)) rfl q1_204 dX6_first_43 ?_
      refine lv_iload_n hx hb dX6_first_46 rfl (lv_at hl 2 rfl) ?_
      obtain ⟨b3, h⟩ := bnd_some h
      refine r_lald hc hw k160 (inL b3 l160) dX6_first_47 ?_
      refine W.lcmp hx hb dX6_first_48 ?_
      refine lv_if_le (tgt := 54) hx hb dX6_first_49 (by decide) (fun c4 => ?_) (fun c4 => ?_)
      · have h := ifT c4 h
        obtain ⟨v5, e6, h⟩ := nm_some h
        refine lv_iinc (v := v5) (lv' := [(3, .int v5), (0, .ref (X.1 + 0)), (1, .int x1), (2, .int x2)]) hx hb dX6_first_54 hl (k := 3) rfl (by rw [e6]; rfl) (by decide) rfl (fun ls hl => ?_)
        refine lv_goto (tgt := 25) hx hb dX6_first_57 (by decide) ?_
        exact ih x1 x2 v5 S _ _ _ hw (lv_sub hl [1, 2, 3, 0] rfl) h
      · have h := ifF c4 h
        refine lv_iload_n hx hb dX6_first_52 rfl (lv_at hl 3 rfl) ?_
        refine lv_istore_n (lv' := [(2, .int x3), (0, .ref (X.1 + 0)), (1, .int x1), (3, .int x3)]) hx hb dX6_first_53 rfl hl (by decide) rfl (fun ls hl => ?_)
        obtain ⟨v7, e8, h⟩ := nm_some h
        refine lv_iinc (v := v7) (lv' := [(3, .int v7), (2, .int x3), (0, .ref (X.1 + 0)), (1, .int x1)]) hx hb dX6_first_54 hl (k := 3) rfl (by rw [e8]; rfl) (by decide) rfl (fun ls hl => ?_)
        refine lv_goto (tgt := 25) hx hb dX6_first_57 (by decide) ?_
        exact ih x1 x3 v7 S _ _ _ hw (lv_sub hl [2, 3, 1, 0] rfl) h
set_option maxRecDepth 20000 in
theorem c_X6_first (l : Launch) (X : Wx) {S S' : Mm} {r : Int32} {x1 : Int32}  (h : f_X6_first S x1 = some (r, S')) : Ct l X yX6_first cX6_first 4 (some .int) rm_X6_first [.ref (X.1 + 0), .int x1] S (some (.int r)) S' := by
  refine r_entry (by decide) (Nat.le_of_ble_eq_true rfl) ?_
  intro p e s m args below meth c ls hc hr hw hl
  have hc : Cx p s m args meth c X cX6_first 4 RX6 := hc
  have hl : lv_has ls 4 [(0, .ref (X.1 + 0)), (1, .int x1)] := hl
  have hx := hc.1
  have hb := hc.2.1
  unfold f_X6_first at h
  refine lv_aload_n hx hb dX6_first_0 rfl (lv_at hl 0 rfl) ?_
  refine lv_iload_n hx hb dX6_first_1 rfl (lv_at hl 1 rfl) ?_
  obtain ⟨r1, S2, h3, h⟩ := bd_some h
  refine r_callV6i hc hw hl.1 (As := [.int x1]) (rest := []) k0 (c_X6_isStep l X  h3) ms_X6_isStep rfl q2_94 rfl rfl ⟨rfl, rfl, Nat.le_of_ble_eq_true rfl, Nat.le_of_ble_eq_true rfl⟩ (Nat.le_of_ble_eq_true rfl) ⟨Nat.zero_le _, Nat.zero_le _⟩ dX6_first_2 (fun H locs hw => ?_)
  refine lv_if_ne (tgt := 10) hx hb dX6_first_5 (by decide) (fun c4 => ?_) (fun c4 => ?_)
  · have h := ifF c4 h
    refine lv_aload_n hx hb dX6_first_10 rfl (lv_at hl 0 rfl) ?_
    refine lv_iload_n hx hb dX6_first_11 rfl (lv_at hl 1 rfl) ?_
    obtain ⟨r5, S6, h7, h⟩ := bd_some h
    refine r_callV6i hc hw hl.1 (As := [.int x1]) (rest := []) k0 (c_X6_isFoundBehind l X  h7) ms_X6_isFoundBehind rfl q3_25 rfl rfl ⟨rfl, rfl, Nat.le_of_ble_eq_true rfl, Nat.le_of_ble_eq_true rfl⟩ (Nat.le_of_ble_eq_true rfl) ⟨Nat.zero_le _, Nat.zero_le _⟩ dX6_first_12 (fun H locs hw => ?_)
    refine lv_if_ne (tgt := 21) hx hb dX6_first_15 (by decide) (fun c8 => ?_) (fun c8 => ?_)
    · have h := ifF c8 h
      refine lv_iconst (v := 0) hx hb dX6_first_21 (by decide) ?_
      refine lv_istore_n (lv' := [(2, .int 0), (0, .ref (X.1 + 0)), (1, .int x1)]) hx hb dX6_first_22 rfl hl (by decide) rfl (fun ls hl => ?_)
      refine lv_iconst (v := 1) hx hb dX6_first_23 (by decide) ?_
      refine lv_istore_n (lv' := [(3, .int 1), (2, .int 0), (0, .ref (X.1 + 0)), (1, .int x1)]) hx hb dX6_first_24 rfl hl (by decide) rfl (fun ls hl => ?_)
      exact w_X6_first_25 hc hr 400 x1 0 1 S6 _ _ _ hw (lv_sub hl [2, 3, 1, 0] rfl) h
    · have h := ifT c8 h
      refine lv_bipush (v := (-9)) hx hb dX6_first_18 (by decide) ?_
      obtain ⟨rfl, rfl⟩ := sm_inj h
      exact r_iret hc hr hw dX6_first_20
  · have h := ifT c4 h
    refine lv_iconst (v := (-1)) hx hb dX6_first_8 (by decide) ?_
    obtain ⟨rfl, rfl⟩ := sm_inj h
    exact r_iret hc hr hw dX6_first_9
abbrev rm_X6_flowNow : Room := { frames := 2, cells := 0, slots := 0, locals := 49 }
theorem ms_X6_flowNow : MsV yX6_flowNow cX6_flowNow 1 none 0 := ⟨⟨q2_193, q1_1, by decide, by decide, by decide⟩, q2_192, qs_9⟩
set_option maxRecDepth 20000 in
theorem c_X6_flowNow (l : Launch) (X : Wx) {S S' : Mm} {r : Unit}   (h : f_X6_flowNow S = some (r, S')) : Ct l X yX6_flowNow cX6_flowNow 1 none rm_X6_flowNow [.ref (X.1 + 0)] S none S' := by
  refine r_entry (by decide) (Nat.le_of_ble_eq_true rfl) ?_
  intro p e s m args below meth c ls hc hr hw hl
  have hc : Cx p s m args meth c X cX6_flowNow 1 RX6 := hc
  have hl : lv_has ls 1 [(0, .ref (X.1 + 0))] := hl
  have hx := hc.1
  have hb := hc.2.1
  unfold f_X6_flowNow at h
  refine lv_aload_n hx hb dX6_flowNow_0 rfl (lv_at hl 0 rfl) ?_
  refine r_get6 hc hw k0 10 (by decide) (v := .ref (X.1 + 158)) rfl q1_227 dX6_flowNow_1 ?_
  refine lv_aload_n hx hb dX6_flowNow_4 rfl (lv_at hl 0 rfl) ?_
  refine r_get6 hc hw k0 1 (by decide) (v := .ref (X.1 + (pl S))) rfl q1_218 dX6_flowNow_5 ?_
  have kq1 := hw.2.2.1
  refine lv_aload_n hx hb dX6_flowNow_8 rfl (lv_at hl 0 rfl) ?_
  refine r_get6 hc hw k0 3 (by decide) (v := .ref (X.1 + 15)) rfl q1_220 dX6_flowNow_9 ?_
  refine r_get3 hc hw k15 0 (by decide) (v := .ref (X.1 + 16)) rfl q1_154 dX6_flowNow_12 ?_
  refine lv_aload_n hx hb dX6_flowNow_15 rfl (lv_at hl 0 rfl) ?_
  refine r_get6 hc hw k0 3 (by decide) (v := .ref (X.1 + 15)) rfl q1_220 dX6_flowNow_16 ?_
  refine r_get3 hc hw k15 0 (by decide) (v := .ref (X.1 + 16)) rfl q1_154 dX6_flowNow_19 ?_
  refine r_get1 hc hw k16 0 (by decide) (v := .ref (X.1 + 17)) rfl q1_117 dX6_flowNow_22 ?_
  refine lv_aload_n hx hb dX6_flowNow_25 rfl (lv_at hl 0 rfl) ?_
  refine r_get6 hc hw k0 3 (by decide) (v := .ref (X.1 + 15)) rfl q1_220 dX6_flowNow_26 ?_
  refine r_get3 hc hw k15 0 (by decide) (v := .ref (X.1 + 16)) rfl q1_154 dX6_flowNow_29 ?_
  refine r_get1 hc hw k16 3 (by decide) (v := .int (gI S 16 3)) rfl q1_126 dX6_flowNow_32 ?_
  obtain ⟨r2, S3, h4, h⟩ := bd_some h
  refine r_callV0v hc hw hl.1 (As := [.ref (X.1 + (pl S)), .ref (X.1 + 16), .ref (X.1 + 17), .int (gI S 16 3)]) (rest := []) k158 (c_X0_through l X kq1 k16 k17 h4) ms_X0_through rfl q2_194 rfl rfl ⟨rfl, rfl, Nat.le_of_ble_eq_true rfl, Nat.le_of_ble_eq_true rfl⟩ (Nat.le_of_ble_eq_true rfl) ⟨Nat.zero_le _, Nat.zero_le _⟩ dX6_flowNow_35 (fun H locs hw => ?_)
  obtain ⟨rfl, rfl⟩ := sm_inj h
  exact r_vret hc hr hw dX6_flowNow_38
abbrev rm_X6_forget : Room := { frames := 0, cells := 0, slots := 0, locals := 0 }
theorem ms_X6_forget : MsV yX6_forget cX6_forget 2 (some .int) 0 := ⟨⟨q3_48, q1_1, by decide, by decide, by decide⟩, q3_46, q3_47⟩
set_option maxRecDepth 20000 in
theorem c_X6_forget (l : Launch) (X : Wx) {S S' : Mm} {r : Int32}   (h : f_X6_forget S = some (r, S')) : Ct l X yX6_forget cX6_forget 2 (some .int) rm_X6_forget [.ref (X.1 + 0)] S (some (.int r)) S' := by
  refine r_entry (by decide) (Nat.le_of_ble_eq_true rfl) ?_
  intro p e s m args below meth c ls hc hr hw hl
  have hc : Cx p s m args meth c X cX6_forget 2 RX6 := hc
  have hl : lv_has ls 2 [(0, .ref (X.1 + 0))] := hl
  have hx := hc.1
  have hb := hc.2.1
  unfold f_X6_forget at h
  refine lv_aload_n hx hb dX6_forget_0 rfl (lv_at hl 0 rfl) ?_
  refine r_get6 hc hw k0 8 (by decide) (v := .int (gI S 0 8)) rfl q1_225 dX6_forget_1 ?_
  obtain ⟨v1, e2, h⟩ := nm_some h
  refine r_top e2 ?_
  refine lv_istore_n (lv' := [(1, .int v1), (0, .ref (X.1 + 0))]) hx hb dX6_forget_4 rfl hl (by decide) rfl (fun ls hl => ?_)
  refine lv_aload_n hx hb dX6_forget_5 rfl (lv_at hl 1 rfl) ?_
  refine lv_iconst (v := 0) hx hb dX6_forget_6 (by decide) ?_
  obtain ⟨S3, e4, h⟩ := nm_some h
  refine r_put6_8 hc hw k0 e4 q1_225 dX6_forget_7 (fun H locs hw => ?_)
  refine lv_iload_n hx hb dX6_forget_10 rfl (lv_at hl 0 rfl) ?_
  obtain ⟨rfl, rfl⟩ := sm_inj h
  exact r_iret hc hr hw dX6_forget_11
abbrev rm_X6_isDraw : Room := { frames := 0, cells := 0, slots := 0, locals := 0 }
theorem ms_X6_isDraw : MsS yX6_isDraw cX6_isDraw 1 (some .boolean) 1 := ⟨⟨q2_112, q1_1, by decide, by decide, by decide⟩, q2_111⟩
set_option maxRecDepth 20000 in
theorem c_X6_isDraw (l : Launch) (X : Wx) {S S' : Mm} {r : Int32} {x0 : Int32}  (h : f_X6_isDraw S x0 = some (r, S')) : Ct l X yX6_isDraw cX6_isDraw 1 (some .boolean) rm_X6_isDraw [.int x0] S (some (.int r)) S' := by
  refine r_entry (by decide) (Nat.le_of_ble_eq_true rfl) ?_
  intro p e s m args below meth c ls hc hr hw hl
  have hc : Cx p s m args meth c X cX6_isDraw 1 RX6 := hc
  have hl : lv_has ls 1 [(0, .int x0)] := hl
  have hx := hc.1
  have hb := hc.2.1
  unfold f_X6_isDraw at h
  refine lv_iload_n hx hb dX6_isDraw_0 rfl (lv_at hl 0 rfl) ?_
  refine lv_if_lt (tgt := 15) hx hb dX6_isDraw_1 (by decide) (fun c1 => ?_) (fun c1 => ?_)
  · have h := ifT c1 h
    refine lv_iconst (v := 0) hx hb dX6_isDraw_15 (by decide) ?_
    obtain ⟨rfl, rfl⟩ := sm_inj h
    exact r_zret hc hr (Or.inl rfl) hw dX6_isDraw_16
  · have h := ifF c1 h
    refine lv_iload_n hx hb dX6_isDraw_4 rfl (lv_at hl 0 rfl) ?_
    refine lv_sipush (v := 9999) hx hb dX6_isDraw_5 (by decide) ?_
    refine lv_icmp_gt (tgt := 15) hx hb dX6_isDraw_8 (by decide) (fun c2 => ?_) (fun c2 => ?_)
    · have h := ifT c2 h
      refine lv_iconst (v := 0) hx hb dX6_isDraw_15 (by decide) ?_
      obtain ⟨rfl, rfl⟩ := sm_inj h
      exact r_zret hc hr (Or.inl rfl) hw dX6_isDraw_16
    · have h := ifF c2 h
      refine lv_iconst (v := 1) hx hb dX6_isDraw_11 (by decide) ?_
      refine lv_goto (tgt := 16) hx hb dX6_isDraw_12 (by decide) ?_
      obtain ⟨rfl, rfl⟩ := sm_inj h
      exact r_zret hc hr (Or.inr rfl) hw dX6_isDraw_16
abbrev rm_X6_keep : Room := { frames := 3, cells := 0, slots := 0, locals := 83 }
theorem ms_X6_keep : MsV yX6_keep cX6_keep 2 (some .int) 1 := ⟨⟨q3_94, q1_1, by decide, by decide, by decide⟩, q3_92, q3_93⟩
set_option maxRecDepth 20000 in
theorem c_X6_keep (l : Launch) (X : Wx) {S S' : Mm} {r : Int32} {x1 : Int32}  (h : f_X6_keep S x1 = some (r, S')) : Ct l X yX6_keep cX6_keep 2 (some .int) rm_X6_keep [.ref (X.1 + 0), .int x1] S (some (.int r)) S' := by
  refine r_entry (by decide) (Nat.le_of_ble_eq_true rfl) ?_
  intro p e s m args below meth c ls hc hr hw hl
  have hc : Cx p s m args meth c X cX6_keep 2 RX6 := hc
  have hl : lv_has ls 2 [(0, .ref (X.1 + 0)), (1, .int x1)] := hl
  have hx := hc.1
  have hb := hc.2.1
  unfold f_X6_keep at h
  refine lv_iload_n hx hb dX6_keep_0 rfl (lv_at hl 1 rfl) ?_
  obtain ⟨r1, S2, h3, h⟩ := bd_some h
  refine r_callSi hc hw hl.1 (As := [.int x1]) (rest := []) (c_X6_isImage l X  h3) ms_X6_isImage q3_95 rfl rfl ⟨rfl, rfl, Nat.le_of_ble_eq_true rfl, Nat.le_of_ble_eq_true rfl⟩ (Nat.le_of_ble_eq_true rfl) ⟨Nat.zero_le _, Nat.zero_le _⟩ dX6_keep_1 (fun H locs hw => ?_)
  refine lv_if_ne (tgt := 9) hx hb dX6_keep_4 (by decide) (fun c4 => ?_) (fun c4 => ?_)
  · have h := ifF c4 h
    refine lv_aload_n hx hb dX6_keep_9 rfl (lv_at hl 0 rfl) ?_
    refine r_get6 hc hw k0 4 (by decide) (v := .ref (X.1 + 61)) rfl q1_221 dX6_keep_10 ?_
    refine lv_iload_n hx hb dX6_keep_13 rfl (lv_at hl 1 rfl) ?_
    obtain ⟨b5, h⟩ := bnd_some h
    refine r_aaldP hc hw k61 (inL b5 l61) dX6_keep_14 ?_
    have kq6 := kel_P k61 b5
    refine lv_aload_n hx hb dX6_keep_15 rfl (lv_at hl 0 rfl) ?_
    refine r_get6 hc hw k0 3 (by decide) (v := .ref (X.1 + 15)) rfl q1_220 dX6_keep_16 ?_
    obtain ⟨r7, S8, h9, h⟩ := bd_some h
    refine r_callV3v hc hw hl.1 (As := [.ref (X.1 + 15)]) (rest := []) kq6 (c_X3_become l X kq6 k15 h9) ms_X3_become rfl q3_98 rfl rfl ⟨rfl, rfl, Nat.le_of_ble_eq_true rfl, Nat.le_of_ble_eq_true rfl⟩ (Nat.le_of_ble_eq_true rfl) ⟨Nat.zero_le _, Nat.zero_le _⟩ dX6_keep_19 (fun H locs hw => ?_)
    refine lv_aload_n hx hb dX6_keep_22 rfl (lv_at hl 0 rfl) ?_
    refine r_get6 hc hw k0 5 (by decide) (v := .ref (X.1 + 154)) rfl q1_222 dX6_keep_23 ?_
    refine lv_iload_n hx hb dX6_keep_26 rfl (lv_at hl 1 rfl) ?_
    refine lv_iconst (v := 1) hx hb dX6_keep_27 (by decide) ?_
    obtain ⟨b10, h⟩ := bnd_some h
    obtain ⟨S11, e12, h⟩ := nm_some h
    refine r_zast hc hw k154 (inL b10 l154) e12 dX6_keep_28 (fun H locs hw => ?_)
    refine lv_aload_n hx hb dX6_keep_29 rfl (lv_at hl 0 rfl) ?_
    refine r_get6 hc hw k0 3 (by decide) (v := .ref (X.1 + 15)) rfl q1_220 dX6_keep_30 ?_
    refine r_get3 hc hw k15 0 (by decide) (v := .ref (X.1 + 16)) rfl q1_154 dX6_keep_33 ?_
    refine r_get1 hc hw k16 4 (by decide) (v := .int (gI S11 16 4)) rfl q1_128 dX6_keep_36 ?_
    obtain ⟨rfl, rfl⟩ := sm_inj h
    exact r_iret hc hr hw dX6_keep_39
  · have h := ifT c4 h
    refine lv_iconst (v := (-1)) hx hb dX6_keep_7 (by decide) ?_
    obtain ⟨rfl, rfl⟩ := sm_inj h
    exact r_iret hc hr hw dX6_keep_8
abbrev rm_X6_line : Room := { frames := 1, cells := 0, slots := 0, locals := 21 }
theorem ms_X6_line : MsV yX6_line cX6_line 2 (some .int) 1 := ⟨⟨q2_105, q1_1, by decide, by decide, by decide⟩, q2_103, q2_104⟩
set_option maxRecDepth 20000 in
theorem c_X6_line (l : Launch) (X : Wx) {S S' : Mm} {r : Int32} {x1 : Int32}  (h : f_X6_line S x1 = some (r, S')) : Ct l X yX6_line cX6_line 2 (some .int) rm_X6_line [.ref (X.1 + 0), .int x1] S (some (.int r)) S' := by
  refine r_entry (by decide) (Nat.le_of_ble_eq_true rfl) ?_
  intro p e s m args below meth c ls hc hr hw hl
  have hc : Cx p s m args meth c X cX6_line 2 RX6 := hc
  have hl : lv_has ls 2 [(0, .ref (X.1 + 0)), (1, .int x1)] := hl
  have hx := hc.1
  have hb := hc.2.1
  unfold f_X6_line at h
  refine lv_aload_n hx hb dX6_line_0 rfl (lv_at hl 0 rfl) ?_
  refine lv_iload_n hx hb dX6_line_1 rfl (lv_at hl 1 rfl) ?_
  obtain ⟨r1, S2, h3, h⟩ := bd_some h
  refine r_callV6i hc hw hl.1 (As := [.int x1]) (rest := []) k0 (c_X6_isStep l X  h3) ms_X6_isStep rfl q2_94 rfl rfl ⟨rfl, rfl, Nat.le_of_ble_eq_true rfl, Nat.le_of_ble_eq_true rfl⟩ (Nat.le_of_ble_eq_true rfl) ⟨Nat.zero_le _, Nat.zero_le _⟩ dX6_line_2 (fun H locs hw => ?_)
  refine lv_if_eq (tgt := 23) hx hb dX6_line_5 (by decide) (fun c4 => ?_) (fun c4 => ?_)
  · have h := ifT c4 h
    refine lv_iconst (v := (-1)) hx hb dX6_line_23 (by decide) ?_
    obtain ⟨rfl, rfl⟩ := sm_inj h
    exact r_iret hc hr hw dX6_line_24
  · have h := ifF c4 h
    refine lv_aload_n hx hb dX6_line_8 rfl (lv_at hl 0 rfl) ?_
    refine r_get6 hc hw k0 3 (by decide) (v := .ref (X.1 + 15)) rfl q1_220 dX6_line_9 ?_
    refine r_get3 hc hw k15 0 (by decide) (v := .ref (X.1 + 16)) rfl q1_154 dX6_line_12 ?_
    refine r_get1 hc hw k16 0 (by decide) (v := .ref (X.1 + 17)) rfl q1_117 dX6_line_15 ?_
    refine lv_iload_n hx hb dX6_line_18 rfl (lv_at hl 1 rfl) ?_
    obtain ⟨b5, h⟩ := bnd_some h
    refine r_iald hc hw k17 (inL b5 l17) dX6_line_19 ?_
    refine lv_goto (tgt := 24) hx hb dX6_line_20 (by decide) ?_
    obtain ⟨rfl, rfl⟩ := sm_inj h
    exact r_iret hc hr hw dX6_line_24
abbrev rm_X6_looks : Room := { frames := 3, cells := 0, slots := 0, locals := 81 }
theorem ms_X6_looks : MsV yX6_looks cX6_looks 4 (some .int) 2 := ⟨⟨q2_151, q1_1, by decide, by decide, by decide⟩, q2_149, q2_150⟩
set_option maxRecDepth 20000 in
theorem c_X6_looks (l : Launch) (X : Wx) {S S' : Mm} {r : Int32} {x1 : Int32} {x2 : Int32}  (h : f_X6_looks S x1 x2 = some (r, S')) : Ct l X yX6_looks cX6_looks 4 (some .int) rm_X6_looks [.ref (X.1 + 0), .int x1, .int x2] S (some (.int r)) S' := by
  refine r_entry (by decide) (Nat.le_of_ble_eq_true rfl) ?_
  intro p e s m args below meth c ls hc hr hw hl
  have hc : Cx p s m args meth c X cX6_looks 4 RX6 := hc
  have hl : lv_has ls 4 [(0, .ref (X.1 + 0)), (1, .int x1), (2, .int x2)] := hl
  have hx := hc.1
  have hb := hc.2.1
  unfold f_X6_looks at h
  refine lv_aload_n hx hb dX6_looks_0 rfl (lv_at hl 0 rfl) ?_
  refine lv_iload_n hx hb dX6_looks_1 rfl (lv_at hl 1 rfl) ?_
  obtain ⟨r1, S2, h3, h⟩ := bd_some h
  refine r_callV6i hc hw hl.1 (As := [.int x1]) (rest := []) k0 (c_X6_isStep l X  h3) ms_X6_isStep rfl q2_94 rfl rfl ⟨rfl, rfl, Nat.le_of_ble_eq_true rfl, Nat.le_of_ble_eq_true rfl⟩ (Nat.le_of_ble_eq_true rfl) ⟨Nat.zero_le _, Nat.zero_le _⟩ dX6_looks_2 (fun H locs hw => ?_)
  refine lv_if_eq (tgt := 15) hx hb dX6_looks_5 (by decide) (fun c4 => ?_) (fun c4 => ?_)
  · have h := ifT c4 h
    refine lv_iconst (v := (-1)) hx hb dX6_looks_15 (by decide) ?_
    obtain ⟨rfl, rfl⟩ := sm_inj h
    exact r_iret hc hr hw dX6_looks_16
  · have h := ifF c4 h
    refine lv_iload_n hx hb dX6_looks_8 rfl (lv_at hl 2 rfl) ?_
    obtain ⟨r5, S6, h7, h⟩ := bd_some h
    refine r_callSi hc hw hl.1 (As := [.int x2]) (rest := []) (c_X6_isBit l X  h7) ms_X6_isBit q2_152 rfl rfl ⟨rfl, rfl, Nat.le_of_ble_eq_true rfl, Nat.le_of_ble_eq_true rfl⟩ (Nat.le_of_ble_eq_true rfl) ⟨Nat.zero_le _, Nat.zero_le _⟩ dX6_looks_9 (fun H locs hw => ?_)
    refine lv_if_ne (tgt := 17) hx hb dX6_looks_12 (by decide) (fun c8 => ?_) (fun c8 => ?_)
    · have h := ifF c8 h
      refine lv_aload_n hx hb dX6_looks_17 rfl (lv_at hl 0 rfl) ?_
      refine r_get6 hc hw k0 3 (by decide) (v := .ref (X.1 + 15)) rfl q1_220 dX6_looks_18 ?_
      refine r_get3 hc hw k15 0 (by decide) (v := .ref (X.1 + 16)) rfl q1_154 dX6_looks_21 ?_
      refine lv_astore_n (lv' := [(3, .ref (X.1 + 16)), (0, .ref (X.1 + 0)), (1, .int x1), (2, .int x2)]) hx hb dX6_looks_24 rfl hl (by decide) rfl (fun ls hl => ?_)
      refine lv_aload_n hx hb dX6_looks_25 rfl (lv_at hl 0 rfl) ?_
      refine r_get1 hc hw k16 3 (by decide) (v := .int (gI S6 16 3)) rfl q1_126 dX6_looks_26 ?_
      refine lv_iload_n hx hb dX6_looks_29 rfl (lv_at hl 2 rfl) ?_
      refine lv_ishr hx hb dX6_looks_30 ?_
      refine lv_iconst (v := 1) hx hb dX6_looks_31 (by decide) ?_
      refine lv_iand hx hb dX6_looks_32 ?_
      refine lv_iload_n hx hb dX6_looks_33 rfl (lv_at hl 3 rfl) ?_
      refine lv_icmp_ne (tgt := 40) hx hb dX6_looks_34 (by decide) (fun c9 => ?_) (fun c9 => ?_)
      · have h := ifF c9 h
        refine lv_aload_n hx hb dX6_looks_40 rfl (lv_at hl 1 rfl) ?_
        refine r_get6 hc hw k0 3 (by decide) (v := .ref (X.1 + 15)) rfl q1_220 dX6_looks_41 ?_
        obtain ⟨r10, S11, h12, h⟩ := bd_some h
        refine r_callV3v hc hw hl.1 (As := []) (rest := []) k15 (c_X3_remember l X k15 h12) ms_X3_remember rfl q2_113 rfl rfl ⟨rfl, rfl, Nat.le_of_ble_eq_true rfl, Nat.le_of_ble_eq_true rfl⟩ (Nat.le_of_ble_eq_true rfl) ⟨Nat.zero_le _, Nat.zero_le _⟩ dX6_looks_44 (fun H locs hw => ?_)
        refine lv_aload_n hx hb dX6_looks_47 rfl (lv_at hl 0 rfl) ?_
        refine lv_dup hx hb dX6_looks_48 rfl ?_
        refine r_get1 hc hw k16 3 (by decide) (v := .int (gI S11 16 3)) rfl q1_126 dX6_looks_49 ?_
        refine lv_iconst (v := 1) hx hb dX6_looks_52 (by decide) ?_
        refine lv_iload_n hx hb dX6_looks_53 rfl (lv_at hl 2 rfl) ?_
        refine lv_ishl hx hb dX6_looks_54 ?_
        refine lv_ixor hx hb dX6_looks_55 ?_
        obtain ⟨S13, e14, h⟩ := nm_some h
        refine r_put1_3 hc hw k16 e14 q1_126 dX6_looks_56 (fun H locs hw => ?_)
        refine lv_aload_n hx hb dX6_looks_59 rfl (lv_at hl 0 rfl) ?_
        refine r_get1 hc hw k16 3 (by decide) (v := .int (gI S13 16 3)) rfl q1_126 dX6_looks_60 ?_
        obtain ⟨r15, S16, h17, h⟩ := bd_some h
        refine r_callSi hc hw hl.1 (As := [.int (gI S13 16 3)]) (rest := []) (c_J6_bitCount_0f7a4 l X  h17) ms_J6_bitCount_0f7a4 q2_155 rfl rfl ⟨rfl, rfl, Nat.le_of_ble_eq_true rfl, Nat.le_of_ble_eq_true rfl⟩ (Nat.le_of_ble_eq_true rfl) ⟨Nat.zero_le _, Nat.zero_le _⟩ dX6_looks_63 (fun H locs hw => ?_)
        obtain ⟨rfl, rfl⟩ := sm_inj h
        exact r_iret hc hr hw dX6_looks_66
      · have h := ifT c9 h
        refine lv_bipush (v := (-2)) hx hb dX6_looks_37 (by decide) ?_
        obtain ⟨rfl, rfl⟩ := sm_inj h
        exact r_iret hc hr hw dX6_looks_39
    · have h := ifT c8 h
      refine lv_iconst (v := (-1)) hx hb dX6_looks_15 (by decide) ?_
      obtain ⟨rfl, rfl⟩ := sm_inj h
      exact r_iret hc hr hw dX6_looks_16
abbrev rm_X6_lost : Room := { frames := 3, cells := 0, slots := 0, locals := 69 }
theorem ms_X6_lost : MsV yX6_lost cX6_lost 3 (some .long) 2 := ⟨⟨q2_223, q1_1, by decide, by decide, by decide⟩, q2_221, q2_222⟩
set_option maxRecDepth 20000 in
theorem c_X6_lost (l : Launch) (X : Wx) {S S' : Mm} {r : Int64} {x1 : Int32} {x2 : Int32}  (h : f_X6_lost S x1 x2 = some (r, S')) : Ct l X yX6_lost cX6_lost 3 (some .long) rm_X6_lost [.ref (X.1 + 0), .int x1, .int x2] S (some (.long r)) S' := by
  refine r_entry (by decide) (Nat.le_of_ble_eq_true rfl) ?_
  intro p e s m args below meth c ls hc hr hw hl
  have hc : Cx p s m args meth c X cX6_lost 3 RX6 := hc
  have hl : lv_has ls 3 [(0, .ref (X.1 + 0)), (1, .int x1), (2, .int x2)] := hl
  have hx := hc.1
  have hb := hc.2.1
  unfold f_X6_lost at h
  refine lv_aload_n hx hb dX6_lost_0 rfl (lv_at hl 0 rfl) ?_
  refine lv_iload_n hx hb dX6_lost_1 rfl (lv_at hl 1 rfl) ?_
  obtain ⟨r1, S2, h3, h⟩ := bd_some h
  refine r_callV6i hc hw hl.1 (As := [.int x1]) (rest := []) k0 (c_X6_isStep l X  h3) ms_X6_isStep rfl q2_94 rfl rfl ⟨rfl, rfl, Nat.le_of_ble_eq_true rfl, Nat.le_of_ble_eq_true rfl⟩ (Nat.le_of_ble_eq_true rfl) ⟨Nat.zero_le _, Nat.zero_le _⟩ dX6_lost_2 (fun H locs hw => ?_)
  refine lv_if_eq (tgt := 15) hx hb dX6_lost_5 (by decide) (fun c4 => ?_) (fun c4 => ?_)
  · have h := ifT c4 h
    refine lv_ldc2 hx hb hc.2.2.2.1 (hc.2.2.2.2.1 _ q2_189) dX6_lost_15 ?_
    obtain ⟨rfl, rfl⟩ := sm_inj h
    exact r_lret hc hr hw dX6_lost_18
  · have h := ifF c4 h
    refine lv_iload_n hx hb dX6_lost_8 rfl (lv_at hl 2 rfl) ?_
    obtain ⟨r5, S6, h7, h⟩ := bd_some h
    refine r_callSi hc hw hl.1 (As := [.int x2]) (rest := []) (c_X6_isBit l X  h7) ms_X6_isBit q2_152 rfl rfl ⟨rfl, rfl, Nat.le_of_ble_eq_true rfl, Nat.le_of_ble_eq_true rfl⟩ (Nat.le_of_ble_eq_true rfl) ⟨Nat.zero_le _, Nat.zero_le _⟩ dX6_lost_9 (fun H locs hw => ?_)
    refine lv_if_ne (tgt := 19) hx hb dX6_lost_12 (by decide) (fun c8 => ?_) (fun c8 => ?_)
    · have h := ifF c8 h
      refine lv_aload_n hx hb dX6_lost_19 rfl (lv_at hl 0 rfl) ?_
      obtain ⟨r9, S10, h11, h⟩ := bd_some h
      refine r_callV6v hc hw hl.1 (As := []) (rest := []) k0 (c_X6_flowNow l X  h11) ms_X6_flowNow rfl q2_190 rfl rfl ⟨rfl, rfl, Nat.le_of_ble_eq_true rfl, Nat.le_of_ble_eq_true rfl⟩ (Nat.le_of_ble_eq_true rfl) ⟨Nat.zero_le _, Nat.zero_le _⟩ dX6_lost_20 (fun H locs hw => ?_)
      refine lv_aload_n hx hb dX6_lost_23 rfl (lv_at hl 0 rfl) ?_
      refine r_get6 hc hw k0 10 (by decide) (v := .ref (X.1 + 158)) rfl q1_227 dX6_lost_24 ?_
      refine r_get0 hc hw k158 3 (by decide) (v := .ref (X.1 + 159)) rfl q1_202 dX6_lost_27 ?_
      refine lv_iload_n hx hb dX6_lost_30 rfl (lv_at hl 1 rfl) ?_
      obtain ⟨b12, h⟩ := bnd_some h
      refine r_lald hc hw k159 (inL b12 l159) dX6_lost_31 ?_
      refine lv_ldc2 hx hb hc.2.2.2.1 (hc.2.2.2.2.1 _ q2_212) dX6_lost_32 ?_
      refine lv_iload_n hx hb dX6_lost_35 rfl (lv_at hl 2 rfl) ?_
      obtain ⟨r13, S14, h15, h⟩ := bd_some h
      refine r_callSl hc hw hl.1 (As := [.long (gJ S10 159 x1.toNatClampNeg), .long 10000000000, .int x2]) (rest := []) (c_X6_part l X  h15) ms_X6_part q2_213 rfl rfl ⟨rfl, rfl, Nat.le_of_ble_eq_true rfl, Nat.le_of_ble_eq_true rfl⟩ (Nat.le_of_ble_eq_true rfl) ⟨Nat.zero_le _, Nat.zero_le _⟩ dX6_lost_36 (fun H locs hw => ?_)
      obtain ⟨rfl, rfl⟩ := sm_inj h
      exact r_lret hc hr hw dX6_lost_39
    · have h := ifT c8 h
      refine lv_ldc2 hx hb hc.2.2.2.1 (hc.2.2.2.2.1 _ q2_189) dX6_lost_15 ?_
      obtain ⟨rfl, rfl⟩ := sm_inj h
      exact r_lret hc hr hw dX6_lost_18
abbrev rm_X6_makes : Room := { frames := 3, cells := 0, slots := 0, locals := 81 }
theorem ms_X6_makes : MsV yX6_makes cX6_makes 3 (some .int) 1 := ⟨⟨q2_109, q1_1, by decide, by decide, by decide⟩, q2_107, q2_108⟩
set_option maxRecDepth 20000 in
theorem c_X6_makes (l : Launch) (X : Wx) {S S' : Mm} {r : Int32} {x1 : Int32}  (h : f_X6_makes S x1 = some (r, S')) : Ct l X yX6_makes cX6_makes 3 (some .int) rm_X6_makes [.ref (X.1 + 0), .int x1] S (some (.int r)) S' := by
  refine r_entry (by decide) (Nat.le_of_ble_eq_true rfl) ?_
  intro p e s m args below meth c ls hc hr hw hl
  have hc : Cx p s m args meth c X cX6_makes 3 RX6 := hc
  have hl : lv_has ls 3 [(0, .ref (X.1 + 0)), (1, .int x1)] := hl
  have hx := hc.1
  have hb := hc.2.1
  unfold f_X6_makes at h
  refine lv_iload_n hx hb dX6_makes_0 rfl (lv_at hl 1 rfl) ?_
  obtain ⟨r1, S2, h3, h⟩ := bd_some h
  refine r_callSi hc hw hl.1 (As := [.int x1]) (rest := []) (c_X6_isDraw l X  h3) ms_X6_isDraw q2_110 rfl rfl ⟨rfl, rfl, Nat.le_of_ble_eq_true rfl, Nat.le_of_ble_eq_true rfl⟩ (Nat.le_of_ble_eq_true rfl) ⟨Nat.zero_le _, Nat.zero_le _⟩ dX6_makes_1 (fun H locs hw => ?_)
  refine lv_if_ne (tgt := 9) hx hb dX6_makes_4 (by decide) (fun c4 => ?_) (fun c4 => ?_)
  · have h := ifF c4 h
    refine lv_aload_n hx hb dX6_makes_9 rfl (lv_at hl 0 rfl) ?_
    refine r_get6 hc hw k0 3 (by decide) (v := .ref (X.1 + 15)) rfl q1_220 dX6_makes_10 ?_
    refine r_get3 hc hw k15 0 (by decide) (v := .ref (X.1 + 16)) rfl q1_154 dX6_makes_13 ?_
    refine lv_astore_n (lv' := [(2, .ref (X.1 + 16)), (0, .ref (X.1 + 0)), (1, .int x1)]) hx hb dX6_makes_16 rfl hl (by decide) rfl (fun ls hl => ?_)
    refine lv_aload_n hx hb dX6_makes_17 rfl (lv_at hl 0 rfl) ?_
    refine r_get1 hc hw k16 4 (by decide) (v := .int (gI S2 16 4)) rfl q1_128 dX6_makes_18 ?_
    refine lv_sipush (v := 9999) hx hb dX6_makes_21 (by decide) ?_
    refine lv_icmp_lt (tgt := 30) hx hb dX6_makes_24 (by decide) (fun c5 => ?_) (fun c5 => ?_)
    · have h := ifT c5 h
      refine lv_aload_n hx hb dX6_makes_30 rfl (lv_at hl 1 rfl) ?_
      refine r_get6 hc hw k0 3 (by decide) (v := .ref (X.1 + 15)) rfl q1_220 dX6_makes_31 ?_
      obtain ⟨r6, S7, h8, h⟩ := bd_some h
      refine r_callV3v hc hw hl.1 (As := []) (rest := []) k15 (c_X3_remember l X k15 h8) ms_X3_remember rfl q2_113 rfl rfl ⟨rfl, rfl, Nat.le_of_ble_eq_true rfl, Nat.le_of_ble_eq_true rfl⟩ (Nat.le_of_ble_eq_true rfl) ⟨Nat.zero_le _, Nat.zero_le _⟩ dX6_makes_34 (fun H locs hw => ?_)
      refine lv_aload_n hx hb dX6_makes_37 rfl (lv_at hl 1 rfl) ?_
      refine r_get6 hc hw k0 9 (by decide) (v := .ref (X.1 + 157)) rfl q1_226 dX6_makes_38 ?_
      refine lv_aload_n hx hb dX6_makes_41 rfl (lv_at hl 1 rfl) ?_
      refine r_get6 hc hw k0 1 (by decide) (v := .ref (X.1 + (pl S7))) rfl q1_218 dX6_makes_42 ?_
      have kq9 := hw.2.2.1
      refine lv_aload_n hx hb dX6_makes_45 rfl (lv_at hl 0 rfl) ?_
      refine lv_aload_n hx hb dX6_makes_46 rfl (lv_at hl 0 rfl) ?_
      refine r_get1 hc hw k16 3 (by decide) (v := .int (gI S7 16 3)) rfl q1_126 dX6_makes_47 ?_
      refine lv_iload_n hx hb dX6_makes_50 rfl (lv_at hl 2 rfl) ?_
      obtain ⟨r10, S11, h12, h⟩ := bd_some h
      refine r_callV2v hc hw hl.1 (As := [.ref (X.1 + (pl S7)), .ref (X.1 + 16), .int (gI S7 16 3), .int x1]) (rest := []) k157 (c_X2_go l X kq9 k16 h12) ms_X2_go rfl q2_127 rfl rfl ⟨rfl, rfl, Nat.le_of_ble_eq_true rfl, Nat.le_of_ble_eq_true rfl⟩ (Nat.le_of_ble_eq_true rfl) ⟨Nat.zero_le _, Nat.zero_le _⟩ dX6_makes_51 (fun H locs hw => ?_)
      refine lv_aload_n hx hb dX6_makes_54 rfl (lv_at hl 0 rfl) ?_
      refine lv_aload_n hx hb dX6_makes_55 rfl (lv_at hl 1 rfl) ?_
      refine r_get6 hc hw k0 9 (by decide) (v := .ref (X.1 + 157)) rfl q1_226 dX6_makes_56 ?_
      refine lv_aload_n hx hb dX6_makes_59 rfl (lv_at hl 1 rfl) ?_
      refine r_get6 hc hw k0 1 (by decide) (v := .ref (X.1 + (pl S11))) rfl q1_218 dX6_makes_60 ?_
      have kq13 := hw.2.2.1
      refine r_get4 hc hw kq13 1 (by decide) (v := .int (gI S11 (pl S11) 1)) rfl q1_65 dX6_makes_63 ?_
      obtain ⟨r14, S15, h16, h⟩ := bd_some h
      refine r_callV1v hc hw hl.1 (As := [.ref (X.1 + 157), .int (gI S11 (pl S11) 1)]) (rest := []) k16 (c_X1_enter l X k16 h16) ms_X1_enter rfl q2_139 rfl rfl ⟨rfl, rfl, Nat.le_of_ble_eq_true rfl, Nat.le_of_ble_eq_true rfl⟩ (Nat.le_of_ble_eq_true rfl) ⟨Nat.zero_le _, Nat.zero_le _⟩ dX6_makes_66 (fun H locs hw => ?_)
      refine lv_aload_n hx hb dX6_makes_69 rfl (lv_at hl 1 rfl) ?_
      refine r_get6 hc hw k0 9 (by decide) (v := .ref (X.1 + 157)) rfl q1_226 dX6_makes_70 ?_
      obtain ⟨r17, S18, h19, h⟩ := bd_some h
      refine r_callV2i hc hw hl.1 (As := []) (rest := []) k157 (c_X2_fate l X  h19) ms_X2_fate rfl q2_147 rfl rfl ⟨rfl, rfl, Nat.le_of_ble_eq_true rfl, Nat.le_of_ble_eq_true rfl⟩ (Nat.le_of_ble_eq_true rfl) ⟨Nat.zero_le _, Nat.zero_le _⟩ dX6_makes_73 (fun H locs hw => ?_)
      obtain ⟨rfl, rfl⟩ := sm_inj h
      exact r_iret hc hr hw dX6_makes_76
    · have h := ifF c5 h
      refine lv_bipush (v := (-2)) hx hb dX6_makes_27 (by decide) ?_
      obtain ⟨rfl, rfl⟩ := sm_inj h
      exact r_iret hc hr hw dX6_makes_29
  · have h := ifT c4 h
    refine lv_iconst (v := (-1)) hx hb dX6_makes_7 (by decide) ?_
    obtain ⟨rfl, rfl⟩ := sm_inj h
    exact r_iret hc hr hw dX6_makes_8
abbrev rm_X6_markStep : Room := { frames := 0, cells := 0, slots := 0, locals := 0 }
theorem ms_X6_markStep : MsV yX6_markStep cX6_markStep 2 (some .int) 1 := ⟨⟨q3_65, q1_1, by decide, by decide, by decide⟩, q3_64, qs_18⟩
set_option maxRecDepth 20000 in
theorem c_X6_markStep (l : Launch) (X : Wx) {S S' : Mm} {r : Int32} {x1 : Int32}  (h : f_X6_markStep S x1 = some (r, S')) : Ct l X yX6_markStep cX6_markStep 2 (some .int) rm_X6_markStep [.ref (X.1 + 0), .int x1] S (some (.int r)) S' := by
  refine r_entry (by decide) (Nat.le_of_ble_eq_true rfl) ?_
  intro p e s m args below meth c ls hc hr hw hl
  have hc : Cx p s m args meth c X cX6_markStep 2 RX6 := hc
  have hl : lv_has ls 2 [(0, .ref (X.1 + 0)), (1, .int x1)] := hl
  have hx := hc.1
  have hb := hc.2.1
  unfold f_X6_markStep at h
  refine lv_aload_n hx hb dX6_markStep_0 rfl (lv_at hl 0 rfl) ?_
  refine lv_dup hx hb dX6_markStep_1 rfl ?_
  refine r_get6 hc hw k0 13 (by decide) (v := .long (gJ S 0 13)) rfl q1_230 dX6_markStep_2 ?_
  refine lv_lconst (v := 1) hx hb dX6_markStep_5 (by decide) ?_
  refine lv_ladd hx hb dX6_markStep_6 ?_
  obtain ⟨S1, e2, h⟩ := nm_some h
  refine r_put6_13 hc hw k0 e2 q1_230 dX6_markStep_7 (fun H locs hw => ?_)
  refine lv_aload_n hx hb dX6_markStep_10 rfl (lv_at hl 0 rfl) ?_
  refine r_get6 hc hw k0 1 (by decide) (v := .ref (X.1 + (pl S1))) rfl q1_218 dX6_markStep_11 ?_
  have kq3 := hw.2.2.1
  refine r_get4 hc hw kq3 2 (by decide) (v := .ref (X.1 + ((pl S1) + 1))) rfl q1_70 dX6_markStep_14 ?_
  refine lv_iload_n hx hb dX6_markStep_17 rfl (lv_at hl 1 rfl) ?_
  obtain ⟨b4, h⟩ := bnd_some h
  refine r_iald hc hw (kf_4_seconds kq3) (inL b4 (lf_4_seconds kq3)) dX6_markStep_18 ?_
  obtain ⟨rfl, rfl⟩ := sm_inj h
  exact r_iret hc hr hw dX6_markStep_19
abbrev rm_X6_markPoint : Room := { frames := 1, cells := 0, slots := 0, locals := 21 }
theorem ms_X6_markPoint : MsV yX6_markPoint cX6_markPoint 2 (some .int) 1 := ⟨⟨q3_69, q1_1, by decide, by decide, by decide⟩, q3_68, qs_19⟩
set_option maxRecDepth 20000 in
theorem c_X6_markPoint (l : Launch) (X : Wx) {S S' : Mm} {r : Int32} {x1 : Int32}  (h : f_X6_markPoint S x1 = some (r, S')) : Ct l X yX6_markPoint cX6_markPoint 2 (some .int) rm_X6_markPoint [.ref (X.1 + 0), .int x1] S (some (.int r)) S' := by
  refine r_entry (by decide) (Nat.le_of_ble_eq_true rfl) ?_
  intro p e s m args below meth c ls hc hr hw hl
  have hc : Cx p s m args meth c X cX6_markPoint 2 RX6 := hc
  have hl : lv_has ls 2 [(0, .ref (X.1 + 0)), (1, .int x1)] := hl
  have hx := hc.1
  have hb := hc.2.1
  unfold f_X6_markPoint at h
  refine lv_aload_n hx hb dX6_markPoint_0 rfl (lv_at hl 0 rfl) ?_
  refine lv_dup hx hb dX6_markPoint_1 rfl ?_
  refine r_get6 hc hw k0 13 (by decide) (v := .long (gJ S 0 13)) rfl q1_230 dX6_markPoint_2 ?_
  refine lv_ldc2 hx hb hc.2.2.2.1 (hc.2.2.2.2.1 _ q3_70) dX6_markPoint_5 ?_
  refine lv_ladd hx hb dX6_markPoint_8 ?_
  obtain ⟨S1, e2, h⟩ := nm_some h
  refine r_put6_13 hc hw k0 e2 q1_230 dX6_markPoint_9 (fun H locs hw => ?_)
  refine lv_aload_n hx hb dX6_markPoint_12 rfl (lv_at hl 0 rfl) ?_
  refine lv_iload_n hx hb dX6_markPoint_13 rfl (lv_at hl 1 rfl) ?_
  obtain ⟨r3, S4, h5, h⟩ := bd_some h
  refine r_callV6i hc hw hl.1 (As := [.int x1]) (rest := []) k0 (c_X6_markStep l X  h5) ms_X6_markStep rfl q3_62 rfl rfl ⟨rfl, rfl, Nat.le_of_ble_eq_true rfl, Nat.le_of_ble_eq_true rfl⟩ (Nat.le_of_ble_eq_true rfl) ⟨Nat.zero_le _, Nat.zero_le _⟩ dX6_markPoint_14 (fun H locs hw => ?_)
  refine lv_aload_n hx hb dX6_markPoint_17 rfl (lv_at hl 0 rfl) ?_
  refine r_get6 hc hw k0 3 (by decide) (v := .ref (X.1 + 15)) rfl q1_220 dX6_markPoint_18 ?_
  refine r_get3 hc hw k15 0 (by decide) (v := .ref (X.1 + 16)) rfl q1_154 dX6_markPoint_21 ?_
  refine r_get1 hc hw k16 1 (by decide) (v := .ref (X.1 + 18)) rfl q1_121 dX6_markPoint_24 ?_
  refine lv_iload_n hx hb dX6_markPoint_27 rfl (lv_at hl 1 rfl) ?_
  obtain ⟨b6, h⟩ := bnd_some h
  refine r_iald hc hw k18 (inL b6 l18) dX6_markPoint_28 ?_
  refine lv_iadd hx hb dX6_markPoint_29 ?_
  obtain ⟨rfl, rfl⟩ := sm_inj h
  exact r_iret hc hr hw dX6_markPoint_30
abbrev rm_X6_markEye : Room := { frames := 1, cells := 0, slots := 0, locals := 21 }
theorem ms_X6_markEye : MsV yX6_markEye cX6_markEye 2 (some .int) 1 := ⟨⟨q3_74, q1_1, by decide, by decide, by decide⟩, q3_73, qs_20⟩
set_option maxRecDepth 20000 in
theorem c_X6_markEye (l : Launch) (X : Wx) {S S' : Mm} {r : Int32} {x1 : Int32}  (h : f_X6_markEye S x1 = some (r, S')) : Ct l X yX6_markEye cX6_markEye 2 (some .int) rm_X6_markEye [.ref (X.1 + 0), .int x1] S (some (.int r)) S' := by
  refine r_entry (by decide) (Nat.le_of_ble_eq_true rfl) ?_
  intro p e s m args below meth c ls hc hr hw hl
  have hc : Cx p s m args meth c X cX6_markEye 2 RX6 := hc
  have hl : lv_has ls 2 [(0, .ref (X.1 + 0)), (1, .int x1)] := hl
  have hx := hc.1
  have hb := hc.2.1
  unfold f_X6_markEye at h
  refine lv_aload_n hx hb dX6_markEye_0 rfl (lv_at hl 0 rfl) ?_
  refine lv_dup hx hb dX6_markEye_1 rfl ?_
  refine r_get6 hc hw k0 13 (by decide) (v := .long (gJ S 0 13)) rfl q1_230 dX6_markEye_2 ?_
  refine lv_ldc2 hx hb hc.2.2.2.1 (hc.2.2.2.2.1 _ q3_75) dX6_markEye_5 ?_
  refine lv_ladd hx hb dX6_markEye_8 ?_
  obtain ⟨S1, e2, h⟩ := nm_some h
  refine r_put6_13 hc hw k0 e2 q1_230 dX6_markEye_9 (fun H locs hw => ?_)
  refine lv_aload_n hx hb dX6_markEye_12 rfl (lv_at hl 0 rfl) ?_
  refine lv_iload_n hx hb dX6_markEye_13 rfl (lv_at hl 1 rfl) ?_
  obtain ⟨r3, S4, h5, h⟩ := bd_some h
  refine r_callV6i hc hw hl.1 (As := [.int x1]) (rest := []) k0 (c_X6_markStep l X  h5) ms_X6_markStep rfl q3_62 rfl rfl ⟨rfl, rfl, Nat.le_of_ble_eq_true rfl, Nat.le_of_ble_eq_true rfl⟩ (Nat.le_of_ble_eq_true rfl) ⟨Nat.zero_le _, Nat.zero_le _⟩ dX6_markEye_14 (fun H locs hw => ?_)
  refine lv_aload_n hx hb dX6_markEye_17 rfl (lv_at hl 0 rfl) ?_
  refine r_get6 hc hw k0 1 (by decide) (v := .ref (X.1 + (pl S4))) rfl q1_218 dX6_markEye_18 ?_
  have kq6 := hw.2.2.1
  refine r_get4 hc hw kq6 4 (by decide) (v := .ref (X.1 + ((pl S4) + 3))) rfl q1_78 dX6_markEye_21 ?_
  refine lv_iload_n hx hb dX6_markEye_24 rfl (lv_at hl 1 rfl) ?_
  obtain ⟨b7, h⟩ := bnd_some h
  refine r_iald hc hw (kf_4_look kq6) (inL b7 (lf_4_look kq6)) dX6_markEye_25 ?_
  refine lv_isub hx hb dX6_markEye_26 ?_
  obtain ⟨rfl, rfl⟩ := sm_inj h
  exact r_iret hc hr hw dX6_markEye_27
abbrev rm_X6_markTrue : Room := { frames := 2, cells := 0, slots := 0, locals := 42 }
theorem ms_X6_markTrue : MsV yX6_markTrue cX6_markTrue 2 (some .int) 1 := ⟨⟨q3_79, q1_1, by decide, by decide, by decide⟩, q3_78, qs_21⟩
set_option maxRecDepth 20000 in
theorem c_X6_markTrue (l : Launch) (X : Wx) {S S' : Mm} {r : Int32} {x1 : Int32}  (h : f_X6_markTrue S x1 = some (r, S')) : Ct l X yX6_markTrue cX6_markTrue 2 (some .int) rm_X6_markTrue [.ref (X.1 + 0), .int x1] S (some (.int r)) S' := by
  refine r_entry (by decide) (Nat.le_of_ble_eq_true rfl) ?_
  intro p e s m args below meth c ls hc hr hw hl
  have hc : Cx p s m args meth c X cX6_markTrue 2 RX6 := hc
  have hl : lv_has ls 2 [(0, .ref (X.1 + 0)), (1, .int x1)] := hl
  have hx := hc.1
  have hb := hc.2.1
  unfold f_X6_markTrue at h
  refine lv_aload_n hx hb dX6_markTrue_0 rfl (lv_at hl 0 rfl) ?_
  refine lv_dup hx hb dX6_markTrue_1 rfl ?_
  refine r_get6 hc hw k0 13 (by decide) (v := .long (gJ S 0 13)) rfl q1_230 dX6_markTrue_2 ?_
  refine lv_ldc2 hx hb hc.2.2.2.1 (hc.2.2.2.2.1 _ q3_80) dX6_markTrue_5 ?_
  refine lv_ladd hx hb dX6_markTrue_8 ?_
  obtain ⟨S1, e2, h⟩ := nm_some h
  refine r_put6_13 hc hw k0 e2 q1_230 dX6_markTrue_9 (fun H locs hw => ?_)
  refine lv_aload_n hx hb dX6_markTrue_12 rfl (lv_at hl 0 rfl) ?_
  refine lv_iload_n hx hb dX6_markTrue_13 rfl (lv_at hl 1 rfl) ?_
  obtain ⟨r3, S4, h5, h⟩ := bd_some h
  refine r_callV6i hc hw hl.1 (As := [.int x1]) (rest := []) k0 (c_X6_markPoint l X  h5) ms_X6_markPoint rfl q3_66 rfl rfl ⟨rfl, rfl, Nat.le_of_ble_eq_true rfl, Nat.le_of_ble_eq_true rfl⟩ (Nat.le_of_ble_eq_true rfl) ⟨Nat.zero_le _, Nat.zero_le _⟩ dX6_markTrue_14 (fun H locs hw => ?_)
  refine lv_iconst (v := 2) hx hb dX6_markTrue_17 (by decide) ?_
  refine lv_imul hx hb dX6_markTrue_18 ?_
  obtain ⟨rfl, rfl⟩ := sm_inj h
  exact r_iret hc hr hw dX6_markTrue_19
abbrev rm_X6_markBlue : Room := { frames := 2, cells := 0, slots := 0, locals := 42 }
theorem ms_X6_markBlue : MsV yX6_markBlue cX6_markBlue 2 (some .int) 1 := ⟨⟨q3_84, q1_1, by decide, by decide, by decide⟩, q3_83, qs_22⟩
set_option maxRecDepth 20000 in
theorem c_X6_markBlue (l : Launch) (X : Wx) {S S' : Mm} {r : Int32} {x1 : Int32}  (h : f_X6_markBlue S x1 = some (r, S')) : Ct l X yX6_markBlue cX6_markBlue 2 (some .int) rm_X6_markBlue [.ref (X.1 + 0), .int x1] S (some (.int r)) S' := by
  refine r_entry (by decide) (Nat.le_of_ble_eq_true rfl) ?_
  intro p e s m args below meth c ls hc hr hw hl
  have hc : Cx p s m args meth c X cX6_markBlue 2 RX6 := hc
  have hl : lv_has ls 2 [(0, .ref (X.1 + 0)), (1, .int x1)] := hl
  have hx := hc.1
  have hb := hc.2.1
  unfold f_X6_markBlue at h
  refine lv_aload_n hx hb dX6_markBlue_0 rfl (lv_at hl 0 rfl) ?_
  refine lv_dup hx hb dX6_markBlue_1 rfl ?_
  refine r_get6 hc hw k0 13 (by decide) (v := .long (gJ S 0 13)) rfl q1_230 dX6_markBlue_2 ?_
  refine lv_ldc2 hx hb hc.2.2.2.1 (hc.2.2.2.2.1 _ q3_85) dX6_markBlue_5 ?_
  refine lv_ladd hx hb dX6_markBlue_8 ?_
  obtain ⟨S1, e2, h⟩ := nm_some h
  refine r_put6_13 hc hw k0 e2 q1_230 dX6_markBlue_9 (fun H locs hw => ?_)
  refine lv_aload_n hx hb dX6_markBlue_12 rfl (lv_at hl 0 rfl) ?_
  refine lv_iload_n hx hb dX6_markBlue_13 rfl (lv_at hl 1 rfl) ?_
  obtain ⟨r3, S4, h5, h⟩ := bd_some h
  refine r_callV6i hc hw hl.1 (As := [.int x1]) (rest := []) k0 (c_X6_markEye l X  h5) ms_X6_markEye rfl q3_71 rfl rfl ⟨rfl, rfl, Nat.le_of_ble_eq_true rfl, Nat.le_of_ble_eq_true rfl⟩ (Nat.le_of_ble_eq_true rfl) ⟨Nat.zero_le _, Nat.zero_le _⟩ dX6_markBlue_14 (fun H locs hw => ?_)
  refine lv_aload_n hx hb dX6_markBlue_17 rfl (lv_at hl 0 rfl) ?_
  refine r_get6 hc hw k0 3 (by decide) (v := .ref (X.1 + 15)) rfl q1_220 dX6_markBlue_18 ?_
  refine r_get3 hc hw k15 0 (by decide) (v := .ref (X.1 + 16)) rfl q1_154 dX6_markBlue_21 ?_
  refine r_get1 hc hw k16 2 (by decide) (v := .ref (X.1 + 19)) rfl q1_123 dX6_markBlue_24 ?_
  refine lv_iload_n hx hb dX6_markBlue_27 rfl (lv_at hl 1 rfl) ?_
  obtain ⟨b6, h⟩ := bnd_some h
  refine r_iald hc hw k19 (inL b6 l19) dX6_markBlue_28 ?_
  refine lv_iadd hx hb dX6_markBlue_29 ?_
  obtain ⟨rfl, rfl⟩ := sm_inj h
  exact r_iret hc hr hw dX6_markBlue_30
abbrev rm_X6_markSack : Room := { frames := 1, cells := 0, slots := 0, locals := 21 }
theorem ms_X6_markSack : MsV yX6_markSack cX6_markSack 2 (some .int) 1 := ⟨⟨q3_89, q1_1, by decide, by decide, by decide⟩, q3_88, qs_23⟩
set_option maxRecDepth 20000 in
theorem c_X6_markSack (l : Launch) (X : Wx) {S S' : Mm} {r : Int32} {x1 : Int32}  (h : f_X6_markSack S x1 = some (r, S')) : Ct l X yX6_markSack cX6_markSack 2 (some .int) rm_X6_markSack [.ref (X.1 + 0), .int x1] S (some (.int r)) S' := by
  refine r_entry (by decide) (Nat.le_of_ble_eq_true rfl) ?_
  intro p e s m args below meth c ls hc hr hw hl
  have hc : Cx p s m args meth c X cX6_markSack 2 RX6 := hc
  have hl : lv_has ls 2 [(0, .ref (X.1 + 0)), (1, .int x1)] := hl
  have hx := hc.1
  have hb := hc.2.1
  unfold f_X6_markSack at h
  refine lv_aload_n hx hb dX6_markSack_0 rfl (lv_at hl 0 rfl) ?_
  refine lv_dup hx hb dX6_markSack_1 rfl ?_
  refine r_get6 hc hw k0 13 (by decide) (v := .long (gJ S 0 13)) rfl q1_230 dX6_markSack_2 ?_
  refine lv_ldc2 hx hb hc.2.2.2.1 (hc.2.2.2.2.1 _ q3_90) dX6_markSack_5 ?_
  refine lv_ladd hx hb dX6_markSack_8 ?_
  obtain ⟨S1, e2, h⟩ := nm_some h
  refine r_put6_13 hc hw k0 e2 q1_230 dX6_markSack_9 (fun H locs hw => ?_)
  refine lv_aload_n hx hb dX6_markSack_12 rfl (lv_at hl 0 rfl) ?_
  refine lv_iload_n hx hb dX6_markSack_13 rfl (lv_at hl 1 rfl) ?_
  obtain ⟨r3, S4, h5, h⟩ := bd_some h
  refine r_callV6i hc hw hl.1 (As := [.int x1]) (rest := []) k0 (c_X6_markStep l X  h5) ms_X6_markStep rfl q3_62 rfl rfl ⟨rfl, rfl, Nat.le_of_ble_eq_true rfl, Nat.le_of_ble_eq_true rfl⟩ (Nat.le_of_ble_eq_true rfl) ⟨Nat.zero_le _, Nat.zero_le _⟩ dX6_markSack_14 (fun H locs hw => ?_)
  refine lv_aload_n hx hb dX6_markSack_17 rfl (lv_at hl 0 rfl) ?_
  refine r_get6 hc hw k0 3 (by decide) (v := .ref (X.1 + 15)) rfl q1_220 dX6_markSack_18 ?_
  refine r_get3 hc hw k15 0 (by decide) (v := .ref (X.1 + 16)) rfl q1_154 dX6_markSack_21 ?_
  refine r_get1 hc hw k16 4 (by decide) (v := .int (gI S4 16 4)) rfl q1_128 dX6_markSack_24 ?_
  refine lv_iadd hx hb dX6_markSack_27 ?_
  obtain ⟨rfl, rfl⟩ := sm_inj h
  exact r_iret hc hr hw dX6_markSack_28
abbrev rm_X6_mark : Room := { frames := 3, cells := 0, slots := 0, locals := 63 }
theorem ms_X6_mark : MsV yX6_mark cX6_mark 3 (some .int) 2 := ⟨⟨q3_60, q1_1, by decide, by decide, by decide⟩, q3_58, q3_59⟩
set_option maxRecDepth 20000 in
theorem c_X6_mark (l : Launch) (X : Wx) {S S' : Mm} {r : Int32} {x1 : Int32} {x2 : Int32}  (h : f_X6_mark S x1 x2 = some (r, S')) : Ct l X yX6_mark cX6_mark 3 (some .int) rm_X6_mark [.ref (X.1 + 0), .int x1, .int x2] S (some (.int r)) S' := by
  refine r_entry (by decide) (Nat.le_of_ble_eq_true rfl) ?_
  intro p e s m args below meth c ls hc hr hw hl
  have hc : Cx p s m args meth c X cX6_mark 3 RX6 := hc
  have hl : lv_has ls 3 [(0, .ref (X.1 + 0)), (1, .int x1), (2, .int x2)] := hl
  have hx := hc.1
  have hb := hc.2.1
  unfold f_X6_mark at h
  refine lv_aload_n hx hb dX6_mark_0 rfl (lv_at hl 0 rfl) ?_
  refine lv_iload_n hx hb dX6_mark_1 rfl (lv_at hl 2 rfl) ?_
  obtain ⟨r1, S2, h3, h⟩ := bd_some h
  refine r_callV6i hc hw hl.1 (As := [.int x2]) (rest := []) k0 (c_X6_isStep l X  h3) ms_X6_isStep rfl q2_94 rfl rfl ⟨rfl, rfl, Nat.le_of_ble_eq_true rfl, Nat.le_of_ble_eq_true rfl⟩ (Nat.le_of_ble_eq_true rfl) ⟨Nat.zero_le _, Nat.zero_le _⟩ dX6_mark_2 (fun H locs hw => ?_)
  refine lv_if_ne (tgt := 11) hx hb dX6_mark_5 (by decide) (fun c4 => ?_) (fun c4 => ?_)
  · have h := ifF c4 h
    refine lv_iload_n hx hb dX6_mark_11 rfl (lv_at hl 1 rfl) ?_
    by_cases c5 : x1 = 0
    · have h := ifT c5 h
      refine lv_tableIn (off := 40) (tgt := 52) hx hb dX6_mark_12 (by rw [c5]; decide) (by rw [c5]; decide) (by rw [c5]; rfl) (by decide) ?_
      refine lv_aload_n hx hb dX6_mark_52 rfl (lv_at hl 0 rfl) ?_
      refine lv_iload_n hx hb dX6_mark_53 rfl (lv_at hl 2 rfl) ?_
      obtain ⟨r6, S7, h8, h⟩ := bd_some h
      refine r_callV6i hc hw hl.1 (As := [.int x2]) (rest := []) k0 (c_X6_markStep l X  h8) ms_X6_markStep rfl q3_62 rfl rfl ⟨rfl, rfl, Nat.le_of_ble_eq_true rfl, Nat.le_of_ble_eq_true rfl⟩ (Nat.le_of_ble_eq_true rfl) ⟨Nat.zero_le _, Nat.zero_le _⟩ dX6_mark_54 (fun H locs hw => ?_)
      obtain ⟨rfl, rfl⟩ := sm_inj h
      exact r_iret hc hr hw dX6_mark_57
    · have h := ifF c5 h
      by_cases c9 : x1 = 1
      · have h := ifT c9 h
        refine lv_tableIn (off := 46) (tgt := 58) hx hb dX6_mark_12 (by rw [c9]; decide) (by rw [c9]; decide) (by rw [c9]; rfl) (by decide) ?_
        refine lv_aload_n hx hb dX6_mark_58 rfl (lv_at hl 0 rfl) ?_
        refine lv_iload_n hx hb dX6_mark_59 rfl (lv_at hl 2 rfl) ?_
        obtain ⟨r10, S11, h12, h⟩ := bd_some h
        refine r_callV6i hc hw hl.1 (As := [.int x2]) (rest := []) k0 (c_X6_markPoint l X  h12) ms_X6_markPoint rfl q3_66 rfl rfl ⟨rfl, rfl, Nat.le_of_ble_eq_true rfl, Nat.le_of_ble_eq_true rfl⟩ (Nat.le_of_ble_eq_true rfl) ⟨Nat.zero_le _, Nat.zero_le _⟩ dX6_mark_60 (fun H locs hw => ?_)
        obtain ⟨rfl, rfl⟩ := sm_inj h
        exact r_iret hc hr hw dX6_mark_63
      · have h := ifF c9 h
        by_cases c13 : x1 = 2
        · have h := ifT c13 h
          refine lv_tableIn (off := 52) (tgt := 64) hx hb dX6_mark_12 (by rw [c13]; decide) (by rw [c13]; decide) (by rw [c13]; rfl) (by decide) ?_
          refine lv_aload_n hx hb dX6_mark_64 rfl (lv_at hl 0 rfl) ?_
          refine lv_iload_n hx hb dX6_mark_65 rfl (lv_at hl 2 rfl) ?_
          obtain ⟨r14, S15, h16, h⟩ := bd_some h
          refine r_callV6i hc hw hl.1 (As := [.int x2]) (rest := []) k0 (c_X6_markEye l X  h16) ms_X6_markEye rfl q3_71 rfl rfl ⟨rfl, rfl, Nat.le_of_ble_eq_true rfl, Nat.le_of_ble_eq_true rfl⟩ (Nat.le_of_ble_eq_true rfl) ⟨Nat.zero_le _, Nat.zero_le _⟩ dX6_mark_66 (fun H locs hw => ?_)
          obtain ⟨rfl, rfl⟩ := sm_inj h
          exact r_iret hc hr hw dX6_mark_69
        · have h := ifF c13 h
          by_cases c17 : x1 = 3
          · have h := ifT c17 h
            refine lv_tableIn (off := 58) (tgt := 70) hx hb dX6_mark_12 (by rw [c17]; decide) (by rw [c17]; decide) (by rw [c17]; rfl) (by decide) ?_
            refine lv_aload_n hx hb dX6_mark_70 rfl (lv_at hl 0 rfl) ?_
            refine lv_iload_n hx hb dX6_mark_71 rfl (lv_at hl 2 rfl) ?_
            obtain ⟨r18, S19, h20, h⟩ := bd_some h
            refine r_callV6i hc hw hl.1 (As := [.int x2]) (rest := []) k0 (c_X6_markTrue l X  h20) ms_X6_markTrue rfl q3_76 rfl rfl ⟨rfl, rfl, Nat.le_of_ble_eq_true rfl, Nat.le_of_ble_eq_true rfl⟩ (Nat.le_of_ble_eq_true rfl) ⟨Nat.zero_le _, Nat.zero_le _⟩ dX6_mark_72 (fun H locs hw => ?_)
            obtain ⟨rfl, rfl⟩ := sm_inj h
            exact r_iret hc hr hw dX6_mark_75
          · have h := ifF c17 h
            by_cases c21 : x1 = 4
            · have h := ifT c21 h
              refine lv_tableIn (off := 64) (tgt := 76) hx hb dX6_mark_12 (by rw [c21]; decide) (by rw [c21]; decide) (by rw [c21]; rfl) (by decide) ?_
              refine lv_aload_n hx hb dX6_mark_76 rfl (lv_at hl 0 rfl) ?_
              refine lv_iload_n hx hb dX6_mark_77 rfl (lv_at hl 2 rfl) ?_
              obtain ⟨r22, S23, h24, h⟩ := bd_some h
              refine r_callV6i hc hw hl.1 (As := [.int x2]) (rest := []) k0 (c_X6_markBlue l X  h24) ms_X6_markBlue rfl q3_81 rfl rfl ⟨rfl, rfl, Nat.le_of_ble_eq_true rfl, Nat.le_of_ble_eq_true rfl⟩ (Nat.le_of_ble_eq_true rfl) ⟨Nat.zero_le _, Nat.zero_le _⟩ dX6_mark_78 (fun H locs hw => ?_)
              obtain ⟨rfl, rfl⟩ := sm_inj h
              exact r_iret hc hr hw dX6_mark_81
            · have h := ifF c21 h
              by_cases c25 : x1 = 5
              · have h := ifT c25 h
                refine lv_tableIn (off := 70) (tgt := 82) hx hb dX6_mark_12 (by rw [c25]; decide) (by rw [c25]; decide) (by rw [c25]; rfl) (by decide) ?_
                refine lv_aload_n hx hb dX6_mark_82 rfl (lv_at hl 0 rfl) ?_
                refine lv_iload_n hx hb dX6_mark_83 rfl (lv_at hl 2 rfl) ?_
                obtain ⟨r26, S27, h28, h⟩ := bd_some h
                refine r_callV6i hc hw hl.1 (As := [.int x2]) (rest := []) k0 (c_X6_markSack l X  h28) ms_X6_markSack rfl q3_86 rfl rfl ⟨rfl, rfl, Nat.le_of_ble_eq_true rfl, Nat.le_of_ble_eq_true rfl⟩ (Nat.le_of_ble_eq_true rfl) ⟨Nat.zero_le _, Nat.zero_le _⟩ dX6_mark_84 (fun H locs hw => ?_)
                obtain ⟨rfl, rfl⟩ := sm_inj h
                exact r_iret hc hr hw dX6_mark_87
              · have h := ifF c25 h
                refine lv_tableOut (tgt := 88) hx hb dX6_mark_12 (by have := lv_neT c5 (a := 0) (by decide); have := lv_neT c9 (a := 1) (by decide); have := lv_neT c13 (a := 2) (by decide); have := lv_neT c17 (a := 3) (by decide); have := lv_neT c21 (a := 4) (by decide); have := lv_neT c25 (a := 5) (by decide); omega) (by decide) ?_
                refine lv_ldc hx hb hc.2.2.2.1 (hc.2.2.2.2.1 _ q3_61) dX6_mark_88 ?_
                obtain ⟨rfl, rfl⟩ := sm_inj h
                exact r_iret hc hr hw dX6_mark_90
  · have h := ifT c4 h
    refine lv_ldc hx hb hc.2.2.2.1 (hc.2.2.2.2.1 _ q3_61) dX6_mark_8 ?_
    obtain ⟨rfl, rfl⟩ := sm_inj h
    exact r_iret hc hr hw dX6_mark_10
abbrev rm_X6_mean : Room := { frames := 3, cells := 0, slots := 0, locals := 69 }
theorem ms_X6_mean : MsV yX6_mean cX6_mean 3 (some .long) 2 := ⟨⟨q2_188, q1_1, by decide, by decide, by decide⟩, q2_186, q2_187⟩
set_option maxRecDepth 20000 in
theorem c_X6_mean (l : Launch) (X : Wx) {S S' : Mm} {r : Int64} {x1 : Int32} {x2 : Int32}  (h : f_X6_mean S x1 x2 = some (r, S')) : Ct l X yX6_mean cX6_mean 3 (some .long) rm_X6_mean [.ref (X.1 + 0), .int x1, .int x2] S (some (.long r)) S' := by
  refine r_entry (by decide) (Nat.le_of_ble_eq_true rfl) ?_
  intro p e s m args below meth c ls hc hr hw hl
  have hc : Cx p s m args meth c X cX6_mean 3 RX6 := hc
  have hl : lv_has ls 3 [(0, .ref (X.1 + 0)), (1, .int x1), (2, .int x2)] := hl
  have hx := hc.1
  have hb := hc.2.1
  unfold f_X6_mean at h
  refine lv_iload_n hx hb dX6_mean_0 rfl (lv_at hl 1 rfl) ?_
  refine lv_if_lt (tgt := 16) hx hb dX6_mean_1 (by decide) (fun c1 => ?_) (fun c1 => ?_)
  · have h := ifT c1 h
    refine lv_ldc2 hx hb hc.2.2.2.1 (hc.2.2.2.2.1 _ q2_189) dX6_mean_16 ?_
    obtain ⟨rfl, rfl⟩ := sm_inj h
    exact r_lret hc hr hw dX6_mean_19
  · have h := ifF c1 h
    refine lv_iload_n hx hb dX6_mean_4 rfl (lv_at hl 1 rfl) ?_
    refine lv_iconst (v := 3) hx hb dX6_mean_5 (by decide) ?_
    refine lv_icmp_gt (tgt := 16) hx hb dX6_mean_6 (by decide) (fun c2 => ?_) (fun c2 => ?_)
    · have h := ifT c2 h
      refine lv_ldc2 hx hb hc.2.2.2.1 (hc.2.2.2.2.1 _ q2_189) dX6_mean_16 ?_
      obtain ⟨rfl, rfl⟩ := sm_inj h
      exact r_lret hc hr hw dX6_mean_19
    · have h := ifF c2 h
      refine lv_iload_n hx hb dX6_mean_9 rfl (lv_at hl 2 rfl) ?_
      obtain ⟨r3, S4, h5, h⟩ := bd_some h
      refine r_callSi hc hw hl.1 (As := [.int x2]) (rest := []) (c_X6_isBit l X  h5) ms_X6_isBit q2_152 rfl rfl ⟨rfl, rfl, Nat.le_of_ble_eq_true rfl, Nat.le_of_ble_eq_true rfl⟩ (Nat.le_of_ble_eq_true rfl) ⟨Nat.zero_le _, Nat.zero_le _⟩ dX6_mean_10 (fun H locs hw => ?_)
      refine lv_if_ne (tgt := 20) hx hb dX6_mean_13 (by decide) (fun c6 => ?_) (fun c6 => ?_)
      · have h := ifF c6 h
        refine lv_aload_n hx hb dX6_mean_20 rfl (lv_at hl 0 rfl) ?_
        obtain ⟨r7, S8, h9, h⟩ := bd_some h
        refine r_callV6v hc hw hl.1 (As := []) (rest := []) k0 (c_X6_flowNow l X  h9) ms_X6_flowNow rfl q2_190 rfl rfl ⟨rfl, rfl, Nat.le_of_ble_eq_true rfl, Nat.le_of_ble_eq_true rfl⟩ (Nat.le_of_ble_eq_true rfl) ⟨Nat.zero_le _, Nat.zero_le _⟩ dX6_mean_21 (fun H locs hw => ?_)
        refine lv_iload_n hx hb dX6_mean_24 rfl (lv_at hl 1 rfl) ?_
        by_cases c10 : x1 = 0
        · have h := ifT c10 h
          refine lv_tableIn (off := 27) (tgt := 52) hx hb dX6_mean_25 (by rw [c10]; decide) (by rw [c10]; decide) (by rw [c10]; rfl) (by decide) ?_
          refine lv_aload_n hx hb dX6_mean_52 rfl (lv_at hl 0 rfl) ?_
          refine r_get6 hc hw k0 10 (by decide) (v := .ref (X.1 + 158)) rfl q1_227 dX6_mean_53 ?_
          refine r_get0 hc hw k158 2 (by decide) (v := .long (gJ S8 158 2)) rfl q1_200 dX6_mean_56 ?_
          refine lv_ldc2 hx hb hc.2.2.2.1 (hc.2.2.2.2.1 _ q2_212) dX6_mean_59 ?_
          refine lv_iload_n hx hb dX6_mean_62 rfl (lv_at hl 2 rfl) ?_
          obtain ⟨r11, S12, h13, h⟩ := bd_some h
          refine r_callSl hc hw hl.1 (As := [.long (gJ S8 158 2), .long 10000000000, .int x2]) (rest := []) (c_X6_part l X  h13) ms_X6_part q2_213 rfl rfl ⟨rfl, rfl, Nat.le_of_ble_eq_true rfl, Nat.le_of_ble_eq_true rfl⟩ (Nat.le_of_ble_eq_true rfl) ⟨Nat.zero_le _, Nat.zero_le _⟩ dX6_mean_63 (fun H locs hw => ?_)
          obtain ⟨rfl, rfl⟩ := sm_inj h
          exact r_lret hc hr hw dX6_mean_66
        · have h := ifF c10 h
          by_cases c14 : x1 = 1
          · have h := ifT c14 h
            refine lv_tableIn (off := 42) (tgt := 67) hx hb dX6_mean_25 (by rw [c14]; decide) (by rw [c14]; decide) (by rw [c14]; rfl) (by decide) ?_
            refine lv_aload_n hx hb dX6_mean_67 rfl (lv_at hl 0 rfl) ?_
            refine r_get6 hc hw k0 10 (by decide) (v := .ref (X.1 + 158)) rfl q1_227 dX6_mean_68 ?_
            refine r_get0 hc hw k158 0 (by decide) (v := .long (gJ S8 158 0)) rfl q1_196 dX6_mean_71 ?_
            refine lv_ldc2 hx hb hc.2.2.2.1 (hc.2.2.2.2.1 _ q2_212) dX6_mean_74 ?_
            refine lv_iload_n hx hb dX6_mean_77 rfl (lv_at hl 2 rfl) ?_
            obtain ⟨r15, S16, h17, h⟩ := bd_some h
            refine r_callSl hc hw hl.1 (As := [.long (gJ S8 158 0), .long 10000000000, .int x2]) (rest := []) (c_X6_part l X  h17) ms_X6_part q2_213 rfl rfl ⟨rfl, rfl, Nat.le_of_ble_eq_true rfl, Nat.le_of_ble_eq_true rfl⟩ (Nat.le_of_ble_eq_true rfl) ⟨Nat.zero_le _, Nat.zero_le _⟩ dX6_mean_78 (fun H locs hw => ?_)
            obtain ⟨rfl, rfl⟩ := sm_inj h
            exact r_lret hc hr hw dX6_mean_81
          · have h := ifF c14 h
            by_cases c18 : x1 = 2
            · have h := ifT c18 h
              refine lv_tableIn (off := 57) (tgt := 82) hx hb dX6_mean_25 (by rw [c18]; decide) (by rw [c18]; decide) (by rw [c18]; rfl) (by decide) ?_
              refine lv_aload_n hx hb dX6_mean_82 rfl (lv_at hl 0 rfl) ?_
              refine r_get6 hc hw k0 10 (by decide) (v := .ref (X.1 + 158)) rfl q1_227 dX6_mean_83 ?_
              refine r_get0 hc hw k158 1 (by decide) (v := .long (gJ S8 158 1)) rfl q1_198 dX6_mean_86 ?_
              refine lv_ldc2 hx hb hc.2.2.2.1 (hc.2.2.2.2.1 _ q2_212) dX6_mean_89 ?_
              refine lv_iload_n hx hb dX6_mean_92 rfl (lv_at hl 2 rfl) ?_
              obtain ⟨r19, S20, h21, h⟩ := bd_some h
              refine r_callSl hc hw hl.1 (As := [.long (gJ S8 158 1), .long 10000000000, .int x2]) (rest := []) (c_X6_part l X  h21) ms_X6_part q2_213 rfl rfl ⟨rfl, rfl, Nat.le_of_ble_eq_true rfl, Nat.le_of_ble_eq_true rfl⟩ (Nat.le_of_ble_eq_true rfl) ⟨Nat.zero_le _, Nat.zero_le _⟩ dX6_mean_93 (fun H locs hw => ?_)
              obtain ⟨rfl, rfl⟩ := sm_inj h
              exact r_lret hc hr hw dX6_mean_96
            · have h := ifF c18 h
              refine lv_tableOut (tgt := 97) hx hb dX6_mean_25 (by have := lv_neT c10 (a := 0) (by decide); have := lv_neT c14 (a := 1) (by decide); have := lv_neT c18 (a := 2) (by decide); omega) (by decide) ?_
              refine lv_aload_n hx hb dX6_mean_97 rfl (lv_at hl 0 rfl) ?_
              refine r_get6 hc hw k0 10 (by decide) (v := .ref (X.1 + 158)) rfl q1_227 dX6_mean_98 ?_
              refine r_get0 hc hw k158 2 (by decide) (v := .long (gJ S8 158 2)) rfl q1_200 dX6_mean_101 ?_
              refine lv_aload_n hx hb dX6_mean_104 rfl (lv_at hl 0 rfl) ?_
              refine r_get6 hc hw k0 10 (by decide) (v := .ref (X.1 + 158)) rfl q1_227 dX6_mean_105 ?_
              refine r_get0 hc hw k158 0 (by decide) (v := .long (gJ S8 158 0)) rfl q1_196 dX6_mean_108 ?_
              refine lv_iload_n hx hb dX6_mean_111 rfl (lv_at hl 2 rfl) ?_
              obtain ⟨r22, S23, h24, h⟩ := bd_some h
              refine r_callSl hc hw hl.1 (As := [.long (gJ S8 158 2), .long (gJ S8 158 0), .int x2]) (rest := []) (c_X6_part l X  h24) ms_X6_part q2_213 rfl rfl ⟨rfl, rfl, Nat.le_of_ble_eq_true rfl, Nat.le_of_ble_eq_true rfl⟩ (Nat.le_of_ble_eq_true rfl) ⟨Nat.zero_le _, Nat.zero_le _⟩ dX6_mean_112 (fun H locs hw => ?_)
              obtain ⟨rfl, rfl⟩ := sm_inj h
              exact r_lret hc hr hw dX6_mean_115
      · have h := ifT c6 h
        refine lv_ldc2 hx hb hc.2.2.2.1 (hc.2.2.2.2.1 _ q2_189) dX6_mean_16 ?_
        obtain ⟨rfl, rfl⟩ := sm_inj h
        exact r_lret hc hr hw dX6_mean_19
abbrev rm_X6_moves : Room := { frames := 3, cells := 0, slots := 0, locals := 81 }
theorem ms_X6_moves : MsV yX6_moves cX6_moves 4 (some .int) 1 := ⟨⟨q2_168, q1_1, by decide, by decide, by decide⟩, q2_166, q2_167⟩
set_option maxRecDepth 20000 in
theorem c_X6_moves (l : Launch) (X : Wx) {S S' : Mm} {r : Int32} {x1 : Int32}  (h : f_X6_moves S x1 = some (r, S')) : Ct l X yX6_moves cX6_moves 4 (some .int) rm_X6_moves [.ref (X.1 + 0), .int x1] S (some (.int r)) S' := by
  refine r_entry (by decide) (Nat.le_of_ble_eq_true rfl) ?_
  intro p e s m args below meth c ls hc hr hw hl
  have hc : Cx p s m args meth c X cX6_moves 4 RX6 := hc
  have hl : lv_has ls 4 [(0, .ref (X.1 + 0)), (1, .int x1)] := hl
  have hx := hc.1
  have hb := hc.2.1
  unfold f_X6_moves at h
  refine lv_iload_n hx hb dX6_moves_0 rfl (lv_at hl 1 rfl) ?_
  refine lv_if_eq (tgt := 12) hx hb dX6_moves_1 (by decide) (fun c1 => ?_) (fun c1 => ?_)
  · have h := ifT c1 h
    refine lv_iconst (v := (-1)) hx hb dX6_moves_12 (by decide) ?_
    obtain ⟨rfl, rfl⟩ := sm_inj h
    exact r_iret hc hr hw dX6_moves_13
  · have h := ifF c1 h
    refine lv_aload_n hx hb dX6_moves_4 rfl (lv_at hl 0 rfl) ?_
    refine lv_iload_n hx hb dX6_moves_5 rfl (lv_at hl 1 rfl) ?_
    obtain ⟨r2, S3, h4, h⟩ := bd_some h
    refine r_callV6i hc hw hl.1 (As := [.int x1]) (rest := []) k0 (c_X6_isStep l X  h4) ms_X6_isStep rfl q2_94 rfl rfl ⟨rfl, rfl, Nat.le_of_ble_eq_true rfl, Nat.le_of_ble_eq_true rfl⟩ (Nat.le_of_ble_eq_true rfl) ⟨Nat.zero_le _, Nat.zero_le _⟩ dX6_moves_6 (fun H locs hw => ?_)
    refine lv_if_ne (tgt := 14) hx hb dX6_moves_9 (by decide) (fun c5 => ?_) (fun c5 => ?_)
    · have h := ifF c5 h
      refine lv_aload_n hx hb dX6_moves_14 rfl (lv_at hl 0 rfl) ?_
      refine r_get6 hc hw k0 3 (by decide) (v := .ref (X.1 + 15)) rfl q1_220 dX6_moves_15 ?_
      refine r_get3 hc hw k15 0 (by decide) (v := .ref (X.1 + 16)) rfl q1_154 dX6_moves_18 ?_
      refine r_get1 hc hw k16 0 (by decide) (v := .ref (X.1 + 17)) rfl q1_117 dX6_moves_21 ?_
      refine lv_astore_n (lv' := [(2, .ref (X.1 + 17)), (0, .ref (X.1 + 0)), (1, .int x1)]) hx hb dX6_moves_24 rfl hl (by decide) rfl (fun ls hl => ?_)
      refine lv_aload_n hx hb dX6_moves_25 rfl (lv_at hl 0 rfl) ?_
      refine lv_iload_n hx hb dX6_moves_26 rfl (lv_at hl 2 rfl) ?_
      refine lv_iconst (v := 1) hx hb dX6_moves_27 (by decide) ?_
      refine lv_isub hx hb dX6_moves_28 ?_
      obtain ⟨b6, h⟩ := bnd_some h
      refine r_iald hc hw k17 (inL b6 l17) dX6_moves_29 ?_
      obtain ⟨v7, e8, h⟩ := nm_some h
      refine r_top e8 ?_
      refine lv_istore_n (lv' := [(3, .int v7), (2, .ref (X.1 + 17)), (0, .ref (X.1 + 0)), (1, .int x1)]) hx hb dX6_moves_30 rfl hl (by decide) rfl (fun ls hl => ?_)
      refine lv_aload_n hx hb dX6_moves_31 rfl (lv_at hl 2 rfl) ?_
      refine r_get6 hc hw k0 1 (by decide) (v := .ref (X.1 + (pl S3))) rfl q1_218 dX6_moves_32 ?_
      have kq9 := hw.2.2.1
      refine lv_iload_n hx hb dX6_moves_35 rfl (lv_at hl 0 rfl) ?_
      refine lv_aload_n hx hb dX6_moves_36 rfl (lv_at hl 1 rfl) ?_
      refine lv_iload_n hx hb dX6_moves_37 rfl (lv_at hl 3 rfl) ?_
      obtain ⟨b10, h⟩ := bnd_some h
      refine r_iald hc hw k17 (inL b10 l17) dX6_moves_38 ?_
      obtain ⟨r11, S12, h13, h⟩ := bd_some h
      refine r_callV4i hc hw hl.1 (As := [.int v7, .int (gI S3 17 x1.toNatClampNeg)]) (rest := []) kq9 (c_X4_mustLead l X kq9 h13) ms_X4_mustLead rfl q2_169 rfl rfl ⟨rfl, rfl, Nat.le_of_ble_eq_true rfl, Nat.le_of_ble_eq_true rfl⟩ (Nat.le_of_ble_eq_true rfl) ⟨Nat.zero_le _, Nat.zero_le _⟩ dX6_moves_39 (fun H locs hw => ?_)
      refine lv_if_eq (tgt := 48) hx hb dX6_moves_42 (by decide) (fun c14 => ?_) (fun c14 => ?_)
      · have h := ifT c14 h
        refine lv_aload_n hx hb dX6_moves_48 rfl (lv_at hl 2 rfl) ?_
        refine r_get6 hc hw k0 3 (by decide) (v := .ref (X.1 + 15)) rfl q1_220 dX6_moves_49 ?_
        obtain ⟨r15, S16, h17, h⟩ := bd_some h
        refine r_callV3v hc hw hl.1 (As := []) (rest := []) k15 (c_X3_remember l X k15 h17) ms_X3_remember rfl q2_113 rfl rfl ⟨rfl, rfl, Nat.le_of_ble_eq_true rfl, Nat.le_of_ble_eq_true rfl⟩ (Nat.le_of_ble_eq_true rfl) ⟨Nat.zero_le _, Nat.zero_le _⟩ dX6_moves_52 (fun H locs hw => ?_)
        refine lv_aload_n hx hb dX6_moves_55 rfl (lv_at hl 1 rfl) ?_
        refine lv_iload_n hx hb dX6_moves_56 rfl (lv_at hl 3 rfl) ?_
        refine lv_iconst (v := 1) hx hb dX6_moves_57 (by decide) ?_
        refine lv_isub hx hb dX6_moves_58 ?_
        refine lv_aload_n hx hb dX6_moves_59 rfl (lv_at hl 1 rfl) ?_
        refine lv_iload_n hx hb dX6_moves_60 rfl (lv_at hl 3 rfl) ?_
        obtain ⟨b18, h⟩ := bnd_some h
        refine r_iald hc hw k17 (inL b18 l17) dX6_moves_61 ?_
        obtain ⟨b19, h⟩ := bnd_some h
        obtain ⟨S20, e21, h⟩ := nm_some h
        refine r_iast hc hw k17 (inL b19 l17) e21 dX6_moves_62 (fun H locs hw => ?_)
        refine lv_aload_n hx hb dX6_moves_63 rfl (lv_at hl 1 rfl) ?_
        refine lv_iload_n hx hb dX6_moves_64 rfl (lv_at hl 3 rfl) ?_
        refine lv_iload_n hx hb dX6_moves_65 rfl (lv_at hl 0 rfl) ?_
        obtain ⟨b22, h⟩ := bnd_some h
        obtain ⟨S23, e24, h⟩ := nm_some h
        refine r_iast hc hw k17 (inL b22 l17) e24 dX6_moves_66 (fun H locs hw => ?_)
        refine lv_iload_n hx hb dX6_moves_67 rfl (lv_at hl 0 rfl) ?_
        obtain ⟨rfl, rfl⟩ := sm_inj h
        exact r_iret hc hr hw dX6_moves_68
      · have h := ifF c14 h
        refine lv_bipush (v := (-2)) hx hb dX6_moves_45 (by decide) ?_
        obtain ⟨rfl, rfl⟩ := sm_inj h
        exact r_iret hc hr hw dX6_moves_47
    · have h := ifT c5 h
      refine lv_iconst (v := (-1)) hx hb dX6_moves_12 (by decide) ?_
      obtain ⟨rfl, rfl⟩ := sm_inj h
      exact r_iret hc hr hw dX6_moves_13
abbrev rm_X6_now : Room := { frames := 0, cells := 0, slots := 0, locals := 0 }
theorem ms_X6_now : MsV yX6_now cX6_now 3 (some .int) 1 := ⟨⟨q2_184, q1_1, by decide, by decide, by decide⟩, q2_182, q2_183⟩
set_option maxRecDepth 20000 in
theorem c_X6_now (l : Launch) (X : Wx) {S S' : Mm} {r : Int32} {x1 : Int32}  (h : f_X6_now S x1 = some (r, S')) : Ct l X yX6_now cX6_now 3 (some .int) rm_X6_now [.ref (X.1 + 0), .int x1] S (some (.int r)) S' := by
  refine r_entry (by decide) (Nat.le_of_ble_eq_true rfl) ?_
  intro p e s m args below meth c ls hc hr hw hl
  have hc : Cx p s m args meth c X cX6_now 3 RX6 := hc
  have hl : lv_has ls 3 [(0, .ref (X.1 + 0)), (1, .int x1)] := hl
  have hx := hc.1
  have hb := hc.2.1
  unfold f_X6_now at h
  refine lv_aload_n hx hb dX6_now_0 rfl (lv_at hl 0 rfl) ?_
  refine r_get6 hc hw k0 3 (by decide) (v := .ref (X.1 + 15)) rfl q1_220 dX6_now_1 ?_
  refine r_get3 hc hw k15 0 (by decide) (v := .ref (X.1 + 16)) rfl q1_154 dX6_now_4 ?_
  refine lv_astore_n (lv' := [(2, .ref (X.1 + 16)), (0, .ref (X.1 + 0)), (1, .int x1)]) hx hb dX6_now_7 rfl hl (by decide) rfl (fun ls hl => ?_)
  refine lv_iload_n hx hb dX6_now_8 rfl (lv_at hl 2 rfl) ?_
  by_cases c1 : x1 = 0
  · have h := ifT c1 h
    refine lv_tableIn (off := 39) (tgt := 48) hx hb dX6_now_9 (by rw [c1]; decide) (by rw [c1]; decide) (by rw [c1]; rfl) (by decide) ?_
    refine lv_aload_n hx hb dX6_now_48 rfl (lv_at hl 0 rfl) ?_
    refine r_get1 hc hw k16 4 (by decide) (v := .int (gI S 16 4)) rfl q1_128 dX6_now_49 ?_
    obtain ⟨rfl, rfl⟩ := sm_inj h
    exact r_iret hc hr hw dX6_now_52
  · have h := ifF c1 h
    by_cases c2 : x1 = 1
    · have h := ifT c2 h
      refine lv_tableIn (off := 44) (tgt := 53) hx hb dX6_now_9 (by rw [c2]; decide) (by rw [c2]; decide) (by rw [c2]; rfl) (by decide) ?_
      refine lv_aload_n hx hb dX6_now_53 rfl (lv_at hl 0 rfl) ?_
      refine r_get1 hc hw k16 5 (by decide) (v := .int (gI S 16 5)) rfl q1_130 dX6_now_54 ?_
      obtain ⟨rfl, rfl⟩ := sm_inj h
      exact r_iret hc hr hw dX6_now_57
    · have h := ifF c2 h
      by_cases c3 : x1 = 2
      · have h := ifT c3 h
        refine lv_tableIn (off := 49) (tgt := 58) hx hb dX6_now_9 (by rw [c3]; decide) (by rw [c3]; decide) (by rw [c3]; rfl) (by decide) ?_
        refine lv_aload_n hx hb dX6_now_58 rfl (lv_at hl 0 rfl) ?_
        refine r_get1 hc hw k16 6 (by decide) (v := .int (gI S 16 6)) rfl q1_132 dX6_now_59 ?_
        obtain ⟨rfl, rfl⟩ := sm_inj h
        exact r_iret hc hr hw dX6_now_62
      · have h := ifF c3 h
        by_cases c4 : x1 = 3
        · have h := ifT c4 h
          refine lv_tableIn (off := 54) (tgt := 63) hx hb dX6_now_9 (by rw [c4]; decide) (by rw [c4]; decide) (by rw [c4]; rfl) (by decide) ?_
          refine lv_aload_n hx hb dX6_now_63 rfl (lv_at hl 0 rfl) ?_
          refine r_get1 hc hw k16 4 (by decide) (v := .int (gI S 16 4)) rfl q1_128 dX6_now_64 ?_
          refine lv_aload_n hx hb dX6_now_67 rfl (lv_at hl 0 rfl) ?_
          refine r_get1 hc hw k16 5 (by decide) (v := .int (gI S 16 5)) rfl q1_130 dX6_now_68 ?_
          refine lv_isub hx hb dX6_now_71 ?_
          obtain ⟨rfl, rfl⟩ := sm_inj h
          exact r_iret hc hr hw dX6_now_72
        · have h := ifF c4 h
          by_cases c5 : x1 = 4
          · have h := ifT c5 h
            refine lv_tableIn (off := 64) (tgt := 73) hx hb dX6_now_9 (by rw [c5]; decide) (by rw [c5]; decide) (by rw [c5]; rfl) (by decide) ?_
            refine lv_aload_n hx hb dX6_now_73 rfl (lv_at hl 0 rfl) ?_
            refine r_get1 hc hw k16 7 (by decide) (v := .int (gI S 16 7)) rfl q1_134 dX6_now_74 ?_
            obtain ⟨rfl, rfl⟩ := sm_inj h
            exact r_iret hc hr hw dX6_now_77
          · have h := ifF c5 h
            by_cases c6 : x1 = 5
            · have h := ifT c6 h
              refine lv_tableIn (off := 69) (tgt := 78) hx hb dX6_now_9 (by rw [c6]; decide) (by rw [c6]; decide) (by rw [c6]; rfl) (by decide) ?_
              refine lv_aload_n hx hb dX6_now_78 rfl (lv_at hl 0 rfl) ?_
              refine r_get1 hc hw k16 3 (by decide) (v := .int (gI S 16 3)) rfl q1_126 dX6_now_79 ?_
              obtain ⟨rfl, rfl⟩ := sm_inj h
              exact r_iret hc hr hw dX6_now_82
            · have h := ifF c6 h
              refine lv_tableOut (tgt := 83) hx hb dX6_now_9 (by have := lv_neT c1 (a := 0) (by decide); have := lv_neT c2 (a := 1) (by decide); have := lv_neT c3 (a := 2) (by decide); have := lv_neT c4 (a := 3) (by decide); have := lv_neT c5 (a := 4) (by decide); have := lv_neT c6 (a := 5) (by decide); omega) (by decide) ?_
              refine lv_iconst (v := (-1)) hx hb dX6_now_83 (by decide) ?_
              obtain ⟨rfl, rfl⟩ := sm_inj h
              exact r_iret hc hr hw dX6_now_84
abbrev rm_X6_paper : Room := { frames := 3, cells := 0, slots := 0, locals := 69 }
theorem ms_X6_paper : MsV yX6_paper cX6_paper 3 (some .long) 2 := ⟨⟨q2_227, q1_1, by decide, by decide, by decide⟩, q2_225, q2_226⟩
set_option maxRecDepth 20000 in
theorem c_X6_paper (l : Launch) (X : Wx) {S S' : Mm} {r : Int64} {x1 : Int32} {x2 : Int32}  (h : f_X6_paper S x1 x2 = some (r, S')) : Ct l X yX6_paper cX6_paper 3 (some .long) rm_X6_paper [.ref (X.1 + 0), .int x1, .int x2] S (some (.long r)) S' := by
  refine r_entry (by decide) (Nat.le_of_ble_eq_true rfl) ?_
  intro p e s m args below meth c ls hc hr hw hl
  have hc : Cx p s m args meth c X cX6_paper 3 RX6 := hc
  have hl : lv_has ls 3 [(0, .ref (X.1 + 0)), (1, .int x1), (2, .int x2)] := hl
  have hx := hc.1
  have hb := hc.2.1
  unfold f_X6_paper at h
  refine lv_iload_n hx hb dX6_paper_0 rfl (lv_at hl 1 rfl) ?_
  refine lv_iconst (v := 1) hx hb dX6_paper_1 (by decide) ?_
  refine lv_icmp_lt (tgt := 18) hx hb dX6_paper_2 (by decide) (fun c1 => ?_) (fun c1 => ?_)
  · have h := ifT c1 h
    refine lv_ldc2 hx hb hc.2.2.2.1 (hc.2.2.2.2.1 _ q2_189) dX6_paper_18 ?_
    obtain ⟨rfl, rfl⟩ := sm_inj h
    exact r_lret hc hr hw dX6_paper_21
  · have h := ifF c1 h
    refine lv_iload_n hx hb dX6_paper_5 rfl (lv_at hl 1 rfl) ?_
    refine lv_bipush (v := 99) hx hb dX6_paper_6 (by decide) ?_
    refine lv_icmp_gt (tgt := 18) hx hb dX6_paper_8 (by decide) (fun c2 => ?_) (fun c2 => ?_)
    · have h := ifT c2 h
      refine lv_ldc2 hx hb hc.2.2.2.1 (hc.2.2.2.2.1 _ q2_189) dX6_paper_18 ?_
      obtain ⟨rfl, rfl⟩ := sm_inj h
      exact r_lret hc hr hw dX6_paper_21
    · have h := ifF c2 h
      refine lv_iload_n hx hb dX6_paper_11 rfl (lv_at hl 2 rfl) ?_
      obtain ⟨r3, S4, h5, h⟩ := bd_some h
      refine r_callSi hc hw hl.1 (As := [.int x2]) (rest := []) (c_X6_isBit l X  h5) ms_X6_isBit q2_152 rfl rfl ⟨rfl, rfl, Nat.le_of_ble_eq_true rfl, Nat.le_of_ble_eq_true rfl⟩ (Nat.le_of_ble_eq_true rfl) ⟨Nat.zero_le _, Nat.zero_le _⟩ dX6_paper_12 (fun H locs hw => ?_)
      refine lv_if_ne (tgt := 22) hx hb dX6_paper_15 (by decide) (fun c6 => ?_) (fun c6 => ?_)
      · have h := ifF c6 h
        refine lv_aload_n hx hb dX6_paper_22 rfl (lv_at hl 0 rfl) ?_
        obtain ⟨r7, S8, h9, h⟩ := bd_some h
        refine r_callV6v hc hw hl.1 (As := []) (rest := []) k0 (c_X6_flowNow l X  h9) ms_X6_flowNow rfl q2_190 rfl rfl ⟨rfl, rfl, Nat.le_of_ble_eq_true rfl, Nat.le_of_ble_eq_true rfl⟩ (Nat.le_of_ble_eq_true rfl) ⟨Nat.zero_le _, Nat.zero_le _⟩ dX6_paper_23 (fun H locs hw => ?_)
        refine lv_aload_n hx hb dX6_paper_26 rfl (lv_at hl 0 rfl) ?_
        refine r_get6 hc hw k0 10 (by decide) (v := .ref (X.1 + 158)) rfl q1_227 dX6_paper_27 ?_
        refine r_get0 hc hw k158 1 (by decide) (v := .long (gJ S8 158 1)) rfl q1_198 dX6_paper_30 ?_
        refine lv_iload_n hx hb dX6_paper_33 rfl (lv_at hl 1 rfl) ?_
        refine lv_i2l hx hb dX6_paper_34 rfl ?_
        refine lv_lmul hx hb dX6_paper_35 ?_
        refine lv_aload_n hx hb dX6_paper_36 rfl (lv_at hl 0 rfl) ?_
        refine r_get6 hc hw k0 10 (by decide) (v := .ref (X.1 + 158)) rfl q1_227 dX6_paper_37 ?_
        refine r_get0 hc hw k158 0 (by decide) (v := .long (gJ S8 158 0)) rfl q1_196 dX6_paper_40 ?_
        refine lv_aload_n hx hb dX6_paper_43 rfl (lv_at hl 0 rfl) ?_
        refine r_get6 hc hw k0 10 (by decide) (v := .ref (X.1 + 158)) rfl q1_227 dX6_paper_44 ?_
        refine r_get0 hc hw k158 1 (by decide) (v := .long (gJ S8 158 1)) rfl q1_198 dX6_paper_47 ?_
        refine lv_ladd hx hb dX6_paper_50 ?_
        refine lv_iload_n hx hb dX6_paper_51 rfl (lv_at hl 2 rfl) ?_
        obtain ⟨r10, S11, h12, h⟩ := bd_some h
        refine r_callSl hc hw hl.1 (As := [.long ((gJ S8 158 1) * x1.toInt64), .long ((gJ S8 158 0) + (gJ S8 158 1)), .int x2]) (rest := []) (c_X6_part l X  h12) ms_X6_part q2_213 rfl rfl ⟨rfl, rfl, Nat.le_of_ble_eq_true rfl, Nat.le_of_ble_eq_true rfl⟩ (Nat.le_of_ble_eq_true rfl) ⟨Nat.zero_le _, Nat.zero_le _⟩ dX6_paper_52 (fun H locs hw => ?_)
        obtain ⟨rfl, rfl⟩ := sm_inj h
        exact r_lret hc hr hw dX6_paper_55
      · have h := ifT c6 h
        refine lv_ldc2 hx hb hc.2.2.2.1 (hc.2.2.2.2.1 _ q2_189) dX6_paper_18 ?_
        obtain ⟨rfl, rfl⟩ := sm_inj h
        exact r_lret hc hr hw dX6_paper_21
abbrev rm_X6_shop : Room := { frames := 6, cells := 0, slots := 0, locals := 129 }
theorem ms_X6_shop : MsV yX6_shop cX6_shop 4 (some .int) 0 := ⟨⟨q2_35, q1_1, by decide, by decide, by decide⟩, q2_33, q2_34⟩
set_option maxRecDepth 20000 in
theorem w_X6_shop_78 {p : Program} {l : Launch} {e : Env} {s : State} {m : MethodId} {args : Array Value} {below : List Frame} {meth : Method} {c : Code} {X : Wx} {r : Int32} {S' : Mm} (hc : Cx p s m args meth c X cX6_shop 4 RX6) (hr : meth.sig.returnType = (some .int))   : ∀ (n : Nat), ∀ (x1 : Int32) (x3 : Int32) (S : Mm) (H : Heap) (locs : List Loc) (ls : Array Slot), Wd X s.heap S H locs → lv_has ls 4 [(0, .ref (X.1 + 0)), (1, .int x1), (3, .int x3)] → f_X6_shop_78 n x1 x3 S = some (r, S') → W p l e rm_X6_shop s m args below meth c H locs 0 0 (MQ below (Qq X (some (.int r)) S') args s 0 0 (AA X.1)) (F0 m 78 ls []) := by
  have hx := hc.1
  have hb := hc.2.1
  intro n
  induction n with
  | zero => intro x1 x3 S H locs ls hw hl h; cases h
  | succ n ih =>
    intro x1 x3 S H locs ls hw hl h
    rw [f_X6_shop_78] at h
    refine lv_iload_n hx hb dX6_shop_78 rfl (lv_at hl 2 rfl) ?_
    refine lv_iconst (v := 2) hx hb dX6_shop_79 (by decide) ?_
    refine lv_icmp_ge (tgt := 96) hx hb dX6_shop_80 (by decide) (fun c1 => ?_) (fun c1 => ?_)
    · have h := ifT c1 h
      refine lv_iload_n hx hb dX6_shop_96 rfl (lv_at hl 1 rfl) ?_
      obtain ⟨rfl, rfl⟩ := sm_inj h
      exact r_iret hc hr hw dX6_shop_97
    · have h := ifF c1 h
      refine lv_aload_n hx hb dX6_shop_83 rfl (lv_at hl 0 rfl) ?_
      refine r_get6 hc hw k0 5 (by decide) (v := .ref (X.1 + 154)) rfl q1_222 dX6_shop_84 ?_
      refine lv_iload_n hx hb dX6_shop_87 rfl (lv_at hl 2 rfl) ?_
      refine lv_iconst (v := 0) hx hb dX6_shop_88 (by decide) ?_
      obtain ⟨b2, h⟩ := bnd_some h
      obtain ⟨S3, e4, h⟩ := nm_some h
      refine r_zast hc hw k154 (inL b2 l154) e4 dX6_shop_89 (fun H locs hw => ?_)
      obtain ⟨v5, e6, h⟩ := nm_some h
      refine lv_iinc (v := v5) (lv' := [(3, .int v5), (0, .ref (X.1 + 0)), (1, .int x1)]) hx hb dX6_shop_90 hl (k := 2) rfl (by rw [e6]; rfl) (by decide) rfl (fun ls hl => ?_)
      refine lv_goto (tgt := 78) hx hb dX6_shop_93 (by decide) ?_
      exact ih x1 v5 S3 _ _ _ hw (lv_sub hl [1, 2, 0] rfl) h
set_option maxRecDepth 20000 in
theorem c_X6_shop (l : Launch) (X : Wx) {S S' : Mm} {r : Int32}   (h : f_X6_shop S = some (r, S')) : Ct l X yX6_shop cX6_shop 4 (some .int) rm_X6_shop [.ref (X.1 + 0)] S (some (.int r)) S' := by
  refine r_entry (by decide) (Nat.le_of_ble_eq_true rfl) ?_
  intro p e s m args below meth c ls hc hr hw hl
  have hc : Cx p s m args meth c X cX6_shop 4 RX6 := hc
  have hl : lv_has ls 4 [(0, .ref (X.1 + 0))] := hl
  have hx := hc.1
  have hb := hc.2.1
  unfold f_X6_shop at h
  refine lv_aload_n hx hb dX6_shop_0 rfl (lv_at hl 0 rfl) ?_
  refine r_get6 hc hw k0 2 (by decide) (v := .ref (X.1 + (dr S))) rfl q1_219 dX6_shop_1 ?_
  have kq1 := hw.2.2.2
  obtain ⟨r2, S3, h4, h⟩ := bd_some h
  refine r_callV4v hc hw hl.1 (As := []) (rest := []) kq1 (c_X4_empty l X kq1 h4) ms_X4_empty rfl q2_36 rfl rfl ⟨rfl, rfl, Nat.le_of_ble_eq_true rfl, Nat.le_of_ble_eq_true rfl⟩ (Nat.le_of_ble_eq_true rfl) ⟨Nat.zero_le _, Nat.zero_le _⟩ dX6_shop_4 (fun H locs hw => ?_)
  refine lv_aload_n hx hb dX6_shop_7 rfl (lv_at hl 0 rfl) ?_
  refine r_get6 hc hw k0 0 (by decide) (v := .ref (X.1 + 1)) rfl q1_217 dX6_shop_8 ?_
  refine lv_aload_n hx hb dX6_shop_11 rfl (lv_at hl 0 rfl) ?_
  refine r_get6 hc hw k0 2 (by decide) (v := .ref (X.1 + (dr S3))) rfl q1_219 dX6_shop_12 ?_
  have kq5 := hw.2.2.2
  obtain ⟨r6, S7, h8, h⟩ := bd_some h
  refine r_callV5i hc hw hl.1 (As := [.ref (X.1 + (dr S3))]) (rest := []) k1 (c_X5_readInto l X kq5 h8) ms_X5_readInto rfl q2_40 rfl rfl ⟨rfl, rfl, Nat.le_of_ble_eq_true rfl, Nat.le_of_ble_eq_true rfl⟩ (Nat.le_of_ble_eq_true rfl) ⟨Nat.zero_le _, Nat.zero_le _⟩ dX6_shop_15 (fun H locs hw => ?_)
  refine lv_istore_n (lv' := [(1, .int r6), (0, .ref (X.1 + 0))]) hx hb dX6_shop_18 rfl hl (by decide) rfl (fun ls hl => ?_)
  refine lv_iload_n hx hb dX6_shop_19 rfl (lv_at hl 0 rfl) ?_
  refine lv_if_ge (tgt := 34) hx hb dX6_shop_20 (by decide) (fun c9 => ?_) (fun c9 => ?_)
  · have h := ifT c9 h
    refine lv_aload_n hx hb dX6_shop_34 rfl (lv_at hl 1 rfl) ?_
    refine r_get6 hc hw k0 1 (by decide) (v := .ref (X.1 + (pl S7))) rfl q1_218 dX6_shop_35 ?_
    have kq10 := hw.2.2.1
    refine lv_astore_n (lv' := [(2, .ref (X.1 + (pl S7))), (1, .int r6), (0, .ref (X.1 + 0))]) hx hb dX6_shop_38 rfl hl (by decide) rfl (fun ls hl => ?_)
    refine lv_aload_n hx hb dX6_shop_39 rfl (lv_at hl 2 rfl) ?_
    refine lv_aload_n hx hb dX6_shop_40 rfl (lv_at hl 2 rfl) ?_
    refine r_get6 hc hw k0 2 (by decide) (v := .ref (X.1 + (dr S7))) rfl q1_219 dX6_shop_41 ?_
    have kq11 := hw.2.2.2
    obtain ⟨S12, e13, h⟩ := nm_some h
    refine r_put6_1 hc hw k0 kq11 e13 q1_218 dX6_shop_44 (fun H locs hw => ?_)
    refine lv_aload_n hx hb dX6_shop_47 rfl (lv_at hl 2 rfl) ?_
    refine lv_aload_n hx hb dX6_shop_48 rfl (lv_at hl 0 rfl) ?_
    obtain ⟨S14, e15, h⟩ := nm_some h
    refine r_put6_2 hc hw k0 kq10 e15 q1_219 dX6_shop_49 (fun H locs hw => ?_)
    refine lv_aload_n hx hb dX6_shop_52 rfl (lv_at hl 2 rfl) ?_
    refine r_get6 hc hw k0 0 (by decide) (v := .ref (X.1 + 1)) rfl q1_217 dX6_shop_53 ?_
    refine lv_iconst (v := 0) hx hb dX6_shop_56 (by decide) ?_
    obtain ⟨S16, e17, h⟩ := nm_some h
    refine r_put5_1 hc hw k1 e17 q1_28 dX6_shop_57 (fun H locs hw => ?_)
    refine lv_aload_n hx hb dX6_shop_60 rfl (lv_at hl 2 rfl) ?_
    refine r_get6 hc hw k0 3 (by decide) (v := .ref (X.1 + 15)) rfl q1_220 dX6_shop_61 ?_
    refine lv_aload_n hx hb dX6_shop_64 rfl (lv_at hl 2 rfl) ?_
    refine r_get6 hc hw k0 1 (by decide) (v := .ref (X.1 + (pl S16))) rfl q1_218 dX6_shop_65 ?_
    have kq18 := hw.2.2.1
    obtain ⟨r19, S20, h21, h⟩ := bd_some h
    refine r_callV3v hc hw hl.1 (As := [.ref (X.1 + (pl S16))]) (rest := []) k15 (c_X3_open l X k15 kq18 h21) ms_X3_open rfl q2_82 rfl rfl ⟨rfl, rfl, Nat.le_of_ble_eq_true rfl, Nat.le_of_ble_eq_true rfl⟩ (Nat.le_of_ble_eq_true rfl) ⟨Nat.zero_le _, Nat.zero_le _⟩ dX6_shop_68 (fun H locs hw => ?_)
    refine lv_aload_n hx hb dX6_shop_71 rfl (lv_at hl 2 rfl) ?_
    refine lv_iconst (v := 0) hx hb dX6_shop_72 (by decide) ?_
    obtain ⟨S22, e23, h⟩ := nm_some h
    refine r_put6_8 hc hw k0 e23 q1_225 dX6_shop_73 (fun H locs hw => ?_)
    refine lv_iconst (v := 0) hx hb dX6_shop_76 (by decide) ?_
    refine lv_istore_n (lv' := [(3, .int 0), (2, .ref (X.1 + (pl S7))), (1, .int r6), (0, .ref (X.1 + 0))]) hx hb dX6_shop_77 rfl hl (by decide) rfl (fun ls hl => ?_)
    exact w_X6_shop_78 hc hr 400 r6 0 S22 _ _ _ hw (lv_sub hl [3, 2, 0] rfl) h
  · have h := ifF c9 h
    refine lv_bipush (v := (-10)) hx hb dX6_shop_23 (by decide) ?_
    refine lv_aload_n hx hb dX6_shop_25 rfl (lv_at hl 1 rfl) ?_
    refine r_get6 hc hw k0 0 (by decide) (v := .ref (X.1 + 1)) rfl q1_217 dX6_shop_26 ?_
    refine r_get5 hc hw k1 2 (by decide) (v := .int (gI S7 1 2)) rfl q1_29 dX6_shop_29 ?_
    refine lv_isub hx hb dX6_shop_32 ?_
    obtain ⟨rfl, rfl⟩ := sm_inj h
    exact r_iret hc hr hw dX6_shop_33
abbrev rm_X6_skill : Room := { frames := 3, cells := 0, slots := 0, locals := 81 }
theorem ms_X6_skill : MsV yX6_skill cX6_skill 4 (some .int) 2 := ⟨⟨q2_164, q1_1, by decide, by decide, by decide⟩, q2_162, q2_163⟩
set_option maxRecDepth 20000 in
theorem c_X6_skill (l : Launch) (X : Wx) {S S' : Mm} {r : Int32} {x1 : Int32} {x2 : Int32}  (h : f_X6_skill S x1 x2 = some (r, S')) : Ct l X yX6_skill cX6_skill 4 (some .int) rm_X6_skill [.ref (X.1 + 0), .int x1, .int x2] S (some (.int r)) S' := by
  refine r_entry (by decide) (Nat.le_of_ble_eq_true rfl) ?_
  intro p e s m args below meth c ls hc hr hw hl
  have hc : Cx p s m args meth c X cX6_skill 4 RX6 := hc
  have hl : lv_has ls 4 [(0, .ref (X.1 + 0)), (1, .int x1), (2, .int x2)] := hl
  have hx := hc.1
  have hb := hc.2.1
  unfold f_X6_skill at h
  refine lv_aload_n hx hb dX6_skill_0 rfl (lv_at hl 0 rfl) ?_
  refine lv_iload_n hx hb dX6_skill_1 rfl (lv_at hl 1 rfl) ?_
  obtain ⟨r1, S2, h3, h⟩ := bd_some h
  refine r_callV6i hc hw hl.1 (As := [.int x1]) (rest := []) k0 (c_X6_isStep l X  h3) ms_X6_isStep rfl q2_94 rfl rfl ⟨rfl, rfl, Nat.le_of_ble_eq_true rfl, Nat.le_of_ble_eq_true rfl⟩ (Nat.le_of_ble_eq_true rfl) ⟨Nat.zero_le _, Nat.zero_le _⟩ dX6_skill_2 (fun H locs hw => ?_)
  refine lv_if_eq (tgt := 18) hx hb dX6_skill_5 (by decide) (fun c4 => ?_) (fun c4 => ?_)
  · have h := ifT c4 h
    refine lv_iconst (v := (-1)) hx hb dX6_skill_18 (by decide) ?_
    obtain ⟨rfl, rfl⟩ := sm_inj h
    exact r_iret hc hr hw dX6_skill_19
  · have h := ifF c4 h
    refine lv_iload_n hx hb dX6_skill_8 rfl (lv_at hl 2 rfl) ?_
    refine lv_if_lt (tgt := 18) hx hb dX6_skill_9 (by decide) (fun c5 => ?_) (fun c5 => ?_)
    · have h := ifT c5 h
      refine lv_iconst (v := (-1)) hx hb dX6_skill_18 (by decide) ?_
      obtain ⟨rfl, rfl⟩ := sm_inj h
      exact r_iret hc hr hw dX6_skill_19
    · have h := ifF c5 h
      refine lv_iload_n hx hb dX6_skill_12 rfl (lv_at hl 2 rfl) ?_
      refine lv_bipush (v := 9) hx hb dX6_skill_13 (by decide) ?_
      refine lv_icmp_le (tgt := 20) hx hb dX6_skill_15 (by decide) (fun c6 => ?_) (fun c6 => ?_)
      · have h := ifT c6 h
        refine lv_aload_n hx hb dX6_skill_20 rfl (lv_at hl 0 rfl) ?_
        refine r_get6 hc hw k0 3 (by decide) (v := .ref (X.1 + 15)) rfl q1_220 dX6_skill_21 ?_
        obtain ⟨r7, S8, h9, h⟩ := bd_some h
        refine r_callV3v hc hw hl.1 (As := []) (rest := []) k15 (c_X3_remember l X k15 h9) ms_X3_remember rfl q2_113 rfl rfl ⟨rfl, rfl, Nat.le_of_ble_eq_true rfl, Nat.le_of_ble_eq_true rfl⟩ (Nat.le_of_ble_eq_true rfl) ⟨Nat.zero_le _, Nat.zero_le _⟩ dX6_skill_24 (fun H locs hw => ?_)
        refine lv_aload_n hx hb dX6_skill_27 rfl (lv_at hl 0 rfl) ?_
        refine r_get6 hc hw k0 3 (by decide) (v := .ref (X.1 + 15)) rfl q1_220 dX6_skill_28 ?_
        refine r_get3 hc hw k15 0 (by decide) (v := .ref (X.1 + 16)) rfl q1_154 dX6_skill_31 ?_
        refine r_get1 hc hw k16 1 (by decide) (v := .ref (X.1 + 18)) rfl q1_121 dX6_skill_34 ?_
        refine lv_iload_n hx hb dX6_skill_37 rfl (lv_at hl 1 rfl) ?_
        obtain ⟨b10, h⟩ := bnd_some h
        refine r_iald hc hw k18 (inL b10 l18) dX6_skill_38 ?_
        obtain ⟨v11, e12, h⟩ := nm_some h
        refine r_top e12 ?_
        refine lv_istore_n (lv' := [(3, .int v11), (0, .ref (X.1 + 0)), (1, .int x1), (2, .int x2)]) hx hb dX6_skill_39 rfl hl (by decide) rfl (fun ls hl => ?_)
        refine lv_aload_n hx hb dX6_skill_40 rfl (lv_at hl 1 rfl) ?_
        refine r_get6 hc hw k0 3 (by decide) (v := .ref (X.1 + 15)) rfl q1_220 dX6_skill_41 ?_
        refine r_get3 hc hw k15 0 (by decide) (v := .ref (X.1 + 16)) rfl q1_154 dX6_skill_44 ?_
        refine r_get1 hc hw k16 1 (by decide) (v := .ref (X.1 + 18)) rfl q1_121 dX6_skill_47 ?_
        refine lv_iload_n hx hb dX6_skill_50 rfl (lv_at hl 2 rfl) ?_
        refine lv_iload_n hx hb dX6_skill_51 rfl (lv_at hl 3 rfl) ?_
        obtain ⟨b13, h⟩ := bnd_some h
        obtain ⟨S14, e15, h⟩ := nm_some h
        refine r_iast hc hw k18 (inL b13 l18) e15 dX6_skill_52 (fun H locs hw => ?_)
        refine lv_iload_n hx hb dX6_skill_53 rfl (lv_at hl 0 rfl) ?_
        obtain ⟨rfl, rfl⟩ := sm_inj h
        exact r_iret hc hr hw dX6_skill_54
      · have h := ifF c6 h
        refine lv_iconst (v := (-1)) hx hb dX6_skill_18 (by decide) ?_
        obtain ⟨rfl, rfl⟩ := sm_inj h
        exact r_iret hc hr hw dX6_skill_19
