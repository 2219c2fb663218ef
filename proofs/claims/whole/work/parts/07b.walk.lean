abbrev rm_X3_restore : Room := { frames := 2, cells := 0, slots := 0, locals := 61 }
theorem ms_X3_restore : MsV yX3_restore cX3_restore 1 (some .boolean) 0 := ⟨⟨q2_180, q1_4, by decide, by decide, by decide⟩, q2_178, q2_179⟩
set_option maxRecDepth 20000 in
theorem c_X3_restore (l : Launch) (X : Wx) {S S' : Mm} {r : Int32} {o : Nat} (ho : KK o = 3) (h : f_X3_restore S o = some (r, S')) : Ct l X yX3_restore cX3_restore 1 (some .boolean) rm_X3_restore [.ref (X.1 + o)] S (some (.int r)) S' := by
  refine r_entry (by decide) (Nat.le_of_ble_eq_true rfl) ?_
  intro p e s m args below meth c ls hc hr hw hl
  have hc : Cx p s m args meth c X cX3_restore 1 RX3 := hc
  have hl : lv_has ls 1 [(0, .ref (X.1 + o))] := hl
  have hx := hc.1
  have hb := hc.2.1
  unfold f_X3_restore at h
  refine lv_aload_n hx hb dX3_restore_0 rfl (lv_at hl 0 rfl) ?_
  refine r_get3 hc hw ho 3 (by decide) (v := .int (gI S o 3)) rfl q1_157 dX3_restore_1 ?_
  refine lv_if_ne (tgt := 9) hx hb dX3_restore_4 (by decide) (fun c1 => ?_) (fun c1 => ?_)
  · have h := ifF c1 h
    refine lv_aload_n hx hb dX3_restore_9 rfl (lv_at hl 0 rfl) ?_
    refine lv_aload_n hx hb dX3_restore_10 rfl (lv_at hl 0 rfl) ?_
    refine r_get3 hc hw ho 2 (by decide) (v := .int (gI S o 2)) rfl q1_156 dX3_restore_11 ?_
    refine lv_bipush (v := 10) hx hb dX3_restore_14 (by decide) ?_
    refine lv_iadd hx hb dX3_restore_16 ?_
    refine lv_iconst (v := 1) hx hb dX3_restore_17 (by decide) ?_
    refine lv_isub hx hb dX3_restore_18 ?_
    refine lv_bipush (v := 10) hx hb dX3_restore_19 (by decide) ?_
    refine lv_irem hx hb dX3_restore_21 (by decide) ?_
    obtain ⟨S2, e3, h⟩ := nm_some h
    refine r_put3_2 hc hw ho e3 q1_156 dX3_restore_22 (fun H locs hw => ?_)
    refine lv_aload_n hx hb dX3_restore_25 rfl (lv_at hl 0 rfl) ?_
    refine r_get3 hc hw ho 0 (by decide) (v := .ref (X.1 + (o + 1))) rfl q1_153 dX3_restore_26 ?_
    refine lv_aload_n hx hb dX3_restore_29 rfl (lv_at hl 0 rfl) ?_
    refine r_get3 hc hw ho 1 (by decide) (v := .ref (X.1 + (o + 5))) rfl q1_155 dX3_restore_30 ?_
    refine lv_aload_n hx hb dX3_restore_33 rfl (lv_at hl 0 rfl) ?_
    refine r_get3 hc hw ho 2 (by decide) (v := .int (gI S2 o 2)) rfl q1_156 dX3_restore_34 ?_
    obtain ⟨b4, h⟩ := bnd_some h
    refine r_aaldM hc hw (kf_3_earlier ho) (inL b4 (lf_3_earlier ho)) dX3_restore_37 ?_
    have kq5 := kel_M (kf_3_earlier ho) b4
    obtain ⟨r6, S7, h8, h⟩ := bd_some h
    refine r_callV1v hc hw hl.1 (As := [.ref (X.1 + ((o + 5) + 1 + 4 * (gI S2 o 2).toNatClampNeg))]) (rest := []) (kf_3_present ho) (c_X1_become l X (kf_3_present ho) kq5 h8) ms_X1_become rfl q2_117 rfl rfl ⟨rfl, rfl, Nat.le_of_ble_eq_true rfl, Nat.le_of_ble_eq_true rfl⟩ (Nat.le_of_ble_eq_true rfl) ⟨Nat.zero_le _, Nat.zero_le _⟩ dX3_restore_38 (fun H locs hw => ?_)
    refine lv_aload_n hx hb dX3_restore_41 rfl (lv_at hl 0 rfl) ?_
    refine lv_dup hx hb dX3_restore_42 rfl ?_
    refine r_get3 hc hw ho 3 (by decide) (v := .int (gI S7 o 3)) rfl q1_157 dX3_restore_43 ?_
    refine lv_iconst (v := 1) hx hb dX3_restore_46 (by decide) ?_
    refine lv_isub hx hb dX3_restore_47 ?_
    obtain ⟨S9, e10, h⟩ := nm_some h
    refine r_put3_3 hc hw ho e10 q1_157 dX3_restore_48 (fun H locs hw => ?_)
    refine lv_iconst (v := 1) hx hb dX3_restore_51 (by decide) ?_
    obtain ⟨rfl, rfl⟩ := sm_inj h
    exact r_zret hc hr (Or.inr rfl) hw dX3_restore_52
  · have h := ifT c1 h
    refine lv_iconst (v := 0) hx hb dX3_restore_7 (by decide) ?_
    obtain ⟨rfl, rfl⟩ := sm_inj h
    exact r_zret hc hr (Or.inl rfl) hw dX3_restore_8
abbrev rm_X4_allows : Room := { frames := 0, cells := 0, slots := 0, locals := 0 }
theorem ms_X4_allows : MsV yX4_allows cX4_allows 4 (some .boolean) 1 := ⟨⟨q3_4, q1_3, by decide, by decide, by decide⟩, q3_2, q3_3⟩
set_option maxRecDepth 20000 in
theorem w_X4_allows_4 {p : Program} {l : Launch} {e : Env} {s : State} {m : MethodId} {args : Array Value} {below : List Frame} {meth : Method} {c : Code} {X : Wx} {r : Int32} {S' : Mm} (hc : Cx p s m args meth c X cX4_allows 4 RX4) (hr : meth.sig.returnType = (some .boolean)) {o : Nat} (ho : KK o = 4) {a1 : Nat} (ha1 : KK a1 = 9)  : ∀ (n : Nat), ∀ (x2 : Int32) (x3 : Int32) (S : Mm) (H : Heap) (locs : List Loc) (ls : Array Slot), Wd X s.heap S H locs → lv_has ls 4 [(0, .ref (X.1 + o)), (1, .ref (X.1 + a1)), (2, .int x2), (3, .int x3)] → f_X4_allows_4 o a1 n x2 x3 S = some (r, S') → W p l e rm_X4_allows s m args below meth c H locs 0 0 (MQ below (Qq X (some (.int r)) S') args s 0 0 (AA X.1)) (F0 m 4 ls []) := by
  have hx := hc.1
  have hb := hc.2.1
  intro n
  induction n with
  | zero => intro x2 x3 S H locs ls hw hl h; cases h
  | succ n ih =>
    intro x2 x3 S H locs ls hw hl h
    rw [f_X4_allows_4] at h
    refine lv_iload_n hx hb dX4_allows_4 rfl (lv_at hl 3 rfl) ?_
    refine lv_aload_n hx hb dX4_allows_5 rfl (lv_at hl 0 rfl) ?_
    refine r_get4 hc hw ho 0 (by decide) (v := .int (gI S o 0)) rfl q1_57 dX4_allows_6 ?_
    refine lv_icmp_ge (tgt := 41) hx hb dX4_allows_9 (by decide) (fun c1 => ?_) (fun c1 => ?_)
    · have h := ifT c1 h
      refine lv_iconst (v := 1) hx hb dX4_allows_41 (by decide) ?_
      obtain ⟨rfl, rfl⟩ := sm_inj h
      exact r_zret hc hr (Or.inr rfl) hw dX4_allows_42
    · have h := ifF c1 h
      refine lv_aload_n hx hb dX4_allows_12 rfl (lv_at hl 0 rfl) ?_
      refine r_get4 hc hw ho 6 (by decide) (v := .ref (X.1 + (o + 5))) rfl q1_84 dX4_allows_13 ?_
      refine lv_aload_n hx hb dX4_allows_16 rfl (lv_at hl 1 rfl) ?_
      refine lv_iload_n hx hb dX4_allows_17 rfl (lv_at hl 3 rfl) ?_
      obtain ⟨b2, h⟩ := bnd_some h
      refine r_iald hc hw ha1 (inL b2 rfl) dX4_allows_18 ?_
      obtain ⟨b3, h⟩ := bnd_some h
      refine r_iald hc hw (kf_4_ahead ho) (inL b3 (lf_4_ahead ho)) dX4_allows_19 ?_
      refine lv_iload_n hx hb dX4_allows_20 rfl (lv_at hl 2 rfl) ?_
      refine lv_iand hx hb dX4_allows_21 ?_
      refine lv_if_eq (tgt := 27) hx hb dX4_allows_22 (by decide) (fun c4 => ?_) (fun c4 => ?_)
      · have h := ifT c4 h
        refine lv_iload_n hx hb dX4_allows_27 rfl (lv_at hl 2 rfl) ?_
        refine lv_iconst (v := 1) hx hb dX4_allows_28 (by decide) ?_
        refine lv_aload_n hx hb dX4_allows_29 rfl (lv_at hl 1 rfl) ?_
        refine lv_iload_n hx hb dX4_allows_30 rfl (lv_at hl 3 rfl) ?_
        obtain ⟨b5, h⟩ := bnd_some h
        refine r_iald hc hw ha1 (inL b5 rfl) dX4_allows_31 ?_
        refine lv_ishl hx hb dX4_allows_32 ?_
        refine lv_ior hx hb dX4_allows_33 ?_
        obtain ⟨v6, e7, h⟩ := nm_some h
        refine r_top e7 ?_
        refine lv_istore_n (lv' := [(2, .int v6), (0, .ref (X.1 + o)), (1, .ref (X.1 + a1)), (3, .int x3)]) hx hb dX4_allows_34 rfl hl (by decide) rfl (fun ls hl => ?_)
        obtain ⟨v8, e9, h⟩ := nm_some h
        refine lv_iinc (v := v8) (lv' := [(3, .int v8), (2, .int v6), (0, .ref (X.1 + o)), (1, .ref (X.1 + a1))]) hx hb dX4_allows_35 hl (k := 3) rfl (by rw [e9]; rfl) (by decide) rfl (fun ls hl => ?_)
        refine lv_goto (tgt := 4) hx hb dX4_allows_38 (by decide) ?_
        exact ih v6 v8 S _ _ _ hw (lv_sub hl [2, 3, 1, 0] rfl) h
      · have h := ifF c4 h
        refine lv_iconst (v := 0) hx hb dX4_allows_25 (by decide) ?_
        obtain ⟨rfl, rfl⟩ := sm_inj h
        exact r_zret hc hr (Or.inl rfl) hw dX4_allows_26
set_option maxRecDepth 20000 in
theorem c_X4_allows (l : Launch) (X : Wx) {S S' : Mm} {r : Int32} {o : Nat} {a1 : Nat} (ho : KK o = 4) (ha1 : KK a1 = 9) (h : f_X4_allows S o a1 = some (r, S')) : Ct l X yX4_allows cX4_allows 4 (some .boolean) rm_X4_allows [.ref (X.1 + o), .ref (X.1 + a1)] S (some (.int r)) S' := by
  refine r_entry (by decide) (Nat.le_of_ble_eq_true rfl) ?_
  intro p e s m args below meth c ls hc hr hw hl
  have hc : Cx p s m args meth c X cX4_allows 4 RX4 := hc
  have hl : lv_has ls 4 [(0, .ref (X.1 + o)), (1, .ref (X.1 + a1))] := hl
  have hx := hc.1
  have hb := hc.2.1
  unfold f_X4_allows at h
  refine lv_iconst (v := 0) hx hb dX4_allows_0 (by decide) ?_
  refine lv_istore_n (lv' := [(2, .int 0), (0, .ref (X.1 + o)), (1, .ref (X.1 + a1))]) hx hb dX4_allows_1 rfl hl (by decide) rfl (fun ls hl => ?_)
  refine lv_iconst (v := 0) hx hb dX4_allows_2 (by decide) ?_
  refine lv_istore_n (lv' := [(3, .int 0), (2, .int 0), (0, .ref (X.1 + o)), (1, .ref (X.1 + a1))]) hx hb dX4_allows_3 rfl hl (by decide) rfl (fun ls hl => ?_)
  exact w_X4_allows_4 hc hr ho ha1 400 0 0 S _ _ _ hw (lv_sub hl [2, 3, 1, 0] rfl) h
abbrev rm_X4_empty : Room := { frames := 0, cells := 0, slots := 0, locals := 0 }
theorem ms_X4_empty : MsV yX4_empty cX4_empty 1 none 0 := ⟨⟨q2_39, q1_3, by decide, by decide, by decide⟩, q2_37, q2_38⟩
set_option maxRecDepth 20000 in
theorem c_X4_empty (l : Launch) (X : Wx) {S S' : Mm} {r : Unit} {o : Nat} (ho : KK o = 4) (h : f_X4_empty S o = some (r, S')) : Ct l X yX4_empty cX4_empty 1 none rm_X4_empty [.ref (X.1 + o)] S none S' := by
  refine r_entry (by decide) (Nat.le_of_ble_eq_true rfl) ?_
  intro p e s m args below meth c ls hc hr hw hl
  have hc : Cx p s m args meth c X cX4_empty 1 RX4 := hc
  have hl : lv_has ls 1 [(0, .ref (X.1 + o))] := hl
  have hx := hc.1
  have hb := hc.2.1
  unfold f_X4_empty at h
  refine lv_aload_n hx hb dX4_empty_0 rfl (lv_at hl 0 rfl) ?_
  refine lv_iconst (v := 0) hx hb dX4_empty_1 (by decide) ?_
  obtain ⟨S1, e2, h⟩ := nm_some h
  refine r_put4_0 hc hw ho e2 q1_57 dX4_empty_2 (fun H locs hw => ?_)
  refine lv_aload_n hx hb dX4_empty_5 rfl (lv_at hl 0 rfl) ?_
  refine lv_bipush (v := 50) hx hb dX4_empty_6 (by decide) ?_
  obtain ⟨S3, e4, h⟩ := nm_some h
  refine r_put4_1 hc hw ho e4 q1_62 dX4_empty_8 (fun H locs hw => ?_)
  obtain ⟨rfl, rfl⟩ := sm_inj h
  exact r_vret hc hr hw dX4_empty_11
abbrev rm_X4_mustLead : Room := { frames := 0, cells := 0, slots := 0, locals := 0 }
theorem ms_X4_mustLead : MsV yX4_mustLead cX4_mustLead 3 (some .boolean) 2 := ⟨⟨q2_172, q1_3, by decide, by decide, by decide⟩, q2_170, q2_171⟩
set_option maxRecDepth 20000 in
theorem c_X4_mustLead (l : Launch) (X : Wx) {S S' : Mm} {r : Int32} {o : Nat} {x1 : Int32} {x2 : Int32} (ho : KK o = 4) (h : f_X4_mustLead S o x1 x2 = some (r, S')) : Ct l X yX4_mustLead cX4_mustLead 3 (some .boolean) rm_X4_mustLead [.ref (X.1 + o), .int x1, .int x2] S (some (.int r)) S' := by
  refine r_entry (by decide) (Nat.le_of_ble_eq_true rfl) ?_
  intro p e s m args below meth c ls hc hr hw hl
  have hc : Cx p s m args meth c X cX4_mustLead 3 RX4 := hc
  have hl : lv_has ls 3 [(0, .ref (X.1 + o)), (1, .int x1), (2, .int x2)] := hl
  have hx := hc.1
  have hb := hc.2.1
  unfold f_X4_mustLead at h
  refine lv_aload_n hx hb dX4_mustLead_0 rfl (lv_at hl 0 rfl) ?_
  refine r_get4 hc hw ho 6 (by decide) (v := .ref (X.1 + (o + 5))) rfl q1_84 dX4_mustLead_1 ?_
  refine lv_iload_n hx hb dX4_mustLead_4 rfl (lv_at hl 1 rfl) ?_
  obtain ⟨b1, h⟩ := bnd_some h
  refine r_iald hc hw (kf_4_ahead ho) (inL b1 (lf_4_ahead ho)) dX4_mustLead_5 ?_
  refine lv_iload_n hx hb dX4_mustLead_6 rfl (lv_at hl 2 rfl) ?_
  refine lv_ishr hx hb dX4_mustLead_7 ?_
  refine lv_iconst (v := 1) hx hb dX4_mustLead_8 (by decide) ?_
  refine lv_iand hx hb dX4_mustLead_9 ?_
  refine lv_iconst (v := 1) hx hb dX4_mustLead_10 (by decide) ?_
  refine lv_icmp_ne (tgt := 18) hx hb dX4_mustLead_11 (by decide) (fun c2 => ?_) (fun c2 => ?_)
  · have h := ifF c2 h
    refine lv_iconst (v := 0) hx hb dX4_mustLead_18 (by decide) ?_
    obtain ⟨rfl, rfl⟩ := sm_inj h
    exact r_zret hc hr (Or.inl rfl) hw dX4_mustLead_19
  · have h := ifT c2 h
    refine lv_iconst (v := 1) hx hb dX4_mustLead_14 (by decide) ?_
    refine lv_goto (tgt := 19) hx hb dX4_mustLead_15 (by decide) ?_
    obtain ⟨rfl, rfl⟩ := sm_inj h
    exact r_zret hc hr (Or.inr rfl) hw dX4_mustLead_19
abbrev rm_X5_add : Room := { frames := 0, cells := 0, slots := 0, locals := 0 }
theorem ms_X5_add : MsV yX5_add cX5_add 2 (some .boolean) 1 := ⟨⟨q2_27, q1_2, by decide, by decide, by decide⟩, q2_25, q2_26⟩
set_option maxRecDepth 20000 in
theorem c_X5_add (l : Launch) (X : Wx) {S S' : Mm} {r : Int32} {x1 : Int32}  (h : f_X5_add S x1 = some (r, S')) : Ct l X yX5_add cX5_add 2 (some .boolean) rm_X5_add [.ref (X.1 + 1), .int x1] S (some (.int r)) S' := by
  refine r_entry (by decide) (Nat.le_of_ble_eq_true rfl) ?_
  intro p e s m args below meth c ls hc hr hw hl
  have hc : Cx p s m args meth c X cX5_add 2 RX5 := hc
  have hl : lv_has ls 2 [(0, .ref (X.1 + 1)), (1, .int x1)] := hl
  have hx := hc.1
  have hb := hc.2.1
  unfold f_X5_add at h
  refine lv_aload_n hx hb dX5_add_0 rfl (lv_at hl 0 rfl) ?_
  refine r_get5 hc hw k1 1 (by decide) (v := .int (gI S 1 1)) rfl q1_27 dX5_add_1 ?_
  refine lv_sipush (v := 150) hx hb dX5_add_4 (by decide) ?_
  refine lv_icmp_lt (tgt := 12) hx hb dX5_add_7 (by decide) (fun c1 => ?_) (fun c1 => ?_)
  · have h := ifT c1 h
    refine lv_aload_n hx hb dX5_add_12 rfl (lv_at hl 0 rfl) ?_
    refine r_get5 hc hw k1 0 (by decide) (v := .ref (X.1 + 2)) rfl q1_26 dX5_add_13 ?_
    refine lv_aload_n hx hb dX5_add_16 rfl (lv_at hl 0 rfl) ?_
    refine r_get5 hc hw k1 1 (by decide) (v := .int (gI S 1 1)) rfl q1_27 dX5_add_17 ?_
    refine lv_iload_n hx hb dX5_add_20 rfl (lv_at hl 1 rfl) ?_
    obtain ⟨b2, h⟩ := bnd_some h
    obtain ⟨S3, e4, h⟩ := nm_some h
    refine r_iast hc hw k2 (inL b2 l2) e4 dX5_add_21 (fun H locs hw => ?_)
    refine lv_aload_n hx hb dX5_add_22 rfl (lv_at hl 0 rfl) ?_
    refine lv_dup hx hb dX5_add_23 rfl ?_
    refine r_get5 hc hw k1 1 (by decide) (v := .int (gI S3 1 1)) rfl q1_27 dX5_add_24 ?_
    refine lv_iconst (v := 1) hx hb dX5_add_27 (by decide) ?_
    refine lv_iadd hx hb dX5_add_28 ?_
    obtain ⟨S5, e6, h⟩ := nm_some h
    refine r_put5_1 hc hw k1 e6 q1_27 dX5_add_29 (fun H locs hw => ?_)
    refine lv_iconst (v := 1) hx hb dX5_add_32 (by decide) ?_
    obtain ⟨rfl, rfl⟩ := sm_inj h
    exact r_zret hc hr (Or.inr rfl) hw dX5_add_33
  · have h := ifF c1 h
    refine lv_iconst (v := 0) hx hb dX5_add_10 (by decide) ?_
    obtain ⟨rfl, rfl⟩ := sm_inj h
    exact r_zret hc hr (Or.inl rfl) hw dX5_add_11
abbrev rm_X5_isDigit : Room := { frames := 0, cells := 0, slots := 0, locals := 0 }
theorem ms_X5_isDigit : MsS yX5_isDigit cX5_isDigit 1 (some .boolean) 1 := ⟨⟨q2_57, q1_2, by decide, by decide, by decide⟩, q2_56⟩
set_option maxRecDepth 20000 in
theorem c_X5_isDigit (l : Launch) (X : Wx) {S S' : Mm} {r : Int32} {x0 : Int32}  (h : f_X5_isDigit S x0 = some (r, S')) : Ct l X yX5_isDigit cX5_isDigit 1 (some .boolean) rm_X5_isDigit [.int x0] S (some (.int r)) S' := by
  refine r_entry (by decide) (Nat.le_of_ble_eq_true rfl) ?_
  intro p e s m args below meth c ls hc hr hw hl
  have hc : Cx p s m args meth c X cX5_isDigit 1 RX5 := hc
  have hl : lv_has ls 1 [(0, .int x0)] := hl
  have hx := hc.1
  have hb := hc.2.1
  unfold f_X5_isDigit at h
  refine lv_iload_n hx hb dX5_isDigit_0 rfl (lv_at hl 0 rfl) ?_
  refine lv_bipush (v := 48) hx hb dX5_isDigit_1 (by decide) ?_
  refine lv_icmp_lt (tgt := 16) hx hb dX5_isDigit_3 (by decide) (fun c1 => ?_) (fun c1 => ?_)
  · have h := ifT c1 h
    refine lv_iconst (v := 0) hx hb dX5_isDigit_16 (by decide) ?_
    obtain ⟨rfl, rfl⟩ := sm_inj h
    exact r_zret hc hr (Or.inl rfl) hw dX5_isDigit_17
  · have h := ifF c1 h
    refine lv_iload_n hx hb dX5_isDigit_6 rfl (lv_at hl 0 rfl) ?_
    refine lv_bipush (v := 57) hx hb dX5_isDigit_7 (by decide) ?_
    refine lv_icmp_gt (tgt := 16) hx hb dX5_isDigit_9 (by decide) (fun c2 => ?_) (fun c2 => ?_)
    · have h := ifT c2 h
      refine lv_iconst (v := 0) hx hb dX5_isDigit_16 (by decide) ?_
      obtain ⟨rfl, rfl⟩ := sm_inj h
      exact r_zret hc hr (Or.inl rfl) hw dX5_isDigit_17
    · have h := ifF c2 h
      refine lv_iconst (v := 1) hx hb dX5_isDigit_12 (by decide) ?_
      refine lv_goto (tgt := 17) hx hb dX5_isDigit_13 (by decide) ?_
      obtain ⟨rfl, rfl⟩ := sm_inj h
      exact r_zret hc hr (Or.inr rfl) hw dX5_isDigit_17
abbrev rm_X5_isLetter : Room := { frames := 0, cells := 0, slots := 0, locals := 0 }
theorem ms_X5_isLetter : MsS yX5_isLetter cX5_isLetter 1 (some .boolean) 1 := ⟨⟨q2_50, q1_2, by decide, by decide, by decide⟩, q2_49⟩
set_option maxRecDepth 20000 in
theorem c_X5_isLetter (l : Launch) (X : Wx) {S S' : Mm} {r : Int32} {x0 : Int32}  (h : f_X5_isLetter S x0 = some (r, S')) : Ct l X yX5_isLetter cX5_isLetter 1 (some .boolean) rm_X5_isLetter [.int x0] S (some (.int r)) S' := by
  refine r_entry (by decide) (Nat.le_of_ble_eq_true rfl) ?_
  intro p e s m args below meth c ls hc hr hw hl
  have hc : Cx p s m args meth c X cX5_isLetter 1 RX5 := hc
  have hl : lv_has ls 1 [(0, .int x0)] := hl
  have hx := hc.1
  have hb := hc.2.1
  unfold f_X5_isLetter at h
  refine lv_iload_n hx hb dX5_isLetter_0 rfl (lv_at hl 0 rfl) ?_
  refine lv_bipush (v := 97) hx hb dX5_isLetter_1 (by decide) ?_
  refine lv_icmp_lt (tgt := 16) hx hb dX5_isLetter_3 (by decide) (fun c1 => ?_) (fun c1 => ?_)
  · have h := ifT c1 h
    refine lv_iconst (v := 0) hx hb dX5_isLetter_16 (by decide) ?_
    obtain ⟨rfl, rfl⟩ := sm_inj h
    exact r_zret hc hr (Or.inl rfl) hw dX5_isLetter_17
  · have h := ifF c1 h
    refine lv_iload_n hx hb dX5_isLetter_6 rfl (lv_at hl 0 rfl) ?_
    refine lv_bipush (v := 122) hx hb dX5_isLetter_7 (by decide) ?_
    refine lv_icmp_gt (tgt := 16) hx hb dX5_isLetter_9 (by decide) (fun c2 => ?_) (fun c2 => ?_)
    · have h := ifT c2 h
      refine lv_iconst (v := 0) hx hb dX5_isLetter_16 (by decide) ?_
      obtain ⟨rfl, rfl⟩ := sm_inj h
      exact r_zret hc hr (Or.inl rfl) hw dX5_isLetter_17
    · have h := ifF c2 h
      refine lv_iconst (v := 1) hx hb dX5_isLetter_12 (by decide) ?_
      refine lv_goto (tgt := 17) hx hb dX5_isLetter_13 (by decide) ?_
      obtain ⟨rfl, rfl⟩ := sm_inj h
      exact r_zret hc hr (Or.inr rfl) hw dX5_isLetter_17
abbrev rm_X5_takeLetters : Room := { frames := 1, cells := 0, slots := 0, locals := 20 }
theorem ms_X5_takeLetters : MsV yX5_takeLetters cX5_takeLetters 1 none 0 := ⟨⟨q2_54, q1_2, by decide, by decide, by decide⟩, q2_53, qs_1⟩
set_option maxRecDepth 20000 in
theorem w_X5_takeLetters_28 {p : Program} {l : Launch} {e : Env} {s : State} {m : MethodId} {args : Array Value} {below : List Frame} {meth : Method} {c : Code} {X : Wx} {r : Unit} {S' : Mm} (hc : Cx p s m args meth c X cX5_takeLetters 1 RX5) (hr : meth.sig.returnType = none)   : ∀ (n : Nat), ∀ (S : Mm) (H : Heap) (locs : List Loc) (ls : Array Slot), Wd X s.heap S H locs → lv_has ls 1 [(0, .ref (X.1 + 1))] → f_X5_takeLetters_28 n S = some (r, S') → W p l e rm_X5_takeLetters s m args below meth c H locs 0 0 (MQ below (Qq X none S') args s 0 0 (AA X.1)) (F0 m 28 ls []) := by
  have hx := hc.1
  have hb := hc.2.1
  intro n
  induction n with
  | zero => intro S H locs ls hw hl h; cases h
  | succ n ih =>
    intro S H locs ls hw hl h
    rw [f_X5_takeLetters_28] at h
    refine lv_aload_n hx hb dX5_takeLetters_28 rfl (lv_at hl 0 rfl) ?_
    refine r_get5 hc hw k1 3 (by decide) (v := .int (gI S 1 3)) rfl q1_31 dX5_takeLetters_29 ?_
    refine lv_aload_n hx hb dX5_takeLetters_32 rfl (lv_at hl 0 rfl) ?_
    refine r_get5 hc hw k1 1 (by decide) (v := .int (gI S 1 1)) rfl q1_27 dX5_takeLetters_33 ?_
    refine lv_icmp_ge (tgt := 72) hx hb dX5_takeLetters_36 (by decide) (fun c1 => ?_) (fun c1 => ?_)
    · have h := ifT c1 h
      obtain ⟨rfl, rfl⟩ := sm_inj h
      exact r_vret hc hr hw dX5_takeLetters_72
    · have h := ifF c1 h
      refine lv_aload_n hx hb dX5_takeLetters_39 rfl (lv_at hl 0 rfl) ?_
      refine r_get5 hc hw k1 0 (by decide) (v := .ref (X.1 + 2)) rfl q1_26 dX5_takeLetters_40 ?_
      refine lv_aload_n hx hb dX5_takeLetters_43 rfl (lv_at hl 0 rfl) ?_
      refine r_get5 hc hw k1 3 (by decide) (v := .int (gI S 1 3)) rfl q1_31 dX5_takeLetters_44 ?_
      obtain ⟨b2, h⟩ := bnd_some h
      refine r_iald hc hw k2 (inL b2 l2) dX5_takeLetters_47 ?_
      obtain ⟨r3, S4, h5, h⟩ := bd_some h
      refine r_callSi hc hw hl.1 (As := [.int (gI S 2 (gI S 1 3).toNatClampNeg)]) (rest := []) (c_X5_isLetter l X  h5) ms_X5_isLetter q2_48 rfl rfl ⟨rfl, rfl, Nat.le_of_ble_eq_true rfl, Nat.le_of_ble_eq_true rfl⟩ (Nat.le_of_ble_eq_true rfl) ⟨Nat.zero_le _, Nat.zero_le _⟩ dX5_takeLetters_48 (fun H locs hw => ?_)
      refine lv_if_eq (tgt := 72) hx hb dX5_takeLetters_51 (by decide) (fun c6 => ?_) (fun c6 => ?_)
      · have h := ifT c6 h
        obtain ⟨rfl, rfl⟩ := sm_inj h
        exact r_vret hc hr hw dX5_takeLetters_72
      · have h := ifF c6 h
        refine lv_aload_n hx hb dX5_takeLetters_54 rfl (lv_at hl 0 rfl) ?_
        refine lv_iconst (v := 0) hx hb dX5_takeLetters_55 (by decide) ?_
        obtain ⟨S7, e8, h⟩ := nm_some h
        refine r_put5_5 hc hw k1 e8 q1_33 dX5_takeLetters_56 (fun H locs hw => ?_)
        refine lv_aload_n hx hb dX5_takeLetters_59 rfl (lv_at hl 0 rfl) ?_
        refine lv_dup hx hb dX5_takeLetters_60 rfl ?_
        refine r_get5 hc hw k1 3 (by decide) (v := .int (gI S7 1 3)) rfl q1_31 dX5_takeLetters_61 ?_
        refine lv_iconst (v := 1) hx hb dX5_takeLetters_64 (by decide) ?_
        refine lv_iadd hx hb dX5_takeLetters_65 ?_
        obtain ⟨S9, e10, h⟩ := nm_some h
        refine r_put5_3 hc hw k1 e10 q1_31 dX5_takeLetters_66 (fun H locs hw => ?_)
        refine lv_goto (tgt := 28) hx hb dX5_takeLetters_69 (by decide) ?_
        exact ih S9 _ _ _ hw (lv_sub hl [0] rfl) h
set_option maxRecDepth 20000 in
theorem c_X5_takeLetters (l : Launch) (X : Wx) {S S' : Mm} {r : Unit}   (h : f_X5_takeLetters S = some (r, S')) : Ct l X yX5_takeLetters cX5_takeLetters 1 none rm_X5_takeLetters [.ref (X.1 + 1)] S none S' := by
  refine r_entry (by decide) (Nat.le_of_ble_eq_true rfl) ?_
  intro p e s m args below meth c ls hc hr hw hl
  have hc : Cx p s m args meth c X cX5_takeLetters 1 RX5 := hc
  have hl : lv_has ls 1 [(0, .ref (X.1 + 1))] := hl
  have hx := hc.1
  have hb := hc.2.1
  unfold f_X5_takeLetters at h
  refine lv_aload_n hx hb dX5_takeLetters_0 rfl (lv_at hl 0 rfl) ?_
  refine lv_iconst (v := 1) hx hb dX5_takeLetters_1 (by decide) ?_
  obtain ⟨S1, e2, h⟩ := nm_some h
  refine r_put5_4 hc hw k1 e2 q1_32 dX5_takeLetters_2 (fun H locs hw => ?_)
  refine lv_aload_n hx hb dX5_takeLetters_5 rfl (lv_at hl 0 rfl) ?_
  refine lv_aload_n hx hb dX5_takeLetters_6 rfl (lv_at hl 0 rfl) ?_
  refine r_get5 hc hw k1 0 (by decide) (v := .ref (X.1 + 2)) rfl q1_26 dX5_takeLetters_7 ?_
  refine lv_aload_n hx hb dX5_takeLetters_10 rfl (lv_at hl 0 rfl) ?_
  refine r_get5 hc hw k1 3 (by decide) (v := .int (gI S1 1 3)) rfl q1_31 dX5_takeLetters_11 ?_
  obtain ⟨b3, h⟩ := bnd_some h
  refine r_iald hc hw k2 (inL b3 l2) dX5_takeLetters_14 ?_
  obtain ⟨S4, e5, h⟩ := nm_some h
  refine r_put5_5 hc hw k1 e5 q1_33 dX5_takeLetters_15 (fun H locs hw => ?_)
  refine lv_aload_n hx hb dX5_takeLetters_18 rfl (lv_at hl 0 rfl) ?_
  refine lv_dup hx hb dX5_takeLetters_19 rfl ?_
  refine r_get5 hc hw k1 3 (by decide) (v := .int (gI S4 1 3)) rfl q1_31 dX5_takeLetters_20 ?_
  refine lv_iconst (v := 1) hx hb dX5_takeLetters_23 (by decide) ?_
  refine lv_iadd hx hb dX5_takeLetters_24 ?_
  obtain ⟨S6, e7, h⟩ := nm_some h
  refine r_put5_3 hc hw k1 e7 q1_31 dX5_takeLetters_25 (fun H locs hw => ?_)
  exact w_X5_takeLetters_28 hc hr 400 S6 _ _ _ hw (lv_sub hl [0] rfl) h
abbrev rm_X5_takeNumber : Room := { frames := 1, cells := 0, slots := 0, locals := 20 }
theorem ms_X5_takeNumber : MsV yX5_takeNumber cX5_takeNumber 3 none 0 := ⟨⟨q2_61, q1_2, by decide, by decide, by decide⟩, q2_60, qs_2⟩
set_option maxRecDepth 20000 in
theorem w_X5_takeNumber_116 {p : Program} {l : Launch} {e : Env} {s : State} {m : MethodId} {args : Array Value} {below : List Frame} {meth : Method} {c : Code} {X : Wx} {r : Unit} {S' : Mm} (hc : Cx p s m args meth c X cX5_takeNumber 3 RX5) (hr : meth.sig.returnType = none)   : ∀ (x1 : Int32) (x2 : Int32) (S : Mm) (H : Heap) (locs : List Loc) (ls : Array Slot), Wd X s.heap S H locs → lv_has ls 3 [(0, .ref (X.1 + 1)), (1, .int x1), (2, .int x2)] → f_X5_takeNumber_116 x1 x2 S = some (r, S') → W p l e rm_X5_takeNumber s m args below meth c H locs 0 0 (MQ below (Qq X none S') args s 0 0 (AA X.1)) (F0 m 116 ls []) := by
  have hx := hc.1
  have hb := hc.2.1
  intro x1 x2 S H locs ls hw hl h
  unfold f_X5_takeNumber_116 at h
  refine lv_aload_n hx hb dX5_takeNumber_116 rfl (lv_at hl 0 rfl) ?_
  refine lv_aload_n hx hb dX5_takeNumber_117 rfl (lv_at hl 0 rfl) ?_
  refine r_get5 hc hw k1 5 (by decide) (v := .int (gI S 1 5)) rfl q1_33 dX5_takeNumber_118 ?_
  refine lv_bipush (v := 99) hx hb dX5_takeNumber_121 (by decide) ?_
  refine lv_icmp_gt (tgt := 134) hx hb dX5_takeNumber_123 (by decide) (fun c1 => ?_) (fun c1 => ?_)
  · have h := ifT c1 h
    refine lv_iconst (v := 4) hx hb dX5_takeNumber_134 (by decide) ?_
    refine lv_goto (tgt := 139) hx hb dX5_takeNumber_135 (by decide) ?_
    obtain ⟨S2, e3, h⟩ := nm_some h
    refine r_put5_4 hc hw k1 e3 q1_32 dX5_takeNumber_139 (fun H locs hw => ?_)
    obtain ⟨rfl, rfl⟩ := sm_inj h
    exact r_vret hc hr hw dX5_takeNumber_142
  · have h := ifF c1 h
    refine lv_iload_n hx hb dX5_takeNumber_126 rfl (lv_at hl 1 rfl) ?_
    refine lv_if_eq (tgt := 138) hx hb dX5_takeNumber_127 (by decide) (fun c4 => ?_) (fun c4 => ?_)
    · have h := ifT c4 h
      refine lv_iconst (v := 2) hx hb dX5_takeNumber_138 (by decide) ?_
      obtain ⟨S5, e6, h⟩ := nm_some h
      refine r_put5_4 hc hw k1 e6 q1_32 dX5_takeNumber_139 (fun H locs hw => ?_)
      obtain ⟨rfl, rfl⟩ := sm_inj h
      exact r_vret hc hr hw dX5_takeNumber_142
    · have h := ifF c4 h
      refine lv_iload_n hx hb dX5_takeNumber_130 rfl (lv_at hl 2 rfl) ?_
      refine lv_if_eq (tgt := 138) hx hb dX5_takeNumber_131 (by decide) (fun c7 => ?_) (fun c7 => ?_)
      · have h := ifT c7 h
        refine lv_iconst (v := 2) hx hb dX5_takeNumber_138 (by decide) ?_
        obtain ⟨S8, e9, h⟩ := nm_some h
        refine r_put5_4 hc hw k1 e9 q1_32 dX5_takeNumber_139 (fun H locs hw => ?_)
        obtain ⟨rfl, rfl⟩ := sm_inj h
        exact r_vret hc hr hw dX5_takeNumber_142
      · have h := ifF c7 h
        refine lv_iconst (v := 4) hx hb dX5_takeNumber_134 (by decide) ?_
        refine lv_goto (tgt := 139) hx hb dX5_takeNumber_135 (by decide) ?_
        obtain ⟨S10, e11, h⟩ := nm_some h
        refine r_put5_4 hc hw k1 e11 q1_32 dX5_takeNumber_139 (fun H locs hw => ?_)
        obtain ⟨rfl, rfl⟩ := sm_inj h
        exact r_vret hc hr hw dX5_takeNumber_142
set_option maxRecDepth 20000 in
theorem w_X5_takeNumber_97 {p : Program} {l : Launch} {e : Env} {s : State} {m : MethodId} {args : Array Value} {below : List Frame} {meth : Method} {c : Code} {X : Wx} {r : Unit} {S' : Mm} (hc : Cx p s m args meth c X cX5_takeNumber 3 RX5) (hr : meth.sig.returnType = none)   : ∀ (x1 : Int32) (S : Mm) (H : Heap) (locs : List Loc) (ls : Array Slot), Wd X s.heap S H locs → lv_has ls 3 [(0, .ref (X.1 + 1)), (1, .int x1)] → f_X5_takeNumber_97 x1 S = some (r, S') → W p l e rm_X5_takeNumber s m args below meth c H locs 0 0 (MQ below (Qq X none S') args s 0 0 (AA X.1)) (F0 m 97 ls []) := by
  have hx := hc.1
  have hb := hc.2.1
  intro x1 S H locs ls hw hl h
  unfold f_X5_takeNumber_97 at h
  refine lv_aload_n hx hb dX5_takeNumber_97 rfl (lv_at hl 0 rfl) ?_
  refine r_get5 hc hw k1 3 (by decide) (v := .int (gI S 1 3)) rfl q1_31 dX5_takeNumber_98 ?_
  refine lv_aload_n hx hb dX5_takeNumber_101 rfl (lv_at hl 0 rfl) ?_
  refine r_get5 hc hw k1 2 (by decide) (v := .int (gI S 1 2)) rfl q1_30 dX5_takeNumber_102 ?_
  refine lv_isub hx hb dX5_takeNumber_105 ?_
  refine lv_iconst (v := 1) hx hb dX5_takeNumber_106 (by decide) ?_
  refine lv_icmp_le (tgt := 114) hx hb dX5_takeNumber_107 (by decide) (fun c1 => ?_) (fun c1 => ?_)
  · have h := ifT c1 h
    refine lv_iconst (v := 0) hx hb dX5_takeNumber_114 (by decide) ?_
    refine lv_istore_n (lv' := [(2, .int 0), (0, .ref (X.1 + 1)), (1, .int x1)]) hx hb dX5_takeNumber_115 rfl hl (by decide) rfl (fun ls hl => ?_)
    exact w_X5_takeNumber_116 hc hr x1 0 S _ _ _ hw (lv_sub hl [1, 2, 0] rfl) h
  · have h := ifF c1 h
    refine lv_iconst (v := 1) hx hb dX5_takeNumber_110 (by decide) ?_
    refine lv_goto (tgt := 115) hx hb dX5_takeNumber_111 (by decide) ?_
    refine lv_istore_n (lv' := [(2, .int 1), (0, .ref (X.1 + 1)), (1, .int x1)]) hx hb dX5_takeNumber_115 rfl hl (by decide) rfl (fun ls hl => ?_)
    exact w_X5_takeNumber_116 hc hr x1 1 S _ _ _ hw (lv_sub hl [1, 2, 0] rfl) h
set_option maxRecDepth 20000 in
theorem w_X5_takeNumber_25 {p : Program} {l : Launch} {e : Env} {s : State} {m : MethodId} {args : Array Value} {below : List Frame} {meth : Method} {c : Code} {X : Wx} {r : Unit} {S' : Mm} (hc : Cx p s m args meth c X cX5_takeNumber 3 RX5) (hr : meth.sig.returnType = none)   : ∀ (n : Nat), ∀ (x1 : Int32) (S : Mm) (H : Heap) (locs : List Loc) (ls : Array Slot), Wd X s.heap S H locs → lv_has ls 3 [(0, .ref (X.1 + 1)), (1, .int x1)] → f_X5_takeNumber_25 n x1 S = some (r, S') → W p l e rm_X5_takeNumber s m args below meth c H locs 0 0 (MQ below (Qq X none S') args s 0 0 (AA X.1)) (F0 m 25 ls []) := by
  have hx := hc.1
  have hb := hc.2.1
  intro n
  induction n with
  | zero => intro x1 S H locs ls hw hl h; cases h
  | succ n ih =>
    intro x1 S H locs ls hw hl h
    rw [f_X5_takeNumber_25] at h
    refine lv_aload_n hx hb dX5_takeNumber_25 rfl (lv_at hl 0 rfl) ?_
    refine r_get5 hc hw k1 3 (by decide) (v := .int (gI S 1 3)) rfl q1_31 dX5_takeNumber_26 ?_
    refine lv_aload_n hx hb dX5_takeNumber_29 rfl (lv_at hl 0 rfl) ?_
    refine r_get5 hc hw k1 1 (by decide) (v := .int (gI S 1 1)) rfl q1_27 dX5_takeNumber_30 ?_
    refine lv_icmp_ge (tgt := 97) hx hb dX5_takeNumber_33 (by decide) (fun c1 => ?_) (fun c1 => ?_)
    · have h := ifT c1 h
      exact w_X5_takeNumber_97 hc hr x1 S _ _ _ hw (lv_sub hl [0, 1] rfl) h
    · have h := ifF c1 h
      refine lv_aload_n hx hb dX5_takeNumber_36 rfl (lv_at hl 0 rfl) ?_
      refine r_get5 hc hw k1 0 (by decide) (v := .ref (X.1 + 2)) rfl q1_26 dX5_takeNumber_37 ?_
      refine lv_aload_n hx hb dX5_takeNumber_40 rfl (lv_at hl 0 rfl) ?_
      refine r_get5 hc hw k1 3 (by decide) (v := .int (gI S 1 3)) rfl q1_31 dX5_takeNumber_41 ?_
      obtain ⟨b2, h⟩ := bnd_some h
      refine r_iald hc hw k2 (inL b2 l2) dX5_takeNumber_44 ?_
      obtain ⟨r3, S4, h5, h⟩ := bd_some h
      refine r_callSi hc hw hl.1 (As := [.int (gI S 2 (gI S 1 3).toNatClampNeg)]) (rest := []) (c_X5_isDigit l X  h5) ms_X5_isDigit q2_55 rfl rfl ⟨rfl, rfl, Nat.le_of_ble_eq_true rfl, Nat.le_of_ble_eq_true rfl⟩ (Nat.le_of_ble_eq_true rfl) ⟨Nat.zero_le _, Nat.zero_le _⟩ dX5_takeNumber_45 (fun H locs hw => ?_)
      refine lv_if_eq (tgt := 97) hx hb dX5_takeNumber_48 (by decide) (fun c6 => ?_) (fun c6 => ?_)
      · have h := ifT c6 h
        exact w_X5_takeNumber_97 hc hr x1 S4 _ _ _ hw (lv_sub hl [0, 1] rfl) h
      · have h := ifF c6 h
        refine lv_aload_n hx hb dX5_takeNumber_51 rfl (lv_at hl 0 rfl) ?_
        refine r_get5 hc hw k1 5 (by decide) (v := .int (gI S4 1 5)) rfl q1_33 dX5_takeNumber_52 ?_
        refine lv_bipush (v := 99) hx hb dX5_takeNumber_55 (by decide) ?_
        refine lv_icmp_gt (tgt := 84) hx hb dX5_takeNumber_57 (by decide) (fun c7 => ?_) (fun c7 => ?_)
        · have h := ifT c7 h
          refine lv_aload_n hx hb dX5_takeNumber_84 rfl (lv_at hl 0 rfl) ?_
          refine lv_dup hx hb dX5_takeNumber_85 rfl ?_
          refine r_get5 hc hw k1 3 (by decide) (v := .int (gI S4 1 3)) rfl q1_31 dX5_takeNumber_86 ?_
          refine lv_iconst (v := 1) hx hb dX5_takeNumber_89 (by decide) ?_
          refine lv_iadd hx hb dX5_takeNumber_90 ?_
          obtain ⟨S8, e9, h⟩ := nm_some h
          refine r_put5_3 hc hw k1 e9 q1_31 dX5_takeNumber_91 (fun H locs hw => ?_)
          refine lv_goto (tgt := 25) hx hb dX5_takeNumber_94 (by decide) ?_
          exact ih x1 S8 _ _ _ hw (lv_sub hl [0, 1] rfl) h
        · have h := ifF c7 h
          refine lv_aload_n hx hb dX5_takeNumber_60 rfl (lv_at hl 0 rfl) ?_
          refine lv_aload_n hx hb dX5_takeNumber_61 rfl (lv_at hl 0 rfl) ?_
          refine r_get5 hc hw k1 5 (by decide) (v := .int (gI S4 1 5)) rfl q1_33 dX5_takeNumber_62 ?_
          refine lv_bipush (v := 10) hx hb dX5_takeNumber_65 (by decide) ?_
          refine lv_imul hx hb dX5_takeNumber_67 ?_
          refine lv_aload_n hx hb dX5_takeNumber_68 rfl (lv_at hl 0 rfl) ?_
          refine r_get5 hc hw k1 0 (by decide) (v := .ref (X.1 + 2)) rfl q1_26 dX5_takeNumber_69 ?_
          refine lv_aload_n hx hb dX5_takeNumber_72 rfl (lv_at hl 0 rfl) ?_
          refine r_get5 hc hw k1 3 (by decide) (v := .int (gI S4 1 3)) rfl q1_31 dX5_takeNumber_73 ?_
          obtain ⟨b10, h⟩ := bnd_some h
          refine r_iald hc hw k2 (inL b10 l2) dX5_takeNumber_76 ?_
          refine lv_iadd hx hb dX5_takeNumber_77 ?_
          refine lv_bipush (v := 48) hx hb dX5_takeNumber_78 (by decide) ?_
          refine lv_isub hx hb dX5_takeNumber_80 ?_
          obtain ⟨S11, e12, h⟩ := nm_some h
          refine r_put5_5 hc hw k1 e12 q1_33 dX5_takeNumber_81 (fun H locs hw => ?_)
          refine lv_aload_n hx hb dX5_takeNumber_84 rfl (lv_at hl 0 rfl) ?_
          refine lv_dup hx hb dX5_takeNumber_85 rfl ?_
          refine r_get5 hc hw k1 3 (by decide) (v := .int (gI S11 1 3)) rfl q1_31 dX5_takeNumber_86 ?_
          refine lv_iconst (v := 1) hx hb dX5_takeNumber_89 (by decide) ?_
          refine lv_iadd hx hb dX5_takeNumber_90 ?_
          obtain ⟨S13, e14, h⟩ := nm_some h
          refine r_put5_3 hc hw k1 e14 q1_31 dX5_takeNumber_91 (fun H locs hw => ?_)
          refine lv_goto (tgt := 25) hx hb dX5_takeNumber_94 (by decide) ?_
          exact ih x1 S13 _ _ _ hw (lv_sub hl [0, 1] rfl) h
set_option maxRecDepth 20000 in
theorem c_X5_takeNumber (l : Launch) (X : Wx) {S S' : Mm} {r : Unit}   (h : f_X5_takeNumber S = some (r, S')) : Ct l X yX5_takeNumber cX5_takeNumber 3 none rm_X5_takeNumber [.ref (X.1 + 1)] S none S' := by
  refine r_entry (by decide) (Nat.le_of_ble_eq_true rfl) ?_
  intro p e s m args below meth c ls hc hr hw hl
  have hc : Cx p s m args meth c X cX5_takeNumber 3 RX5 := hc
  have hl : lv_has ls 3 [(0, .ref (X.1 + 1))] := hl
  have hx := hc.1
  have hb := hc.2.1
  unfold f_X5_takeNumber at h
  refine lv_aload_n hx hb dX5_takeNumber_0 rfl (lv_at hl 0 rfl) ?_
  refine r_get5 hc hw k1 0 (by decide) (v := .ref (X.1 + 2)) rfl q1_26 dX5_takeNumber_1 ?_
  refine lv_aload_n hx hb dX5_takeNumber_4 rfl (lv_at hl 0 rfl) ?_
  refine r_get5 hc hw k1 3 (by decide) (v := .int (gI S 1 3)) rfl q1_31 dX5_takeNumber_5 ?_
  obtain ⟨b1, h⟩ := bnd_some h
  refine r_iald hc hw k2 (inL b1 l2) dX5_takeNumber_8 ?_
  refine lv_bipush (v := 48) hx hb dX5_takeNumber_9 (by decide) ?_
  refine lv_icmp_ne (tgt := 18) hx hb dX5_takeNumber_11 (by decide) (fun c2 => ?_) (fun c2 => ?_)
  · have h := ifF c2 h
    refine lv_iconst (v := 0) hx hb dX5_takeNumber_18 (by decide) ?_
    refine lv_istore_n (lv' := [(1, .int 0), (0, .ref (X.1 + 1))]) hx hb dX5_takeNumber_19 rfl hl (by decide) rfl (fun ls hl => ?_)
    refine lv_aload_n hx hb dX5_takeNumber_20 rfl (lv_at hl 1 rfl) ?_
    refine lv_iconst (v := 0) hx hb dX5_takeNumber_21 (by decide) ?_
    obtain ⟨S3, e4, h⟩ := nm_some h
    refine r_put5_5 hc hw k1 e4 q1_33 dX5_takeNumber_22 (fun H locs hw => ?_)
    exact w_X5_takeNumber_25 hc hr 400 0 S3 _ _ _ hw (lv_sub hl [1, 0] rfl) h
  · have h := ifT c2 h
    refine lv_iconst (v := 1) hx hb dX5_takeNumber_14 (by decide) ?_
    refine lv_goto (tgt := 19) hx hb dX5_takeNumber_15 (by decide) ?_
    refine lv_istore_n (lv' := [(1, .int 1), (0, .ref (X.1 + 1))]) hx hb dX5_takeNumber_19 rfl hl (by decide) rfl (fun ls hl => ?_)
    refine lv_aload_n hx hb dX5_takeNumber_20 rfl (lv_at hl 1 rfl) ?_
    refine lv_iconst (v := 0) hx hb dX5_takeNumber_21 (by decide) ?_
    obtain ⟨S5, e6, h⟩ := nm_some h
    refine r_put5_5 hc hw k1 e6 q1_33 dX5_takeNumber_22 (fun H locs hw => ?_)
    exact w_X5_takeNumber_25 hc hr 400 1 S5 _ _ _ hw (lv_sub hl [1, 0] rfl) h
abbrev rm_X5_readToken : Room := { frames := 2, cells := 0, slots := 0, locals := 42 }
theorem ms_X5_readToken : MsV yX5_readToken cX5_readToken 1 none 0 := ⟨⟨q2_47, q1_2, by decide, by decide, by decide⟩, q2_46, qs_0⟩
set_option maxRecDepth 20000 in
theorem w_X5_readToken_38 {p : Program} {l : Launch} {e : Env} {s : State} {m : MethodId} {args : Array Value} {below : List Frame} {meth : Method} {c : Code} {X : Wx} {r : Unit} {S' : Mm} (hc : Cx p s m args meth c X cX5_readToken 1 RX5) (hr : meth.sig.returnType = none)   : ∀ (S : Mm) (H : Heap) (locs : List Loc) (ls : Array Slot), Wd X s.heap S H locs → lv_has ls 1 [(0, .ref (X.1 + 1))] → f_X5_readToken_38 S = some (r, S') → W p l e rm_X5_readToken s m args below meth c H locs 0 0 (MQ below (Qq X none S') args s 0 0 (AA X.1)) (F0 m 38 ls []) := by
  have hx := hc.1
  have hb := hc.2.1
  intro S H locs ls hw hl h
  unfold f_X5_readToken_38 at h
  refine lv_aload_n hx hb dX5_readToken_38 rfl (lv_at hl 0 rfl) ?_
  refine lv_aload_n hx hb dX5_readToken_39 rfl (lv_at hl 0 rfl) ?_
  refine r_get5 hc hw k1 3 (by decide) (v := .int (gI S 1 3)) rfl q1_31 dX5_readToken_40 ?_
  obtain ⟨S1, e2, h⟩ := nm_some h
  refine r_put5_2 hc hw k1 e2 q1_30 dX5_readToken_43 (fun H locs hw => ?_)
  refine lv_aload_n hx hb dX5_readToken_46 rfl (lv_at hl 0 rfl) ?_
  refine r_get5 hc hw k1 3 (by decide) (v := .int (gI S1 1 3)) rfl q1_31 dX5_readToken_47 ?_
  refine lv_aload_n hx hb dX5_readToken_50 rfl (lv_at hl 0 rfl) ?_
  refine r_get5 hc hw k1 1 (by decide) (v := .int (gI S1 1 1)) rfl q1_27 dX5_readToken_51 ?_
  refine lv_icmp_lt (tgt := 65) hx hb dX5_readToken_54 (by decide) (fun c3 => ?_) (fun c3 => ?_)
  · have h := ifT c3 h
    refine lv_aload_n hx hb dX5_readToken_65 rfl (lv_at hl 0 rfl) ?_
    refine r_get5 hc hw k1 0 (by decide) (v := .ref (X.1 + 2)) rfl q1_26 dX5_readToken_66 ?_
    refine lv_aload_n hx hb dX5_readToken_69 rfl (lv_at hl 0 rfl) ?_
    refine r_get5 hc hw k1 3 (by decide) (v := .int (gI S1 1 3)) rfl q1_31 dX5_readToken_70 ?_
    obtain ⟨b4, h⟩ := bnd_some h
    refine r_iald hc hw k2 (inL b4 l2) dX5_readToken_73 ?_
    obtain ⟨r5, S6, h7, h⟩ := bd_some h
    refine r_callSi hc hw hl.1 (As := [.int (gI S1 2 (gI S1 1 3).toNatClampNeg)]) (rest := []) (c_X5_isLetter l X  h7) ms_X5_isLetter q2_48 rfl rfl ⟨rfl, rfl, Nat.le_of_ble_eq_true rfl, Nat.le_of_ble_eq_true rfl⟩ (Nat.le_of_ble_eq_true rfl) ⟨Nat.zero_le _, Nat.zero_le _⟩ dX5_readToken_74 (fun H locs hw => ?_)
    refine lv_if_eq (tgt := 87) hx hb dX5_readToken_77 (by decide) (fun c8 => ?_) (fun c8 => ?_)
    · have h := ifT c8 h
      refine lv_aload_n hx hb dX5_readToken_87 rfl (lv_at hl 0 rfl) ?_
      refine r_get5 hc hw k1 0 (by decide) (v := .ref (X.1 + 2)) rfl q1_26 dX5_readToken_88 ?_
      refine lv_aload_n hx hb dX5_readToken_91 rfl (lv_at hl 0 rfl) ?_
      refine r_get5 hc hw k1 3 (by decide) (v := .int (gI S6 1 3)) rfl q1_31 dX5_readToken_92 ?_
      obtain ⟨b9, h⟩ := bnd_some h
      refine r_iald hc hw k2 (inL b9 l2) dX5_readToken_95 ?_
      obtain ⟨r10, S11, h12, h⟩ := bd_some h
      refine r_callSi hc hw hl.1 (As := [.int (gI S6 2 (gI S6 1 3).toNatClampNeg)]) (rest := []) (c_X5_isDigit l X  h12) ms_X5_isDigit q2_55 rfl rfl ⟨rfl, rfl, Nat.le_of_ble_eq_true rfl, Nat.le_of_ble_eq_true rfl⟩ (Nat.le_of_ble_eq_true rfl) ⟨Nat.zero_le _, Nat.zero_le _⟩ dX5_readToken_96 (fun H locs hw => ?_)
      refine lv_if_eq (tgt := 109) hx hb dX5_readToken_99 (by decide) (fun c13 => ?_) (fun c13 => ?_)
      · have h := ifT c13 h
        refine lv_aload_n hx hb dX5_readToken_109 rfl (lv_at hl 0 rfl) ?_
        refine lv_aload_n hx hb dX5_readToken_110 rfl (lv_at hl 0 rfl) ?_
        refine r_get5 hc hw k1 0 (by decide) (v := .ref (X.1 + 2)) rfl q1_26 dX5_readToken_111 ?_
        refine lv_aload_n hx hb dX5_readToken_114 rfl (lv_at hl 0 rfl) ?_
        refine r_get5 hc hw k1 3 (by decide) (v := .int (gI S11 1 3)) rfl q1_31 dX5_readToken_115 ?_
        obtain ⟨b14, h⟩ := bnd_some h
        refine r_iald hc hw k2 (inL b14 l2) dX5_readToken_118 ?_
        refine lv_bipush (v := 59) hx hb dX5_readToken_119 (by decide) ?_
        refine lv_icmp_ne (tgt := 128) hx hb dX5_readToken_121 (by decide) (fun c15 => ?_) (fun c15 => ?_)
        · have h := ifF c15 h
          refine lv_iconst (v := 4) hx hb dX5_readToken_128 (by decide) ?_
          obtain ⟨S16, e17, h⟩ := nm_some h
          refine r_put5_4 hc hw k1 e17 q1_32 dX5_readToken_129 (fun H locs hw => ?_)
          refine lv_aload_n hx hb dX5_readToken_132 rfl (lv_at hl 0 rfl) ?_
          refine lv_dup hx hb dX5_readToken_133 rfl ?_
          refine r_get5 hc hw k1 3 (by decide) (v := .int (gI S16 1 3)) rfl q1_31 dX5_readToken_134 ?_
          refine lv_iconst (v := 1) hx hb dX5_readToken_137 (by decide) ?_
          refine lv_iadd hx hb dX5_readToken_138 ?_
          obtain ⟨S18, e19, h⟩ := nm_some h
          refine r_put5_3 hc hw k1 e19 q1_31 dX5_readToken_139 (fun H locs hw => ?_)
          obtain ⟨rfl, rfl⟩ := sm_inj h
          exact r_vret hc hr hw dX5_readToken_142
        · have h := ifT c15 h
          refine lv_iconst (v := 3) hx hb dX5_readToken_124 (by decide) ?_
          refine lv_goto (tgt := 129) hx hb dX5_readToken_125 (by decide) ?_
          obtain ⟨S20, e21, h⟩ := nm_some h
          refine r_put5_4 hc hw k1 e21 q1_32 dX5_readToken_129 (fun H locs hw => ?_)
          refine lv_aload_n hx hb dX5_readToken_132 rfl (lv_at hl 0 rfl) ?_
          refine lv_dup hx hb dX5_readToken_133 rfl ?_
          refine r_get5 hc hw k1 3 (by decide) (v := .int (gI S20 1 3)) rfl q1_31 dX5_readToken_134 ?_
          refine lv_iconst (v := 1) hx hb dX5_readToken_137 (by decide) ?_
          refine lv_iadd hx hb dX5_readToken_138 ?_
          obtain ⟨S22, e23, h⟩ := nm_some h
          refine r_put5_3 hc hw k1 e23 q1_31 dX5_readToken_139 (fun H locs hw => ?_)
          obtain ⟨rfl, rfl⟩ := sm_inj h
          exact r_vret hc hr hw dX5_readToken_142
      · have h := ifF c13 h
        refine lv_aload_n hx hb dX5_readToken_102 rfl (lv_at hl 0 rfl) ?_
        obtain ⟨r24, S25, h26, h⟩ := bd_some h
        refine r_callV5v hc hw hl.1 (As := []) (rest := []) k1 (c_X5_takeNumber l X  h26) ms_X5_takeNumber rfl q2_58 rfl rfl ⟨rfl, rfl, Nat.le_of_ble_eq_true rfl, Nat.le_of_ble_eq_true rfl⟩ (Nat.le_of_ble_eq_true rfl) ⟨Nat.zero_le _, Nat.zero_le _⟩ dX5_readToken_103 (fun H locs hw => ?_)
        refine lv_goto (tgt := 142) hx hb dX5_readToken_106 (by decide) ?_
        obtain ⟨rfl, rfl⟩ := sm_inj h
        exact r_vret hc hr hw dX5_readToken_142
    · have h := ifF c8 h
      refine lv_aload_n hx hb dX5_readToken_80 rfl (lv_at hl 0 rfl) ?_
      obtain ⟨r27, S28, h29, h⟩ := bd_some h
      refine r_callV5v hc hw hl.1 (As := []) (rest := []) k1 (c_X5_takeLetters l X  h29) ms_X5_takeLetters rfl q2_51 rfl rfl ⟨rfl, rfl, Nat.le_of_ble_eq_true rfl, Nat.le_of_ble_eq_true rfl⟩ (Nat.le_of_ble_eq_true rfl) ⟨Nat.zero_le _, Nat.zero_le _⟩ dX5_readToken_81 (fun H locs hw => ?_)
      refine lv_goto (tgt := 142) hx hb dX5_readToken_84 (by decide) ?_
      obtain ⟨rfl, rfl⟩ := sm_inj h
      exact r_vret hc hr hw dX5_readToken_142
  · have h := ifF c3 h
    refine lv_aload_n hx hb dX5_readToken_57 rfl (lv_at hl 0 rfl) ?_
    refine lv_iconst (v := 0) hx hb dX5_readToken_58 (by decide) ?_
    obtain ⟨S30, e31, h⟩ := nm_some h
    refine r_put5_4 hc hw k1 e31 q1_32 dX5_readToken_59 (fun H locs hw => ?_)
    refine lv_goto (tgt := 142) hx hb dX5_readToken_62 (by decide) ?_
    obtain ⟨rfl, rfl⟩ := sm_inj h
    exact r_vret hc hr hw dX5_readToken_142
set_option maxRecDepth 20000 in
theorem w_X5_readToken_0 {p : Program} {l : Launch} {e : Env} {s : State} {m : MethodId} {args : Array Value} {below : List Frame} {meth : Method} {c : Code} {X : Wx} {r : Unit} {S' : Mm} (hc : Cx p s m args meth c X cX5_readToken 1 RX5) (hr : meth.sig.returnType = none)   : ∀ (n : Nat), ∀ (S : Mm) (H : Heap) (locs : List Loc) (ls : Array Slot), Wd X s.heap S H locs → lv_has ls 1 [(0, .ref (X.1 + 1))] → f_X5_readToken_0 n S = some (r, S') → W p l e rm_X5_readToken s m args below meth c H locs 0 0 (MQ below (Qq X none S') args s 0 0 (AA X.1)) (F0 m 0 ls []) := by
  have hx := hc.1
  have hb := hc.2.1
  intro n
  induction n with
  | zero => intro S H locs ls hw hl h; cases h
  | succ n ih =>
    intro S H locs ls hw hl h
    rw [f_X5_readToken_0] at h
    refine lv_aload_n hx hb dX5_readToken_0 rfl (lv_at hl 0 rfl) ?_
    refine r_get5 hc hw k1 3 (by decide) (v := .int (gI S 1 3)) rfl q1_31 dX5_readToken_1 ?_
    refine lv_aload_n hx hb dX5_readToken_4 rfl (lv_at hl 0 rfl) ?_
    refine r_get5 hc hw k1 1 (by decide) (v := .int (gI S 1 1)) rfl q1_27 dX5_readToken_5 ?_
    refine lv_icmp_ge (tgt := 38) hx hb dX5_readToken_8 (by decide) (fun c1 => ?_) (fun c1 => ?_)
    · have h := ifT c1 h
      exact w_X5_readToken_38 hc hr S _ _ _ hw (lv_sub hl [0] rfl) h
    · have h := ifF c1 h
      refine lv_aload_n hx hb dX5_readToken_11 rfl (lv_at hl 0 rfl) ?_
      refine r_get5 hc hw k1 0 (by decide) (v := .ref (X.1 + 2)) rfl q1_26 dX5_readToken_12 ?_
      refine lv_aload_n hx hb dX5_readToken_15 rfl (lv_at hl 0 rfl) ?_
      refine r_get5 hc hw k1 3 (by decide) (v := .int (gI S 1 3)) rfl q1_31 dX5_readToken_16 ?_
      obtain ⟨b2, h⟩ := bnd_some h
      refine r_iald hc hw k2 (inL b2 l2) dX5_readToken_19 ?_
      refine lv_bipush (v := 32) hx hb dX5_readToken_20 (by decide) ?_
      refine lv_icmp_ne (tgt := 38) hx hb dX5_readToken_22 (by decide) (fun c3 => ?_) (fun c3 => ?_)
      · have h := ifF c3 h
        exact w_X5_readToken_38 hc hr S _ _ _ hw (lv_sub hl [0] rfl) h
      · have h := ifT c3 h
        refine lv_aload_n hx hb dX5_readToken_25 rfl (lv_at hl 0 rfl) ?_
        refine lv_dup hx hb dX5_readToken_26 rfl ?_
        refine r_get5 hc hw k1 3 (by decide) (v := .int (gI S 1 3)) rfl q1_31 dX5_readToken_27 ?_
        refine lv_iconst (v := 1) hx hb dX5_readToken_30 (by decide) ?_
        refine lv_iadd hx hb dX5_readToken_31 ?_
        obtain ⟨S4, e5, h⟩ := nm_some h
        refine r_put5_3 hc hw k1 e5 q1_31 dX5_readToken_32 (fun H locs hw => ?_)
        refine lv_goto (tgt := 0) hx hb dX5_readToken_35 (by decide) ?_
        exact ih S4 _ _ _ hw (lv_sub hl [0] rfl) h
set_option maxRecDepth 20000 in
theorem c_X5_readToken (l : Launch) (X : Wx) {S S' : Mm} {r : Unit}   (h : f_X5_readToken S = some (r, S')) : Ct l X yX5_readToken cX5_readToken 1 none rm_X5_readToken [.ref (X.1 + 1)] S none S' := by
  refine r_entry (by decide) (Nat.le_of_ble_eq_true rfl) ?_
  intro p e s m args below meth c ls hc hr hw hl
  have hc : Cx p s m args meth c X cX5_readToken 1 RX5 := hc
  have hl : lv_has ls 1 [(0, .ref (X.1 + 1))] := hl
  have hx := hc.1
  have hb := hc.2.1
  unfold f_X5_readToken at h
  exact w_X5_readToken_0 hc hr 400 S _ _ _ hw (lv_sub hl [0] rfl) h
abbrev rm_X5_readNumber : Room := { frames := 3, cells := 0, slots := 0, locals := 62 }
theorem ms_X5_readNumber : MsV yX5_readNumber cX5_readNumber 3 (some .boolean) 2 := ⟨⟨q2_69, q1_2, by decide, by decide, by decide⟩, q2_68, qs_4⟩
set_option maxRecDepth 20000 in
theorem c_X5_readNumber (l : Launch) (X : Wx) {S S' : Mm} {r : Int32} {x1 : Int32} {x2 : Int32}  (h : f_X5_readNumber S x1 x2 = some (r, S')) : Ct l X yX5_readNumber cX5_readNumber 3 (some .boolean) rm_X5_readNumber [.ref (X.1 + 1), .int x1, .int x2] S (some (.int r)) S' := by
  refine r_entry (by decide) (Nat.le_of_ble_eq_true rfl) ?_
  intro p e s m args below meth c ls hc hr hw hl
  have hc : Cx p s m args meth c X cX5_readNumber 3 RX5 := hc
  have hl : lv_has ls 3 [(0, .ref (X.1 + 1)), (1, .int x1), (2, .int x2)] := hl
  have hx := hc.1
  have hb := hc.2.1
  unfold f_X5_readNumber at h
  refine lv_aload_n hx hb dX5_readNumber_0 rfl (lv_at hl 0 rfl) ?_
  obtain ⟨r1, S2, h3, h⟩ := bd_some h
  refine r_callV5v hc hw hl.1 (As := []) (rest := []) k1 (c_X5_readToken l X  h3) ms_X5_readToken rfl q2_44 rfl rfl ⟨rfl, rfl, Nat.le_of_ble_eq_true rfl, Nat.le_of_ble_eq_true rfl⟩ (Nat.le_of_ble_eq_true rfl) ⟨Nat.zero_le _, Nat.zero_le _⟩ dX5_readNumber_1 (fun H locs hw => ?_)
  refine lv_aload_n hx hb dX5_readNumber_4 rfl (lv_at hl 0 rfl) ?_
  refine r_get5 hc hw k1 4 (by decide) (v := .int (gI S2 1 4)) rfl q1_32 dX5_readNumber_5 ?_
  refine lv_iconst (v := 2) hx hb dX5_readNumber_8 (by decide) ?_
  refine lv_icmp_ne (tgt := 32) hx hb dX5_readNumber_9 (by decide) (fun c4 => ?_) (fun c4 => ?_)
  · have h := ifF c4 h
    refine lv_iconst (v := 0) hx hb dX5_readNumber_32 (by decide) ?_
    obtain ⟨rfl, rfl⟩ := sm_inj h
    exact r_zret hc hr (Or.inl rfl) hw dX5_readNumber_33
  · have h := ifT c4 h
    refine lv_aload_n hx hb dX5_readNumber_12 rfl (lv_at hl 0 rfl) ?_
    refine r_get5 hc hw k1 5 (by decide) (v := .int (gI S2 1 5)) rfl q1_33 dX5_readNumber_13 ?_
    refine lv_iload_n hx hb dX5_readNumber_16 rfl (lv_at hl 1 rfl) ?_
    refine lv_icmp_lt (tgt := 32) hx hb dX5_readNumber_17 (by decide) (fun c5 => ?_) (fun c5 => ?_)
    · have h := ifT c5 h
      refine lv_iconst (v := 0) hx hb dX5_readNumber_32 (by decide) ?_
      obtain ⟨rfl, rfl⟩ := sm_inj h
      exact r_zret hc hr (Or.inl rfl) hw dX5_readNumber_33
    · have h := ifF c5 h
      refine lv_aload_n hx hb dX5_readNumber_20 rfl (lv_at hl 0 rfl) ?_
      refine r_get5 hc hw k1 5 (by decide) (v := .int (gI S2 1 5)) rfl q1_33 dX5_readNumber_21 ?_
      refine lv_iload_n hx hb dX5_readNumber_24 rfl (lv_at hl 2 rfl) ?_
      refine lv_icmp_gt (tgt := 32) hx hb dX5_readNumber_25 (by decide) (fun c6 => ?_) (fun c6 => ?_)
      · have h := ifT c6 h
        refine lv_iconst (v := 0) hx hb dX5_readNumber_32 (by decide) ?_
        obtain ⟨rfl, rfl⟩ := sm_inj h
        exact r_zret hc hr (Or.inl rfl) hw dX5_readNumber_33
      · have h := ifF c6 h
        refine lv_iconst (v := 1) hx hb dX5_readNumber_28 (by decide) ?_
        refine lv_goto (tgt := 33) hx hb dX5_readNumber_29 (by decide) ?_
        obtain ⟨rfl, rfl⟩ := sm_inj h
        exact r_zret hc hr (Or.inr rfl) hw dX5_readNumber_33
abbrev rm_X5_readAhead : Room := { frames := 4, cells := 0, slots := 0, locals := 84 }
theorem ms_X5_readAhead : MsV yX5_readAhead cX5_readAhead 3 (some .boolean) 1 := ⟨⟨q2_73, q1_2, by decide, by decide, by decide⟩, q2_72, qs_5⟩
set_option maxRecDepth 20000 in
theorem c_X5_readAhead (l : Launch) (X : Wx) {S S' : Mm} {r : Int32} {a1 : Nat} (ha1 : KK a1 = 4) (h : f_X5_readAhead S a1 = some (r, S')) : Ct l X yX5_readAhead cX5_readAhead 3 (some .boolean) rm_X5_readAhead [.ref (X.1 + 1), .ref (X.1 + a1)] S (some (.int r)) S' := by
  refine r_entry (by decide) (Nat.le_of_ble_eq_true rfl) ?_
  intro p e s m args below meth c ls hc hr hw hl
  have hc : Cx p s m args meth c X cX5_readAhead 3 RX5 := hc
  have hl : lv_has ls 3 [(0, .ref (X.1 + 1)), (1, .ref (X.1 + a1))] := hl
  have hx := hc.1
  have hb := hc.2.1
  unfold f_X5_readAhead at h
  refine lv_aload_n hx hb dX5_readAhead_0 rfl (lv_at hl 0 rfl) ?_
  refine lv_iconst (v := 0) hx hb dX5_readAhead_1 (by decide) ?_
  refine lv_aload_n hx hb dX5_readAhead_2 rfl (lv_at hl 1 rfl) ?_
  refine r_get4 hc hw ha1 0 (by decide) (v := .int (gI S a1 0)) rfl q1_60 dX5_readAhead_3 ?_
  refine lv_iconst (v := 1) hx hb dX5_readAhead_6 (by decide) ?_
  refine lv_isub hx hb dX5_readAhead_7 ?_
  obtain ⟨r1, S2, h3, h⟩ := bd_some h
  refine r_callV5i hc hw hl.1 (As := [.int 0, .int ((gI S a1 0) - 1)]) (rest := []) k1 (c_X5_readNumber l X  h3) ms_X5_readNumber rfl q2_66 rfl rfl ⟨rfl, rfl, Nat.le_of_ble_eq_true rfl, Nat.le_of_ble_eq_true rfl⟩ (Nat.le_of_ble_eq_true rfl) ⟨Nat.zero_le _, Nat.zero_le _⟩ dX5_readAhead_8 (fun H locs hw => ?_)
  refine lv_if_ne (tgt := 16) hx hb dX5_readAhead_11 (by decide) (fun c4 => ?_) (fun c4 => ?_)
  · have h := ifF c4 h
    refine lv_aload_n hx hb dX5_readAhead_16 rfl (lv_at hl 0 rfl) ?_
    refine r_get5 hc hw k1 5 (by decide) (v := .int (gI S2 1 5)) rfl q1_33 dX5_readAhead_17 ?_
    obtain ⟨v5, e6, h⟩ := nm_some h
    refine r_top e6 ?_
    refine lv_istore_n (lv' := [(2, .int v5), (0, .ref (X.1 + 1)), (1, .ref (X.1 + a1))]) hx hb dX5_readAhead_20 rfl hl (by decide) rfl (fun ls hl => ?_)
    refine lv_aload_n hx hb dX5_readAhead_21 rfl (lv_at hl 1 rfl) ?_
    refine lv_iload_n hx hb dX5_readAhead_22 rfl (lv_at hl 0 rfl) ?_
    refine lv_iconst (v := 1) hx hb dX5_readAhead_23 (by decide) ?_
    refine lv_iadd hx hb dX5_readAhead_24 ?_
    refine lv_aload_n hx hb dX5_readAhead_25 rfl (lv_at hl 2 rfl) ?_
    refine r_get4 hc hw ha1 0 (by decide) (v := .int (gI S2 a1 0)) rfl q1_60 dX5_readAhead_26 ?_
    refine lv_iconst (v := 1) hx hb dX5_readAhead_29 (by decide) ?_
    refine lv_isub hx hb dX5_readAhead_30 ?_
    obtain ⟨r7, S8, h9, h⟩ := bd_some h
    refine r_callV5i hc hw hl.1 (As := [.int (v5 + 1), .int ((gI S2 a1 0) - 1)]) (rest := []) k1 (c_X5_readNumber l X  h9) ms_X5_readNumber rfl q2_66 rfl rfl ⟨rfl, rfl, Nat.le_of_ble_eq_true rfl, Nat.le_of_ble_eq_true rfl⟩ (Nat.le_of_ble_eq_true rfl) ⟨Nat.zero_le _, Nat.zero_le _⟩ dX5_readAhead_31 (fun H locs hw => ?_)
    refine lv_if_ne (tgt := 39) hx hb dX5_readAhead_34 (by decide) (fun c10 => ?_) (fun c10 => ?_)
    · have h := ifF c10 h
      refine lv_aload_n hx hb dX5_readAhead_39 rfl (lv_at hl 2 rfl) ?_
      refine r_get4 hc hw ha1 6 (by decide) (v := .ref (X.1 + (a1 + 5))) rfl q1_85 dX5_readAhead_40 ?_
      refine lv_iload_n hx hb dX5_readAhead_43 rfl (lv_at hl 0 rfl) ?_
      refine lv_dup2_11 hx hb dX5_readAhead_44 rfl rfl ?_
      obtain ⟨b11, h⟩ := bnd_some h
      refine r_iald hc hw (kf_4_ahead ha1) (inL b11 (lf_4_ahead ha1)) dX5_readAhead_45 ?_
      refine lv_iconst (v := 1) hx hb dX5_readAhead_46 (by decide) ?_
      refine lv_aload_n hx hb dX5_readAhead_47 rfl (lv_at hl 1 rfl) ?_
      refine r_get5 hc hw k1 5 (by decide) (v := .int (gI S8 1 5)) rfl q1_33 dX5_readAhead_48 ?_
      refine lv_ishl hx hb dX5_readAhead_51 ?_
      refine lv_ior hx hb dX5_readAhead_52 ?_
      obtain ⟨b12, h⟩ := bnd_some h
      obtain ⟨S13, e14, h⟩ := nm_some h
      refine r_iast hc hw (kf_4_ahead ha1) (inL b12 (lf_4_ahead ha1)) e14 dX5_readAhead_53 (fun H locs hw => ?_)
      refine lv_iconst (v := 1) hx hb dX5_readAhead_54 (by decide) ?_
      obtain ⟨rfl, rfl⟩ := sm_inj h
      exact r_zret hc hr (Or.inr rfl) hw dX5_readAhead_55
    · have h := ifT c10 h
      refine lv_iconst (v := 0) hx hb dX5_readAhead_37 (by decide) ?_
      obtain ⟨rfl, rfl⟩ := sm_inj h
      exact r_zret hc hr (Or.inl rfl) hw dX5_readAhead_38
  · have h := ifT c4 h
    refine lv_iconst (v := 0) hx hb dX5_readAhead_14 (by decide) ?_
    obtain ⟨rfl, rfl⟩ := sm_inj h
    exact r_zret hc hr (Or.inl rfl) hw dX5_readAhead_15
abbrev rm_X5_readEnd : Room := { frames := 3, cells := 0, slots := 0, locals := 62 }
theorem ms_X5_readEnd : MsV yX5_readEnd cX5_readEnd 1 (some .boolean) 0 := ⟨⟨q2_81, q1_2, by decide, by decide, by decide⟩, q2_80, qs_7⟩
set_option maxRecDepth 20000 in
theorem c_X5_readEnd (l : Launch) (X : Wx) {S S' : Mm} {r : Int32}   (h : f_X5_readEnd S = some (r, S')) : Ct l X yX5_readEnd cX5_readEnd 1 (some .boolean) rm_X5_readEnd [.ref (X.1 + 1)] S (some (.int r)) S' := by
  refine r_entry (by decide) (Nat.le_of_ble_eq_true rfl) ?_
  intro p e s m args below meth c ls hc hr hw hl
  have hc : Cx p s m args meth c X cX5_readEnd 1 RX5 := hc
  have hl : lv_has ls 1 [(0, .ref (X.1 + 1))] := hl
  have hx := hc.1
  have hb := hc.2.1
  unfold f_X5_readEnd at h
  refine lv_aload_n hx hb dX5_readEnd_0 rfl (lv_at hl 0 rfl) ?_
  obtain ⟨r1, S2, h3, h⟩ := bd_some h
  refine r_callV5v hc hw hl.1 (As := []) (rest := []) k1 (c_X5_readToken l X  h3) ms_X5_readToken rfl q2_44 rfl rfl ⟨rfl, rfl, Nat.le_of_ble_eq_true rfl, Nat.le_of_ble_eq_true rfl⟩ (Nat.le_of_ble_eq_true rfl) ⟨Nat.zero_le _, Nat.zero_le _⟩ dX5_readEnd_1 (fun H locs hw => ?_)
  refine lv_aload_n hx hb dX5_readEnd_4 rfl (lv_at hl 0 rfl) ?_
  refine r_get5 hc hw k1 4 (by decide) (v := .int (gI S2 1 4)) rfl q1_32 dX5_readEnd_5 ?_
  refine lv_iconst (v := 3) hx hb dX5_readEnd_8 (by decide) ?_
  refine lv_icmp_ne (tgt := 16) hx hb dX5_readEnd_9 (by decide) (fun c4 => ?_) (fun c4 => ?_)
  · have h := ifF c4 h
    refine lv_iconst (v := 0) hx hb dX5_readEnd_16 (by decide) ?_
    obtain ⟨rfl, rfl⟩ := sm_inj h
    exact r_zret hc hr (Or.inl rfl) hw dX5_readEnd_17
  · have h := ifT c4 h
    refine lv_iconst (v := 1) hx hb dX5_readEnd_12 (by decide) ?_
    refine lv_goto (tgt := 17) hx hb dX5_readEnd_13 (by decide) ?_
    obtain ⟨rfl, rfl⟩ := sm_inj h
    exact r_zret hc hr (Or.inr rfl) hw dX5_readEnd_17
abbrev rm_X5_readStep : Room := { frames := 4, cells := 0, slots := 0, locals := 84 }
theorem ms_X5_readStep : MsV yX5_readStep cX5_readStep 3 (some .boolean) 1 := ⟨⟨q2_65, q1_2, by decide, by decide, by decide⟩, q2_64, qs_3⟩
set_option maxRecDepth 20000 in
theorem c_X5_readStep (l : Launch) (X : Wx) {S S' : Mm} {r : Int32} {a1 : Nat} (ha1 : KK a1 = 4) (h : f_X5_readStep S a1 = some (r, S')) : Ct l X yX5_readStep cX5_readStep 3 (some .boolean) rm_X5_readStep [.ref (X.1 + 1), .ref (X.1 + a1)] S (some (.int r)) S' := by
  refine r_entry (by decide) (Nat.le_of_ble_eq_true rfl) ?_
  intro p e s m args below meth c ls hc hr hw hl
  have hc : Cx p s m args meth c X cX5_readStep 3 RX5 := hc
  have hl : lv_has ls 3 [(0, .ref (X.1 + 1)), (1, .ref (X.1 + a1))] := hl
  have hx := hc.1
  have hb := hc.2.1
  unfold f_X5_readStep at h
  refine lv_aload_n hx hb dX5_readStep_0 rfl (lv_at hl 1 rfl) ?_
  refine r_get4 hc hw ha1 0 (by decide) (v := .int (gI S a1 0)) rfl q1_60 dX5_readStep_1 ?_
  obtain ⟨v1, e2, h⟩ := nm_some h
  refine r_top e2 ?_
  refine lv_istore_n (lv' := [(2, .int v1), (0, .ref (X.1 + 1)), (1, .ref (X.1 + a1))]) hx hb dX5_readStep_4 rfl hl (by decide) rfl (fun ls hl => ?_)
  refine lv_aload_n hx hb dX5_readStep_5 rfl (lv_at hl 1 rfl) ?_
  refine lv_iconst (v := 1) hx hb dX5_readStep_6 (by decide) ?_
  refine lv_bipush (v := 99) hx hb dX5_readStep_7 (by decide) ?_
  obtain ⟨r3, S4, h5, h⟩ := bd_some h
  refine r_callV5i hc hw hl.1 (As := [.int 1, .int 99]) (rest := []) k1 (c_X5_readNumber l X  h5) ms_X5_readNumber rfl q2_66 rfl rfl ⟨rfl, rfl, Nat.le_of_ble_eq_true rfl, Nat.le_of_ble_eq_true rfl⟩ (Nat.le_of_ble_eq_true rfl) ⟨Nat.zero_le _, Nat.zero_le _⟩ dX5_readStep_9 (fun H locs hw => ?_)
  refine lv_if_ne (tgt := 17) hx hb dX5_readStep_12 (by decide) (fun c6 => ?_) (fun c6 => ?_)
  · have h := ifF c6 h
    refine lv_aload_n hx hb dX5_readStep_17 rfl (lv_at hl 2 rfl) ?_
    refine r_get4 hc hw ha1 2 (by decide) (v := .ref (X.1 + (a1 + 1))) rfl q1_69 dX5_readStep_18 ?_
    refine lv_iload_n hx hb dX5_readStep_21 rfl (lv_at hl 0 rfl) ?_
    refine lv_aload_n hx hb dX5_readStep_22 rfl (lv_at hl 1 rfl) ?_
    refine r_get5 hc hw k1 5 (by decide) (v := .int (gI S4 1 5)) rfl q1_33 dX5_readStep_23 ?_
    obtain ⟨b7, h⟩ := bnd_some h
    obtain ⟨S8, e9, h⟩ := nm_some h
    refine r_iast hc hw (kf_4_seconds ha1) (inL b7 (lf_4_seconds ha1)) e9 dX5_readStep_26 (fun H locs hw => ?_)
    refine lv_aload_n hx hb dX5_readStep_27 rfl (lv_at hl 1 rfl) ?_
    refine lv_iconst (v := 0) hx hb dX5_readStep_28 (by decide) ?_
    refine lv_bipush (v := 9) hx hb dX5_readStep_29 (by decide) ?_
    obtain ⟨r10, S11, h12, h⟩ := bd_some h
    refine r_callV5i hc hw hl.1 (As := [.int 0, .int 9]) (rest := []) k1 (c_X5_readNumber l X  h12) ms_X5_readNumber rfl q2_66 rfl rfl ⟨rfl, rfl, Nat.le_of_ble_eq_true rfl, Nat.le_of_ble_eq_true rfl⟩ (Nat.le_of_ble_eq_true rfl) ⟨Nat.zero_le _, Nat.zero_le _⟩ dX5_readStep_31 (fun H locs hw => ?_)
    refine lv_if_ne (tgt := 39) hx hb dX5_readStep_34 (by decide) (fun c13 => ?_) (fun c13 => ?_)
    · have h := ifF c13 h
      refine lv_aload_n hx hb dX5_readStep_39 rfl (lv_at hl 2 rfl) ?_
      refine r_get4 hc hw ha1 3 (by decide) (v := .ref (X.1 + (a1 + 2))) rfl q1_73 dX5_readStep_40 ?_
      refine lv_iload_n hx hb dX5_readStep_43 rfl (lv_at hl 0 rfl) ?_
      refine lv_aload_n hx hb dX5_readStep_44 rfl (lv_at hl 1 rfl) ?_
      refine r_get5 hc hw k1 5 (by decide) (v := .int (gI S11 1 5)) rfl q1_33 dX5_readStep_45 ?_
      obtain ⟨b14, h⟩ := bnd_some h
      obtain ⟨S15, e16, h⟩ := nm_some h
      refine r_iast hc hw (kf_4_fault ha1) (inL b14 (lf_4_fault ha1)) e16 dX5_readStep_48 (fun H locs hw => ?_)
      refine lv_aload_n hx hb dX5_readStep_49 rfl (lv_at hl 1 rfl) ?_
      refine lv_iconst (v := 1) hx hb dX5_readStep_50 (by decide) ?_
      refine lv_bipush (v := 30) hx hb dX5_readStep_51 (by decide) ?_
      obtain ⟨r17, S18, h19, h⟩ := bd_some h
      refine r_callV5i hc hw hl.1 (As := [.int 1, .int 30]) (rest := []) k1 (c_X5_readNumber l X  h19) ms_X5_readNumber rfl q2_66 rfl rfl ⟨rfl, rfl, Nat.le_of_ble_eq_true rfl, Nat.le_of_ble_eq_true rfl⟩ (Nat.le_of_ble_eq_true rfl) ⟨Nat.zero_le _, Nat.zero_le _⟩ dX5_readStep_53 (fun H locs hw => ?_)
      refine lv_if_ne (tgt := 61) hx hb dX5_readStep_56 (by decide) (fun c20 => ?_) (fun c20 => ?_)
      · have h := ifF c20 h
        refine lv_aload_n hx hb dX5_readStep_61 rfl (lv_at hl 2 rfl) ?_
        refine r_get4 hc hw ha1 4 (by decide) (v := .ref (X.1 + (a1 + 3))) rfl q1_77 dX5_readStep_62 ?_
        refine lv_iload_n hx hb dX5_readStep_65 rfl (lv_at hl 0 rfl) ?_
        refine lv_aload_n hx hb dX5_readStep_66 rfl (lv_at hl 1 rfl) ?_
        refine r_get5 hc hw k1 5 (by decide) (v := .int (gI S18 1 5)) rfl q1_33 dX5_readStep_67 ?_
        obtain ⟨b21, h⟩ := bnd_some h
        obtain ⟨S22, e23, h⟩ := nm_some h
        refine r_iast hc hw (kf_4_look ha1) (inL b21 (lf_4_look ha1)) e23 dX5_readStep_70 (fun H locs hw => ?_)
        refine lv_aload_n hx hb dX5_readStep_71 rfl (lv_at hl 1 rfl) ?_
        refine lv_iconst (v := 0) hx hb dX5_readStep_72 (by decide) ?_
        refine lv_bipush (v := 9) hx hb dX5_readStep_73 (by decide) ?_
        obtain ⟨r24, S25, h26, h⟩ := bd_some h
        refine r_callV5i hc hw hl.1 (As := [.int 0, .int 9]) (rest := []) k1 (c_X5_readNumber l X  h26) ms_X5_readNumber rfl q2_66 rfl rfl ⟨rfl, rfl, Nat.le_of_ble_eq_true rfl, Nat.le_of_ble_eq_true rfl⟩ (Nat.le_of_ble_eq_true rfl) ⟨Nat.zero_le _, Nat.zero_le _⟩ dX5_readStep_75 (fun H locs hw => ?_)
        refine lv_if_ne (tgt := 83) hx hb dX5_readStep_78 (by decide) (fun c27 => ?_) (fun c27 => ?_)
        · have h := ifF c27 h
          refine lv_aload_n hx hb dX5_readStep_83 rfl (lv_at hl 2 rfl) ?_
          refine r_get4 hc hw ha1 5 (by decide) (v := .ref (X.1 + (a1 + 4))) rfl q1_82 dX5_readStep_84 ?_
          refine lv_iload_n hx hb dX5_readStep_87 rfl (lv_at hl 0 rfl) ?_
          refine lv_aload_n hx hb dX5_readStep_88 rfl (lv_at hl 1 rfl) ?_
          refine r_get5 hc hw k1 5 (by decide) (v := .int (gI S25 1 5)) rfl q1_33 dX5_readStep_89 ?_
          obtain ⟨b28, h⟩ := bnd_some h
          obtain ⟨S29, e30, h⟩ := nm_some h
          refine r_iast hc hw (kf_4_miss ha1) (inL b28 (lf_4_miss ha1)) e30 dX5_readStep_92 (fun H locs hw => ?_)
          refine lv_aload_n hx hb dX5_readStep_93 rfl (lv_at hl 2 rfl) ?_
          refine r_get4 hc hw ha1 6 (by decide) (v := .ref (X.1 + (a1 + 5))) rfl q1_85 dX5_readStep_94 ?_
          refine lv_iload_n hx hb dX5_readStep_97 rfl (lv_at hl 0 rfl) ?_
          refine lv_iconst (v := 0) hx hb dX5_readStep_98 (by decide) ?_
          obtain ⟨b31, h⟩ := bnd_some h
          obtain ⟨S32, e33, h⟩ := nm_some h
          refine r_iast hc hw (kf_4_ahead ha1) (inL b31 (lf_4_ahead ha1)) e33 dX5_readStep_99 (fun H locs hw => ?_)
          refine lv_aload_n hx hb dX5_readStep_100 rfl (lv_at hl 2 rfl) ?_
          refine lv_dup hx hb dX5_readStep_101 rfl ?_
          refine r_get4 hc hw ha1 0 (by decide) (v := .int (gI S32 a1 0)) rfl q1_60 dX5_readStep_102 ?_
          refine lv_iconst (v := 1) hx hb dX5_readStep_105 (by decide) ?_
          refine lv_iadd hx hb dX5_readStep_106 ?_
          obtain ⟨S34, e35, h⟩ := nm_some h
          refine r_put4_0 hc hw ha1 e35 q1_60 dX5_readStep_107 (fun H locs hw => ?_)
          refine lv_iconst (v := 1) hx hb dX5_readStep_110 (by decide) ?_
          obtain ⟨rfl, rfl⟩ := sm_inj h
          exact r_zret hc hr (Or.inr rfl) hw dX5_readStep_111
        · have h := ifT c27 h
          refine lv_iconst (v := 0) hx hb dX5_readStep_81 (by decide) ?_
          obtain ⟨rfl, rfl⟩ := sm_inj h
          exact r_zret hc hr (Or.inl rfl) hw dX5_readStep_82
      · have h := ifT c20 h
        refine lv_iconst (v := 0) hx hb dX5_readStep_59 (by decide) ?_
        obtain ⟨rfl, rfl⟩ := sm_inj h
        exact r_zret hc hr (Or.inl rfl) hw dX5_readStep_60
    · have h := ifT c13 h
      refine lv_iconst (v := 0) hx hb dX5_readStep_37 (by decide) ?_
      obtain ⟨rfl, rfl⟩ := sm_inj h
      exact r_zret hc hr (Or.inl rfl) hw dX5_readStep_38
  · have h := ifT c6 h
    refine lv_iconst (v := 0) hx hb dX5_readStep_15 (by decide) ?_
    obtain ⟨rfl, rfl⟩ := sm_inj h
    exact r_zret hc hr (Or.inl rfl) hw dX5_readStep_16
abbrev rm_X5_readPrice : Room := { frames := 4, cells := 0, slots := 0, locals := 84 }
theorem ms_X5_readPrice : MsV yX5_readPrice cX5_readPrice 2 (some .boolean) 1 := ⟨⟨q2_77, q1_2, by decide, by decide, by decide⟩, q2_76, qs_6⟩
set_option maxRecDepth 20000 in
theorem c_X5_readPrice (l : Launch) (X : Wx) {S S' : Mm} {r : Int32} {a1 : Nat} (ha1 : KK a1 = 4) (h : f_X5_readPrice S a1 = some (r, S')) : Ct l X yX5_readPrice cX5_readPrice 2 (some .boolean) rm_X5_readPrice [.ref (X.1 + 1), .ref (X.1 + a1)] S (some (.int r)) S' := by
  refine r_entry (by decide) (Nat.le_of_ble_eq_true rfl) ?_
  intro p e s m args below meth c ls hc hr hw hl
  have hc : Cx p s m args meth c X cX5_readPrice 2 RX5 := hc
  have hl : lv_has ls 2 [(0, .ref (X.1 + 1)), (1, .ref (X.1 + a1))] := hl
  have hx := hc.1
  have hb := hc.2.1
  unfold f_X5_readPrice at h
  refine lv_aload_n hx hb dX5_readPrice_0 rfl (lv_at hl 0 rfl) ?_
  refine lv_iconst (v := 0) hx hb dX5_readPrice_1 (by decide) ?_
  refine lv_bipush (v := 99) hx hb dX5_readPrice_2 (by decide) ?_
  obtain ⟨r1, S2, h3, h⟩ := bd_some h
  refine r_callV5i hc hw hl.1 (As := [.int 0, .int 99]) (rest := []) k1 (c_X5_readNumber l X  h3) ms_X5_readNumber rfl q2_66 rfl rfl ⟨rfl, rfl, Nat.le_of_ble_eq_true rfl, Nat.le_of_ble_eq_true rfl⟩ (Nat.le_of_ble_eq_true rfl) ⟨Nat.zero_le _, Nat.zero_le _⟩ dX5_readPrice_4 (fun H locs hw => ?_)
  refine lv_if_ne (tgt := 12) hx hb dX5_readPrice_7 (by decide) (fun c4 => ?_) (fun c4 => ?_)
  · have h := ifF c4 h
    refine lv_aload_n hx hb dX5_readPrice_12 rfl (lv_at hl 1 rfl) ?_
    refine lv_aload_n hx hb dX5_readPrice_13 rfl (lv_at hl 0 rfl) ?_
    refine r_get5 hc hw k1 5 (by decide) (v := .int (gI S2 1 5)) rfl q1_33 dX5_readPrice_14 ?_
    obtain ⟨S5, e6, h⟩ := nm_some h
    refine r_put4_1 hc hw ha1 e6 q1_64 dX5_readPrice_17 (fun H locs hw => ?_)
    refine lv_aload_n hx hb dX5_readPrice_20 rfl (lv_at hl 0 rfl) ?_
    refine lv_iconst (v := 1) hx hb dX5_readPrice_21 (by decide) ?_
    obtain ⟨S7, e8, h⟩ := nm_some h
    refine r_put5_6 hc hw k1 e8 (Or.inr rfl) q1_34 dX5_readPrice_22 (fun H locs hw => ?_)
    refine lv_iconst (v := 1) hx hb dX5_readPrice_25 (by decide) ?_
    obtain ⟨rfl, rfl⟩ := sm_inj h
    exact r_zret hc hr (Or.inr rfl) hw dX5_readPrice_26
  · have h := ifT c4 h
    refine lv_iconst (v := 0) hx hb dX5_readPrice_10 (by decide) ?_
    obtain ⟨rfl, rfl⟩ := sm_inj h
    exact r_zret hc hr (Or.inl rfl) hw dX5_readPrice_11
abbrev rm_X5_readInto : Room := { frames := 5, cells := 0, slots := 0, locals := 106 }
theorem ms_X5_readInto : MsV yX5_readInto cX5_readInto 4 (some .int) 1 := ⟨⟨q2_43, q1_2, by decide, by decide, by decide⟩, q2_41, q2_42⟩
set_option maxRecDepth 20000 in
theorem w_X5_readInto_142 {p : Program} {l : Launch} {e : Env} {s : State} {m : MethodId} {args : Array Value} {below : List Frame} {meth : Method} {c : Code} {X : Wx} {r : Int32} {S' : Mm} (hc : Cx p s m args meth c X cX5_readInto 4 RX5) (hr : meth.sig.returnType = (some .int)) {a1 : Nat} (ha1 : KK a1 = 4) {kk12 : Int32 → Mm → Option (Int32 × Mm)} (hk12 : ∀ (x2 : Int32) (S : Mm) (H : Heap) (locs : List Loc) (ls : Array Slot), Wd X s.heap S H locs → lv_has ls 4 [(0, .ref (X.1 + 1)), (1, .ref (X.1 + a1)), (2, .int x2)] → kk12 x2 S = some (r, S') → W p l e rm_X5_readInto s m args below meth c H locs 0 0 (MQ below (Qq X (some (.int r)) S') args s 0 0 (AA X.1)) (F0 m 12 ls [])) : ∀ (x2 : Int32) (x3 : Int32) (S : Mm) (H : Heap) (locs : List Loc) (ls : Array Slot), Wd X s.heap S H locs → lv_has ls 4 [(0, .ref (X.1 + 1)), (1, .ref (X.1 + a1)), (2, .int x2), (3, .int x3)] → f_X5_readInto_142 kk12 a1 x2 x3 S = some (r, S') → W p l e rm_X5_readInto s m args below meth c H locs 0 0 (MQ below (Qq X (some (.int r)) S') args s 0 0 (AA X.1)) (F0 m 142 ls []) := by
  have hx := hc.1
  have hb := hc.2.1
  intro x2 x3 S H locs ls hw hl h
  unfold f_X5_readInto_142 at h
  refine lv_iload_n hx hb dX5_readInto_142 rfl (lv_at hl 3 rfl) ?_
  refine lv_if_eq (tgt := 153) hx hb dX5_readInto_143 (by decide) (fun c1 => ?_) (fun c1 => ?_)
  · have h := ifT c1 h
    refine lv_iconst (v := (-1)) hx hb dX5_readInto_153 (by decide) ?_
    obtain ⟨rfl, rfl⟩ := sm_inj h
    exact r_iret hc hr hw dX5_readInto_154
  · have h := ifF c1 h
    refine lv_aload_n hx hb dX5_readInto_146 rfl (lv_at hl 0 rfl) ?_
    obtain ⟨r2, S3, h4, h⟩ := bd_some h
    refine r_callV5i hc hw hl.1 (As := []) (rest := []) k1 (c_X5_readEnd l X  h4) ms_X5_readEnd rfl q2_78 rfl rfl ⟨rfl, rfl, Nat.le_of_ble_eq_true rfl, Nat.le_of_ble_eq_true rfl⟩ (Nat.le_of_ble_eq_true rfl) ⟨Nat.zero_le _, Nat.zero_le _⟩ dX5_readInto_147 (fun H locs hw => ?_)
    refine lv_if_ne (tgt := 155) hx hb dX5_readInto_150 (by decide) (fun c5 => ?_) (fun c5 => ?_)
    · have h := ifF c5 h
      obtain ⟨v6, e7, h⟩ := nm_some h
      refine lv_iinc (v := v6) (lv' := [(2, .int v6), (0, .ref (X.1 + 1)), (1, .ref (X.1 + a1)), (3, .int x3)]) hx hb dX5_readInto_155 hl (k := 2) rfl (by rw [e7]; rfl) (by decide) rfl (fun ls hl => ?_)
      refine lv_goto (tgt := 12) hx hb dX5_readInto_158 (by decide) ?_
      exact hk12 v6 S3 _ _ _ hw (lv_sub hl [1, 2, 0] rfl) h
    · have h := ifT c5 h
      refine lv_iconst (v := (-1)) hx hb dX5_readInto_153 (by decide) ?_
      obtain ⟨rfl, rfl⟩ := sm_inj h
      exact r_iret hc hr hw dX5_readInto_154
set_option maxRecDepth 20000 in
theorem w_X5_readInto_106 {p : Program} {l : Launch} {e : Env} {s : State} {m : MethodId} {args : Array Value} {below : List Frame} {meth : Method} {c : Code} {X : Wx} {r : Int32} {S' : Mm} (hc : Cx p s m args meth c X cX5_readInto 4 RX5) (hr : meth.sig.returnType = (some .int)) {a1 : Nat} (ha1 : KK a1 = 4) {kk12 : Int32 → Mm → Option (Int32 × Mm)} (hk12 : ∀ (x2 : Int32) (S : Mm) (H : Heap) (locs : List Loc) (ls : Array Slot), Wd X s.heap S H locs → lv_has ls 4 [(0, .ref (X.1 + 1)), (1, .ref (X.1 + a1)), (2, .int x2)] → kk12 x2 S = some (r, S') → W p l e rm_X5_readInto s m args below meth c H locs 0 0 (MQ below (Qq X (some (.int r)) S') args s 0 0 (AA X.1)) (F0 m 12 ls [])) : ∀ (x2 : Int32) (x3 : Int32) (S : Mm) (H : Heap) (locs : List Loc) (ls : Array Slot), Wd X s.heap S H locs → lv_has ls 4 [(0, .ref (X.1 + 1)), (1, .ref (X.1 + a1)), (2, .int x2), (3, .int x3)] → f_X5_readInto_106 kk12 a1 x2 x3 S = some (r, S') → W p l e rm_X5_readInto s m args below meth c H locs 0 0 (MQ below (Qq X (some (.int r)) S') args s 0 0 (AA X.1)) (F0 m 106 ls []) := by
  have hx := hc.1
  have hb := hc.2.1
  intro x2 x3 S H locs ls hw hl h
  unfold f_X5_readInto_106 at h
  refine lv_goto (tgt := 142) hx hb dX5_readInto_106 (by decide) ?_
  exact w_X5_readInto_142 hc hr ha1 hk12 x2 x3 S _ _ _ hw (lv_sub hl [0, 1, 2, 3] rfl) h
set_option maxRecDepth 20000 in
theorem w_X5_readInto_104 {p : Program} {l : Launch} {e : Env} {s : State} {m : MethodId} {args : Array Value} {below : List Frame} {meth : Method} {c : Code} {X : Wx} {r : Int32} {S' : Mm} (hc : Cx p s m args meth c X cX5_readInto 4 RX5) (hr : meth.sig.returnType = (some .int)) {a1 : Nat} (ha1 : KK a1 = 4) {kk12 : Int32 → Mm → Option (Int32 × Mm)} (hk12 : ∀ (x2 : Int32) (S : Mm) (H : Heap) (locs : List Loc) (ls : Array Slot), Wd X s.heap S H locs → lv_has ls 4 [(0, .ref (X.1 + 1)), (1, .ref (X.1 + a1)), (2, .int x2)] → kk12 x2 S = some (r, S') → W p l e rm_X5_readInto s m args below meth c H locs 0 0 (MQ below (Qq X (some (.int r)) S') args s 0 0 (AA X.1)) (F0 m 12 ls [])) : ∀ (x2 : Int32) (S : Mm) (H : Heap) (locs : List Loc) (ls : Array Slot), Wd X s.heap S H locs → lv_has ls 4 [(0, .ref (X.1 + 1)), (1, .ref (X.1 + a1)), (2, .int x2)] → f_X5_readInto_104 kk12 a1 x2 S = some (r, S') → W p l e rm_X5_readInto s m args below meth c H locs 0 0 (MQ below (Qq X (some (.int r)) S') args s 0 0 (AA X.1)) (F0 m 104 ls []) := by
  have hx := hc.1
  have hb := hc.2.1
  intro x2 S H locs ls hw hl h
  unfold f_X5_readInto_104 at h
  refine lv_iconst (v := 0) hx hb dX5_readInto_104 (by decide) ?_
  refine lv_istore_n (lv' := [(3, .int 0), (0, .ref (X.1 + 1)), (1, .ref (X.1 + a1)), (2, .int x2)]) hx hb dX5_readInto_105 rfl hl (by decide) rfl (fun ls hl => ?_)
  exact w_X5_readInto_106 hc hr ha1 hk12 x2 0 S _ _ _ hw (lv_sub hl [1, 2, 3, 0] rfl) h
set_option maxRecDepth 20000 in
theorem w_X5_readInto_139 {p : Program} {l : Launch} {e : Env} {s : State} {m : MethodId} {args : Array Value} {below : List Frame} {meth : Method} {c : Code} {X : Wx} {r : Int32} {S' : Mm} (hc : Cx p s m args meth c X cX5_readInto 4 RX5) (hr : meth.sig.returnType = (some .int)) {a1 : Nat} (ha1 : KK a1 = 4) {kk12 : Int32 → Mm → Option (Int32 × Mm)} (hk12 : ∀ (x2 : Int32) (S : Mm) (H : Heap) (locs : List Loc) (ls : Array Slot), Wd X s.heap S H locs → lv_has ls 4 [(0, .ref (X.1 + 1)), (1, .ref (X.1 + a1)), (2, .int x2)] → kk12 x2 S = some (r, S') → W p l e rm_X5_readInto s m args below meth c H locs 0 0 (MQ below (Qq X (some (.int r)) S') args s 0 0 (AA X.1)) (F0 m 12 ls [])) : ∀ (x2 : Int32) (x3 : Int32) (S : Mm) (H : Heap) (locs : List Loc) (ls : Array Slot), Wd X s.heap S H locs → lv_has ls 4 [(0, .ref (X.1 + 1)), (1, .ref (X.1 + a1)), (2, .int x2), (3, .int x3)] → f_X5_readInto_139 kk12 a1 x2 x3 S = some (r, S') → W p l e rm_X5_readInto s m args below meth c H locs 0 0 (MQ below (Qq X (some (.int r)) S') args s 0 0 (AA X.1)) (F0 m 139 ls []) := by
  have hx := hc.1
  have hb := hc.2.1
  intro x2 x3 S H locs ls hw hl h
  unfold f_X5_readInto_139 at h
  refine lv_goto (tgt := 142) hx hb dX5_readInto_139 (by decide) ?_
  exact w_X5_readInto_142 hc hr ha1 hk12 x2 x3 S _ _ _ hw (lv_sub hl [0, 1, 2, 3] rfl) h
set_option maxRecDepth 20000 in
theorem w_X5_readInto_137 {p : Program} {l : Launch} {e : Env} {s : State} {m : MethodId} {args : Array Value} {below : List Frame} {meth : Method} {c : Code} {X : Wx} {r : Int32} {S' : Mm} (hc : Cx p s m args meth c X cX5_readInto 4 RX5) (hr : meth.sig.returnType = (some .int)) {a1 : Nat} (ha1 : KK a1 = 4) {kk12 : Int32 → Mm → Option (Int32 × Mm)} (hk12 : ∀ (x2 : Int32) (S : Mm) (H : Heap) (locs : List Loc) (ls : Array Slot), Wd X s.heap S H locs → lv_has ls 4 [(0, .ref (X.1 + 1)), (1, .ref (X.1 + a1)), (2, .int x2)] → kk12 x2 S = some (r, S') → W p l e rm_X5_readInto s m args below meth c H locs 0 0 (MQ below (Qq X (some (.int r)) S') args s 0 0 (AA X.1)) (F0 m 12 ls [])) : ∀ (x2 : Int32) (S : Mm) (H : Heap) (locs : List Loc) (ls : Array Slot), Wd X s.heap S H locs → lv_has ls 4 [(0, .ref (X.1 + 1)), (1, .ref (X.1 + a1)), (2, .int x2)] → f_X5_readInto_137 kk12 a1 x2 S = some (r, S') → W p l e rm_X5_readInto s m args below meth c H locs 0 0 (MQ below (Qq X (some (.int r)) S') args s 0 0 (AA X.1)) (F0 m 137 ls []) := by
  have hx := hc.1
  have hb := hc.2.1
  intro x2 S H locs ls hw hl h
  unfold f_X5_readInto_137 at h
  refine lv_iconst (v := 0) hx hb dX5_readInto_137 (by decide) ?_
  refine lv_istore_n (lv' := [(3, .int 0), (0, .ref (X.1 + 1)), (1, .ref (X.1 + a1)), (2, .int x2)]) hx hb dX5_readInto_138 rfl hl (by decide) rfl (fun ls hl => ?_)
  exact w_X5_readInto_139 hc hr ha1 hk12 x2 0 S _ _ _ hw (lv_sub hl [1, 2, 3, 0] rfl) h
set_option maxRecDepth 20000 in
theorem w_X5_readInto_12 {p : Program} {l : Launch} {e : Env} {s : State} {m : MethodId} {args : Array Value} {below : List Frame} {meth : Method} {c : Code} {X : Wx} {r : Int32} {S' : Mm} (hc : Cx p s m args meth c X cX5_readInto 4 RX5) (hr : meth.sig.returnType = (some .int)) {a1 : Nat} (ha1 : KK a1 = 4)  : ∀ (n : Nat), ∀ (x2 : Int32) (S : Mm) (H : Heap) (locs : List Loc) (ls : Array Slot), Wd X s.heap S H locs → lv_has ls 4 [(0, .ref (X.1 + 1)), (1, .ref (X.1 + a1)), (2, .int x2)] → f_X5_readInto_12 a1 n x2 S = some (r, S') → W p l e rm_X5_readInto s m args below meth c H locs 0 0 (MQ below (Qq X (some (.int r)) S') args s 0 0 (AA X.1)) (F0 m 12 ls []) := by
  have hx := hc.1
  have hb := hc.2.1
  intro n
  induction n with
  | zero => intro x2 S H locs ls hw hl h; cases h
  | succ n ih =>
    intro x2 S H locs ls hw hl h
    rw [f_X5_readInto_12] at h
    refine lv_iload_n hx hb dX5_readInto_12 rfl (lv_at hl 2 rfl) ?_
    refine lv_sipush (v := 150) hx hb dX5_readInto_13 (by decide) ?_
    refine lv_icmp_gt (tgt := 161) hx hb dX5_readInto_16 (by decide) (fun c1 => ?_) (fun c1 => ?_)
    · have h := ifT c1 h
      refine lv_iconst (v := (-1)) hx hb dX5_readInto_161 (by decide) ?_
      obtain ⟨rfl, rfl⟩ := sm_inj h
      exact r_iret hc hr hw dX5_readInto_162
    · have h := ifF c1 h
      refine lv_aload_n hx hb dX5_readInto_19 rfl (lv_at hl 0 rfl) ?_
      obtain ⟨r2, S3, h4, h⟩ := bd_some h
      refine r_callV5v hc hw hl.1 (As := []) (rest := []) k1 (c_X5_readToken l X  h4) ms_X5_readToken rfl q2_44 rfl rfl ⟨rfl, rfl, Nat.le_of_ble_eq_true rfl, Nat.le_of_ble_eq_true rfl⟩ (Nat.le_of_ble_eq_true rfl) ⟨Nat.zero_le _, Nat.zero_le _⟩ dX5_readInto_20 (fun H locs hw => ?_)
      refine lv_aload_n hx hb dX5_readInto_23 rfl (lv_at hl 0 rfl) ?_
      refine r_get5 hc hw k1 4 (by decide) (v := .int (gI S3 1 4)) rfl q1_32 dX5_readInto_24 ?_
      refine lv_if_ne (tgt := 32) hx hb dX5_readInto_27 (by decide) (fun c5 => ?_) (fun c5 => ?_)
      · have h := ifF c5 h
        refine lv_iconst (v := 0) hx hb dX5_readInto_32 (by decide) ?_
        refine lv_istore_n (lv' := [(3, .int 0), (0, .ref (X.1 + 1)), (1, .ref (X.1 + a1)), (2, .int x2)]) hx hb dX5_readInto_33 rfl hl (by decide) rfl (fun ls hl => ?_)
        refine lv_aload_n hx hb dX5_readInto_34 rfl (lv_at hl 1 rfl) ?_
        refine r_get5 hc hw k1 4 (by decide) (v := .int (gI S3 1 4)) rfl q1_32 dX5_readInto_35 ?_
        refine lv_iconst (v := 1) hx hb dX5_readInto_38 (by decide) ?_
        refine lv_icmp_ne (tgt := 49) hx hb dX5_readInto_39 (by decide) (fun c6 => ?_) (fun c6 => ?_)
        · have h := ifF c6 h
          refine lv_iconst (v := 0) hx hb dX5_readInto_49 (by decide) ?_
          refine lv_lookup (off := 92) (tgt := 142) hx hb dX5_readInto_50 (by decide) (by decide) (by decide) ?_
          exact w_X5_readInto_142 hc hr ha1 ih x2 0 S3 _ _ _ hw (lv_sub hl [1, 2, 3, 0] rfl) h
        · have h := ifT c6 h
          refine lv_aload_n hx hb dX5_readInto_42 rfl (lv_at hl 1 rfl) ?_
          refine r_get5 hc hw k1 5 (by decide) (v := .int (gI S3 1 5)) rfl q1_33 dX5_readInto_43 ?_
          refine lv_goto (tgt := 50) hx hb dX5_readInto_46 (by decide) ?_
          by_cases c7 : (gI S3 1 5) = 104
          · have h := ifT c7 h
            refine lv_lookup (off := 59) (tgt := 109) hx hb dX5_readInto_50 (by decide) (by rw [c7]; decide) (by decide) ?_
            refine lv_aload_n hx hb dX5_readInto_109 rfl (lv_at hl 1 rfl) ?_
            refine lv_aload_n hx hb dX5_readInto_110 rfl (lv_at hl 2 rfl) ?_
            obtain ⟨r8, S9, h10, h⟩ := bd_some h
            refine r_callV5i hc hw hl.1 (As := [.ref (X.1 + a1)]) (rest := []) k1 (c_X5_readAhead l X ha1 h10) ms_X5_readAhead rfl q2_70 rfl rfl ⟨rfl, rfl, Nat.le_of_ble_eq_true rfl, Nat.le_of_ble_eq_true rfl⟩ (Nat.le_of_ble_eq_true rfl) ⟨Nat.zero_le _, Nat.zero_le _⟩ dX5_readInto_111 (fun H locs hw => ?_)
            refine lv_istore_n (lv' := [(3, .int r8), (0, .ref (X.1 + 1)), (1, .ref (X.1 + a1)), (2, .int x2)]) hx hb dX5_readInto_114 rfl hl (by decide) rfl (fun ls hl => ?_)
            refine lv_goto (tgt := 142) hx hb dX5_readInto_115 (by decide) ?_
            exact w_X5_readInto_142 hc hr ha1 ih x2 r8 S9 _ _ _ hw (lv_sub hl [1, 2, 3, 0] rfl) h
          · have h := ifF c7 h
            by_cases c11 : (gI S3 1 5) = 112
            · have h := ifT c11 h
              refine lv_lookup (off := 68) (tgt := 118) hx hb dX5_readInto_50 (by decide) (by rw [c11]; decide) (by decide) ?_
              refine lv_aload_n hx hb dX5_readInto_118 rfl (lv_at hl 1 rfl) ?_
              refine r_get5 hc hw k1 6 (by decide) (v := .int (gI S3 1 6)) rfl q1_34 dX5_readInto_119 ?_
              refine lv_if_ne (tgt := 137) hx hb dX5_readInto_122 (by decide) (fun c12 => ?_) (fun c12 => ?_)
              · have h := ifF c12 h
                exact w_X5_readInto_137 hc hr ha1 ih x2 S3 _ _ _ hw (lv_sub hl [1, 2, 3] rfl) h
              · have h := ifT c12 h
                refine lv_aload_n hx hb dX5_readInto_125 rfl (lv_at hl 1 rfl) ?_
                refine lv_aload_n hx hb dX5_readInto_126 rfl (lv_at hl 2 rfl) ?_
                obtain ⟨r13, S14, h15, h⟩ := bd_some h
                refine r_callV5i hc hw hl.1 (As := [.ref (X.1 + a1)]) (rest := []) k1 (c_X5_readPrice l X ha1 h15) ms_X5_readPrice rfl q2_74 rfl rfl ⟨rfl, rfl, Nat.le_of_ble_eq_true rfl, Nat.le_of_ble_eq_true rfl⟩ (Nat.le_of_ble_eq_true rfl) ⟨Nat.zero_le _, Nat.zero_le _⟩ dX5_readInto_127 (fun H locs hw => ?_)
                refine lv_if_eq (tgt := 137) hx hb dX5_readInto_130 (by decide) (fun c16 => ?_) (fun c16 => ?_)
                · have h := ifT c16 h
                  exact w_X5_readInto_137 hc hr ha1 ih x2 S14 _ _ _ hw (lv_sub hl [1, 2, 3] rfl) h
                · have h := ifF c16 h
                  refine lv_iconst (v := 1) hx hb dX5_readInto_133 (by decide) ?_
                  refine lv_goto (tgt := 138) hx hb dX5_readInto_134 (by decide) ?_
                  refine lv_istore_n (lv' := [(3, .int 1), (0, .ref (X.1 + 1)), (1, .ref (X.1 + a1)), (2, .int x2)]) hx hb dX5_readInto_138 rfl hl (by decide) rfl (fun ls hl => ?_)
                  exact w_X5_readInto_139 hc hr ha1 ih x2 1 S14 _ _ _ hw (lv_sub hl [1, 2, 3, 0] rfl) h
            · have h := ifF c11 h
              by_cases c17 : (gI S3 1 5) = 115
              · have h := ifT c17 h
                refine lv_lookup (off := 34) (tgt := 84) hx hb dX5_readInto_50 (by decide) (by rw [c17]; decide) (by decide) ?_
                refine lv_aload_n hx hb dX5_readInto_84 rfl (lv_at hl 2 rfl) ?_
                refine r_get4 hc hw ha1 0 (by decide) (v := .int (gI S3 a1 0)) rfl q1_60 dX5_readInto_85 ?_
                refine lv_iconst (v := 5) hx hb dX5_readInto_88 (by decide) ?_
                refine lv_icmp_ge (tgt := 104) hx hb dX5_readInto_89 (by decide) (fun c18 => ?_) (fun c18 => ?_)
                · have h := ifT c18 h
                  exact w_X5_readInto_104 hc hr ha1 ih x2 S3 _ _ _ hw (lv_sub hl [1, 2, 3] rfl) h
                · have h := ifF c18 h
                  refine lv_aload_n hx hb dX5_readInto_92 rfl (lv_at hl 1 rfl) ?_
                  refine lv_aload_n hx hb dX5_readInto_93 rfl (lv_at hl 2 rfl) ?_
                  obtain ⟨r19, S20, h21, h⟩ := bd_some h
                  refine r_callV5i hc hw hl.1 (As := [.ref (X.1 + a1)]) (rest := []) k1 (c_X5_readStep l X ha1 h21) ms_X5_readStep rfl q2_62 rfl rfl ⟨rfl, rfl, Nat.le_of_ble_eq_true rfl, Nat.le_of_ble_eq_true rfl⟩ (Nat.le_of_ble_eq_true rfl) ⟨Nat.zero_le _, Nat.zero_le _⟩ dX5_readInto_94 (fun H locs hw => ?_)
                  refine lv_if_eq (tgt := 104) hx hb dX5_readInto_97 (by decide) (fun c22 => ?_) (fun c22 => ?_)
                  · have h := ifT c22 h
                    exact w_X5_readInto_104 hc hr ha1 ih x2 S20 _ _ _ hw (lv_sub hl [1, 2, 3] rfl) h
                  · have h := ifF c22 h
                    refine lv_iconst (v := 1) hx hb dX5_readInto_100 (by decide) ?_
                    refine lv_goto (tgt := 105) hx hb dX5_readInto_101 (by decide) ?_
                    refine lv_istore_n (lv' := [(3, .int 1), (0, .ref (X.1 + 1)), (1, .ref (X.1 + a1)), (2, .int x2)]) hx hb dX5_readInto_105 rfl hl (by decide) rfl (fun ls hl => ?_)
                    exact w_X5_readInto_106 hc hr ha1 ih x2 1 S20 _ _ _ hw (lv_sub hl [1, 2, 3, 0] rfl) h
              · have h := ifF c17 h
                refine lv_lookup (off := 92) (tgt := 142) hx hb dX5_readInto_50 (by decide) ((lv_osw c7 (by decide)).trans ((lv_osw c11 (by decide)).trans ((lv_osw c17 (by decide)).trans (rfl)))) (by decide) ?_
                exact w_X5_readInto_142 hc hr ha1 ih x2 0 S3 _ _ _ hw (lv_sub hl [1, 2, 3, 0] rfl) h
      · have h := ifT c5 h
        refine lv_iload_n hx hb dX5_readInto_30 rfl (lv_at hl 2 rfl) ?_
        obtain ⟨rfl, rfl⟩ := sm_inj h
        exact r_iret hc hr hw dX5_readInto_31
set_option maxRecDepth 20000 in
theorem c_X5_readInto (l : Launch) (X : Wx) {S S' : Mm} {r : Int32} {a1 : Nat} (ha1 : KK a1 = 4) (h : f_X5_readInto S a1 = some (r, S')) : Ct l X yX5_readInto cX5_readInto 4 (some .int) rm_X5_readInto [.ref (X.1 + 1), .ref (X.1 + a1)] S (some (.int r)) S' := by
  refine r_entry (by decide) (Nat.le_of_ble_eq_true rfl) ?_
  intro p e s m args below meth c ls hc hr hw hl
  have hc : Cx p s m args meth c X cX5_readInto 4 RX5 := hc
  have hl : lv_has ls 4 [(0, .ref (X.1 + 1)), (1, .ref (X.1 + a1))] := hl
  have hx := hc.1
  have hb := hc.2.1
  unfold f_X5_readInto at h
  refine lv_aload_n hx hb dX5_readInto_0 rfl (lv_at hl 0 rfl) ?_
  refine lv_iconst (v := 0) hx hb dX5_readInto_1 (by decide) ?_
  obtain ⟨S1, e2, h⟩ := nm_some h
  refine r_put5_3 hc hw k1 e2 q1_31 dX5_readInto_2 (fun H locs hw => ?_)
  refine lv_aload_n hx hb dX5_readInto_5 rfl (lv_at hl 0 rfl) ?_
  refine lv_iconst (v := 0) hx hb dX5_readInto_6 (by decide) ?_
  obtain ⟨S3, e4, h⟩ := nm_some h
  refine r_put5_6 hc hw k1 e4 (Or.inl rfl) q1_34 dX5_readInto_7 (fun H locs hw => ?_)
  refine lv_iconst (v := 0) hx hb dX5_readInto_10 (by decide) ?_
  refine lv_istore_n (lv' := [(2, .int 0), (0, .ref (X.1 + 1)), (1, .ref (X.1 + a1))]) hx hb dX5_readInto_11 rfl hl (by decide) rfl (fun ls hl => ?_)
  exact w_X5_readInto_12 hc hr ha1 400 0 S3 _ _ _ hw (lv_sub hl [1, 2, 0] rfl) h
