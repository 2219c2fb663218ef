abbrev rm_X7_isStep : Room := { frames := 1, cells := 0, slots := 0, locals := 22 }
theorem ms_X7_isStep : MsV yX7_isStep cX7_isStep 2 (some .boolean) 1 := ⟨⟨q4_29, q1_8, by decide, by decide, by decide⟩, q4_28, qs_32⟩
set_option maxRecDepth 20000 in
theorem c_X7_isStep (l : Launch) (X : Wx) {S S' : Mm} {r : Int32} {x1 : Int32}  (h : f_X7_isStep S x1 = some (r, S')) : Ct l X yX7_isStep cX7_isStep 2 (some .boolean) rm_X7_isStep [.ref (X.1 + 163), .int x1] S (some (.int r)) S' := by
  refine r_entry (by decide) (Nat.le_of_ble_eq_true rfl) ?_
  intro p e s m args below meth c ls hc hr hw hl
  have hc : Cx p s m args meth c X cX7_isStep 2 RX7 := hc
  have hl : lv_has ls 2 [(0, .ref (X.1 + 163)), (1, .int x1)] := hl
  have hx := hc.1
  have hb := hc.2.1
  unfold f_X7_isStep at h
  refine lv_iload_n hx hb dX7_isStep_0 rfl (lv_at hl 1 rfl) ?_
  refine lv_iconst (v := 0) hx hb dX7_isStep_1 (by decide) ?_
  refine lv_aload_n hx hb dX7_isStep_2 rfl (lv_at hl 0 rfl) ?_
  refine r_get7 hc hw k163 3 (by decide) (v := .ref (X.1 + 165)) rfl q3_131 dX7_isStep_3 ?_
  refine lv_iconst (v := 0) hx hb dX7_isStep_6 (by decide) ?_
  obtain ⟨b1, h⟩ := bnd_some h
  refine r_iald hc hw k165 (inL b1 l165) dX7_isStep_7 ?_
  refine lv_iconst (v := 1) hx hb dX7_isStep_8 (by decide) ?_
  refine lv_isub hx hb dX7_isStep_9 ?_
  obtain ⟨r2, S3, h4, h⟩ := bd_some h
  refine r_callSi hc hw hl.1 (As := [.int x1, .int 0, .int ((gI S 165 (0 : Int32).toNatClampNeg) - 1)]) (rest := []) (c_X7_in l X  h4) ms_X7_in q3_227 rfl rfl ⟨rfl, rfl, Nat.le_of_ble_eq_true rfl, Nat.le_of_ble_eq_true rfl⟩ (Nat.le_of_ble_eq_true rfl) ⟨Nat.zero_le _, Nat.zero_le _⟩ dX7_isStep_10 (fun H locs hw => ?_)
  obtain ⟨b5, h⟩ := bnd_some h
  obtain ⟨rfl, rfl⟩ := sm_inj h
  exact r_zret hc hr (of_decide_eq_true b5) hw dX7_isStep_13
abbrev rm_X7_isLawful : Room := { frames := 0, cells := 0, slots := 0, locals := 0 }
theorem ms_X7_isLawful : MsV yX7_isLawful cX7_isLawful 4 (some .boolean) 0 := ⟨⟨q4_136, q1_8, by decide, by decide, by decide⟩, q4_135, qs_42⟩
set_option maxRecDepth 20000 in
theorem w_X7_isLawful_16 {p : Program} {l : Launch} {e : Env} {s : State} {m : MethodId} {args : Array Value} {below : List Frame} {meth : Method} {c : Code} {X : Wx} {r : Int32} {S' : Mm} (hc : Cx p s m args meth c X cX7_isLawful 4 RX7) (hr : meth.sig.returnType = (some .boolean))  {kk4 : Int32 → Int32 → Mm → Option (Int32 × Mm)} (hk4 : ∀ (x1 : Int32) (x2 : Int32) (S : Mm) (H : Heap) (locs : List Loc) (ls : Array Slot), Wd X s.heap S H locs → lv_has ls 4 [(0, .ref (X.1 + 163)), (1, .int x1), (2, .int x2)] → kk4 x1 x2 S = some (r, S') → W p l e rm_X7_isLawful s m args below meth c H locs 0 0 (MQ below (Qq X (some (.int r)) S') args s 0 0 (AA X.1)) (F0 m 4 ls [])) : ∀ (n : Nat), ∀ (x1 : Int32) (x2 : Int32) (x3 : Int32) (S : Mm) (H : Heap) (locs : List Loc) (ls : Array Slot), Wd X s.heap S H locs → lv_has ls 4 [(0, .ref (X.1 + 163)), (1, .int x1), (2, .int x2), (3, .int x3)] → f_X7_isLawful_16 kk4 n x1 x2 x3 S = some (r, S') → W p l e rm_X7_isLawful s m args below meth c H locs 0 0 (MQ below (Qq X (some (.int r)) S') args s 0 0 (AA X.1)) (F0 m 16 ls []) := by
  have hx := hc.1
  have hb := hc.2.1
  intro n
  induction n with
  | zero => intro x1 x2 x3 S H locs ls hw hl h; cases h
  | succ n ih =>
    intro x1 x2 x3 S H locs ls hw hl h
    rw [f_X7_isLawful_16] at h
    refine lv_iload_n hx hb dX7_isLawful_16 rfl (lv_at hl 3 rfl) ?_
    refine lv_iload_n hx hb dX7_isLawful_17 rfl (lv_at hl 2 rfl) ?_
    refine lv_icmp_ge (tgt := 60) hx hb dX7_isLawful_18 (by decide) (fun c1 => ?_) (fun c1 => ?_)
    · have h := ifT c1 h
      obtain ⟨v2, e3, h⟩ := nm_some h
      refine lv_iinc (v := v2) (lv' := [(2, .int v2), (0, .ref (X.1 + 163)), (1, .int x1), (3, .int x3)]) hx hb dX7_isLawful_60 hl (k := 2) rfl (by rw [e3]; rfl) (by decide) rfl (fun ls hl => ?_)
      refine lv_goto (tgt := 4) hx hb dX7_isLawful_63 (by decide) ?_
      exact hk4 x1 v2 S _ _ _ hw (lv_sub hl [1, 2, 0] rfl) h
    · have h := ifF c1 h
      refine lv_iload_n hx hb dX7_isLawful_21 rfl (lv_at hl 1 rfl) ?_
      refine lv_if_eq (tgt := 52) hx hb dX7_isLawful_22 (by decide) (fun c4 => ?_) (fun c4 => ?_)
      · have h := ifT c4 h
        refine lv_iconst (v := 0) hx hb dX7_isLawful_52 (by decide) ?_
        refine lv_istore_n (lv' := [(1, .int 0), (0, .ref (X.1 + 163)), (2, .int x2), (3, .int x3)]) hx hb dX7_isLawful_53 rfl hl (by decide) rfl (fun ls hl => ?_)
        obtain ⟨v5, e6, h⟩ := nm_some h
        refine lv_iinc (v := v5) (lv' := [(3, .int v5), (1, .int 0), (0, .ref (X.1 + 163)), (2, .int x2)]) hx hb dX7_isLawful_54 hl (k := 3) rfl (by rw [e6]; rfl) (by decide) rfl (fun ls hl => ?_)
        refine lv_goto (tgt := 16) hx hb dX7_isLawful_57 (by decide) ?_
        exact ih 0 x2 v5 S _ _ _ hw (lv_sub hl [2, 1, 3, 0] rfl) h
      · have h := ifF c4 h
        refine lv_aload_n hx hb dX7_isLawful_25 rfl (lv_at hl 0 rfl) ?_
        refine r_get7 hc hw k163 8 (by decide) (v := .ref (X.1 + 170)) rfl q3_136 dX7_isLawful_26 ?_
        refine lv_aload_n hx hb dX7_isLawful_29 rfl (lv_at hl 0 rfl) ?_
        refine r_get7 hc hw k163 20 (by decide) (v := .ref (X.1 + 174)) rfl q3_148 dX7_isLawful_30 ?_
        refine lv_iload_n hx hb dX7_isLawful_33 rfl (lv_at hl 2 rfl) ?_
        obtain ⟨b7, h⟩ := bnd_some h
        refine r_iald hc hw k174 (inL b7 l174) dX7_isLawful_34 ?_
        obtain ⟨b8, h⟩ := bnd_some h
        refine r_iald hc hw k170 (inL b8 l170) dX7_isLawful_35 ?_
        refine lv_aload_n hx hb dX7_isLawful_36 rfl (lv_at hl 0 rfl) ?_
        refine r_get7 hc hw k163 20 (by decide) (v := .ref (X.1 + 174)) rfl q3_148 dX7_isLawful_37 ?_
        refine lv_iload_n hx hb dX7_isLawful_40 rfl (lv_at hl 3 rfl) ?_
        obtain ⟨b9, h⟩ := bnd_some h
        refine r_iald hc hw k174 (inL b9 l174) dX7_isLawful_41 ?_
        refine lv_ishr hx hb dX7_isLawful_42 ?_
        refine lv_iconst (v := 1) hx hb dX7_isLawful_43 (by decide) ?_
        refine lv_iand hx hb dX7_isLawful_44 ?_
        refine lv_if_ne (tgt := 52) hx hb dX7_isLawful_45 (by decide) (fun c10 => ?_) (fun c10 => ?_)
        · have h := ifF c10 h
          refine lv_iconst (v := 0) hx hb dX7_isLawful_52 (by decide) ?_
          refine lv_istore_n (lv' := [(1, .int 0), (0, .ref (X.1 + 163)), (2, .int x2), (3, .int x3)]) hx hb dX7_isLawful_53 rfl hl (by decide) rfl (fun ls hl => ?_)
          obtain ⟨v11, e12, h⟩ := nm_some h
          refine lv_iinc (v := v11) (lv' := [(3, .int v11), (1, .int 0), (0, .ref (X.1 + 163)), (2, .int x2)]) hx hb dX7_isLawful_54 hl (k := 3) rfl (by rw [e12]; rfl) (by decide) rfl (fun ls hl => ?_)
          refine lv_goto (tgt := 16) hx hb dX7_isLawful_57 (by decide) ?_
          exact ih 0 x2 v11 S _ _ _ hw (lv_sub hl [2, 1, 3, 0] rfl) h
        · have h := ifT c10 h
          refine lv_iconst (v := 1) hx hb dX7_isLawful_48 (by decide) ?_
          refine lv_goto (tgt := 53) hx hb dX7_isLawful_49 (by decide) ?_
          refine lv_istore_n (lv' := [(1, .int 1), (0, .ref (X.1 + 163)), (2, .int x2), (3, .int x3)]) hx hb dX7_isLawful_53 rfl hl (by decide) rfl (fun ls hl => ?_)
          obtain ⟨v13, e14, h⟩ := nm_some h
          refine lv_iinc (v := v13) (lv' := [(3, .int v13), (1, .int 1), (0, .ref (X.1 + 163)), (2, .int x2)]) hx hb dX7_isLawful_54 hl (k := 3) rfl (by rw [e14]; rfl) (by decide) rfl (fun ls hl => ?_)
          refine lv_goto (tgt := 16) hx hb dX7_isLawful_57 (by decide) ?_
          exact ih 1 x2 v13 S _ _ _ hw (lv_sub hl [2, 1, 3, 0] rfl) h
set_option maxRecDepth 20000 in
theorem w_X7_isLawful_4 {p : Program} {l : Launch} {e : Env} {s : State} {m : MethodId} {args : Array Value} {below : List Frame} {meth : Method} {c : Code} {X : Wx} {r : Int32} {S' : Mm} (hc : Cx p s m args meth c X cX7_isLawful 4 RX7) (hr : meth.sig.returnType = (some .boolean))   : ∀ (n : Nat), ∀ (x1 : Int32) (x2 : Int32) (S : Mm) (H : Heap) (locs : List Loc) (ls : Array Slot), Wd X s.heap S H locs → lv_has ls 4 [(0, .ref (X.1 + 163)), (1, .int x1), (2, .int x2)] → f_X7_isLawful_4 n x1 x2 S = some (r, S') → W p l e rm_X7_isLawful s m args below meth c H locs 0 0 (MQ below (Qq X (some (.int r)) S') args s 0 0 (AA X.1)) (F0 m 4 ls []) := by
  have hx := hc.1
  have hb := hc.2.1
  intro n
  induction n with
  | zero => intro x1 x2 S H locs ls hw hl h; cases h
  | succ n ih =>
    intro x1 x2 S H locs ls hw hl h
    rw [f_X7_isLawful_4] at h
    refine lv_iload_n hx hb dX7_isLawful_4 rfl (lv_at hl 2 rfl) ?_
    refine lv_aload_n hx hb dX7_isLawful_5 rfl (lv_at hl 0 rfl) ?_
    refine r_get7 hc hw k163 3 (by decide) (v := .ref (X.1 + 165)) rfl q3_131 dX7_isLawful_6 ?_
    refine lv_iconst (v := 0) hx hb dX7_isLawful_9 (by decide) ?_
    obtain ⟨b1, h⟩ := bnd_some h
    refine r_iald hc hw k165 (inL b1 l165) dX7_isLawful_10 ?_
    refine lv_icmp_ge (tgt := 66) hx hb dX7_isLawful_11 (by decide) (fun c2 => ?_) (fun c2 => ?_)
    · have h := ifT c2 h
      refine lv_iload_n hx hb dX7_isLawful_66 rfl (lv_at hl 1 rfl) ?_
      obtain ⟨b3, h⟩ := bnd_some h
      obtain ⟨rfl, rfl⟩ := sm_inj h
      exact r_zret hc hr (of_decide_eq_true b3) hw dX7_isLawful_67
    · have h := ifF c2 h
      refine lv_iconst (v := 0) hx hb dX7_isLawful_14 (by decide) ?_
      refine lv_istore_n (lv' := [(3, .int 0), (0, .ref (X.1 + 163)), (1, .int x1), (2, .int x2)]) hx hb dX7_isLawful_15 rfl hl (by decide) rfl (fun ls hl => ?_)
      exact w_X7_isLawful_16 hc hr ih 400 x1 x2 0 S _ _ _ hw (lv_sub hl [1, 2, 3, 0] rfl) h
set_option maxRecDepth 20000 in
theorem c_X7_isLawful (l : Launch) (X : Wx) {S S' : Mm} {r : Int32}   (h : f_X7_isLawful S = some (r, S')) : Ct l X yX7_isLawful cX7_isLawful 4 (some .boolean) rm_X7_isLawful [.ref (X.1 + 163)] S (some (.int r)) S' := by
  refine r_entry (by decide) (Nat.le_of_ble_eq_true rfl) ?_
  intro p e s m args below meth c ls hc hr hw hl
  have hc : Cx p s m args meth c X cX7_isLawful 4 RX7 := hc
  have hl : lv_has ls 4 [(0, .ref (X.1 + 163))] := hl
  have hx := hc.1
  have hb := hc.2.1
  unfold f_X7_isLawful at h
  refine lv_iconst (v := 1) hx hb dX7_isLawful_0 (by decide) ?_
  refine lv_istore_n (lv' := [(1, .int 1), (0, .ref (X.1 + 163))]) hx hb dX7_isLawful_1 rfl hl (by decide) rfl (fun ls hl => ?_)
  refine lv_iconst (v := 0) hx hb dX7_isLawful_2 (by decide) ?_
  refine lv_istore_n (lv' := [(2, .int 0), (1, .int 1), (0, .ref (X.1 + 163))]) hx hb dX7_isLawful_3 rfl hl (by decide) rfl (fun ls hl => ?_)
  exact w_X7_isLawful_4 hc hr 400 1 0 S _ _ _ hw (lv_sub hl [2, 1, 0] rfl) h
abbrev rm_X7_nextRow : Room := { frames := 0, cells := 0, slots := 0, locals := 0 }
theorem ms_X7_nextRow : MsV yX7_nextRow cX7_nextRow 6 (some .boolean) 0 := ⟨⟨q4_140, q1_8, by decide, by decide, by decide⟩, q4_139, qs_43⟩
set_option maxRecDepth 20000 in
theorem w_X7_nextRow_113 {p : Program} {l : Launch} {e : Env} {s : State} {m : MethodId} {args : Array Value} {below : List Frame} {meth : Method} {c : Code} {X : Wx} {r : Int32} {S' : Mm} (hc : Cx p s m args meth c X cX7_nextRow 6 RX7) (hr : meth.sig.returnType = (some .boolean))   : ∀ (n : Nat), ∀ (x4 : Int32) (x5 : Int32) (S : Mm) (H : Heap) (locs : List Loc) (ls : Array Slot), Wd X s.heap S H locs → lv_has ls 6 [(0, .ref (X.1 + 163)), (4, .int x4), (5, .int x5)] → f_X7_nextRow_113 n x4 x5 S = some (r, S') → W p l e rm_X7_nextRow s m args below meth c H locs 0 0 (MQ below (Qq X (some (.int r)) S') args s 0 0 (AA X.1)) (F0 m 113 ls []) := by
  have hx := hc.1
  have hb := hc.2.1
  intro n
  induction n with
  | zero => intro x4 x5 S H locs ls hw hl h; cases h
  | succ n ih =>
    intro x4 x5 S H locs ls hw hl h
    rw [f_X7_nextRow_113] at h
    refine lv_iload hx hb dX7_nextRow_113 (lv_at hl 1 rfl) ?_
    refine lv_iload hx hb dX7_nextRow_115 (lv_at hl 2 rfl) ?_
    refine lv_icmp_ge (tgt := 159) hx hb dX7_nextRow_117 (by decide) (fun c1 => ?_) (fun c1 => ?_)
    · have h := ifT c1 h
      refine lv_iconst (v := 1) hx hb dX7_nextRow_159 (by decide) ?_
      obtain ⟨rfl, rfl⟩ := sm_inj h
      exact r_zret hc hr (Or.inr rfl) hw dX7_nextRow_160
    · have h := ifF c1 h
      refine lv_aload_n hx hb dX7_nextRow_120 rfl (lv_at hl 0 rfl) ?_
      refine r_get7 hc hw k163 20 (by decide) (v := .ref (X.1 + 174)) rfl q3_148 dX7_nextRow_121 ?_
      refine lv_iload hx hb dX7_nextRow_124 (lv_at hl 1 rfl) ?_
      obtain ⟨b2, h⟩ := bnd_some h
      refine r_iald hc hw k174 (inL b2 l174) dX7_nextRow_126 ?_
      obtain ⟨v3, e4, h⟩ := nm_some h
      refine r_top e4 ?_
      refine lv_istore_n (lv' := [(3, .int v3), (0, .ref (X.1 + 163)), (4, .int x4), (5, .int x5)]) hx hb dX7_nextRow_127 rfl hl (by decide) rfl (fun ls hl => ?_)
      refine lv_aload_n hx hb dX7_nextRow_128 rfl (lv_at hl 1 rfl) ?_
      refine r_get7 hc hw k163 20 (by decide) (v := .ref (X.1 + 174)) rfl q3_148 dX7_nextRow_129 ?_
      refine lv_iload hx hb dX7_nextRow_132 (lv_at hl 2 rfl) ?_
      refine lv_aload_n hx hb dX7_nextRow_134 rfl (lv_at hl 1 rfl) ?_
      refine r_get7 hc hw k163 20 (by decide) (v := .ref (X.1 + 174)) rfl q3_148 dX7_nextRow_135 ?_
      refine lv_iload hx hb dX7_nextRow_138 (lv_at hl 3 rfl) ?_
      obtain ⟨b5, h⟩ := bnd_some h
      refine r_iald hc hw k174 (inL b5 l174) dX7_nextRow_140 ?_
      obtain ⟨b6, h⟩ := bnd_some h
      obtain ⟨S7, e8, h⟩ := nm_some h
      refine r_iast hc hw k174 (inL b6 l174) e8 dX7_nextRow_141 (fun H locs hw => ?_)
      refine lv_aload_n hx hb dX7_nextRow_142 rfl (lv_at hl 1 rfl) ?_
      refine r_get7 hc hw k163 20 (by decide) (v := .ref (X.1 + 174)) rfl q3_148 dX7_nextRow_143 ?_
      refine lv_iload hx hb dX7_nextRow_146 (lv_at hl 3 rfl) ?_
      refine lv_iload_n hx hb dX7_nextRow_148 rfl (lv_at hl 0 rfl) ?_
      obtain ⟨b9, h⟩ := bnd_some h
      obtain ⟨S10, e11, h⟩ := nm_some h
      refine r_iast hc hw k174 (inL b9 l174) e11 dX7_nextRow_149 (fun H locs hw => ?_)
      obtain ⟨v12, e13, h⟩ := nm_some h
      refine lv_iinc (v := v12) (lv' := [(4, .int v12), (3, .int v3), (0, .ref (X.1 + 163)), (5, .int x5)]) hx hb dX7_nextRow_150 hl (k := 2) rfl (by rw [e13]; rfl) (by decide) rfl (fun ls hl => ?_)
      obtain ⟨v14, e15, h⟩ := nm_some h
      refine lv_iinc (v := v14) (lv' := [(5, .int v14), (4, .int v12), (3, .int v3), (0, .ref (X.1 + 163))]) hx hb dX7_nextRow_153 hl (k := 3) rfl (by rw [e15]; rfl) (by decide) rfl (fun ls hl => ?_)
      refine lv_goto (tgt := 113) hx hb dX7_nextRow_156 (by decide) ?_
      exact ih v12 v14 S10 _ _ _ hw (lv_sub hl [3, 1, 0] rfl) h
set_option maxRecDepth 20000 in
theorem w_X7_nextRow_51 {p : Program} {l : Launch} {e : Env} {s : State} {m : MethodId} {args : Array Value} {below : List Frame} {meth : Method} {c : Code} {X : Wx} {r : Int32} {S' : Mm} (hc : Cx p s m args meth c X cX7_nextRow 6 RX7) (hr : meth.sig.returnType = (some .boolean))   : ∀ (n : Nat), ∀ (x1 : Int32) (x2 : Int32) (S : Mm) (H : Heap) (locs : List Loc) (ls : Array Slot), Wd X s.heap S H locs → lv_has ls 6 [(0, .ref (X.1 + 163)), (1, .int x1), (2, .int x2)] → f_X7_nextRow_51 n x1 x2 S = some (r, S') → W p l e rm_X7_nextRow s m args below meth c H locs 0 0 (MQ below (Qq X (some (.int r)) S') args s 0 0 (AA X.1)) (F0 m 51 ls []) := by
  have hx := hc.1
  have hb := hc.2.1
  intro n
  induction n with
  | zero => intro x1 x2 S H locs ls hw hl h; cases h
  | succ n ih =>
    intro x1 x2 S H locs ls hw hl h
    rw [f_X7_nextRow_51] at h
    refine lv_aload_n hx hb dX7_nextRow_51 rfl (lv_at hl 0 rfl) ?_
    refine r_get7 hc hw k163 20 (by decide) (v := .ref (X.1 + 174)) rfl q3_148 dX7_nextRow_52 ?_
    refine lv_iload_n hx hb dX7_nextRow_55 rfl (lv_at hl 2 rfl) ?_
    obtain ⟨b1, h⟩ := bnd_some h
    refine r_iald hc hw k174 (inL b1 l174) dX7_nextRow_56 ?_
    refine lv_aload_n hx hb dX7_nextRow_57 rfl (lv_at hl 0 rfl) ?_
    refine r_get7 hc hw k163 20 (by decide) (v := .ref (X.1 + 174)) rfl q3_148 dX7_nextRow_58 ?_
    refine lv_iload_n hx hb dX7_nextRow_61 rfl (lv_at hl 1 rfl) ?_
    obtain ⟨b2, h⟩ := bnd_some h
    refine r_iald hc hw k174 (inL b2 l174) dX7_nextRow_62 ?_
    refine lv_icmp_ge (tgt := 72) hx hb dX7_nextRow_63 (by decide) (fun c3 => ?_) (fun c3 => ?_)
    · have h := ifT c3 h
      refine lv_aload_n hx hb dX7_nextRow_72 rfl (lv_at hl 0 rfl) ?_
      refine r_get7 hc hw k163 20 (by decide) (v := .ref (X.1 + 174)) rfl q3_148 dX7_nextRow_73 ?_
      refine lv_iload_n hx hb dX7_nextRow_76 rfl (lv_at hl 1 rfl) ?_
      obtain ⟨b4, h⟩ := bnd_some h
      refine r_iald hc hw k174 (inL b4 l174) dX7_nextRow_77 ?_
      obtain ⟨v5, e6, h⟩ := nm_some h
      refine r_top e6 ?_
      refine lv_istore_n (lv' := [(3, .int v5), (0, .ref (X.1 + 163)), (1, .int x1), (2, .int x2)]) hx hb dX7_nextRow_78 rfl hl (by decide) rfl (fun ls hl => ?_)
      refine lv_aload_n hx hb dX7_nextRow_79 rfl (lv_at hl 1 rfl) ?_
      refine r_get7 hc hw k163 20 (by decide) (v := .ref (X.1 + 174)) rfl q3_148 dX7_nextRow_80 ?_
      refine lv_iload_n hx hb dX7_nextRow_83 rfl (lv_at hl 2 rfl) ?_
      refine lv_aload_n hx hb dX7_nextRow_84 rfl (lv_at hl 1 rfl) ?_
      refine r_get7 hc hw k163 20 (by decide) (v := .ref (X.1 + 174)) rfl q3_148 dX7_nextRow_85 ?_
      refine lv_iload_n hx hb dX7_nextRow_88 rfl (lv_at hl 3 rfl) ?_
      obtain ⟨b7, h⟩ := bnd_some h
      refine r_iald hc hw k174 (inL b7 l174) dX7_nextRow_89 ?_
      obtain ⟨b8, h⟩ := bnd_some h
      obtain ⟨S9, e10, h⟩ := nm_some h
      refine r_iast hc hw k174 (inL b8 l174) e10 dX7_nextRow_90 (fun H locs hw => ?_)
      refine lv_aload_n hx hb dX7_nextRow_91 rfl (lv_at hl 1 rfl) ?_
      refine r_get7 hc hw k163 20 (by decide) (v := .ref (X.1 + 174)) rfl q3_148 dX7_nextRow_92 ?_
      refine lv_iload_n hx hb dX7_nextRow_95 rfl (lv_at hl 3 rfl) ?_
      refine lv_iload_n hx hb dX7_nextRow_96 rfl (lv_at hl 0 rfl) ?_
      obtain ⟨b11, h⟩ := bnd_some h
      obtain ⟨S12, e13, h⟩ := nm_some h
      refine r_iast hc hw k174 (inL b11 l174) e13 dX7_nextRow_97 (fun H locs hw => ?_)
      refine lv_iload_n hx hb dX7_nextRow_98 rfl (lv_at hl 2 rfl) ?_
      refine lv_iconst (v := 1) hx hb dX7_nextRow_99 (by decide) ?_
      refine lv_iadd hx hb dX7_nextRow_100 ?_
      obtain ⟨v14, e15, h⟩ := nm_some h
      refine r_top e15 ?_
      refine lv_istore (lv' := [(4, .int v14), (3, .int v5), (0, .ref (X.1 + 163)), (1, .int x1), (2, .int x2)]) hx hb dX7_nextRow_101 hl (by decide) rfl (fun ls hl => ?_)
      refine lv_aload_n hx hb dX7_nextRow_103 rfl (lv_at hl 2 rfl) ?_
      refine r_get7 hc hw k163 3 (by decide) (v := .ref (X.1 + 165)) rfl q3_131 dX7_nextRow_104 ?_
      refine lv_iconst (v := 0) hx hb dX7_nextRow_107 (by decide) ?_
      obtain ⟨b16, h⟩ := bnd_some h
      refine r_iald hc hw k165 (inL b16 l165) dX7_nextRow_108 ?_
      refine lv_iconst (v := 1) hx hb dX7_nextRow_109 (by decide) ?_
      refine lv_isub hx hb dX7_nextRow_110 ?_
      obtain ⟨v17, e18, h⟩ := nm_some h
      refine r_top e18 ?_
      refine lv_istore (lv' := [(5, .int v17), (4, .int v14), (3, .int v5), (0, .ref (X.1 + 163)), (1, .int x1), (2, .int x2)]) hx hb dX7_nextRow_111 hl (by decide) rfl (fun ls hl => ?_)
      exact w_X7_nextRow_113 hc hr 400 v14 v17 S12 _ _ _ hw (lv_sub hl [3, 1, 0] rfl) h
    · have h := ifF c3 h
      obtain ⟨v19, e20, h⟩ := nm_some h
      refine lv_iinc (v := v19) (lv' := [(2, .int v19), (0, .ref (X.1 + 163)), (1, .int x1)]) hx hb dX7_nextRow_66 hl (k := 2) rfl (by rw [e20]; rfl) (by decide) rfl (fun ls hl => ?_)
      refine lv_goto (tgt := 51) hx hb dX7_nextRow_69 (by decide) ?_
      exact ih x1 v19 S _ _ _ hw (lv_sub hl [1, 2, 0] rfl) h
set_option maxRecDepth 20000 in
theorem w_X7_nextRow_36 {p : Program} {l : Launch} {e : Env} {s : State} {m : MethodId} {args : Array Value} {below : List Frame} {meth : Method} {c : Code} {X : Wx} {r : Int32} {S' : Mm} (hc : Cx p s m args meth c X cX7_nextRow 6 RX7) (hr : meth.sig.returnType = (some .boolean))   : ∀ (x1 : Int32) (S : Mm) (H : Heap) (locs : List Loc) (ls : Array Slot), Wd X s.heap S H locs → lv_has ls 6 [(0, .ref (X.1 + 163)), (1, .int x1)] → f_X7_nextRow_36 x1 S = some (r, S') → W p l e rm_X7_nextRow s m args below meth c H locs 0 0 (MQ below (Qq X (some (.int r)) S') args s 0 0 (AA X.1)) (F0 m 36 ls []) := by
  have hx := hc.1
  have hb := hc.2.1
  intro x1 S H locs ls hw hl h
  unfold f_X7_nextRow_36 at h
  refine lv_iload_n hx hb dX7_nextRow_36 rfl (lv_at hl 1 rfl) ?_
  refine lv_if_ge (tgt := 42) hx hb dX7_nextRow_37 (by decide) (fun c1 => ?_) (fun c1 => ?_)
  · have h := ifT c1 h
    refine lv_aload_n hx hb dX7_nextRow_42 rfl (lv_at hl 0 rfl) ?_
    refine r_get7 hc hw k163 3 (by decide) (v := .ref (X.1 + 165)) rfl q3_131 dX7_nextRow_43 ?_
    refine lv_iconst (v := 0) hx hb dX7_nextRow_46 (by decide) ?_
    obtain ⟨b2, h⟩ := bnd_some h
    refine r_iald hc hw k165 (inL b2 l165) dX7_nextRow_47 ?_
    refine lv_iconst (v := 1) hx hb dX7_nextRow_48 (by decide) ?_
    refine lv_isub hx hb dX7_nextRow_49 ?_
    obtain ⟨v3, e4, h⟩ := nm_some h
    refine r_top e4 ?_
    refine lv_istore_n (lv' := [(2, .int v3), (0, .ref (X.1 + 163)), (1, .int x1)]) hx hb dX7_nextRow_50 rfl hl (by decide) rfl (fun ls hl => ?_)
    exact w_X7_nextRow_51 hc hr 400 x1 v3 S _ _ _ hw (lv_sub hl [1, 2, 0] rfl) h
  · have h := ifF c1 h
    refine lv_iconst (v := 0) hx hb dX7_nextRow_40 (by decide) ?_
    obtain ⟨rfl, rfl⟩ := sm_inj h
    exact r_zret hc hr (Or.inl rfl) hw dX7_nextRow_41
set_option maxRecDepth 20000 in
theorem w_X7_nextRow_9 {p : Program} {l : Launch} {e : Env} {s : State} {m : MethodId} {args : Array Value} {below : List Frame} {meth : Method} {c : Code} {X : Wx} {r : Int32} {S' : Mm} (hc : Cx p s m args meth c X cX7_nextRow 6 RX7) (hr : meth.sig.returnType = (some .boolean))   : ∀ (n : Nat), ∀ (x1 : Int32) (S : Mm) (H : Heap) (locs : List Loc) (ls : Array Slot), Wd X s.heap S H locs → lv_has ls 6 [(0, .ref (X.1 + 163)), (1, .int x1)] → f_X7_nextRow_9 n x1 S = some (r, S') → W p l e rm_X7_nextRow s m args below meth c H locs 0 0 (MQ below (Qq X (some (.int r)) S') args s 0 0 (AA X.1)) (F0 m 9 ls []) := by
  have hx := hc.1
  have hb := hc.2.1
  intro n
  induction n with
  | zero => intro x1 S H locs ls hw hl h; cases h
  | succ n ih =>
    intro x1 S H locs ls hw hl h
    rw [f_X7_nextRow_9] at h
    refine lv_iload_n hx hb dX7_nextRow_9 rfl (lv_at hl 1 rfl) ?_
    refine lv_if_lt (tgt := 36) hx hb dX7_nextRow_10 (by decide) (fun c1 => ?_) (fun c1 => ?_)
    · have h := ifT c1 h
      exact w_X7_nextRow_36 hc hr x1 S _ _ _ hw (lv_sub hl [0, 1] rfl) h
    · have h := ifF c1 h
      refine lv_aload_n hx hb dX7_nextRow_13 rfl (lv_at hl 0 rfl) ?_
      refine r_get7 hc hw k163 20 (by decide) (v := .ref (X.1 + 174)) rfl q3_148 dX7_nextRow_14 ?_
      refine lv_iload_n hx hb dX7_nextRow_17 rfl (lv_at hl 1 rfl) ?_
      obtain ⟨b2, h⟩ := bnd_some h
      refine r_iald hc hw k174 (inL b2 l174) dX7_nextRow_18 ?_
      refine lv_aload_n hx hb dX7_nextRow_19 rfl (lv_at hl 0 rfl) ?_
      refine r_get7 hc hw k163 20 (by decide) (v := .ref (X.1 + 174)) rfl q3_148 dX7_nextRow_20 ?_
      refine lv_iload_n hx hb dX7_nextRow_23 rfl (lv_at hl 1 rfl) ?_
      refine lv_iconst (v := 1) hx hb dX7_nextRow_24 (by decide) ?_
      refine lv_iadd hx hb dX7_nextRow_25 ?_
      obtain ⟨b3, h⟩ := bnd_some h
      refine r_iald hc hw k174 (inL b3 l174) dX7_nextRow_26 ?_
      refine lv_icmp_le (tgt := 36) hx hb dX7_nextRow_27 (by decide) (fun c4 => ?_) (fun c4 => ?_)
      · have h := ifT c4 h
        exact w_X7_nextRow_36 hc hr x1 S _ _ _ hw (lv_sub hl [0, 1] rfl) h
      · have h := ifF c4 h
        obtain ⟨v5, e6, h⟩ := nm_some h
        refine lv_iinc (v := v5) (lv' := [(1, .int v5), (0, .ref (X.1 + 163))]) hx hb dX7_nextRow_30 hl (k := 1) rfl (by rw [e6]; rfl) (by decide) rfl (fun ls hl => ?_)
        refine lv_goto (tgt := 9) hx hb dX7_nextRow_33 (by decide) ?_
        exact ih v5 S _ _ _ hw (lv_sub hl [1, 0] rfl) h
set_option maxRecDepth 20000 in
theorem c_X7_nextRow (l : Launch) (X : Wx) {S S' : Mm} {r : Int32}   (h : f_X7_nextRow S = some (r, S')) : Ct l X yX7_nextRow cX7_nextRow 6 (some .boolean) rm_X7_nextRow [.ref (X.1 + 163)] S (some (.int r)) S' := by
  refine r_entry (by decide) (Nat.le_of_ble_eq_true rfl) ?_
  intro p e s m args below meth c ls hc hr hw hl
  have hc : Cx p s m args meth c X cX7_nextRow 6 RX7 := hc
  have hl : lv_has ls 6 [(0, .ref (X.1 + 163))] := hl
  have hx := hc.1
  have hb := hc.2.1
  unfold f_X7_nextRow at h
  refine lv_aload_n hx hb dX7_nextRow_0 rfl (lv_at hl 0 rfl) ?_
  refine r_get7 hc hw k163 3 (by decide) (v := .ref (X.1 + 165)) rfl q3_131 dX7_nextRow_1 ?_
  refine lv_iconst (v := 0) hx hb dX7_nextRow_4 (by decide) ?_
  obtain ⟨b1, h⟩ := bnd_some h
  refine r_iald hc hw k165 (inL b1 l165) dX7_nextRow_5 ?_
  refine lv_iconst (v := 2) hx hb dX7_nextRow_6 (by decide) ?_
  refine lv_isub hx hb dX7_nextRow_7 ?_
  obtain ⟨v2, e3, h⟩ := nm_some h
  refine r_top e3 ?_
  refine lv_istore_n (lv' := [(1, .int v2), (0, .ref (X.1 + 163))]) hx hb dX7_nextRow_8 rfl hl (by decide) rfl (fun ls hl => ?_)
  exact w_X7_nextRow_9 hc hr 400 v2 S _ _ _ hw (lv_sub hl [1, 0] rfl) h
abbrev rm_X7_bestOrder : Room := { frames := 3, cells := 0, slots := 0, locals := 67 }
theorem ms_X7_bestOrder : MsV yX7_bestOrder cX7_bestOrder 6 (some .int) 1 := ⟨⟨q4_132, q1_8, by decide, by decide, by decide⟩, q4_130, q4_131⟩
set_option maxRecDepth 20000 in
theorem w_X7_bestOrder_83 {p : Program} {l : Launch} {e : Env} {s : State} {m : MethodId} {args : Array Value} {below : List Frame} {meth : Method} {c : Code} {X : Wx} {r : Int32} {S' : Mm} (hc : Cx p s m args meth c X cX7_bestOrder 6 RX7) (hr : meth.sig.returnType = (some .int))  {kk37 : Int32 → Int64 → Int32 → Mm → Option (Int32 × Mm)} (hk37 : ∀ (x1 : Int32) (x2 : Int64) (x4 : Int32) (S : Mm) (H : Heap) (locs : List Loc) (ls : Array Slot), Wd X s.heap S H locs → lv_has ls 6 [(0, .ref (X.1 + 163)), (1, .int x1), (2, .long x2), (4, .int x4)] → kk37 x1 x2 x4 S = some (r, S') → W p l e rm_X7_bestOrder s m args below meth c H locs 0 0 (MQ below (Qq X (some (.int r)) S') args s 0 0 (AA X.1)) (F0 m 37 ls [])) : ∀ (n : Nat), ∀ (x1 : Int32) (x2 : Int64) (x5 : Int32) (S : Mm) (H : Heap) (locs : List Loc) (ls : Array Slot), Wd X s.heap S H locs → lv_has ls 6 [(0, .ref (X.1 + 163)), (1, .int x1), (2, .long x2), (5, .int x5)] → f_X7_bestOrder_83 kk37 n x1 x2 x5 S = some (r, S') → W p l e rm_X7_bestOrder s m args below meth c H locs 0 0 (MQ below (Qq X (some (.int r)) S') args s 0 0 (AA X.1)) (F0 m 83 ls []) := by
  have hx := hc.1
  have hb := hc.2.1
  intro n
  induction n with
  | zero => intro x1 x2 x5 S H locs ls hw hl h; cases h
  | succ n ih =>
    intro x1 x2 x5 S H locs ls hw hl h
    rw [f_X7_bestOrder_83] at h
    refine lv_iload hx hb dX7_bestOrder_83 (lv_at hl 3 rfl) ?_
    refine lv_iconst (v := 5) hx hb dX7_bestOrder_85 (by decide) ?_
    refine lv_icmp_ge (tgt := 109) hx hb dX7_bestOrder_86 (by decide) (fun c1 => ?_) (fun c1 => ?_)
    · have h := ifT c1 h
      refine lv_aload_n hx hb dX7_bestOrder_109 rfl (lv_at hl 0 rfl) ?_
      obtain ⟨r2, S3, h4, h⟩ := bd_some h
      refine r_callV7i hc hw hl.1 (As := []) (rest := []) k163 (c_X7_nextRow l X  h4) ms_X7_nextRow rfl q4_137 rfl rfl ⟨rfl, rfl, Nat.le_of_ble_eq_true rfl, Nat.le_of_ble_eq_true rfl⟩ (Nat.le_of_ble_eq_true rfl) ⟨Nat.zero_le _, Nat.zero_le _⟩ dX7_bestOrder_110 (fun H locs hw => ?_)
      refine lv_istore (lv' := [(4, .int r2), (0, .ref (X.1 + 163)), (1, .int x1), (2, .long x2), (5, .int x5)]) hx hb dX7_bestOrder_113 hl (by decide) rfl (fun ls hl => ?_)
      refine lv_goto (tgt := 37) hx hb dX7_bestOrder_115 (by decide) ?_
      exact hk37 x1 x2 r2 S3 _ _ _ hw (lv_sub hl [1, 2, 3, 0] rfl) h
    · have h := ifF c1 h
      refine lv_aload_n hx hb dX7_bestOrder_89 rfl (lv_at hl 0 rfl) ?_
      refine r_get7 hc hw k163 27 (by decide) (v := .ref (X.1 + 177)) rfl q3_155 dX7_bestOrder_90 ?_
      refine lv_iload hx hb dX7_bestOrder_93 (lv_at hl 3 rfl) ?_
      refine lv_aload_n hx hb dX7_bestOrder_95 rfl (lv_at hl 0 rfl) ?_
      refine r_get7 hc hw k163 20 (by decide) (v := .ref (X.1 + 174)) rfl q3_148 dX7_bestOrder_96 ?_
      refine lv_iload hx hb dX7_bestOrder_99 (lv_at hl 3 rfl) ?_
      obtain ⟨b5, h⟩ := bnd_some h
      refine r_iald hc hw k174 (inL b5 l174) dX7_bestOrder_101 ?_
      obtain ⟨b6, h⟩ := bnd_some h
      obtain ⟨S7, e8, h⟩ := nm_some h
      refine r_iast hc hw k177 (inL b6 l177) e8 dX7_bestOrder_102 (fun H locs hw => ?_)
      obtain ⟨v9, e10, h⟩ := nm_some h
      refine lv_iinc (v := v9) (lv' := [(5, .int v9), (0, .ref (X.1 + 163)), (1, .int x1), (2, .long x2)]) hx hb dX7_bestOrder_103 hl (k := 3) rfl (by rw [e10]; rfl) (by decide) rfl (fun ls hl => ?_)
      refine lv_goto (tgt := 83) hx hb dX7_bestOrder_106 (by decide) ?_
      exact ih x1 x2 v9 S7 _ _ _ hw (lv_sub hl [1, 2, 3, 0] rfl) h
set_option maxRecDepth 20000 in
theorem w_X7_bestOrder_37 {p : Program} {l : Launch} {e : Env} {s : State} {m : MethodId} {args : Array Value} {below : List Frame} {meth : Method} {c : Code} {X : Wx} {r : Int32} {S' : Mm} (hc : Cx p s m args meth c X cX7_bestOrder 6 RX7) (hr : meth.sig.returnType = (some .int))   : ∀ (n : Nat), ∀ (x1 : Int32) (x2 : Int64) (x4 : Int32) (S : Mm) (H : Heap) (locs : List Loc) (ls : Array Slot), Wd X s.heap S H locs → lv_has ls 6 [(0, .ref (X.1 + 163)), (1, .int x1), (2, .long x2), (4, .int x4)] → f_X7_bestOrder_37 n x1 x2 x4 S = some (r, S') → W p l e rm_X7_bestOrder s m args below meth c H locs 0 0 (MQ below (Qq X (some (.int r)) S') args s 0 0 (AA X.1)) (F0 m 37 ls []) := by
  have hx := hc.1
  have hb := hc.2.1
  intro n
  induction n with
  | zero => intro x1 x2 x4 S H locs ls hw hl h; cases h
  | succ n ih =>
    intro x1 x2 x4 S H locs ls hw hl h
    rw [f_X7_bestOrder_37] at h
    refine lv_iload hx hb dX7_bestOrder_37 (lv_at hl 3 rfl) ?_
    refine lv_if_eq (tgt := 118) hx hb dX7_bestOrder_39 (by decide) (fun c1 => ?_) (fun c1 => ?_)
    · have h := ifT c1 h
      refine lv_aload_n hx hb dX7_bestOrder_118 rfl (lv_at hl 0 rfl) ?_
      refine r_get7 hc hw k163 27 (by decide) (v := .ref (X.1 + 177)) rfl q3_155 dX7_bestOrder_119 ?_
      refine lv_iload_n hx hb dX7_bestOrder_122 rfl (lv_at hl 1 rfl) ?_
      obtain ⟨b2, h⟩ := bnd_some h
      refine r_iald hc hw k177 (inL b2 l177) dX7_bestOrder_123 ?_
      obtain ⟨rfl, rfl⟩ := sm_inj h
      exact r_iret hc hr hw dX7_bestOrder_124
    · have h := ifF c1 h
      refine lv_aload_n hx hb dX7_bestOrder_42 rfl (lv_at hl 0 rfl) ?_
      obtain ⟨r3, S4, h5, h⟩ := bd_some h
      refine r_callV7i hc hw hl.1 (As := []) (rest := []) k163 (c_X7_isLawful l X  h5) ms_X7_isLawful rfl q4_133 rfl rfl ⟨rfl, rfl, Nat.le_of_ble_eq_true rfl, Nat.le_of_ble_eq_true rfl⟩ (Nat.le_of_ble_eq_true rfl) ⟨Nat.zero_le _, Nat.zero_le _⟩ dX7_bestOrder_43 (fun H locs hw => ?_)
      refine lv_if_eq (tgt := 109) hx hb dX7_bestOrder_46 (by decide) (fun c6 => ?_) (fun c6 => ?_)
      · have h := ifT c6 h
        refine lv_aload_n hx hb dX7_bestOrder_109 rfl (lv_at hl 0 rfl) ?_
        obtain ⟨r7, S8, h9, h⟩ := bd_some h
        refine r_callV7i hc hw hl.1 (As := []) (rest := []) k163 (c_X7_nextRow l X  h9) ms_X7_nextRow rfl q4_137 rfl rfl ⟨rfl, rfl, Nat.le_of_ble_eq_true rfl, Nat.le_of_ble_eq_true rfl⟩ (Nat.le_of_ble_eq_true rfl) ⟨Nat.zero_le _, Nat.zero_le _⟩ dX7_bestOrder_110 (fun H locs hw => ?_)
        refine lv_istore (lv' := [(4, .int r7), (0, .ref (X.1 + 163)), (1, .int x1), (2, .long x2)]) hx hb dX7_bestOrder_113 hl (by decide) rfl (fun ls hl => ?_)
        refine lv_goto (tgt := 37) hx hb dX7_bestOrder_115 (by decide) ?_
        exact ih x1 x2 r7 S8 _ _ _ hw (lv_sub hl [1, 2, 3, 0] rfl) h
      · have h := ifF c6 h
        refine lv_aload_n hx hb dX7_bestOrder_49 rfl (lv_at hl 0 rfl) ?_
        refine lv_aload_n hx hb dX7_bestOrder_50 rfl (lv_at hl 0 rfl) ?_
        refine r_get7 hc hw k163 16 (by decide) (v := .ref (X.1 + 172)) rfl q3_144 dX7_bestOrder_51 ?_
        refine lv_bipush (v := 10) hx hb dX7_bestOrder_54 (by decide) ?_
        obtain ⟨b10, h⟩ := bnd_some h
        refine r_iald hc hw k172 (inL b10 l172) dX7_bestOrder_56 ?_
        obtain ⟨r11, S12, h13, h⟩ := bd_some h
        refine r_callV7v hc hw hl.1 (As := [.int (gI S4 172 (10 : Int32).toNatClampNeg)]) (rest := []) k163 (c_X7_measure l X  h13) ms_X7_measure rfl q4_92 rfl rfl ⟨rfl, rfl, Nat.le_of_ble_eq_true rfl, Nat.le_of_ble_eq_true rfl⟩ (Nat.le_of_ble_eq_true rfl) ⟨Nat.zero_le _, Nat.zero_le _⟩ dX7_bestOrder_57 (fun H locs hw => ?_)
        refine lv_lload_n hx hb dX7_bestOrder_60 rfl (lv_at hl 2 rfl) ?_
        refine lv_lconst (v := 0) hx hb dX7_bestOrder_61 (by decide) ?_
        refine W.lcmp hx hb dX7_bestOrder_62 ?_
        refine lv_if_lt (tgt := 75) hx hb dX7_bestOrder_63 (by decide) (fun c14 => ?_) (fun c14 => ?_)
        · have h := ifT c14 h
          refine lv_aload_n hx hb dX7_bestOrder_75 rfl (lv_at hl 0 rfl) ?_
          refine r_get7 hc hw k163 22 (by decide) (v := .long (gJ S12 163 22)) rfl q3_150 dX7_bestOrder_76 ?_
          obtain ⟨v15, e16, h⟩ := nm_some h
          refine r_topl e16 ?_
          refine lv_lstore_n (lv' := [(2, .long v15), (0, .ref (X.1 + 163)), (1, .int x1), (4, .int x4)]) hx hb dX7_bestOrder_79 rfl hl (by decide) rfl (fun ls hl => ?_)
          refine lv_iconst (v := 0) hx hb dX7_bestOrder_80 (by decide) ?_
          refine lv_istore (lv' := [(5, .int 0), (2, .long v15), (0, .ref (X.1 + 163)), (1, .int x1), (4, .int x4)]) hx hb dX7_bestOrder_81 hl (by decide) rfl (fun ls hl => ?_)
          exact w_X7_bestOrder_83 hc hr ih 400 x1 v15 0 S12 _ _ _ hw (lv_sub hl [2, 3, 1, 0] rfl) h
        · have h := ifF c14 h
          refine lv_aload_n hx hb dX7_bestOrder_66 rfl (lv_at hl 0 rfl) ?_
          refine r_get7 hc hw k163 22 (by decide) (v := .long (gJ S12 163 22)) rfl q3_150 dX7_bestOrder_67 ?_
          refine lv_lload_n hx hb dX7_bestOrder_70 rfl (lv_at hl 2 rfl) ?_
          refine W.lcmp hx hb dX7_bestOrder_71 ?_
          refine lv_if_ge (tgt := 109) hx hb dX7_bestOrder_72 (by decide) (fun c17 => ?_) (fun c17 => ?_)
          · have h := ifT c17 h
            refine lv_aload_n hx hb dX7_bestOrder_109 rfl (lv_at hl 0 rfl) ?_
            obtain ⟨r18, S19, h20, h⟩ := bd_some h
            refine r_callV7i hc hw hl.1 (As := []) (rest := []) k163 (c_X7_nextRow l X  h20) ms_X7_nextRow rfl q4_137 rfl rfl ⟨rfl, rfl, Nat.le_of_ble_eq_true rfl, Nat.le_of_ble_eq_true rfl⟩ (Nat.le_of_ble_eq_true rfl) ⟨Nat.zero_le _, Nat.zero_le _⟩ dX7_bestOrder_110 (fun H locs hw => ?_)
            refine lv_istore (lv' := [(4, .int r18), (0, .ref (X.1 + 163)), (1, .int x1), (2, .long x2)]) hx hb dX7_bestOrder_113 hl (by decide) rfl (fun ls hl => ?_)
            refine lv_goto (tgt := 37) hx hb dX7_bestOrder_115 (by decide) ?_
            exact ih x1 x2 r18 S19 _ _ _ hw (lv_sub hl [1, 2, 3, 0] rfl) h
          · have h := ifF c17 h
            refine lv_aload_n hx hb dX7_bestOrder_75 rfl (lv_at hl 0 rfl) ?_
            refine r_get7 hc hw k163 22 (by decide) (v := .long (gJ S12 163 22)) rfl q3_150 dX7_bestOrder_76 ?_
            obtain ⟨v21, e22, h⟩ := nm_some h
            refine r_topl e22 ?_
            refine lv_lstore_n (lv' := [(2, .long v21), (0, .ref (X.1 + 163)), (1, .int x1), (4, .int x4)]) hx hb dX7_bestOrder_79 rfl hl (by decide) rfl (fun ls hl => ?_)
            refine lv_iconst (v := 0) hx hb dX7_bestOrder_80 (by decide) ?_
            refine lv_istore (lv' := [(5, .int 0), (2, .long v21), (0, .ref (X.1 + 163)), (1, .int x1), (4, .int x4)]) hx hb dX7_bestOrder_81 hl (by decide) rfl (fun ls hl => ?_)
            exact w_X7_bestOrder_83 hc hr ih 400 x1 v21 0 S12 _ _ _ hw (lv_sub hl [2, 3, 1, 0] rfl) h
set_option maxRecDepth 20000 in
theorem w_X7_bestOrder_12 {p : Program} {l : Launch} {e : Env} {s : State} {m : MethodId} {args : Array Value} {below : List Frame} {meth : Method} {c : Code} {X : Wx} {r : Int32} {S' : Mm} (hc : Cx p s m args meth c X cX7_bestOrder 6 RX7) (hr : meth.sig.returnType = (some .int))   : ∀ (n : Nat), ∀ (x1 : Int32) (x2 : Int32) (S : Mm) (H : Heap) (locs : List Loc) (ls : Array Slot), Wd X s.heap S H locs → lv_has ls 6 [(0, .ref (X.1 + 163)), (1, .int x1), (2, .int x2)] → f_X7_bestOrder_12 n x1 x2 S = some (r, S') → W p l e rm_X7_bestOrder s m args below meth c H locs 0 0 (MQ below (Qq X (some (.int r)) S') args s 0 0 (AA X.1)) (F0 m 12 ls []) := by
  have hx := hc.1
  have hb := hc.2.1
  intro n
  induction n with
  | zero => intro x1 x2 S H locs ls hw hl h; cases h
  | succ n ih =>
    intro x1 x2 S H locs ls hw hl h
    rw [f_X7_bestOrder_12] at h
    refine lv_iload_n hx hb dX7_bestOrder_12 rfl (lv_at hl 2 rfl) ?_
    refine lv_iconst (v := 5) hx hb dX7_bestOrder_13 (by decide) ?_
    refine lv_icmp_ge (tgt := 30) hx hb dX7_bestOrder_14 (by decide) (fun c1 => ?_) (fun c1 => ?_)
    · have h := ifT c1 h
      refine lv_ldc2 hx hb hc.2.2.2.1 (hc.2.2.2.2.1 _ q4_87) dX7_bestOrder_30 ?_
      refine lv_lstore_n (lv' := [(2, .long (-1)), (0, .ref (X.1 + 163)), (1, .int x1)]) hx hb dX7_bestOrder_33 rfl hl (by decide) rfl (fun ls hl => ?_)
      refine lv_iconst (v := 1) hx hb dX7_bestOrder_34 (by decide) ?_
      refine lv_istore (lv' := [(4, .int 1), (2, .long (-1)), (0, .ref (X.1 + 163)), (1, .int x1)]) hx hb dX7_bestOrder_35 hl (by decide) rfl (fun ls hl => ?_)
      exact w_X7_bestOrder_37 hc hr 400 x1 ((-1)) 1 S _ _ _ hw (lv_sub hl [2, 3, 1, 0] rfl) h
    · have h := ifF c1 h
      refine lv_aload_n hx hb dX7_bestOrder_17 rfl (lv_at hl 0 rfl) ?_
      refine r_get7 hc hw k163 20 (by decide) (v := .ref (X.1 + 174)) rfl q3_148 dX7_bestOrder_18 ?_
      refine lv_iload_n hx hb dX7_bestOrder_21 rfl (lv_at hl 2 rfl) ?_
      refine lv_iload_n hx hb dX7_bestOrder_22 rfl (lv_at hl 2 rfl) ?_
      obtain ⟨b2, h⟩ := bnd_some h
      obtain ⟨S3, e4, h⟩ := nm_some h
      refine r_iast hc hw k174 (inL b2 l174) e4 dX7_bestOrder_23 (fun H locs hw => ?_)
      obtain ⟨v5, e6, h⟩ := nm_some h
      refine lv_iinc (v := v5) (lv' := [(2, .int v5), (0, .ref (X.1 + 163)), (1, .int x1)]) hx hb dX7_bestOrder_24 hl (k := 2) rfl (by rw [e6]; rfl) (by decide) rfl (fun ls hl => ?_)
      refine lv_goto (tgt := 12) hx hb dX7_bestOrder_27 (by decide) ?_
      exact ih x1 v5 S3 _ _ _ hw (lv_sub hl [1, 2, 0] rfl) h
set_option maxRecDepth 20000 in
theorem c_X7_bestOrder (l : Launch) (X : Wx) {S S' : Mm} {r : Int32} {x1 : Int32}  (h : f_X7_bestOrder S x1 = some (r, S')) : Ct l X yX7_bestOrder cX7_bestOrder 6 (some .int) rm_X7_bestOrder [.ref (X.1 + 163), .int x1] S (some (.int r)) S' := by
  refine r_entry (by decide) (Nat.le_of_ble_eq_true rfl) ?_
  intro p e s m args below meth c ls hc hr hw hl
  have hc : Cx p s m args meth c X cX7_bestOrder 6 RX7 := hc
  have hl : lv_has ls 6 [(0, .ref (X.1 + 163)), (1, .int x1)] := hl
  have hx := hc.1
  have hb := hc.2.1
  unfold f_X7_bestOrder at h
  refine lv_aload_n hx hb dX7_bestOrder_0 rfl (lv_at hl 0 rfl) ?_
  refine lv_iload_n hx hb dX7_bestOrder_1 rfl (lv_at hl 1 rfl) ?_
  obtain ⟨r1, S2, h3, h⟩ := bd_some h
  refine r_callV7i hc hw hl.1 (As := [.int x1]) (rest := []) k163 (c_X7_isStep l X  h3) ms_X7_isStep rfl q4_26 rfl rfl ⟨rfl, rfl, Nat.le_of_ble_eq_true rfl, Nat.le_of_ble_eq_true rfl⟩ (Nat.le_of_ble_eq_true rfl) ⟨Nat.zero_le _, Nat.zero_le _⟩ dX7_bestOrder_2 (fun H locs hw => ?_)
  refine lv_if_ne (tgt := 10) hx hb dX7_bestOrder_5 (by decide) (fun c4 => ?_) (fun c4 => ?_)
  · have h := ifF c4 h
    refine lv_iconst (v := 0) hx hb dX7_bestOrder_10 (by decide) ?_
    refine lv_istore_n (lv' := [(2, .int 0), (0, .ref (X.1 + 163)), (1, .int x1)]) hx hb dX7_bestOrder_11 rfl hl (by decide) rfl (fun ls hl => ?_)
    exact w_X7_bestOrder_12 hc hr 400 x1 0 S2 _ _ _ hw (lv_sub hl [1, 2, 0] rfl) h
  · have h := ifT c4 h
    refine lv_iconst (v := (-1)) hx hb dX7_bestOrder_8 (by decide) ?_
    obtain ⟨rfl, rfl⟩ := sm_inj h
    exact r_iret hc hr hw dX7_bestOrder_9
abbrev rm_X7_blameFor : Room := { frames := 2, cells := 0, slots := 0, locals := 45 }
theorem ms_X7_blameFor : MsV yX7_blameFor cX7_blameFor 3 none 1 := ⟨⟨q4_153, q1_8, by decide, by decide, by decide⟩, q4_152, qs_44⟩
set_option maxRecDepth 20000 in
theorem w_X7_blameFor_10 {p : Program} {l : Launch} {e : Env} {s : State} {m : MethodId} {args : Array Value} {below : List Frame} {meth : Method} {c : Code} {X : Wx} {r : Unit} {S' : Mm} (hc : Cx p s m args meth c X cX7_blameFor 3 RX7) (hr : meth.sig.returnType = none)   : ∀ (n : Nat), ∀ (x1 : Int32) (x2 : Int32) (S : Mm) (H : Heap) (locs : List Loc) (ls : Array Slot), Wd X s.heap S H locs → lv_has ls 3 [(0, .ref (X.1 + 163)), (1, .int x1), (2, .int x2)] → f_X7_blameFor_10 n x1 x2 S = some (r, S') → W p l e rm_X7_blameFor s m args below meth c H locs 0 0 (MQ below (Qq X none S') args s 0 0 (AA X.1)) (F0 m 10 ls []) := by
  have hx := hc.1
  have hb := hc.2.1
  intro n
  induction n with
  | zero => intro x1 x2 S H locs ls hw hl h; cases h
  | succ n ih =>
    intro x1 x2 S H locs ls hw hl h
    rw [f_X7_blameFor_10] at h
    refine lv_iload_n hx hb dX7_blameFor_10 rfl (lv_at hl 2 rfl) ?_
    refine lv_iload_n hx hb dX7_blameFor_11 rfl (lv_at hl 1 rfl) ?_
    refine lv_icmp_gt (tgt := 61) hx hb dX7_blameFor_12 (by decide) (fun c1 => ?_) (fun c1 => ?_)
    · have h := ifT c1 h
      obtain ⟨rfl, rfl⟩ := sm_inj h
      exact r_vret hc hr hw dX7_blameFor_61
    · have h := ifF c1 h
      refine lv_aload_n hx hb dX7_blameFor_15 rfl (lv_at hl 0 rfl) ?_
      refine lv_iload_n hx hb dX7_blameFor_16 rfl (lv_at hl 2 rfl) ?_
      obtain ⟨r2, S3, h4, h⟩ := bd_some h
      refine r_callV7v hc hw hl.1 (As := [.int x2]) (rest := []) k163 (c_X7_work l X  h4) ms_X7_work rfl q4_100 rfl rfl ⟨rfl, rfl, Nat.le_of_ble_eq_true rfl, Nat.le_of_ble_eq_true rfl⟩ (Nat.le_of_ble_eq_true rfl) ⟨Nat.zero_le _, Nat.zero_le _⟩ dX7_blameFor_17 (fun H locs hw => ?_)
      refine lv_aload_n hx hb dX7_blameFor_20 rfl (lv_at hl 0 rfl) ?_
      refine lv_iload_n hx hb dX7_blameFor_21 rfl (lv_at hl 2 rfl) ?_
      refine lv_iload_n hx hb dX7_blameFor_22 rfl (lv_at hl 2 rfl) ?_
      refine lv_iload_n hx hb dX7_blameFor_23 rfl (lv_at hl 1 rfl) ?_
      refine lv_icmp_ge (tgt := 51) hx hb dX7_blameFor_24 (by decide) (fun c5 => ?_) (fun c5 => ?_)
      · have h := ifT c5 h
        refine lv_iconst (v := 0) hx hb dX7_blameFor_51 (by decide) ?_
        obtain ⟨r6, S7, h8, h⟩ := bd_some h
        refine r_callV7v hc hw hl.1 (As := [.int x2, .int 0]) (rest := []) k163 (c_X7_lookAt l X  h8) ms_X7_lookAt rfl q4_109 rfl rfl ⟨rfl, rfl, Nat.le_of_ble_eq_true rfl, Nat.le_of_ble_eq_true rfl⟩ (Nat.le_of_ble_eq_true rfl) ⟨Nat.zero_le _, Nat.zero_le _⟩ dX7_blameFor_52 (fun H locs hw => ?_)
        obtain ⟨v9, e10, h⟩ := nm_some h
        refine lv_iinc (v := v9) (lv' := [(2, .int v9), (0, .ref (X.1 + 163)), (1, .int x1)]) hx hb dX7_blameFor_55 hl (k := 2) rfl (by rw [e10]; rfl) (by decide) rfl (fun ls hl => ?_)
        refine lv_goto (tgt := 10) hx hb dX7_blameFor_58 (by decide) ?_
        exact ih x1 v9 S7 _ _ _ hw (lv_sub hl [1, 2, 0] rfl) h
      · have h := ifF c5 h
        refine lv_aload_n hx hb dX7_blameFor_27 rfl (lv_at hl 0 rfl) ?_
        refine r_get7 hc hw k163 16 (by decide) (v := .ref (X.1 + 172)) rfl q3_144 dX7_blameFor_28 ?_
        refine lv_bipush (v := 10) hx hb dX7_blameFor_31 (by decide) ?_
        obtain ⟨b11, h⟩ := bnd_some h
        refine r_iald hc hw k172 (inL b11 l172) dX7_blameFor_33 ?_
        refine lv_aload_n hx hb dX7_blameFor_34 rfl (lv_at hl 0 rfl) ?_
        refine r_get7 hc hw k163 20 (by decide) (v := .ref (X.1 + 174)) rfl q3_148 dX7_blameFor_35 ?_
        refine lv_iload_n hx hb dX7_blameFor_38 rfl (lv_at hl 2 rfl) ?_
        obtain ⟨b12, h⟩ := bnd_some h
        refine r_iald hc hw k174 (inL b12 l174) dX7_blameFor_39 ?_
        refine lv_ishr hx hb dX7_blameFor_40 ?_
        refine lv_iconst (v := 1) hx hb dX7_blameFor_41 (by decide) ?_
        refine lv_iand hx hb dX7_blameFor_42 ?_
        refine lv_iconst (v := 1) hx hb dX7_blameFor_43 (by decide) ?_
        refine lv_icmp_ne (tgt := 51) hx hb dX7_blameFor_44 (by decide) (fun c13 => ?_) (fun c13 => ?_)
        · have h := ifF c13 h
          refine lv_iconst (v := 0) hx hb dX7_blameFor_51 (by decide) ?_
          obtain ⟨r14, S15, h16, h⟩ := bd_some h
          refine r_callV7v hc hw hl.1 (As := [.int x2, .int 0]) (rest := []) k163 (c_X7_lookAt l X  h16) ms_X7_lookAt rfl q4_109 rfl rfl ⟨rfl, rfl, Nat.le_of_ble_eq_true rfl, Nat.le_of_ble_eq_true rfl⟩ (Nat.le_of_ble_eq_true rfl) ⟨Nat.zero_le _, Nat.zero_le _⟩ dX7_blameFor_52 (fun H locs hw => ?_)
          obtain ⟨v17, e18, h⟩ := nm_some h
          refine lv_iinc (v := v17) (lv' := [(2, .int v17), (0, .ref (X.1 + 163)), (1, .int x1)]) hx hb dX7_blameFor_55 hl (k := 2) rfl (by rw [e18]; rfl) (by decide) rfl (fun ls hl => ?_)
          refine lv_goto (tgt := 10) hx hb dX7_blameFor_58 (by decide) ?_
          exact ih x1 v17 S15 _ _ _ hw (lv_sub hl [1, 2, 0] rfl) h
        · have h := ifT c13 h
          refine lv_iconst (v := 1) hx hb dX7_blameFor_47 (by decide) ?_
          refine lv_goto (tgt := 52) hx hb dX7_blameFor_48 (by decide) ?_
          obtain ⟨r19, S20, h21, h⟩ := bd_some h
          refine r_callV7v hc hw hl.1 (As := [.int x2, .int 1]) (rest := []) k163 (c_X7_lookAt l X  h21) ms_X7_lookAt rfl q4_109 rfl rfl ⟨rfl, rfl, Nat.le_of_ble_eq_true rfl, Nat.le_of_ble_eq_true rfl⟩ (Nat.le_of_ble_eq_true rfl) ⟨Nat.zero_le _, Nat.zero_le _⟩ dX7_blameFor_52 (fun H locs hw => ?_)
          obtain ⟨v22, e23, h⟩ := nm_some h
          refine lv_iinc (v := v22) (lv' := [(2, .int v22), (0, .ref (X.1 + 163)), (1, .int x1)]) hx hb dX7_blameFor_55 hl (k := 2) rfl (by rw [e23]; rfl) (by decide) rfl (fun ls hl => ?_)
          refine lv_goto (tgt := 10) hx hb dX7_blameFor_58 (by decide) ?_
          exact ih x1 v22 S20 _ _ _ hw (lv_sub hl [1, 2, 0] rfl) h
set_option maxRecDepth 20000 in
theorem c_X7_blameFor (l : Launch) (X : Wx) {S S' : Mm} {r : Unit} {x1 : Int32}  (h : f_X7_blameFor S x1 = some (r, S')) : Ct l X yX7_blameFor cX7_blameFor 3 none rm_X7_blameFor [.ref (X.1 + 163), .int x1] S none S' := by
  refine r_entry (by decide) (Nat.le_of_ble_eq_true rfl) ?_
  intro p e s m args below meth c ls hc hr hw hl
  have hc : Cx p s m args meth c X cX7_blameFor 3 RX7 := hc
  have hl : lv_has ls 3 [(0, .ref (X.1 + 163)), (1, .int x1)] := hl
  have hx := hc.1
  have hb := hc.2.1
  unfold f_X7_blameFor at h
  refine lv_aload_n hx hb dX7_blameFor_0 rfl (lv_at hl 0 rfl) ?_
  obtain ⟨r1, S2, h3, h⟩ := bd_some h
  refine r_callV7v hc hw hl.1 (As := []) (rest := []) k163 (c_X7_takeRow l X  h3) ms_X7_takeRow rfl q4_88 rfl rfl ⟨rfl, rfl, Nat.le_of_ble_eq_true rfl, Nat.le_of_ble_eq_true rfl⟩ (Nat.le_of_ble_eq_true rfl) ⟨Nat.zero_le _, Nat.zero_le _⟩ dX7_blameFor_1 (fun H locs hw => ?_)
  refine lv_aload_n hx hb dX7_blameFor_4 rfl (lv_at hl 0 rfl) ?_
  obtain ⟨r4, S5, h6, h⟩ := bd_some h
  refine r_callV7v hc hw hl.1 (As := []) (rest := []) k163 (c_X7_begin l X  h6) ms_X7_begin rfl q4_96 rfl rfl ⟨rfl, rfl, Nat.le_of_ble_eq_true rfl, Nat.le_of_ble_eq_true rfl⟩ (Nat.le_of_ble_eq_true rfl) ⟨Nat.zero_le _, Nat.zero_le _⟩ dX7_blameFor_5 (fun H locs hw => ?_)
  refine lv_iconst (v := 0) hx hb dX7_blameFor_8 (by decide) ?_
  refine lv_istore_n (lv' := [(2, .int 0), (0, .ref (X.1 + 163)), (1, .int x1)]) hx hb dX7_blameFor_9 rfl hl (by decide) rfl (fun ls hl => ?_)
  exact w_X7_blameFor_10 hc hr 400 x1 0 S5 _ _ _ hw (lv_sub hl [1, 2, 0] rfl) h
abbrev rm_X7_isTold : Room := { frames := 0, cells := 0, slots := 0, locals := 0 }
theorem ms_X7_isTold : MsV yX7_isTold cX7_isTold 2 (some .boolean) 1 := ⟨⟨q4_157, q1_8, by decide, by decide, by decide⟩, q4_156, qs_45⟩
set_option maxRecDepth 20000 in
theorem c_X7_isTold (l : Launch) (X : Wx) {S S' : Mm} {r : Int32} {x1 : Int32}  (h : f_X7_isTold S x1 = some (r, S')) : Ct l X yX7_isTold cX7_isTold 2 (some .boolean) rm_X7_isTold [.ref (X.1 + 163), .int x1] S (some (.int r)) S' := by
  refine r_entry (by decide) (Nat.le_of_ble_eq_true rfl) ?_
  intro p e s m args below meth c ls hc hr hw hl
  have hc : Cx p s m args meth c X cX7_isTold 2 RX7 := hc
  have hl : lv_has ls 2 [(0, .ref (X.1 + 163)), (1, .int x1)] := hl
  have hx := hc.1
  have hb := hc.2.1
  unfold f_X7_isTold at h
  refine lv_aload_n hx hb dX7_isTold_0 rfl (lv_at hl 0 rfl) ?_
  refine r_get7 hc hw k163 16 (by decide) (v := .ref (X.1 + 172)) rfl q3_144 dX7_isTold_1 ?_
  refine lv_bipush (v := 10) hx hb dX7_isTold_4 (by decide) ?_
  obtain ⟨b1, h⟩ := bnd_some h
  refine r_iald hc hw k172 (inL b1 l172) dX7_isTold_6 ?_
  refine lv_aload_n hx hb dX7_isTold_7 rfl (lv_at hl 0 rfl) ?_
  refine r_get7 hc hw k163 20 (by decide) (v := .ref (X.1 + 174)) rfl q3_148 dX7_isTold_8 ?_
  refine lv_iload_n hx hb dX7_isTold_11 rfl (lv_at hl 1 rfl) ?_
  obtain ⟨b2, h⟩ := bnd_some h
  refine r_iald hc hw k174 (inL b2 l174) dX7_isTold_12 ?_
  refine lv_ishr hx hb dX7_isTold_13 ?_
  refine lv_iconst (v := 1) hx hb dX7_isTold_14 (by decide) ?_
  refine lv_iand hx hb dX7_isTold_15 ?_
  refine lv_iconst (v := 1) hx hb dX7_isTold_16 (by decide) ?_
  refine lv_icmp_ne (tgt := 33) hx hb dX7_isTold_17 (by decide) (fun c3 => ?_) (fun c3 => ?_)
  · have h := ifF c3 h
    refine lv_iconst (v := 0) hx hb dX7_isTold_33 (by decide) ?_
    obtain ⟨rfl, rfl⟩ := sm_inj h
    exact r_zret hc hr (Or.inl rfl) hw dX7_isTold_34
  · have h := ifT c3 h
    refine lv_aload_n hx hb dX7_isTold_20 rfl (lv_at hl 0 rfl) ?_
    refine r_get7 hc hw k163 24 (by decide) (v := .long (gJ S 163 24)) rfl q3_152 dX7_isTold_21 ?_
    refine lv_lconst (v := 0) hx hb dX7_isTold_24 (by decide) ?_
    refine W.lcmp hx hb dX7_isTold_25 ?_
    refine lv_if_le (tgt := 33) hx hb dX7_isTold_26 (by decide) (fun c4 => ?_) (fun c4 => ?_)
    · have h := ifT c4 h
      refine lv_iconst (v := 0) hx hb dX7_isTold_33 (by decide) ?_
      obtain ⟨rfl, rfl⟩ := sm_inj h
      exact r_zret hc hr (Or.inl rfl) hw dX7_isTold_34
    · have h := ifF c4 h
      refine lv_iconst (v := 1) hx hb dX7_isTold_29 (by decide) ?_
      refine lv_goto (tgt := 34) hx hb dX7_isTold_30 (by decide) ?_
      obtain ⟨rfl, rfl⟩ := sm_inj h
      exact r_zret hc hr (Or.inr rfl) hw dX7_isTold_34
abbrev rm_X7_part : Room := { frames := 0, cells := 0, slots := 0, locals := 0 }
theorem ms_X7_part : MsS yX7_part cX7_part 11 (some .long) 3 := ⟨⟨q4_115, q1_8, by decide, by decide, by decide⟩, q4_114⟩
set_option maxRecDepth 20000 in
theorem w_X7_part_6 {p : Program} {l : Launch} {e : Env} {s : State} {m : MethodId} {args : Array Value} {below : List Frame} {meth : Method} {c : Code} {X : Wx} {r : Int64} {S' : Mm} (hc : Cx p s m args meth c X cX7_part 11 RX7) (hr : meth.sig.returnType = (some .long))   : ∀ (n : Nat), ∀ (x0 : Int64) (x2 : Int64) (x4 : Int32) (x5 : Int64) (x7 : Int64) (S : Mm) (H : Heap) (locs : List Loc) (ls : Array Slot), Wd X s.heap S H locs → lv_has ls 11 [(0, .long x0), (2, .long x2), (4, .int x4), (5, .long x5), (7, .long x7)] → f_X7_part_6 n x0 x2 x4 x5 x7 S = some (r, S') → W p l e rm_X7_part s m args below meth c H locs 0 0 (MQ below (Qq X (some (.long r)) S') args s 0 0 (AA X.1)) (F0 m 6 ls []) := by
  have hx := hc.1
  have hb := hc.2.1
  intro n
  induction n with
  | zero => intro x0 x2 x4 x5 x7 S H locs ls hw hl h; cases h
  | succ n ih =>
    intro x0 x2 x4 x5 x7 S H locs ls hw hl h
    rw [f_X7_part_6] at h
    refine lv_lload hx hb dX7_part_6 (lv_at hl 4 rfl) ?_
    refine lv_lconst (v := 0) hx hb dX7_part_8 (by decide) ?_
    refine W.lcmp hx hb dX7_part_9 ?_
    refine lv_if_eq (tgt := 31) hx hb dX7_part_10 (by decide) (fun c1 => ?_) (fun c1 => ?_)
    · have h := ifT c1 h
      refine lv_iload hx hb dX7_part_31 (lv_at hl 2 rfl) ?_
      refine lv_if_ne (tgt := 43) hx hb dX7_part_33 (by decide) (fun c2 => ?_) (fun c2 => ?_)
      · have h := ifF c2 h
        refine lv_lload_n hx hb dX7_part_43 rfl (lv_at hl 1 rfl) ?_
        refine lv_lload hx hb dX7_part_44 (lv_at hl 3 rfl) ?_
        obtain ⟨b3, h⟩ := bnd_some h
        refine lv_ldiv hx hb dX7_part_46 (of_decide_eq_true b3) ?_
        obtain ⟨rfl, rfl⟩ := sm_inj h
        exact r_lret hc hr hw dX7_part_47
      · have h := ifT c2 h
        refine lv_lload_n hx hb dX7_part_36 rfl (lv_at hl 0 rfl) ?_
        refine lv_lload hx hb dX7_part_37 (lv_at hl 3 rfl) ?_
        obtain ⟨b4, h⟩ := bnd_some h
        refine lv_ldiv hx hb dX7_part_39 (of_decide_eq_true b4) ?_
        refine lv_goto (tgt := 47) hx hb dX7_part_40 (by decide) ?_
        obtain ⟨rfl, rfl⟩ := sm_inj h
        exact r_lret hc hr hw dX7_part_47
    · have h := ifF c1 h
      refine lv_lload hx hb dX7_part_13 (lv_at hl 3 rfl) ?_
      refine lv_lload hx hb dX7_part_15 (lv_at hl 4 rfl) ?_
      obtain ⟨b5, h⟩ := bnd_some h
      refine lv_lrem hx hb dX7_part_17 (of_decide_eq_true b5) ?_
      obtain ⟨v6, e7, h⟩ := nm_some h
      refine r_topl e7 ?_
      refine lv_lstore (lv' := [(9, .long v6), (0, .long x0), (2, .long x2), (4, .int x4), (5, .long x5), (7, .long x7)]) hx hb dX7_part_18 hl (by decide) rfl (fun ls hl => ?_)
      refine lv_lload hx hb dX7_part_20 (lv_at hl 5 rfl) ?_
      refine lv_lstore (lv' := [(5, .long x7), (9, .long v6), (0, .long x0), (2, .long x2), (4, .int x4), (7, .long x7)]) hx hb dX7_part_22 hl (by decide) rfl (fun ls hl => ?_)
      refine lv_lload hx hb dX7_part_24 (lv_at hl 1 rfl) ?_
      refine lv_lstore (lv' := [(7, .long v6), (5, .long x7), (9, .long v6), (0, .long x0), (2, .long x2), (4, .int x4)]) hx hb dX7_part_26 hl (by decide) rfl (fun ls hl => ?_)
      refine lv_goto (tgt := 6) hx hb dX7_part_28 (by decide) ?_
      exact ih x0 x2 x4 x7 v6 S _ _ _ hw (lv_sub hl [3, 4, 5, 1, 0] rfl) h
set_option maxRecDepth 20000 in
theorem c_X7_part (l : Launch) (X : Wx) {S S' : Mm} {r : Int64} {x0 : Int64} {x2 : Int64} {x4 : Int32}  (h : f_X7_part S x0 x2 x4 = some (r, S')) : Ct l X yX7_part cX7_part 11 (some .long) rm_X7_part [.long x0, .long x2, .int x4] S (some (.long r)) S' := by
  refine r_entry (by decide) (Nat.le_of_ble_eq_true rfl) ?_
  intro p e s m args below meth c ls hc hr hw hl
  have hc : Cx p s m args meth c X cX7_part 11 RX7 := hc
  have hl : lv_has ls 11 [(0, .long x0), (2, .long x2), (4, .int x4)] := hl
  have hx := hc.1
  have hb := hc.2.1
  unfold f_X7_part at h
  refine lv_lload_n hx hb dX7_part_0 rfl (lv_at hl 0 rfl) ?_
  refine lv_lstore (lv' := [(5, .long x0), (0, .long x0), (2, .long x2), (4, .int x4)]) hx hb dX7_part_1 hl (by decide) rfl (fun ls hl => ?_)
  refine lv_lload_n hx hb dX7_part_3 rfl (lv_at hl 2 rfl) ?_
  refine lv_lstore (lv' := [(7, .long x2), (5, .long x0), (0, .long x0), (2, .long x2), (4, .int x4)]) hx hb dX7_part_4 hl (by decide) rfl (fun ls hl => ?_)
  exact w_X7_part_6 hc hr 400 x0 x2 x4 x0 x2 S _ _ _ hw (lv_sub hl [2, 3, 4, 1, 0] rfl) h
abbrev rm_X7_blame : Room := { frames := 3, cells := 0, slots := 0, locals := 67 }
theorem ms_X7_blame : MsV yX7_blame cX7_blame 4 (some .long) 3 := ⟨⟨q4_149, q1_8, by decide, by decide, by decide⟩, q4_147, q4_148⟩
set_option maxRecDepth 20000 in
theorem c_X7_blame (l : Launch) (X : Wx) {S S' : Mm} {r : Int64} {x1 : Int32} {x2 : Int32} {x3 : Int32}  (h : f_X7_blame S x1 x2 x3 = some (r, S')) : Ct l X yX7_blame cX7_blame 4 (some .long) rm_X7_blame [.ref (X.1 + 163), .int x1, .int x2, .int x3] S (some (.long r)) S' := by
  refine r_entry (by decide) (Nat.le_of_ble_eq_true rfl) ?_
  intro p e s m args below meth c ls hc hr hw hl
  have hc : Cx p s m args meth c X cX7_blame 4 RX7 := hc
  have hl : lv_has ls 4 [(0, .ref (X.1 + 163)), (1, .int x1), (2, .int x2), (3, .int x3)] := hl
  have hx := hc.1
  have hb := hc.2.1
  unfold f_X7_blame at h
  refine lv_aload_n hx hb dX7_blame_0 rfl (lv_at hl 0 rfl) ?_
  refine lv_iload_n hx hb dX7_blame_1 rfl (lv_at hl 1 rfl) ?_
  obtain ⟨r1, S2, h3, h⟩ := bd_some h
  refine r_callV7i hc hw hl.1 (As := [.int x1]) (rest := []) k163 (c_X7_isStep l X  h3) ms_X7_isStep rfl q4_26 rfl rfl ⟨rfl, rfl, Nat.le_of_ble_eq_true rfl, Nat.le_of_ble_eq_true rfl⟩ (Nat.le_of_ble_eq_true rfl) ⟨Nat.zero_le _, Nat.zero_le _⟩ dX7_blame_2 (fun H locs hw => ?_)
  refine lv_if_eq (tgt := 25) hx hb dX7_blame_5 (by decide) (fun c4 => ?_) (fun c4 => ?_)
  · have h := ifT c4 h
    refine lv_ldc2 hx hb hc.2.2.2.1 (hc.2.2.2.2.1 _ q4_87) dX7_blame_25 ?_
    obtain ⟨rfl, rfl⟩ := sm_inj h
    exact r_lret hc hr hw dX7_blame_28
  · have h := ifF c4 h
    refine lv_aload_n hx hb dX7_blame_8 rfl (lv_at hl 0 rfl) ?_
    refine lv_iload_n hx hb dX7_blame_9 rfl (lv_at hl 2 rfl) ?_
    obtain ⟨r5, S6, h7, h⟩ := bd_some h
    refine r_callV7i hc hw hl.1 (As := [.int x2]) (rest := []) k163 (c_X7_isStep l X  h7) ms_X7_isStep rfl q4_26 rfl rfl ⟨rfl, rfl, Nat.le_of_ble_eq_true rfl, Nat.le_of_ble_eq_true rfl⟩ (Nat.le_of_ble_eq_true rfl) ⟨Nat.zero_le _, Nat.zero_le _⟩ dX7_blame_10 (fun H locs hw => ?_)
    refine lv_if_eq (tgt := 25) hx hb dX7_blame_13 (by decide) (fun c8 => ?_) (fun c8 => ?_)
    · have h := ifT c8 h
      refine lv_ldc2 hx hb hc.2.2.2.1 (hc.2.2.2.2.1 _ q4_87) dX7_blame_25 ?_
      obtain ⟨rfl, rfl⟩ := sm_inj h
      exact r_lret hc hr hw dX7_blame_28
    · have h := ifF c8 h
      refine lv_iload_n hx hb dX7_blame_16 rfl (lv_at hl 3 rfl) ?_
      refine lv_iconst (v := 0) hx hb dX7_blame_17 (by decide) ?_
      refine lv_iconst (v := 1) hx hb dX7_blame_18 (by decide) ?_
      obtain ⟨r9, S10, h11, h⟩ := bd_some h
      refine r_callSi hc hw hl.1 (As := [.int x3, .int 0, .int 1]) (rest := []) (c_X7_in l X  h11) ms_X7_in q3_227 rfl rfl ⟨rfl, rfl, Nat.le_of_ble_eq_true rfl, Nat.le_of_ble_eq_true rfl⟩ (Nat.le_of_ble_eq_true rfl) ⟨Nat.zero_le _, Nat.zero_le _⟩ dX7_blame_19 (fun H locs hw => ?_)
      refine lv_if_ne (tgt := 29) hx hb dX7_blame_22 (by decide) (fun c12 => ?_) (fun c12 => ?_)
      · have h := ifF c12 h
        refine lv_aload_n hx hb dX7_blame_29 rfl (lv_at hl 0 rfl) ?_
        refine lv_iload_n hx hb dX7_blame_30 rfl (lv_at hl 1 rfl) ?_
        obtain ⟨r13, S14, h15, h⟩ := bd_some h
        refine r_callV7v hc hw hl.1 (As := [.int x1]) (rest := []) k163 (c_X7_blameFor l X  h15) ms_X7_blameFor rfl q4_150 rfl rfl ⟨rfl, rfl, Nat.le_of_ble_eq_true rfl, Nat.le_of_ble_eq_true rfl⟩ (Nat.le_of_ble_eq_true rfl) ⟨Nat.zero_le _, Nat.zero_le _⟩ dX7_blame_31 (fun H locs hw => ?_)
        refine lv_aload_n hx hb dX7_blame_34 rfl (lv_at hl 0 rfl) ?_
        refine lv_iload_n hx hb dX7_blame_35 rfl (lv_at hl 1 rfl) ?_
        obtain ⟨r16, S17, h18, h⟩ := bd_some h
        refine r_callV7i hc hw hl.1 (As := [.int x1]) (rest := []) k163 (c_X7_isTold l X  h18) ms_X7_isTold rfl q4_154 rfl rfl ⟨rfl, rfl, Nat.le_of_ble_eq_true rfl, Nat.le_of_ble_eq_true rfl⟩ (Nat.le_of_ble_eq_true rfl) ⟨Nat.zero_le _, Nat.zero_le _⟩ dX7_blame_36 (fun H locs hw => ?_)
        refine lv_if_eq (tgt := 59) hx hb dX7_blame_39 (by decide) (fun c19 => ?_) (fun c19 => ?_)
        · have h := ifT c19 h
          refine lv_ldc2 hx hb hc.2.2.2.1 (hc.2.2.2.2.1 _ q4_116) dX7_blame_59 ?_
          obtain ⟨rfl, rfl⟩ := sm_inj h
          exact r_lret hc hr hw dX7_blame_62
        · have h := ifF c19 h
          refine lv_aload_n hx hb dX7_blame_42 rfl (lv_at hl 0 rfl) ?_
          refine r_get7 hc hw k163 26 (by decide) (v := .ref (X.1 + 176)) rfl q3_154 dX7_blame_43 ?_
          refine lv_iload_n hx hb dX7_blame_46 rfl (lv_at hl 2 rfl) ?_
          obtain ⟨b20, h⟩ := bnd_some h
          refine r_lald hc hw k176 (inL b20 l176) dX7_blame_47 ?_
          refine lv_aload_n hx hb dX7_blame_48 rfl (lv_at hl 0 rfl) ?_
          refine r_get7 hc hw k163 24 (by decide) (v := .long (gJ S17 163 24)) rfl q3_152 dX7_blame_49 ?_
          refine lv_iload_n hx hb dX7_blame_52 rfl (lv_at hl 3 rfl) ?_
          obtain ⟨r21, S22, h23, h⟩ := bd_some h
          refine r_callSl hc hw hl.1 (As := [.long (gJ S17 176 x2.toNatClampNeg), .long (gJ S17 163 24), .int x3]) (rest := []) (c_X7_part l X  h23) ms_X7_part q4_113 rfl rfl ⟨rfl, rfl, Nat.le_of_ble_eq_true rfl, Nat.le_of_ble_eq_true rfl⟩ (Nat.le_of_ble_eq_true rfl) ⟨Nat.zero_le _, Nat.zero_le _⟩ dX7_blame_53 (fun H locs hw => ?_)
          refine lv_goto (tgt := 62) hx hb dX7_blame_56 (by decide) ?_
          obtain ⟨rfl, rfl⟩ := sm_inj h
          exact r_lret hc hr hw dX7_blame_62
      · have h := ifT c12 h
        refine lv_ldc2 hx hb hc.2.2.2.1 (hc.2.2.2.2.1 _ q4_87) dX7_blame_25 ?_
        obtain ⟨rfl, rfl⟩ := sm_inj h
        exact r_lret hc hr hw dX7_blame_28
abbrev rm_X7_clear : Room := { frames := 0, cells := 0, slots := 0, locals := 0 }
theorem ms_X7_clear : MsV yX7_clear cX7_clear 2 (some .int) 0 := ⟨⟨q3_233, q1_8, by decide, by decide, by decide⟩, q3_231, q3_232⟩
set_option maxRecDepth 20000 in
theorem c_X7_clear (l : Launch) (X : Wx) {S S' : Mm} {r : Int32}   (h : f_X7_clear S = some (r, S')) : Ct l X yX7_clear cX7_clear 2 (some .int) rm_X7_clear [.ref (X.1 + 163)] S (some (.int r)) S' := by
  refine r_entry (by decide) (Nat.le_of_ble_eq_true rfl) ?_
  intro p e s m args below meth c ls hc hr hw hl
  have hc : Cx p s m args meth c X cX7_clear 2 RX7 := hc
  have hl : lv_has ls 2 [(0, .ref (X.1 + 163))] := hl
  have hx := hc.1
  have hb := hc.2.1
  unfold f_X7_clear at h
  refine lv_aload_n hx hb dX7_clear_0 rfl (lv_at hl 0 rfl) ?_
  refine r_get7 hc hw k163 2 (by decide) (v := .int (gI S 163 2)) rfl q3_130 dX7_clear_1 ?_
  obtain ⟨v1, e2, h⟩ := nm_some h
  refine r_top e2 ?_
  refine lv_istore_n (lv' := [(1, .int v1), (0, .ref (X.1 + 163))]) hx hb dX7_clear_4 rfl hl (by decide) rfl (fun ls hl => ?_)
  refine lv_aload_n hx hb dX7_clear_5 rfl (lv_at hl 1 rfl) ?_
  refine lv_iconst (v := 0) hx hb dX7_clear_6 (by decide) ?_
  obtain ⟨S3, e4, h⟩ := nm_some h
  refine r_put7_2 hc hw k163 e4 q3_130 dX7_clear_7 (fun H locs hw => ?_)
  refine lv_iload_n hx hb dX7_clear_10 rfl (lv_at hl 0 rfl) ?_
  obtain ⟨rfl, rfl⟩ := sm_inj h
  exact r_iret hc hr hw dX7_clear_11
abbrev rm_X7_count : Room := { frames := 0, cells := 0, slots := 0, locals := 0 }
theorem ms_X7_count : MsV yX7_count cX7_count 2 (some .int) 1 := ⟨⟨q4_195, q1_8, by decide, by decide, by decide⟩, q4_193, q4_194⟩
set_option maxRecDepth 20000 in
theorem c_X7_count (l : Launch) (X : Wx) {S S' : Mm} {r : Int32} {x1 : Int32}  (h : f_X7_count S x1 = some (r, S')) : Ct l X yX7_count cX7_count 2 (some .int) rm_X7_count [.ref (X.1 + 163), .int x1] S (some (.int r)) S' := by
  refine r_entry (by decide) (Nat.le_of_ble_eq_true rfl) ?_
  intro p e s m args below meth c ls hc hr hw hl
  have hc : Cx p s m args meth c X cX7_count 2 RX7 := hc
  have hl : lv_has ls 2 [(0, .ref (X.1 + 163)), (1, .int x1)] := hl
  have hx := hc.1
  have hb := hc.2.1
  unfold f_X7_count at h
  refine lv_iload_n hx hb dX7_count_0 rfl (lv_at hl 1 rfl) ?_
  by_cases c1 : x1 = 0
  · have h := ifT c1 h
    refine lv_tableIn (off := 35) (tgt := 36) hx hb dX7_count_1 (by rw [c1]; decide) (by rw [c1]; decide) (by rw [c1]; rfl) (by decide) ?_
    refine lv_aload_n hx hb dX7_count_36 rfl (lv_at hl 0 rfl) ?_
    refine r_get7 hc hw k163 3 (by decide) (v := .ref (X.1 + 165)) rfl q3_131 dX7_count_37 ?_
    refine lv_iconst (v := 0) hx hb dX7_count_40 (by decide) ?_
    obtain ⟨b2, h⟩ := bnd_some h
    refine r_iald hc hw k165 (inL b2 l165) dX7_count_41 ?_
    obtain ⟨rfl, rfl⟩ := sm_inj h
    exact r_iret hc hr hw dX7_count_42
  · have h := ifF c1 h
    by_cases c3 : x1 = 1
    · have h := ifT c3 h
      refine lv_tableIn (off := 42) (tgt := 43) hx hb dX7_count_1 (by rw [c3]; decide) (by rw [c3]; decide) (by rw [c3]; rfl) (by decide) ?_
      refine lv_aload_n hx hb dX7_count_43 rfl (lv_at hl 0 rfl) ?_
      refine r_get7 hc hw k163 9 (by decide) (v := .ref (X.1 + 171)) rfl q3_137 dX7_count_44 ?_
      refine lv_iconst (v := 0) hx hb dX7_count_47 (by decide) ?_
      obtain ⟨b4, h⟩ := bnd_some h
      refine r_iald hc hw k171 (inL b4 l171) dX7_count_48 ?_
      obtain ⟨rfl, rfl⟩ := sm_inj h
      exact r_iret hc hr hw dX7_count_49
    · have h := ifF c3 h
      by_cases c5 : x1 = 2
      · have h := ifT c5 h
        refine lv_tableIn (off := 49) (tgt := 50) hx hb dX7_count_1 (by rw [c5]; decide) (by rw [c5]; decide) (by rw [c5]; rfl) (by decide) ?_
        refine lv_aload_n hx hb dX7_count_50 rfl (lv_at hl 0 rfl) ?_
        refine r_get7 hc hw k163 30 (by decide) (v := .int (gI S 163 30)) rfl q3_158 dX7_count_51 ?_
        obtain ⟨rfl, rfl⟩ := sm_inj h
        exact r_iret hc hr hw dX7_count_54
      · have h := ifF c5 h
        by_cases c6 : x1 = 3
        · have h := ifT c6 h
          refine lv_tableIn (off := 54) (tgt := 55) hx hb dX7_count_1 (by rw [c6]; decide) (by rw [c6]; decide) (by rw [c6]; rfl) (by decide) ?_
          refine lv_aload_n hx hb dX7_count_55 rfl (lv_at hl 0 rfl) ?_
          refine r_get7 hc hw k163 16 (by decide) (v := .ref (X.1 + 172)) rfl q3_144 dX7_count_56 ?_
          refine lv_bipush (v := 20) hx hb dX7_count_59 (by decide) ?_
          obtain ⟨b7, h⟩ := bnd_some h
          refine r_iald hc hw k172 (inL b7 l172) dX7_count_61 ?_
          obtain ⟨rfl, rfl⟩ := sm_inj h
          exact r_iret hc hr hw dX7_count_62
        · have h := ifF c6 h
          by_cases c8 : x1 = 4
          · have h := ifT c8 h
            refine lv_tableIn (off := 62) (tgt := 63) hx hb dX7_count_1 (by rw [c8]; decide) (by rw [c8]; decide) (by rw [c8]; rfl) (by decide) ?_
            refine lv_aload_n hx hb dX7_count_63 rfl (lv_at hl 0 rfl) ?_
            refine r_get7 hc hw k163 2 (by decide) (v := .int (gI S 163 2)) rfl q3_130 dX7_count_64 ?_
            obtain ⟨rfl, rfl⟩ := sm_inj h
            exact r_iret hc hr hw dX7_count_67
          · have h := ifF c8 h
            refine lv_tableOut (tgt := 68) hx hb dX7_count_1 (by have := lv_neT c1 (a := 0) (by decide); have := lv_neT c3 (a := 1) (by decide); have := lv_neT c5 (a := 2) (by decide); have := lv_neT c6 (a := 3) (by decide); have := lv_neT c8 (a := 4) (by decide); omega) (by decide) ?_
            refine lv_iconst (v := (-1)) hx hb dX7_count_68 (by decide) ?_
            obtain ⟨rfl, rfl⟩ := sm_inj h
            exact r_iret hc hr hw dX7_count_69
abbrev rm_X7_drawOf : Room := { frames := 0, cells := 0, slots := 0, locals := 0 }
theorem ms_X7_drawOf : MsS yX7_drawOf cX7_drawOf 4 (some .int) 2 := ⟨⟨q4_55, q1_8, by decide, by decide, by decide⟩, q4_54⟩
set_option maxRecDepth 20000 in
theorem c_X7_drawOf (l : Launch) (X : Wx) {S S' : Mm} {r : Int32} {x0 : Int32} {x1 : Int32}  (h : f_X7_drawOf S x0 x1 = some (r, S')) : Ct l X yX7_drawOf cX7_drawOf 4 (some .int) rm_X7_drawOf [.int x0, .int x1] S (some (.int r)) S' := by
  refine r_entry (by decide) (Nat.le_of_ble_eq_true rfl) ?_
  intro p e s m args below meth c ls hc hr hw hl
  have hc : Cx p s m args meth c X cX7_drawOf 4 RX7 := hc
  have hl : lv_has ls 4 [(0, .int x0), (1, .int x1)] := hl
  have hx := hc.1
  have hb := hc.2.1
  unfold f_X7_drawOf at h
  refine lv_ldc2 hx hb hc.2.2.2.1 (hc.2.2.2.2.1 _ q4_56) dX7_drawOf_0 ?_
  refine lv_iload_n hx hb dX7_drawOf_3 rfl (lv_at hl 0 rfl) ?_
  refine lv_i2l hx hb dX7_drawOf_4 rfl ?_
  refine lv_lmul hx hb dX7_drawOf_5 ?_
  refine lv_ldc2 hx hb hc.2.2.2.1 (hc.2.2.2.2.1 _ q4_57) dX7_drawOf_6 ?_
  refine lv_iload_n hx hb dX7_drawOf_9 rfl (lv_at hl 1 rfl) ?_
  refine lv_i2l hx hb dX7_drawOf_10 rfl ?_
  refine lv_lmul hx hb dX7_drawOf_11 ?_
  refine lv_ladd hx hb dX7_drawOf_12 ?_
  refine lv_lconst (v := 1) hx hb dX7_drawOf_13 (by decide) ?_
  refine lv_ladd hx hb dX7_drawOf_14 ?_
  obtain ⟨v1, e2, h⟩ := nm_some h
  refine r_topl e2 ?_
  refine lv_lstore_n (lv' := [(2, .long v1), (0, .int x0), (1, .int x1)]) hx hb dX7_drawOf_15 rfl hl (by decide) rfl (fun ls hl => ?_)
  refine lv_lload_n hx hb dX7_drawOf_16 rfl (lv_at hl 0 rfl) ?_
  refine lv_lload_n hx hb dX7_drawOf_17 rfl (lv_at hl 0 rfl) ?_
  refine lv_lmul hx hb dX7_drawOf_18 ?_
  refine lv_ldc2 hx hb hc.2.2.2.1 (hc.2.2.2.2.1 _ q4_58) dX7_drawOf_19 ?_
  refine lv_lrem hx hb dX7_drawOf_22 (by decide) ?_
  refine lv_l2i hx hb dX7_drawOf_23 rfl ?_
  refine lv_bipush (v := 8) hx hb dX7_drawOf_24 (by decide) ?_
  refine lv_idiv hx hb dX7_drawOf_26 (by decide) ?_
  refine lv_bipush (v := 10) hx hb dX7_drawOf_27 (by decide) ?_
  refine lv_irem hx hb dX7_drawOf_29 (by decide) ?_
  obtain ⟨rfl, rfl⟩ := sm_inj h
  exact r_iret hc hr hw dX7_drawOf_30
abbrev rm_X7_here : Room := { frames := 0, cells := 0, slots := 0, locals := 0 }
theorem ms_X7_here : MsV yX7_here cX7_here 1 (some .int) 0 := ⟨⟨q4_5, q1_8, by decide, by decide, by decide⟩, q4_4, qs_27⟩
set_option maxRecDepth 20000 in
theorem c_X7_here (l : Launch) (X : Wx) {S S' : Mm} {r : Int32}   (h : f_X7_here S = some (r, S')) : Ct l X yX7_here cX7_here 1 (some .int) rm_X7_here [.ref (X.1 + 163)] S (some (.int r)) S' := by
  refine r_entry (by decide) (Nat.le_of_ble_eq_true rfl) ?_
  intro p e s m args below meth c ls hc hr hw hl
  have hc : Cx p s m args meth c X cX7_here 1 RX7 := hc
  have hl : lv_has ls 1 [(0, .ref (X.1 + 163))] := hl
  have hx := hc.1
  have hb := hc.2.1
  unfold f_X7_here at h
  refine lv_aload_n hx hb dX7_here_0 rfl (lv_at hl 0 rfl) ?_
  refine r_get7 hc hw k163 11 (by decide) (v := .int (gI S 163 11)) rfl q3_139 dX7_here_1 ?_
  refine lv_aload_n hx hb dX7_here_4 rfl (lv_at hl 0 rfl) ?_
  refine r_get7 hc hw k163 2 (by decide) (v := .int (gI S 163 2)) rfl q3_130 dX7_here_5 ?_
  refine lv_icmp_ge (tgt := 27) hx hb dX7_here_8 (by decide) (fun c1 => ?_) (fun c1 => ?_)
  · have h := ifT c1 h
    refine lv_iconst (v := (-1)) hx hb dX7_here_27 (by decide) ?_
    obtain ⟨rfl, rfl⟩ := sm_inj h
    exact r_iret hc hr hw dX7_here_28
  · have h := ifF c1 h
    refine lv_aload_n hx hb dX7_here_11 rfl (lv_at hl 0 rfl) ?_
    refine r_get7 hc hw k163 1 (by decide) (v := .ref (X.1 + 164)) rfl q3_129 dX7_here_12 ?_
    refine lv_aload_n hx hb dX7_here_15 rfl (lv_at hl 0 rfl) ?_
    refine r_get7 hc hw k163 11 (by decide) (v := .int (gI S 163 11)) rfl q3_139 dX7_here_16 ?_
    obtain ⟨b2, h⟩ := bnd_some h
    refine r_bald hc hw k164 (inL b2 l164) dX7_here_19 ?_
    refine lv_sipush (v := 255) hx hb dX7_here_20 (by decide) ?_
    refine lv_iand hx hb dX7_here_23 ?_
    refine lv_goto (tgt := 28) hx hb dX7_here_24 (by decide) ?_
    obtain ⟨rfl, rfl⟩ := sm_inj h
    exact r_iret hc hr hw dX7_here_28
abbrev rm_X7_read : Room := { frames := 1, cells := 0, slots := 0, locals := 22 }
theorem ms_X7_read : MsV yX7_read cX7_read 2 none 0 := ⟨⟨q4_1, q1_8, by decide, by decide, by decide⟩, q4_0, qs_26⟩
set_option maxRecDepth 20000 in
theorem w_X7_read_63 {p : Program} {l : Launch} {e : Env} {s : State} {m : MethodId} {args : Array Value} {below : List Frame} {meth : Method} {c : Code} {X : Wx} {r : Unit} {S' : Mm} (hc : Cx p s m args meth c X cX7_read 2 RX7) (hr : meth.sig.returnType = none)   : ∀ (n : Nat), ∀ (x1 : Int32) (S : Mm) (H : Heap) (locs : List Loc) (ls : Array Slot), Wd X s.heap S H locs → lv_has ls 2 [(0, .ref (X.1 + 163)), (1, .int x1)] → f_X7_read_63 n x1 S = some (r, S') → W p l e rm_X7_read s m args below meth c H locs 0 0 (MQ below (Qq X none S') args s 0 0 (AA X.1)) (F0 m 63 ls []) := by
  have hx := hc.1
  have hb := hc.2.1
  intro n
  induction n with
  | zero => intro x1 S H locs ls hw hl h; cases h
  | succ n ih =>
    intro x1 S H locs ls hw hl h
    rw [f_X7_read_63] at h
    refine lv_aload_n hx hb dX7_read_63 rfl (lv_at hl 0 rfl) ?_
    obtain ⟨r1, S2, h3, h⟩ := bd_some h
    refine r_callV7i hc hw hl.1 (As := []) (rest := []) k163 (c_X7_here l X  h3) ms_X7_here rfl q4_2 rfl rfl ⟨rfl, rfl, Nat.le_of_ble_eq_true rfl, Nat.le_of_ble_eq_true rfl⟩ (Nat.le_of_ble_eq_true rfl) ⟨Nat.zero_le _, Nat.zero_le _⟩ dX7_read_64 (fun H locs hw => ?_)
    refine lv_bipush (v := 97) hx hb dX7_read_67 (by decide) ?_
    refine lv_bipush (v := 122) hx hb dX7_read_69 (by decide) ?_
    obtain ⟨r4, S5, h6, h⟩ := bd_some h
    refine r_callSi hc hw hl.1 (As := [.int r1, .int 97, .int 122]) (rest := []) (c_X7_in l X  h6) ms_X7_in q3_227 rfl rfl ⟨rfl, rfl, Nat.le_of_ble_eq_true rfl, Nat.le_of_ble_eq_true rfl⟩ (Nat.le_of_ble_eq_true rfl) ⟨Nat.zero_le _, Nat.zero_le _⟩ dX7_read_71 (fun H locs hw => ?_)
    refine lv_if_eq (tgt := 90) hx hb dX7_read_74 (by decide) (fun c7 => ?_) (fun c7 => ?_)
    · have h := ifT c7 h
      refine lv_aload_n hx hb dX7_read_90 rfl (lv_at hl 0 rfl) ?_
      refine lv_aload_n hx hb dX7_read_91 rfl (lv_at hl 0 rfl) ?_
      refine r_get7 hc hw k163 11 (by decide) (v := .int (gI S5 163 11)) rfl q3_139 dX7_read_92 ?_
      refine lv_aload_n hx hb dX7_read_95 rfl (lv_at hl 0 rfl) ?_
      refine r_get7 hc hw k163 12 (by decide) (v := .int (gI S5 163 12)) rfl q3_140 dX7_read_96 ?_
      refine lv_isub hx hb dX7_read_99 ?_
      refine lv_iconst (v := 1) hx hb dX7_read_100 (by decide) ?_
      refine lv_icmp_ne (tgt := 108) hx hb dX7_read_101 (by decide) (fun c8 => ?_) (fun c8 => ?_)
      · have h := ifF c8 h
        refine lv_iconst (v := 4) hx hb dX7_read_108 (by decide) ?_
        obtain ⟨S9, e10, h⟩ := nm_some h
        refine r_put7_13 hc hw k163 e10 q3_141 dX7_read_109 (fun H locs hw => ?_)
        refine lv_goto (tgt := 253) hx hb dX7_read_112 (by decide) ?_
        obtain ⟨rfl, rfl⟩ := sm_inj h
        exact r_vret hc hr hw dX7_read_253
      · have h := ifT c8 h
        refine lv_iload_n hx hb dX7_read_104 rfl (lv_at hl 1 rfl) ?_
        refine lv_goto (tgt := 109) hx hb dX7_read_105 (by decide) ?_
        obtain ⟨S11, e12, h⟩ := nm_some h
        refine r_put7_13 hc hw k163 e12 q3_141 dX7_read_109 (fun H locs hw => ?_)
        refine lv_goto (tgt := 253) hx hb dX7_read_112 (by decide) ?_
        obtain ⟨rfl, rfl⟩ := sm_inj h
        exact r_vret hc hr hw dX7_read_253
    · have h := ifF c7 h
      refine lv_aload_n hx hb dX7_read_77 rfl (lv_at hl 0 rfl) ?_
      refine lv_dup hx hb dX7_read_78 rfl ?_
      refine r_get7 hc hw k163 11 (by decide) (v := .int (gI S5 163 11)) rfl q3_139 dX7_read_79 ?_
      refine lv_iconst (v := 1) hx hb dX7_read_82 (by decide) ?_
      refine lv_iadd hx hb dX7_read_83 ?_
      obtain ⟨S13, e14, h⟩ := nm_some h
      refine r_put7_11 hc hw k163 e14 q3_139 dX7_read_84 (fun H locs hw => ?_)
      refine lv_goto (tgt := 63) hx hb dX7_read_87 (by decide) ?_
      exact ih x1 S13 _ _ _ hw (lv_sub hl [0, 1] rfl) h
set_option maxRecDepth 20000 in
theorem w_X7_read_126 {p : Program} {l : Launch} {e : Env} {s : State} {m : MethodId} {args : Array Value} {below : List Frame} {meth : Method} {c : Code} {X : Wx} {r : Unit} {S' : Mm} (hc : Cx p s m args meth c X cX7_read 2 RX7) (hr : meth.sig.returnType = none)   : ∀ (n : Nat), ∀ (x1 : Int32) (S : Mm) (H : Heap) (locs : List Loc) (ls : Array Slot), Wd X s.heap S H locs → lv_has ls 2 [(0, .ref (X.1 + 163)), (1, .int x1)] → f_X7_read_126 n x1 S = some (r, S') → W p l e rm_X7_read s m args below meth c H locs 0 0 (MQ below (Qq X none S') args s 0 0 (AA X.1)) (F0 m 126 ls []) := by
  have hx := hc.1
  have hb := hc.2.1
  intro n
  induction n with
  | zero => intro x1 S H locs ls hw hl h; cases h
  | succ n ih =>
    intro x1 S H locs ls hw hl h
    rw [f_X7_read_126] at h
    refine lv_aload_n hx hb dX7_read_126 rfl (lv_at hl 0 rfl) ?_
    obtain ⟨r1, S2, h3, h⟩ := bd_some h
    refine r_callV7i hc hw hl.1 (As := []) (rest := []) k163 (c_X7_here l X  h3) ms_X7_here rfl q4_2 rfl rfl ⟨rfl, rfl, Nat.le_of_ble_eq_true rfl, Nat.le_of_ble_eq_true rfl⟩ (Nat.le_of_ble_eq_true rfl) ⟨Nat.zero_le _, Nat.zero_le _⟩ dX7_read_127 (fun H locs hw => ?_)
    refine lv_bipush (v := 48) hx hb dX7_read_130 (by decide) ?_
    refine lv_bipush (v := 57) hx hb dX7_read_132 (by decide) ?_
    obtain ⟨r4, S5, h6, h⟩ := bd_some h
    refine r_callSi hc hw hl.1 (As := [.int r1, .int 48, .int 57]) (rest := []) (c_X7_in l X  h6) ms_X7_in q3_227 rfl rfl ⟨rfl, rfl, Nat.le_of_ble_eq_true rfl, Nat.le_of_ble_eq_true rfl⟩ (Nat.le_of_ble_eq_true rfl) ⟨Nat.zero_le _, Nat.zero_le _⟩ dX7_read_134 (fun H locs hw => ?_)
    refine lv_if_eq (tgt := 188) hx hb dX7_read_137 (by decide) (fun c7 => ?_) (fun c7 => ?_)
    · have h := ifT c7 h
      refine lv_aload_n hx hb dX7_read_188 rfl (lv_at hl 0 rfl) ?_
      refine lv_aload_n hx hb dX7_read_189 rfl (lv_at hl 0 rfl) ?_
      refine r_get7 hc hw k163 14 (by decide) (v := .int (gI S5 163 14)) rfl q3_142 dX7_read_190 ?_
      refine lv_bipush (v := 99) hx hb dX7_read_193 (by decide) ?_
      refine lv_icmp_gt (tgt := 217) hx hb dX7_read_195 (by decide) (fun c8 => ?_) (fun c8 => ?_)
      · have h := ifT c8 h
        refine lv_iconst (v := 4) hx hb dX7_read_217 (by decide) ?_
        refine lv_goto (tgt := 222) hx hb dX7_read_218 (by decide) ?_
        obtain ⟨S9, e10, h⟩ := nm_some h
        refine r_put7_13 hc hw k163 e10 q3_141 dX7_read_222 (fun H locs hw => ?_)
        refine lv_goto (tgt := 253) hx hb dX7_read_225 (by decide) ?_
        obtain ⟨rfl, rfl⟩ := sm_inj h
        exact r_vret hc hr hw dX7_read_253
      · have h := ifF c8 h
        refine lv_iload_n hx hb dX7_read_198 rfl (lv_at hl 1 rfl) ?_
        refine lv_bipush (v := 48) hx hb dX7_read_199 (by decide) ?_
        refine lv_icmp_ne (tgt := 221) hx hb dX7_read_201 (by decide) (fun c11 => ?_) (fun c11 => ?_)
        · have h := ifF c11 h
          refine lv_iconst (v := 1) hx hb dX7_read_221 (by decide) ?_
          obtain ⟨S12, e13, h⟩ := nm_some h
          refine r_put7_13 hc hw k163 e13 q3_141 dX7_read_222 (fun H locs hw => ?_)
          refine lv_goto (tgt := 253) hx hb dX7_read_225 (by decide) ?_
          obtain ⟨rfl, rfl⟩ := sm_inj h
          exact r_vret hc hr hw dX7_read_253
        · have h := ifT c11 h
          refine lv_aload_n hx hb dX7_read_204 rfl (lv_at hl 0 rfl) ?_
          refine r_get7 hc hw k163 11 (by decide) (v := .int (gI S5 163 11)) rfl q3_139 dX7_read_205 ?_
          refine lv_aload_n hx hb dX7_read_208 rfl (lv_at hl 0 rfl) ?_
          refine r_get7 hc hw k163 12 (by decide) (v := .int (gI S5 163 12)) rfl q3_140 dX7_read_209 ?_
          refine lv_isub hx hb dX7_read_212 ?_
          refine lv_iconst (v := 1) hx hb dX7_read_213 (by decide) ?_
          refine lv_icmp_le (tgt := 221) hx hb dX7_read_214 (by decide) (fun c14 => ?_) (fun c14 => ?_)
          · have h := ifT c14 h
            refine lv_iconst (v := 1) hx hb dX7_read_221 (by decide) ?_
            obtain ⟨S15, e16, h⟩ := nm_some h
            refine r_put7_13 hc hw k163 e16 q3_141 dX7_read_222 (fun H locs hw => ?_)
            refine lv_goto (tgt := 253) hx hb dX7_read_225 (by decide) ?_
            obtain ⟨rfl, rfl⟩ := sm_inj h
            exact r_vret hc hr hw dX7_read_253
          · have h := ifF c14 h
            refine lv_iconst (v := 4) hx hb dX7_read_217 (by decide) ?_
            refine lv_goto (tgt := 222) hx hb dX7_read_218 (by decide) ?_
            obtain ⟨S17, e18, h⟩ := nm_some h
            refine r_put7_13 hc hw k163 e18 q3_141 dX7_read_222 (fun H locs hw => ?_)
            refine lv_goto (tgt := 253) hx hb dX7_read_225 (by decide) ?_
            obtain ⟨rfl, rfl⟩ := sm_inj h
            exact r_vret hc hr hw dX7_read_253
    · have h := ifF c7 h
      refine lv_aload_n hx hb dX7_read_140 rfl (lv_at hl 0 rfl) ?_
      refine lv_aload_n hx hb dX7_read_141 rfl (lv_at hl 0 rfl) ?_
      refine r_get7 hc hw k163 14 (by decide) (v := .int (gI S5 163 14)) rfl q3_142 dX7_read_142 ?_
      refine lv_bipush (v := 99) hx hb dX7_read_145 (by decide) ?_
      refine lv_icmp_le (tgt := 157) hx hb dX7_read_147 (by decide) (fun c19 => ?_) (fun c19 => ?_)
      · have h := ifT c19 h
        refine lv_bipush (v := 10) hx hb dX7_read_157 (by decide) ?_
        refine lv_aload_n hx hb dX7_read_159 rfl (lv_at hl 0 rfl) ?_
        refine r_get7 hc hw k163 14 (by decide) (v := .int (gI S5 163 14)) rfl q3_142 dX7_read_160 ?_
        refine lv_imul hx hb dX7_read_163 ?_
        refine lv_aload_n hx hb dX7_read_164 rfl (lv_at hl 0 rfl) ?_
        obtain ⟨r20, S21, h22, h⟩ := bd_some h
        refine r_callV7i hc hw hl.1 (As := []) (rest := [.int (10 * (gI S5 163 14)), .ref (X.1 + 163)]) k163 (c_X7_here l X  h22) ms_X7_here rfl q4_2 rfl rfl ⟨rfl, rfl, Nat.le_of_ble_eq_true rfl, Nat.le_of_ble_eq_true rfl⟩ (Nat.le_of_ble_eq_true rfl) ⟨Nat.zero_le _, Nat.zero_le _⟩ dX7_read_165 (fun H locs hw => ?_)
        refine lv_iadd hx hb dX7_read_168 ?_
        refine lv_bipush (v := 48) hx hb dX7_read_169 (by decide) ?_
        refine lv_isub hx hb dX7_read_171 ?_
        obtain ⟨S23, e24, h⟩ := nm_some h
        refine r_put7_14 hc hw k163 e24 q3_142 dX7_read_172 (fun H locs hw => ?_)
        refine lv_aload_n hx hb dX7_read_175 rfl (lv_at hl 0 rfl) ?_
        refine lv_dup hx hb dX7_read_176 rfl ?_
        refine r_get7 hc hw k163 11 (by decide) (v := .int (gI S23 163 11)) rfl q3_139 dX7_read_177 ?_
        refine lv_iconst (v := 1) hx hb dX7_read_180 (by decide) ?_
        refine lv_iadd hx hb dX7_read_181 ?_
        obtain ⟨S25, e26, h⟩ := nm_some h
        refine r_put7_11 hc hw k163 e26 q3_139 dX7_read_182 (fun H locs hw => ?_)
        refine lv_goto (tgt := 126) hx hb dX7_read_185 (by decide) ?_
        exact ih x1 S25 _ _ _ hw (lv_sub hl [0, 1] rfl) h
      · have h := ifF c19 h
        refine lv_aload_n hx hb dX7_read_150 rfl (lv_at hl 0 rfl) ?_
        refine r_get7 hc hw k163 14 (by decide) (v := .int (gI S5 163 14)) rfl q3_142 dX7_read_151 ?_
        refine lv_goto (tgt := 172) hx hb dX7_read_154 (by decide) ?_
        obtain ⟨S27, e28, h⟩ := nm_some h
        refine r_put7_14 hc hw k163 e28 q3_142 dX7_read_172 (fun H locs hw => ?_)
        refine lv_aload_n hx hb dX7_read_175 rfl (lv_at hl 0 rfl) ?_
        refine lv_dup hx hb dX7_read_176 rfl ?_
        refine r_get7 hc hw k163 11 (by decide) (v := .int (gI S27 163 11)) rfl q3_139 dX7_read_177 ?_
        refine lv_iconst (v := 1) hx hb dX7_read_180 (by decide) ?_
        refine lv_iadd hx hb dX7_read_181 ?_
        obtain ⟨S29, e30, h⟩ := nm_some h
        refine r_put7_11 hc hw k163 e30 q3_139 dX7_read_182 (fun H locs hw => ?_)
        refine lv_goto (tgt := 126) hx hb dX7_read_185 (by decide) ?_
        exact ih x1 S29 _ _ _ hw (lv_sub hl [0, 1] rfl) h
set_option maxRecDepth 20000 in
theorem w_X7_read_0 {p : Program} {l : Launch} {e : Env} {s : State} {m : MethodId} {args : Array Value} {below : List Frame} {meth : Method} {c : Code} {X : Wx} {r : Unit} {S' : Mm} (hc : Cx p s m args meth c X cX7_read 2 RX7) (hr : meth.sig.returnType = none)   : ∀ (n : Nat), ∀ (S : Mm) (H : Heap) (locs : List Loc) (ls : Array Slot), Wd X s.heap S H locs → lv_has ls 2 [(0, .ref (X.1 + 163))] → f_X7_read_0 n S = some (r, S') → W p l e rm_X7_read s m args below meth c H locs 0 0 (MQ below (Qq X none S') args s 0 0 (AA X.1)) (F0 m 0 ls []) := by
  have hx := hc.1
  have hb := hc.2.1
  intro n
  induction n with
  | zero => intro S H locs ls hw hl h; cases h
  | succ n ih =>
    intro S H locs ls hw hl h
    rw [f_X7_read_0] at h
    refine lv_aload_n hx hb dX7_read_0 rfl (lv_at hl 0 rfl) ?_
    obtain ⟨r1, S2, h3, h⟩ := bd_some h
    refine r_callV7i hc hw hl.1 (As := []) (rest := []) k163 (c_X7_here l X  h3) ms_X7_here rfl q4_2 rfl rfl ⟨rfl, rfl, Nat.le_of_ble_eq_true rfl, Nat.le_of_ble_eq_true rfl⟩ (Nat.le_of_ble_eq_true rfl) ⟨Nat.zero_le _, Nat.zero_le _⟩ dX7_read_1 (fun H locs hw => ?_)
    refine lv_bipush (v := 32) hx hb dX7_read_4 (by decide) ?_
    refine lv_icmp_ne (tgt := 22) hx hb dX7_read_6 (by decide) (fun c4 => ?_) (fun c4 => ?_)
    · have h := ifF c4 h
      refine lv_aload_n hx hb dX7_read_22 rfl (lv_at hl 0 rfl) ?_
      refine lv_aload_n hx hb dX7_read_23 rfl (lv_at hl 0 rfl) ?_
      refine r_get7 hc hw k163 11 (by decide) (v := .int (gI S2 163 11)) rfl q3_139 dX7_read_24 ?_
      obtain ⟨S5, e6, h⟩ := nm_some h
      refine r_put7_12 hc hw k163 e6 q3_140 dX7_read_27 (fun H locs hw => ?_)
      refine lv_aload_n hx hb dX7_read_30 rfl (lv_at hl 0 rfl) ?_
      refine lv_iconst (v := 0) hx hb dX7_read_31 (by decide) ?_
      obtain ⟨S7, e8, h⟩ := nm_some h
      refine r_put7_14 hc hw k163 e8 q3_142 dX7_read_32 (fun H locs hw => ?_)
      refine lv_aload_n hx hb dX7_read_35 rfl (lv_at hl 0 rfl) ?_
      obtain ⟨r9, S10, h11, h⟩ := bd_some h
      refine r_callV7i hc hw hl.1 (As := []) (rest := []) k163 (c_X7_here l X  h11) ms_X7_here rfl q4_2 rfl rfl ⟨rfl, rfl, Nat.le_of_ble_eq_true rfl, Nat.le_of_ble_eq_true rfl⟩ (Nat.le_of_ble_eq_true rfl) ⟨Nat.zero_le _, Nat.zero_le _⟩ dX7_read_36 (fun H locs hw => ?_)
      refine lv_istore_n (lv' := [(1, .int r9), (0, .ref (X.1 + 163))]) hx hb dX7_read_39 rfl hl (by decide) rfl (fun ls hl => ?_)
      refine lv_iload_n hx hb dX7_read_40 rfl (lv_at hl 0 rfl) ?_
      refine lv_if_ge (tgt := 52) hx hb dX7_read_41 (by decide) (fun c12 => ?_) (fun c12 => ?_)
      · have h := ifT c12 h
        refine lv_iload_n hx hb dX7_read_52 rfl (lv_at hl 0 rfl) ?_
        refine lv_bipush (v := 97) hx hb dX7_read_53 (by decide) ?_
        refine lv_bipush (v := 122) hx hb dX7_read_55 (by decide) ?_
        obtain ⟨r13, S14, h15, h⟩ := bd_some h
        refine r_callSi hc hw hl.1 (As := [.int r9, .int 97, .int 122]) (rest := []) (c_X7_in l X  h15) ms_X7_in q3_227 rfl rfl ⟨rfl, rfl, Nat.le_of_ble_eq_true rfl, Nat.le_of_ble_eq_true rfl⟩ (Nat.le_of_ble_eq_true rfl) ⟨Nat.zero_le _, Nat.zero_le _⟩ dX7_read_57 (fun H locs hw => ?_)
        refine lv_if_eq (tgt := 115) hx hb dX7_read_60 (by decide) (fun c16 => ?_) (fun c16 => ?_)
        · have h := ifT c16 h
          refine lv_iload_n hx hb dX7_read_115 rfl (lv_at hl 0 rfl) ?_
          refine lv_bipush (v := 48) hx hb dX7_read_116 (by decide) ?_
          refine lv_bipush (v := 57) hx hb dX7_read_118 (by decide) ?_
          obtain ⟨r17, S18, h19, h⟩ := bd_some h
          refine r_callSi hc hw hl.1 (As := [.int r9, .int 48, .int 57]) (rest := []) (c_X7_in l X  h19) ms_X7_in q3_227 rfl rfl ⟨rfl, rfl, Nat.le_of_ble_eq_true rfl, Nat.le_of_ble_eq_true rfl⟩ (Nat.le_of_ble_eq_true rfl) ⟨Nat.zero_le _, Nat.zero_le _⟩ dX7_read_120 (fun H locs hw => ?_)
          refine lv_if_eq (tgt := 228) hx hb dX7_read_123 (by decide) (fun c20 => ?_) (fun c20 => ?_)
          · have h := ifT c20 h
            refine lv_aload_n hx hb dX7_read_228 rfl (lv_at hl 1 rfl) ?_
            refine lv_dup hx hb dX7_read_229 rfl ?_
            refine r_get7 hc hw k163 11 (by decide) (v := .int (gI S18 163 11)) rfl q3_139 dX7_read_230 ?_
            refine lv_iconst (v := 1) hx hb dX7_read_233 (by decide) ?_
            refine lv_iadd hx hb dX7_read_234 ?_
            obtain ⟨S21, e22, h⟩ := nm_some h
            refine r_put7_11 hc hw k163 e22 q3_139 dX7_read_235 (fun H locs hw => ?_)
            refine lv_aload_n hx hb dX7_read_238 rfl (lv_at hl 1 rfl) ?_
            refine lv_iload_n hx hb dX7_read_239 rfl (lv_at hl 0 rfl) ?_
            refine lv_bipush (v := 59) hx hb dX7_read_240 (by decide) ?_
            refine lv_icmp_ne (tgt := 249) hx hb dX7_read_242 (by decide) (fun c23 => ?_) (fun c23 => ?_)
            · have h := ifF c23 h
              refine lv_iconst (v := 4) hx hb dX7_read_249 (by decide) ?_
              obtain ⟨S24, e25, h⟩ := nm_some h
              refine r_put7_13 hc hw k163 e25 q3_141 dX7_read_250 (fun H locs hw => ?_)
              obtain ⟨rfl, rfl⟩ := sm_inj h
              exact r_vret hc hr hw dX7_read_253
            · have h := ifT c23 h
              refine lv_iconst (v := 2) hx hb dX7_read_245 (by decide) ?_
              refine lv_goto (tgt := 250) hx hb dX7_read_246 (by decide) ?_
              obtain ⟨S26, e27, h⟩ := nm_some h
              refine r_put7_13 hc hw k163 e27 q3_141 dX7_read_250 (fun H locs hw => ?_)
              obtain ⟨rfl, rfl⟩ := sm_inj h
              exact r_vret hc hr hw dX7_read_253
          · have h := ifF c20 h
            exact w_X7_read_126 hc hr 400 r9 S18 _ _ _ hw (lv_sub hl [1, 0] rfl) h
        · have h := ifF c16 h
          exact w_X7_read_63 hc hr 400 r9 S14 _ _ _ hw (lv_sub hl [1, 0] rfl) h
      · have h := ifF c12 h
        refine lv_aload_n hx hb dX7_read_44 rfl (lv_at hl 1 rfl) ?_
        refine lv_iconst (v := 3) hx hb dX7_read_45 (by decide) ?_
        obtain ⟨S28, e29, h⟩ := nm_some h
        refine r_put7_13 hc hw k163 e29 q3_141 dX7_read_46 (fun H locs hw => ?_)
        refine lv_goto (tgt := 253) hx hb dX7_read_49 (by decide) ?_
        obtain ⟨rfl, rfl⟩ := sm_inj h
        exact r_vret hc hr hw dX7_read_253
    · have h := ifT c4 h
      refine lv_aload_n hx hb dX7_read_9 rfl (lv_at hl 0 rfl) ?_
      refine lv_dup hx hb dX7_read_10 rfl ?_
      refine r_get7 hc hw k163 11 (by decide) (v := .int (gI S2 163 11)) rfl q3_139 dX7_read_11 ?_
      refine lv_iconst (v := 1) hx hb dX7_read_14 (by decide) ?_
      refine lv_iadd hx hb dX7_read_15 ?_
      obtain ⟨S30, e31, h⟩ := nm_some h
      refine r_put7_11 hc hw k163 e31 q3_139 dX7_read_16 (fun H locs hw => ?_)
      refine lv_goto (tgt := 0) hx hb dX7_read_19 (by decide) ?_
      exact ih S30 _ _ _ hw (lv_sub hl [0] rfl) h
set_option maxRecDepth 20000 in
theorem c_X7_read (l : Launch) (X : Wx) {S S' : Mm} {r : Unit}   (h : f_X7_read S = some (r, S')) : Ct l X yX7_read cX7_read 2 none rm_X7_read [.ref (X.1 + 163)] S none S' := by
  refine r_entry (by decide) (Nat.le_of_ble_eq_true rfl) ?_
  intro p e s m args below meth c ls hc hr hw hl
  have hc : Cx p s m args meth c X cX7_read 2 RX7 := hc
  have hl : lv_has ls 2 [(0, .ref (X.1 + 163))] := hl
  have hx := hc.1
  have hb := hc.2.1
  unfold f_X7_read at h
  exact w_X7_read_0 hc hr 400 S _ _ _ hw (lv_sub hl [0] rfl) h
