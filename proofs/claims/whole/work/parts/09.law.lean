/-! THE CLAIM OUT OF ONE WALK OF THE LAW'S BODY. Your part is whole_start (and what it stands on); all else here is the same for every law, but numbers. -/
def R_law : String := "NeedleHandsLaw"
def lw_P (b : Addr) (xs : List Int32) (args : Array Value) (s : State) : Prop := args = #[.ref b] ∧ s.IntsAt b xs ∧ xs.length ≤ 256 ∧ (Jvm.Cond.and given_1 narrow_1).before args s = true
def lw_Q (_ : Array Value) (s : State) (o : Outcome) (t : State) : Prop := o = .returned (some (.int 1)) ∧ Framed s o t [] 600000 7302250
def lw_Z (below : List Frame) (a : Array Value) (s : State) : State → Prop := fun t => ∃ o, t.status = .running ∧ Ended t below o ∧ lw_Q a s o t
/-- the law's own end, with 1 on the stack, nothing written that was there before, its room as the claim has it -/
theorem lw_ret {p : Program} {l : Launch} {e : Env} {s : State} {m : MethodId} {below : List Frame} {meth : Method} {c : Code} {b : Nat} (hx : p.tables.exec = Jvm.exec) (hb : c.code = code) (hr : meth.sig.returnType = ret) (hlocks : meth.locks = false) {pc : Nat} {H : Heap} {ls : Array Slot} (hdg : decode code pc = .ok (.ireturn, 1)) : W p l e room_1 s m #[Value.ref b] below meth c H [] 600000 7302250 (lw_Z below #[Value.ref b] s) (F0 m pc ls [.int 1]) := by
  intro T hT X
  obtain ⟨fs, hret, hrun, hended, hW, hframe⟩ := X.leave (v := some (.int 1)) (hlocks := hlocks) (fun h => by rw [hr] at h; cases h)
  have hmeth' : T.vm.method? m = some meth := X.method'
  refine ⟨T.setFrames fs, ?_, .returned (some (.int 1)), hrun, hended, rfl, ⟨_, rfl⟩, hW, hframe⟩
  jvm_step X.here [X.here.top, hx, hb, hdg, hmeth', hr, ret, narrow_b1]
  (try refine ⟨rfl, ?_⟩); (try refine ⟨rfl, ?_⟩)
  first | (intro acts; rw [hret _ acts rfl rfl rfl]) | rw [hret _ _ rfl rfl rfl]
  exact Steps.refl _
/-- what holds at the law's entry: the machine, the code, the tables' words (any of lw_tbl by 'hts w (by decide +kernel)'), the script of L ints xs at the cell b, what the Statement gives of the start (any of its parts by flat_of_before) -/
def lw_At (p : Program) (s : State) (m : MethodId) (meth : Method) (c : Code) (b L : Nat) (xs : Nat → Int32) : Prop :=
  p.tables.exec = Jvm.exec ∧ c.code = code ∧ meth.sig.returnType = ret ∧ c.maxLocals = 4 ∧ s.vm.findClass R_law = some m.cls ∧ (∀ w ∈ lw_tbl, w.before #[Value.ref b] s = true) ∧ va_X b L xs s s.heap ∧ b < s.heap.size ∧ meth.locks = false ∧ (Jvm.Cond.and given_1 narrow_1).before #[Value.ref b] s = true

theorem x_in {i L : Nat} (hi : i + 4 ≤ L) (hL : L ≤ 256) : vp_in (nI i) L := vp_in_nI (by omega) (by omega)
theorem x_in1 {i L : Nat} (hi : i + 4 ≤ L) (hL : L ≤ 256) : vp_in (nI i + 1) L := by rw [show nI i + 1 = nI (i + 1) from nI_1 i]; exact vp_in_nI (by omega) (by omega)
theorem x_in2 {i L : Nat} (hi : i + 4 ≤ L) (hL : L ≤ 256) : vp_in (nI i + 2) L := by rw [show nI i + 2 = nI (i + 2) from nI_add i 2]; exact vp_in_nI (by omega) (by omega)
theorem x_in3 {i L : Nat} (hi : i + 4 ≤ L) (hL : L ≤ 256) : vp_in (nI i + 3) L := by rw [show nI i + 3 = nI (i + 3) from nI_add i 3]; exact vp_in_nI (by omega) (by omega)
def sim_type (Inv : Mm → Prop) : Prop := ∀ S, Inv S → ∀ x1 : Int32, ∃ (r : Int32) (S1 S2 : Mm), f_X6_type S x1 = some (r, S1) ∧ f_X7_type S1 x1 = some (r, S2) ∧ Inv S2
set_option maxRecDepth 20000 in
theorem law_type {p : Program} {l : Launch} {e : Env} {s : State} {m : MethodId} {below : List Frame} {meth : Method} {c : Code} {b L : Nat} {xs : Nat → Int32} {X : Wx} {Inv : Mm → Prop} (hc : Cx p s m #[Value.ref b] meth c X cL_law 4 RL) (hX : va_X b L xs s s.heap) (hbl : b < s.heap.size) (hbA : ¬ AA X.1 b) (hL : L ≤ 256) (hsim : sim_type Inv) {i : Nat} (hi : i + 4 ≤ L) {S : Mm} (hI : Inv S) {H : Heap} {locs : List Loc} {ls : Array Slot} (hw : Wd X s.heap S H locs) (hl : lv_has ls 4 [(0, .ref b), (1, .ref (X.1 + 0)), (2, .ref (X.1 + 163)), (3, .int (nI i))])
    (kk : ∀ (S2 : Mm) (H : Heap) (locs : List Loc), Inv S2 → Wd X s.heap S2 H locs → W p l e room_1 s m #[Value.ref b] below meth c H locs 180 2007 (lw_Z below #[Value.ref b] s) (F0 m 822 ls [])) : W p l e room_1 s m #[Value.ref b] below meth c H locs 180 2007 (lw_Z below #[Value.ref b] s) (F0 m 156 ls []) := by
  have hx := hc.1
  have hb := hc.2.1
  obtain ⟨r, S1, S2, h1, h2, hI2⟩ := hsim S hI (xs (nI i + 1).toNatClampNeg)
  refine lv_aload_n hx hb dL_law_156 rfl (lv_at hl 1 rfl) ?_
  refine lv_aload_n hx hb dL_law_157 rfl (lv_at hl 0 rfl) ?_
  refine lv_iload_n hx hb dL_law_158 rfl (lv_at hl 3 rfl) ?_
  refine lv_iconst (v := 1) hx hb dL_law_159 (by decide) ?_
  refine lv_iadd hx hb dL_law_160 ?_
  refine va_sld hx hb hX hbl hbA hw.2.1 (x_in1 hi hL) dL_law_161 ?_
  refine r_callV6i hc hw hl.1 (As := [.int (xs (nI i + 1).toNatClampNeg)]) (rest := []) k0 (c_X6_type l X h1) ms_X6_type rfl q2_20 rfl rfl ⟨rfl, rfl, Nat.le_of_ble_eq_true rfl, Nat.le_of_ble_eq_true rfl⟩ (Nat.le_of_ble_eq_true rfl) ⟨Nat.le_of_ble_eq_true rfl, Nat.le_of_ble_eq_true rfl⟩ dL_law_162 (fun H locs hw => ?_)
  refine lv_aload_n hx hb dL_law_165 rfl (lv_at hl 2 rfl) ?_
  refine lv_aload_n hx hb dL_law_166 rfl (lv_at hl 0 rfl) ?_
  refine lv_iload_n hx hb dL_law_167 rfl (lv_at hl 3 rfl) ?_
  refine lv_iconst (v := 1) hx hb dL_law_168 (by decide) ?_
  refine lv_iadd hx hb dL_law_169 ?_
  refine va_sld hx hb hX hbl hbA hw.2.1 (x_in1 hi hL) dL_law_170 ?_
  refine r_callV7i hc hw hl.1 (As := [.int (xs (nI i + 1).toNatClampNeg)]) (rest := [.int r]) k163 (c_X7_type l X h2) ms_X7_type rfl q3_223 rfl rfl ⟨rfl, rfl, Nat.le_of_ble_eq_true rfl, Nat.le_of_ble_eq_true rfl⟩ (Nat.le_of_ble_eq_true rfl) ⟨Nat.le_of_ble_eq_true rfl, Nat.le_of_ble_eq_true rfl⟩ dL_law_171 (fun H locs hw => ?_)
  refine lv_icmp_eq (tgt := 822) hx hb dL_law_174 (by decide) (fun _ => kk S2 H locs hI2 hw) (fun c1 => absurd rfl c1)
def sim_clear (Inv : Mm → Prop) : Prop := ∀ S, Inv S → ∃ (r : Int32) (S1 S2 : Mm), f_X6_clear S = some (r, S1) ∧ f_X7_clear S1 = some (r, S2) ∧ Inv S2
set_option maxRecDepth 20000 in
theorem law_clear {p : Program} {l : Launch} {e : Env} {s : State} {m : MethodId} {below : List Frame} {meth : Method} {c : Code} {b L : Nat} {xs : Nat → Int32} {X : Wx} {Inv : Mm → Prop} (hc : Cx p s m #[Value.ref b] meth c X cL_law 4 RL) (hX : va_X b L xs s s.heap) (hbl : b < s.heap.size) (hbA : ¬ AA X.1 b) (hL : L ≤ 256) (hsim : sim_clear Inv) {i : Nat} (hi : i + 4 ≤ L) {S : Mm} (hI : Inv S) {H : Heap} {locs : List Loc} {ls : Array Slot} (hw : Wd X s.heap S H locs) (hl : lv_has ls 4 [(0, .ref b), (1, .ref (X.1 + 0)), (2, .ref (X.1 + 163)), (3, .int (nI i))])
    (kk : ∀ (S2 : Mm) (H : Heap) (locs : List Loc), Inv S2 → Wd X s.heap S2 H locs → W p l e room_1 s m #[Value.ref b] below meth c H locs 180 2007 (lw_Z below #[Value.ref b] s) (F0 m 822 ls [])) : W p l e room_1 s m #[Value.ref b] below meth c H locs 180 2007 (lw_Z below #[Value.ref b] s) (F0 m 179 ls []) := by
  have hx := hc.1
  have hb := hc.2.1
  obtain ⟨r, S1, S2, h1, h2, hI2⟩ := hsim S hI 
  refine lv_aload_n hx hb dL_law_179 rfl (lv_at hl 1 rfl) ?_
  refine r_callV6i hc hw hl.1 (As := []) (rest := []) k0 (c_X6_clear l X h1) ms_X6_clear rfl q2_28 rfl rfl ⟨rfl, rfl, Nat.le_of_ble_eq_true rfl, Nat.le_of_ble_eq_true rfl⟩ (Nat.le_of_ble_eq_true rfl) ⟨Nat.le_of_ble_eq_true rfl, Nat.le_of_ble_eq_true rfl⟩ dL_law_180 (fun H locs hw => ?_)
  refine lv_aload_n hx hb dL_law_183 rfl (lv_at hl 2 rfl) ?_
  refine r_callV7i hc hw hl.1 (As := []) (rest := [.int r]) k163 (c_X7_clear l X h2) ms_X7_clear rfl q3_230 rfl rfl ⟨rfl, rfl, Nat.le_of_ble_eq_true rfl, Nat.le_of_ble_eq_true rfl⟩ (Nat.le_of_ble_eq_true rfl) ⟨Nat.le_of_ble_eq_true rfl, Nat.le_of_ble_eq_true rfl⟩ dL_law_184 (fun H locs hw => ?_)
  refine lv_icmp_eq (tgt := 822) hx hb dL_law_187 (by decide) (fun _ => kk S2 H locs hI2 hw) (fun c1 => absurd rfl c1)
def sim_shop (Inv : Mm → Prop) : Prop := ∀ S, Inv S → ∃ (r : Int32) (S1 S2 : Mm), f_X6_shop S = some (r, S1) ∧ f_X7_shop S1 = some (r, S2) ∧ Inv S2
set_option maxRecDepth 20000 in
theorem law_shop {p : Program} {l : Launch} {e : Env} {s : State} {m : MethodId} {below : List Frame} {meth : Method} {c : Code} {b L : Nat} {xs : Nat → Int32} {X : Wx} {Inv : Mm → Prop} (hc : Cx p s m #[Value.ref b] meth c X cL_law 4 RL) (hX : va_X b L xs s s.heap) (hbl : b < s.heap.size) (hbA : ¬ AA X.1 b) (hL : L ≤ 256) (hsim : sim_shop Inv) {i : Nat} (hi : i + 4 ≤ L) {S : Mm} (hI : Inv S) {H : Heap} {locs : List Loc} {ls : Array Slot} (hw : Wd X s.heap S H locs) (hl : lv_has ls 4 [(0, .ref b), (1, .ref (X.1 + 0)), (2, .ref (X.1 + 163)), (3, .int (nI i))])
    (kk : ∀ (S2 : Mm) (H : Heap) (locs : List Loc), Inv S2 → Wd X s.heap S2 H locs → W p l e room_1 s m #[Value.ref b] below meth c H locs 180 2007 (lw_Z below #[Value.ref b] s) (F0 m 822 ls [])) : W p l e room_1 s m #[Value.ref b] below meth c H locs 180 2007 (lw_Z below #[Value.ref b] s) (F0 m 192 ls []) := by
  have hx := hc.1
  have hb := hc.2.1
  obtain ⟨r, S1, S2, h1, h2, hI2⟩ := hsim S hI 
  refine lv_aload_n hx hb dL_law_192 rfl (lv_at hl 1 rfl) ?_
  refine r_callV6i hc hw hl.1 (As := []) (rest := []) k0 (c_X6_shop l X h1) ms_X6_shop rfl q2_32 rfl rfl ⟨rfl, rfl, Nat.le_of_ble_eq_true rfl, Nat.le_of_ble_eq_true rfl⟩ (Nat.le_of_ble_eq_true rfl) ⟨Nat.le_of_ble_eq_true rfl, Nat.le_of_ble_eq_true rfl⟩ dL_law_193 (fun H locs hw => ?_)
  refine lv_aload_n hx hb dL_law_196 rfl (lv_at hl 2 rfl) ?_
  refine r_callV7i hc hw hl.1 (As := []) (rest := [.int r]) k163 (c_X7_shop l X h2) ms_X7_shop rfl q3_234 rfl rfl ⟨rfl, rfl, Nat.le_of_ble_eq_true rfl, Nat.le_of_ble_eq_true rfl⟩ (Nat.le_of_ble_eq_true rfl) ⟨Nat.le_of_ble_eq_true rfl, Nat.le_of_ble_eq_true rfl⟩ dL_law_197 (fun H locs hw => ?_)
  refine lv_icmp_eq (tgt := 822) hx hb dL_law_200 (by decide) (fun _ => kk S2 H locs hI2 hw) (fun c1 => absurd rfl c1)
def sim_step (Inv : Mm → Prop) : Prop := ∀ S, Inv S → ∀ x1 : Int32, ∀ x2 : Int32, ∃ (r : Int32) (S1 S2 : Mm), f_X6_step S x1 x2 = some (r, S1) ∧ f_X7_step S1 x1 x2 = some (r, S2) ∧ Inv S2
set_option maxRecDepth 20000 in
theorem law_step {p : Program} {l : Launch} {e : Env} {s : State} {m : MethodId} {below : List Frame} {meth : Method} {c : Code} {b L : Nat} {xs : Nat → Int32} {X : Wx} {Inv : Mm → Prop} (hc : Cx p s m #[Value.ref b] meth c X cL_law 4 RL) (hX : va_X b L xs s s.heap) (hbl : b < s.heap.size) (hbA : ¬ AA X.1 b) (hL : L ≤ 256) (hsim : sim_step Inv) {i : Nat} (hi : i + 4 ≤ L) {S : Mm} (hI : Inv S) {H : Heap} {locs : List Loc} {ls : Array Slot} (hw : Wd X s.heap S H locs) (hl : lv_has ls 4 [(0, .ref b), (1, .ref (X.1 + 0)), (2, .ref (X.1 + 163)), (3, .int (nI i))])
    (kk : ∀ (S2 : Mm) (H : Heap) (locs : List Loc), Inv S2 → Wd X s.heap S2 H locs → W p l e room_1 s m #[Value.ref b] below meth c H locs 180 2007 (lw_Z below #[Value.ref b] s) (F0 m 822 ls [])) : W p l e room_1 s m #[Value.ref b] below meth c H locs 180 2007 (lw_Z below #[Value.ref b] s) (F0 m 205 ls []) := by
  have hx := hc.1
  have hb := hc.2.1
  obtain ⟨r, S1, S2, h1, h2, hI2⟩ := hsim S hI (xs (nI i + 1).toNatClampNeg) (xs (nI i + 2).toNatClampNeg)
  refine lv_aload_n hx hb dL_law_205 rfl (lv_at hl 1 rfl) ?_
  refine lv_aload_n hx hb dL_law_206 rfl (lv_at hl 0 rfl) ?_
  refine lv_iload_n hx hb dL_law_207 rfl (lv_at hl 3 rfl) ?_
  refine lv_iconst (v := 1) hx hb dL_law_208 (by decide) ?_
  refine lv_iadd hx hb dL_law_209 ?_
  refine va_sld hx hb hX hbl hbA hw.2.1 (x_in1 hi hL) dL_law_210 ?_
  refine lv_aload_n hx hb dL_law_211 rfl (lv_at hl 0 rfl) ?_
  refine lv_iload_n hx hb dL_law_212 rfl (lv_at hl 3 rfl) ?_
  refine lv_iconst (v := 2) hx hb dL_law_213 (by decide) ?_
  refine lv_iadd hx hb dL_law_214 ?_
  refine va_sld hx hb hX hbl hbA hw.2.1 (x_in2 hi hL) dL_law_215 ?_
  refine r_callV6i hc hw hl.1 (As := [.int (xs (nI i + 1).toNatClampNeg), .int (xs (nI i + 2).toNatClampNeg)]) (rest := []) k0 (c_X6_step l X h1) ms_X6_step rfl q2_90 rfl rfl ⟨rfl, rfl, Nat.le_of_ble_eq_true rfl, Nat.le_of_ble_eq_true rfl⟩ (Nat.le_of_ble_eq_true rfl) ⟨Nat.le_of_ble_eq_true rfl, Nat.le_of_ble_eq_true rfl⟩ dL_law_216 (fun H locs hw => ?_)
  refine lv_aload_n hx hb dL_law_219 rfl (lv_at hl 2 rfl) ?_
  refine lv_aload_n hx hb dL_law_220 rfl (lv_at hl 0 rfl) ?_
  refine lv_iload_n hx hb dL_law_221 rfl (lv_at hl 3 rfl) ?_
  refine lv_iconst (v := 1) hx hb dL_law_222 (by decide) ?_
  refine lv_iadd hx hb dL_law_223 ?_
  refine va_sld hx hb hX hbl hbA hw.2.1 (x_in1 hi hL) dL_law_224 ?_
  refine lv_aload_n hx hb dL_law_225 rfl (lv_at hl 0 rfl) ?_
  refine lv_iload_n hx hb dL_law_226 rfl (lv_at hl 3 rfl) ?_
  refine lv_iconst (v := 2) hx hb dL_law_227 (by decide) ?_
  refine lv_iadd hx hb dL_law_228 ?_
  refine va_sld hx hb hX hbl hbA hw.2.1 (x_in2 hi hL) dL_law_229 ?_
  refine r_callV7i hc hw hl.1 (As := [.int (xs (nI i + 1).toNatClampNeg), .int (xs (nI i + 2).toNatClampNeg)]) (rest := [.int r]) k163 (c_X7_step l X h2) ms_X7_step rfl q4_22 rfl rfl ⟨rfl, rfl, Nat.le_of_ble_eq_true rfl, Nat.le_of_ble_eq_true rfl⟩ (Nat.le_of_ble_eq_true rfl) ⟨Nat.le_of_ble_eq_true rfl, Nat.le_of_ble_eq_true rfl⟩ dL_law_230 (fun H locs hw => ?_)
  refine lv_icmp_eq (tgt := 822) hx hb dL_law_233 (by decide) (fun _ => kk S2 H locs hI2 hw) (fun c1 => absurd rfl c1)
def sim_line (Inv : Mm → Prop) : Prop := ∀ S, Inv S → ∀ x1 : Int32, ∃ (r : Int32) (S1 S2 : Mm), f_X6_line S x1 = some (r, S1) ∧ f_X7_line S1 x1 = some (r, S2) ∧ Inv S2
set_option maxRecDepth 20000 in
theorem law_line {p : Program} {l : Launch} {e : Env} {s : State} {m : MethodId} {below : List Frame} {meth : Method} {c : Code} {b L : Nat} {xs : Nat → Int32} {X : Wx} {Inv : Mm → Prop} (hc : Cx p s m #[Value.ref b] meth c X cL_law 4 RL) (hX : va_X b L xs s s.heap) (hbl : b < s.heap.size) (hbA : ¬ AA X.1 b) (hL : L ≤ 256) (hsim : sim_line Inv) {i : Nat} (hi : i + 4 ≤ L) {S : Mm} (hI : Inv S) {H : Heap} {locs : List Loc} {ls : Array Slot} (hw : Wd X s.heap S H locs) (hl : lv_has ls 4 [(0, .ref b), (1, .ref (X.1 + 0)), (2, .ref (X.1 + 163)), (3, .int (nI i))])
    (kk : ∀ (S2 : Mm) (H : Heap) (locs : List Loc), Inv S2 → Wd X s.heap S2 H locs → W p l e room_1 s m #[Value.ref b] below meth c H locs 180 2007 (lw_Z below #[Value.ref b] s) (F0 m 822 ls [])) : W p l e room_1 s m #[Value.ref b] below meth c H locs 180 2007 (lw_Z below #[Value.ref b] s) (F0 m 238 ls []) := by
  have hx := hc.1
  have hb := hc.2.1
  obtain ⟨r, S1, S2, h1, h2, hI2⟩ := hsim S hI (xs (nI i + 1).toNatClampNeg)
  refine lv_aload_n hx hb dL_law_238 rfl (lv_at hl 1 rfl) ?_
  refine lv_aload_n hx hb dL_law_239 rfl (lv_at hl 0 rfl) ?_
  refine lv_iload_n hx hb dL_law_240 rfl (lv_at hl 3 rfl) ?_
  refine lv_iconst (v := 1) hx hb dL_law_241 (by decide) ?_
  refine lv_iadd hx hb dL_law_242 ?_
  refine va_sld hx hb hX hbl hbA hw.2.1 (x_in1 hi hL) dL_law_243 ?_
  refine r_callV6i hc hw hl.1 (As := [.int (xs (nI i + 1).toNatClampNeg)]) (rest := []) k0 (c_X6_line l X h1) ms_X6_line rfl q2_102 rfl rfl ⟨rfl, rfl, Nat.le_of_ble_eq_true rfl, Nat.le_of_ble_eq_true rfl⟩ (Nat.le_of_ble_eq_true rfl) ⟨Nat.le_of_ble_eq_true rfl, Nat.le_of_ble_eq_true rfl⟩ dL_law_244 (fun H locs hw => ?_)
  refine lv_aload_n hx hb dL_law_247 rfl (lv_at hl 2 rfl) ?_
  refine lv_aload_n hx hb dL_law_248 rfl (lv_at hl 0 rfl) ?_
  refine lv_iload_n hx hb dL_law_249 rfl (lv_at hl 3 rfl) ?_
  refine lv_iconst (v := 1) hx hb dL_law_250 (by decide) ?_
  refine lv_iadd hx hb dL_law_251 ?_
  refine va_sld hx hb hX hbl hbA hw.2.1 (x_in1 hi hL) dL_law_252 ?_
  refine r_callV7i hc hw hl.1 (As := [.int (xs (nI i + 1).toNatClampNeg)]) (rest := [.int r]) k163 (c_X7_line l X h2) ms_X7_line rfl q4_34 rfl rfl ⟨rfl, rfl, Nat.le_of_ble_eq_true rfl, Nat.le_of_ble_eq_true rfl⟩ (Nat.le_of_ble_eq_true rfl) ⟨Nat.le_of_ble_eq_true rfl, Nat.le_of_ble_eq_true rfl⟩ dL_law_253 (fun H locs hw => ?_)
  refine lv_icmp_eq (tgt := 822) hx hb dL_law_256 (by decide) (fun _ => kk S2 H locs hI2 hw) (fun c1 => absurd rfl c1)
def sim_makes (Inv : Mm → Prop) : Prop := ∀ S, Inv S → ∀ x1 : Int32, ∃ (r : Int32) (S1 S2 : Mm), f_X6_makes S x1 = some (r, S1) ∧ f_X7_makes S1 x1 = some (r, S2) ∧ Inv S2
set_option maxRecDepth 20000 in
theorem law_makes {p : Program} {l : Launch} {e : Env} {s : State} {m : MethodId} {below : List Frame} {meth : Method} {c : Code} {b L : Nat} {xs : Nat → Int32} {X : Wx} {Inv : Mm → Prop} (hc : Cx p s m #[Value.ref b] meth c X cL_law 4 RL) (hX : va_X b L xs s s.heap) (hbl : b < s.heap.size) (hbA : ¬ AA X.1 b) (hL : L ≤ 256) (hsim : sim_makes Inv) {i : Nat} (hi : i + 4 ≤ L) {S : Mm} (hI : Inv S) {H : Heap} {locs : List Loc} {ls : Array Slot} (hw : Wd X s.heap S H locs) (hl : lv_has ls 4 [(0, .ref b), (1, .ref (X.1 + 0)), (2, .ref (X.1 + 163)), (3, .int (nI i))])
    (kk : ∀ (S2 : Mm) (H : Heap) (locs : List Loc), Inv S2 → Wd X s.heap S2 H locs → W p l e room_1 s m #[Value.ref b] below meth c H locs 180 2007 (lw_Z below #[Value.ref b] s) (F0 m 822 ls [])) : W p l e room_1 s m #[Value.ref b] below meth c H locs 180 2007 (lw_Z below #[Value.ref b] s) (F0 m 261 ls []) := by
  have hx := hc.1
  have hb := hc.2.1
  obtain ⟨r, S1, S2, h1, h2, hI2⟩ := hsim S hI (xs (nI i + 1).toNatClampNeg)
  refine lv_aload_n hx hb dL_law_261 rfl (lv_at hl 1 rfl) ?_
  refine lv_aload_n hx hb dL_law_262 rfl (lv_at hl 0 rfl) ?_
  refine lv_iload_n hx hb dL_law_263 rfl (lv_at hl 3 rfl) ?_
  refine lv_iconst (v := 1) hx hb dL_law_264 (by decide) ?_
  refine lv_iadd hx hb dL_law_265 ?_
  refine va_sld hx hb hX hbl hbA hw.2.1 (x_in1 hi hL) dL_law_266 ?_
  refine r_callV6i hc hw hl.1 (As := [.int (xs (nI i + 1).toNatClampNeg)]) (rest := []) k0 (c_X6_makes l X h1) ms_X6_makes rfl q2_106 rfl rfl ⟨rfl, rfl, Nat.le_of_ble_eq_true rfl, Nat.le_of_ble_eq_true rfl⟩ (Nat.le_of_ble_eq_true rfl) ⟨Nat.le_of_ble_eq_true rfl, Nat.le_of_ble_eq_true rfl⟩ dL_law_267 (fun H locs hw => ?_)
  refine lv_aload_n hx hb dL_law_270 rfl (lv_at hl 2 rfl) ?_
  refine lv_aload_n hx hb dL_law_271 rfl (lv_at hl 0 rfl) ?_
  refine lv_iload_n hx hb dL_law_272 rfl (lv_at hl 3 rfl) ?_
  refine lv_iconst (v := 1) hx hb dL_law_273 (by decide) ?_
  refine lv_iadd hx hb dL_law_274 ?_
  refine va_sld hx hb hX hbl hbA hw.2.1 (x_in1 hi hL) dL_law_275 ?_
  refine r_callV7i hc hw hl.1 (As := [.int (xs (nI i + 1).toNatClampNeg)]) (rest := [.int r]) k163 (c_X7_makes l X h2) ms_X7_makes rfl q4_38 rfl rfl ⟨rfl, rfl, Nat.le_of_ble_eq_true rfl, Nat.le_of_ble_eq_true rfl⟩ (Nat.le_of_ble_eq_true rfl) ⟨Nat.le_of_ble_eq_true rfl, Nat.le_of_ble_eq_true rfl⟩ dL_law_276 (fun H locs hw => ?_)
  refine lv_icmp_eq (tgt := 822) hx hb dL_law_279 (by decide) (fun _ => kk S2 H locs hI2 hw) (fun c1 => absurd rfl c1)
def sim_looks (Inv : Mm → Prop) : Prop := ∀ S, Inv S → ∀ x1 : Int32, ∀ x2 : Int32, ∃ (r : Int32) (S1 S2 : Mm), f_X6_looks S x1 x2 = some (r, S1) ∧ f_X7_looks S1 x1 x2 = some (r, S2) ∧ Inv S2
set_option maxRecDepth 20000 in
theorem law_looks {p : Program} {l : Launch} {e : Env} {s : State} {m : MethodId} {below : List Frame} {meth : Method} {c : Code} {b L : Nat} {xs : Nat → Int32} {X : Wx} {Inv : Mm → Prop} (hc : Cx p s m #[Value.ref b] meth c X cL_law 4 RL) (hX : va_X b L xs s s.heap) (hbl : b < s.heap.size) (hbA : ¬ AA X.1 b) (hL : L ≤ 256) (hsim : sim_looks Inv) {i : Nat} (hi : i + 4 ≤ L) {S : Mm} (hI : Inv S) {H : Heap} {locs : List Loc} {ls : Array Slot} (hw : Wd X s.heap S H locs) (hl : lv_has ls 4 [(0, .ref b), (1, .ref (X.1 + 0)), (2, .ref (X.1 + 163)), (3, .int (nI i))])
    (kk : ∀ (S2 : Mm) (H : Heap) (locs : List Loc), Inv S2 → Wd X s.heap S2 H locs → W p l e room_1 s m #[Value.ref b] below meth c H locs 180 2007 (lw_Z below #[Value.ref b] s) (F0 m 822 ls [])) : W p l e room_1 s m #[Value.ref b] below meth c H locs 180 2007 (lw_Z below #[Value.ref b] s) (F0 m 284 ls []) := by
  have hx := hc.1
  have hb := hc.2.1
  obtain ⟨r, S1, S2, h1, h2, hI2⟩ := hsim S hI (xs (nI i + 1).toNatClampNeg) (xs (nI i + 2).toNatClampNeg)
  refine lv_aload_n hx hb dL_law_284 rfl (lv_at hl 1 rfl) ?_
  refine lv_aload_n hx hb dL_law_285 rfl (lv_at hl 0 rfl) ?_
  refine lv_iload_n hx hb dL_law_286 rfl (lv_at hl 3 rfl) ?_
  refine lv_iconst (v := 1) hx hb dL_law_287 (by decide) ?_
  refine lv_iadd hx hb dL_law_288 ?_
  refine va_sld hx hb hX hbl hbA hw.2.1 (x_in1 hi hL) dL_law_289 ?_
  refine lv_aload_n hx hb dL_law_290 rfl (lv_at hl 0 rfl) ?_
  refine lv_iload_n hx hb dL_law_291 rfl (lv_at hl 3 rfl) ?_
  refine lv_iconst (v := 2) hx hb dL_law_292 (by decide) ?_
  refine lv_iadd hx hb dL_law_293 ?_
  refine va_sld hx hb hX hbl hbA hw.2.1 (x_in2 hi hL) dL_law_294 ?_
  refine r_callV6i hc hw hl.1 (As := [.int (xs (nI i + 1).toNatClampNeg), .int (xs (nI i + 2).toNatClampNeg)]) (rest := []) k0 (c_X6_looks l X h1) ms_X6_looks rfl q2_148 rfl rfl ⟨rfl, rfl, Nat.le_of_ble_eq_true rfl, Nat.le_of_ble_eq_true rfl⟩ (Nat.le_of_ble_eq_true rfl) ⟨Nat.le_of_ble_eq_true rfl, Nat.le_of_ble_eq_true rfl⟩ dL_law_295 (fun H locs hw => ?_)
  refine lv_aload_n hx hb dL_law_298 rfl (lv_at hl 2 rfl) ?_
  refine lv_aload_n hx hb dL_law_299 rfl (lv_at hl 0 rfl) ?_
  refine lv_iload_n hx hb dL_law_300 rfl (lv_at hl 3 rfl) ?_
  refine lv_iconst (v := 1) hx hb dL_law_301 (by decide) ?_
  refine lv_iadd hx hb dL_law_302 ?_
  refine va_sld hx hb hX hbl hbA hw.2.1 (x_in1 hi hL) dL_law_303 ?_
  refine lv_aload_n hx hb dL_law_304 rfl (lv_at hl 0 rfl) ?_
  refine lv_iload_n hx hb dL_law_305 rfl (lv_at hl 3 rfl) ?_
  refine lv_iconst (v := 2) hx hb dL_law_306 (by decide) ?_
  refine lv_iadd hx hb dL_law_307 ?_
  refine va_sld hx hb hX hbl hbA hw.2.1 (x_in2 hi hL) dL_law_308 ?_
  refine r_callV7i hc hw hl.1 (As := [.int (xs (nI i + 1).toNatClampNeg), .int (xs (nI i + 2).toNatClampNeg)]) (rest := [.int r]) k163 (c_X7_looks l X h2) ms_X7_looks rfl q4_60 rfl rfl ⟨rfl, rfl, Nat.le_of_ble_eq_true rfl, Nat.le_of_ble_eq_true rfl⟩ (Nat.le_of_ble_eq_true rfl) ⟨Nat.le_of_ble_eq_true rfl, Nat.le_of_ble_eq_true rfl⟩ dL_law_309 (fun H locs hw => ?_)
  refine lv_icmp_eq (tgt := 822) hx hb dL_law_312 (by decide) (fun _ => kk S2 H locs hI2 hw) (fun c1 => absurd rfl c1)
def sim_skill (Inv : Mm → Prop) : Prop := ∀ S, Inv S → ∀ x1 : Int32, ∀ x2 : Int32, ∃ (r : Int32) (S1 S2 : Mm), f_X6_skill S x1 x2 = some (r, S1) ∧ f_X7_skill S1 x1 x2 = some (r, S2) ∧ Inv S2
set_option maxRecDepth 20000 in
theorem law_skill {p : Program} {l : Launch} {e : Env} {s : State} {m : MethodId} {below : List Frame} {meth : Method} {c : Code} {b L : Nat} {xs : Nat → Int32} {X : Wx} {Inv : Mm → Prop} (hc : Cx p s m #[Value.ref b] meth c X cL_law 4 RL) (hX : va_X b L xs s s.heap) (hbl : b < s.heap.size) (hbA : ¬ AA X.1 b) (hL : L ≤ 256) (hsim : sim_skill Inv) {i : Nat} (hi : i + 4 ≤ L) {S : Mm} (hI : Inv S) {H : Heap} {locs : List Loc} {ls : Array Slot} (hw : Wd X s.heap S H locs) (hl : lv_has ls 4 [(0, .ref b), (1, .ref (X.1 + 0)), (2, .ref (X.1 + 163)), (3, .int (nI i))])
    (kk : ∀ (S2 : Mm) (H : Heap) (locs : List Loc), Inv S2 → Wd X s.heap S2 H locs → W p l e room_1 s m #[Value.ref b] below meth c H locs 180 2007 (lw_Z below #[Value.ref b] s) (F0 m 822 ls [])) : W p l e room_1 s m #[Value.ref b] below meth c H locs 180 2007 (lw_Z below #[Value.ref b] s) (F0 m 317 ls []) := by
  have hx := hc.1
  have hb := hc.2.1
  obtain ⟨r, S1, S2, h1, h2, hI2⟩ := hsim S hI (xs (nI i + 1).toNatClampNeg) (xs (nI i + 2).toNatClampNeg)
  refine lv_aload_n hx hb dL_law_317 rfl (lv_at hl 1 rfl) ?_
  refine lv_aload_n hx hb dL_law_318 rfl (lv_at hl 0 rfl) ?_
  refine lv_iload_n hx hb dL_law_319 rfl (lv_at hl 3 rfl) ?_
  refine lv_iconst (v := 1) hx hb dL_law_320 (by decide) ?_
  refine lv_iadd hx hb dL_law_321 ?_
  refine va_sld hx hb hX hbl hbA hw.2.1 (x_in1 hi hL) dL_law_322 ?_
  refine lv_aload_n hx hb dL_law_323 rfl (lv_at hl 0 rfl) ?_
  refine lv_iload_n hx hb dL_law_324 rfl (lv_at hl 3 rfl) ?_
  refine lv_iconst (v := 2) hx hb dL_law_325 (by decide) ?_
  refine lv_iadd hx hb dL_law_326 ?_
  refine va_sld hx hb hX hbl hbA hw.2.1 (x_in2 hi hL) dL_law_327 ?_
  refine r_callV6i hc hw hl.1 (As := [.int (xs (nI i + 1).toNatClampNeg), .int (xs (nI i + 2).toNatClampNeg)]) (rest := []) k0 (c_X6_skill l X h1) ms_X6_skill rfl q2_161 rfl rfl ⟨rfl, rfl, Nat.le_of_ble_eq_true rfl, Nat.le_of_ble_eq_true rfl⟩ (Nat.le_of_ble_eq_true rfl) ⟨Nat.le_of_ble_eq_true rfl, Nat.le_of_ble_eq_true rfl⟩ dL_law_328 (fun H locs hw => ?_)
  refine lv_aload_n hx hb dL_law_331 rfl (lv_at hl 2 rfl) ?_
  refine lv_aload_n hx hb dL_law_332 rfl (lv_at hl 0 rfl) ?_
  refine lv_iload_n hx hb dL_law_333 rfl (lv_at hl 3 rfl) ?_
  refine lv_iconst (v := 1) hx hb dL_law_334 (by decide) ?_
  refine lv_iadd hx hb dL_law_335 ?_
  refine va_sld hx hb hX hbl hbA hw.2.1 (x_in1 hi hL) dL_law_336 ?_
  refine lv_aload_n hx hb dL_law_337 rfl (lv_at hl 0 rfl) ?_
  refine lv_iload_n hx hb dL_law_338 rfl (lv_at hl 3 rfl) ?_
  refine lv_iconst (v := 2) hx hb dL_law_339 (by decide) ?_
  refine lv_iadd hx hb dL_law_340 ?_
  refine va_sld hx hb hX hbl hbA hw.2.1 (x_in2 hi hL) dL_law_341 ?_
  refine r_callV7i hc hw hl.1 (As := [.int (xs (nI i + 1).toNatClampNeg), .int (xs (nI i + 2).toNatClampNeg)]) (rest := [.int r]) k163 (c_X7_skill l X h2) ms_X7_skill rfl q4_67 rfl rfl ⟨rfl, rfl, Nat.le_of_ble_eq_true rfl, Nat.le_of_ble_eq_true rfl⟩ (Nat.le_of_ble_eq_true rfl) ⟨Nat.le_of_ble_eq_true rfl, Nat.le_of_ble_eq_true rfl⟩ dL_law_342 (fun H locs hw => ?_)
  refine lv_icmp_eq (tgt := 822) hx hb dL_law_345 (by decide) (fun _ => kk S2 H locs hI2 hw) (fun c1 => absurd rfl c1)
def sim_moves (Inv : Mm → Prop) : Prop := ∀ S, Inv S → ∀ x1 : Int32, ∃ (r : Int32) (S1 S2 : Mm), f_X6_moves S x1 = some (r, S1) ∧ f_X7_moves S1 x1 = some (r, S2) ∧ Inv S2
set_option maxRecDepth 20000 in
theorem law_moves {p : Program} {l : Launch} {e : Env} {s : State} {m : MethodId} {below : List Frame} {meth : Method} {c : Code} {b L : Nat} {xs : Nat → Int32} {X : Wx} {Inv : Mm → Prop} (hc : Cx p s m #[Value.ref b] meth c X cL_law 4 RL) (hX : va_X b L xs s s.heap) (hbl : b < s.heap.size) (hbA : ¬ AA X.1 b) (hL : L ≤ 256) (hsim : sim_moves Inv) {i : Nat} (hi : i + 4 ≤ L) {S : Mm} (hI : Inv S) {H : Heap} {locs : List Loc} {ls : Array Slot} (hw : Wd X s.heap S H locs) (hl : lv_has ls 4 [(0, .ref b), (1, .ref (X.1 + 0)), (2, .ref (X.1 + 163)), (3, .int (nI i))])
    (kk : ∀ (S2 : Mm) (H : Heap) (locs : List Loc), Inv S2 → Wd X s.heap S2 H locs → W p l e room_1 s m #[Value.ref b] below meth c H locs 180 2007 (lw_Z below #[Value.ref b] s) (F0 m 822 ls [])) : W p l e room_1 s m #[Value.ref b] below meth c H locs 180 2007 (lw_Z below #[Value.ref b] s) (F0 m 350 ls []) := by
  have hx := hc.1
  have hb := hc.2.1
  obtain ⟨r, S1, S2, h1, h2, hI2⟩ := hsim S hI (xs (nI i + 1).toNatClampNeg)
  refine lv_aload_n hx hb dL_law_350 rfl (lv_at hl 1 rfl) ?_
  refine lv_aload_n hx hb dL_law_351 rfl (lv_at hl 0 rfl) ?_
  refine lv_iload_n hx hb dL_law_352 rfl (lv_at hl 3 rfl) ?_
  refine lv_iconst (v := 1) hx hb dL_law_353 (by decide) ?_
  refine lv_iadd hx hb dL_law_354 ?_
  refine va_sld hx hb hX hbl hbA hw.2.1 (x_in1 hi hL) dL_law_355 ?_
  refine r_callV6i hc hw hl.1 (As := [.int (xs (nI i + 1).toNatClampNeg)]) (rest := []) k0 (c_X6_moves l X h1) ms_X6_moves rfl q2_165 rfl rfl ⟨rfl, rfl, Nat.le_of_ble_eq_true rfl, Nat.le_of_ble_eq_true rfl⟩ (Nat.le_of_ble_eq_true rfl) ⟨Nat.le_of_ble_eq_true rfl, Nat.le_of_ble_eq_true rfl⟩ dL_law_356 (fun H locs hw => ?_)
  refine lv_aload_n hx hb dL_law_359 rfl (lv_at hl 2 rfl) ?_
  refine lv_aload_n hx hb dL_law_360 rfl (lv_at hl 0 rfl) ?_
  refine lv_iload_n hx hb dL_law_361 rfl (lv_at hl 3 rfl) ?_
  refine lv_iconst (v := 1) hx hb dL_law_362 (by decide) ?_
  refine lv_iadd hx hb dL_law_363 ?_
  refine va_sld hx hb hX hbl hbA hw.2.1 (x_in1 hi hL) dL_law_364 ?_
  refine r_callV7i hc hw hl.1 (As := [.int (xs (nI i + 1).toNatClampNeg)]) (rest := [.int r]) k163 (c_X7_moves l X h2) ms_X7_moves rfl q4_71 rfl rfl ⟨rfl, rfl, Nat.le_of_ble_eq_true rfl, Nat.le_of_ble_eq_true rfl⟩ (Nat.le_of_ble_eq_true rfl) ⟨Nat.le_of_ble_eq_true rfl, Nat.le_of_ble_eq_true rfl⟩ dL_law_365 (fun H locs hw => ?_)
  refine lv_icmp_eq (tgt := 822) hx hb dL_law_368 (by decide) (fun _ => kk S2 H locs hI2 hw) (fun c1 => absurd rfl c1)
def sim_undo (Inv : Mm → Prop) : Prop := ∀ S, Inv S → ∃ (r : Int32) (S1 S2 : Mm), f_X6_undo S = some (r, S1) ∧ f_X7_undo S1 = some (r, S2) ∧ Inv S2
set_option maxRecDepth 20000 in
theorem law_undo {p : Program} {l : Launch} {e : Env} {s : State} {m : MethodId} {below : List Frame} {meth : Method} {c : Code} {b L : Nat} {xs : Nat → Int32} {X : Wx} {Inv : Mm → Prop} (hc : Cx p s m #[Value.ref b] meth c X cL_law 4 RL) (hX : va_X b L xs s s.heap) (hbl : b < s.heap.size) (hbA : ¬ AA X.1 b) (hL : L ≤ 256) (hsim : sim_undo Inv) {i : Nat} (hi : i + 4 ≤ L) {S : Mm} (hI : Inv S) {H : Heap} {locs : List Loc} {ls : Array Slot} (hw : Wd X s.heap S H locs) (hl : lv_has ls 4 [(0, .ref b), (1, .ref (X.1 + 0)), (2, .ref (X.1 + 163)), (3, .int (nI i))])
    (kk : ∀ (S2 : Mm) (H : Heap) (locs : List Loc), Inv S2 → Wd X s.heap S2 H locs → W p l e room_1 s m #[Value.ref b] below meth c H locs 180 2007 (lw_Z below #[Value.ref b] s) (F0 m 822 ls [])) : W p l e room_1 s m #[Value.ref b] below meth c H locs 180 2007 (lw_Z below #[Value.ref b] s) (F0 m 373 ls []) := by
  have hx := hc.1
  have hb := hc.2.1
  obtain ⟨r, S1, S2, h1, h2, hI2⟩ := hsim S hI 
  refine lv_aload_n hx hb dL_law_373 rfl (lv_at hl 1 rfl) ?_
  refine r_callV6i hc hw hl.1 (As := []) (rest := []) k0 (c_X6_undo l X h1) ms_X6_undo rfl q2_173 rfl rfl ⟨rfl, rfl, Nat.le_of_ble_eq_true rfl, Nat.le_of_ble_eq_true rfl⟩ (Nat.le_of_ble_eq_true rfl) ⟨Nat.le_of_ble_eq_true rfl, Nat.le_of_ble_eq_true rfl⟩ dL_law_374 (fun H locs hw => ?_)
  refine lv_aload_n hx hb dL_law_377 rfl (lv_at hl 2 rfl) ?_
  refine r_callV7i hc hw hl.1 (As := []) (rest := [.int r]) k163 (c_X7_undo l X h2) ms_X7_undo rfl q4_75 rfl rfl ⟨rfl, rfl, Nat.le_of_ble_eq_true rfl, Nat.le_of_ble_eq_true rfl⟩ (Nat.le_of_ble_eq_true rfl) ⟨Nat.le_of_ble_eq_true rfl, Nat.le_of_ble_eq_true rfl⟩ dL_law_378 (fun H locs hw => ?_)
  refine lv_icmp_eq (tgt := 822) hx hb dL_law_381 (by decide) (fun _ => kk S2 H locs hI2 hw) (fun c1 => absurd rfl c1)
def sim_now (Inv : Mm → Prop) : Prop := ∀ S, Inv S → ∀ x1 : Int32, ∃ (r : Int32) (S1 S2 : Mm), f_X6_now S x1 = some (r, S1) ∧ f_X7_now S1 x1 = some (r, S2) ∧ Inv S2
set_option maxRecDepth 20000 in
theorem law_now {p : Program} {l : Launch} {e : Env} {s : State} {m : MethodId} {below : List Frame} {meth : Method} {c : Code} {b L : Nat} {xs : Nat → Int32} {X : Wx} {Inv : Mm → Prop} (hc : Cx p s m #[Value.ref b] meth c X cL_law 4 RL) (hX : va_X b L xs s s.heap) (hbl : b < s.heap.size) (hbA : ¬ AA X.1 b) (hL : L ≤ 256) (hsim : sim_now Inv) {i : Nat} (hi : i + 4 ≤ L) {S : Mm} (hI : Inv S) {H : Heap} {locs : List Loc} {ls : Array Slot} (hw : Wd X s.heap S H locs) (hl : lv_has ls 4 [(0, .ref b), (1, .ref (X.1 + 0)), (2, .ref (X.1 + 163)), (3, .int (nI i))])
    (kk : ∀ (S2 : Mm) (H : Heap) (locs : List Loc), Inv S2 → Wd X s.heap S2 H locs → W p l e room_1 s m #[Value.ref b] below meth c H locs 180 2007 (lw_Z below #[Value.ref b] s) (F0 m 822 ls [])) : W p l e room_1 s m #[Value.ref b] below meth c H locs 180 2007 (lw_Z below #[Value.ref b] s) (F0 m 386 ls []) := by
  have hx := hc.1
  have hb := hc.2.1
  obtain ⟨r, S1, S2, h1, h2, hI2⟩ := hsim S hI (xs (nI i + 1).toNatClampNeg)
  refine lv_aload_n hx hb dL_law_386 rfl (lv_at hl 1 rfl) ?_
  refine lv_aload_n hx hb dL_law_387 rfl (lv_at hl 0 rfl) ?_
  refine lv_iload_n hx hb dL_law_388 rfl (lv_at hl 3 rfl) ?_
  refine lv_iconst (v := 1) hx hb dL_law_389 (by decide) ?_
  refine lv_iadd hx hb dL_law_390 ?_
  refine va_sld hx hb hX hbl hbA hw.2.1 (x_in1 hi hL) dL_law_391 ?_
  refine r_callV6i hc hw hl.1 (As := [.int (xs (nI i + 1).toNatClampNeg)]) (rest := []) k0 (c_X6_now l X h1) ms_X6_now rfl q2_181 rfl rfl ⟨rfl, rfl, Nat.le_of_ble_eq_true rfl, Nat.le_of_ble_eq_true rfl⟩ (Nat.le_of_ble_eq_true rfl) ⟨Nat.le_of_ble_eq_true rfl, Nat.le_of_ble_eq_true rfl⟩ dL_law_392 (fun H locs hw => ?_)
  refine lv_aload_n hx hb dL_law_395 rfl (lv_at hl 2 rfl) ?_
  refine lv_aload_n hx hb dL_law_396 rfl (lv_at hl 0 rfl) ?_
  refine lv_iload_n hx hb dL_law_397 rfl (lv_at hl 3 rfl) ?_
  refine lv_iconst (v := 1) hx hb dL_law_398 (by decide) ?_
  refine lv_iadd hx hb dL_law_399 ?_
  refine va_sld hx hb hX hbl hbA hw.2.1 (x_in1 hi hL) dL_law_400 ?_
  refine r_callV7i hc hw hl.1 (As := [.int (xs (nI i + 1).toNatClampNeg)]) (rest := [.int r]) k163 (c_X7_now l X h2) ms_X7_now rfl q4_79 rfl rfl ⟨rfl, rfl, Nat.le_of_ble_eq_true rfl, Nat.le_of_ble_eq_true rfl⟩ (Nat.le_of_ble_eq_true rfl) ⟨Nat.le_of_ble_eq_true rfl, Nat.le_of_ble_eq_true rfl⟩ dL_law_401 (fun H locs hw => ?_)
  refine lv_icmp_eq (tgt := 822) hx hb dL_law_404 (by decide) (fun _ => kk S2 H locs hI2 hw) (fun c1 => absurd rfl c1)
def sim_mean (Inv : Mm → Prop) : Prop := ∀ S, Inv S → ∀ x1 : Int32, ∀ x2 : Int32, ∃ (r : Int64) (S1 S2 : Mm), f_X6_mean S x1 x2 = some (r, S1) ∧ f_X7_mean S1 x1 x2 = some (r, S2) ∧ Inv S2
set_option maxRecDepth 20000 in
theorem law_mean {p : Program} {l : Launch} {e : Env} {s : State} {m : MethodId} {below : List Frame} {meth : Method} {c : Code} {b L : Nat} {xs : Nat → Int32} {X : Wx} {Inv : Mm → Prop} (hc : Cx p s m #[Value.ref b] meth c X cL_law 4 RL) (hX : va_X b L xs s s.heap) (hbl : b < s.heap.size) (hbA : ¬ AA X.1 b) (hL : L ≤ 256) (hsim : sim_mean Inv) {i : Nat} (hi : i + 4 ≤ L) {S : Mm} (hI : Inv S) {H : Heap} {locs : List Loc} {ls : Array Slot} (hw : Wd X s.heap S H locs) (hl : lv_has ls 4 [(0, .ref b), (1, .ref (X.1 + 0)), (2, .ref (X.1 + 163)), (3, .int (nI i))])
    (kk : ∀ (S2 : Mm) (H : Heap) (locs : List Loc), Inv S2 → Wd X s.heap S2 H locs → W p l e room_1 s m #[Value.ref b] below meth c H locs 180 2007 (lw_Z below #[Value.ref b] s) (F0 m 822 ls [])) : W p l e room_1 s m #[Value.ref b] below meth c H locs 180 2007 (lw_Z below #[Value.ref b] s) (F0 m 409 ls []) := by
  have hx := hc.1
  have hb := hc.2.1
  obtain ⟨r, S1, S2, h1, h2, hI2⟩ := hsim S hI (xs (nI i + 1).toNatClampNeg) (xs (nI i + 2).toNatClampNeg)
  refine lv_aload_n hx hb dL_law_409 rfl (lv_at hl 1 rfl) ?_
  refine lv_aload_n hx hb dL_law_410 rfl (lv_at hl 0 rfl) ?_
  refine lv_iload_n hx hb dL_law_411 rfl (lv_at hl 3 rfl) ?_
  refine lv_iconst (v := 1) hx hb dL_law_412 (by decide) ?_
  refine lv_iadd hx hb dL_law_413 ?_
  refine va_sld hx hb hX hbl hbA hw.2.1 (x_in1 hi hL) dL_law_414 ?_
  refine lv_aload_n hx hb dL_law_415 rfl (lv_at hl 0 rfl) ?_
  refine lv_iload_n hx hb dL_law_416 rfl (lv_at hl 3 rfl) ?_
  refine lv_iconst (v := 2) hx hb dL_law_417 (by decide) ?_
  refine lv_iadd hx hb dL_law_418 ?_
  refine va_sld hx hb hX hbl hbA hw.2.1 (x_in2 hi hL) dL_law_419 ?_
  refine r_callV6l hc hw hl.1 (As := [.int (xs (nI i + 1).toNatClampNeg), .int (xs (nI i + 2).toNatClampNeg)]) (rest := []) k0 (c_X6_mean l X h1) ms_X6_mean rfl q2_185 rfl rfl ⟨rfl, rfl, Nat.le_of_ble_eq_true rfl, Nat.le_of_ble_eq_true rfl⟩ (Nat.le_of_ble_eq_true rfl) ⟨Nat.le_of_ble_eq_true rfl, Nat.le_of_ble_eq_true rfl⟩ dL_law_420 (fun H locs hw => ?_)
  refine lv_aload_n hx hb dL_law_423 rfl (lv_at hl 2 rfl) ?_
  refine lv_aload_n hx hb dL_law_424 rfl (lv_at hl 0 rfl) ?_
  refine lv_iload_n hx hb dL_law_425 rfl (lv_at hl 3 rfl) ?_
  refine lv_iconst (v := 1) hx hb dL_law_426 (by decide) ?_
  refine lv_iadd hx hb dL_law_427 ?_
  refine va_sld hx hb hX hbl hbA hw.2.1 (x_in1 hi hL) dL_law_428 ?_
  refine lv_aload_n hx hb dL_law_429 rfl (lv_at hl 0 rfl) ?_
  refine lv_iload_n hx hb dL_law_430 rfl (lv_at hl 3 rfl) ?_
  refine lv_iconst (v := 2) hx hb dL_law_431 (by decide) ?_
  refine lv_iadd hx hb dL_law_432 ?_
  refine va_sld hx hb hX hbl hbA hw.2.1 (x_in2 hi hL) dL_law_433 ?_
  refine r_callV7l hc hw hl.1 (As := [.int (xs (nI i + 1).toNatClampNeg), .int (xs (nI i + 2).toNatClampNeg)]) (rest := [.long r]) k163 (c_X7_mean l X h2) ms_X7_mean rfl q4_83 rfl rfl ⟨rfl, rfl, Nat.le_of_ble_eq_true rfl, Nat.le_of_ble_eq_true rfl⟩ (Nat.le_of_ble_eq_true rfl) ⟨Nat.le_of_ble_eq_true rfl, Nat.le_of_ble_eq_true rfl⟩ dL_law_434 (fun H locs hw => ?_)
  refine W.lcmp hx hb dL_law_437 ?_
  refine lv_if_eq (tgt := 822) hx hb dL_law_438 (by decide) (fun _ => kk S2 H locs hI2 hw) (fun c1 => absurd ((lg_cmp_eq _ _).mpr rfl) c1)
def sim_lost (Inv : Mm → Prop) : Prop := ∀ S, Inv S → ∀ x1 : Int32, ∀ x2 : Int32, ∃ (r : Int64) (S1 S2 : Mm), f_X6_lost S x1 x2 = some (r, S1) ∧ f_X7_lost S1 x1 x2 = some (r, S2) ∧ Inv S2
set_option maxRecDepth 20000 in
theorem law_lost {p : Program} {l : Launch} {e : Env} {s : State} {m : MethodId} {below : List Frame} {meth : Method} {c : Code} {b L : Nat} {xs : Nat → Int32} {X : Wx} {Inv : Mm → Prop} (hc : Cx p s m #[Value.ref b] meth c X cL_law 4 RL) (hX : va_X b L xs s s.heap) (hbl : b < s.heap.size) (hbA : ¬ AA X.1 b) (hL : L ≤ 256) (hsim : sim_lost Inv) {i : Nat} (hi : i + 4 ≤ L) {S : Mm} (hI : Inv S) {H : Heap} {locs : List Loc} {ls : Array Slot} (hw : Wd X s.heap S H locs) (hl : lv_has ls 4 [(0, .ref b), (1, .ref (X.1 + 0)), (2, .ref (X.1 + 163)), (3, .int (nI i))])
    (kk : ∀ (S2 : Mm) (H : Heap) (locs : List Loc), Inv S2 → Wd X s.heap S2 H locs → W p l e room_1 s m #[Value.ref b] below meth c H locs 180 2007 (lw_Z below #[Value.ref b] s) (F0 m 822 ls [])) : W p l e room_1 s m #[Value.ref b] below meth c H locs 180 2007 (lw_Z below #[Value.ref b] s) (F0 m 443 ls []) := by
  have hx := hc.1
  have hb := hc.2.1
  obtain ⟨r, S1, S2, h1, h2, hI2⟩ := hsim S hI (xs (nI i + 1).toNatClampNeg) (xs (nI i + 2).toNatClampNeg)
  refine lv_aload_n hx hb dL_law_443 rfl (lv_at hl 1 rfl) ?_
  refine lv_aload_n hx hb dL_law_444 rfl (lv_at hl 0 rfl) ?_
  refine lv_iload_n hx hb dL_law_445 rfl (lv_at hl 3 rfl) ?_
  refine lv_iconst (v := 1) hx hb dL_law_446 (by decide) ?_
  refine lv_iadd hx hb dL_law_447 ?_
  refine va_sld hx hb hX hbl hbA hw.2.1 (x_in1 hi hL) dL_law_448 ?_
  refine lv_aload_n hx hb dL_law_449 rfl (lv_at hl 0 rfl) ?_
  refine lv_iload_n hx hb dL_law_450 rfl (lv_at hl 3 rfl) ?_
  refine lv_iconst (v := 2) hx hb dL_law_451 (by decide) ?_
  refine lv_iadd hx hb dL_law_452 ?_
  refine va_sld hx hb hX hbl hbA hw.2.1 (x_in2 hi hL) dL_law_453 ?_
  refine r_callV6l hc hw hl.1 (As := [.int (xs (nI i + 1).toNatClampNeg), .int (xs (nI i + 2).toNatClampNeg)]) (rest := []) k0 (c_X6_lost l X h1) ms_X6_lost rfl q2_220 rfl rfl ⟨rfl, rfl, Nat.le_of_ble_eq_true rfl, Nat.le_of_ble_eq_true rfl⟩ (Nat.le_of_ble_eq_true rfl) ⟨Nat.le_of_ble_eq_true rfl, Nat.le_of_ble_eq_true rfl⟩ dL_law_454 (fun H locs hw => ?_)
  refine lv_aload_n hx hb dL_law_457 rfl (lv_at hl 2 rfl) ?_
  refine lv_aload_n hx hb dL_law_458 rfl (lv_at hl 0 rfl) ?_
  refine lv_iload_n hx hb dL_law_459 rfl (lv_at hl 3 rfl) ?_
  refine lv_iconst (v := 1) hx hb dL_law_460 (by decide) ?_
  refine lv_iadd hx hb dL_law_461 ?_
  refine va_sld hx hb hX hbl hbA hw.2.1 (x_in1 hi hL) dL_law_462 ?_
  refine lv_aload_n hx hb dL_law_463 rfl (lv_at hl 0 rfl) ?_
  refine lv_iload_n hx hb dL_law_464 rfl (lv_at hl 3 rfl) ?_
  refine lv_iconst (v := 2) hx hb dL_law_465 (by decide) ?_
  refine lv_iadd hx hb dL_law_466 ?_
  refine va_sld hx hb hX hbl hbA hw.2.1 (x_in2 hi hL) dL_law_467 ?_
  refine r_callV7l hc hw hl.1 (As := [.int (xs (nI i + 1).toNatClampNeg), .int (xs (nI i + 2).toNatClampNeg)]) (rest := [.long r]) k163 (c_X7_lost l X h2) ms_X7_lost rfl q4_117 rfl rfl ⟨rfl, rfl, Nat.le_of_ble_eq_true rfl, Nat.le_of_ble_eq_true rfl⟩ (Nat.le_of_ble_eq_true rfl) ⟨Nat.le_of_ble_eq_true rfl, Nat.le_of_ble_eq_true rfl⟩ dL_law_468 (fun H locs hw => ?_)
  refine W.lcmp hx hb dL_law_471 ?_
  refine lv_if_eq (tgt := 822) hx hb dL_law_472 (by decide) (fun _ => kk S2 H locs hI2 hw) (fun c1 => absurd ((lg_cmp_eq _ _).mpr rfl) c1)
def sim_paper (Inv : Mm → Prop) : Prop := ∀ S, Inv S → ∀ x1 : Int32, ∀ x2 : Int32, ∃ (r : Int64) (S1 S2 : Mm), f_X6_paper S x1 x2 = some (r, S1) ∧ f_X7_paper S1 x1 x2 = some (r, S2) ∧ Inv S2
set_option maxRecDepth 20000 in
theorem law_paper {p : Program} {l : Launch} {e : Env} {s : State} {m : MethodId} {below : List Frame} {meth : Method} {c : Code} {b L : Nat} {xs : Nat → Int32} {X : Wx} {Inv : Mm → Prop} (hc : Cx p s m #[Value.ref b] meth c X cL_law 4 RL) (hX : va_X b L xs s s.heap) (hbl : b < s.heap.size) (hbA : ¬ AA X.1 b) (hL : L ≤ 256) (hsim : sim_paper Inv) {i : Nat} (hi : i + 4 ≤ L) {S : Mm} (hI : Inv S) {H : Heap} {locs : List Loc} {ls : Array Slot} (hw : Wd X s.heap S H locs) (hl : lv_has ls 4 [(0, .ref b), (1, .ref (X.1 + 0)), (2, .ref (X.1 + 163)), (3, .int (nI i))])
    (kk : ∀ (S2 : Mm) (H : Heap) (locs : List Loc), Inv S2 → Wd X s.heap S2 H locs → W p l e room_1 s m #[Value.ref b] below meth c H locs 180 2007 (lw_Z below #[Value.ref b] s) (F0 m 822 ls [])) : W p l e room_1 s m #[Value.ref b] below meth c H locs 180 2007 (lw_Z below #[Value.ref b] s) (F0 m 477 ls []) := by
  have hx := hc.1
  have hb := hc.2.1
  obtain ⟨r, S1, S2, h1, h2, hI2⟩ := hsim S hI (xs (nI i + 1).toNatClampNeg) (xs (nI i + 2).toNatClampNeg)
  refine lv_aload_n hx hb dL_law_477 rfl (lv_at hl 1 rfl) ?_
  refine lv_aload_n hx hb dL_law_478 rfl (lv_at hl 0 rfl) ?_
  refine lv_iload_n hx hb dL_law_479 rfl (lv_at hl 3 rfl) ?_
  refine lv_iconst (v := 1) hx hb dL_law_480 (by decide) ?_
  refine lv_iadd hx hb dL_law_481 ?_
  refine va_sld hx hb hX hbl hbA hw.2.1 (x_in1 hi hL) dL_law_482 ?_
  refine lv_aload_n hx hb dL_law_483 rfl (lv_at hl 0 rfl) ?_
  refine lv_iload_n hx hb dL_law_484 rfl (lv_at hl 3 rfl) ?_
  refine lv_iconst (v := 2) hx hb dL_law_485 (by decide) ?_
  refine lv_iadd hx hb dL_law_486 ?_
  refine va_sld hx hb hX hbl hbA hw.2.1 (x_in2 hi hL) dL_law_487 ?_
  refine r_callV6l hc hw hl.1 (As := [.int (xs (nI i + 1).toNatClampNeg), .int (xs (nI i + 2).toNatClampNeg)]) (rest := []) k0 (c_X6_paper l X h1) ms_X6_paper rfl q2_224 rfl rfl ⟨rfl, rfl, Nat.le_of_ble_eq_true rfl, Nat.le_of_ble_eq_true rfl⟩ (Nat.le_of_ble_eq_true rfl) ⟨Nat.le_of_ble_eq_true rfl, Nat.le_of_ble_eq_true rfl⟩ dL_law_488 (fun H locs hw => ?_)
  refine lv_aload_n hx hb dL_law_491 rfl (lv_at hl 2 rfl) ?_
  refine lv_aload_n hx hb dL_law_492 rfl (lv_at hl 0 rfl) ?_
  refine lv_iload_n hx hb dL_law_493 rfl (lv_at hl 3 rfl) ?_
  refine lv_iconst (v := 1) hx hb dL_law_494 (by decide) ?_
  refine lv_iadd hx hb dL_law_495 ?_
  refine va_sld hx hb hX hbl hbA hw.2.1 (x_in1 hi hL) dL_law_496 ?_
  refine lv_aload_n hx hb dL_law_497 rfl (lv_at hl 0 rfl) ?_
  refine lv_iload_n hx hb dL_law_498 rfl (lv_at hl 3 rfl) ?_
  refine lv_iconst (v := 2) hx hb dL_law_499 (by decide) ?_
  refine lv_iadd hx hb dL_law_500 ?_
  refine va_sld hx hb hX hbl hbA hw.2.1 (x_in2 hi hL) dL_law_501 ?_
  refine r_callV7l hc hw hl.1 (As := [.int (xs (nI i + 1).toNatClampNeg), .int (xs (nI i + 2).toNatClampNeg)]) (rest := [.long r]) k163 (c_X7_paper l X h2) ms_X7_paper rfl q4_121 rfl rfl ⟨rfl, rfl, Nat.le_of_ble_eq_true rfl, Nat.le_of_ble_eq_true rfl⟩ (Nat.le_of_ble_eq_true rfl) ⟨Nat.le_of_ble_eq_true rfl, Nat.le_of_ble_eq_true rfl⟩ dL_law_502 (fun H locs hw => ?_)
  refine W.lcmp hx hb dL_law_505 ?_
  refine lv_if_eq (tgt := 822) hx hb dL_law_506 (by decide) (fun _ => kk S2 H locs hI2 hw) (fun c1 => absurd ((lg_cmp_eq _ _).mpr rfl) c1)
def sim_bestLooks (Inv : Mm → Prop) : Prop := ∀ S, Inv S → ∃ (r : Int32) (S1 S2 : Mm), f_X6_bestLooks S = some (r, S1) ∧ f_X7_bestLooks S1 = some (r, S2) ∧ Inv S2
set_option maxRecDepth 20000 in
theorem law_bestLooks {p : Program} {l : Launch} {e : Env} {s : State} {m : MethodId} {below : List Frame} {meth : Method} {c : Code} {b L : Nat} {xs : Nat → Int32} {X : Wx} {Inv : Mm → Prop} (hc : Cx p s m #[Value.ref b] meth c X cL_law 4 RL) (hX : va_X b L xs s s.heap) (hbl : b < s.heap.size) (hbA : ¬ AA X.1 b) (hL : L ≤ 256) (hsim : sim_bestLooks Inv) {i : Nat} (hi : i + 4 ≤ L) {S : Mm} (hI : Inv S) {H : Heap} {locs : List Loc} {ls : Array Slot} (hw : Wd X s.heap S H locs) (hl : lv_has ls 4 [(0, .ref b), (1, .ref (X.1 + 0)), (2, .ref (X.1 + 163)), (3, .int (nI i))])
    (kk : ∀ (S2 : Mm) (H : Heap) (locs : List Loc), Inv S2 → Wd X s.heap S2 H locs → W p l e room_1 s m #[Value.ref b] below meth c H locs 180 2007 (lw_Z below #[Value.ref b] s) (F0 m 822 ls [])) : W p l e room_1 s m #[Value.ref b] below meth c H locs 180 2007 (lw_Z below #[Value.ref b] s) (F0 m 511 ls []) := by
  have hx := hc.1
  have hb := hc.2.1
  obtain ⟨r, S1, S2, h1, h2, hI2⟩ := hsim S hI 
  refine lv_aload_n hx hb dL_law_511 rfl (lv_at hl 1 rfl) ?_
  refine r_callV6i hc hw hl.1 (As := []) (rest := []) k0 (c_X6_bestLooks l X h1) ms_X6_bestLooks rfl q2_228 rfl rfl ⟨rfl, rfl, Nat.le_of_ble_eq_true rfl, Nat.le_of_ble_eq_true rfl⟩ (Nat.le_of_ble_eq_true rfl) ⟨Nat.le_of_ble_eq_true rfl, Nat.le_of_ble_eq_true rfl⟩ dL_law_512 (fun H locs hw => ?_)
  refine lv_aload_n hx hb dL_law_515 rfl (lv_at hl 2 rfl) ?_
  refine r_callV7i hc hw hl.1 (As := []) (rest := [.int r]) k163 (c_X7_bestLooks l X h2) ms_X7_bestLooks rfl q4_125 rfl rfl ⟨rfl, rfl, Nat.le_of_ble_eq_true rfl, Nat.le_of_ble_eq_true rfl⟩ (Nat.le_of_ble_eq_true rfl) ⟨Nat.le_of_ble_eq_true rfl, Nat.le_of_ble_eq_true rfl⟩ dL_law_516 (fun H locs hw => ?_)
  refine lv_icmp_eq (tgt := 822) hx hb dL_law_519 (by decide) (fun _ => kk S2 H locs hI2 hw) (fun c1 => absurd rfl c1)
def sim_bestOrder (Inv : Mm → Prop) : Prop := ∀ S, Inv S → ∀ x1 : Int32, ∃ (r : Int32) (S1 S2 : Mm), f_X6_bestOrder S x1 = some (r, S1) ∧ f_X7_bestOrder S1 x1 = some (r, S2) ∧ Inv S2
set_option maxRecDepth 20000 in
theorem law_bestOrder {p : Program} {l : Launch} {e : Env} {s : State} {m : MethodId} {below : List Frame} {meth : Method} {c : Code} {b L : Nat} {xs : Nat → Int32} {X : Wx} {Inv : Mm → Prop} (hc : Cx p s m #[Value.ref b] meth c X cL_law 4 RL) (hX : va_X b L xs s s.heap) (hbl : b < s.heap.size) (hbA : ¬ AA X.1 b) (hL : L ≤ 256) (hsim : sim_bestOrder Inv) {i : Nat} (hi : i + 4 ≤ L) {S : Mm} (hI : Inv S) {H : Heap} {locs : List Loc} {ls : Array Slot} (hw : Wd X s.heap S H locs) (hl : lv_has ls 4 [(0, .ref b), (1, .ref (X.1 + 0)), (2, .ref (X.1 + 163)), (3, .int (nI i))])
    (kk : ∀ (S2 : Mm) (H : Heap) (locs : List Loc), Inv S2 → Wd X s.heap S2 H locs → W p l e room_1 s m #[Value.ref b] below meth c H locs 180 2007 (lw_Z below #[Value.ref b] s) (F0 m 822 ls [])) : W p l e room_1 s m #[Value.ref b] below meth c H locs 180 2007 (lw_Z below #[Value.ref b] s) (F0 m 524 ls []) := by
  have hx := hc.1
  have hb := hc.2.1
  obtain ⟨r, S1, S2, h1, h2, hI2⟩ := hsim S hI (xs (nI i + 1).toNatClampNeg)
  refine lv_aload_n hx hb dL_law_524 rfl (lv_at hl 1 rfl) ?_
  refine lv_aload_n hx hb dL_law_525 rfl (lv_at hl 0 rfl) ?_
  refine lv_iload_n hx hb dL_law_526 rfl (lv_at hl 3 rfl) ?_
  refine lv_iconst (v := 1) hx hb dL_law_527 (by decide) ?_
  refine lv_iadd hx hb dL_law_528 ?_
  refine va_sld hx hb hX hbl hbA hw.2.1 (x_in1 hi hL) dL_law_529 ?_
  refine r_callV6i hc hw hl.1 (As := [.int (xs (nI i + 1).toNatClampNeg)]) (rest := []) k0 (c_X6_bestOrder l X h1) ms_X6_bestOrder rfl q2_233 rfl rfl ⟨rfl, rfl, Nat.le_of_ble_eq_true rfl, Nat.le_of_ble_eq_true rfl⟩ (Nat.le_of_ble_eq_true rfl) ⟨Nat.le_of_ble_eq_true rfl, Nat.le_of_ble_eq_true rfl⟩ dL_law_530 (fun H locs hw => ?_)
  refine lv_aload_n hx hb dL_law_533 rfl (lv_at hl 2 rfl) ?_
  refine lv_aload_n hx hb dL_law_534 rfl (lv_at hl 0 rfl) ?_
  refine lv_iload_n hx hb dL_law_535 rfl (lv_at hl 3 rfl) ?_
  refine lv_iconst (v := 1) hx hb dL_law_536 (by decide) ?_
  refine lv_iadd hx hb dL_law_537 ?_
  refine va_sld hx hb hX hbl hbA hw.2.1 (x_in1 hi hL) dL_law_538 ?_
  refine r_callV7i hc hw hl.1 (As := [.int (xs (nI i + 1).toNatClampNeg)]) (rest := [.int r]) k163 (c_X7_bestOrder l X h2) ms_X7_bestOrder rfl q4_129 rfl rfl ⟨rfl, rfl, Nat.le_of_ble_eq_true rfl, Nat.le_of_ble_eq_true rfl⟩ (Nat.le_of_ble_eq_true rfl) ⟨Nat.le_of_ble_eq_true rfl, Nat.le_of_ble_eq_true rfl⟩ dL_law_539 (fun H locs hw => ?_)
  refine lv_icmp_eq (tgt := 822) hx hb dL_law_542 (by decide) (fun _ => kk S2 H locs hI2 hw) (fun c1 => absurd rfl c1)
def sim_few (Inv : Mm → Prop) : Prop := ∀ S, Inv S → ∀ x1 : Int32, ∃ (r : Int32) (S1 S2 : Mm), f_X6_few S x1 = some (r, S1) ∧ f_X7_few S1 x1 = some (r, S2) ∧ Inv S2
set_option maxRecDepth 20000 in
theorem law_few {p : Program} {l : Launch} {e : Env} {s : State} {m : MethodId} {below : List Frame} {meth : Method} {c : Code} {b L : Nat} {xs : Nat → Int32} {X : Wx} {Inv : Mm → Prop} (hc : Cx p s m #[Value.ref b] meth c X cL_law 4 RL) (hX : va_X b L xs s s.heap) (hbl : b < s.heap.size) (hbA : ¬ AA X.1 b) (hL : L ≤ 256) (hsim : sim_few Inv) {i : Nat} (hi : i + 4 ≤ L) {S : Mm} (hI : Inv S) {H : Heap} {locs : List Loc} {ls : Array Slot} (hw : Wd X s.heap S H locs) (hl : lv_has ls 4 [(0, .ref b), (1, .ref (X.1 + 0)), (2, .ref (X.1 + 163)), (3, .int (nI i))])
    (kk : ∀ (S2 : Mm) (H : Heap) (locs : List Loc), Inv S2 → Wd X s.heap S2 H locs → W p l e room_1 s m #[Value.ref b] below meth c H locs 180 2007 (lw_Z below #[Value.ref b] s) (F0 m 822 ls [])) : W p l e room_1 s m #[Value.ref b] below meth c H locs 180 2007 (lw_Z below #[Value.ref b] s) (F0 m 547 ls []) := by
  have hx := hc.1
  have hb := hc.2.1
  obtain ⟨r, S1, S2, h1, h2, hI2⟩ := hsim S hI (xs (nI i + 1).toNatClampNeg)
  refine lv_aload_n hx hb dL_law_547 rfl (lv_at hl 1 rfl) ?_
  refine lv_aload_n hx hb dL_law_548 rfl (lv_at hl 0 rfl) ?_
  refine lv_iload_n hx hb dL_law_549 rfl (lv_at hl 3 rfl) ?_
  refine lv_iconst (v := 1) hx hb dL_law_550 (by decide) ?_
  refine lv_iadd hx hb dL_law_551 ?_
  refine va_sld hx hb hX hbl hbA hw.2.1 (x_in1 hi hL) dL_law_552 ?_
  refine r_callV6i hc hw hl.1 (As := [.int (xs (nI i + 1).toNatClampNeg)]) (rest := []) k0 (c_X6_few l X h1) ms_X6_few rfl q3_12 rfl rfl ⟨rfl, rfl, Nat.le_of_ble_eq_true rfl, Nat.le_of_ble_eq_true rfl⟩ (Nat.le_of_ble_eq_true rfl) ⟨Nat.le_of_ble_eq_true rfl, Nat.le_of_ble_eq_true rfl⟩ dL_law_553 (fun H locs hw => ?_)
  refine lv_aload_n hx hb dL_law_556 rfl (lv_at hl 2 rfl) ?_
  refine lv_aload_n hx hb dL_law_557 rfl (lv_at hl 0 rfl) ?_
  refine lv_iload_n hx hb dL_law_558 rfl (lv_at hl 3 rfl) ?_
  refine lv_iconst (v := 1) hx hb dL_law_559 (by decide) ?_
  refine lv_iadd hx hb dL_law_560 ?_
  refine va_sld hx hb hX hbl hbA hw.2.1 (x_in1 hi hL) dL_law_561 ?_
  refine r_callV7i hc hw hl.1 (As := [.int (xs (nI i + 1).toNatClampNeg)]) (rest := [.int r]) k163 (c_X7_few l X h2) ms_X7_few rfl q4_141 rfl rfl ⟨rfl, rfl, Nat.le_of_ble_eq_true rfl, Nat.le_of_ble_eq_true rfl⟩ (Nat.le_of_ble_eq_true rfl) ⟨Nat.le_of_ble_eq_true rfl, Nat.le_of_ble_eq_true rfl⟩ dL_law_562 (fun H locs hw => ?_)
  refine lv_icmp_eq (tgt := 822) hx hb dL_law_565 (by decide) (fun _ => kk S2 H locs hI2 hw) (fun c1 => absurd rfl c1)
def sim_blame (Inv : Mm → Prop) : Prop := ∀ S, Inv S → ∀ x1 : Int32, ∀ x2 : Int32, ∀ x3 : Int32, ∃ (r : Int64) (S1 S2 : Mm), f_X6_blame S x1 x2 x3 = some (r, S1) ∧ f_X7_blame S1 x1 x2 x3 = some (r, S2) ∧ Inv S2
set_option maxRecDepth 20000 in
theorem law_blame {p : Program} {l : Launch} {e : Env} {s : State} {m : MethodId} {below : List Frame} {meth : Method} {c : Code} {b L : Nat} {xs : Nat → Int32} {X : Wx} {Inv : Mm → Prop} (hc : Cx p s m #[Value.ref b] meth c X cL_law 4 RL) (hX : va_X b L xs s s.heap) (hbl : b < s.heap.size) (hbA : ¬ AA X.1 b) (hL : L ≤ 256) (hsim : sim_blame Inv) {i : Nat} (hi : i + 4 ≤ L) {S : Mm} (hI : Inv S) {H : Heap} {locs : List Loc} {ls : Array Slot} (hw : Wd X s.heap S H locs) (hl : lv_has ls 4 [(0, .ref b), (1, .ref (X.1 + 0)), (2, .ref (X.1 + 163)), (3, .int (nI i))])
    (kk : ∀ (S2 : Mm) (H : Heap) (locs : List Loc), Inv S2 → Wd X s.heap S2 H locs → W p l e room_1 s m #[Value.ref b] below meth c H locs 180 2007 (lw_Z below #[Value.ref b] s) (F0 m 822 ls [])) : W p l e room_1 s m #[Value.ref b] below meth c H locs 180 2007 (lw_Z below #[Value.ref b] s) (F0 m 570 ls []) := by
  have hx := hc.1
  have hb := hc.2.1
  obtain ⟨r, S1, S2, h1, h2, hI2⟩ := hsim S hI (xs (nI i + 1).toNatClampNeg) (xs (nI i + 2).toNatClampNeg) (xs (nI i + 3).toNatClampNeg)
  refine lv_aload_n hx hb dL_law_570 rfl (lv_at hl 1 rfl) ?_
  refine lv_aload_n hx hb dL_law_571 rfl (lv_at hl 0 rfl) ?_
  refine lv_iload_n hx hb dL_law_572 rfl (lv_at hl 3 rfl) ?_
  refine lv_iconst (v := 1) hx hb dL_law_573 (by decide) ?_
  refine lv_iadd hx hb dL_law_574 ?_
  refine va_sld hx hb hX hbl hbA hw.2.1 (x_in1 hi hL) dL_law_575 ?_
  refine lv_aload_n hx hb dL_law_576 rfl (lv_at hl 0 rfl) ?_
  refine lv_iload_n hx hb dL_law_577 rfl (lv_at hl 3 rfl) ?_
  refine lv_iconst (v := 2) hx hb dL_law_578 (by decide) ?_
  refine lv_iadd hx hb dL_law_579 ?_
  refine va_sld hx hb hX hbl hbA hw.2.1 (x_in2 hi hL) dL_law_580 ?_
  refine lv_aload_n hx hb dL_law_581 rfl (lv_at hl 0 rfl) ?_
  refine lv_iload_n hx hb dL_law_582 rfl (lv_at hl 3 rfl) ?_
  refine lv_iconst (v := 3) hx hb dL_law_583 (by decide) ?_
  refine lv_iadd hx hb dL_law_584 ?_
  refine va_sld hx hb hX hbl hbA hw.2.1 (x_in3 hi hL) dL_law_585 ?_
  refine r_callV6l hc hw hl.1 (As := [.int (xs (nI i + 1).toNatClampNeg), .int (xs (nI i + 2).toNatClampNeg), .int (xs (nI i + 3).toNatClampNeg)]) (rest := []) k0 (c_X6_blame l X h1) ms_X6_blame rfl q3_21 rfl rfl ⟨rfl, rfl, Nat.le_of_ble_eq_true rfl, Nat.le_of_ble_eq_true rfl⟩ (Nat.le_of_ble_eq_true rfl) ⟨Nat.le_of_ble_eq_true rfl, Nat.le_of_ble_eq_true rfl⟩ dL_law_586 (fun H locs hw => ?_)
  refine lv_aload_n hx hb dL_law_589 rfl (lv_at hl 2 rfl) ?_
  refine lv_aload_n hx hb dL_law_590 rfl (lv_at hl 0 rfl) ?_
  refine lv_iload_n hx hb dL_law_591 rfl (lv_at hl 3 rfl) ?_
  refine lv_iconst (v := 1) hx hb dL_law_592 (by decide) ?_
  refine lv_iadd hx hb dL_law_593 ?_
  refine va_sld hx hb hX hbl hbA hw.2.1 (x_in1 hi hL) dL_law_594 ?_
  refine lv_aload_n hx hb dL_law_595 rfl (lv_at hl 0 rfl) ?_
  refine lv_iload_n hx hb dL_law_596 rfl (lv_at hl 3 rfl) ?_
  refine lv_iconst (v := 2) hx hb dL_law_597 (by decide) ?_
  refine lv_iadd hx hb dL_law_598 ?_
  refine va_sld hx hb hX hbl hbA hw.2.1 (x_in2 hi hL) dL_law_599 ?_
  refine lv_aload_n hx hb dL_law_600 rfl (lv_at hl 0 rfl) ?_
  refine lv_iload_n hx hb dL_law_601 rfl (lv_at hl 3 rfl) ?_
  refine lv_iconst (v := 3) hx hb dL_law_602 (by decide) ?_
  refine lv_iadd hx hb dL_law_603 ?_
  refine va_sld hx hb hX hbl hbA hw.2.1 (x_in3 hi hL) dL_law_604 ?_
  refine r_callV7l hc hw hl.1 (As := [.int (xs (nI i + 1).toNatClampNeg), .int (xs (nI i + 2).toNatClampNeg), .int (xs (nI i + 3).toNatClampNeg)]) (rest := [.long r]) k163 (c_X7_blame l X h2) ms_X7_blame rfl q4_146 rfl rfl ⟨rfl, rfl, Nat.le_of_ble_eq_true rfl, Nat.le_of_ble_eq_true rfl⟩ (Nat.le_of_ble_eq_true rfl) ⟨Nat.le_of_ble_eq_true rfl, Nat.le_of_ble_eq_true rfl⟩ dL_law_605 (fun H locs hw => ?_)
  refine W.lcmp hx hb dL_law_608 ?_
  refine lv_if_eq (tgt := 822) hx hb dL_law_609 (by decide) (fun _ => kk S2 H locs hI2 hw) (fun c1 => absurd ((lg_cmp_eq _ _).mpr rfl) c1)
def sim_first (Inv : Mm → Prop) : Prop := ∀ S, Inv S → ∀ x1 : Int32, ∃ (r : Int32) (S1 S2 : Mm), f_X6_first S x1 = some (r, S1) ∧ f_X7_first S1 x1 = some (r, S2) ∧ Inv S2
set_option maxRecDepth 20000 in
theorem law_first {p : Program} {l : Launch} {e : Env} {s : State} {m : MethodId} {below : List Frame} {meth : Method} {c : Code} {b L : Nat} {xs : Nat → Int32} {X : Wx} {Inv : Mm → Prop} (hc : Cx p s m #[Value.ref b] meth c X cL_law 4 RL) (hX : va_X b L xs s s.heap) (hbl : b < s.heap.size) (hbA : ¬ AA X.1 b) (hL : L ≤ 256) (hsim : sim_first Inv) {i : Nat} (hi : i + 4 ≤ L) {S : Mm} (hI : Inv S) {H : Heap} {locs : List Loc} {ls : Array Slot} (hw : Wd X s.heap S H locs) (hl : lv_has ls 4 [(0, .ref b), (1, .ref (X.1 + 0)), (2, .ref (X.1 + 163)), (3, .int (nI i))])
    (kk : ∀ (S2 : Mm) (H : Heap) (locs : List Loc), Inv S2 → Wd X s.heap S2 H locs → W p l e room_1 s m #[Value.ref b] below meth c H locs 180 2007 (lw_Z below #[Value.ref b] s) (F0 m 822 ls [])) : W p l e room_1 s m #[Value.ref b] below meth c H locs 180 2007 (lw_Z below #[Value.ref b] s) (F0 m 614 ls []) := by
  have hx := hc.1
  have hb := hc.2.1
  obtain ⟨r, S1, S2, h1, h2, hI2⟩ := hsim S hI (xs (nI i + 1).toNatClampNeg)
  refine lv_aload_n hx hb dL_law_614 rfl (lv_at hl 1 rfl) ?_
  refine lv_aload_n hx hb dL_law_615 rfl (lv_at hl 0 rfl) ?_
  refine lv_iload_n hx hb dL_law_616 rfl (lv_at hl 3 rfl) ?_
  refine lv_iconst (v := 1) hx hb dL_law_617 (by decide) ?_
  refine lv_iadd hx hb dL_law_618 ?_
  refine va_sld hx hb hX hbl hbA hw.2.1 (x_in1 hi hL) dL_law_619 ?_
  refine r_callV6i hc hw hl.1 (As := [.int (xs (nI i + 1).toNatClampNeg)]) (rest := []) k0 (c_X6_first l X h1) ms_X6_first rfl q3_37 rfl rfl ⟨rfl, rfl, Nat.le_of_ble_eq_true rfl, Nat.le_of_ble_eq_true rfl⟩ (Nat.le_of_ble_eq_true rfl) ⟨Nat.le_of_ble_eq_true rfl, Nat.le_of_ble_eq_true rfl⟩ dL_law_620 (fun H locs hw => ?_)
  refine lv_aload_n hx hb dL_law_623 rfl (lv_at hl 2 rfl) ?_
  refine lv_aload_n hx hb dL_law_624 rfl (lv_at hl 0 rfl) ?_
  refine lv_iload_n hx hb dL_law_625 rfl (lv_at hl 3 rfl) ?_
  refine lv_iconst (v := 1) hx hb dL_law_626 (by decide) ?_
  refine lv_iadd hx hb dL_law_627 ?_
  refine va_sld hx hb hX hbl hbA hw.2.1 (x_in1 hi hL) dL_law_628 ?_
  refine r_callV7i hc hw hl.1 (As := [.int (xs (nI i + 1).toNatClampNeg)]) (rest := [.int r]) k163 (c_X7_first l X h2) ms_X7_first rfl q4_158 rfl rfl ⟨rfl, rfl, Nat.le_of_ble_eq_true rfl, Nat.le_of_ble_eq_true rfl⟩ (Nat.le_of_ble_eq_true rfl) ⟨Nat.le_of_ble_eq_true rfl, Nat.le_of_ble_eq_true rfl⟩ dL_law_629 (fun H locs hw => ?_)
  refine lv_icmp_eq (tgt := 822) hx hb dL_law_632 (by decide) (fun _ => kk S2 H locs hI2 hw) (fun c1 => absurd rfl c1)
def sim_tells (Inv : Mm → Prop) : Prop := ∀ S, Inv S → ∀ x1 : Int32, ∀ x2 : Int32, ∃ (r : Int32) (S1 S2 : Mm), f_X6_tells S x1 x2 = some (r, S1) ∧ f_X7_tells S1 x1 x2 = some (r, S2) ∧ Inv S2
set_option maxRecDepth 20000 in
theorem law_tells {p : Program} {l : Launch} {e : Env} {s : State} {m : MethodId} {below : List Frame} {meth : Method} {c : Code} {b L : Nat} {xs : Nat → Int32} {X : Wx} {Inv : Mm → Prop} (hc : Cx p s m #[Value.ref b] meth c X cL_law 4 RL) (hX : va_X b L xs s s.heap) (hbl : b < s.heap.size) (hbA : ¬ AA X.1 b) (hL : L ≤ 256) (hsim : sim_tells Inv) {i : Nat} (hi : i + 4 ≤ L) {S : Mm} (hI : Inv S) {H : Heap} {locs : List Loc} {ls : Array Slot} (hw : Wd X s.heap S H locs) (hl : lv_has ls 4 [(0, .ref b), (1, .ref (X.1 + 0)), (2, .ref (X.1 + 163)), (3, .int (nI i))])
    (kk : ∀ (S2 : Mm) (H : Heap) (locs : List Loc), Inv S2 → Wd X s.heap S2 H locs → W p l e room_1 s m #[Value.ref b] below meth c H locs 180 2007 (lw_Z below #[Value.ref b] s) (F0 m 822 ls [])) : W p l e room_1 s m #[Value.ref b] below meth c H locs 180 2007 (lw_Z below #[Value.ref b] s) (F0 m 637 ls []) := by
  have hx := hc.1
  have hb := hc.2.1
  obtain ⟨r, S1, S2, h1, h2, hI2⟩ := hsim S hI (xs (nI i + 1).toNatClampNeg) (xs (nI i + 2).toNatClampNeg)
  refine lv_aload_n hx hb dL_law_637 rfl (lv_at hl 1 rfl) ?_
  refine lv_aload_n hx hb dL_law_638 rfl (lv_at hl 0 rfl) ?_
  refine lv_iload_n hx hb dL_law_639 rfl (lv_at hl 3 rfl) ?_
  refine lv_iconst (v := 1) hx hb dL_law_640 (by decide) ?_
  refine lv_iadd hx hb dL_law_641 ?_
  refine va_sld hx hb hX hbl hbA hw.2.1 (x_in1 hi hL) dL_law_642 ?_
  refine lv_aload_n hx hb dL_law_643 rfl (lv_at hl 0 rfl) ?_
  refine lv_iload_n hx hb dL_law_644 rfl (lv_at hl 3 rfl) ?_
  refine lv_iconst (v := 2) hx hb dL_law_645 (by decide) ?_
  refine lv_iadd hx hb dL_law_646 ?_
  refine va_sld hx hb hX hbl hbA hw.2.1 (x_in2 hi hL) dL_law_647 ?_
  refine r_callV6i hc hw hl.1 (As := [.int (xs (nI i + 1).toNatClampNeg), .int (xs (nI i + 2).toNatClampNeg)]) (rest := []) k0 (c_X6_tells l X h1) ms_X6_tells rfl q3_41 rfl rfl ⟨rfl, rfl, Nat.le_of_ble_eq_true rfl, Nat.le_of_ble_eq_true rfl⟩ (Nat.le_of_ble_eq_true rfl) ⟨Nat.le_of_ble_eq_true rfl, Nat.le_of_ble_eq_true rfl⟩ dL_law_648 (fun H locs hw => ?_)
  refine lv_aload_n hx hb dL_law_651 rfl (lv_at hl 2 rfl) ?_
  refine lv_aload_n hx hb dL_law_652 rfl (lv_at hl 0 rfl) ?_
  refine lv_iload_n hx hb dL_law_653 rfl (lv_at hl 3 rfl) ?_
  refine lv_iconst (v := 1) hx hb dL_law_654 (by decide) ?_
  refine lv_iadd hx hb dL_law_655 ?_
  refine va_sld hx hb hX hbl hbA hw.2.1 (x_in1 hi hL) dL_law_656 ?_
  refine lv_aload_n hx hb dL_law_657 rfl (lv_at hl 0 rfl) ?_
  refine lv_iload_n hx hb dL_law_658 rfl (lv_at hl 3 rfl) ?_
  refine lv_iconst (v := 2) hx hb dL_law_659 (by decide) ?_
  refine lv_iadd hx hb dL_law_660 ?_
  refine va_sld hx hb hX hbl hbA hw.2.1 (x_in2 hi hL) dL_law_661 ?_
  refine r_callV7i hc hw hl.1 (As := [.int (xs (nI i + 1).toNatClampNeg), .int (xs (nI i + 2).toNatClampNeg)]) (rest := [.int r]) k163 (c_X7_tells l X h2) ms_X7_tells rfl q4_162 rfl rfl ⟨rfl, rfl, Nat.le_of_ble_eq_true rfl, Nat.le_of_ble_eq_true rfl⟩ (Nat.le_of_ble_eq_true rfl) ⟨Nat.le_of_ble_eq_true rfl, Nat.le_of_ble_eq_true rfl⟩ dL_law_662 (fun H locs hw => ?_)
  refine lv_icmp_eq (tgt := 822) hx hb dL_law_665 (by decide) (fun _ => kk S2 H locs hI2 hw) (fun c1 => absurd rfl c1)
def sim_forget (Inv : Mm → Prop) : Prop := ∀ S, Inv S → ∃ (r : Int32) (S1 S2 : Mm), f_X6_forget S = some (r, S1) ∧ f_X7_forget S1 = some (r, S2) ∧ Inv S2
set_option maxRecDepth 20000 in
theorem law_forget {p : Program} {l : Launch} {e : Env} {s : State} {m : MethodId} {below : List Frame} {meth : Method} {c : Code} {b L : Nat} {xs : Nat → Int32} {X : Wx} {Inv : Mm → Prop} (hc : Cx p s m #[Value.ref b] meth c X cL_law 4 RL) (hX : va_X b L xs s s.heap) (hbl : b < s.heap.size) (hbA : ¬ AA X.1 b) (hL : L ≤ 256) (hsim : sim_forget Inv) {i : Nat} (hi : i + 4 ≤ L) {S : Mm} (hI : Inv S) {H : Heap} {locs : List Loc} {ls : Array Slot} (hw : Wd X s.heap S H locs) (hl : lv_has ls 4 [(0, .ref b), (1, .ref (X.1 + 0)), (2, .ref (X.1 + 163)), (3, .int (nI i))])
    (kk : ∀ (S2 : Mm) (H : Heap) (locs : List Loc), Inv S2 → Wd X s.heap S2 H locs → W p l e room_1 s m #[Value.ref b] below meth c H locs 180 2007 (lw_Z below #[Value.ref b] s) (F0 m 822 ls [])) : W p l e room_1 s m #[Value.ref b] below meth c H locs 180 2007 (lw_Z below #[Value.ref b] s) (F0 m 670 ls []) := by
  have hx := hc.1
  have hb := hc.2.1
  obtain ⟨r, S1, S2, h1, h2, hI2⟩ := hsim S hI 
  refine lv_aload_n hx hb dL_law_670 rfl (lv_at hl 1 rfl) ?_
  refine r_callV6i hc hw hl.1 (As := []) (rest := []) k0 (c_X6_forget l X h1) ms_X6_forget rfl q3_45 rfl rfl ⟨rfl, rfl, Nat.le_of_ble_eq_true rfl, Nat.le_of_ble_eq_true rfl⟩ (Nat.le_of_ble_eq_true rfl) ⟨Nat.le_of_ble_eq_true rfl, Nat.le_of_ble_eq_true rfl⟩ dL_law_671 (fun H locs hw => ?_)
  refine lv_aload_n hx hb dL_law_674 rfl (lv_at hl 2 rfl) ?_
  refine r_callV7i hc hw hl.1 (As := []) (rest := [.int r]) k163 (c_X7_forget l X h2) ms_X7_forget rfl q4_166 rfl rfl ⟨rfl, rfl, Nat.le_of_ble_eq_true rfl, Nat.le_of_ble_eq_true rfl⟩ (Nat.le_of_ble_eq_true rfl) ⟨Nat.le_of_ble_eq_true rfl, Nat.le_of_ble_eq_true rfl⟩ dL_law_675 (fun H locs hw => ?_)
  refine lv_icmp_eq (tgt := 822) hx hb dL_law_678 (by decide) (fun _ => kk S2 H locs hI2 hw) (fun c1 => absurd rfl c1)
def sim_who (Inv : Mm → Prop) : Prop := ∀ S, Inv S → ∀ x1 : Int32, ∃ (r : Int32) (S1 S2 : Mm), f_X6_who S x1 = some (r, S1) ∧ f_X7_who S1 x1 = some (r, S2) ∧ Inv S2
set_option maxRecDepth 20000 in
theorem law_who {p : Program} {l : Launch} {e : Env} {s : State} {m : MethodId} {below : List Frame} {meth : Method} {c : Code} {b L : Nat} {xs : Nat → Int32} {X : Wx} {Inv : Mm → Prop} (hc : Cx p s m #[Value.ref b] meth c X cL_law 4 RL) (hX : va_X b L xs s s.heap) (hbl : b < s.heap.size) (hbA : ¬ AA X.1 b) (hL : L ≤ 256) (hsim : sim_who Inv) {i : Nat} (hi : i + 4 ≤ L) {S : Mm} (hI : Inv S) {H : Heap} {locs : List Loc} {ls : Array Slot} (hw : Wd X s.heap S H locs) (hl : lv_has ls 4 [(0, .ref b), (1, .ref (X.1 + 0)), (2, .ref (X.1 + 163)), (3, .int (nI i))])
    (kk : ∀ (S2 : Mm) (H : Heap) (locs : List Loc), Inv S2 → Wd X s.heap S2 H locs → W p l e room_1 s m #[Value.ref b] below meth c H locs 180 2007 (lw_Z below #[Value.ref b] s) (F0 m 822 ls [])) : W p l e room_1 s m #[Value.ref b] below meth c H locs 180 2007 (lw_Z below #[Value.ref b] s) (F0 m 683 ls []) := by
  have hx := hc.1
  have hb := hc.2.1
  obtain ⟨r, S1, S2, h1, h2, hI2⟩ := hsim S hI (xs (nI i + 1).toNatClampNeg)
  refine lv_aload_n hx hb dL_law_683 rfl (lv_at hl 1 rfl) ?_
  refine lv_aload_n hx hb dL_law_684 rfl (lv_at hl 0 rfl) ?_
  refine lv_iload_n hx hb dL_law_685 rfl (lv_at hl 3 rfl) ?_
  refine lv_iconst (v := 1) hx hb dL_law_686 (by decide) ?_
  refine lv_iadd hx hb dL_law_687 ?_
  refine va_sld hx hb hX hbl hbA hw.2.1 (x_in1 hi hL) dL_law_688 ?_
  refine r_callV6i hc hw hl.1 (As := [.int (xs (nI i + 1).toNatClampNeg)]) (rest := []) k0 (c_X6_who l X h1) ms_X6_who rfl q3_49 rfl rfl ⟨rfl, rfl, Nat.le_of_ble_eq_true rfl, Nat.le_of_ble_eq_true rfl⟩ (Nat.le_of_ble_eq_true rfl) ⟨Nat.le_of_ble_eq_true rfl, Nat.le_of_ble_eq_true rfl⟩ dL_law_689 (fun H locs hw => ?_)
  refine lv_aload_n hx hb dL_law_692 rfl (lv_at hl 2 rfl) ?_
  refine lv_aload_n hx hb dL_law_693 rfl (lv_at hl 0 rfl) ?_
  refine lv_iload_n hx hb dL_law_694 rfl (lv_at hl 3 rfl) ?_
  refine lv_iconst (v := 1) hx hb dL_law_695 (by decide) ?_
  refine lv_iadd hx hb dL_law_696 ?_
  refine va_sld hx hb hX hbl hbA hw.2.1 (x_in1 hi hL) dL_law_697 ?_
  refine r_callV7i hc hw hl.1 (As := [.int (xs (nI i + 1).toNatClampNeg)]) (rest := [.int r]) k163 (c_X7_who l X h2) ms_X7_who rfl q4_170 rfl rfl ⟨rfl, rfl, Nat.le_of_ble_eq_true rfl, Nat.le_of_ble_eq_true rfl⟩ (Nat.le_of_ble_eq_true rfl) ⟨Nat.le_of_ble_eq_true rfl, Nat.le_of_ble_eq_true rfl⟩ dL_law_698 (fun H locs hw => ?_)
  refine lv_icmp_eq (tgt := 822) hx hb dL_law_701 (by decide) (fun _ => kk S2 H locs hI2 hw) (fun c1 => absurd rfl c1)
def sim_mark (Inv : Mm → Prop) : Prop := ∀ S, Inv S → ∀ x1 : Int32, ∀ x2 : Int32, ∃ (r : Int32) (S1 S2 : Mm), f_X6_mark S x1 x2 = some (r, S1) ∧ f_X7_mark S1 x1 x2 = some (r, S2) ∧ Inv S2
set_option maxRecDepth 20000 in
theorem law_mark {p : Program} {l : Launch} {e : Env} {s : State} {m : MethodId} {below : List Frame} {meth : Method} {c : Code} {b L : Nat} {xs : Nat → Int32} {X : Wx} {Inv : Mm → Prop} (hc : Cx p s m #[Value.ref b] meth c X cL_law 4 RL) (hX : va_X b L xs s s.heap) (hbl : b < s.heap.size) (hbA : ¬ AA X.1 b) (hL : L ≤ 256) (hsim : sim_mark Inv) {i : Nat} (hi : i + 4 ≤ L) {S : Mm} (hI : Inv S) {H : Heap} {locs : List Loc} {ls : Array Slot} (hw : Wd X s.heap S H locs) (hl : lv_has ls 4 [(0, .ref b), (1, .ref (X.1 + 0)), (2, .ref (X.1 + 163)), (3, .int (nI i))])
    (kk : ∀ (S2 : Mm) (H : Heap) (locs : List Loc), Inv S2 → Wd X s.heap S2 H locs → W p l e room_1 s m #[Value.ref b] below meth c H locs 180 2007 (lw_Z below #[Value.ref b] s) (F0 m 822 ls [])) : W p l e room_1 s m #[Value.ref b] below meth c H locs 180 2007 (lw_Z below #[Value.ref b] s) (F0 m 706 ls []) := by
  have hx := hc.1
  have hb := hc.2.1
  obtain ⟨r, S1, S2, h1, h2, hI2⟩ := hsim S hI (xs (nI i + 1).toNatClampNeg) (xs (nI i + 2).toNatClampNeg)
  refine lv_aload_n hx hb dL_law_706 rfl (lv_at hl 1 rfl) ?_
  refine lv_aload_n hx hb dL_law_707 rfl (lv_at hl 0 rfl) ?_
  refine lv_iload_n hx hb dL_law_708 rfl (lv_at hl 3 rfl) ?_
  refine lv_iconst (v := 1) hx hb dL_law_709 (by decide) ?_
  refine lv_iadd hx hb dL_law_710 ?_
  refine va_sld hx hb hX hbl hbA hw.2.1 (x_in1 hi hL) dL_law_711 ?_
  refine lv_aload_n hx hb dL_law_712 rfl (lv_at hl 0 rfl) ?_
  refine lv_iload_n hx hb dL_law_713 rfl (lv_at hl 3 rfl) ?_
  refine lv_iconst (v := 2) hx hb dL_law_714 (by decide) ?_
  refine lv_iadd hx hb dL_law_715 ?_
  refine va_sld hx hb hX hbl hbA hw.2.1 (x_in2 hi hL) dL_law_716 ?_
  refine r_callV6i hc hw hl.1 (As := [.int (xs (nI i + 1).toNatClampNeg), .int (xs (nI i + 2).toNatClampNeg)]) (rest := []) k0 (c_X6_mark l X h1) ms_X6_mark rfl q3_57 rfl rfl ⟨rfl, rfl, Nat.le_of_ble_eq_true rfl, Nat.le_of_ble_eq_true rfl⟩ (Nat.le_of_ble_eq_true rfl) ⟨Nat.le_of_ble_eq_true rfl, Nat.le_of_ble_eq_true rfl⟩ dL_law_717 (fun H locs hw => ?_)
  refine lv_aload_n hx hb dL_law_720 rfl (lv_at hl 2 rfl) ?_
  refine lv_aload_n hx hb dL_law_721 rfl (lv_at hl 0 rfl) ?_
  refine lv_iload_n hx hb dL_law_722 rfl (lv_at hl 3 rfl) ?_
  refine lv_iconst (v := 1) hx hb dL_law_723 (by decide) ?_
  refine lv_iadd hx hb dL_law_724 ?_
  refine va_sld hx hb hX hbl hbA hw.2.1 (x_in1 hi hL) dL_law_725 ?_
  refine lv_aload_n hx hb dL_law_726 rfl (lv_at hl 0 rfl) ?_
  refine lv_iload_n hx hb dL_law_727 rfl (lv_at hl 3 rfl) ?_
  refine lv_iconst (v := 2) hx hb dL_law_728 (by decide) ?_
  refine lv_iadd hx hb dL_law_729 ?_
  refine va_sld hx hb hX hbl hbA hw.2.1 (x_in2 hi hL) dL_law_730 ?_
  refine r_callV7i hc hw hl.1 (As := [.int (xs (nI i + 1).toNatClampNeg), .int (xs (nI i + 2).toNatClampNeg)]) (rest := [.int r]) k163 (c_X7_mark l X h2) ms_X7_mark rfl q4_174 rfl rfl ⟨rfl, rfl, Nat.le_of_ble_eq_true rfl, Nat.le_of_ble_eq_true rfl⟩ (Nat.le_of_ble_eq_true rfl) ⟨Nat.le_of_ble_eq_true rfl, Nat.le_of_ble_eq_true rfl⟩ dL_law_731 (fun H locs hw => ?_)
  refine lv_icmp_eq (tgt := 822) hx hb dL_law_734 (by decide) (fun _ => kk S2 H locs hI2 hw) (fun c1 => absurd rfl c1)
def sim_keep (Inv : Mm → Prop) : Prop := ∀ S, Inv S → ∀ x1 : Int32, ∃ (r : Int32) (S1 S2 : Mm), f_X6_keep S x1 = some (r, S1) ∧ f_X7_keep S1 x1 = some (r, S2) ∧ Inv S2
set_option maxRecDepth 20000 in
theorem law_keep {p : Program} {l : Launch} {e : Env} {s : State} {m : MethodId} {below : List Frame} {meth : Method} {c : Code} {b L : Nat} {xs : Nat → Int32} {X : Wx} {Inv : Mm → Prop} (hc : Cx p s m #[Value.ref b] meth c X cL_law 4 RL) (hX : va_X b L xs s s.heap) (hbl : b < s.heap.size) (hbA : ¬ AA X.1 b) (hL : L ≤ 256) (hsim : sim_keep Inv) {i : Nat} (hi : i + 4 ≤ L) {S : Mm} (hI : Inv S) {H : Heap} {locs : List Loc} {ls : Array Slot} (hw : Wd X s.heap S H locs) (hl : lv_has ls 4 [(0, .ref b), (1, .ref (X.1 + 0)), (2, .ref (X.1 + 163)), (3, .int (nI i))])
    (kk : ∀ (S2 : Mm) (H : Heap) (locs : List Loc), Inv S2 → Wd X s.heap S2 H locs → W p l e room_1 s m #[Value.ref b] below meth c H locs 180 2007 (lw_Z below #[Value.ref b] s) (F0 m 822 ls [])) : W p l e room_1 s m #[Value.ref b] below meth c H locs 180 2007 (lw_Z below #[Value.ref b] s) (F0 m 739 ls []) := by
  have hx := hc.1
  have hb := hc.2.1
  obtain ⟨r, S1, S2, h1, h2, hI2⟩ := hsim S hI (xs (nI i + 1).toNatClampNeg)
  refine lv_aload_n hx hb dL_law_739 rfl (lv_at hl 1 rfl) ?_
  refine lv_aload_n hx hb dL_law_740 rfl (lv_at hl 0 rfl) ?_
  refine lv_iload_n hx hb dL_law_741 rfl (lv_at hl 3 rfl) ?_
  refine lv_iconst (v := 1) hx hb dL_law_742 (by decide) ?_
  refine lv_iadd hx hb dL_law_743 ?_
  refine va_sld hx hb hX hbl hbA hw.2.1 (x_in1 hi hL) dL_law_744 ?_
  refine r_callV6i hc hw hl.1 (As := [.int (xs (nI i + 1).toNatClampNeg)]) (rest := []) k0 (c_X6_keep l X h1) ms_X6_keep rfl q3_91 rfl rfl ⟨rfl, rfl, Nat.le_of_ble_eq_true rfl, Nat.le_of_ble_eq_true rfl⟩ (Nat.le_of_ble_eq_true rfl) ⟨Nat.le_of_ble_eq_true rfl, Nat.le_of_ble_eq_true rfl⟩ dL_law_745 (fun H locs hw => ?_)
  refine lv_aload_n hx hb dL_law_748 rfl (lv_at hl 2 rfl) ?_
  refine lv_aload_n hx hb dL_law_749 rfl (lv_at hl 0 rfl) ?_
  refine lv_iload_n hx hb dL_law_750 rfl (lv_at hl 3 rfl) ?_
  refine lv_iconst (v := 1) hx hb dL_law_751 (by decide) ?_
  refine lv_iadd hx hb dL_law_752 ?_
  refine va_sld hx hb hX hbl hbA hw.2.1 (x_in1 hi hL) dL_law_753 ?_
  refine r_callV7i hc hw hl.1 (As := [.int (xs (nI i + 1).toNatClampNeg)]) (rest := [.int r]) k163 (c_X7_keep l X h2) ms_X7_keep rfl q4_184 rfl rfl ⟨rfl, rfl, Nat.le_of_ble_eq_true rfl, Nat.le_of_ble_eq_true rfl⟩ (Nat.le_of_ble_eq_true rfl) ⟨Nat.le_of_ble_eq_true rfl, Nat.le_of_ble_eq_true rfl⟩ dL_law_754 (fun H locs hw => ?_)
  refine lv_icmp_eq (tgt := 822) hx hb dL_law_757 (by decide) (fun _ => kk S2 H locs hI2 hw) (fun c1 => absurd rfl c1)
def sim_back (Inv : Mm → Prop) : Prop := ∀ S, Inv S → ∀ x1 : Int32, ∃ (r : Int32) (S1 S2 : Mm), f_X6_back S x1 = some (r, S1) ∧ f_X7_back S1 x1 = some (r, S2) ∧ Inv S2
set_option maxRecDepth 20000 in
theorem law_back {p : Program} {l : Launch} {e : Env} {s : State} {m : MethodId} {below : List Frame} {meth : Method} {c : Code} {b L : Nat} {xs : Nat → Int32} {X : Wx} {Inv : Mm → Prop} (hc : Cx p s m #[Value.ref b] meth c X cL_law 4 RL) (hX : va_X b L xs s s.heap) (hbl : b < s.heap.size) (hbA : ¬ AA X.1 b) (hL : L ≤ 256) (hsim : sim_back Inv) {i : Nat} (hi : i + 4 ≤ L) {S : Mm} (hI : Inv S) {H : Heap} {locs : List Loc} {ls : Array Slot} (hw : Wd X s.heap S H locs) (hl : lv_has ls 4 [(0, .ref b), (1, .ref (X.1 + 0)), (2, .ref (X.1 + 163)), (3, .int (nI i))])
    (kk : ∀ (S2 : Mm) (H : Heap) (locs : List Loc), Inv S2 → Wd X s.heap S2 H locs → W p l e room_1 s m #[Value.ref b] below meth c H locs 180 2007 (lw_Z below #[Value.ref b] s) (F0 m 822 ls [])) : W p l e room_1 s m #[Value.ref b] below meth c H locs 180 2007 (lw_Z below #[Value.ref b] s) (F0 m 762 ls []) := by
  have hx := hc.1
  have hb := hc.2.1
  obtain ⟨r, S1, S2, h1, h2, hI2⟩ := hsim S hI (xs (nI i + 1).toNatClampNeg)
  refine lv_aload_n hx hb dL_law_762 rfl (lv_at hl 1 rfl) ?_
  refine lv_aload_n hx hb dL_law_763 rfl (lv_at hl 0 rfl) ?_
  refine lv_iload_n hx hb dL_law_764 rfl (lv_at hl 3 rfl) ?_
  refine lv_iconst (v := 1) hx hb dL_law_765 (by decide) ?_
  refine lv_iadd hx hb dL_law_766 ?_
  refine va_sld hx hb hX hbl hbA hw.2.1 (x_in1 hi hL) dL_law_767 ?_
  refine r_callV6i hc hw hl.1 (As := [.int (xs (nI i + 1).toNatClampNeg)]) (rest := []) k0 (c_X6_back l X h1) ms_X6_back rfl q3_102 rfl rfl ⟨rfl, rfl, Nat.le_of_ble_eq_true rfl, Nat.le_of_ble_eq_true rfl⟩ (Nat.le_of_ble_eq_true rfl) ⟨Nat.le_of_ble_eq_true rfl, Nat.le_of_ble_eq_true rfl⟩ dL_law_768 (fun H locs hw => ?_)
  refine lv_aload_n hx hb dL_law_771 rfl (lv_at hl 2 rfl) ?_
  refine lv_aload_n hx hb dL_law_772 rfl (lv_at hl 0 rfl) ?_
  refine lv_iload_n hx hb dL_law_773 rfl (lv_at hl 3 rfl) ?_
  refine lv_iconst (v := 1) hx hb dL_law_774 (by decide) ?_
  refine lv_iadd hx hb dL_law_775 ?_
  refine va_sld hx hb hX hbl hbA hw.2.1 (x_in1 hi hL) dL_law_776 ?_
  refine r_callV7i hc hw hl.1 (As := [.int (xs (nI i + 1).toNatClampNeg)]) (rest := [.int r]) k163 (c_X7_back l X h2) ms_X7_back rfl q4_188 rfl rfl ⟨rfl, rfl, Nat.le_of_ble_eq_true rfl, Nat.le_of_ble_eq_true rfl⟩ (Nat.le_of_ble_eq_true rfl) ⟨Nat.le_of_ble_eq_true rfl, Nat.le_of_ble_eq_true rfl⟩ dL_law_777 (fun H locs hw => ?_)
  refine lv_icmp_eq (tgt := 822) hx hb dL_law_780 (by decide) (fun _ => kk S2 H locs hI2 hw) (fun c1 => absurd rfl c1)
def sim_count (Inv : Mm → Prop) : Prop := ∀ S, Inv S → ∀ x1 : Int32, ∃ (r : Int32) (S1 S2 : Mm), f_X6_count S x1 = some (r, S1) ∧ f_X7_count S1 x1 = some (r, S2) ∧ Inv S2
set_option maxRecDepth 20000 in
theorem law_count {p : Program} {l : Launch} {e : Env} {s : State} {m : MethodId} {below : List Frame} {meth : Method} {c : Code} {b L : Nat} {xs : Nat → Int32} {X : Wx} {Inv : Mm → Prop} (hc : Cx p s m #[Value.ref b] meth c X cL_law 4 RL) (hX : va_X b L xs s s.heap) (hbl : b < s.heap.size) (hbA : ¬ AA X.1 b) (hL : L ≤ 256) (hsim : sim_count Inv) {i : Nat} (hi : i + 4 ≤ L) {S : Mm} (hI : Inv S) {H : Heap} {locs : List Loc} {ls : Array Slot} (hw : Wd X s.heap S H locs) (hl : lv_has ls 4 [(0, .ref b), (1, .ref (X.1 + 0)), (2, .ref (X.1 + 163)), (3, .int (nI i))])
    (kk : ∀ (S2 : Mm) (H : Heap) (locs : List Loc), Inv S2 → Wd X s.heap S2 H locs → W p l e room_1 s m #[Value.ref b] below meth c H locs 180 2007 (lw_Z below #[Value.ref b] s) (F0 m 822 ls [])) : W p l e room_1 s m #[Value.ref b] below meth c H locs 180 2007 (lw_Z below #[Value.ref b] s) (F0 m 785 ls []) := by
  have hx := hc.1
  have hb := hc.2.1
  obtain ⟨r, S1, S2, h1, h2, hI2⟩ := hsim S hI (xs (nI i + 1).toNatClampNeg)
  refine lv_aload_n hx hb dL_law_785 rfl (lv_at hl 1 rfl) ?_
  refine lv_aload_n hx hb dL_law_786 rfl (lv_at hl 0 rfl) ?_
  refine lv_iload_n hx hb dL_law_787 rfl (lv_at hl 3 rfl) ?_
  refine lv_iconst (v := 1) hx hb dL_law_788 (by decide) ?_
  refine lv_iadd hx hb dL_law_789 ?_
  refine va_sld hx hb hX hbl hbA hw.2.1 (x_in1 hi hL) dL_law_790 ?_
  refine r_callV6i hc hw hl.1 (As := [.int (xs (nI i + 1).toNatClampNeg)]) (rest := []) k0 (c_X6_count l X h1) ms_X6_count rfl q3_106 rfl rfl ⟨rfl, rfl, Nat.le_of_ble_eq_true rfl, Nat.le_of_ble_eq_true rfl⟩ (Nat.le_of_ble_eq_true rfl) ⟨Nat.le_of_ble_eq_true rfl, Nat.le_of_ble_eq_true rfl⟩ dL_law_791 (fun H locs hw => ?_)
  refine lv_aload_n hx hb dL_law_794 rfl (lv_at hl 2 rfl) ?_
  refine lv_aload_n hx hb dL_law_795 rfl (lv_at hl 0 rfl) ?_
  refine lv_iload_n hx hb dL_law_796 rfl (lv_at hl 3 rfl) ?_
  refine lv_iconst (v := 1) hx hb dL_law_797 (by decide) ?_
  refine lv_iadd hx hb dL_law_798 ?_
  refine va_sld hx hb hX hbl hbA hw.2.1 (x_in1 hi hL) dL_law_799 ?_
  refine r_callV7i hc hw hl.1 (As := [.int (xs (nI i + 1).toNatClampNeg)]) (rest := [.int r]) k163 (c_X7_count l X h2) ms_X7_count rfl q4_192 rfl rfl ⟨rfl, rfl, Nat.le_of_ble_eq_true rfl, Nat.le_of_ble_eq_true rfl⟩ (Nat.le_of_ble_eq_true rfl) ⟨Nat.le_of_ble_eq_true rfl, Nat.le_of_ble_eq_true rfl⟩ dL_law_800 (fun H locs hw => ?_)
  refine lv_icmp_eq (tgt := 822) hx hb dL_law_803 (by decide) (fun _ => kk S2 H locs hI2 hw) (fun c1 => absurd rfl c1)
def sim_trace (Inv : Mm → Prop) : Prop := ∀ S, Inv S → ∃ (r : Int64) (S1 S2 : Mm), f_X6_trace S = some (r, S1) ∧ f_X7_trace S1 = some (r, S2) ∧ Inv S2
set_option maxRecDepth 20000 in
theorem law_trace {p : Program} {l : Launch} {e : Env} {s : State} {m : MethodId} {below : List Frame} {meth : Method} {c : Code} {b L : Nat} {xs : Nat → Int32} {X : Wx} {Inv : Mm → Prop} (hc : Cx p s m #[Value.ref b] meth c X cL_law 4 RL) (hX : va_X b L xs s s.heap) (hbl : b < s.heap.size) (hbA : ¬ AA X.1 b) (hL : L ≤ 256) (hsim : sim_trace Inv) {i : Nat} (hi : i + 4 ≤ L) {S : Mm} (hI : Inv S) {H : Heap} {locs : List Loc} {ls : Array Slot} (hw : Wd X s.heap S H locs) (hl : lv_has ls 4 [(0, .ref b), (1, .ref (X.1 + 0)), (2, .ref (X.1 + 163)), (3, .int (nI i))])
    (kk : ∀ (S2 : Mm) (H : Heap) (locs : List Loc), Inv S2 → Wd X s.heap S2 H locs → W p l e room_1 s m #[Value.ref b] below meth c H locs 180 2007 (lw_Z below #[Value.ref b] s) (F0 m 822 ls [])) : W p l e room_1 s m #[Value.ref b] below meth c H locs 180 2007 (lw_Z below #[Value.ref b] s) (F0 m 808 ls []) := by
  have hx := hc.1
  have hb := hc.2.1
  obtain ⟨r, S1, S2, h1, h2, hI2⟩ := hsim S hI 
  refine lv_aload_n hx hb dL_law_808 rfl (lv_at hl 1 rfl) ?_
  refine r_callV6l hc hw hl.1 (As := []) (rest := []) k0 (c_X6_trace l X h1) ms_X6_trace rfl q3_110 rfl rfl ⟨rfl, rfl, Nat.le_of_ble_eq_true rfl, Nat.le_of_ble_eq_true rfl⟩ (Nat.le_of_ble_eq_true rfl) ⟨Nat.le_of_ble_eq_true rfl, Nat.le_of_ble_eq_true rfl⟩ dL_law_809 (fun H locs hw => ?_)
  refine lv_aload_n hx hb dL_law_812 rfl (lv_at hl 2 rfl) ?_
  refine r_callV7l hc hw hl.1 (As := []) (rest := [.long r]) k163 (c_X7_trace l X h2) ms_X7_trace rfl q4_196 rfl rfl ⟨rfl, rfl, Nat.le_of_ble_eq_true rfl, Nat.le_of_ble_eq_true rfl⟩ (Nat.le_of_ble_eq_true rfl) ⟨Nat.le_of_ble_eq_true rfl, Nat.le_of_ble_eq_true rfl⟩ dL_law_813 (fun H locs hw => ?_)
  refine W.lcmp hx hb dL_law_816 ?_
  refine lv_if_eq (tgt := 822) hx hb dL_law_817 (by decide) (fun _ => kk S2 H locs hI2 hw) (fun c1 => absurd ((lg_cmp_eq _ _).mpr rfl) c1)
def Sims (Inv : Mm → Prop) : Prop := sim_type Inv ∧ sim_clear Inv ∧ sim_shop Inv ∧ sim_step Inv ∧ sim_line Inv ∧ sim_makes Inv ∧ sim_looks Inv ∧ sim_skill Inv ∧ sim_moves Inv ∧ sim_undo Inv ∧ sim_now Inv ∧ sim_mean Inv ∧ sim_lost Inv ∧ sim_paper Inv ∧ sim_bestLooks Inv ∧ sim_bestOrder Inv ∧ sim_few Inv ∧ sim_blame Inv ∧ sim_first Inv ∧ sim_tells Inv ∧ sim_forget Inv ∧ sim_who Inv ∧ sim_mark Inv ∧ sim_keep Inv ∧ sim_back Inv ∧ sim_count Inv ∧ sim_trace Inv
theorem x_loop {i L : Nat} (hi : i ≤ 512) (hL : L ≤ 256) (h : ¬ Int32.ofNat L - 4 < nI i) : i + 4 ≤ L := by
  have h1 : nI i ≤ nI L - nI 4 := by
    have := Int32.not_lt.mp h
    exact this
  have h2 := Int32.le_iff_toInt_le.mp h1
  rw [nI_toInt (by omega), pk_sub_toInt (by omega) (by omega)] at h2
  omega
set_option maxRecDepth 20000 in
theorem law_loop {p : Program} {l : Launch} {e : Env} {s : State} {m : MethodId} {below : List Frame} {meth : Method} {c : Code} {b L : Nat} {xs : Nat → Int32} {X : Wx} {Inv : Mm → Prop} (hsim : Sims Inv) (hL : L ≤ 256) (hr : meth.sig.returnType = ret) (hlocks : meth.locks = false) (hc : Cx p s m #[Value.ref b] meth c X cL_law 4 RL) (hX : va_X b L xs s s.heap) (hbl : b < s.heap.size) (hXb : X.1 = s.heap.size) : ∀ (n i : Nat), i ≤ 512 → L + 4 ≤ i + n → ∀ (S : Mm) (H : Heap) (locs : List Loc) (ls : Array Slot), Inv S → Wd X s.heap S H locs → lv_has ls 4 [(0, .ref b), (1, .ref (X.1 + 0)), (2, .ref (X.1 + 163)), (3, .int (nI i))] → W p l e room_1 s m #[Value.ref b] below meth c H locs 180 2007 (lw_Z below #[Value.ref b] s) (F0 m 18 ls []) := by
  have hx := hc.1
  have hb := hc.2.1
  have hbA : ¬ AA X.1 b := by unfold AA; omega
  obtain ⟨s0, s1, s2, s3, s4, s5, s6, s7, s8, s9, s10, s11, s12, s13, s14, s15, s16, s17, s18, s19, s20, s21, s22, s23, s24, s25, s26⟩ := hsim
  intro n
  induction n with
  | zero =>
    intro i h0 h1 S H locs ls hI hw hl
    refine lv_iload_n hx hb dL_law_18 rfl (lv_at hl 3 rfl) ?_
    refine lv_aload_n hx hb dL_law_19 rfl (lv_at hl 0 rfl) ?_
    refine va_slen hx hb hX hbl hbA hw.2.1 dL_law_20 ?_
    refine lv_iconst (v := 4) hx hb dL_law_21 (by decide) ?_
    refine lv_isub hx hb dL_law_22 ?_
    refine lv_icmp_gt (tgt := 828) hx hb dL_law_23 (by decide) (fun c1 => ?_) (fun c1 => ?_)
    · refine lv_iconst (v := 1) hx hb dL_law_828 (by decide) ?_
      refine va_forget (fun q hq => by have := hw.2.1.2.2 q hq; unfold AA at this; omega) ?_
      refine W.widen (k := 600000) (n := 7302250) (by decide) (by decide) ?_
      exact lw_ret hx hb hr hlocks dL_law_829
    · exact absurd (x_loop h0 hL c1) (by omega)
  | succ n ih =>
    intro i h0 h1 S H locs ls hI hw hl
    refine lv_iload_n hx hb dL_law_18 rfl (lv_at hl 3 rfl) ?_
    refine lv_aload_n hx hb dL_law_19 rfl (lv_at hl 0 rfl) ?_
    refine va_slen hx hb hX hbl hbA hw.2.1 dL_law_20 ?_
    refine lv_iconst (v := 4) hx hb dL_law_21 (by decide) ?_
    refine lv_isub hx hb dL_law_22 ?_
    refine lv_icmp_gt (tgt := 828) hx hb dL_law_23 (by decide) (fun c1 => ?_) (fun c1 => ?_)
    · refine lv_iconst (v := 1) hx hb dL_law_828 (by decide) ?_
      refine va_forget (fun q hq => by have := hw.2.1.2.2 q hq; unfold AA at this; omega) ?_
      refine W.widen (k := 600000) (n := 7302250) (by decide) (by decide) ?_
      exact lw_ret hx hb hr hlocks dL_law_829
    · have hi := x_loop h0 hL c1
      have kk : ∀ (S2 : Mm) (H : Heap) (locs : List Loc), Inv S2 → Wd X s.heap S2 H locs → W p l e room_1 s m #[Value.ref b] below meth c H locs 180 2007 (lw_Z below #[Value.ref b] s) (F0 m 822 ls []) := by
        intro S2 H locs hI hw
        refine lv_iinc (v := nI (i + 4)) (lv' := [(3, .int (nI (i + 4))), (0, .ref b), (1, .ref (X.1 + 0)), (2, .ref (X.1 + 163))]) hx hb dL_law_822 hl (k := 3) rfl (nI_add i 4) (by decide) rfl (fun ls hl => ?_)
        refine lv_goto (tgt := 18) hx hb dL_law_825 (by decide) ?_
        exact ih (i + 4) (by omega) (by omega) S2 H locs ls hI hw (lv_sub hl [1, 2, 3, 0] rfl)
      refine lv_aload_n hx hb dL_law_26 rfl (lv_at hl 0 rfl) ?_
      refine lv_iload_n hx hb dL_law_27 rfl (lv_at hl 3 rfl) ?_
      refine va_sld hx hb hX hbl hbA hw.2.1 (x_in hi hL) dL_law_28 ?_
      refine lv_bipush (v := 31) hx hb dL_law_29 (by decide) ?_
      refine lv_iand hx hb dL_law_31 ?_
      refine lv_topi (fun w ew => ?_)
      by_cases c10 : w = 0
      · exact lv_tableIn (off := 124) (tgt := 156) hx hb dL_law_32 (by rw [c10]; decide) (by rw [c10]; decide) (by rw [c10]; rfl) (by decide) (law_type hc hX hbl hbA hL s0 hi hI hw hl kk)
      by_cases c11 : w = 1
      · exact lv_tableIn (off := 147) (tgt := 179) hx hb dL_law_32 (by rw [c11]; decide) (by rw [c11]; decide) (by rw [c11]; rfl) (by decide) (law_clear hc hX hbl hbA hL s1 hi hI hw hl kk)
      by_cases c12 : w = 2
      · exact lv_tableIn (off := 160) (tgt := 192) hx hb dL_law_32 (by rw [c12]; decide) (by rw [c12]; decide) (by rw [c12]; rfl) (by decide) (law_shop hc hX hbl hbA hL s2 hi hI hw hl kk)
      by_cases c13 : w = 3
      · exact lv_tableIn (off := 173) (tgt := 205) hx hb dL_law_32 (by rw [c13]; decide) (by rw [c13]; decide) (by rw [c13]; rfl) (by decide) (law_step hc hX hbl hbA hL s3 hi hI hw hl kk)
      by_cases c14 : w = 4
      · exact lv_tableIn (off := 206) (tgt := 238) hx hb dL_law_32 (by rw [c14]; decide) (by rw [c14]; decide) (by rw [c14]; rfl) (by decide) (law_line hc hX hbl hbA hL s4 hi hI hw hl kk)
      by_cases c15 : w = 5
      · exact lv_tableIn (off := 229) (tgt := 261) hx hb dL_law_32 (by rw [c15]; decide) (by rw [c15]; decide) (by rw [c15]; rfl) (by decide) (law_makes hc hX hbl hbA hL s5 hi hI hw hl kk)
      by_cases c16 : w = 6
      · exact lv_tableIn (off := 252) (tgt := 284) hx hb dL_law_32 (by rw [c16]; decide) (by rw [c16]; decide) (by rw [c16]; rfl) (by decide) (law_looks hc hX hbl hbA hL s6 hi hI hw hl kk)
      by_cases c17 : w = 7
      · exact lv_tableIn (off := 285) (tgt := 317) hx hb dL_law_32 (by rw [c17]; decide) (by rw [c17]; decide) (by rw [c17]; rfl) (by decide) (law_skill hc hX hbl hbA hL s7 hi hI hw hl kk)
      by_cases c18 : w = 8
      · exact lv_tableIn (off := 318) (tgt := 350) hx hb dL_law_32 (by rw [c18]; decide) (by rw [c18]; decide) (by rw [c18]; rfl) (by decide) (law_moves hc hX hbl hbA hL s8 hi hI hw hl kk)
      by_cases c19 : w = 9
      · exact lv_tableIn (off := 341) (tgt := 373) hx hb dL_law_32 (by rw [c19]; decide) (by rw [c19]; decide) (by rw [c19]; rfl) (by decide) (law_undo hc hX hbl hbA hL s9 hi hI hw hl kk)
      by_cases c20 : w = 10
      · exact lv_tableIn (off := 354) (tgt := 386) hx hb dL_law_32 (by rw [c20]; decide) (by rw [c20]; decide) (by rw [c20]; rfl) (by decide) (law_now hc hX hbl hbA hL s10 hi hI hw hl kk)
      by_cases c21 : w = 11
      · exact lv_tableIn (off := 377) (tgt := 409) hx hb dL_law_32 (by rw [c21]; decide) (by rw [c21]; decide) (by rw [c21]; rfl) (by decide) (law_mean hc hX hbl hbA hL s11 hi hI hw hl kk)
      by_cases c22 : w = 12
      · exact lv_tableIn (off := 411) (tgt := 443) hx hb dL_law_32 (by rw [c22]; decide) (by rw [c22]; decide) (by rw [c22]; rfl) (by decide) (law_lost hc hX hbl hbA hL s12 hi hI hw hl kk)
      by_cases c23 : w = 13
      · exact lv_tableIn (off := 445) (tgt := 477) hx hb dL_law_32 (by rw [c23]; decide) (by rw [c23]; decide) (by rw [c23]; rfl) (by decide) (law_paper hc hX hbl hbA hL s13 hi hI hw hl kk)
      by_cases c24 : w = 14
      · exact lv_tableIn (off := 479) (tgt := 511) hx hb dL_law_32 (by rw [c24]; decide) (by rw [c24]; decide) (by rw [c24]; rfl) (by decide) (law_bestLooks hc hX hbl hbA hL s14 hi hI hw hl kk)
      by_cases c25 : w = 15
      · exact lv_tableIn (off := 492) (tgt := 524) hx hb dL_law_32 (by rw [c25]; decide) (by rw [c25]; decide) (by rw [c25]; rfl) (by decide) (law_bestOrder hc hX hbl hbA hL s15 hi hI hw hl kk)
      by_cases c26 : w = 16
      · exact lv_tableIn (off := 515) (tgt := 547) hx hb dL_law_32 (by rw [c26]; decide) (by rw [c26]; decide) (by rw [c26]; rfl) (by decide) (law_few hc hX hbl hbA hL s16 hi hI hw hl kk)
      by_cases c27 : w = 17
      · exact lv_tableIn (off := 538) (tgt := 570) hx hb dL_law_32 (by rw [c27]; decide) (by rw [c27]; decide) (by rw [c27]; rfl) (by decide) (law_blame hc hX hbl hbA hL s17 hi hI hw hl kk)
      by_cases c28 : w = 18
      · exact lv_tableIn (off := 582) (tgt := 614) hx hb dL_law_32 (by rw [c28]; decide) (by rw [c28]; decide) (by rw [c28]; rfl) (by decide) (law_first hc hX hbl hbA hL s18 hi hI hw hl kk)
      by_cases c29 : w = 19
      · exact lv_tableIn (off := 605) (tgt := 637) hx hb dL_law_32 (by rw [c29]; decide) (by rw [c29]; decide) (by rw [c29]; rfl) (by decide) (law_tells hc hX hbl hbA hL s19 hi hI hw hl kk)
      by_cases c30 : w = 20
      · exact lv_tableIn (off := 638) (tgt := 670) hx hb dL_law_32 (by rw [c30]; decide) (by rw [c30]; decide) (by rw [c30]; rfl) (by decide) (law_forget hc hX hbl hbA hL s20 hi hI hw hl kk)
      by_cases c31 : w = 21
      · exact lv_tableIn (off := 651) (tgt := 683) hx hb dL_law_32 (by rw [c31]; decide) (by rw [c31]; decide) (by rw [c31]; rfl) (by decide) (law_who hc hX hbl hbA hL s21 hi hI hw hl kk)
      by_cases c32 : w = 22
      · exact lv_tableIn (off := 674) (tgt := 706) hx hb dL_law_32 (by rw [c32]; decide) (by rw [c32]; decide) (by rw [c32]; rfl) (by decide) (law_mark hc hX hbl hbA hL s22 hi hI hw hl kk)
      by_cases c33 : w = 23
      · exact lv_tableIn (off := 707) (tgt := 739) hx hb dL_law_32 (by rw [c33]; decide) (by rw [c33]; decide) (by rw [c33]; rfl) (by decide) (law_keep hc hX hbl hbA hL s23 hi hI hw hl kk)
      by_cases c34 : w = 24
      · exact lv_tableIn (off := 730) (tgt := 762) hx hb dL_law_32 (by rw [c34]; decide) (by rw [c34]; decide) (by rw [c34]; rfl) (by decide) (law_back hc hX hbl hbA hL s24 hi hI hw hl kk)
      by_cases c35 : w = 25
      · exact lv_tableIn (off := 753) (tgt := 785) hx hb dL_law_32 (by rw [c35]; decide) (by rw [c35]; decide) (by rw [c35]; rfl) (by decide) (law_count hc hX hbl hbA hL s25 hi hI hw hl kk)
      by_cases c36 : w = 26
      · exact lv_tableIn (off := 776) (tgt := 808) hx hb dL_law_32 (by rw [c36]; decide) (by rw [c36]; decide) (by rw [c36]; rfl) (by decide) (law_trace hc hX hbl hbA hL s26 hi hI hw hl kk)
      exact lv_tableOut (tgt := 822) hx hb dL_law_32 (by have := lv_neT c10 (a := 0) (by decide); have := lv_neT c11 (a := 1) (by decide); have := lv_neT c12 (a := 2) (by decide); have := lv_neT c13 (a := 3) (by decide); have := lv_neT c14 (a := 4) (by decide); have := lv_neT c15 (a := 5) (by decide); have := lv_neT c16 (a := 6) (by decide); have := lv_neT c17 (a := 7) (by decide); have := lv_neT c18 (a := 8) (by decide); have := lv_neT c19 (a := 9) (by decide); have := lv_neT c20 (a := 10) (by decide); have := lv_neT c21 (a := 11) (by decide); have := lv_neT c22 (a := 12) (by decide); have := lv_neT c23 (a := 13) (by decide); have := lv_neT c24 (a := 14) (by decide); have := lv_neT c25 (a := 15) (by decide); have := lv_neT c26 (a := 16) (by decide); have := lv_neT c27 (a := 17) (by decide); have := lv_neT c28 (a := 18) (by decide); have := lv_neT c29 (a := 19) (by decide); have := lv_neT c30 (a := 20) (by decide); have := lv_neT c31 (a := 21) (by decide); have := lv_neT c32 (a := 22) (by decide); have := lv_neT c33 (a := 23) (by decide); have := lv_neT c34 (a := 24) (by decide); have := lv_neT c35 (a := 25) (by decide); have := lv_neT c36 (a := 26) (by decide); omega) (by decide) (kk S H locs hI hw)
theorem arr_ex {args : Array Value} {s : State} {ty : FieldType} (hp : ∀ C, ty ≠ .object C) (h : (Cond.arrayClass ty).before args s = true) : ∃ cA : ClassId, ArrOfT s cA ty ∧ va_RA s cA ty := by
  obtain ⟨cA, kA, comp, h1, h2, h3⟩ := Cond.arrayClass_spec h
  refine ⟨cA, fun n z => ⟨fun k h => (by cases h), kA, h2, comp, h3⟩, ?_⟩
  cases ty <;> first | exact h1 | exact absurd rfl (hp _)
theorem arr_exO {args : Array Value} {s : State} {C : String} (h : (Cond.arrayOver (.object C)).before args s = true) : ∃ cA : ClassId, ArrOfT s cA (.object C) ∧ va_RA s cA (.object C) := by
  obtain ⟨comp, cA, kA, h1, h2, h3, h4, h5⟩ := Cond.arrayOver_spec h
  exact ⟨cA, fun n z => ⟨fun k h => (by cases h), kA, h3, comp, h4⟩, kA, comp, h3, h4, h1, h5⟩
theorem Nk_of {args : Array Value} {s : State} (h : ∀ w ∈ lw_tbl, w.before args s = true) : Nk s := ⟨va_Nw.of rfl (h _ (List.mem_append_right _ (List.mem_append_left _ (List.mem_of_getElem? (i := 22) rfl)))), va_Nw.of rfl (h _ (List.mem_append_right _ (List.mem_append_left _ (List.mem_of_getElem? (i := 53) rfl)))), va_Nw.of rfl (h _ (List.mem_append_right _ (List.mem_append_left _ (List.mem_of_getElem? (i := 110) rfl)))), va_Nw.of rfl (h _ (List.mem_append_right _ (List.mem_append_left _ (List.mem_of_getElem? (i := 171) rfl)))), va_Nw.of rfl (h _ (List.mem_append_right _ (List.mem_append_left _ (List.mem_of_getElem? (i := 191) rfl)))), va_AO.of (h _ (List.mem_append_right _ (List.mem_append_left _ (List.mem_of_getElem? (i := 152) rfl)))), va_AO.of (h _ (List.mem_append_right _ (List.mem_append_left _ (List.mem_of_getElem? (i := 168) rfl))))⟩
theorem r_finI {p : Program} {l : Launch} {e : Env} {R : Room} {s : State} {m : MethodId} {args : Array Value} {below : List Frame} {meth : Method} {c : Code} {H : Heap} {locs : List Loc} {cells slots : Nat} {Q : State → Prop} {pc : Nat} {ls : Array Slot} {rest : List Value} {X : Wx} {H0 : Heap} {S1 : Mm} {a : Array Value} {st0 : List Value} {mc ms : Nat} (hr : va_Run p l e R s m args below meth c H locs cells slots mc ms (F0 m pc ls st0) rest (Qq X none S1 a) (AA X.1)) (hS : va_S (AA X.1) H0 H locs)
    (kk : ∀ (H1 : Heap) (locs1 : List Loc), Wd X H0 S1 H1 locs1 → W p l e R s m args below meth c H1 locs1 (cells + mc) (slots + ms) Q (F0 m (pc + 3) ls rest)) : W p l e R s m args below meth c H locs cells slots Q (F0 m pc ls st0) := by
  intro T hT XX
  obtain ⟨v, st₀, t, T', L, h0, X', hL, e1, e2, ⟨hv, hP, hp, hd, hz, hk⟩, st⟩ := hr T hT XX
  cases hv
  rw [h0] at hz hk
  obtain ⟨t2, a1, b1⟩ := kk T'.heap (locs ++ L) ⟨by rw [e1]; exact hP, ⟨Nat.le_trans hS.1 (by rw [e1]; exact hz), fun q h1 h2 => by rw [e1, hk q (Nat.lt_of_lt_of_le h1 hS.1) h2]; exact hS.2.1 q h1 h2, fun q hq => by
      rcases List.mem_append.mp hq with h | h
      · exact hS.2.2 q h
      · exact hL q h⟩, hp, hd⟩ T' rfl X'
  exact ⟨t2, st t2 a1, b1⟩
set_option maxRecDepth 20000 in
theorem whole_open {p : Program} {e : Env} {s : State} {m : MethodId} {below : List Frame} {meth : Method} {c : Code} (l : Launch) {b L : Nat} {xs : Nat → Int32} (hL : L ≤ 256) (C0 : lw_At p s m meth c b L xs) {Inv : Mm → Prop} (hsim : Sims Inv) {S1 S2 : Mm} {r1 r2 : Unit} (h1 : f_X7_plain S00 = some (r1, S1)) (h2 : f_X7_takeDraft S1 = some (r2, S2)) (hI : Inv S2) : W p l e room_1 s m #[Value.ref b] below meth c s.heap [] 0 0 (lw_Z below #[Value.ref b] s) (entryFrame m ([Value.ref b] : List Value).toArray 4) := by
  obtain ⟨hx, hb, hr, hml, hown, hts0, hX, hbl, hlocks, hgv⟩ := C0
  have hts : ∀ w ∈ TB, w.before #[Value.ref b] s = true := fun w h => hts0 w (tb_in h)
  have hN : Nk s := Nk_of hts0
  obtain ⟨c0, iS0, hKn0⟩ := u_known (C := RX0) (T := TX0) (N := 5) (n := 5) hts inX0 (hts (.instantiable RX0 5) q1_190)
  obtain ⟨c1, iS1, hKn1⟩ := u_known (C := RX1) (T := TX1) (N := 8) (n := 8) hts inX1 (hts (.instantiable RX1 8) q1_109)
  obtain ⟨c2, iS2, hKn2⟩ := u_known (C := RX2) (T := TX2) (N := 3) (n := 3) hts inX2 (hts (.instantiable RX2 3) q1_170)
  obtain ⟨c3, iS3, hKn3⟩ := u_known (C := RX3) (T := TX3) (N := 4) (n := 4) hts inX3 (hts (.instantiable RX3 4) q1_103)
  obtain ⟨c4, iS4, hKn4⟩ := u_known (C := RX4) (T := TX4) (N := 7) (n := 7) hts inX4 (hts (.instantiable RX4 7) q1_52)
  obtain ⟨c5, iS5, hKn5⟩ := u_known (C := RX5) (T := TX5) (N := 7) (n := 7) hts inX5 (hts (.instantiable RX5 7) q1_21)
  obtain ⟨c6, iS6, hKn6⟩ := u_known (C := RX6) (T := TX6) (N := 14) (n := 14) hts inX6 (hts (.instantiable RX6 14) q1_13)
  obtain ⟨c7, iS7, hKn7⟩ := u_known (C := RX7) (T := TX7) (N := 31) (n := 31) hts inX7 (hts (.instantiable RX7 31) q3_115)
  obtain ⟨y8, hy8⟩ := arr_ex (ty := .byte) (fun C h => by cases h) (hts _ q3_222)
  obtain ⟨y9, hy9⟩ := arr_ex (ty := .int) (fun C h => by cases h) (hts _ q1_50)
  obtain ⟨y10, hy10⟩ := arr_ex (ty := .long) (fun C h => by cases h) (hts _ q1_216)
  obtain ⟨y11, hy11⟩ := arr_ex (ty := .boolean) (fun C h => by cases h) (hts _ q1_188)
  obtain ⟨y12, hy12⟩ := arr_exO (C := "NeedleHands$Moment") (hts0 _ (List.mem_append_right _ (List.mem_append_left _ (List.mem_of_getElem? (i := 152) rfl))))
  obtain ⟨y13, hy13⟩ := arr_exO (C := "NeedleHands$Past") (hts0 _ (List.mem_append_right _ (List.mem_append_left _ (List.mem_of_getElem? (i := 168) rfl))))
  obtain ⟨dC, dI, hKc⟩ : ∃ (dC : Nat → ClassId) (dI : Nat → Nat → Nat), ∀ (k : Nat) (q : vw_C), vwCl[k]? = some q → u_Kn s q.1 q.2.1 q.2.2 (dC k) (dI k) := by
    refine ⟨fun k => if k = 0 then c0 else if k = 1 then c1 else if k = 2 then c2 else if k = 3 then c3 else if k = 4 then c4 else if k = 5 then c5 else if k = 6 then c6 else c7, fun k => if k = 0 then iS0 else if k = 1 then iS1 else if k = 2 then iS2 else if k = 3 then iS3 else if k = 4 then iS4 else if k = 5 then iS5 else if k = 6 then iS6 else iS7, ?_⟩
    intro k q hq
    match k, hq with
    | 0, hq => cases hq; exact hKn0
    | 1, hq => cases hq; exact hKn1
    | 2, hq => cases hq; exact hKn2
    | 3, hq => cases hq; exact hKn3
    | 4, hq => cases hq; exact hKn4
    | 5, hq => cases hq; exact hKn5
    | 6, hq => cases hq; exact hKn6
    | 7, hq => cases hq; exact hKn7
    | k + 8, hq => simp [vwCl] at hq
  obtain ⟨X, hXb, hK⟩ : ∃ X : Wx, X.1 = s.heap.size ∧ va_K X.2.1 vwCl (tyl X) s := by
    refine ⟨(s.heap.size, (dC, dI), fun k => if k = 8 then y8 else if k = 9 then y9 else if k = 10 then y10 else if k = 11 then y11 else if k = 12 then y12 else y13), rfl, hKc, ?_⟩
    intro k q hq
    match k, hq with
    | 0, hq => cases hq; exact hy8
    | 1, hq => cases hq; exact hy9
    | 2, hq => cases hq; exact hy10
    | 3, hq => cases hq; exact hy11
    | 4, hq => cases hq; exact hy12
    | 5, hq => cases hq; exact hy13
    | k + 6, hq => simp [tyl] at hq
  have hc : Cx p s m #[Value.ref b] meth c X cL_law 4 RL := ⟨hx, hb, hml, hown, hts, hK, hlocks⟩
  have hl := lv_entry ([.ref b]) (n := 4) (Nat.le_of_ble_eq_true rfl)
  rw [lg_entry_eq]
  generalize (lg_sl ([.ref b]) ++ List.replicate (4 - (lg_sl ([.ref b])).length) Slot.unset).toArray = ls at hl ⊢
  have hl : lv_has ls 4 [(0, .ref b)] := hl
  have hw : Wi X s.heap 0 (FF X S00) s.heap [] := ⟨hXb.symm, fun k q hq => by simp [wlg] at hq, va_S.rf⟩
  refine i_new hc hw (ci := 6) (fs := [.null, .null, .null, .null, .null, .null, .null, .null, .int 0, .null, .null, .null, .null, .long 0]) rfl inX6 tyX6 tyX6_ok q1_12 q1_13 q1_1 (fun j hj => by rcases (show j = 0 ∨ j = 1 ∨ j = 2 ∨ j = 3 ∨ j = 4 ∨ j = 5 ∨ j = 6 ∨ j = 7 ∨ j = 8 ∨ j = 9 ∨ j = 10 ∨ j = 11 ∨ j = 12 ∨ j = 13 by omega) with rfl | rfl | rfl | rfl | rfl | rfl | rfl | rfl | rfl | rfl | rfl | rfl | rfl | rfl <;> rfl) (Nat.le_of_ble_eq_true rfl) (Nat.le_of_ble_eq_true rfl) dL_law_0 (fun H hw => ?_)
  refine lv_dup hx hb dL_law_3 rfl ?_
  refine i_call hc hN hw hl.1 (ci_X6 l X (FF X S00)) msi_X6 q1_14 ⟨rfl, rfl, Nat.le_of_ble_eq_true rfl, Nat.le_of_ble_eq_true rfl⟩ (Nat.le_of_ble_eq_true rfl) ⟨Nat.le_of_ble_eq_true rfl, Nat.le_of_ble_eq_true rfl⟩ dL_law_4 (fun H locs hw => ?_)
  refine lv_astore_n (lv' := [(1, .ref (X.1 + 0)), (0, .ref b)]) hx hb dL_law_7 rfl hl (by decide) rfl (fun ls hl => ?_)
  have hw : Wi X s.heap 163 (fin X (FF X S00) 0) H locs := hw
  refine i_new hc hw (ci := 7) (fs := [.long 0, .null, .int 0, .null, .null, .null, .null, .null, .null, .null, .int 0, .int 0, .int 0, .int 0, .int 0, .int 0, .null, .null, .int 0, .int 0, .null, .long 0, .long 0, .long 0, .long 0, .null, .null, .null, .null, .null, .int 0]) rfl inX7 tyX7 tyX7_ok q3_114 q3_115 q1_8 (fun j hj => by rcases (show j = 0 ∨ j = 1 ∨ j = 2 ∨ j = 3 ∨ j = 4 ∨ j = 5 ∨ j = 6 ∨ j = 7 ∨ j = 8 ∨ j = 9 ∨ j = 10 ∨ j = 11 ∨ j = 12 ∨ j = 13 ∨ j = 14 ∨ j = 15 ∨ j = 16 ∨ j = 17 ∨ j = 18 ∨ j = 19 ∨ j = 20 ∨ j = 21 ∨ j = 22 ∨ j = 23 ∨ j = 24 ∨ j = 25 ∨ j = 26 ∨ j = 27 ∨ j = 28 ∨ j = 29 ∨ j = 30 by omega) with rfl | rfl | rfl | rfl | rfl | rfl | rfl | rfl | rfl | rfl | rfl | rfl | rfl | rfl | rfl | rfl | rfl | rfl | rfl | rfl | rfl | rfl | rfl | rfl | rfl | rfl | rfl | rfl | rfl | rfl | rfl <;> rfl) (Nat.le_of_ble_eq_true rfl) (Nat.le_of_ble_eq_true rfl) dL_law_8 (fun H hw => ?_)
  refine lv_dup hx hb dL_law_11 rfl ?_
  have hM := ci_X7 l X (fin X (FF X S00) 0) (fun j _ => fin_ge (Nat.zero_le _)) h1 h2
  obtain ⟨⟨s1, s2, s3, s4, s5⟩, s6, s7⟩ := msi_X7
  refine r_finI (va_runI (As := []) ⟨hx, hb, hml, hown, hts⟩ hM ⟨callB_of 0 hts (good_ws s1) rfl rfl rfl (hts _ s2) (hts _ q3_116) ⟨s3, s4, s5⟩ ⟨Nat.le_of_ble_eq_true rfl, Nat.le_of_ble_eq_true rfl⟩, s7, hts _ s6⟩ ⟨PpI_blind, PpI_pre hc hN hw⟩ rfl rfl hl.1 rfl (lv_room (Nat.le_of_ble_eq_true rfl)) dL_law_12 ⟨Nat.le_of_ble_eq_true rfl, Nat.le_of_ble_eq_true rfl⟩) hw.2.2 (fun H locs hw => ?_)
  refine lv_astore_n (lv' := [(2, .ref (X.1 + 163)), (1, .ref (X.1 + 0)), (0, .ref b)]) hx hb dL_law_15 rfl hl (by decide) rfl (fun ls hl => ?_)
  refine lv_iconst (v := 0) hx hb dL_law_16 (by decide) ?_
  refine lv_istore_n (lv' := [(3, .int 0), (2, .ref (X.1 + 163)), (1, .ref (X.1 + 0)), (0, .ref b)]) hx hb dL_law_17 rfl hl (by decide) rfl (fun ls hl => ?_)
  refine W.widen (k := 180) (n := 2007) (Nat.le_of_ble_eq_true rfl) (Nat.le_of_ble_eq_true rfl) ?_
  exact law_loop hsim hL hr hlocks hc hX hbl hXb (L + 4) 0 (by omega) (by omega) S2 H locs ls hI hw (lv_sub hl [3, 2, 1, 0] rfl)
