theorem k0 : KK 0 = 6 := by decide +kernel
theorem k1 : KK 1 = 5 := by decide +kernel
theorem k2 : KK 2 = 9 := by decide +kernel
theorem l2 : LL 2 = 150 := by decide +kernel
theorem k15 : KK 15 = 3 := by decide +kernel
theorem k16 : KK 16 = 1 := by decide +kernel
theorem k17 : KK 17 = 9 := by decide +kernel
theorem l17 : LL 17 = 5 := by decide +kernel
theorem k18 : KK 18 = 9 := by decide +kernel
theorem l18 : LL 18 = 5 := by decide +kernel
theorem k19 : KK 19 = 9 := by decide +kernel
theorem l19 : LL 19 = 5 := by decide +kernel
theorem k61 : KK 61 = 13 := by decide +kernel
theorem l61 : LL 61 = 2 := by decide +kernel
theorem k154 : KK 154 = 11 := by decide +kernel
theorem l154 : LL 154 = 2 := by decide +kernel
theorem k155 : KK 155 = 9 := by decide +kernel
theorem l155 : LL 155 = 6 := by decide +kernel
theorem k156 : KK 156 = 9 := by decide +kernel
theorem l156 : LL 156 = 6 := by decide +kernel
theorem k157 : KK 157 = 2 := by decide +kernel
theorem k158 : KK 158 = 0 := by decide +kernel
theorem k159 : KK 159 = 10 := by decide +kernel
theorem l159 : LL 159 = 5 := by decide +kernel
theorem k160 : KK 160 = 10 := by decide +kernel
theorem l160 : LL 160 = 5 := by decide +kernel
theorem k161 : KK 161 = 9 := by decide +kernel
theorem l161 : LL 161 = 5 := by decide +kernel
theorem k162 : KK 162 = 9 := by decide +kernel
theorem l162 : LL 162 = 5 := by decide +kernel
theorem k163 : KK 163 = 7 := by decide +kernel
theorem k164 : KK 164 = 8 := by decide +kernel
theorem l164 : LL 164 = 150 := by decide +kernel
theorem k165 : KK 165 = 9 := by decide +kernel
theorem l165 : LL 165 = 2 := by decide +kernel
theorem k166 : KK 166 = 9 := by decide +kernel
theorem l166 : LL 166 = 10 := by decide +kernel
theorem k167 : KK 167 = 9 := by decide +kernel
theorem l167 : LL 167 = 5 := by decide +kernel
theorem k168 : KK 168 = 9 := by decide +kernel
theorem l168 : LL 168 = 10 := by decide +kernel
theorem k169 : KK 169 = 9 := by decide +kernel
theorem l169 : LL 169 = 10 := by decide +kernel
theorem k170 : KK 170 = 9 := by decide +kernel
theorem l170 : LL 170 = 10 := by decide +kernel
theorem k171 : KK 171 = 9 := by decide +kernel
theorem l171 : LL 171 = 2 := by decide +kernel
theorem k172 : KK 172 = 9 := by decide +kernel
theorem l172 : LL 172 = 663 := by decide +kernel
theorem k173 : KK 173 = 11 := by decide +kernel
theorem l173 : LL 173 = 2 := by decide +kernel
theorem k174 : KK 174 = 9 := by decide +kernel
theorem l174 : LL 174 = 5 := by decide +kernel
theorem k175 : KK 175 = 10 := by decide +kernel
theorem l175 : LL 175 = 5 := by decide +kernel
theorem k176 : KK 176 = 10 := by decide +kernel
theorem l176 : LL 176 = 5 := by decide +kernel
theorem k177 : KK 177 = 9 := by decide +kernel
theorem l177 : LL 177 = 5 := by decide +kernel
theorem k178 : KK 178 = 9 := by decide +kernel
theorem l178 : LL 178 = 6 := by decide +kernel
theorem k179 : KK 179 = 9 := by decide +kernel
theorem l179 : LL 179 = 6 := by decide +kernel
theorem sm_inj {α : Type} {a b : α} {S T : Mm} (h : some (a, S) = some (b, T)) : b = a ∧ T = S := ⟨(congrArg Prod.fst (Option.some.inj h)).symm, (congrArg Prod.snd (Option.some.inj h)).symm⟩
theorem inL {i : Int32} {n a : Nat} (h : inB i n = true) (e : LL a = n) : inB i (LL a) = true := by rw [e]; exact h
theorem kf_1_line {k : Nat} (h : KK k = 1) : KK (k + 1) = 9 := by simpa using KK_all (P := fun k c => decide (c = 1 → KK (k + 1) = 9)) (by decide +kernel) h (by decide)
theorem lf_1_line {k : Nat} (h : KK k = 1) : LL (k + 1) = 5 := by simpa using KK_all (P := fun k c => decide (c = 1 → LL (k + 1) = 5)) (by decide +kernel) h (by decide)
theorem kf_1_fault {k : Nat} (h : KK k = 1) : KK (k + 2) = 9 := by simpa using KK_all (P := fun k c => decide (c = 1 → KK (k + 2) = 9)) (by decide +kernel) h (by decide)
theorem lf_1_fault {k : Nat} (h : KK k = 1) : LL (k + 2) = 5 := by simpa using KK_all (P := fun k c => decide (c = 1 → LL (k + 2) = 5)) (by decide +kernel) h (by decide)
theorem kf_1_thrown {k : Nat} (h : KK k = 1) : KK (k + 3) = 9 := by simpa using KK_all (P := fun k c => decide (c = 1 → KK (k + 3) = 9)) (by decide +kernel) h (by decide)
theorem lf_1_thrown {k : Nat} (h : KK k = 1) : LL (k + 3) = 5 := by simpa using KK_all (P := fun k c => decide (c = 1 → LL (k + 3) = 5)) (by decide +kernel) h (by decide)
theorem kf_3_present {k : Nat} (h : KK k = 3) : KK (k + 1) = 1 := by simpa using KK_all (P := fun k c => decide (c = 3 → KK (k + 1) = 1)) (by decide +kernel) h (by decide)
theorem kf_3_earlier {k : Nat} (h : KK k = 3) : KK (k + 5) = 12 := by simpa using KK_all (P := fun k c => decide (c = 3 → KK (k + 5) = 12)) (by decide +kernel) h (by decide)
theorem lf_3_earlier {k : Nat} (h : KK k = 3) : LL (k + 5) = 10 := by simpa using KK_all (P := fun k c => decide (c = 3 → LL (k + 5) = 10)) (by decide +kernel) h (by decide)
theorem kf_4_seconds {k : Nat} (h : KK k = 4) : KK (k + 1) = 9 := by simpa using KK_all (P := fun k c => decide (c = 4 → KK (k + 1) = 9)) (by decide +kernel) h (by decide)
theorem lf_4_seconds {k : Nat} (h : KK k = 4) : LL (k + 1) = 5 := by simpa using KK_all (P := fun k c => decide (c = 4 → LL (k + 1) = 5)) (by decide +kernel) h (by decide)
theorem kf_4_fault {k : Nat} (h : KK k = 4) : KK (k + 2) = 9 := by simpa using KK_all (P := fun k c => decide (c = 4 → KK (k + 2) = 9)) (by decide +kernel) h (by decide)
theorem lf_4_fault {k : Nat} (h : KK k = 4) : LL (k + 2) = 5 := by simpa using KK_all (P := fun k c => decide (c = 4 → LL (k + 2) = 5)) (by decide +kernel) h (by decide)
theorem kf_4_look {k : Nat} (h : KK k = 4) : KK (k + 3) = 9 := by simpa using KK_all (P := fun k c => decide (c = 4 → KK (k + 3) = 9)) (by decide +kernel) h (by decide)
theorem lf_4_look {k : Nat} (h : KK k = 4) : LL (k + 3) = 5 := by simpa using KK_all (P := fun k c => decide (c = 4 → LL (k + 3) = 5)) (by decide +kernel) h (by decide)
theorem kf_4_miss {k : Nat} (h : KK k = 4) : KK (k + 4) = 9 := by simpa using KK_all (P := fun k c => decide (c = 4 → KK (k + 4) = 9)) (by decide +kernel) h (by decide)
theorem lf_4_miss {k : Nat} (h : KK k = 4) : LL (k + 4) = 5 := by simpa using KK_all (P := fun k c => decide (c = 4 → LL (k + 4) = 5)) (by decide +kernel) h (by decide)
theorem kf_4_ahead {k : Nat} (h : KK k = 4) : KK (k + 5) = 9 := by simpa using KK_all (P := fun k c => decide (c = 4 → KK (k + 5) = 9)) (by decide +kernel) h (by decide)
theorem lf_4_ahead {k : Nat} (h : KK k = 4) : LL (k + 5) = 5 := by simpa using KK_all (P := fun k c => decide (c = 4 → LL (k + 5) = 5)) (by decide +kernel) h (by decide)
theorem inB_lt {i : Int32} {n : Nat} (h : inB i n = true) : i.toNatClampNeg < n := Nat.not_le.mp fun q => inB_in h (Or.inr q)
theorem kel_M {k : Nat} {i : Int32} (h : KK k = 12) (hi : inB i 10 = true) : KK (k + 1 + 4 * i.toNatClampNeg) = 1 := by
  have h1 := KK_all (P := fun k c => !(c == 12) || (List.range 10).all (fun j => KK (k + 1 + 4 * j) == 1)) (by decide +kernel) h (by decide)
  have h2 : (List.range 10).all (fun j => KK (k + 1 + 4 * j) == 1) = true := by simpa using h1
  simpa using List.all_eq_true.mp h2 _ (List.mem_range.mpr (inB_lt hi))
theorem kel_P {k : Nat} {i : Int32} (h : KK k = 13) (hi : inB i 2 = true) : KK (k + 1 + 46 * i.toNatClampNeg) = 3 := by
  have h1 := KK_all (P := fun k c => !(c == 13) || (List.range 2).all (fun j => KK (k + 1 + 46 * j) == 3)) (by decide +kernel) h (by decide)
  have h2 : (List.range 2).all (fun j => KK (k + 1 + 46 * j) == 3) = true := by simpa using h1
  simpa using List.all_eq_true.mp h2 _ (List.mem_range.mpr (inB_lt hi))
section RC
variable {p : Program} {l : Launch} {e : Env} {R : Room} {s : State} {m : MethodId} {args : Array Value} {below : List Frame} {meth : Method} {c : Code} {H : Heap} {locs : List Loc} {cells slots : Nat} {Q : State → Prop}
variable {cc : ByteArray} {pc : Nat} {ls : Array Slot} {rest : List Value} {X : Wx} {H0 : Heap} {S S1 : Mm} {nL : Nat} {own : String}
theorem r_callSv (hc : Cx p s m args meth c X cc nL own) (hw : Wd X H0 S H locs) (hls : ls.size = nL) {y : MethodName} {bytes : ByteArray} {maxL n index : Nat} {ret : Option FieldType} {rm : Room} {As st0 : List Value} (hM : Ct l X y bytes maxL ret rm As S none S1) (hs : MsS y bytes maxL ret n) (q1 : Cond.methodLink own index y ∈ TB) (hn : As.length = n) (hst : st0 = As.reverse ++ rest)
    (hR : rm.cells = 0 ∧ rm.slots = 0 ∧ rm.frames + 1 ≤ R.frames ∧ 8 + (maxL + 11) + rm.locals ≤ R.locals) (hro : (rest.map fun v => v.category).sum ≤ 8) (hf : cells ≤ R.cells ∧ slots ≤ R.slots) (hdg : decode cc pc = .ok (.invokestatic index, 3))
    (kk : ∀ (H1 : Heap) (locs1 : List Loc), Wd X H0 S1 H1 locs1 → W p l e R s m args below meth c H1 locs1 cells slots Q (F0 m (pc + 3) ls rest)) : W p l e R s m args below meth c H locs cells slots Q (F0 m pc ls st0) := r_callS hc hw hls hM hs q1 hn hst hR hro hf hdg kk
theorem r_callV0v (hc : Cx p s m args meth c X cc nL own) (hw : Wd X H0 S H locs) (hls : ls.size = nL) {y : MethodName} {bytes : ByteArray} {maxL n index k : Nat} {ret : Option FieldType} {rm : Room} {As st0 : List Value} (ho : KK k = 0) (hM : Ct l X y bytes maxL ret rm (.ref (X.1 + k) :: As) S none S1) (hs : MsV y bytes maxL ret n) (hq : RX0 = y.cls) (q1 : Cond.methodLink own index y ∈ TB) (hn : As.length = n) (hst : st0 = As.reverse ++ .ref (X.1 + k) :: rest)
    (hR : rm.cells = 0 ∧ rm.slots = 0 ∧ rm.frames + 1 ≤ R.frames ∧ 8 + (maxL + 11) + rm.locals ≤ R.locals) (hro : (rest.map fun v => v.category).sum ≤ 8) (hf : cells ≤ R.cells ∧ slots ≤ R.slots) (hdg : decode cc pc = .ok (.invokevirtual index, 3))
    (kk : ∀ (H1 : Heap) (locs1 : List Loc), Wd X H0 S1 H1 locs1 → W p l e R s m args below meth c H1 locs1 cells slots Q (F0 m (pc + 3) ls rest)) : W p l e R s m args below meth c H locs cells slots Q (F0 m pc ls st0) := r_callV0 hc hw hls ho hM hs hq q1 hn hst hR hro hf hdg kk
theorem r_callV1v (hc : Cx p s m args meth c X cc nL own) (hw : Wd X H0 S H locs) (hls : ls.size = nL) {y : MethodName} {bytes : ByteArray} {maxL n index k : Nat} {ret : Option FieldType} {rm : Room} {As st0 : List Value} (ho : KK k = 1) (hM : Ct l X y bytes maxL ret rm (.ref (X.1 + k) :: As) S none S1) (hs : MsV y bytes maxL ret n) (hq : RX1 = y.cls) (q1 : Cond.methodLink own index y ∈ TB) (hn : As.length = n) (hst : st0 = As.reverse ++ .ref (X.1 + k) :: rest)
    (hR : rm.cells = 0 ∧ rm.slots = 0 ∧ rm.frames + 1 ≤ R.frames ∧ 8 + (maxL + 11) + rm.locals ≤ R.locals) (hro : (rest.map fun v => v.category).sum ≤ 8) (hf : cells ≤ R.cells ∧ slots ≤ R.slots) (hdg : decode cc pc = .ok (.invokevirtual index, 3))
    (kk : ∀ (H1 : Heap) (locs1 : List Loc), Wd X H0 S1 H1 locs1 → W p l e R s m args below meth c H1 locs1 cells slots Q (F0 m (pc + 3) ls rest)) : W p l e R s m args below meth c H locs cells slots Q (F0 m pc ls st0) := r_callV1 hc hw hls ho hM hs hq q1 hn hst hR hro hf hdg kk
theorem r_callV2v (hc : Cx p s m args meth c X cc nL own) (hw : Wd X H0 S H locs) (hls : ls.size = nL) {y : MethodName} {bytes : ByteArray} {maxL n index k : Nat} {ret : Option FieldType} {rm : Room} {As st0 : List Value} (ho : KK k = 2) (hM : Ct l X y bytes maxL ret rm (.ref (X.1 + k) :: As) S none S1) (hs : MsV y bytes maxL ret n) (hq : RX2 = y.cls) (q1 : Cond.methodLink own index y ∈ TB) (hn : As.length = n) (hst : st0 = As.reverse ++ .ref (X.1 + k) :: rest)
    (hR : rm.cells = 0 ∧ rm.slots = 0 ∧ rm.frames + 1 ≤ R.frames ∧ 8 + (maxL + 11) + rm.locals ≤ R.locals) (hro : (rest.map fun v => v.category).sum ≤ 8) (hf : cells ≤ R.cells ∧ slots ≤ R.slots) (hdg : decode cc pc = .ok (.invokevirtual index, 3))
    (kk : ∀ (H1 : Heap) (locs1 : List Loc), Wd X H0 S1 H1 locs1 → W p l e R s m args below meth c H1 locs1 cells slots Q (F0 m (pc + 3) ls rest)) : W p l e R s m args below meth c H locs cells slots Q (F0 m pc ls st0) := r_callV2 hc hw hls ho hM hs hq q1 hn hst hR hro hf hdg kk
theorem r_callV3v (hc : Cx p s m args meth c X cc nL own) (hw : Wd X H0 S H locs) (hls : ls.size = nL) {y : MethodName} {bytes : ByteArray} {maxL n index k : Nat} {ret : Option FieldType} {rm : Room} {As st0 : List Value} (ho : KK k = 3) (hM : Ct l X y bytes maxL ret rm (.ref (X.1 + k) :: As) S none S1) (hs : MsV y bytes maxL ret n) (hq : RX3 = y.cls) (q1 : Cond.methodLink own index y ∈ TB) (hn : As.length = n) (hst : st0 = As.reverse ++ .ref (X.1 + k) :: rest)
    (hR : rm.cells = 0 ∧ rm.slots = 0 ∧ rm.frames + 1 ≤ R.frames ∧ 8 + (maxL + 11) + rm.locals ≤ R.locals) (hro : (rest.map fun v => v.category).sum ≤ 8) (hf : cells ≤ R.cells ∧ slots ≤ R.slots) (hdg : decode cc pc = .ok (.invokevirtual index, 3))
    (kk : ∀ (H1 : Heap) (locs1 : List Loc), Wd X H0 S1 H1 locs1 → W p l e R s m args below meth c H1 locs1 cells slots Q (F0 m (pc + 3) ls rest)) : W p l e R s m args below meth c H locs cells slots Q (F0 m pc ls st0) := r_callV3 hc hw hls ho hM hs hq q1 hn hst hR hro hf hdg kk
theorem r_callV4v (hc : Cx p s m args meth c X cc nL own) (hw : Wd X H0 S H locs) (hls : ls.size = nL) {y : MethodName} {bytes : ByteArray} {maxL n index k : Nat} {ret : Option FieldType} {rm : Room} {As st0 : List Value} (ho : KK k = 4) (hM : Ct l X y bytes maxL ret rm (.ref (X.1 + k) :: As) S none S1) (hs : MsV y bytes maxL ret n) (hq : RX4 = y.cls) (q1 : Cond.methodLink own index y ∈ TB) (hn : As.length = n) (hst : st0 = As.reverse ++ .ref (X.1 + k) :: rest)
    (hR : rm.cells = 0 ∧ rm.slots = 0 ∧ rm.frames + 1 ≤ R.frames ∧ 8 + (maxL + 11) + rm.locals ≤ R.locals) (hro : (rest.map fun v => v.category).sum ≤ 8) (hf : cells ≤ R.cells ∧ slots ≤ R.slots) (hdg : decode cc pc = .ok (.invokevirtual index, 3))
    (kk : ∀ (H1 : Heap) (locs1 : List Loc), Wd X H0 S1 H1 locs1 → W p l e R s m args below meth c H1 locs1 cells slots Q (F0 m (pc + 3) ls rest)) : W p l e R s m args below meth c H locs cells slots Q (F0 m pc ls st0) := r_callV4 hc hw hls ho hM hs hq q1 hn hst hR hro hf hdg kk
theorem r_callV5v (hc : Cx p s m args meth c X cc nL own) (hw : Wd X H0 S H locs) (hls : ls.size = nL) {y : MethodName} {bytes : ByteArray} {maxL n index k : Nat} {ret : Option FieldType} {rm : Room} {As st0 : List Value} (ho : KK k = 5) (hM : Ct l X y bytes maxL ret rm (.ref (X.1 + k) :: As) S none S1) (hs : MsV y bytes maxL ret n) (hq : RX5 = y.cls) (q1 : Cond.methodLink own index y ∈ TB) (hn : As.length = n) (hst : st0 = As.reverse ++ .ref (X.1 + k) :: rest)
    (hR : rm.cells = 0 ∧ rm.slots = 0 ∧ rm.frames + 1 ≤ R.frames ∧ 8 + (maxL + 11) + rm.locals ≤ R.locals) (hro : (rest.map fun v => v.category).sum ≤ 8) (hf : cells ≤ R.cells ∧ slots ≤ R.slots) (hdg : decode cc pc = .ok (.invokevirtual index, 3))
    (kk : ∀ (H1 : Heap) (locs1 : List Loc), Wd X H0 S1 H1 locs1 → W p l e R s m args below meth c H1 locs1 cells slots Q (F0 m (pc + 3) ls rest)) : W p l e R s m args below meth c H locs cells slots Q (F0 m pc ls st0) := r_callV5 hc hw hls ho hM hs hq q1 hn hst hR hro hf hdg kk
theorem r_callV6v (hc : Cx p s m args meth c X cc nL own) (hw : Wd X H0 S H locs) (hls : ls.size = nL) {y : MethodName} {bytes : ByteArray} {maxL n index k : Nat} {ret : Option FieldType} {rm : Room} {As st0 : List Value} (ho : KK k = 6) (hM : Ct l X y bytes maxL ret rm (.ref (X.1 + k) :: As) S none S1) (hs : MsV y bytes maxL ret n) (hq : RX6 = y.cls) (q1 : Cond.methodLink own index y ∈ TB) (hn : As.length = n) (hst : st0 = As.reverse ++ .ref (X.1 + k) :: rest)
    (hR : rm.cells = 0 ∧ rm.slots = 0 ∧ rm.frames + 1 ≤ R.frames ∧ 8 + (maxL + 11) + rm.locals ≤ R.locals) (hro : (rest.map fun v => v.category).sum ≤ 8) (hf : cells ≤ R.cells ∧ slots ≤ R.slots) (hdg : decode cc pc = .ok (.invokevirtual index, 3))
    (kk : ∀ (H1 : Heap) (locs1 : List Loc), Wd X H0 S1 H1 locs1 → W p l e R s m args below meth c H1 locs1 cells slots Q (F0 m (pc + 3) ls rest)) : W p l e R s m args below meth c H locs cells slots Q (F0 m pc ls st0) := r_callV6 hc hw hls ho hM hs hq q1 hn hst hR hro hf hdg kk
theorem r_callV7v (hc : Cx p s m args meth c X cc nL own) (hw : Wd X H0 S H locs) (hls : ls.size = nL) {y : MethodName} {bytes : ByteArray} {maxL n index k : Nat} {ret : Option FieldType} {rm : Room} {As st0 : List Value} (ho : KK k = 7) (hM : Ct l X y bytes maxL ret rm (.ref (X.1 + k) :: As) S none S1) (hs : MsV y bytes maxL ret n) (hq : RX7 = y.cls) (q1 : Cond.methodLink own index y ∈ TB) (hn : As.length = n) (hst : st0 = As.reverse ++ .ref (X.1 + k) :: rest)
    (hR : rm.cells = 0 ∧ rm.slots = 0 ∧ rm.frames + 1 ≤ R.frames ∧ 8 + (maxL + 11) + rm.locals ≤ R.locals) (hro : (rest.map fun v => v.category).sum ≤ 8) (hf : cells ≤ R.cells ∧ slots ≤ R.slots) (hdg : decode cc pc = .ok (.invokevirtual index, 3))
    (kk : ∀ (H1 : Heap) (locs1 : List Loc), Wd X H0 S1 H1 locs1 → W p l e R s m args below meth c H1 locs1 cells slots Q (F0 m (pc + 3) ls rest)) : W p l e R s m args below meth c H locs cells slots Q (F0 m pc ls st0) := r_callV7 hc hw hls ho hM hs hq q1 hn hst hR hro hf hdg kk
theorem r_callSi {r : Int32} (hc : Cx p s m args meth c X cc nL own) (hw : Wd X H0 S H locs) (hls : ls.size = nL) {y : MethodName} {bytes : ByteArray} {maxL n index : Nat} {ret : Option FieldType} {rm : Room} {As st0 : List Value} (hM : Ct l X y bytes maxL ret rm As S (some (.int r)) S1) (hs : MsS y bytes maxL ret n) (q1 : Cond.methodLink own index y ∈ TB) (hn : As.length = n) (hst : st0 = As.reverse ++ rest)
    (hR : rm.cells = 0 ∧ rm.slots = 0 ∧ rm.frames + 1 ≤ R.frames ∧ 8 + (maxL + 11) + rm.locals ≤ R.locals) (hro : (rest.map fun v => v.category).sum ≤ 8) (hf : cells ≤ R.cells ∧ slots ≤ R.slots) (hdg : decode cc pc = .ok (.invokestatic index, 3))
    (kk : ∀ (H1 : Heap) (locs1 : List Loc), Wd X H0 S1 H1 locs1 → W p l e R s m args below meth c H1 locs1 cells slots Q (F0 m (pc + 3) ls (.int r :: rest))) : W p l e R s m args below meth c H locs cells slots Q (F0 m pc ls st0) := r_callS hc hw hls hM hs q1 hn hst hR hro hf hdg kk
theorem r_callV0i {r : Int32} (hc : Cx p s m args meth c X cc nL own) (hw : Wd X H0 S H locs) (hls : ls.size = nL) {y : MethodName} {bytes : ByteArray} {maxL n index k : Nat} {ret : Option FieldType} {rm : Room} {As st0 : List Value} (ho : KK k = 0) (hM : Ct l X y bytes maxL ret rm (.ref (X.1 + k) :: As) S (some (.int r)) S1) (hs : MsV y bytes maxL ret n) (hq : RX0 = y.cls) (q1 : Cond.methodLink own index y ∈ TB) (hn : As.length = n) (hst : st0 = As.reverse ++ .ref (X.1 + k) :: rest)
    (hR : rm.cells = 0 ∧ rm.slots = 0 ∧ rm.frames + 1 ≤ R.frames ∧ 8 + (maxL + 11) + rm.locals ≤ R.locals) (hro : (rest.map fun v => v.category).sum ≤ 8) (hf : cells ≤ R.cells ∧ slots ≤ R.slots) (hdg : decode cc pc = .ok (.invokevirtual index, 3))
    (kk : ∀ (H1 : Heap) (locs1 : List Loc), Wd X H0 S1 H1 locs1 → W p l e R s m args below meth c H1 locs1 cells slots Q (F0 m (pc + 3) ls (.int r :: rest))) : W p l e R s m args below meth c H locs cells slots Q (F0 m pc ls st0) := r_callV0 hc hw hls ho hM hs hq q1 hn hst hR hro hf hdg kk
theorem r_callV1i {r : Int32} (hc : Cx p s m args meth c X cc nL own) (hw : Wd X H0 S H locs) (hls : ls.size = nL) {y : MethodName} {bytes : ByteArray} {maxL n index k : Nat} {ret : Option FieldType} {rm : Room} {As st0 : List Value} (ho : KK k = 1) (hM : Ct l X y bytes maxL ret rm (.ref (X.1 + k) :: As) S (some (.int r)) S1) (hs : MsV y bytes maxL ret n) (hq : RX1 = y.cls) (q1 : Cond.methodLink own index y ∈ TB) (hn : As.length = n) (hst : st0 = As.reverse ++ .ref (X.1 + k) :: rest)
    (hR : rm.cells = 0 ∧ rm.slots = 0 ∧ rm.frames + 1 ≤ R.frames ∧ 8 + (maxL + 11) + rm.locals ≤ R.locals) (hro : (rest.map fun v => v.category).sum ≤ 8) (hf : cells ≤ R.cells ∧ slots ≤ R.slots) (hdg : decode cc pc = .ok (.invokevirtual index, 3))
    (kk : ∀ (H1 : Heap) (locs1 : List Loc), Wd X H0 S1 H1 locs1 → W p l e R s m args below meth c H1 locs1 cells slots Q (F0 m (pc + 3) ls (.int r :: rest))) : W p l e R s m args below meth c H locs cells slots Q (F0 m pc ls st0) := r_callV1 hc hw hls ho hM hs hq q1 hn hst hR hro hf hdg kk
theorem r_callV2i {r : Int32} (hc : Cx p s m args meth c X cc nL own) (hw : Wd X H0 S H locs) (hls : ls.size = nL) {y : MethodName} {bytes : ByteArray} {maxL n index k : Nat} {ret : Option FieldType} {rm : Room} {As st0 : List Value} (ho : KK k = 2) (hM : Ct l X y bytes maxL ret rm (.ref (X.1 + k) :: As) S (some (.int r)) S1) (hs : MsV y bytes maxL ret n) (hq : RX2 = y.cls) (q1 : Cond.methodLink own index y ∈ TB) (hn : As.length = n) (hst : st0 = As.reverse ++ .ref (X.1 + k) :: rest)
    (hR : rm.cells = 0 ∧ rm.slots = 0 ∧ rm.frames + 1 ≤ R.frames ∧ 8 + (maxL + 11) + rm.locals ≤ R.locals) (hro : (rest.map fun v => v.category).sum ≤ 8) (hf : cells ≤ R.cells ∧ slots ≤ R.slots) (hdg : decode cc pc = .ok (.invokevirtual index, 3))
    (kk : ∀ (H1 : Heap) (locs1 : List Loc), Wd X H0 S1 H1 locs1 → W p l e R s m args below meth c H1 locs1 cells slots Q (F0 m (pc + 3) ls (.int r :: rest))) : W p l e R s m args below meth c H locs cells slots Q (F0 m pc ls st0) := r_callV2 hc hw hls ho hM hs hq q1 hn hst hR hro hf hdg kk
theorem r_callV3i {r : Int32} (hc : Cx p s m args meth c X cc nL own) (hw : Wd X H0 S H locs) (hls : ls.size = nL) {y : MethodName} {bytes : ByteArray} {maxL n index k : Nat} {ret : Option FieldType} {rm : Room} {As st0 : List Value} (ho : KK k = 3) (hM : Ct l X y bytes maxL ret rm (.ref (X.1 + k) :: As) S (some (.int r)) S1) (hs : MsV y bytes maxL ret n) (hq : RX3 = y.cls) (q1 : Cond.methodLink own index y ∈ TB) (hn : As.length = n) (hst : st0 = As.reverse ++ .ref (X.1 + k) :: rest)
    (hR : rm.cells = 0 ∧ rm.slots = 0 ∧ rm.frames + 1 ≤ R.frames ∧ 8 + (maxL + 11) + rm.locals ≤ R.locals) (hro : (rest.map fun v => v.category).sum ≤ 8) (hf : cells ≤ R.cells ∧ slots ≤ R.slots) (hdg : decode cc pc = .ok (.invokevirtual index, 3))
    (kk : ∀ (H1 : Heap) (locs1 : List Loc), Wd X H0 S1 H1 locs1 → W p l e R s m args below meth c H1 locs1 cells slots Q (F0 m (pc + 3) ls (.int r :: rest))) : W p l e R s m args below meth c H locs cells slots Q (F0 m pc ls st0) := r_callV3 hc hw hls ho hM hs hq q1 hn hst hR hro hf hdg kk
theorem r_callV4i {r : Int32} (hc : Cx p s m args meth c X cc nL own) (hw : Wd X H0 S H locs) (hls : ls.size = nL) {y : MethodName} {bytes : ByteArray} {maxL n index k : Nat} {ret : Option FieldType} {rm : Room} {As st0 : List Value} (ho : KK k = 4) (hM : Ct l X y bytes maxL ret rm (.ref (X.1 + k) :: As) S (some (.int r)) S1) (hs : MsV y bytes maxL ret n) (hq : RX4 = y.cls) (q1 : Cond.methodLink own index y ∈ TB) (hn : As.length = n) (hst : st0 = As.reverse ++ .ref (X.1 + k) :: rest)
    (hR : rm.cells = 0 ∧ rm.slots = 0 ∧ rm.frames + 1 ≤ R.frames ∧ 8 + (maxL + 11) + rm.locals ≤ R.locals) (hro : (rest.map fun v => v.category).sum ≤ 8) (hf : cells ≤ R.cells ∧ slots ≤ R.slots) (hdg : decode cc pc = .ok (.invokevirtual index, 3))
    (kk : ∀ (H1 : Heap) (locs1 : List Loc), Wd X H0 S1 H1 locs1 → W p l e R s m args below meth c H1 locs1 cells slots Q (F0 m (pc + 3) ls (.int r :: rest))) : W p l e R s m args below meth c H locs cells slots Q (F0 m pc ls st0) := r_callV4 hc hw hls ho hM hs hq q1 hn hst hR hro hf hdg kk
theorem r_callV5i {r : Int32} (hc : Cx p s m args meth c X cc nL own) (hw : Wd X H0 S H locs) (hls : ls.size = nL) {y : MethodName} {bytes : ByteArray} {maxL n index k : Nat} {ret : Option FieldType} {rm : Room} {As st0 : List Value} (ho : KK k = 5) (hM : Ct l X y bytes maxL ret rm (.ref (X.1 + k) :: As) S (some (.int r)) S1) (hs : MsV y bytes maxL ret n) (hq : RX5 = y.cls) (q1 : Cond.methodLink own index y ∈ TB) (hn : As.length = n) (hst : st0 = As.reverse ++ .ref (X.1 + k) :: rest)
    (hR : rm.cells = 0 ∧ rm.slots = 0 ∧ rm.frames + 1 ≤ R.frames ∧ 8 + (maxL + 11) + rm.locals ≤ R.locals) (hro : (rest.map fun v => v.category).sum ≤ 8) (hf : cells ≤ R.cells ∧ slots ≤ R.slots) (hdg : decode cc pc = .ok (.invokevirtual index, 3))
    (kk : ∀ (H1 : Heap) (locs1 : List Loc), Wd X H0 S1 H1 locs1 → W p l e R s m args below meth c H1 locs1 cells slots Q (F0 m (pc + 3) ls (.int r :: rest))) : W p l e R s m args below meth c H locs cells slots Q (F0 m pc ls st0) := r_callV5 hc hw hls ho hM hs hq q1 hn hst hR hro hf hdg kk
theorem r_callV6i {r : Int32} (hc : Cx p s m args meth c X cc nL own) (hw : Wd X H0 S H locs) (hls : ls.size = nL) {y : MethodName} {bytes : ByteArray} {maxL n index k : Nat} {ret : Option FieldType} {rm : Room} {As st0 : List Value} (ho : KK k = 6) (hM : Ct l X y bytes maxL ret rm (.ref (X.1 + k) :: As) S (some (.int r)) S1) (hs : MsV y bytes maxL ret n) (hq : RX6 = y.cls) (q1 : Cond.methodLink own index y ∈ TB) (hn : As.length = n) (hst : st0 = As.reverse ++ .ref (X.1 + k) :: rest)
    (hR : rm.cells = 0 ∧ rm.slots = 0 ∧ rm.frames + 1 ≤ R.frames ∧ 8 + (maxL + 11) + rm.locals ≤ R.locals) (hro : (rest.map fun v => v.category).sum ≤ 8) (hf : cells ≤ R.cells ∧ slots ≤ R.slots) (hdg : decode cc pc = .ok (.invokevirtual index, 3))
    (kk : ∀ (H1 : Heap) (locs1 : List Loc), Wd X H0 S1 H1 locs1 → W p l e R s m args below meth c H1 locs1 cells slots Q (F0 m (pc + 3) ls (.int r :: rest))) : W p l e R s m args below meth c H locs cells slots Q (F0 m pc ls st0) := r_callV6 hc hw hls ho hM hs hq q1 hn hst hR hro hf hdg kk
theorem r_callV7i {r : Int32} (hc : Cx p s m args meth c X cc nL own) (hw : Wd X H0 S H locs) (hls : ls.size = nL) {y : MethodName} {bytes : ByteArray} {maxL n index k : Nat} {ret : Option FieldType} {rm : Room} {As st0 : List Value} (ho : KK k = 7) (hM : Ct l X y bytes maxL ret rm (.ref (X.1 + k) :: As) S (some (.int r)) S1) (hs : MsV y bytes maxL ret n) (hq : RX7 = y.cls) (q1 : Cond.methodLink own index y ∈ TB) (hn : As.length = n) (hst : st0 = As.reverse ++ .ref (X.1 + k) :: rest)
    (hR : rm.cells = 0 ∧ rm.slots = 0 ∧ rm.frames + 1 ≤ R.frames ∧ 8 + (maxL + 11) + rm.locals ≤ R.locals) (hro : (rest.map fun v => v.category).sum ≤ 8) (hf : cells ≤ R.cells ∧ slots ≤ R.slots) (hdg : decode cc pc = .ok (.invokevirtual index, 3))
    (kk : ∀ (H1 : Heap) (locs1 : List Loc), Wd X H0 S1 H1 locs1 → W p l e R s m args below meth c H1 locs1 cells slots Q (F0 m (pc + 3) ls (.int r :: rest))) : W p l e R s m args below meth c H locs cells slots Q (F0 m pc ls st0) := r_callV7 hc hw hls ho hM hs hq q1 hn hst hR hro hf hdg kk
theorem r_callSl {r : Int64} (hc : Cx p s m args meth c X cc nL own) (hw : Wd X H0 S H locs) (hls : ls.size = nL) {y : MethodName} {bytes : ByteArray} {maxL n index : Nat} {ret : Option FieldType} {rm : Room} {As st0 : List Value} (hM : Ct l X y bytes maxL ret rm As S (some (.long r)) S1) (hs : MsS y bytes maxL ret n) (q1 : Cond.methodLink own index y ∈ TB) (hn : As.length = n) (hst : st0 = As.reverse ++ rest)
    (hR : rm.cells = 0 ∧ rm.slots = 0 ∧ rm.frames + 1 ≤ R.frames ∧ 8 + (maxL + 11) + rm.locals ≤ R.locals) (hro : (rest.map fun v => v.category).sum ≤ 8) (hf : cells ≤ R.cells ∧ slots ≤ R.slots) (hdg : decode cc pc = .ok (.invokestatic index, 3))
    (kk : ∀ (H1 : Heap) (locs1 : List Loc), Wd X H0 S1 H1 locs1 → W p l e R s m args below meth c H1 locs1 cells slots Q (F0 m (pc + 3) ls (.long r :: rest))) : W p l e R s m args below meth c H locs cells slots Q (F0 m pc ls st0) := r_callS hc hw hls hM hs q1 hn hst hR hro hf hdg kk
theorem r_callV0l {r : Int64} (hc : Cx p s m args meth c X cc nL own) (hw : Wd X H0 S H locs) (hls : ls.size = nL) {y : MethodName} {bytes : ByteArray} {maxL n index k : Nat} {ret : Option FieldType} {rm : Room} {As st0 : List Value} (ho : KK k = 0) (hM : Ct l X y bytes maxL ret rm (.ref (X.1 + k) :: As) S (some (.long r)) S1) (hs : MsV y bytes maxL ret n) (hq : RX0 = y.cls) (q1 : Cond.methodLink own index y ∈ TB) (hn : As.length = n) (hst : st0 = As.reverse ++ .ref (X.1 + k) :: rest)
    (hR : rm.cells = 0 ∧ rm.slots = 0 ∧ rm.frames + 1 ≤ R.frames ∧ 8 + (maxL + 11) + rm.locals ≤ R.locals) (hro : (rest.map fun v => v.category).sum ≤ 8) (hf : cells ≤ R.cells ∧ slots ≤ R.slots) (hdg : decode cc pc = .ok (.invokevirtual index, 3))
    (kk : ∀ (H1 : Heap) (locs1 : List Loc), Wd X H0 S1 H1 locs1 → W p l e R s m args below meth c H1 locs1 cells slots Q (F0 m (pc + 3) ls (.long r :: rest))) : W p l e R s m args below meth c H locs cells slots Q (F0 m pc ls st0) := r_callV0 hc hw hls ho hM hs hq q1 hn hst hR hro hf hdg kk
theorem r_callV1l {r : Int64} (hc : Cx p s m args meth c X cc nL own) (hw : Wd X H0 S H locs) (hls : ls.size = nL) {y : MethodName} {bytes : ByteArray} {maxL n index k : Nat} {ret : Option FieldType} {rm : Room} {As st0 : List Value} (ho : KK k = 1) (hM : Ct l X y bytes maxL ret rm (.ref (X.1 + k) :: As) S (some (.long r)) S1) (hs : MsV y bytes maxL ret n) (hq : RX1 = y.cls) (q1 : Cond.methodLink own index y ∈ TB) (hn : As.length = n) (hst : st0 = As.reverse ++ .ref (X.1 + k) :: rest)
    (hR : rm.cells = 0 ∧ rm.slots = 0 ∧ rm.frames + 1 ≤ R.frames ∧ 8 + (maxL + 11) + rm.locals ≤ R.locals) (hro : (rest.map fun v => v.category).sum ≤ 8) (hf : cells ≤ R.cells ∧ slots ≤ R.slots) (hdg : decode cc pc = .ok (.invokevirtual index, 3))
    (kk : ∀ (H1 : Heap) (locs1 : List Loc), Wd X H0 S1 H1 locs1 → W p l e R s m args below meth c H1 locs1 cells slots Q (F0 m (pc + 3) ls (.long r :: rest))) : W p l e R s m args below meth c H locs cells slots Q (F0 m pc ls st0) := r_callV1 hc hw hls ho hM hs hq q1 hn hst hR hro hf hdg kk
theorem r_callV2l {r : Int64} (hc : Cx p s m args meth c X cc nL own) (hw : Wd X H0 S H locs) (hls : ls.size = nL) {y : MethodName} {bytes : ByteArray} {maxL n index k : Nat} {ret : Option FieldType} {rm : Room} {As st0 : List Value} (ho : KK k = 2) (hM : Ct l X y bytes maxL ret rm (.ref (X.1 + k) :: As) S (some (.long r)) S1) (hs : MsV y bytes maxL ret n) (hq : RX2 = y.cls) (q1 : Cond.methodLink own index y ∈ TB) (hn : As.length = n) (hst : st0 = As.reverse ++ .ref (X.1 + k) :: rest)
    (hR : rm.cells = 0 ∧ rm.slots = 0 ∧ rm.frames + 1 ≤ R.frames ∧ 8 + (maxL + 11) + rm.locals ≤ R.locals) (hro : (rest.map fun v => v.category).sum ≤ 8) (hf : cells ≤ R.cells ∧ slots ≤ R.slots) (hdg : decode cc pc = .ok (.invokevirtual index, 3))
    (kk : ∀ (H1 : Heap) (locs1 : List Loc), Wd X H0 S1 H1 locs1 → W p l e R s m args below meth c H1 locs1 cells slots Q (F0 m (pc + 3) ls (.long r :: rest))) : W p l e R s m args below meth c H locs cells slots Q (F0 m pc ls st0) := r_callV2 hc hw hls ho hM hs hq q1 hn hst hR hro hf hdg kk
theorem r_callV3l {r : Int64} (hc : Cx p s m args meth c X cc nL own) (hw : Wd X H0 S H locs) (hls : ls.size = nL) {y : MethodName} {bytes : ByteArray} {maxL n index k : Nat} {ret : Option FieldType} {rm : Room} {As st0 : List Value} (ho : KK k = 3) (hM : Ct l X y bytes maxL ret rm (.ref (X.1 + k) :: As) S (some (.long r)) S1) (hs : MsV y bytes maxL ret n) (hq : RX3 = y.cls) (q1 : Cond.methodLink own index y ∈ TB) (hn : As.length = n) (hst : st0 = As.reverse ++ .ref (X.1 + k) :: rest)
    (hR : rm.cells = 0 ∧ rm.slots = 0 ∧ rm.frames + 1 ≤ R.frames ∧ 8 + (maxL + 11) + rm.locals ≤ R.locals) (hro : (rest.map fun v => v.category).sum ≤ 8) (hf : cells ≤ R.cells ∧ slots ≤ R.slots) (hdg : decode cc pc = .ok (.invokevirtual index, 3))
    (kk : ∀ (H1 : Heap) (locs1 : List Loc), Wd X H0 S1 H1 locs1 → W p l e R s m args below meth c H1 locs1 cells slots Q (F0 m (pc + 3) ls (.long r :: rest))) : W p l e R s m args below meth c H locs cells slots Q (F0 m pc ls st0) := r_callV3 hc hw hls ho hM hs hq q1 hn hst hR hro hf hdg kk
theorem r_callV4l {r : Int64} (hc : Cx p s m args meth c X cc nL own) (hw : Wd X H0 S H locs) (hls : ls.size = nL) {y : MethodName} {bytes : ByteArray} {maxL n index k : Nat} {ret : Option FieldType} {rm : Room} {As st0 : List Value} (ho : KK k = 4) (hM : Ct l X y bytes maxL ret rm (.ref (X.1 + k) :: As) S (some (.long r)) S1) (hs : MsV y bytes maxL ret n) (hq : RX4 = y.cls) (q1 : Cond.methodLink own index y ∈ TB) (hn : As.length = n) (hst : st0 = As.reverse ++ .ref (X.1 + k) :: rest)
    (hR : rm.cells = 0 ∧ rm.slots = 0 ∧ rm.frames + 1 ≤ R.frames ∧ 8 + (maxL + 11) + rm.locals ≤ R.locals) (hro : (rest.map fun v => v.category).sum ≤ 8) (hf : cells ≤ R.cells ∧ slots ≤ R.slots) (hdg : decode cc pc = .ok (.invokevirtual index, 3))
    (kk : ∀ (H1 : Heap) (locs1 : List Loc), Wd X H0 S1 H1 locs1 → W p l e R s m args below meth c H1 locs1 cells slots Q (F0 m (pc + 3) ls (.long r :: rest))) : W p l e R s m args below meth c H locs cells slots Q (F0 m pc ls st0) := r_callV4 hc hw hls ho hM hs hq q1 hn hst hR hro hf hdg kk
theorem r_callV5l {r : Int64} (hc : Cx p s m args meth c X cc nL own) (hw : Wd X H0 S H locs) (hls : ls.size = nL) {y : MethodName} {bytes : ByteArray} {maxL n index k : Nat} {ret : Option FieldType} {rm : Room} {As st0 : List Value} (ho : KK k = 5) (hM : Ct l X y bytes maxL ret rm (.ref (X.1 + k) :: As) S (some (.long r)) S1) (hs : MsV y bytes maxL ret n) (hq : RX5 = y.cls) (q1 : Cond.methodLink own index y ∈ TB) (hn : As.length = n) (hst : st0 = As.reverse ++ .ref (X.1 + k) :: rest)
    (hR : rm.cells = 0 ∧ rm.slots = 0 ∧ rm.frames + 1 ≤ R.frames ∧ 8 + (maxL + 11) + rm.locals ≤ R.locals) (hro : (rest.map fun v => v.category).sum ≤ 8) (hf : cells ≤ R.cells ∧ slots ≤ R.slots) (hdg : decode cc pc = .ok (.invokevirtual index, 3))
    (kk : ∀ (H1 : Heap) (locs1 : List Loc), Wd X H0 S1 H1 locs1 → W p l e R s m args below meth c H1 locs1 cells slots Q (F0 m (pc + 3) ls (.long r :: rest))) : W p l e R s m args below meth c H locs cells slots Q (F0 m pc ls st0) := r_callV5 hc hw hls ho hM hs hq q1 hn hst hR hro hf hdg kk
theorem r_callV6l {r : Int64} (hc : Cx p s m args meth c X cc nL own) (hw : Wd X H0 S H locs) (hls : ls.size = nL) {y : MethodName} {bytes : ByteArray} {maxL n index k : Nat} {ret : Option FieldType} {rm : Room} {As st0 : List Value} (ho : KK k = 6) (hM : Ct l X y bytes maxL ret rm (.ref (X.1 + k) :: As) S (some (.long r)) S1) (hs : MsV y bytes maxL ret n) (hq : RX6 = y.cls) (q1 : Cond.methodLink own index y ∈ TB) (hn : As.length = n) (hst : st0 = As.reverse ++ .ref (X.1 + k) :: rest)
    (hR : rm.cells = 0 ∧ rm.slots = 0 ∧ rm.frames + 1 ≤ R.frames ∧ 8 + (maxL + 11) + rm.locals ≤ R.locals) (hro : (rest.map fun v => v.category).sum ≤ 8) (hf : cells ≤ R.cells ∧ slots ≤ R.slots) (hdg : decode cc pc = .ok (.invokevirtual index, 3))
    (kk : ∀ (H1 : Heap) (locs1 : List Loc), Wd X H0 S1 H1 locs1 → W p l e R s m args below meth c H1 locs1 cells slots Q (F0 m (pc + 3) ls (.long r :: rest))) : W p l e R s m args below meth c H locs cells slots Q (F0 m pc ls st0) := r_callV6 hc hw hls ho hM hs hq q1 hn hst hR hro hf hdg kk
theorem r_callV7l {r : Int64} (hc : Cx p s m args meth c X cc nL own) (hw : Wd X H0 S H locs) (hls : ls.size = nL) {y : MethodName} {bytes : ByteArray} {maxL n index k : Nat} {ret : Option FieldType} {rm : Room} {As st0 : List Value} (ho : KK k = 7) (hM : Ct l X y bytes maxL ret rm (.ref (X.1 + k) :: As) S (some (.long r)) S1) (hs : MsV y bytes maxL ret n) (hq : RX7 = y.cls) (q1 : Cond.methodLink own index y ∈ TB) (hn : As.length = n) (hst : st0 = As.reverse ++ .ref (X.1 + k) :: rest)
    (hR : rm.cells = 0 ∧ rm.slots = 0 ∧ rm.frames + 1 ≤ R.frames ∧ 8 + (maxL + 11) + rm.locals ≤ R.locals) (hro : (rest.map fun v => v.category).sum ≤ 8) (hf : cells ≤ R.cells ∧ slots ≤ R.slots) (hdg : decode cc pc = .ok (.invokevirtual index, 3))
    (kk : ∀ (H1 : Heap) (locs1 : List Loc), Wd X H0 S1 H1 locs1 → W p l e R s m args below meth c H1 locs1 cells slots Q (F0 m (pc + 3) ls (.long r :: rest))) : W p l e R s m args below meth c H locs cells slots Q (F0 m pc ls st0) := r_callV7 hc hw hls ho hM hs hq q1 hn hst hR hro hf hdg kk
end RC
