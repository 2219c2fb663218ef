theorem cl10 : (10 : Int32).toNatClampNeg = 10 := by decide
theorem cl11 : (11 : Int32).toNatClampNeg = 11 := by decide
theorem cl12 : (12 : Int32).toNatClampNeg = 12 := by decide
theorem cl13 : (13 : Int32).toNatClampNeg = 13 := by decide
theorem cl19 : (19 : Int32).toNatClampNeg = 19 := by decide
theorem cl20 : (20 : Int32).toNatClampNeg = 20 := by decide
theorem i10 : inB 10 663 = true := by decide
theorem i11 : inB 11 663 = true := by decide
theorem i12 : inB 12 663 = true := by decide
theorem i13 : inB 13 663 = true := by decide
theorem i19 : inB 19 663 = true := by decide
theorem i20 : inB 20 663 = true := by decide
theorem five_nI (j : Nat) : (5 : Int32) + nI j = nI (5 + j) := nI_add 5 j
theorem ft_nI (j : Nat) : (14 : Int32) + nI j = nI (14 + j) := nI_add 14 j
theorem zero_nI (j : Nat) : (0 : Int32) + nI j = nI j := by
  have := nI_add 0 j
  rw [Nat.zero_add] at this
  exact this
/-- the present, class and model -/
theorem pres {n : Nat} {S : Mm} (h : PR n S 15 0) : ∀ k, k < 20 → (k < n ∨ 5 ≤ k ∧ k < 5 + n ∨ 10 ≤ k) → cM S 16 k = gI S 172 k := fun k h1 h2 => by
  have := h.1 k h1 h2
  simpa using this
theorem cM_l {S : Mm} {o k : Nat} (h : k < 5) : cM S o k = gI S (o + 1) k := if_pos h
theorem cM_f {S : Mm} {o k : Nat} (h : k < 5) : cM S o (5 + k) = gI S (o + 2) k := by
  unfold cM
  rw [if_neg (by omega), if_pos (by omega), show 5 + k - 5 = k by omega]
theorem cM_t {S : Mm} {o k : Nat} (h : k < 5) : cM S o (14 + k) = gI S (o + 3) k := by
  unfold cM
  rw [if_neg (by omega), if_neg (by omega), if_neg (by omega), if_neg (by omega), if_neg (by omega), if_neg (by omega), if_pos (by omega), show 14 + k - 14 = k by omega]
theorem cM_10 {S : Mm} {o : Nat} : cM S o 10 = gI S o 3 := rfl
theorem cM_11 {S : Mm} {o : Nat} : cM S o 11 = gI S o 4 := rfl
theorem cM_12 {S : Mm} {o : Nat} : cM S o 12 = gI S o 5 := rfl
theorem cM_13 {S : Mm} {o : Nat} : cM S o 13 = gI S o 6 := rfl
theorem cM_19 {S : Mm} {o : Nat} : cM S o 19 = gI S o 7 := rfl
theorem simS {α : Type} {S : Mm} {X : Option (α × Mm)} {Y : Mm → Option (α × Mm)} (h : Inv S) (hh : ∃ r, X = some (r, S) ∧ Y S = some (r, S)) : ∃ r S1 S2, X = some (r, S1) ∧ Y S1 = some (r, S2) ∧ Inv S2 := by
  obtain ⟨r, h1, h2⟩ := hh
  exact ⟨r, S, S, h1, h2, h⟩
theorem sm_count : sim_count Inv := fun S h x => by
  obtain ⟨n, ⟨hn, p1, p2, ⟨pr, r0, r1, r2⟩, -⟩, ⟨-, -, K, N, -, -, k1, -, k2, -⟩, hI, ⟨ln, l1, l2, l3, l4⟩, ⟨t, t1, t2, t3, t4⟩, hD, hJ⟩ := id h
  have k3 : gI S 172 20 = nI K := by simpa using k2
  refine simS h ?_
  show ∃ r, f_X6_count S x = some (r, S) ∧ f_X7_count S x = some (r, S)
  unfold f_X6_count f_X7_count
  rw [bnd_ok in02, bnd_ok i20, bnd_ok in02, clamp0, cl20]
  by_cases c0 : x = 0
  · exact ⟨nI n, by rw [if_pos c0, p1], by rw [if_pos c0, p2]⟩
  rw [if_neg c0, if_neg c0]
  by_cases c1 : x = 1
  · exact ⟨nI pr, by rw [if_pos c1, r1], by rw [if_pos c1, r2]⟩
  rw [if_neg c1, if_neg c1]
  by_cases c2 : x = 2
  · exact ⟨nI t, by rw [if_pos c2, t2], by rw [if_pos c2, t3]⟩
  rw [if_neg c2, if_neg c2]
  by_cases c3 : x = 3
  · exact ⟨nI K, by rw [if_pos c3, k1], by rw [if_pos c3, k3]⟩
  rw [if_neg c3, if_neg c3]
  by_cases c4 : x = 4
  · exact ⟨nI ln, by rw [if_pos c4, l2], by rw [if_pos c4, l3]⟩
  rw [if_neg c4, if_neg c4]
  exact ⟨-1, rfl, rfl⟩
theorem sm_line : sim_line Inv := fun S h x => by
  obtain ⟨n, ⟨hn, p1, p2, -, -⟩, hR, -⟩ := id h
  refine simS h ?_
  show ∃ r, f_X6_line S x = some (r, S) ∧ f_X7_line S x = some (r, S)
  unfold f_X6_line f_X7_line
  rcases stp_cases n hn x with ⟨j, hj, rfl⟩ | hx
  · refine ⟨gI S 17 j, ?_, ?_⟩
    · rw [cs_yes hn p1 hj, bd_ok, if_neg (by decide), bnd_ok (inB_nI (by omega) (by omega)), nI_clamp (by omega)]
    · rw [ms_yes hn p2 hj, bd_ok, if_neg (by decide), zero_nI, bnd_ok (inB_nI (by omega) (by omega)), nI_clamp (by omega), ← pres hR j (by omega) (by omega), cM_l (by omega)]
  · exact ⟨-1, by rw [cs_no p1 hx]; rfl, by rw [ms_no hn p2 hx]; rfl⟩
theorem now_loop {S : Mm} {t : Nat → Nat} (ht : ∀ s, s < 5 → gI S 172 (14 + s) = nI (t s)) : ∀ (fu i a : Nat), i ≤ 5 → 5 - i < fu → f_X7_now_68 fu (nI a) (nI i) S = some (nI (a + ((List.range (5 - i)).map (fun k => t (i + k))).sum), S) := by
  intro fu
  induction fu with
  | zero => intro i a h1 h2; omega
  | succ fu ih =>
    intro i a h1 h2
    rw [f_X7_now_68]
    by_cases hi : i = 5
    · subst hi
      rw [if_pos (by decide)]
      simp
    · have h5 : i < 5 := by omega
      rw [if_neg (show ¬ (5 : Int32) ≤ nI i from nI_ge (b := 5) h5 (by decide)), ft_nI, bnd_ok (inB_nI (by omega) (by omega)), nI_clamp (by omega), nm_ok, nm_ok, ht i h5, nI_add, nI_1, ih (i + 1) _ (by omega) (by omega)]
      congr 3
      rw [show 5 - i = (5 - (i + 1)) + 1 by omega, List.range_succ_eq_map]
      simp [Function.comp_def, Nat.add_assoc, Nat.add_comm 1]
theorem sm_now : sim_now Inv := fun S h x => by
  obtain ⟨n, hP, hR, -⟩ := id h
  obtain ⟨-, -, -, ⟨m, so, d, c, t, d1, d2, d3, d4, d5, d6, d7, d8, d9⟩⟩ := hR.2.1
  have q := pres hR
  refine simS h ?_
  show ∃ r, f_X6_now S x = some (r, S) ∧ f_X7_now S x = some (r, S)
  unfold f_X6_now f_X7_now
  rw [bnd_ok i11, bnd_ok i12, bnd_ok i13, bnd_ok i19, bnd_ok i10, cl10, cl11, cl12, cl13, cl19]
  by_cases c0 : x = 0
  · exact ⟨gI S 16 4, by rw [if_pos c0], by rw [if_pos c0, ← q 11 (by decide) (by simp), cM_11]⟩
  rw [if_neg c0, if_neg c0]
  by_cases c1 : x = 1
  · exact ⟨gI S 16 5, by rw [if_pos c1], by rw [if_pos c1, ← q 12 (by decide) (by simp), cM_12]⟩
  rw [if_neg c1, if_neg c1]
  by_cases c2 : x = 2
  · exact ⟨gI S 16 6, by rw [if_pos c2], by rw [if_pos c2, ← q 13 (by decide) (by simp), cM_13]⟩
  rw [if_neg c2, if_neg c2]
  by_cases c3 : x = 3
  · refine ⟨nI (t 0 + t 1 + t 2 + t 3 + t 4), ?_, ?_⟩
    · rw [if_pos c3, ← cM_11, ← cM_12]
      rw [show cM S 16 11 = nI m from d1, show cM S 16 12 = nI so from d2, pk_sub (by omega)]
      congr 3
      omega
    · rw [if_pos c3]
      have := now_loop (S := S) (t := t) (fun s hs => by rw [← q (14 + s) (by omega) (by omega)]; exact d5 s hs) 400 0 0 (by omega) (by omega)
      rw [nI_0] at this
      rw [this]
      congr 3
      simp [List.range_succ]
      omega
  rw [if_neg c3, if_neg c3]
  by_cases c4 : x = 4
  · exact ⟨gI S 16 7, by rw [if_pos c4], by rw [if_pos c4, ← q 19 (by decide) (by simp), cM_19]⟩
  rw [if_neg c4, if_neg c4]
  by_cases c5 : x = 5
  · exact ⟨gI S 16 3, by rw [if_pos c5], by rw [if_pos c5, ← q 10 (by decide) (by simp), cM_10]⟩
  rw [if_neg c5, if_neg c5]
  exact ⟨-1, rfl, rfl⟩
/-! where a step stands -/
theorem pl_c {S : Mm} {o n i0 : Nat} {L : Nat → Nat} {j : Nat} (hL : ∀ i, i < 5 → gI S (o + 1) i = nI (L i) ∧ L i < 5) (hn : n ≤ 5) (hi0 : i0 < n) (hj : L i0 = j) (hl : ∀ i, i < i0 → L i ≠ j) : ∀ (fu i : Nat), i ≤ i0 → i0 - i < fu → f_X1_placeOf_2 o fu (nI j) (nI n) (nI i) S = some (nI i0, S) := by
  intro fu
  induction fu with
  | zero => intro i h1 h2; omega
  | succ fu ih =>
    intro i h1 h2
    rw [f_X1_placeOf_2, if_neg (nI_ge (show i < n by omega) (by omega)), bnd_ok (inB_nI (by omega) (by omega)), nI_clamp (by omega), (hL i (by omega)).1]
    by_cases h : i = i0
    · subst h
      rw [if_pos (by rw [hj])]
    · have := (hL i (by omega)).2
      rw [if_neg (by rw [nI_eq (by omega) (by have := (hL i0 (by omega)).2; omega)]; exact hl i (by omega)), nm_ok, nI_1]
      exact ih (i + 1) (by omega) (by omega)
theorem pl_m {S : Mm} {n i0 : Nat} {L : Nat → Nat} {j : Nat} (e : gI S 165 0 = nI n) (hL : ∀ i, i < n → gI S 172 i = nI (L i) ∧ L i < 5) (hn : n ≤ 5) (hi0 : i0 < n) (hj : L i0 = j) (hl : ∀ i, i < i0 → L i ≠ j) : ∀ (fu i : Nat), i ≤ i0 → i0 - i < fu → f_X7_placeOf_2 fu (nI j) (nI i) S = some (nI i0, S) := by
  intro fu
  induction fu with
  | zero => intro i h1 h2; omega
  | succ fu ih =>
    intro i h1 h2
    rw [f_X7_placeOf_2, bnd_ok in02, clamp0, e, if_neg (nI_ge (show i < n by omega) (by omega)), zero_nI, bnd_ok (inB_nI (by omega) (by omega)), nI_clamp (by omega), (hL i (by omega)).1]
    by_cases h : i = i0
    · subst h
      rw [if_pos (by rw [hj])]
    · have := (hL i (by omega)).2
      rw [if_neg (by rw [nI_eq (by omega) (by have := (hL i0 (by omega)).2; omega)]; exact hl i (by omega)), nm_ok, nI_1]
      exact ih (i + 1) (by omega) (by omega)
theorem sm_step : sim_step Inv := fun S h x w => by
  obtain ⟨n, ⟨hn, p1, p2, -, ps⟩, hR, -⟩ := id h
  have q := pres hR
  refine simS h ?_
  show ∃ r, f_X6_step S x w = some (r, S) ∧ f_X7_step S x w = some (r, S)
  unfold f_X6_step f_X7_step
  rcases stp_cases n hn x with ⟨j, hj, rfl⟩ | hx
  · obtain ⟨⟨x1, -, x2, x3⟩, ⟨y1, -, y2, y3⟩, ⟨z1, -, z2, z3⟩, ⟨w1, -, -, w2, w3⟩⟩ := ps j hj
    rw [cs_yes hn p1 hj, bd_ok, if_neg (show ¬ (1 : Int32) = 0 by decide), ms_yes hn p2 hj, bd_ok, if_neg (show ¬ (1 : Int32) = 0 by decide), five_nI, ft_nI, bnd_ok (inB_nI (show j < 5 by omega) (by omega)), bnd_ok (inB_nI (show j < 10 by omega) (by omega)), bnd_ok (inB_nI (show 5 + j < 663 by omega) (by omega)), bnd_ok (inB_nI (show 14 + j < 663 by omega) (by omega)), bnd_ok i10, cl10, nI_clamp (show j < 2 ^ 31 by omega), nI_clamp (show 5 + j < 2 ^ 31 by omega), nI_clamp (show 14 + j < 2 ^ 31 by omega)]
    by_cases c0 : w = 0
    · exact ⟨nI x1, by rw [if_pos c0, x2], by rw [if_pos c0, x3]⟩
    rw [if_neg c0, if_neg c0]
    by_cases c1 : w = 1
    · exact ⟨gI S 18 j, by rw [if_pos c1, bnd_ok (inB_nI (show j < 5 by omega) (by omega))], by rw [if_pos c1, ← q (5 + j) (by omega) (by omega), cM_f (by omega)]⟩
    rw [if_neg c1, if_neg c1]
    by_cases c2 : w = 2
    · exact ⟨nI y1, by rw [if_pos c2, bnd_ok (inB_nI (show j < 5 by omega) (by omega)), y2], by rw [if_pos c2, bnd_ok (inB_nI (show j < 10 by omega) (by omega)), y3]⟩
    rw [if_neg c2, if_neg c2]
    by_cases c3 : w = 3
    · exact ⟨nI z1, by rw [if_pos c3, bnd_ok (inB_nI (show j < 5 by omega) (by omega)), z2], by rw [if_pos c3, bnd_ok (inB_nI (show j < 10 by omega) (by omega)), z3]⟩
    rw [if_neg c3, if_neg c3]
    by_cases c4 : w = 4
    · exact ⟨_, by rw [if_pos c4], by rw [if_pos c4, ← q 10 (by decide) (by simp), cM_10]⟩
    rw [if_neg c4, if_neg c4]
    by_cases c5 : w = 5
    · exact ⟨gI S 19 j, by rw [if_pos c5, bnd_ok (inB_nI (show j < 5 by omega) (by omega))], by rw [if_pos c5, ← q (14 + j) (by omega) (by omega), cM_t (by omega)]⟩
    rw [if_neg c5, if_neg c5]
    by_cases c6 : w = 6
    · obtain ⟨⟨L, a1, a2, a3⟩, -⟩ := hR.2.1
      obtain ⟨i0, ⟨i1, i2⟩, i3⟩ := pk_least (fun i => i < n ∧ L i = j) (a3 j hj)
      have hl : ∀ i, i < i0 → L i ≠ j := fun i hi e => i3 i hi ⟨by omega, e⟩
      refine ⟨nI i0, ?_, ?_⟩
      · rw [if_pos c6]
        unfold f_X1_placeOf
        rw [p1]
        have := pl_c (S := S) (o := 16) (n := n) (i0 := i0) (L := L) (j := j) (fun i hi => by rw [← cM_l (S := S) (o := 16) hi]; exact a1 i hi) hn i1 i2 hl 400 0 (by omega) (by omega)
        rw [nI_0] at this
        rw [this]; rfl
      · rw [if_pos c6]
        unfold f_X7_placeOf
        have := pl_m (S := S) (n := n) (i0 := i0) (L := L) (j := j) p2 (fun i hi => by rw [← q i (by omega) (by omega)]; exact a1 i (by omega)) hn i1 i2 hl 400 0 (by omega) (by omega)
        rw [nI_0] at this
        rw [this]; rfl
    rw [if_neg c6, if_neg c6]
    by_cases c7 : w = 7
    · exact ⟨nI w1, by rw [if_pos c7, bnd_ok (inB_nI (show j < 5 by omega) (by omega)), w2], by rw [if_pos c7, bnd_ok (inB_nI (show j < 10 by omega) (by omega)), w3]⟩
    rw [if_neg c7, if_neg c7]
    exact ⟨-1, rfl, rfl⟩
  · exact ⟨-1, by rw [cs_no p1 hx]; rfl, by rw [ms_no hn p2 hx]; rfl⟩
