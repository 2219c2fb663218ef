/-! shop -/
theorem td_ok {S : Mm} : ∃ F, f_X7_takeDraft S = some ((), F) ∧ (∀ a, (a < 163 ∨ a = 164 ∨ a = 167 ∨ 173 < a) → F.1 a = S.1 a) ∧ F.2 = S.2 ∧ (∀ j, j ≠ 30 → gI F 163 j = gI S 163 j) ∧ gI F 163 30 = 0 ∧ gI F 172 20 = 0 ∧ gI F 173 0 = 0 ∧ gI F 173 1 = 0 ∧ gI F 165 0 = gI S 165 1 ∧ gI F 171 0 = gI S 171 1 ∧ (∀ j, j < 5 → gI F 166 j = gI S 166 (5 + j) ∧ gI F 168 j = gI S 168 (5 + j) ∧ gI F 169 j = gI S 169 (5 + j) ∧ gI F 170 j = gI S 170 (5 + j) ∧ gI F 172 j = nI j ∧ gI F 172 (5 + j) = gI S 167 j) ∧ ∀ j, 10 ≤ j → j < 20 → gI F 172 j = 0 := by
  generalize hA : sI (sI S 165 0 (gI S 165 1)) 171 0 (gI S 171 1) = A
  obtain ⟨B, b1, b2, b3, b4, b5⟩ := td26 20 0 400 A (by omega) (by omega)
  obtain ⟨F, f1, f2, f3, f4, f5, f6, f7, f8, f9, f10, f11⟩ := td47 5 0 400 B (by omega) (by omega)
  have gA : ∀ a j, gI A a j = if a = 171 ∧ j = 0 then gI S 171 1 else if a = 165 ∧ j = 0 then gI S 165 1 else gI S a j := fun a j => by rw [← hA, gI_sI, gI_sI]
  have gB : ∀ a j, a ≠ 172 → gI B a j = gI A a j := fun a j ha => by unfold gI; rw [b2 a ha]
  have gF : ∀ a j, (a < 163 ∨ a = 164 ∨ a = 165 ∨ a = 167 ∨ a = 171 ∨ 173 < a) → gI F a j = gI B a j := fun a j ha => by unfold gI; rw [f2 a ha]
  have rA : ∀ a, a ≠ 165 → a ≠ 171 → A.1 a = S.1 a := fun a h1 h2 => by rw [← hA, sI_ne h2, sI_ne h1]
  have gS : ∀ a j, a ≠ 172 → a ≠ 165 → a ≠ 171 → gI B a j = gI S a j := fun a j h0 h1 h2 => by rw [gB a j h0]; unfold gI; rw [rA a h1 h2]
  refine ⟨F, ?_, fun a ha => ?_, ?_, fun j hj => ?_, f5, f6, f7, f8, ?_, ?_, fun j hj => ?_, fun j h1 h2 => ?_⟩
  · unfold f_X7_takeDraft
    rw [bnd_ok in12, bnd_ok in02, clamp0, clamp1, nm_ok, bnd_ok in12, bnd_ok in02, gI_sI, if_neg (by omega), nm_ok, hA, show (0 : Int32) = nI 0 from rfl, b1, show (0 : Int32) = nI 0 from rfl, f1]
  · rw [f2 a (by omega), b2 a (by omega), rA a (by omega) (by omega)]
  · rw [f3, b3, ← hA]; rfl
  · rw [f4 j hj, gS 163 j (by omega) (by omega) (by omega)]
  · rw [gF _ _ (by omega), gB _ _ (by omega), gA]; rfl
  · rw [gF _ _ (by omega), gB _ _ (by omega), gA]; rfl
  · obtain ⟨a1, a2, a3, a4, a5, a6⟩ := f10 j (by omega) hj
    rw [a1, a2, a3, a4, a5, a6, gS 166 _ (by omega) (by omega) (by omega), gS 168 _ (by omega) (by omega) (by omega), gS 169 _ (by omega) (by omega) (by omega), gS 170 _ (by omega) (by omega) (by omega), gS 167 _ (by omega) (by omega) (by omega)]
    exact ⟨rfl, rfl, rfl, rfl, rfl, rfl⟩
  · rw [f11 j h1 (by omega), b5 j (by omega) h2]
/-- what the class does behind a good text -/
theorem cl_ok {E : Mm} {k : Int32} {d p : Nat} (hd : 3 ≤ d) (hd2 : d + 6 ≤ 15) (e1 : dr E = d) (e2 : pl E = p) : ∃ C, (nm (sP E (dr E)) (fun S12 =>
nm (sD S12 (pl E)) (fun S14 =>
nm (sI S14 1 1 0) (fun S16 =>
bd (f_X3_open S16 15 (pl S16)) (fun _ S20 =>
nm (sI S20 0 8 0) (fun S22 =>
f_X6_shop_78 400 k 0 S22)))))) = some (k, C) ∧ pl C = d ∧ dr C = p ∧ C.2.1 = E.2.1 ∧ (∀ a, 1 < a → (a < 15 ∨ 19 < a) → a ≠ 154 → C.1 a = E.1 a) ∧ gI C 1 1 = 0 ∧ gI C 0 8 = 0 ∧ gI C 154 0 = 0 ∧ gI C 154 1 = 0 ∧ gI C 15 2 = 0 ∧ gI C 15 3 = 0 ∧ (∀ j, j < 5 → gI C 17 j = nI j ∧ gI C 18 j = gI E (d + 2) j ∧ gI C 19 j = 0) ∧ gI C 16 3 = 0 ∧ gI C 16 4 = 0 ∧ gI C 16 5 = 0 ∧ gI C 16 6 = 0 ∧ gI C 16 7 = 0 := by
  generalize hA : sI (sD (sP E d) p) 1 1 0 = A
  have pA : pl A = d := by rw [← hA]; rfl
  have dA : dr A = p := by rw [← hA]; rfl
  have rA : ∀ a, a ≠ 1 → A.1 a = E.1 a := fun a ha => by rw [← hA, sI_ne ha]; rfl
  obtain ⟨B, b1, b2, b3, b4, b5, b6, b7, b8, b9, b10⟩ := op_l hd hd2 5 0 400 A (by omega) (by omega)
  have hs : f_X6_shop_78 400 k 0 (sI (sI (sI B 15 2 0) 15 3 0) 0 8 0) = some (k, sI (sI (sI (sI (sI B 15 2 0) 15 3 0) 0 8 0) 154 0 0) 154 1 0) := by
    rw [f_X6_shop_78, if_neg (by decide), bnd_ok in02, clamp0, nm_ok, nm_ok, nb0, f_X6_shop_78, if_neg (by decide), bnd_ok (by decide), show ((0 : Int32) + 1).toNatClampNeg = 1 by decide, nm_ok, nm_ok, nb0, f_X6_shop_78, if_pos (by decide)]
  refine ⟨sI (sI (sI (sI (sI B 15 2 0) 15 3 0) 0 8 0) 154 0 0) 154 1 0, ?_, ?_, ?_, ?_, fun a h1 h2 h3 => ?_, ?_, ?_, ?_, ?_, ?_, ?_, fun j hj => ?_, ?_, ?_, ?_, ?_, ?_⟩
  · rw [e1, e2, nm_ok, nm_ok, nm_ok, hA, pA]
    unfold f_X3_open f_X1_open
    rw [show (0 : Int32) = nI 0 from rfl, b1, bd_ok, nm_ok, nm_ok, bd_ok, nm_ok, show nI 0 = (0 : Int32) from rfl]
    exact hs
  · unfold pl at pA ⊢
    show B.2.2.1 = d
    rw [b3]; exact pA
  · unfold dr at dA ⊢
    show B.2.2.2 = p
    rw [b3]; exact dA
  · show B.2.1 = E.2.1
    rw [b3, ← hA]; rfl
  · rw [sI_ne (by omega), sI_ne (by omega), sI_ne (by omega), sI_ne (by omega), sI_ne (by omega), b2 a (by omega), rA a (by omega)]
  · rw [gI_sI, if_neg (by omega), gI_sI, if_neg (by omega), gI_sI, if_neg (by omega), gI_sI, if_neg (by omega), gI_sI, if_neg (by omega)]
    unfold gI; rw [b2 1 (by omega), ← hA]
    exact (gI_sI (b := 1) (i := 1)).trans (if_pos ⟨rfl, rfl⟩)
  · simp [gI_sI]
  · simp [gI_sI]
  · simp [gI_sI]
  · simp [gI_sI]
  · simp [gI_sI]
  · obtain ⟨a1, a2, a3⟩ := b5 j (by omega) hj
    have w : ∀ a, 15 < a → a < 20 → gI (sI (sI (sI (sI (sI B 15 2 0) 15 3 0) 0 8 0) 154 0 0) 154 1 0) a j = gI B a j := fun a h1 h2 => by rw [gI_sI, if_neg (by omega), gI_sI, if_neg (by omega), gI_sI, if_neg (by omega), gI_sI, if_neg (by omega), gI_sI, if_neg (by omega)]
    rw [w 17 (by omega) (by omega), w 18 (by omega) (by omega), w 19 (by omega) (by omega), a1, a2, a3]
    refine ⟨rfl, ?_, rfl⟩
    unfold gI; rw [rA (d + 2) (by omega)]
  all_goals simp [gI_sI]; assumption
/-- a text that is wrong changes nothing that stays -/
theorem Inv_bad {S E F : Mm} (h : Inv S) (hE : ws_FC (dr S) S E) (hF : ws_FM E F) : Inv F := by
  obtain ⟨n, hP, hR, hI, hT, hG, hD, hJ⟩ := h
  have hn := hP.1
  obtain ⟨c1, c2, c3⟩ := hE
  obtain ⟨m1, m2, m3, m4, m5, m6⟩ := hF
  have e2 : F.2 = S.2 := m2.trans c2
  have hp : pl F = pl S := by unfold pl; rw [e2]
  have hdr : dr F = dr S := by unfold dr; rw [e2]
  have hd : (pl S = 3 ∧ dr S = 9) ∨ (pl S = 9 ∧ dr S = 3) := hD
  have row : ∀ a, a ≠ 1 → (a < dr S ∨ dr S + 6 ≤ a) → (a < 163 ∨ a = 164 ∨ 171 < a) → F.1 a = S.1 a := fun a q1 q2 q3 => by rw [m1 a q3, c1 a q1 q2]
  have hg : ∀ a j, a ≠ 1 → (a < dr S ∨ dr S + 6 ≤ a) → gI E a j = gI S a j := fun a j q1 q2 => by unfold gI; rw [c1 a q1 q2]
  refine ⟨n, IP_keep hP hp (fun a q1 q2 => row a (by omega) (by omega) (by omega)) (m4.trans (hg _ _ (by omega) (by omega))) (m5.trans (hg _ _ (by omega) (by omega))) (fun s hs => ?_), PR_keep hn hR (fun a q1 q2 => row a (by omega) (by omega) (by omega)) (fun k _ _ => ?_), II_keep hn hI (fun a q1 q2 => row a (by omega) (by omega) (by omega)) (fun k _ _ => ?_) (fun i _ => ?_), IT_keep hT ?_ ((m3 2 (by omega)).trans (hg _ _ (by omega) (by omega))) (row 2 (by omega) (by omega) (by omega)) (row 164 (by omega) (by omega) (by omega)), IG_keep hG ?_ ((m3 30 (by omega)).trans (hg _ _ (by omega) (by omega))) (row _ (by omega) (by omega) (by omega)) (row _ (by omega) (by omega) (by omega)) (row _ (by omega) (by omega) (by omega)) (row _ (by omega) (by omega) (by omega)), ?_, ?_⟩
  · obtain ⟨a1, a2, a3, a4⟩ := m6 s hs
    exact ⟨a1.trans (hg _ _ (by omega) (by omega)), a2.trans (hg _ _ (by omega) (by omega)), a3.trans (hg _ _ (by omega) (by omega)), a4.trans (hg _ _ (by omega) (by omega))⟩
  · unfold gI; rw [row 172 (by omega) (by omega) (by omega)]
  · unfold gI; rw [row 172 (by omega) (by omega) (by omega)]
  · unfold gI; rw [row 173 (by omega) (by omega) (by omega)]
  · rw [show gI F 1 1 = gI E 1 1 by unfold gI; rw [m1 1 (by omega)]]; exact c3
  · unfold gI; rw [row 0 (by omega) (by omega) (by omega)]
  · unfold ID; rw [hp, hdr]; exact hD
  · unfold gJ; rw [e2]; exact hJ
/-- the new shop -/
theorem Inv_new {D : Mm} {n d : Nat} (hD : (pl D = 3 ∧ dr D = 9) ∨ (pl D = 9 ∧ dr D = 3)) (hd : pl D = d) (hn : n ≤ 5) (a0 : gI D d 0 = nI n) (a1 : gI D 165 0 = nI n) (a2 : ∃ pr, pr ≤ 99 ∧ gI D d 1 = nI pr ∧ gI D 171 0 = nI pr)
    (a3 : ∀ s, s < n → (∃ x, x ≤ 99 ∧ gI D (d + 1) s = nI x ∧ gI D 166 s = nI x) ∧ (∃ x, x ≤ 30 ∧ gI D (d + 3) s = nI x ∧ gI D 168 s = nI x) ∧ (∃ x, x ≤ 9 ∧ gI D (d + 4) s = nI x ∧ gI D 169 s = nI x) ∧ (∃ x, x < 32 ∧ (∀ j, j ≤ s → x.testBit j = false) ∧ gI D (d + 5) s = nI x ∧ gI D 170 s = nI x))
    (a4 : ∀ s, s < n → ∃ x, x ≤ 9 ∧ gI D 18 s = nI x ∧ gI D 172 (5 + s) = nI x) (a5 : ∀ j, j < 5 → gI D 17 j = nI j ∧ gI D 172 j = nI j ∧ gI D 19 j = 0) (a6 : gI D 16 3 = 0 ∧ gI D 16 4 = 0 ∧ gI D 16 5 = 0 ∧ gI D 16 6 = 0 ∧ gI D 16 7 = 0) (a7 : ∀ j, 10 ≤ j → j ≤ 20 → gI D 172 j = 0) (a8 : gI D 15 2 = 0 ∧ gI D 15 3 = 0) (a9 : ∀ i, i < 2 → gI D 154 i = 0 ∧ gI D 173 i = 0) (b1 : gI D 1 1 = 0) (b2 : gI D 163 2 = 0) (b3 : gI D 0 8 = 0) (b4 : gI D 163 30 = 0) (b5 : gJ D 0 13 = gJ D 163 0) : Inv D := by
  subst hd
  have z : ∀ k, 10 ≤ k → k < 20 → cM D (15 + 1) k = nI 0 := fun k h1 h2 => by
    unfold cM
    rw [if_neg (by omega), if_neg (by omega)]
    by_cases k10 : k = 10
    · rw [if_pos k10]; exact a6.1
    by_cases k11 : k = 11
    · rw [if_neg k10, if_pos k11]; exact a6.2.1
    by_cases k12 : k = 12
    · rw [if_neg k10, if_neg k11, if_pos k12]; exact a6.2.2.1
    by_cases k13 : k = 13
    · rw [if_neg k10, if_neg k11, if_neg k12, if_pos k13]; exact a6.2.2.2.1
    by_cases k19 : k < 19
    · rw [if_neg k10, if_neg k11, if_neg k12, if_neg k13, if_pos k19]; exact (a5 (k - 14) (by omega)).2.2
    · rw [if_neg k10, if_neg k11, if_neg k12, if_neg k13, if_neg k19]; exact a6.2.2.2.2
  have ln : ∀ i, i < 5 → cM D (15 + 1) i = nI i := fun i hi => by
    unfold cM
    rw [if_pos hi]; exact (a5 i hi).1
  have ft : ∀ s, s < 5 → cM D (15 + 1) (5 + s) = gI D 18 s := fun s hs => by
    unfold cM
    rw [if_neg (by omega), if_pos (by omega), Nat.add_sub_cancel_left]
  refine ⟨n, ⟨hn, a0, a1, a2, a3⟩, ⟨fun k hk ho => ?_, ⟨⟨fun i => i, fun i hi => ⟨ln i hi, hi⟩, fun i hi => hi, fun s hs => ⟨s, hs, rfl⟩⟩, ⟨fun s => (gI D 18 s).toNatClampNeg, fun s hs => ?_⟩, ⟨0, Nat.two_pow_pos n, z 10 (by omega) (by omega)⟩, ⟨0, 0, 0, 0, fun _ => 0, z 11 (by omega) (by omega), z 12 (by omega) (by omega), z 13 (by omega) (by omega), z 19 (by omega) (by omega), fun s hs => z (14 + s) (by omega) (by omega), by omega, rfl, by omega, by omega⟩⟩, 0, 0, by omega, by omega, a8.2, a8.1, by rw [Nat.zero_add]; exact a7 20 (by omega) (by omega), fun j hj => by omega⟩, fun i hi => ⟨by rw [(a9 i hi).1, (a9 i hi).2], fun q => absurd (a9 i hi).1 q⟩, ⟨0, by omega, b1, b2, fun j hj => by omega⟩, ⟨0, by omega, b3, b4, fun j hj => by omega⟩, hD, b5⟩
  · dsimp only
    rw [Nat.zero_add]
    by_cases h1 : k < 5
    · rw [ln k h1, (a5 k h1).2.1]
    by_cases h2 : k < 10
    · obtain ⟨x, x1, x2, x3⟩ := a4 (k - 5) (by omega)
      rw [show k = 5 + (k - 5) by omega, ft (k - 5) (by omega), x2, x3]
    · rw [z k (by omega) hk, a7 k (by omega) (by omega)]; rfl
  · obtain ⟨x, x1, x2, x3⟩ := a4 s hs
    rw [ft s (by omega)]
    dsimp only
    rw [x2, nI_clamp (by omega)]
    exact ⟨rfl, x1⟩
