theorem Inv_past {S S2 : Mm} {n : Nat} (hP : IP n S) (hI : II n S) (hT : IT S) (hG : IG S) (hD : ID S) (hJ : gJ S 0 13 = gJ S 163 0) (hd : S2.2 = S.2) (h1 : ∀ a, (a < 15 ∨ 61 ≤ a) → a ≠ 157 → a ≠ 163 → a ≠ 172 → S2.1 a = S.1 a) (h3 : ∀ j, j ≠ 18 → j ≠ 19 → gI S2 163 j = gI S 163 j) (h2 : ∀ m, 221 ≤ m → gI S2 172 m = gI S 172 m) (hR : PR n S2 15 0) : Inv S2 := by
  have hn := hP.1
  have hp : pl S2 = pl S := by unfold pl; rw [hd]
  have hdr : dr S2 = dr S := by unfold dr; rw [hd]
  have hpl : pl S ≤ 9 ∧ 3 ≤ pl S := by rcases hD with ⟨h, -⟩ | ⟨h, -⟩ <;> omega
  have hg : ∀ a j, (a < 15 ∨ 61 ≤ a) → a ≠ 157 → a ≠ 163 → a ≠ 172 → gI S2 a j = gI S a j := fun a j q1 q2 q3 q4 => by unfold gI; rw [h1 a q1 q2 q3 q4]
  refine ⟨n, IP_keep hP hp (fun a _ _ => h1 a (by omega) (by omega) (by omega) (by omega)) (hg _ _ (by omega) (by omega) (by omega) (by omega)) (hg _ _ (by omega) (by omega) (by omega) (by omega)) (fun s _ => ⟨hg _ _ (by omega) (by omega) (by omega) (by omega), hg _ _ (by omega) (by omega) (by omega) (by omega), hg _ _ (by omega) (by omega) (by omega) (by omega), hg _ _ (by omega) (by omega) (by omega) (by omega)⟩), hR, II_keep hn hI (fun a _ _ => h1 a (by omega) (by omega) (by omega) (by omega)) (fun k q _ => h2 k q) (fun i _ => hg _ _ (by omega) (by omega) (by omega) (by omega)), IT_keep hT (hg _ _ (by omega) (by omega) (by omega) (by omega)) (h3 2 (by omega) (by omega)) (h1 _ (by omega) (by omega) (by omega) (by omega)) (h1 _ (by omega) (by omega) (by omega) (by omega)), IG_keep hG (hg _ _ (by omega) (by omega) (by omega) (by omega)) (h3 30 (by omega) (by omega)) (h1 _ (by omega) (by omega) (by omega) (by omega)) (h1 _ (by omega) (by omega) (by omega) (by omega)) (h1 _ (by omega) (by omega) (by omega) (by omega)) (h1 _ (by omega) (by omega) (by omega) (by omega)), ?_, ?_⟩
  · unfold ID; rw [hp, hdr]; exact hD
  · unfold gJ at *; rw [hd]; exact hJ
theorem cM_sL {S : Mm} {o j k : Nat} {v : Int32} (hj : j < 5) : cM (sI S (o + 1) j v) o k = if k = j then v else cM S o k := by
  unfold cM
  simp only [gI_sI]
  simp only [show ¬ (o + 2 = o + 1) by omega, show ¬ (o = o + 1) by omega, show ¬ (o + 3 = o + 1) by omega, false_and, if_false, true_and]
  by_cases h : k = j
  · subst h; rw [if_pos hj, if_pos rfl, if_pos rfl]
  · rw [if_neg h, if_neg h]
theorem cM_sF {S : Mm} {o j k : Nat} {v : Int32} (hj : j < 5) : cM (sI S (o + 2) j v) o k = if k = 5 + j then v else cM S o k := by
  unfold cM
  simp only [gI_sI]
  simp only [show ¬ (o + 1 = o + 2) by omega, show ¬ (o = o + 2) by omega, show ¬ (o + 3 = o + 2) by omega, false_and, if_false, true_and]
  by_cases h : k = 5 + j
  · subst h; rw [if_neg (by omega), if_pos (by omega), if_pos (by omega), if_pos rfl]
  · rw [if_neg h]
    by_cases h5 : k < 5
    · rw [if_pos h5, if_pos h5]
    · rw [if_neg h5, if_neg h5]
      by_cases h10 : k < 10
      · rw [if_pos h10, if_pos h10, if_neg (by omega)]
      · rw [if_neg h10, if_neg h10]
theorem cM_sT {S : Mm} {o j k : Nat} {v : Int32} (hj : j < 5) : cM (sI S (o + 3) j v) o k = if k = 14 + j then v else cM S o k := by
  unfold cM
  simp only [gI_sI]
  simp only [show ¬ (o + 1 = o + 3) by omega, show ¬ (o = o + 3) by omega, show ¬ (o + 2 = o + 3) by omega, false_and, if_false, true_and]
  by_cases h : k = 14 + j
  · subst h; rw [if_neg (by omega), if_neg (by omega), if_neg (by omega), if_neg (by omega), if_neg (by omega), if_neg (by omega), if_pos (by omega), if_pos (by omega), if_pos rfl]
  · rw [if_neg h]
    by_cases h19 : k < 19
    · by_cases h14 : k < 14
      · by_cases h5 : k < 5
        · rw [if_pos h5, if_pos h5]
        rw [if_neg h5, if_neg h5]
        by_cases h10 : k < 10
        · rw [if_pos h10, if_pos h10]
        rw [if_neg h10, if_neg h10]
        rcases (show k = 10 ∨ k = 11 ∨ k = 12 ∨ k = 13 by omega) with rfl | rfl | rfl | rfl <;> rfl
      · rw [if_neg (show ¬ k - 14 = j by omega)]
    · rw [if_neg h19, if_neg h19]
theorem cM_s3 {S : Mm} {o k : Nat} {v : Int32} : cM (sI S o 3 v) o k = if k = 10 then v else cM S o k := by
  unfold cM
  simp only [gI_sI]
  simp only [show ¬ (o + 1 = o) by omega, show ¬ (o + 2 = o) by omega, show ¬ (o + 3 = o) by omega, false_and, if_false, true_and]
  by_cases h : k = 10
  · subst h; rfl
  · rw [if_neg h]
    simp [h]
/-- remember and know together -/
theorem hist_ok {S : Mm} {n : Nat} (hn : n ≤ 5) (hR : PR n S 15 0) : ∃ Sa, f_X3_remember S 15 = some ((), Sa) ∧ (∀ b, (b < 15 ∨ (16 ≤ b ∧ b < 21) ∨ 61 ≤ b) → Sa.1 b = S.1 b) ∧ Sa.2 = S.2 ∧ ∀ M : Mm, (∀ m, gI M 172 m = gI S 172 m) → ∃ Mb h, f_X7_know M = some ((), Mb) ∧ U172 M Mb h ∧ (∀ m, m < 20 ∨ 221 ≤ m → h m = gI S 172 m) ∧ PX n Sa h 15 := by
  obtain ⟨r1, w1, K, N, hK, hN, e1, e2, e3, r2⟩ := PX_of hR
  obtain ⟨Sa, a1, a2, a3, a4, a5, a6⟩ := remember_ok (S := S) (p := 15) k15 hN hK e2 e1
  refine ⟨Sa, a1, fun b hb => a3 b (by omega) (by omega), a6, fun M hM => ?_⟩
  obtain ⟨Mb, h, b1, b2, b3, b4, b5⟩ := know_ok (S := M) hK (by rw [hM]; simpa using e3)
  refine ⟨Mb, h, b1, b2, fun m hm => (b3 m hm).trans (hM m), PX_know (C := S) (C' := Sa) (g := fun m => gI S 172 (0 + m)) (g' := h) hn r1 w1 hK hN r2 a2 a3 a4 a5 (fun k hk => ?_) b4 (fun j hj k hk => ?_)⟩
  · rw [b3 k (Or.inl hk), hM, Nat.zero_add]
  · rw [b5 j hj k hk, hM, hM]
    simp only [Nat.zero_add]
theorem sm_skill : sim_skill Inv := fun S h x f => by
  obtain ⟨n, hP, hR, hI, hT, hG, hD, hJ⟩ := id h
  obtain ⟨hn, p1, p2, -, ps⟩ := id hP
  rcases stp_cases n hn x with ⟨j, hj, rfl⟩ | hx
  · by_cases f0 : f < 0
    · refine simS h ⟨-1, by unfold f_X6_skill; rw [cs_yes hn p1 hj, bd_ok, if_neg (by decide), if_pos f0], ?_⟩
      show f_X7_skill S _ _ = _
      unfold f_X7_skill; rw [ms_yes hn p2 hj, bd_ok, if_neg (by decide), in_ok, if_pos f0]; rfl
    by_cases f9 : f ≤ 9
    · have f8 : ¬ (9 : Int32) < f := Int32.not_lt.mpr f9
      obtain ⟨a, ha, rfl⟩ := nI_of2 (n := 9) (by decide) f0 f9
      obtain ⟨Sa, a1, a2, a3, a4⟩ := hist_ok hn hR
      have hj5 : j < 5 := by omega
      have e165 : gI (sI Sa 18 j (nI a)) 165 0 = nI n := by rw [gI_sI, if_neg (by omega)]; unfold gI; rw [a2 165 (by omega)]; exact p2
      obtain ⟨Mb, g, b1, b2, b3, b4⟩ := a4 (sI Sa 18 j (nI a)) (fun m => by rw [gI_sI, if_neg (by omega)]; unfold gI; rw [a2 172 (by omega)])
      have eo : gI Sa 18 j = gI S 18 j := by unfold gI; rw [a2 18 (by omega)]
      have em : gI Mb 172 (5 + j) = gI S 18 j := by rw [b2.2.2, b3 (5 + j) (by omega), ← pres hR (5 + j) (by omega) (by omega), cM_f hj5]
      have cl : ∀ b, (b < 15 ∨ 61 ≤ b) → b ≠ 172 → (sI Mb 172 (5 + j) (nI a)).1 b = S.1 b := fun b hb h172 => by rw [sI_ne h172, b2.1 b h172, sI_ne (by omega), a2 b (by omega)]
      have cg : ∀ b, b ≠ 172 → (sI Mb 172 (5 + j) (nI a)).1 b = (sI Sa 18 j (nI a)).1 b := fun b h172 => by rw [sI_ne h172, b2.1 b h172]
      have cm : ∀ k, cM (sI Mb 172 (5 + j) (nI a)) 16 k = if k = 5 + j then nI a else cM Sa 16 k := fun k => by
        rw [cM_keep (S := sI Sa 18 j (nI a)) (fun b _ _ => cg b (by omega)) k]
        exact cM_sF (o := 16) hj5
      have gm : ∀ m, gI (sI Mb 172 (5 + j) (nI a)) 172 m = if m = 5 + j then nI a else g m := fun m => by
        rw [gI_sI, b2.2.2]
        by_cases hm : m = 5 + j <;> simp [hm]
      refine ⟨gI S 18 j, sI Sa 18 j (nI a), sI Mb 172 (5 + j) (nI a), ?_, ?_, Inv_past hP hI hT hG hD hJ ?_ (fun b hb _ _ h172 => cl b hb h172) (fun i _ _ => ?_) (fun m hm => ?_) ?_⟩
      · unfold f_X6_skill
        rw [cs_yes hn p1 hj, bd_ok, if_neg (by decide), if_neg f0, if_pos f9, a1, bd_ok, bnd_ok (inB_nI hj5 (by decide)), nI_clamp (by omega), nm_ok, bnd_ok (inB_nI hj5 (by decide)), nm_ok, eo]
      · unfold f_X7_skill
        rw [ms_yes hn e165 hj, bd_ok, if_neg (by decide), in_ok, if_neg f0, if_neg f8, bd_ok, if_neg (by decide), b1, bd_ok, five_nI, bnd_ok (inB_nI (by omega) (by decide)), nI_clamp (by omega), nm_ok, bnd_ok (inB_nI (by omega) (by decide)), nm_ok, em]
      · show Mb.2 = S.2
        rw [b2.2.1]; exact a3
      · unfold gI; rw [cl 163 (by omega) (by omega)]
      · rw [gm, if_neg (by omega)]; exact b3 m (Or.inr hm)
      · refine PR_of (g := fun m => gI (sI Mb 172 (5 + j) (nI a)) 172 m) (PX_pres hn b4 (fun b hb => ?_) (fun m h1 h2 => ?_) (fun k hk hok => ?_) ?_) (fun m _ => by rw [Nat.zero_add])
        · rw [cg b (by omega), sI_ne (by omega)]
        · rw [gm, if_neg (by omega)]
        · rw [cm, gm]
          by_cases e : k = 5 + j
          · rw [if_pos e, if_pos e]
          · rw [if_neg e, if_neg e]; exact b4.1 k hk hok
        · obtain ⟨⟨L, q1⟩, ⟨F, q2⟩, ⟨bb, q3, q4⟩, ⟨m, so, d, c, t, d1, d2, d3, d4, d5, d6⟩⟩ := b4.2.1
          refine ⟨⟨L, fun i hi => by rw [cm, if_neg (by omega)]; exact q1.1 i hi, q1.2⟩, ⟨fun s => if s = j then a else F s, fun s hs => ?_⟩, ⟨bb, q3, by rw [cm, if_neg (by omega)]; exact q4⟩, ⟨m, so, d, c, t, by rw [cm, if_neg (by omega)]; exact d1, by rw [cm, if_neg (by omega)]; exact d2, by rw [cm, if_neg (by omega)]; exact d3, by rw [cm, if_neg (by omega)]; exact d4, fun s hs => by rw [cm, if_neg (by omega)]; exact d5 s hs, d6⟩⟩
          rw [cm]
          by_cases e : s = j
          · subst e; simp; exact ha
          · rw [if_neg (by omega)]
            simp only [if_neg e]
            exact q2 s hs
    · have f8 : (9 : Int32) < f := Int32.not_le.mp f9
      refine simS h ⟨-1, by unfold f_X6_skill; rw [cs_yes hn p1 hj, bd_ok, if_neg (by decide), if_neg f0, if_neg f9], ?_⟩
      show f_X7_skill S _ _ = _
      unfold f_X7_skill; rw [ms_yes hn p2 hj, bd_ok, if_neg (by decide), in_ok, if_neg f0, if_pos f8]; rfl
  · refine simS h ⟨-1, by unfold f_X6_skill; rw [cs_no p1 hx]; rfl, ?_⟩
    show f_X7_skill S _ _ = _
    unfold f_X7_skill; rw [ms_no hn p2 hx]; rfl
