theorem sub1 {j : Nat} (h : 1 ≤ j) : nI j - 1 = nI (j - 1) := by
  have := nI_pred (j - 1)
  rw [show j - 1 + 1 = j by omega] at this
  exact this
theorem mv_m {n : Nat} (hn : n ≤ 5) {S : Mm} (x : Int32) : ((∃ j, 1 ≤ j ∧ j < n ∧ x = nI j) → f_X7_in S x 1 (nI n - 1) = some (1, S)) ∧ ((x = 0 ∨ x < 0 ∨ nI n ≤ x) → f_X7_in S x 1 (nI n - 1) = some (0, S)) := by
  refine ⟨fun ⟨j, h1, h2, e⟩ => ?_, fun h => ?_⟩
  · subst e
    rw [in_ok, if_neg (show ¬ nI j < 1 from nI_nlt (b := 1) h1 (by omega)), if_neg (fun q => nI_ge h2 (by omega) ((below_iff hn (nI_pos (by omega))).mp q))]
  · rw [in_ok]
    by_cases h0 : x < 1
    · rw [if_pos h0]
    · have hx0 : ¬ x < 0 := fun q => h0 (by
        have := Int32.lt_iff_toInt_lt.mp q
        rw [Int32.lt_iff_toInt_lt]
        have e1 : (1 : Int32).toInt = 1 := by decide
        have e0 : (0 : Int32).toInt = 0 := by decide
        rw [e1]; rw [e0] at this; omega)
      have hne : ¬ x = 0 := fun q => h0 (by rw [q]; decide)
      rw [if_neg h0, if_pos ((below_iff hn hx0).mpr ((h.resolve_left hne).resolve_left hx0))]
theorem sm_moves : sim_moves Inv := fun S h x => by
  obtain ⟨n, hP, hR, hI, hT, hG, hD, hJ⟩ := id h
  obtain ⟨hn, p1, p2, -, ps⟩ := id hP
  have q := pres hR
  by_cases x0 : x = 0
  · refine simS h ⟨-1, by unfold f_X6_moves; rw [if_pos x0], ?_⟩
    show f_X7_moves S _ = _
    unfold f_X7_moves; rw [bnd_ok in02, clamp0, p2, (mv_m hn x).2 (Or.inl x0)]; rfl
  rcases stp_cases n hn x with ⟨j, hj, rfl⟩ | hx
  · have hj1 : 1 ≤ j := by
      rcases Nat.eq_zero_or_pos j with e | e
      · subst e; exact absurd rfl x0
      · exact e
    have hj5 : j < 5 := by omega
    obtain ⟨⟨L, l1, l2, l3⟩, -⟩ := hR.2.1
    have c1 : gI S 17 j = nI (L j) := by rw [← cM_l (S := S) (o := 16) hj5]; exact (l1 j hj5).1
    have c0 : gI S 17 (j - 1) = nI (L (j - 1)) := by rw [← cM_l (S := S) (o := 16) (show j - 1 < 5 by omega)]; exact (l1 (j - 1) (by omega)).1
    have m1 : gI S 172 j = nI (L j) := by rw [← q j (by omega) (by omega)]; exact (l1 j hj5).1
    have m0 : gI S 172 (j - 1) = nI (L (j - 1)) := by rw [← q (j - 1) (by omega) (by omega)]; exact (l1 (j - 1) (by omega)).1
    have hb := l2 (j - 1) (by omega)
    have ha := l2 j hj
    obtain ⟨-, -, -, ⟨ah, ah1, -, ah2, ah3⟩⟩ := ps (L (j - 1)) hb
    have hmc : f_X4_mustLead S (pl S) (nI (L (j - 1))) (nI (L j)) = some (if ((nI ah >>> (nI (L j) &&& 31)) &&& 1) = 1 then 1 else 0, S) := by
      unfold f_X4_mustLead
      rw [bnd_ok (inB_nI (by omega) (by decide)), nI_clamp (by omega), ah2]
      split <;> rfl
    by_cases hs : ((nI ah >>> (nI (L j) &&& 31)) &&& 1) = 1
    · refine simS h ⟨-2, ?_, ?_⟩
      · unfold f_X6_moves
        rw [if_neg x0, cs_yes hn p1 hj, bd_ok, if_neg (by decide), sub1 hj1, bnd_ok (inB_nI (by omega) (by decide)), nI_clamp (by omega), c0, nm_ok, bnd_ok (inB_nI hj5 (by decide)), nI_clamp (by omega), c1, hmc, bd_ok, if_pos hs, if_neg (by decide)]
      · show f_X7_moves S _ = _
        unfold f_X7_moves
        rw [bnd_ok in02, clamp0, p2, (mv_m hn (nI j)).1 ⟨j, hj1, hj, rfl⟩, bd_ok, if_neg (by decide), zero_nI, sub1 hj1, bnd_ok (inB_nI (by omega) (by decide)), nI_clamp (by omega), m1, nm_ok, bnd_ok (inB_nI (by omega) (by decide)), nI_clamp (by omega), m0, nm_ok, bnd_ok (inB_nI (by omega) (by decide)), nI_clamp (by omega), ah3, if_pos hs]
    · obtain ⟨Sa, a1, a2, a3, a4⟩ := hist_ok hn hR
      have ec : ∀ i, gI Sa 17 i = gI S 17 i := fun i => by unfold gI; rw [a2 17 (by omega)]
      generalize hC : sI (sI Sa 17 (j - 1) (nI (L j))) 17 j (nI (L (j - 1))) = C
      have hCr : ∀ b, b ≠ 17 → C.1 b = Sa.1 b := fun b hb => by rw [← hC, sI_ne hb, sI_ne hb]
      have e165 : gI C 165 0 = nI n := by unfold gI; rw [hCr 165 (by omega), a2 165 (by omega)]; exact p2
      have e172 : ∀ m, gI C 172 m = gI S 172 m := fun m => by unfold gI; rw [hCr 172 (by omega), a2 172 (by omega)]
      have e170 : gI C 170 (L (j - 1)) = nI ah := by unfold gI; rw [hCr 170 (by omega), a2 170 (by omega)]; exact ah3
      obtain ⟨Mb, g, b1, b2, b3, b4⟩ := a4 C e172
      generalize hE : sI (sI Mb 172 j (nI (L (j - 1)))) 172 (j - 1) (nI (L j)) = E
      have cg : ∀ b, b ≠ 172 → E.1 b = C.1 b := fun b h172 => by rw [← hE, sI_ne h172, sI_ne h172, b2.1 b h172]
      have cl : ∀ b, (b < 15 ∨ 61 ≤ b) → b ≠ 172 → E.1 b = S.1 b := fun b hb h172 => by rw [cg b h172, hCr b (by omega), a2 b (by omega)]
      have cm : ∀ k, cM E 16 k = if k = j then nI (L (j - 1)) else if k = j - 1 then nI (L j) else cM Sa 16 k := fun k => by
        rw [cM_keep (S := C) (fun b _ _ => cg b (by omega)) k, ← hC]
        rw [show (17 : Nat) = 16 + 1 from rfl, cM_sL (o := 16) hj5, cM_sL (o := 16) (show j - 1 < 5 by omega)]
      have gm : ∀ m, gI E 172 m = if m = j - 1 then nI (L j) else if m = j then nI (L (j - 1)) else g m := fun m => by
        rw [← hE, gI_sI, gI_sI, b2.2.2]
        by_cases hm : m = j - 1
        · simp [hm]
        · by_cases hm2 : m = j <;> simp [hm, hm2]
      refine ⟨nI (L (j - 1)), C, E, ?_, ?_, Inv_past hP hI hT hG hD hJ ?_ (fun b hb _ _ h172 => cl b hb h172) (fun i _ _ => ?_) (fun m hm => ?_) ?_⟩
      · unfold f_X6_moves
        rw [if_neg x0, cs_yes hn p1 hj, bd_ok, if_neg (by decide), sub1 hj1, bnd_ok (inB_nI (by omega) (by decide)), nI_clamp (by omega), c0, nm_ok, bnd_ok (inB_nI hj5 (by decide)), nI_clamp (by omega), c1, hmc, bd_ok, if_neg hs, if_pos rfl, a1, bd_ok, bnd_ok (inB_nI hj5 (by decide)), bnd_ok (inB_nI (by omega) (by decide)), nm_ok, ec j, c1, bnd_ok (inB_nI hj5 (by decide)), nm_ok, hC]
      · unfold f_X7_moves
        rw [bnd_ok in02, clamp0, e165, (mv_m hn (nI j)).1 ⟨j, hj1, hj, rfl⟩, bd_ok, if_neg (by decide), zero_nI, sub1 hj1, bnd_ok (inB_nI (by omega) (by decide)), nI_clamp (by omega), e172, m1, nm_ok, bnd_ok (inB_nI (by omega) (by decide)), nI_clamp (by omega), e172, m0, nm_ok, bnd_ok (inB_nI (by omega) (by decide)), nI_clamp (by omega), e170, if_neg hs, b1, bd_ok, bnd_ok (inB_nI (by omega) (by decide)), nm_ok, bnd_ok (inB_nI (by omega) (by decide)), nm_ok, hE]
      · rw [← hE]
        show Mb.2 = S.2
        rw [b2.2.1, ← hC]; exact a3
      · unfold gI; rw [cl 163 (by omega) (by omega)]
      · rw [gm, if_neg (by omega), if_neg (by omega)]; exact b3 m (Or.inr hm)
      · refine PR_of (g := fun m => gI E 172 m) (PX_pres hn b4 (fun b hb => ?_) (fun m h1 h2 => ?_) (fun k hk hok => ?_) ?_) (fun m _ => by rw [Nat.zero_add])
        · rw [cg b (by omega), hCr b (by omega)]
        · rw [gm, if_neg (by omega), if_neg (by omega)]
        · rw [cm, gm]
          by_cases e : k = j
          · rw [if_pos e, if_neg (by omega), if_pos e]
          · rw [if_neg e]
            by_cases e2 : k = j - 1
            · rw [if_pos e2, if_pos e2]
            · rw [if_neg e2, if_neg e2, if_neg e]; exact b4.1 k hk hok
        · obtain ⟨-, ⟨F, q2⟩, ⟨bb, q3, q4⟩, ⟨m, so, d, c, t, d1, d2, d3, d4, d5, d6⟩⟩ := b4.2.1
          have cS : ∀ k, k < 20 → cM Sa 16 k = cM S 16 k := fun k _ => cM_keep (fun b _ _ => a2 b (by omega)) k
          have o : ∀ k, 5 ≤ k → cM E 16 k = cM Sa 16 k := fun k hk => by rw [cm, if_neg (by omega), if_neg (by omega)]
          refine ⟨⟨fun i => if i = j then L (j - 1) else if i = j - 1 then L j else L i, fun i hi => ?_, fun i hi => ?_, fun s hs => ?_⟩, ⟨F, fun s hs => by rw [o _ (by omega)]; exact q2 s hs⟩, ⟨bb, q3, by rw [o _ (by omega)]; exact q4⟩, ⟨m, so, d, c, t, by rw [o _ (by omega)]; exact d1, by rw [o _ (by omega)]; exact d2, by rw [o _ (by omega)]; exact d3, by rw [o _ (by omega)]; exact d4, fun s hs => by rw [o _ (by omega)]; exact d5 s hs, d6⟩⟩
          · rw [cm]
            dsimp only
            by_cases e : i = j
            · rw [if_pos e, if_pos e]; exact ⟨rfl, (l1 (j - 1) (by omega)).2⟩
            · rw [if_neg e, if_neg e]
              by_cases e2 : i = j - 1
              · rw [if_pos e2, if_pos e2]; exact ⟨rfl, (l1 j hj5).2⟩
              · rw [if_neg e2, if_neg e2, cS i (by omega)]; exact l1 i hi
          · dsimp only
            by_cases e : i = j
            · rw [if_pos e]; exact hb
            · rw [if_neg e]
              by_cases e2 : i = j - 1
              · rw [if_pos e2]; exact ha
              · rw [if_neg e2]; exact l2 i hi
          · obtain ⟨i, i1, i2⟩ := l3 s hs
            by_cases e : i = j
            · exact ⟨j - 1, by omega, by dsimp only; rw [if_neg (by omega), if_pos rfl, ← e]; exact i2⟩
            · by_cases e2 : i = j - 1
              · exact ⟨j, hj, by dsimp only; rw [if_pos rfl, ← e2]; exact i2⟩
              · exact ⟨i, i1, by dsimp only; rw [if_neg e, if_neg e2]; exact i2⟩
  · refine simS h ⟨-1, by unfold f_X6_moves; rw [if_neg x0, cs_no p1 hx]; rfl, ?_⟩
    show f_X7_moves S _ = _
    unfold f_X7_moves; rw [bnd_ok in02, clamp0, p2, (mv_m hn x).2 (Or.inr hx)]; rfl
