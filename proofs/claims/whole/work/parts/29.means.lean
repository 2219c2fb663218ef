theorem pow5 {n : Nat} (hn : n ≤ 5) : 100 ^ n * 100 ^ (5 - n) = 10000000000 := by
  rw [← Nat.pow_add, show n + (5 - n) = 5 by omega]
theorem K_mul2 {n x c : Nat} (hn : n ≤ 5) (h : x ≤ c * 100 ^ n) : x * 100 ^ (5 - n) ≤ c * 10000000000 := by
  have h1 := Nat.mul_le_mul_right (100 ^ (5 - n)) h
  rw [Nat.mul_assoc, pow5 hn] at h1
  exact h1
theorem allfl {S : Mm} {n : Nat} (hP : IP n S) (hR : PR n S 15 0) (hD : ID S) : ∃ (p : Nat → Nat × Nat × Nat) (pr : Nat) (ls : Nat → Nat → Nat) (b : Nat), b < 32 ∧ gI S 16 3 = nI b ∧ gI S 172 10 = nI b ∧ (∀ w, (p w).1 + (p w).2.1 ≤ 100 ^ n ∧ (p w).2.2 + (p w).2.1 * pr ≤ 744 * 100 ^ n ∧ ∀ j, j < n → ls w j ≤ 100 ^ (j + 1)) ∧
    (∀ w T, w < 32 → U158 S T → ∃ E, f_X0_through T (pl T) 16 17 (nI w) = some ((), E) ∧ U158 S E ∧ gJ E 158 0 = lN ((p w).1 * 100 ^ (5 - n)) ∧ gJ E 158 1 = lN ((p w).2.1 * 100 ^ (5 - n)) ∧ gJ E 158 2 = lN (((p w).2.2 + (p w).2.1 * pr) * 100 ^ (5 - n)) ∧ ∀ j, j < n → gJ E 159 j = lN (ls w j * 100 ^ (5 - (j + 1)))) ∧
    (∀ M, M.1 = S.1 → ∃ M1, f_X7_takeRow M = some ((), M1) ∧ (∀ a, a ≠ 174 → M1.1 a = S.1 a) ∧ ∀ w M2, w < 32 → M2.1 = M1.1 → ∃ E, f_X7_measure M2 (nI w) = some ((), E) ∧ E.1 = M1.1 ∧ gJ E 163 21 = lN (100 ^ n) ∧ gJ E 163 22 = lN ((p w).2.2 + (p w).2.1 * pr) ∧ gJ E 163 23 = lN (p w).1 ∧ gJ E 163 24 = lN (p w).2.1 ∧ ∀ j, j < n → gJ E 175 j = lN (ls w j * 100 ^ (n - 1 - j))) := by
  have hn := hP.1
  obtain ⟨F, sec, lk, ms, ah, pr, L, b, DC, DM, LC, LM, hb, b1, b2⟩ := Dt_of hP hR
  have hF : ∀ s, s < n → F s ≤ 9 ∧ ms s ≤ 9 ∧ sec s ≤ 99 ∧ lk s ≤ 30 := fun s hs => by
    obtain ⟨-, y1, -, y2, -, y3, -, y4, -⟩ := DC.2.2.2.2 s hs
    exact ⟨y1, y4, y2, y3⟩
  have hpr : pr ≤ 99 := DC.2.2.2.1
  have hLn : ∀ i, i < n → (fun i => F (L i)) i ≤ 9 ∧ (fun i => ms (L i)) i ≤ 9 ∧ (fun i => sec (L i)) i ≤ 99 ∧ (fun i => lk (L i)) i ≤ 30 := fun i hi => hF (L i) (LC.2 i hi)
  refine ⟨fun w => fl (fun i => F (L i)) (fun i => sec (L i)) (fun i => lk (L i)) (fun i => ms (L i)) (fun i => bitq w (L i)) n, pr, fun w j => fls (fun i => F (L i)) (fun i => sec (L i)) (fun i => lk (L i)) (fun i => ms (L i)) (fun i => bitq w (L i)) j, b, pow_n hn hb, b1, b2, fun w => ?_, fun w T hw u => ?_, fun M hM => ?_⟩
  · obtain ⟨c1, c2⟩ := fl_bd (lo := fun i => bitq w (L i)) hLn n (Nat.le_refl _)
    dsimp only
    refine ⟨c1, ?_, fun j hj => fls_bd hLn hj⟩
    generalize fl (fun i => F (L i)) (fun i => sec (L i)) (fun i => lk (L i)) (fun i => ms (L i)) (fun i => bitq w (L i)) n = q at c1 c2
    have c3 : q.2.1 * pr ≤ 100 ^ n * 99 := Nat.mul_le_mul (by omega) hpr
    have c4 : 129 * n * 100 ^ n ≤ 645 * 100 ^ n := Nat.mul_le_mul_right _ (by omega)
    omega
  · rw [U158_p u]
    exact thr_c hD DC (fun i hi => ⟨(LC.1 i (by omega)).1, LC.2 i hi⟩) (by decide) hw u rfl
  · obtain ⟨M1, m1, m2, m3, m4⟩ := row_m (S := M)
    have m2' : ∀ a, a ≠ 174 → M1.1 a = S.1 a := fun a ha => by rw [m2 a ha, hM]
    refine ⟨M1, m1, m2', fun w M2 hw hM2 => ?_⟩
    have hR1 : RwM M1 n L := fun i hi => ⟨by rw [m4 i (by omega)]; unfold gI; rw [hM]; exact LM i (by omega), LC.2 i hi⟩
    obtain ⟨E, e1, e2⟩ := meas_m (S := M1) hn (DtM_keep DM (fun a h1 h2 => m2' a (by omega))) hF hpr hR1 hw hM2 rfl
    obtain ⟨c0, c1, c2, c3, c4, c5⟩ := e2
    refine ⟨E, e1, c0, c1, c2, c3, c4, fun j hj => ?_⟩
    rw [(c5 j (by omega)).1]
    dsimp only
    rw [if_pos hj]
theorem x03 {x : Int32} (h0 : ¬ x < 0) (h3 : ¬ (3 : Int32) < x) : x = 0 ∨ x = 1 ∨ x = 2 ∨ x = 3 := by
  obtain ⟨j, hj, rfl⟩ := nI_of h0
  have : j ≤ 3 := by
    rcases Nat.lt_or_ge 3 j with q | q
    · exact absurd (nI_lt (a := 3) q hj) h3
    · exact q
  rcases (show j = 0 ∨ j = 1 ∨ j = 2 ∨ j = 3 by omega) with e | e | e | e <;> subst e
  · exact Or.inl rfl
  · exact Or.inr (Or.inl rfl)
  · exact Or.inr (Or.inr (Or.inl rfl))
  · exact Or.inr (Or.inr (Or.inr rfl))
theorem big10 {n : Nat} (hn : n ≤ 5) : (10000000000 : Int64) = lN (100 ^ n * 100 ^ (5 - n)) := by rw [pow5 hn]; rfl
theorem p100p (n : Nat) : 0 < 100 ^ n := Nat.pow_pos (by omega)
theorem one0 : ¬ (1 : Int32) = 0 := by decide
theorem sm_mean : sim_mean Inv := fun S h x1 x2 => by
  obtain ⟨n, hP, hR, hI, hT, hG, hD, hJ⟩ := id h
  have hn := hP.1
  obtain ⟨p, pr, ls, b, hb, b1, b2, bd1, hc, hm⟩ := allfl hP hR hD
  by_cases x0 : x1 < 0
  · refine simS h ⟨-1, by unfold f_X6_mean; rw [if_pos x0], ?_⟩
    show f_X7_mean S _ _ = _
    unfold f_X7_mean; rw [in_ok, if_pos x0]; rfl
  by_cases x3 : (3 : Int32) < x1
  · refine simS h ⟨-1, by unfold f_X6_mean; rw [if_neg x0, if_pos x3], ?_⟩
    show f_X7_mean S _ _ = _
    unfold f_X7_mean; rw [in_ok, if_neg x0, if_pos x3]; rfl
  by_cases hx2 : x2 = 0 ∨ x2 = 1
  · obtain ⟨E, e1, e2, e3, e4, e5, e6⟩ := hc b S hb ⟨rfl, rfl⟩
    obtain ⟨g1, g2, -⟩ := bd1 b
    have hk := p100p (5 - n)
    have hkn := p100p n
    have v0 := K_mul2 hn (c := 1) (show (p b).1 ≤ 1 * 100 ^ n by omega)
    have v1 := K_mul2 hn (c := 1) (show (p b).2.1 ≤ 1 * 100 ^ n by omega)
    have v2 := K_mul2 hn g2
    have vn := pow5 hn
    have pn := p100 hn
    have ef : f_X6_flowNow S = some ((), E) := by unfold f_X6_flowNow; rw [b1, e1]; rfl
    have key : ∃ r, f_X6_mean S x1 x2 = some (r, E) ∧ ∃ E', f_X7_mean E x1 x2 = some (r, E') := by
      obtain ⟨M1, m1, m2, m3⟩ := hm E e2.1
      obtain ⟨E', w1, w2, w3, w4, w5, w6, -⟩ := m3 b M1 hb rfl
      have e10 : gI M1 172 10 = nI b := by unfold gI; rw [m2 172 (by omega)]; exact b2
      have pc : f_X6_mean S x1 x2 = (if x1 = 0 then bd (f_X6_part E (gJ E 158 2) 10000000000 x2) (fun r S => some (r, S)) else if x1 = 1 then bd (f_X6_part E (gJ E 158 0) 10000000000 x2) (fun r S => some (r, S)) else if x1 = 2 then bd (f_X6_part E (gJ E 158 1) 10000000000 x2) (fun r S => some (r, S)) else bd (f_X6_part E (gJ E 158 2) (gJ E 158 0) x2) (fun r S => some (r, S))) := by
        unfold f_X6_mean
        rw [if_neg x0, if_neg x3, (isBit_yes hx2).1, bd_ok, if_neg one0, ef, bd_ok]
      have pm : f_X7_mean E x1 x2 = (if x1 = 0 then bd (f_X7_part E' (gJ E' 163 22) (gJ E' 163 21) x2) (fun r S => some (r, S)) else if x1 = 1 then bd (f_X7_part E' (gJ E' 163 23) (gJ E' 163 21) x2) (fun r S => some (r, S)) else if x1 = 2 then bd (f_X7_part E' (gJ E' 163 24) (gJ E' 163 21) x2) (fun r S => some (r, S)) else if lg_cmp (gJ E' 163 23) 0 = 0 then some (-9, E') else bd (f_X7_part E' (gJ E' 163 22) (gJ E' 163 23) x2) (fun r S => some (r, S))) := by
        unfold f_X7_mean
        rw [in_ok, if_neg x0, if_neg x3, bd_ok, if_neg one0, (isBit_yes hx2).2, bd_ok, if_neg one0, m1, bd_ok, bnd_ok (by decide), show (10 : Int32).toNatClampNeg = 10 by decide, e10, w1, bd_ok]
      rcases x03 x0 x3 with e | e | e | e
      · refine ⟨fr ((p b).2.2 + (p b).2.1 * pr) (100 ^ n) x2, ?_, E', ?_⟩
        · rw [pc, if_pos e, e5, big10 hn, part_c2 hk (by omega) (by omega), if_neg (by omega), bd_ok]
        · rw [pm, if_pos e, w4, w3, part_m (by omega) (by omega) hkn, bd_ok]
      · refine ⟨fr (p b).1 (100 ^ n) x2, ?_, E', ?_⟩
        · rw [pc, if_neg (by rw [e]; decide), if_pos e, e3, big10 hn, part_c2 hk (by omega) (by omega), if_neg (by omega), bd_ok]
        · rw [pm, if_neg (by rw [e]; decide), if_pos e, w5, w3, part_m (by omega) (by omega) hkn, bd_ok]
      · refine ⟨fr (p b).2.1 (100 ^ n) x2, ?_, E', ?_⟩
        · rw [pc, if_neg (by rw [e]; decide), if_neg (by rw [e]; decide), if_pos e, e4, big10 hn, part_c2 hk (by omega) (by omega), if_neg (by omega), bd_ok]
        · rw [pm, if_neg (by rw [e]; decide), if_neg (by rw [e]; decide), if_pos e, w6, w3, part_m (by omega) (by omega) hkn, bd_ok]
      · refine ⟨if (p b).1 = 0 then -9 else fr ((p b).2.2 + (p b).2.1 * pr) (p b).1 x2, ?_, E', ?_⟩
        · rw [pc, if_neg (by rw [e]; decide), if_neg (by rw [e]; decide), if_neg (by rw [e]; decide), e5, e3, part_c2 hk (by omega) (by omega), bd_ok]
        · rw [pm, if_neg (by rw [e]; decide), if_neg (by rw [e]; decide), if_neg (by rw [e]; decide), w5]
          by_cases hg : (p b).1 = 0
          · rw [if_pos hg, if_pos ((lc0 (by omega)).2 hg)]
          · rw [if_neg hg, if_neg (fun q => hg ((lc0 (by omega)).1 q)), w4, part_m (by omega) (by omega) (by omega), bd_ok]
    obtain ⟨r, k1, E', k2⟩ := key
    exact ⟨r, E, E', k1, k2, Inv_scr h (cc_X6_mean k1) (cm_X7_mean k2)⟩
  · refine simS h ⟨-1, by unfold f_X6_mean; rw [if_neg x0, if_neg x3, (isBit_no hx2).1]; rfl, ?_⟩
    show f_X7_mean S _ _ = _
    unfold f_X7_mean; rw [in_ok, if_neg x0, if_neg x3, bd_ok, if_neg one0, (isBit_no (S := S) hx2).2]; rfl

theorem sm_lost : sim_lost Inv := fun S h x1 x2 => by
  obtain ⟨n, hP, hR, hI, hT, hG, hD, hJ⟩ := id h
  obtain ⟨hn, p1, p2, -⟩ := id hP
  obtain ⟨p, pr, ls, b, hb, b1, b2, bd1, hc, hm⟩ := allfl hP hR hD
  rcases stp_cases n hn x1 with ⟨j, hj, rfl⟩ | hx
  · by_cases hx2 : x2 = 0 ∨ x2 = 1
    · obtain ⟨E, e1, e2, e3, e4, e5, e6⟩ := hc b S hb ⟨rfl, rfl⟩
      have hk := p100p (5 - n)
      have hkn := p100p n
      have vn := pow5 hn
      have pn := p100 hn
      have ef : f_X6_flowNow S = some ((), E) := by unfold f_X6_flowNow; rw [b1, e1]; rfl
      obtain ⟨M1, m1, m2, m3⟩ := hm E e2.1
      obtain ⟨E', w1, w2, w3, w4, w5, w6, w7⟩ := m3 b M1 hb rfl
      have e10 : gI M1 172 10 = nI b := by unfold gI; rw [m2 172 (by omega)]; exact b2
      have sc : ls b j * 100 ^ (5 - (j + 1)) = ls b j * 100 ^ (n - 1 - j) * 100 ^ (5 - n) := by
        rw [Nat.mul_assoc, ← Nat.pow_add, show n - 1 - j + (5 - n) = 5 - (j + 1) by omega]
      have bl : ls b j * 100 ^ (5 - (j + 1)) ≤ 10000000000 := K_mul (by omega) ((bd1 b).2.2 j hj)
      have bm : ls b j * 100 ^ (n - 1 - j) ≤ 10000000000 := by
        rw [sc] at bl
        exact Nat.le_trans (Nat.le_mul_of_pos_right _ hk) bl
      have k1 : f_X6_lost S (nI j) x2 = some (fr (ls b j * 100 ^ (n - 1 - j)) (100 ^ n) x2, E) := by
        unfold f_X6_lost
        rw [cs_yes hn p1 hj, bd_ok, if_neg one0, (isBit_yes hx2).1, bd_ok, if_neg one0, ef, bd_ok, bnd_ok (inB_nI (by omega) (by decide)), nI_clamp (by omega), e6 j hj, sc, big10 hn, part_c2 hk (by omega) (by omega), if_neg (by omega), bd_ok]
      have k2 : f_X7_lost E (nI j) x2 = some (fr (ls b j * 100 ^ (n - 1 - j)) (100 ^ n) x2, E') := by
        unfold f_X7_lost
        rw [ms_yes hn (show gI E 165 0 = nI n by rw [U158_g e2]; exact p2) hj, bd_ok, if_neg one0, (isBit_yes hx2).2, bd_ok, if_neg one0, m1, bd_ok, bnd_ok (by decide), show (10 : Int32).toNatClampNeg = 10 by decide, e10, w1, bd_ok, bnd_ok (inB_nI (by omega) (by decide)), nI_clamp (by omega), w7 j hj, w3, part_m (by omega) (by omega) hkn, bd_ok]
      exact ⟨_, E, E', k1, k2, Inv_scr h (cc_X6_lost k1) (cm_X7_lost k2)⟩
    · refine simS h ⟨-1, by unfold f_X6_lost; rw [cs_yes hn p1 hj, bd_ok, if_neg one0, (isBit_no (S := S) hx2).1]; rfl, ?_⟩
      show f_X7_lost S _ _ = _
      unfold f_X7_lost; rw [ms_yes hn p2 hj, bd_ok, if_neg one0, (isBit_no (S := S) hx2).2]; rfl
  · refine simS h ⟨-1, by unfold f_X6_lost; rw [cs_no p1 hx]; rfl, ?_⟩
    show f_X7_lost S _ _ = _
    unfold f_X7_lost; rw [ms_no hn p2 hx]; rfl
theorem x199 {x : Int32} (h0 : ¬ x < 1) (h3 : ¬ (99 : Int32) < x) : ∃ j, 1 ≤ j ∧ j ≤ 99 ∧ x = nI j := by
  have h00 : ¬ x < 0 := fun q => h0 (Int32.lt_trans q (by decide))
  obtain ⟨j, hj, rfl⟩ := nI_of h00
  refine ⟨j, ?_, ?_, rfl⟩
  · rcases Nat.lt_or_ge j 1 with q | q
    · exact absurd (nI_lt (b := 1) q (by decide)) h0
    · exact q
  · rcases Nat.lt_or_ge 99 j with q | q
    · exact absurd (nI_lt (a := 99) q hj) h3
    · exact q
theorem sm_paper : sim_paper Inv := fun S h x1 x2 => by
  obtain ⟨n, hP, hR, hI, hT, hG, hD, hJ⟩ := id h
  have hn := hP.1
  obtain ⟨p, pr, ls, b, hb, b1, b2, bd1, hc, hm⟩ := allfl hP hR hD
  by_cases x0 : x1 < 1
  · refine simS h ⟨-1, by unfold f_X6_paper; rw [if_pos x0], ?_⟩
    show f_X7_paper S _ _ = _
    unfold f_X7_paper; rw [in_ok, if_pos x0]; rfl
  by_cases x3 : (99 : Int32) < x1
  · refine simS h ⟨-1, by unfold f_X6_paper; rw [if_neg x0, if_pos x3], ?_⟩
    show f_X7_paper S _ _ = _
    unfold f_X7_paper; rw [in_ok, if_neg x0, if_pos x3]; rfl
  by_cases hx2 : x2 = 0 ∨ x2 = 1
  · obtain ⟨j, j1, j2, rfl⟩ := x199 x0 x3
    obtain ⟨E, e1, e2, e3, e4, e5, e6⟩ := hc b S hb ⟨rfl, rfl⟩
    obtain ⟨g1, g2, -⟩ := bd1 b
    have hk := p100p (5 - n)
    have hkn := p100p n
    have pn := p100 hn
    have ef : f_X6_flowNow S = some ((), E) := by unfold f_X6_flowNow; rw [b1, e1]; rfl
    obtain ⟨M1, m1, m2, m3⟩ := hm E e2.1
    obtain ⟨E', w1, w2, w3, w4, w5, w6, w7⟩ := m3 b M1 hb rfl
    have e10 : gI M1 172 10 = nI b := by unfold gI; rw [m2 172 (by omega)]; exact b2
    have t1 : (p b).2.1 * j ≤ 100 ^ n * 99 := Nat.mul_le_mul (by omega) j2
    have v1 := K_mul2 hn (c := 99) (show (p b).2.1 * j ≤ 99 * 100 ^ n by omega)
    have v2 := K_mul2 hn (c := 1) (show (p b).1 + (p b).2.1 ≤ 1 * 100 ^ n by omega)
    have k1 : f_X6_paper S (nI j) x2 = some (if (p b).1 + (p b).2.1 = 0 then -9 else fr ((p b).2.1 * j) ((p b).1 + (p b).2.1) x2, E) := by
      unfold f_X6_paper
      rw [if_neg x0, if_neg x3, (isBit_yes hx2).1, bd_ok, if_neg one0, ef, bd_ok, e3, e4, nI_l (by omega), lN_mul, lN_add, ← Nat.add_mul, Nat.mul_right_comm, part_c2 hk (by omega) (by omega), bd_ok]
    have k2 : f_X7_paper E (nI j) x2 = some (if (p b).1 + (p b).2.1 = 0 then -9 else fr ((p b).2.1 * j) ((p b).1 + (p b).2.1) x2, E') := by
      unfold f_X7_paper
      rw [in_ok, if_neg x0, if_neg x3, bd_ok, if_neg one0, (isBit_yes hx2).2, bd_ok, if_neg one0, m1, bd_ok, bnd_ok (by decide), show (10 : Int32).toNatClampNeg = 10 by decide, e10, w1, bd_ok, w5, w6, lN_add]
      by_cases hg : (p b).1 + (p b).2.1 = 0
      · rw [if_pos hg, if_pos ((lc0 (by omega)).2 hg)]
      · rw [if_neg hg, if_neg (fun q => hg ((lc0 (by omega)).1 q)), nI_l (by omega), lN_mul, Nat.mul_comm j, part_m (by omega) (by omega) (by omega), bd_ok]
    exact ⟨_, E, E', k1, k2, Inv_scr h (cc_X6_paper k1) (cm_X7_paper k2)⟩
  · refine simS h ⟨-1, by unfold f_X6_paper; rw [if_neg x0, if_neg x3, (isBit_no (S := S) hx2).1]; rfl, ?_⟩
    show f_X7_paper S _ _ = _
    unfold f_X7_paper; rw [in_ok, if_neg x0, if_neg x3, bd_ok, if_neg one0, (isBit_no (S := S) hx2).2]; rfl
