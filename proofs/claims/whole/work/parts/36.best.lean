theorem otl_id2 {ah L : Nat → Nat} {n : Nat} (hL : ∀ i, i < n → L i = i) (h : ∀ s, s < n → ∀ j, j ≤ s → (ah s).testBit j = false) : ∀ i, i ≤ n → otl ah L i = true := by
  have hin : ∀ s, s < n → ∀ j, j ≤ s → inn (ah s) L j = true := by
    intro s hs j
    induction j with
    | zero => intro _; rfl
    | succ j ih =>
      intro hj
      show (inn (ah s) L j && decide (ah s / 2 ^ (L j) % 2 = 0)) = true
      have hb := h s hs j (by omega)
      rw [Nat.testBit_eq_decide_div_mod_eq] at hb
      have hb2 := of_decide_eq_false hb
      rw [ih (by omega), hL j (by omega), decide_eq_true (by omega)]; rfl
  intro i
  induction i with
  | zero => intro _; rfl
  | succ i ih =>
    intro hi
    show (otl ah L i && inn (ah (L i)) L i) = true
    rw [ih (by omega), hL i (by omega), hin i (by omega) i (Nat.le_refl _)]; rfl
theorem fo2 {S : Mm} {n : Nat} (hn : n ≤ 5) (hC : gI S (pl S) 0 = nI n) (hpl : pl S ≤ 9) : ∀ (r i fu : Nat) (T : Mm), i + r = n → r < fu → CF S T → (∀ j, j < i → gI T 161 j = nI j) → ∃ T', f_X6_findLeastOrder_2 fu (nI i) T = f_X6_findLeastOrder_32 400 10000000000000 0 T' ∧ CF S T' ∧ ∀ j, j < n → gI T' 161 j = nI j := by
  intro r
  induction r with
  | zero =>
    intro i fu T hi hf h1 h2
    obtain ⟨f', rfl⟩ : ∃ f', fu = f' + 1 := ⟨fu - 1, by omega⟩
    obtain rfl : i = n := by omega
    have : pl T = pl S := by unfold pl; rw [h1.2]
    rw [f_X6_findLeastOrder_2, show gI T (pl T) 0 = nI i by rw [this]; unfold gI; rw [h1.1 _ (by omega) (by omega)]; exact hC, if_pos (nI_le (Nat.le_refl _) (by omega))]
    exact ⟨T, rfl, h1, h2⟩
  | succ r ih =>
    intro i fu T hi hf h1 h2
    obtain ⟨f', rfl⟩ : ∃ f', fu = f' + 1 := ⟨fu - 1, by omega⟩
    have : pl T = pl S := by unfold pl; rw [h1.2]
    rw [f_X6_findLeastOrder_2, show gI T (pl T) 0 = nI n by rw [this]; unfold gI; rw [h1.1 _ (by omega) (by omega)]; exact hC, if_neg (nI_ge (show i < n by omega) (by omega)), bnd_ok (inB_nI (by omega) (by decide)), nI_clamp (by omega), nm_ok, nm_ok, nI_1]
    refine ih (i + 1) f' _ (by omega) (by omega) ⟨fun a q1 q2 => by rw [sI_ne q1]; exact h1.1 a q1 q2, h1.2⟩ (fun j hj => ?_)
    by_cases e : j = i
    · rw [gI_sI, if_pos ⟨rfl, e⟩, e]
    · rw [gI_sI, if_neg (by omega)]; exact h2 j (by omega)
theorem bo12 {S : Mm} {x1 : Int32} : ∀ (r i fu : Nat) (M : Mm), i + r = 5 → r < fu → MF S M → (∀ j, j < i → gI M 174 j = nI j) → ∃ M', f_X7_bestOrder_12 fu x1 (nI i) M = f_X7_bestOrder_37 400 x1 (-1) 1 M' ∧ MF S M' ∧ ∀ j, j < 5 → gI M' 174 j = nI j := by
  intro r
  induction r with
  | zero =>
    intro i fu M hi hf h1 h2
    obtain ⟨f', rfl⟩ : ∃ f', fu = f' + 1 := ⟨fu - 1, by omega⟩
    rw [f_X7_bestOrder_12, show i = 5 by omega, if_pos (by decide)]
    exact ⟨M, rfl, h1, fun j hj => h2 j (by omega)⟩
  | succ r ih =>
    intro i fu M hi hf h1 h2
    obtain ⟨f', rfl⟩ : ∃ f', fu = f' + 1 := ⟨fu - 1, by omega⟩
    rw [f_X7_bestOrder_12, if_neg (show ¬ 5 ≤ nI i from nI_ge (b := 5) (by omega) (by decide)), bnd_ok (inB_nI (by omega) (by decide)), nI_clamp (by omega), nm_ok, nm_ok, nI_1]
    refine ih (i + 1) f' _ (by omega) (by omega) (fun a q1 q2 q3 q4 => by rw [sI_ne q3]; exact h1 a q1 q2 q3 q4) (fun j hj => ?_)
    by_cases e : j = i
    · rw [gI_sI, if_pos ⟨rfl, e⟩, e]
    · rw [gI_sI, if_neg (by omega)]; exact h2 j (by omega)
theorem id5 {i : Nat} (h : i < 5) : [0, 1, 2, 3, 4].getD i 0 = i := by
  rcases (show i = 0 ∨ i = 1 ∨ i = 2 ∨ i = 3 ∨ i = 4 by omega) with e | e | e | e | e <;> subst e <;> rfl
theorem sm_bestOrder : sim_bestOrder Inv := fun S h x1 => by
  obtain ⟨n, hP, hR, hI, hT, hG, hD, hJ⟩ := id h
  obtain ⟨hn, p1, p2, -⟩ := id hP
  have hpl : pl S ≤ 9 := by rcases hD with ⟨y, -⟩ | ⟨y, -⟩ <;> omega
  rcases stp_cases n hn x1 with ⟨x, hx, rfl⟩ | hx
  · obtain ⟨F, sec, lk, ms, ah, pr, L0, b, DC, DM, LC, LM, hb, b1, b2⟩ := Dt_of hP hR
    have hb32 := pow_n hn hb
    have hF : ∀ s, s < n → F s ≤ 9 ∧ ms s ≤ 9 ∧ sec s ≤ 99 ∧ lk s ≤ 30 := fun s hs => by
      obtain ⟨-, y1, -, y2, -, y3, -, y4, -⟩ := DC.2.2.2.2 s hs
      exact ⟨y1, y4, y2, y3⟩
    have hah : ∀ s, s < n → ah s < 32 ∧ ∀ j, j ≤ s → (ah s).testBit j = false := fun s hs => by
      obtain ⟨-, -, -, -, -, -, -, -, -, y1, y2⟩ := DC.2.2.2.2 s hs
      exact ⟨y1, y2⟩
    have hpr : pr ≤ 99 := DC.2.2.2.1
    obtain ⟨T1, t1, t2, t3⟩ := fo2 hn p1 hpl n 0 400 S (by omega) (by omega) ⟨fun _ _ _ => rfl, rfl⟩ (fun j hj => by omega)
    obtain ⟨B', ⟨E, c1, c2, c3⟩, c4⟩ := ord_both (S := S) hn (K := 100 ^ (5 - n)) (p100p (5 - n)) (lw := fun l => otl ah (fun i => l.getD i 0) n) (c := fun l => (fl (fun i => F (l.getD i 0)) (fun i => sec (l.getD i 0)) (fun i => lk (l.getD i 0)) (fun i => ms (l.getD i 0)) (fun i => bitq b (l.getD i 0)) n).2.2 + (fl (fun i => F (l.getD i 0)) (fun i => sec (l.getD i 0)) (fun i => lk (l.getD i 0)) (fun i => ms (l.getD i 0)) (fun i => bitq b (l.getD i 0)) n).2.1 * pr)
      (fun l gd => by
        refine K_mul2 hn (c := 744) ?_
        obtain ⟨q1, q2⟩ := fl_bd (f := fun i => F (l.getD i 0)) (sc := fun i => sec (l.getD i 0)) (lk := fun i => lk (l.getD i 0)) (ms := fun i => ms (l.getD i 0)) (lo := fun i => bitq b (l.getD i 0)) (n := n) (fun i hi => hF _ (gd i hi)) n (Nat.le_refl _)
        generalize fl (fun i => F (l.getD i 0)) (fun i => sec (l.getD i 0)) (fun i => lk (l.getD i 0)) (fun i => ms (l.getD i 0)) (fun i => bitq b (l.getD i 0)) n = q at q1 q2
        have q3 : q.2.1 * pr ≤ 100 ^ n * 99 := Nat.mul_le_mul (by omega) hpr
        have q4 : 129 * n * 100 ^ n ≤ 645 * 100 ^ n := Nat.mul_le_mul_right _ (by omega)
        omega) p1 hpl p2
      (fun l T gd hT hrow => by
        have hp : pl T = pl S := by unfold pl; rw [hT.2]
        have DC' : DtC T n F sec lk ms ah pr := DtC_keep hD DC hp (fun a ha => hT.1 a (by omega) (by omega))
        have hD' : ID T := by unfold ID; rw [hp, show dr T = dr S by unfold dr; rw [hT.2]]; exact hD
        refine ⟨lawf_c hn DC'.2.1 (fun i hi => ⟨hrow i hi, gd i hi⟩) (fun s hs => ?_), ?_⟩
        · obtain ⟨-, -, -, -, -, -, -, -, y0, y1, y2⟩ := DC'.2.2.2.2 s hs
          exact ⟨y0, y1⟩
        · rw [show gI T 16 3 = nI b by unfold gI; rw [hT.1 16 (by omega) (by omega)]; exact b1]
          obtain ⟨E, e1, e2, -, -, e5, -⟩ := thr_c (S := T) (T := T) (L := fun i => l.getD i 0) (a3 := 161) hD' DC' (fun i hi => ⟨hrow i hi, gd i hi⟩) LL161 hb32 ⟨rfl, rfl⟩ rfl
          exact ⟨E, e1, e2, e5⟩)
      (fun l M gd hM hrow => by
        have DM' : DtM M n F sec lk ms ah pr := DtM_keep DM (fun a h1 h2 => hM a (by omega) (by omega) (by omega) (by omega))
        have hR1 : RwM M n (fun i => l.getD i 0) := fun i hi => ⟨hrow i (by omega), gd i hi⟩
        refine ⟨lawf_m hn DM'.1 hR1 (fun s hs => ⟨(DM'.2.2 s hs).2.2.2.2, (hah s hs).1⟩), ?_⟩
        rw [show gI M 172 10 = nI b by unfold gI; rw [hM 172 (by omega) (by omega) (by omega) (by omega)]; exact b2]
        obtain ⟨E, e1, e2⟩ := meas_m (S := M) (M := M) hn DM' hF hpr hR1 hb32 rfl rfl
        exact ⟨E, e1, e2.1, e2.2.2.1⟩)
      hx 120 [0, 1, 2, 3, 4] 0 400 400 false 10000000000000 (-1) 0 (fun _ => 0) (chk_all hn) (by omega) (by omega) (by omega) (fun _ => ⟨rfl, rfl, otl_id2 (fun i hi => id5 (by omega)) (fun s hs => (hah s hs).2) n (Nat.le_refl _)⟩) (fun q => by simp at q) T1 t2 (fun i hi => by rw [t3 i hi, id5 (by omega)]) (fun q => by simp at q)
    have k1 : f_X6_bestOrder S (nI x) = some (B' x, E) := by
      unfold f_X6_bestOrder f_X6_findLeastOrder
      rw [cs_yes hn p1 hx, bd_ok, if_neg one0, show (0 : Int32) = nI 0 from rfl, t1, show f_X6_findLeastOrder_32 400 10000000000000 0 T1 = some ((), E) from c1, bd_ok, bnd_ok (inB_nI (by omega) (by decide)), nI_clamp (by omega), c3 x hx]
    obtain ⟨M1, m1, m2, m3⟩ := bo12 (S := S) (x1 := nI x) 5 0 400 E (by omega) (by omega) (fun a h1 h2 _ _ => c2.1 a h1 h2) (fun j hj => by omega)
    obtain ⟨Z, z1⟩ := c4 M1 m2 (fun i hi => by rw [m3 i hi, id5 hi]) (fun q => by simp at q)
    have k2 : f_X7_bestOrder E (nI x) = some (B' x, Z) := by
      unfold f_X7_bestOrder
      rw [ms_yes hn (show gI E 165 0 = nI n by unfold gI; rw [c2.1 165 (by omega) (by omega)]; exact p2) hx, bd_ok, if_neg one0, show (0 : Int32) = nI 0 from rfl, m1]
      exact z1
    exact ⟨B' x, E, Z, k1, k2, Inv_scr h (cc_X6_bestOrder k1) (cm_X7_bestOrder k2)⟩
  · refine simS h ⟨-1, by unfold f_X6_bestOrder; rw [cs_no p1 hx]; rfl, ?_⟩
    show f_X7_bestOrder S _ = _
    unfold f_X7_bestOrder; rw [ms_no hn p2 hx]; rfl
