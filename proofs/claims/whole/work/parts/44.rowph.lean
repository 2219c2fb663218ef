/-! rows of the draft, on both sides -/
def ws_DR (d n : Nat) (T M : Mm) : Prop := n ≤ 5 ∧ gI T d 0 = nI n ∧ gI M 165 1 = nI n ∧ (∃ pr, pr ≤ 99 ∧ gI T d 1 = nI pr ∧ gI M 171 1 = nI pr) ∧ (∀ s, s < n → (∃ x, x ≤ 99 ∧ gI T (d + 1) s = nI x ∧ gI M 166 (5 + s) = nI x) ∧ (∃ x, x ≤ 9 ∧ gI T (d + 2) s = nI x ∧ gI M 167 s = nI x) ∧ (∃ x, x ≤ 30 ∧ gI T (d + 3) s = nI x ∧ gI M 168 (5 + s) = nI x) ∧ (∃ x, x ≤ 9 ∧ gI T (d + 4) s = nI x ∧ gI M 169 (5 + s) = nI x) ∧ ∃ x, x < 32 ∧ (∀ j, j ≤ s → x.testBit j = false) ∧ gI T (d + 5) s = nI x ∧ gI M 170 (5 + s) = nI x) ∧ (∀ s, s < 5 → n ≤ s → gI M 170 (5 + s) = nI 0) ∧ gI T 1 6 = gI M 163 10
theorem ws_DRk {d n : Nat} {T M T' M' : Mm} (h : ws_DR d n T M) (h1 : ∀ a j, d ≤ a → a < d + 6 → gI T' a j = gI T a j) (h6 : gI T' 1 6 = gI T 1 6) (h2 : ∀ b j, b ≠ 163 → gI M' b j = gI M b j) (h10 : gI M' 163 10 = gI M 163 10) : ws_DR d n T' M' := by
  obtain ⟨a1, a2, a3, ⟨pr, p0, p1, p2⟩, a5, a6, a7⟩ := h
  refine ⟨a1, by rw [h1 d 0 (by omega) (by omega)]; exact a2, by rw [h2 165 1 (by omega)]; exact a3, ⟨pr, p0, by rw [h1 d 1 (by omega) (by omega)]; exact p1, by rw [h2 171 1 (by omega)]; exact p2⟩, fun s hs => ?_, fun s h5 hs => by rw [h2 170 _ (by omega)]; exact a6 s h5 hs, by rw [h6, h10]; exact a7⟩
  rw [h1 (d + 1) s (by omega) (by omega), h1 (d + 2) s (by omega) (by omega), h1 (d + 3) s (by omega) (by omega), h1 (d + 4) s (by omega) (by omega), h1 (d + 5) s (by omega) (by omega), h2 166 _ (by omega), h2 167 _ (by omega), h2 168 _ (by omega), h2 169 _ (by omega), h2 170 _ (by omega)]
  exact a5 s hs
theorem KM_k {bt : Nat → Nat} {ln a : Nat} {M F : Mm} (h : ws_KM bt ln M a) (e : ∀ j, 11 ≤ j → j ≤ 14 → gI F 163 j = gI M 163 j) : ws_KM bt ln F a := by
  unfold ws_KM
  rw [e 11 (by omega) (by omega), e 12 (by omega) (by omega), e 13 (by omega) (by omega), e 14 (by omega) (by omega)]
  exact h
def ws_RO (bt : Nat → Nat) (ln d b : Nat) (T M : Mm) (X : Option (Int32 × Mm)) (Y : Option (Unit × Mm)) : Prop :=
  (∃ E F b' n', X = some (1, E) ∧ Y = some ((), F) ∧ ws_FC d T E ∧ ws_FM M F ∧ gI E 1 3 = nI b' ∧ b ≤ b' ∧ b' ≤ ln ∧ ws_KM bt ln F b' ∧ gI F 163 15 = -9 ∧ ws_DR d n' E F) ∨
  (∃ E F s, X = some (0, E) ∧ Y = some ((), F) ∧ ws_FC d T E ∧ ws_FM M F ∧ gI E 1 2 = nI s ∧ gI F 163 15 = nI s ∧ s ≤ 150)
theorem row_p {bt : Nat → Nat} {ln d b n : Nat} {T M : Mm} (hd : 3 ≤ d) (hb : b ≤ ln) (hT : TxC bt ln T) (hM : TxM bt ln M) (e3 : gI T 1 3 = nI b) (k : ws_KM bt ln M b) (h9 : gI M 163 15 = -9) (hD : ws_DR d n T M) : ws_RO bt ln d b T M (f_X5_readPrice T d) (f_X7_readRow M 112) := by
  have h150 := hT.1
  obtain ⟨b1, b2, b3, b4, b5, b6⟩ := ws_en_b (bt := bt) hb
  have c2 := (sk_b (bt := bt) hb).2.1
  obtain ⟨E, a1, ⟨i2, i3, i4, i5⟩, ay, an⟩ := rn_c (x1 := 0) (x2 := 99) hb hT e3
  obtain ⟨F, v, g1, g2, g3, g10, gy, gn⟩ := rn_m (x1 := 0) (x2 := 99) hb hM k h9
  have hm : f_X7_readRow M 112 = some ((), sI (sI F 171 1 v) 163 10 1) := by
    unfold f_X7_readRow
    rw [if_neg (by decide), if_neg (by decide), g1, bd_ok, bnd_ok in12, clamp1, nm_ok, nm_ok]
  have fm : ws_FM M (sI (sI F 171 1 v) 163 10 1) := ws_FMt g2 (ws_FMt (ws_FMs (by omega)) (ws_FMs (by omega)))
  by_cases ok : nOk bt ln b 0 99
  · obtain ⟨rfl, y2, y3⟩ := gy ok
    have w9 := b4 ok.1
    refine Or.inl ⟨sI (sI E d 1 (nI (ws_wt bt ln b))) 1 6 1, _, ws_en bt ln b, n, ?_, hm, ws_FCt (ws_FCu a1) (ws_FCt (ws_FCs (by omega) (by omega) hd) (ws_FC1 (by omega))), fm, ?_, b1, b2, KM_k y2 (fun j _ _ => ?_), ?_, ?_⟩
    · unfold f_X5_readPrice
      rw [ay ok, bd_ok, if_neg (by decide), i5 (Or.inr ok.1), nm_ok, nm_ok]
    · rw [gI_sI, if_neg (by omega), gI_sI, if_neg (by omega)]; exact i3
    · rw [gI_sI, if_neg (by omega), gI_sI, if_neg (by omega)]
    · rw [gI_sI, if_neg (by omega), gI_sI, if_neg (by omega)]; exact y3
    · obtain ⟨d1, d2, d3, -, d5, d6, d7⟩ := ws_DRk (T' := E) (M' := F) hD (fun a j q1 q2 => U1_g a1 (by omega)) a1.2.2.2 g3 g10
      refine ⟨d1, ?_, ?_, ⟨ws_wt bt ln b, w9, ?_, ?_⟩, fun s hs => ?_, fun s h5 hs => ?_, ?_⟩
      · rw [gI_sI, if_neg (by omega), gI_sI, if_neg (by omega)]; exact d2
      · rw [gI_sI, if_neg (by omega), gI_sI, if_neg (by omega)]; exact d3
      · rw [gI_sI, if_neg (by omega), gI_sI, if_pos ⟨rfl, rfl⟩]
      · rw [gI_sI, if_neg (by omega), gI_sI, if_pos ⟨rfl, rfl⟩]
      · have z1 : ∀ r, 1 ≤ r → gI (sI (sI E d 1 (nI (ws_wt bt ln b))) 1 6 1) (d + r) s = gI E (d + r) s := fun r hr => by rw [gI_sI, if_neg (by omega), gI_sI, if_neg (by omega)]
        have z2 : ∀ r j, r ≠ 163 → r ≠ 171 → gI (sI (sI F 171 1 (nI (ws_wt bt ln b))) 163 10 1) r j = gI F r j := fun r j h1 h2 => by rw [gI_sI, if_neg (by omega), gI_sI, if_neg (by omega)]
        rw [z1 1 (by omega), z1 2 (by omega), z1 3 (by omega), z1 4 (by omega), z1 5 (by omega), z2 166 _ (by omega) (by omega), z2 167 _ (by omega) (by omega), z2 168 _ (by omega) (by omega), z2 169 _ (by omega) (by omega), z2 170 _ (by omega) (by omega)]
        exact d5 s hs
      · rw [gI_sI, if_neg (by omega), gI_sI, if_neg (by omega)]; exact d6 s h5 hs
      · rw [gI_sI, if_pos ⟨rfl, rfl⟩, gI_sI, if_pos ⟨rfl, rfl⟩]
  · refine Or.inr ⟨E, _, ws_sk bt ln b, ?_, hm, ws_FCu a1, fm, i2, ?_, by omega⟩
    · unfold f_X5_readPrice
      rw [an ok, bd_ok, if_pos rfl]
    · rw [gI_sI, if_neg (by omega), gI_sI, if_neg (by omega)]; exact gn ok
theorem nO_lt {bt : Nat → Nat} {ln a n : Nat} {x1 : Int32} (hn : n ≤ 5) (ha : a ≤ ln) (h : nOk bt ln a x1 (nI n - 1)) : ws_wt bt ln a < n := by
  have w9 := (ws_en_b (bt := bt) ha).2.2.2.1 h.1
  have q : ¬ nI n ≤ nI (ws_wt bt ln a) := fun z => h.2.2 ((below_iff hn (nI_pos (by omega))).2 z)
  rw [nI_leI (by omega) (by omega)] at q
  omega
theorem row_h {bt : Nat → Nat} {ln d b n : Nat} {T M : Mm} (hd : 3 ≤ d) (hb : b ≤ ln) (hT : TxC bt ln T) (hM : TxM bt ln M) (e3 : gI T 1 3 = nI b) (k : ws_KM bt ln M b) (h9 : gI M 163 15 = -9) (hD : ws_DR d n T M) : ws_RO bt ln d b T M (f_X5_readAhead T d) (f_X7_readRow M 104) := by
  have h150 := hT.1
  obtain ⟨b1, b2, b3, b4, b5, b6⟩ := ws_en_b (bt := bt) hb
  have c2 := (sk_b (bt := bt) hb).2.1
  obtain ⟨E, a1, ⟨i2, i3, i4, i5⟩, ay, an⟩ := rn_c (x1 := 0) (x2 := nI n - 1) hb hT e3
  obtain ⟨F, v, g1, g2, g3, g10, gy, gn⟩ := rn_m (x1 := 0) (x2 := nI n - 1) hb hM k h9
  have hD1 : ws_DR d n E F := ws_DRk hD (fun a j q1 q2 => U1_g a1 (by omega)) a1.2.2.2 g3 g10
  by_cases ok : nOk bt ln b 0 (nI n - 1)
  · obtain ⟨rfl, y2, y3⟩ := gy ok
    have w5 := nO_lt hD.1 hb ok
    have hn := hD.1
    generalize hw : ws_wt bt ln b = w at *
    obtain ⟨B1, B2, B3, B4, B5, B6⟩ := ws_en_b (bt := bt) b2
    have C2 := (sk_b (bt := bt) b2).2.1
    obtain ⟨E2, A1, ⟨I2, I3, I4, I5⟩, Ay, An⟩ := rn_c (x1 := nI w + 1) (x2 := nI n - 1) b2 (TxC_k hT a1) i3
    obtain ⟨F2, v2, G1, G2, G3, G10, Gy, Gn⟩ := rn_m (x1 := nI w + 1) (x2 := nI n - 1) b2 (TxM_f hM g2) y2 y3
    have hD2 : ws_DR d n E2 F2 := ws_DRk hD1 (fun a j q1 q2 => U1_g A1 (by omega)) A1.2.2.2 G3 G10
    have pc : f_X5_readAhead T d = bd (f_X5_readNumber E (nI w + 1) (nI n - 1)) (fun r7 S8 => if r7 = 0 then (some ((0 : Int32), S8)) else (bnd (inB (nI w) 5) (bnd (inB (nI w) 5) (nm (sI S8 (d + 5) (nI w).toNatClampNeg (((gI S8 (d + 5) (nI w).toNatClampNeg) ||| (1 <<< ((gI S8 1 5) &&& 31))))) (fun S13 => some ((1 : Int32), S13)))))) := by
      unfold f_X5_readAhead
      rw [hD.2.1, ay ok, bd_ok, if_neg (by decide), nm_ok, i5 (Or.inr ok.1), hD1.2.1]
    have pm : f_X7_readRow M 104 = bd (f_X7_number F (nI w + 1) (nI n - 1)) (fun r7 S8 => if (gI S8 163 15) = (-9) then (bnd (inB (5 + nI w) 10) (bnd (inB (5 + nI w) 10) (nm (sI S8 170 (5 + nI w).toNatClampNeg (((gI S8 170 (5 + nI w).toNatClampNeg) ||| (1 <<< (r7 &&& 31))))) (fun S13 => some ((), S13))))) else (some ((), S8))) := by
      unfold f_X7_readRow
      rw [if_pos rfl, bnd_ok in12, clamp1, hD.2.2.1, g1, bd_ok, bnd_ok in12, hD1.2.2.1]
    rw [pc, pm, G1, bd_ok]
    by_cases ok2 : nOk bt ln (ws_en bt ln b) (nI w + 1) (nI n - 1)
    · obtain ⟨rfl, Y2, Y3⟩ := Gy ok2
      have W5 := nO_lt hD.1 b2 ok2
      have W6 : w < ws_wt bt ln (ws_en bt ln b) := by
        have q := ok2.2.1
        rw [nI_1, nI_ltI (by omega) (by omega)] at q
        omega
      have j5 := I5 (Or.inr ok2.1)
      generalize hw2 : ws_wt bt ln (ws_en bt ln b) = w2 at *
      obtain ⟨d1, d2, d3, d4, d5, d6, d7⟩ := hD2
      obtain ⟨s1, s2, s3, s4, x, x1, x2, x3, x4⟩ := d5 w w5
      have e5 : (5 : Int32) + nI w = nI (5 + w) := nI_add 5 w
      have hx := (fin3 (a := 0) (g := x) (s := w2) (by omega) x1 (by omega)).2
      refine Or.inl ⟨sI E2 (d + 5) w (nI (x ||| 2 ^ w2)), sI F2 170 (5 + w) (nI (x ||| 2 ^ w2)), ws_en bt ln (ws_en bt ln b), n, ?_, ?_, ws_FCt (ws_FCu (U1_t a1 A1)) (ws_FCs (by omega) (by omega) hd), ws_FMt (ws_FMt g2 G2) (ws_FMs (by omega)), ?_, by omega, B2, KM_k Y2 (fun j _ _ => ?_), ?_, ?_⟩
      · rw [Ay ok2, bd_ok, if_neg (by decide), bnd_ok (inB_nI (by omega) (by decide)), bnd_ok (inB_nI (by omega) (by decide)), nI_clamp (by omega), x3, j5, fin2o x1 (by omega), nm_ok]
      · rw [if_pos Y3, e5, bnd_ok (inB_nI (by omega) (by decide)), bnd_ok (inB_nI (by omega) (by decide)), nI_clamp (by omega), x4, fin2o x1 (by omega), nm_ok]
      · rw [gI_sI, if_neg (by omega)]; exact I3
      · rw [gI_sI, if_neg (by omega)]
      · rw [gI_sI, if_neg (by omega)]; exact Y3
      · refine ⟨d1, ?_, ?_, ?_, fun s hs => ?_, fun s h5 hs => ?_, ?_⟩
        · rw [gI_sI, if_neg (by omega)]; exact d2
        · rw [gI_sI, if_neg (by omega)]; exact d3
        · rw [gI_sI, if_neg (by omega), gI_sI, if_neg (by omega)]; exact d4
        · rw [gI_sI, if_neg (by omega), gI_sI, if_neg (by omega), gI_sI, if_neg (by omega), gI_sI, if_neg (by omega), gI_sI, if_neg (by omega), gI_sI, if_neg (by omega), gI_sI, if_neg (by omega), gI_sI, if_neg (by omega)]
          obtain ⟨t1, t2, t3, t4, t5⟩ := d5 s hs
          refine ⟨t1, t2, t3, t4, ?_⟩
          by_cases hsw : s = w
          · subst hsw
            refine ⟨x ||| 2 ^ w2, hx, fun j hj => ?_, by rw [gI_sI, if_pos ⟨rfl, rfl⟩], by rw [gI_sI, if_pos ⟨rfl, rfl⟩]⟩
            rw [Nat.testBit_or, x2 j hj, Nat.testBit_two_pow, decide_eq_false (by omega)]; rfl
          · rw [gI_sI, if_neg (by omega), gI_sI, if_neg (by omega)]
            exact t5
        · rw [gI_sI, if_neg (by omega)]; exact d6 s h5 hs
        · rw [gI_sI, if_neg (by omega), gI_sI, if_neg (by omega)]; exact d7
    · refine Or.inr ⟨E2, F2, ws_sk bt ln (ws_en bt ln b), ?_, ?_, ws_FCu (U1_t a1 A1), ws_FMt g2 G2, I2, Gn ok2, by omega⟩
      · rw [An ok2, bd_ok, if_pos rfl]
      · rw [if_neg (by rw [Gn ok2]; exact nn9 (by omega))]
  · have hw : ¬ gI F 163 15 = -9 := by rw [gn ok]; exact nn9 (by omega)
    refine Or.inr ⟨E, F, ws_sk bt ln b, ?_, ?_, ws_FCu a1, g2, i2, gn ok, by omega⟩
    · unfold f_X5_readAhead
      rw [hD.2.1, an ok, bd_ok, if_pos rfl]
    · unfold f_X7_readRow
      rw [if_pos rfl, bnd_ok in12, clamp1, hD.2.2.1, g1, bd_ok, bnd_ok in12, nu_no hw, bd_ok, if_neg hw]
