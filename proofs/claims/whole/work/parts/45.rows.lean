/-! a step's row -/
def rs4 (v17 r37 : Int32) (S38 : Mm) : Option (Unit × Mm) := bnd (inB (5 + v17) 10) (nm (sI S38 169 (5 + v17).toNatClampNeg r37) (fun S41 =>
bnd (inB 1 2) (
bnd (inB 1 2) (nm (sI S41 165 (1 : Int32).toNatClampNeg (((gI S41 165 (1 : Int32).toNatClampNeg) + 1))) (fun S45 =>
some ((), S45))))))
def rs3 (v17 r31 : Int32) (S32 : Mm) : Option (Unit × Mm) := bnd (inB (5 + v17) 10) (nm (sI S32 168 (5 + v17).toNatClampNeg r31) (fun S35 =>
bd (f_X7_number S35 0 9) (rs4 v17)))
def rs2 (v17 r25 : Int32) (S26 : Mm) : Option (Unit × Mm) := bnd (inB v17 5) (nm (sI S26 167 v17.toNatClampNeg r25) (fun S29 =>
bd (f_X7_number S29 1 30) (rs3 v17)))
def rs1 (v17 r19 : Int32) (S20 : Mm) : Option (Unit × Mm) := bnd (inB (5 + v17) 10) (nm (sI S20 166 (5 + v17).toNatClampNeg r19) (fun S23 =>
bd (f_X7_number S23 0 9) (rs2 v17)))
theorem rs_0 {M : Mm} {n : Nat} (h : gI M 165 1 = nI n) : f_X7_readRow M 115 = bd (f_X7_number M 1 99) (rs1 (nI n)) := by
  unfold f_X7_readRow
  rw [if_neg (by decide), if_pos rfl, bnd_ok in12, nm_ok, clamp1, h]
  rfl
theorem fv_n (n : Nat) : (5 : Int32) + nI n = nI (5 + n) := nI_add 5 n
theorem rs4_ok {n : Nat} {r : Int32} {S : Mm} (hn : n < 5) : rs4 (nI n) r S = some ((), sI (sI S 169 (5 + n) r) 165 1 (gI S 165 1 + 1)) := by
  unfold rs4
  rw [fv_n, bnd_ok (inB_nI (by omega) (by decide)), nI_clamp (by omega), nm_ok, bnd_ok in12, bnd_ok in12, clamp1, gI_sI, if_neg (by omega), nm_ok]
theorem rs3_ok {n : Nat} {r : Int32} {S : Mm} (hn : n < 5) : rs3 (nI n) r S = bd (f_X7_number (sI S 168 (5 + n) r) 0 9) (rs4 (nI n)) := by
  unfold rs3
  rw [fv_n, bnd_ok (inB_nI (by omega) (by decide)), nI_clamp (by omega), nm_ok]
theorem rs2_ok {n : Nat} {r : Int32} {S : Mm} (hn : n < 5) : rs2 (nI n) r S = bd (f_X7_number (sI S 167 n r) 1 30) (rs3 (nI n)) := by
  unfold rs2
  rw [bnd_ok (inB_nI (by omega) (by decide)), nI_clamp (by omega), nm_ok]
theorem rs1_ok {n : Nat} {r : Int32} {S : Mm} (hn : n < 5) : rs1 (nI n) r S = bd (f_X7_number (sI S 166 (5 + n) r) 0 9) (rs2 (nI n)) := by
  unfold rs1
  rw [fv_n, bnd_ok (inB_nI (by omega) (by decide)), nI_clamp (by omega), nm_ok]
theorem rs4_b {n : Nat} {r : Int32} {S : Mm} (hn : n < 5) (h : ¬ gI S 163 15 = -9) : ∃ F, rs4 (nI n) r S = some ((), F) ∧ ws_FM S F ∧ gI F 163 15 = gI S 163 15 := ⟨_, rs4_ok hn, ws_FMt (ws_FMs (by omega)) (ws_FMs (by omega)), by rw [gI_sI, if_neg (by omega), gI_sI, if_neg (by omega)]⟩
theorem rs3_b {n : Nat} {r : Int32} {S : Mm} (hn : n < 5) (h : ¬ gI S 163 15 = -9) : ∃ F, rs3 (nI n) r S = some ((), F) ∧ ws_FM S F ∧ gI F 163 15 = gI S 163 15 := by
  have e : gI (sI S 168 (5 + n) r) 163 15 = gI S 163 15 := by rw [gI_sI, if_neg (by omega)]
  have h' : ¬ gI (sI S 168 (5 + n) r) 163 15 = -9 := by rw [e]; exact h
  obtain ⟨F, f1, f2, f3⟩ := rs4_b (r := gI (sI S 168 (5 + n) r) 163 14) hn h'
  exact ⟨F, by rw [rs3_ok hn, nu_no h', bd_ok, f1], ws_FMt (ws_FMs (by omega)) f2, f3.trans e⟩
theorem rs2_b {n : Nat} {r : Int32} {S : Mm} (hn : n < 5) (h : ¬ gI S 163 15 = -9) : ∃ F, rs2 (nI n) r S = some ((), F) ∧ ws_FM S F ∧ gI F 163 15 = gI S 163 15 := by
  have e : gI (sI S 167 n r) 163 15 = gI S 163 15 := by rw [gI_sI, if_neg (by omega)]
  have h' : ¬ gI (sI S 167 n r) 163 15 = -9 := by rw [e]; exact h
  obtain ⟨F, f1, f2, f3⟩ := rs3_b (r := gI (sI S 167 n r) 163 14) hn h'
  exact ⟨F, by rw [rs2_ok hn, nu_no h', bd_ok, f1], ws_FMt (ws_FMs (by omega)) f2, f3.trans e⟩
theorem rs1_b {n : Nat} {r : Int32} {S : Mm} (hn : n < 5) (h : ¬ gI S 163 15 = -9) : ∃ F, rs1 (nI n) r S = some ((), F) ∧ ws_FM S F ∧ gI F 163 15 = gI S 163 15 := by
  have e : gI (sI S 166 (5 + n) r) 163 15 = gI S 163 15 := by rw [gI_sI, if_neg (by omega)]
  have h' : ¬ gI (sI S 166 (5 + n) r) 163 15 = -9 := by rw [e]; exact h
  obtain ⟨F, f1, f2, f3⟩ := rs2_b (r := gI (sI S 166 (5 + n) r) 163 14) hn h'
  exact ⟨F, by rw [rs1_ok hn, nu_no h', bd_ok, f1], ws_FMt (ws_FMs (by omega)) f2, f3.trans e⟩
/-- the class' row in the same pieces -/
def cs4 (a1 : Nat) (v1 r24 : Int32) (S25 : Mm) : Option (Int32 × Mm) := if r24 = 0 then (some (0, S25)) else (bnd (inB v1 5) (nm (sI S25 (a1 + 4) v1.toNatClampNeg ((gI S25 1 5))) (fun S29 =>
bnd (inB v1 5) (nm (sI S29 (a1 + 5) v1.toNatClampNeg 0) (fun S32 =>
nm (sI S32 a1 0 (((gI S32 a1 0) + 1))) (fun S34 =>
some (1, S34)))))))
def cs3 (a1 : Nat) (v1 r17 : Int32) (S18 : Mm) : Option (Int32 × Mm) := if r17 = 0 then (some (0, S18)) else (bnd (inB v1 5) (nm (sI S18 (a1 + 3) v1.toNatClampNeg ((gI S18 1 5))) (fun S22 =>
bd (f_X5_readNumber S22 0 9) (cs4 a1 v1))))
def cs2 (a1 : Nat) (v1 r10 : Int32) (S11 : Mm) : Option (Int32 × Mm) := if r10 = 0 then (some (0, S11)) else (bnd (inB v1 5) (nm (sI S11 (a1 + 2) v1.toNatClampNeg ((gI S11 1 5))) (fun S15 =>
bd (f_X5_readNumber S15 1 30) (cs3 a1 v1))))
def cs1 (a1 : Nat) (v1 r3 : Int32) (S4 : Mm) : Option (Int32 × Mm) := if r3 = 0 then (some (0, S4)) else (bnd (inB v1 5) (nm (sI S4 (a1 + 1) v1.toNatClampNeg ((gI S4 1 5))) (fun S8 =>
bd (f_X5_readNumber S8 0 9) (cs2 a1 v1))))
theorem cs_0 {T : Mm} {d n : Nat} (h : gI T d 0 = nI n) : f_X5_readStep T d = bd (f_X5_readNumber T 1 99) (cs1 d (nI n)) := by
  unfold f_X5_readStep
  rw [nm_ok, h]
  rfl
theorem cs1_y {S : Mm} {d n : Nat} (hn : n < 5) : cs1 d (nI n) 1 S = bd (f_X5_readNumber (sI S (d + 1) n (gI S 1 5)) 0 9) (cs2 d (nI n)) := by
  unfold cs1
  rw [if_neg (by decide), bnd_ok (inB_nI (by omega) (by decide)), nI_clamp (by omega), nm_ok]
theorem cs2_y {S : Mm} {d n : Nat} (hn : n < 5) : cs2 d (nI n) 1 S = bd (f_X5_readNumber (sI S (d + 2) n (gI S 1 5)) 1 30) (cs3 d (nI n)) := by
  unfold cs2
  rw [if_neg (by decide), bnd_ok (inB_nI (by omega) (by decide)), nI_clamp (by omega), nm_ok]
theorem cs3_y {S : Mm} {d n : Nat} (hn : n < 5) : cs3 d (nI n) 1 S = bd (f_X5_readNumber (sI S (d + 3) n (gI S 1 5)) 0 9) (cs4 d (nI n)) := by
  unfold cs3
  rw [if_neg (by decide), bnd_ok (inB_nI (by omega) (by decide)), nI_clamp (by omega), nm_ok]
theorem cs4_y {S : Mm} {d n : Nat} (hn : n < 5) : cs4 d (nI n) 1 S = some (1, sI (sI (sI S (d + 4) n (gI S 1 5)) (d + 5) n 0) d 0 (gI S d 0 + 1)) := by
  unfold cs4
  rw [if_neg (by decide), bnd_ok (inB_nI (by omega) (by decide)), nI_clamp (by omega), nm_ok, bnd_ok (inB_nI (by omega) (by decide)), nm_ok, gI_sI, if_neg (by omega), gI_sI, if_neg (by omega), nm_ok]
/-- one number of a step's row on both sides; then both write it down -/
theorem num_j {bt : Nat → Nat} {ln d b : Nat} {T M : Mm} {x1 x2 : Int32} (hb : b ≤ ln) (hT : TxC bt ln T) (hM : TxM bt ln M) (e3 : gI T 1 3 = nI b) (k : ws_KM bt ln M b) (h9 : gI M 163 15 = -9) : 
    (∃ E F v s, s ≤ 150 ∧ f_X5_readNumber T x1 x2 = some (0, E) ∧ f_X7_number M x1 x2 = some (v, F) ∧ U1 T E ∧ ws_FM M F ∧ gI E 1 2 = nI s ∧ gI F 163 15 = nI s) ∨
    (∃ E F w, w ≤ 99 ∧ ¬ nI w < x1 ∧ ¬ x2 < nI w ∧ f_X5_readNumber T x1 x2 = some (1, E) ∧ f_X7_number M x1 x2 = some (nI w, F) ∧ U1 T E ∧ ws_FM M F ∧ (∀ b j, b ≠ 163 → gI F b j = gI M b j) ∧ gI F 163 10 = gI M 163 10 ∧ gI E 1 5 = nI w ∧ gI E 1 3 = nI (ws_en bt ln b) ∧ ws_KM bt ln F (ws_en bt ln b) ∧ gI F 163 15 = -9) := by
  have h150 := hT.1
  obtain ⟨b1, b2, b3, b4, b5, b6⟩ := ws_en_b (bt := bt) hb
  have c2 := (sk_b (bt := bt) hb).2.1
  obtain ⟨E, a1, ⟨i2, i3, i4, i5⟩, ay, an⟩ := rn_c (x1 := x1) (x2 := x2) hb hT e3
  obtain ⟨F, v, g1, g2, g3, g10, gy, gn⟩ := rn_m (x1 := x1) (x2 := x2) hb hM k h9
  by_cases ok : nOk bt ln b x1 x2
  · obtain ⟨rfl, y2, y3⟩ := gy ok
    exact Or.inr ⟨E, F, ws_wt bt ln b, b4 ok.1, ok.2.1, ok.2.2, ay ok, g1, a1, g2, g3, g10, i5 (Or.inr ok.1), i3, y2, y3⟩
  · exact Or.inl ⟨E, F, v, ws_sk bt ln b, by omega, an ok, g1, a1, g2, i2, gn ok⟩
theorem row_s {bt : Nat → Nat} {ln d b n : Nat} {T M : Mm} (hd : 3 ≤ d) (hb : b ≤ ln) (hT : TxC bt ln T) (hM : TxM bt ln M) (e3 : gI T 1 3 = nI b) (k : ws_KM bt ln M b) (h9 : gI M 163 15 = -9) (hD : ws_DR d n T M) (hn : n < 5) : ws_RO bt ln d b T M (f_X5_readStep T d) (f_X7_readRow M 115) := by
  rw [cs_0 hD.2.1, rs_0 hD.2.2.1]
  have f1 := ws_en_b (bt := bt) hb
  have f2 := ws_en_b (bt := bt) f1.2.1
  have f3 := ws_en_b (bt := bt) f2.2.1
  have f4 := ws_en_b (bt := bt) f3.2.1
  rcases num_j (d := d) (x1 := 1) (x2 := 99) hb hT hM e3 k h9 with ⟨E1, F1, v, s, hs, c1, m1, u1, p1, r1, y1⟩ | ⟨E1, F1, w1, v1, v1a, v1b, c1, m1, u1, p1, q1, z1, r1, s1, k1, y1⟩
  · obtain ⟨G, g1, g2, g3⟩ := rs1_b (r := v) hn (show ¬ gI F1 163 15 = -9 by rw [y1]; exact nn9 hs)
    exact Or.inr ⟨E1, G, s, by rw [c1, bd_ok]; rfl, by rw [m1, bd_ok, g1], ws_FCu u1, ws_FMt p1 g2, r1, g3.trans y1, hs⟩
  rw [c1, m1, bd_ok, bd_ok, cs1_y hn, rs1_ok hn, r1]
  have t1 : ws_FC d T (sI E1 (d + 1) n (nI w1)) := ws_FCt (ws_FCu u1) (ws_FCs (by omega) (by omega) hd)
  have o1 : ws_FM M (sI F1 166 (5 + n) (nI w1)) := ws_FMt p1 (ws_FMs (by omega))
  rcases num_j (d := d) (x1 := 0) (x2 := 9) f1.2.1 (TxC_f hd hT t1) (TxM_f hM o1) (by rw [gI_sI, if_neg (by omega)]; exact s1) (KM_k k1 (fun j _ _ => by rw [gI_sI, if_neg (by omega)])) (by rw [gI_sI, if_neg (by omega)]; exact y1) with ⟨E2, F2, v, s, hs, c2, m2, u2, p2, r2, y2⟩ | ⟨E2, F2, w2, v2, v2a, v2b, c2, m2, u2, p2, q2, z2, r2, s2, k2, y2⟩
  · obtain ⟨G, g1, g2, g3⟩ := rs2_b (r := v) hn (show ¬ gI F2 163 15 = -9 by rw [y2]; exact nn9 hs)
    exact Or.inr ⟨E2, G, s, by rw [c2, bd_ok]; rfl, by rw [m2, bd_ok, g1], ws_FCt t1 (ws_FCu u2), ws_FMt o1 (ws_FMt p2 g2), r2, g3.trans y2, hs⟩
  rw [c2, m2, bd_ok, bd_ok, cs2_y hn, rs2_ok hn, r2]
  have t2 : ws_FC d T (sI E2 (d + 2) n (nI w2)) := ws_FCt t1 (ws_FCt (ws_FCu u2) (ws_FCs (by omega) (by omega) hd))
  have o2 : ws_FM M (sI F2 167 n (nI w2)) := ws_FMt o1 (ws_FMt p2 (ws_FMs (by omega)))
  rcases num_j (d := d) (x1 := 1) (x2 := 30) f2.2.1 (TxC_f hd hT t2) (TxM_f hM o2) (by rw [gI_sI, if_neg (by omega)]; exact s2) (KM_k k2 (fun j _ _ => by rw [gI_sI, if_neg (by omega)])) (by rw [gI_sI, if_neg (by omega)]; exact y2) with ⟨E3, F3, v, s, hs, c3, m3, u3, p3, r3, y3⟩ | ⟨E3, F3, w3, v3, v3a, v3b, c3, m3, u3, p3, q3, z3, r3, s3, k3, y3⟩
  · obtain ⟨G, g1, g2, g3⟩ := rs3_b (r := v) hn (show ¬ gI F3 163 15 = -9 by rw [y3]; exact nn9 hs)
    exact Or.inr ⟨E3, G, s, by rw [c3, bd_ok]; rfl, by rw [m3, bd_ok, g1], ws_FCt t2 (ws_FCu u3), ws_FMt o2 (ws_FMt p3 g2), r3, g3.trans y3, hs⟩
  rw [c3, m3, bd_ok, bd_ok, cs3_y hn, rs3_ok hn, r3]
  have t3 : ws_FC d T (sI E3 (d + 3) n (nI w3)) := ws_FCt t2 (ws_FCt (ws_FCu u3) (ws_FCs (by omega) (by omega) hd))
  have o3 : ws_FM M (sI F3 168 (5 + n) (nI w3)) := ws_FMt o2 (ws_FMt p3 (ws_FMs (by omega)))
  rcases num_j (d := d) (x1 := 0) (x2 := 9) f3.2.1 (TxC_f hd hT t3) (TxM_f hM o3) (by rw [gI_sI, if_neg (by omega)]; exact s3) (KM_k k3 (fun j _ _ => by rw [gI_sI, if_neg (by omega)])) (by rw [gI_sI, if_neg (by omega)]; exact y3) with ⟨E4, F4, v, s, hs, c4, m4, u4, p4, r4, y4⟩ | ⟨E4, F4, w4, v4, v4a, v4b, c4, m4, u4, p4, q4, z4, r4, s4, k4, y4⟩
  · obtain ⟨G, g1, g2, g3⟩ := rs4_b (r := v) hn (show ¬ gI F4 163 15 = -9 by rw [y4]; exact nn9 hs)
    exact Or.inr ⟨E4, G, s, by rw [c4, bd_ok]; rfl, by rw [m4, bd_ok, g1], ws_FCt t3 (ws_FCu u4), ws_FMt o3 (ws_FMt p4 g2), r4, g3.trans y4, hs⟩
  rw [c4, m4, bd_ok, bd_ok, cs4_y hn, rs4_ok hn, r4]
  -- what all the writing leaves
  have gc : ∀ a j, a ≠ 1 → gI E4 a j = if a = d + 3 ∧ j = n then nI w3 else if a = d + 2 ∧ j = n then nI w2 else if a = d + 1 ∧ j = n then nI w1 else gI T a j := fun a j ha => by
    rw [U1_g u4 ha, gI_sI, U1_g u3 ha, gI_sI, U1_g u2 ha, gI_sI, U1_g u1 ha]
  have gm : ∀ a j, a ≠ 163 → gI F4 a j = if a = 168 ∧ j = 5 + n then nI w3 else if a = 167 ∧ j = n then nI w2 else if a = 166 ∧ j = 5 + n then nI w1 else gI M a j := fun a j ha => by
    rw [q4 a j ha, gI_sI, q3 a j ha, gI_sI, q2 a j ha, gI_sI, q1 a j ha]
  obtain ⟨d1, d2, d3, ⟨pr, pr1, pr2, pr3⟩, d5, d6, d7⟩ := hD
  have x9 : ∀ {w : Nat}, w ≤ 99 → ¬ (9 : Int32) < nI w → w ≤ 9 := fun {w} h1 h2 => by
    rw [show (9 : Int32) = nI 9 from rfl, nI_ltI (by omega) (by omega)] at h2; omega
  have x30 : w3 ≤ 30 := by
    rw [show (30 : Int32) = nI 30 from rfl, nI_ltI (by omega) (by omega)] at v3b; omega
  have e1 : gI E4 d 0 = nI n := by rw [gc d 0 (by omega), if_neg (by omega), if_neg (by omega), if_neg (by omega)]; exact d2
  have e2 : gI F4 165 1 = nI n := by rw [gm 165 1 (by omega), if_neg (by omega), if_neg (by omega), if_neg (by omega)]; exact d3
  rw [e1, e2, nI_1]
  refine Or.inl ⟨_, _, ws_en bt ln (ws_en bt ln (ws_en bt ln (ws_en bt ln b))), n + 1, rfl, rfl, ws_FCt t3 (ws_FCt (ws_FCu u4) (ws_FCt (ws_FCs (by omega) (by omega) hd) (ws_FCt (ws_FCs (by omega) (by omega) hd) (ws_FCs (by omega) (by omega) hd)))), ws_FMt o3 (ws_FMt p4 (ws_FMt (ws_FMs (by omega)) (ws_FMs (by omega)))), ?_, by omega, f4.2.1, KM_k k4 (fun j _ _ => ?_), ?_, by omega, ?_, ?_, ⟨pr, pr1, ?_, ?_⟩, fun s hs => ?_, fun s h5 hs => ?_, ?_⟩
  · rw [gI_sI, if_neg (by omega), gI_sI, if_neg (by omega), gI_sI, if_neg (by omega)]; exact s4
  · rw [gI_sI, if_neg (by omega), gI_sI, if_neg (by omega)]
  · rw [gI_sI, if_neg (by omega), gI_sI, if_neg (by omega)]; exact y4
  · rw [gI_sI, if_pos ⟨rfl, rfl⟩]
  · rw [gI_sI, if_pos ⟨rfl, rfl⟩]
  · rw [gI_sI, if_neg (by omega), gI_sI, if_neg (by omega), gI_sI, if_neg (by omega), gc d 1 (by omega), if_neg (by omega), if_neg (by omega), if_neg (by omega)]; exact pr2
  · rw [gI_sI, if_neg (by omega), gI_sI, if_neg (by omega), gm 171 1 (by omega), if_neg (by omega), if_neg (by omega), if_neg (by omega)]; exact pr3
  · have hc : ∀ r, 1 ≤ r → r ≤ 5 → gI (sI (sI (sI E4 (d + 4) n (nI w4)) (d + 5) n 0) d 0 (nI (n + 1))) (d + r) s = if s = n then (if r = 1 then nI w1 else if r = 2 then nI w2 else if r = 3 then nI w3 else if r = 4 then nI w4 else 0) else gI T (d + r) s := fun r hr1 hr5 => by
      rw [gI_sI, if_neg (by omega), gI_sI, gI_sI, gc (d + r) s (by omega)]
      by_cases hsn : s = n
      · rw [if_pos hsn]
        by_cases h5 : r = 5
        · rw [if_pos ⟨by omega, hsn⟩, if_neg (by omega), if_neg (by omega), if_neg (by omega), if_neg (by omega)]
        · rw [if_neg (by omega)]
          by_cases h4 : r = 4
          · rw [if_pos ⟨by omega, hsn⟩, if_neg (by omega), if_neg (by omega), if_neg (by omega), if_pos h4]
          · rw [if_neg (by omega)]
            by_cases h3 : r = 3
            · rw [if_pos ⟨by omega, hsn⟩, if_neg (by omega), if_neg (by omega), if_pos h3]
            · rw [if_neg (by omega)]
              by_cases h2 : r = 2
              · rw [if_pos ⟨by omega, hsn⟩, if_neg (by omega), if_pos h2]
              · rw [if_neg (by omega), if_pos ⟨by omega, hsn⟩, if_pos (by omega)]
      · rw [if_neg hsn, if_neg (by omega), if_neg (by omega), if_neg (by omega), if_neg (by omega), if_neg (by omega)]
    have hm : ∀ a j, a ≠ 163 → a ≠ 165 → gI (sI (sI F4 169 (5 + n) (nI w4)) 165 1 (nI (n + 1))) a j = if a = 169 ∧ j = 5 + n then nI w4 else if a = 168 ∧ j = 5 + n then nI w3 else if a = 167 ∧ j = n then nI w2 else if a = 166 ∧ j = 5 + n then nI w1 else gI M a j := fun a j h1 h2 => by
      rw [gI_sI, if_neg (by omega), gI_sI, gm a j h1]
    rw [hc 1 (by omega) (by omega), hc 2 (by omega) (by omega), hc 3 (by omega) (by omega), hc 4 (by omega) (by omega), hc 5 (by omega) (by omega), hm 166 _ (by omega) (by omega), hm 167 _ (by omega) (by omega), hm 168 _ (by omega) (by omega), hm 169 _ (by omega) (by omega), hm 170 _ (by omega) (by omega)]
    by_cases hsn : s = n
    · subst hsn
      refine ⟨⟨w1, v1, ?_, ?_⟩, ⟨w2, x9 v2 v2b, ?_, ?_⟩, ⟨w3, x30, ?_, ?_⟩, ⟨w4, x9 v4 v4b, ?_, ?_⟩, ⟨0, by omega, fun j _ => Nat.zero_testBit j, ?_, ?_⟩⟩
      all_goals first | (simp; done) | (simp; exact nI_0.symm) | (simp; exact d6 s hn (Nat.le_refl _))
    · have hs2 : s < n := by omega
      obtain ⟨t1, t2, t3, t4, t5⟩ := d5 s hs2
      rw [if_neg hsn, if_neg hsn, if_neg hsn, if_neg hsn, if_neg hsn, if_neg (by omega), if_neg (by omega), if_neg (by omega), if_neg (by omega), if_neg (by omega), if_neg (by omega), if_neg (by omega), if_neg (by omega), if_neg (by omega), if_neg (by omega), if_neg (by omega), if_neg (by omega), if_neg (by omega), if_neg (by omega), if_neg (by omega), if_neg (by omega), if_neg (by omega), if_neg (by omega), if_neg (by omega), if_neg (by omega)]
      exact ⟨t1, t2, t3, t4, t5⟩
  · rw [gI_sI, if_neg (by omega), gI_sI, if_neg (by omega), gm 170 _ (by omega), if_neg (by omega), if_neg (by omega), if_neg (by omega)]
    exact d6 s h5 (by omega)
  · rw [gI_sI, if_neg (by omega), gI_sI, if_neg (by omega), gI_sI, if_neg (by omega), gI_sI, if_neg (by omega), gI_sI, if_neg (by omega), u4.2.2.2, gI_sI, if_neg (by omega), u3.2.2.2, gI_sI, if_neg (by omega), u2.2.2.2, gI_sI, if_neg (by omega), u1.2.2.2, z4, gI_sI, if_neg (by omega), z3, gI_sI, if_neg (by omega), z2, gI_sI, if_neg (by omega), z1]
    exact d7
