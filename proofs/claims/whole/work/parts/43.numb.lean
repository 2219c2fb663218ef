/-! numbers of a row, on both sides -/
def ws_FC (d : Nat) (T E : Mm) : Prop := (∀ a, a ≠ 1 → (a < d ∨ d + 6 ≤ a) → E.1 a = T.1 a) ∧ E.2 = T.2 ∧ gI E 1 1 = gI T 1 1
theorem ws_FC0 {d : Nat} {T : Mm} : ws_FC d T T := ⟨fun _ _ _ => rfl, rfl, rfl⟩
theorem ws_FCt {d : Nat} {T E G : Mm} (h : ws_FC d T E) (g : ws_FC d E G) : ws_FC d T G := ⟨fun a h1 h2 => by rw [g.1 a h1 h2, h.1 a h1 h2], g.2.1.trans h.2.1, g.2.2.trans h.2.2⟩
theorem ws_FCu {d : Nat} {T E : Mm} (h : U1 T E) : ws_FC d T E := ⟨fun a h1 _ => h.1 a h1, h.2.1, h.2.2.1⟩
theorem ws_FCs {d : Nat} {T : Mm} {a j : Nat} {v : Int32} (h1 : d ≤ a) (h2 : a < d + 6) (h3 : 3 ≤ d) : ws_FC d T (sI T a j v) := ⟨fun b _ hb => sI_ne (by omega), rfl, by rw [gI_sI, if_neg (by omega)]⟩
theorem ws_FC1 {d : Nat} {T : Mm} {j : Nat} {v : Int32} (h1 : j ≠ 1) : ws_FC d T (sI T 1 j v) := ⟨fun b hb _ => sI_ne hb, rfl, by rw [gI_sI, if_neg (by omega)]⟩
theorem TxC_f {bt : Nat → Nat} {ln d : Nat} {T E : Mm} (hd : 3 ≤ d) (h : TxC bt ln T) (f : ws_FC d T E) : TxC bt ln E := ⟨h.1, by rw [f.2.2]; exact h.2.1, fun j hj => by unfold gI; rw [f.1 2 (by omega) (by omega)]; exact h.2.2 j hj⟩
theorem U1_g {S T : Mm} (h : U1 S T) {a j : Nat} (ha : a ≠ 1) : gI T a j = gI S a j := by unfold gI; rw [h.1 a ha]
def ws_FM (M F : Mm) : Prop := (∀ a, (a < 163 ∨ a = 164 ∨ 171 < a) → F.1 a = M.1 a) ∧ F.2 = M.2 ∧ (∀ j, (j < 10 ∨ 15 < j) → gI F 163 j = gI M 163 j) ∧ gI F 165 0 = gI M 165 0 ∧ gI F 171 0 = gI M 171 0 ∧ ∀ s, s < 5 → gI F 166 s = gI M 166 s ∧ gI F 168 s = gI M 168 s ∧ gI F 169 s = gI M 169 s ∧ gI F 170 s = gI M 170 s
theorem ws_FM0 {M : Mm} : ws_FM M M := ⟨fun _ _ => rfl, rfl, fun _ _ => rfl, rfl, rfl, fun _ _ => ⟨rfl, rfl, rfl, rfl⟩⟩
theorem ws_FMt {M F G : Mm} (h : ws_FM M F) (g : ws_FM F G) : ws_FM M G := by
  obtain ⟨h1, h2, h3, h4, h5, h6⟩ := h
  obtain ⟨g1, g2, g3, g4, g5, g6⟩ := g
  refine ⟨fun a q => by rw [g1 a q, h1 a q], g2.trans h2, fun j q => (g3 j q).trans (h3 j q), g4.trans h4, g5.trans h5, fun s q => ?_⟩
  obtain ⟨a1, a2, a3, a4⟩ := h6 s q
  obtain ⟨b1, b2, b3, b4⟩ := g6 s q
  exact ⟨b1.trans a1, b2.trans a2, b3.trans a3, b4.trans a4⟩
theorem ws_FMu {M F : Mm} (h : U3 M F) : ws_FM M F := ⟨fun a q => h.1 a (by omega), h.2.1, fun j q => h.2.2 j (by omega), U3_g h (by omega), U3_g h (by omega), fun s _ => ⟨U3_g h (by omega), U3_g h (by omega), U3_g h (by omega), U3_g h (by omega)⟩⟩
theorem ws_FMs {M : Mm} {a j : Nat} {v : Int32} (h : a = 163 ∧ 10 ≤ j ∧ j ≤ 15 ∨ (a = 165 ∨ a = 171) ∧ j = 1 ∨ a = 167 ∨ (a = 166 ∨ a = 168 ∨ a = 169 ∨ a = 170) ∧ 5 ≤ j) : ws_FM M (sI M a j v) := by
  refine ⟨fun b q => sI_ne (by omega), rfl, fun i q => by rw [gI_sI, if_neg (by omega)], by rw [gI_sI, if_neg (by omega)], by rw [gI_sI, if_neg (by omega)], fun s q => ⟨?_, ?_, ?_, ?_⟩⟩
  all_goals rw [gI_sI, if_neg (by omega)]
theorem TxM_f {bt : Nat → Nat} {ln : Nat} {M F : Mm} (h : TxM bt ln M) (f : ws_FM M F) : TxM bt ln F := ⟨h.1, by rw [f.2.2.1 2 (by omega)]; exact h.2.1, fun j hj => by unfold gI; rw [f.1 164 (by omega)]; exact h.2.2 j hj⟩
/-- the word behind a is a number from x1 to x2 -/
def nOk (bt : Nat → Nat) (ln a : Nat) (x1 x2 : Int32) : Prop := ws_kd bt ln a = 2 ∧ ¬ nI (ws_wt bt ln a) < x1 ∧ ¬ x2 < nI (ws_wt bt ln a)
theorem nk_eq {bt : Nat → Nat} {ln a k : Nat} (h : ws_kd bt ln a ≤ 4) (hk : k ≤ 4) : nI (ws_kd bt ln a) = nI k ↔ ws_kd bt ln a = k := nI_eq (by omega) (by omega)
theorem rn_c {bt : Nat → Nat} {ln a : Nat} {T : Mm} {x1 x2 : Int32} (ha : a ≤ ln) (hT : TxC bt ln T) (e3 : gI T 1 3 = nI a) : ∃ E, U1 T E ∧ ws_KC bt ln E a ∧ (nOk bt ln a x1 x2 → f_X5_readNumber T x1 x2 = some (1, E)) ∧ (¬ nOk bt ln a x1 x2 → f_X5_readNumber T x1 x2 = some (0, E)) := by
  obtain ⟨E, a1, a2, a3⟩ := rt_c ha hT e3
  have b := (ws_en_b (bt := bt) ha).2.2.2.2.2
  refine ⟨E, a2, a3, fun h => ?_, fun h => ?_⟩
  · unfold f_X5_readNumber
    rw [a1, bd_ok, a3.2.2.1, if_pos (show nI (ws_kd bt ln a) = 2 from (nk_eq (k := 2) b (by omega)).2 h.1), a3.2.2.2 (Or.inr h.1), if_neg h.2.1, if_neg h.2.2]
  · unfold f_X5_readNumber
    rw [a1, bd_ok, a3.2.2.1]
    by_cases h2 : ws_kd bt ln a = 2
    · rw [if_pos (show nI (ws_kd bt ln a) = 2 from (nk_eq (k := 2) b (by omega)).2 h2), a3.2.2.2 (Or.inr h2)]
      by_cases h3 : nI (ws_wt bt ln a) < x1
      · rw [if_pos h3]
      · rw [if_neg h3]
        by_cases h4 : x2 < nI (ws_wt bt ln a)
        · rw [if_pos h4]
        · exact absurd ⟨h2, h3, h4⟩ h
    · rw [if_neg (show ¬ nI (ws_kd bt ln a) = 2 from fun z => h2 ((nk_eq (k := 2) b (by omega)).1 z))]
theorem due_no {M : Mm} {x : Int32} (h : ¬ gI M 163 15 = -9) : f_X7_due M x = some (gI M 163 14, M) := by
  unfold f_X7_due
  rw [nm_ok, if_neg h]
theorem due_0 {M : Mm} (h : gI M 163 15 = -9) : f_X7_due M 0 = some (gI M 163 14, sI M 163 15 (gI M 163 12)) := by
  unfold f_X7_due
  rw [nm_ok, if_pos h, if_pos rfl, nm_ok]
theorem due_1 {M F : Mm} {u : Unit} (h : gI M 163 15 = -9) (hr : f_X7_read M = some (u, F)) : f_X7_due M 1 = some (gI M 163 14, F) := by
  unfold f_X7_due
  rw [nm_ok, if_pos h, if_neg (by decide), hr, bd_ok]
theorem nn9 {k : Nat} (h : k ≤ 150) : ¬ nI k = -9 := fun q => absurd (nI_pos (n := k) (by omega)) (by rw [q]; decide)
theorem nu_no {M : Mm} {x1 x2 : Int32} (h : ¬ gI M 163 15 = -9) : f_X7_number M x1 x2 = some (gI M 163 14, M) := by
  unfold f_X7_number
  rw [in_ok, bd_ok, due_no h, due_no h, bd_ok]
  split
  · exact ite_self _
  · rfl
theorem srt_1 {k w : Nat} (hk : k ≤ 4) (hw : k = 1 → w = 0 ∨ 97 ≤ w ∧ w ≤ 122) : ws_srt k w = 1 ↔ k = 2 := by
  unfold ws_srt
  split
  · omega
  · split
    · split <;> omega
    · split
      · omega
      · split <;> omega
theorem srt_2 {k w : Nat} (hk : k ≤ 4) (hw : k = 1 → w = 0 ∨ 97 ≤ w ∧ w ≤ 122) : ws_srt k w = 2 ↔ k = 3 := by
  unfold ws_srt
  split
  · omega
  · split
    · split <;> omega
    · split
      · omega
      · split <;> omega
theorem srt_3 {k w : Nat} (hk : k ≤ 4) (hw : k = 1 → w = 0 ∨ 97 ≤ w ∧ w ≤ 122) : ws_srt k w = 3 ↔ k = 0 := by
  unfold ws_srt
  split
  · omega
  · split
    · split <;> omega
    · split
      · omega
      · split <;> omega
theorem srt_l {k w c : Nat} (hk : k ≤ 4) (hw : k = 1 → w = 0 ∨ 97 ≤ w ∧ w ≤ 122) (hc : 97 ≤ c) : ws_srt k w = c ↔ k = 1 ∧ w = c := by
  unfold ws_srt
  split
  · omega
  · split
    · split <;> omega
    · split
      · omega
      · split <;> omega
theorem srt_b {k w : Nat} (hw : k = 1 → w = 0 ∨ 97 ≤ w ∧ w ≤ 122) : ws_srt k w ≤ 122 := by
  unfold ws_srt
  split
  · omega
  · split
    · split <;> omega
    · split
      · omega
      · split <;> omega
theorem rn_m {bt : Nat → Nat} {ln a : Nat} {M : Mm} {x1 x2 : Int32} (ha : a ≤ ln) (hM : TxM bt ln M) (k : ws_KM bt ln M a) (h9 : gI M 163 15 = -9) : ∃ F v, f_X7_number M x1 x2 = some (v, F) ∧ ws_FM M F ∧ (∀ b j, b ≠ 163 → gI F b j = gI M b j) ∧ gI F 163 10 = gI M 163 10 ∧ (nOk bt ln a x1 x2 → v = nI (ws_wt bt ln a) ∧ ws_KM bt ln F (ws_en bt ln a) ∧ gI F 163 15 = -9) ∧ (¬ nOk bt ln a x1 x2 → gI F 163 15 = nI (ws_sk bt ln a)) := by
  have h150 := hM.1
  obtain ⟨b1, b2, b3, b4, b5, b6⟩ := ws_en_b (bt := bt) ha
  obtain ⟨k1, k2, k3, k4⟩ := k
  have q1 : gI M 163 13 = 1 ↔ ws_kd bt ln a = 2 := by
    rw [k3, show (1 : Int32) = nI 1 from rfl, nI_eq (by have := srt_b (k := ws_kd bt ln a) b5; omega) (by omega), srt_1 b6 b5]
  obtain ⟨G, g1, g2, g3⟩ := rt_m (bt := bt) b2 hM k1
  have no : ∀ v, f_X7_number M x1 x2 = some (v, sI M 163 15 (gI M 163 12)) → ¬ nOk bt ln a x1 x2 → ∃ F v, f_X7_number M x1 x2 = some (v, F) ∧ ws_FM M F ∧ (∀ b j, b ≠ 163 → gI F b j = gI M b j) ∧ gI F 163 10 = gI M 163 10 ∧ (nOk bt ln a x1 x2 → v = nI (ws_wt bt ln a) ∧ ws_KM bt ln F (ws_en bt ln a) ∧ gI F 163 15 = -9) ∧ (¬ nOk bt ln a x1 x2 → gI F 163 15 = nI (ws_sk bt ln a)) := fun v hv hn => ⟨_, v, hv, ws_FMs (by omega), fun b j hb => by rw [gI_sI, if_neg (by omega)], by rw [gI_sI, if_neg (by omega)], fun z => absurd z hn, fun _ => by rw [gI_sI, if_pos ⟨rfl, rfl⟩]; exact k2⟩
  by_cases h2 : ws_kd bt ln a = 2
  · have e4 := k4 h2
    by_cases h3 : nI (ws_wt bt ln a) < x1
    · refine no (gI M 163 14) ?_ (fun z => z.2.1 h3)
      unfold f_X7_number
      rw [if_pos (q1.2 h2), in_ok, bd_ok, e4, if_pos h3, if_pos rfl, due_0 h9, bd_ok, e4]
    · by_cases h4 : x2 < nI (ws_wt bt ln a)
      · refine no (gI M 163 14) ?_ (fun z => z.2.2 h4)
        unfold f_X7_number
        rw [if_pos (q1.2 h2), in_ok, bd_ok, e4, if_neg h3, if_pos h4, if_pos rfl, due_0 h9, bd_ok, e4]
      · refine ⟨G, gI M 163 14, ?_, ws_FMu g2, fun b j hb => U3_g g2 hb, g2.2.2 10 (by omega), fun _ => ⟨e4, g3, by rw [g2.2.2 15 (by omega)]; exact h9⟩, fun z => absurd ⟨h2, h3, h4⟩ z⟩
        unfold f_X7_number
        rw [if_pos (q1.2 h2), in_ok, bd_ok, e4, if_neg h3, if_neg h4, if_neg (by decide), due_1 h9 g1, bd_ok, e4]
  · refine no (gI M 163 14) ?_ (fun z => h2 z.1)
    unfold f_X7_number
    rw [if_neg (fun z => h2 (q1.1 z)), due_0 h9, bd_ok]
