theorem stp_cases (n : Nat) (hn : n ≤ 5) (x : Int32) : (∃ j, j < n ∧ x = nI j) ∨ (x < 0 ∨ nI n ≤ x) := by
  rcases pk_ix x (n := n) (by omega) with h | h | h
  · exact Or.inr (Or.inl h)
  · exact Or.inr (Or.inr h)
  · exact Or.inl h
theorem cs_yes {S : Mm} {n j : Nat} (hn : n ≤ 5) (e : gI S (pl S) 0 = nI n) (hj : j < n) : f_X6_isStep S (nI j) = some (1, S) := by
  unfold f_X6_isStep
  rw [e, if_neg (nI_pos (by omega)), if_neg (nI_ge hj (by omega))]
theorem cs_no {S : Mm} {n : Nat} {x : Int32} (e : gI S (pl S) 0 = nI n) (h : x < 0 ∨ nI n ≤ x) : f_X6_isStep S x = some (0, S) := by
  unfold f_X6_isStep
  rw [e]
  by_cases h0 : x < 0
  · rw [if_pos h0]
  · rw [if_neg h0, if_pos (h.resolve_left h0)]
theorem clamp0 : (0 : Int32).toNatClampNeg = 0 := by decide
theorem clamp1 : (1 : Int32).toNatClampNeg = 1 := by decide
theorem in02 : inB 0 2 = true := by decide
theorem in12 : inB 1 2 = true := by decide
theorem below_iff {n : Nat} (hn : n ≤ 5) {x : Int32} (h0 : ¬ x < 0) : nI n - 1 < x ↔ nI n ≤ x := by
  obtain ⟨j, hj, rfl⟩ := nI_of h0
  have h1 : (nI n - 1).toInt = (n : Int) - 1 := pk_sub_toInt (a := n) (b := 1) (by omega) (by omega)
  rw [Int32.lt_iff_toInt_lt, Int32.le_iff_toInt_le, h1, nI_toInt hj, nI_toInt (by omega)]
  omega
theorem ms_yes {S : Mm} {n j : Nat} (hn : n ≤ 5) (e : gI S 165 0 = nI n) (hj : j < n) : f_X7_isStep S (nI j) = some (1, S) := by
  unfold f_X7_isStep
  rw [bnd_ok in02, in_ok, clamp0, e, if_neg (nI_pos (by omega)), if_neg (fun h => nI_ge hj (by omega) ((below_iff hn (nI_pos (by omega))).mp h))]
  rfl
theorem ms_no {S : Mm} {n : Nat} (hn : n ≤ 5) {x : Int32} (e : gI S 165 0 = nI n) (h : x < 0 ∨ nI n ≤ x) : f_X7_isStep S x = some (0, S) := by
  unfold f_X7_isStep
  rw [bnd_ok in02, in_ok, clamp0, e]
  by_cases h0 : x < 0
  · rw [if_pos h0]; rfl
  · rw [if_neg h0, if_pos ((below_iff hn h0).mpr (h.resolve_left h0))]; rfl
theorem Inv_tg {S S2 : Mm} (h : Inv S) (hd : S2.2.2 = S.2.2) (h1 : ∀ a, a ≠ 0 → a ≠ 1 → a ≠ 2 → a ≠ 155 → a ≠ 156 → a ≠ 163 → a ≠ 164 → a ≠ 178 → a ≠ 179 → S2.1 a = S.1 a) (hT : IT S2) (hG : IG S2) (hJ : gJ S2 0 13 = gJ S2 163 0) : Inv S2 := by
  obtain ⟨n, hP, hR, hI, -, -, hD, -⟩ := h
  have hn := hP.1
  have hp : pl S2 = pl S := by unfold pl; rw [hd]
  have hdr : dr S2 = dr S := by unfold dr; rw [hd]
  have hpl : pl S ≤ 9 ∧ 3 ≤ pl S := by rcases hD with ⟨h, -⟩ | ⟨h, -⟩ <;> omega
  have hg : ∀ a j, a ≠ 0 → a ≠ 1 → a ≠ 2 → a ≠ 155 → a ≠ 156 → a ≠ 163 → a ≠ 164 → a ≠ 178 → a ≠ 179 → gI S2 a j = gI S a j := fun a j q1 q2 q3 q4 q5 q6 q7 q8 q9 => by unfold gI; rw [h1 a q1 q2 q3 q4 q5 q6 q7 q8 q9]
  refine ⟨n, IP_keep hP hp (fun a _ _ => h1 a (by omega) (by omega) (by omega) (by omega) (by omega) (by omega) (by omega) (by omega) (by omega)) ?_ ?_ (fun s _ => ⟨?_, ?_, ?_, ?_⟩), PR_keep hn hR (fun a _ _ => h1 a (by omega) (by omega) (by omega) (by omega) (by omega) (by omega) (by omega) (by omega) (by omega)) (fun k _ _ => ?_), II_keep hn hI (fun a _ _ => h1 a (by omega) (by omega) (by omega) (by omega) (by omega) (by omega) (by omega) (by omega) (by omega)) (fun k _ _ => ?_) (fun i _ => ?_), hT, hG, ?_, hJ⟩
  all_goals first | exact hg _ _ (by decide) (by decide) (by decide) (by decide) (by decide) (by decide) (by decide) (by decide) (by decide) | (unfold ID; rw [hp, hdr]; exact hD)
theorem sm_trace : sim_trace Inv := fun S h => ⟨gJ S 0 13, S, S, rfl, by
  obtain ⟨n, -, -, -, -, -, -, hJ⟩ := id h
  unfold f_X7_trace
  rw [hJ], h⟩
theorem sm_clear : sim_clear Inv := fun S h => by
  obtain ⟨n, hP, hR, hI, ⟨ln, l1, l2, l3, l4⟩, hG, hD, hJ⟩ := id h
  refine ⟨nI ln, sI S 1 1 0, sI (sI S 1 1 0) 163 2 0, ?_, ?_, Inv_tg h rfl (fun a h1 h2 _ _ _ h3 _ _ _ => by rw [sI_ne h3, sI_ne h2]) ⟨0, by omega, ?_, ?_, fun j hj => absurd hj (by omega)⟩ (IG_keep hG ?_ ?_ rfl rfl rfl rfl) hJ⟩
  · unfold f_X6_clear; rw [l2]; rfl
  · unfold f_X7_clear; rw [gI_sI, l3]; rfl
  all_goals simp [gI_sI, nI_0]
theorem sm_forget : sim_forget Inv := fun S h => by
  obtain ⟨n, hP, hR, hI, hT, ⟨t, t1, t2, t3, t4⟩, hD, hJ⟩ := id h
  refine ⟨nI t, sI S 0 8 0, sI (sI S 0 8 0) 163 30 0, ?_, ?_, Inv_tg h rfl (fun a h1 _ _ _ _ h3 _ _ _ => by rw [sI_ne h3, sI_ne h1]) (IT_keep hT ?_ ?_ rfl rfl) ⟨0, by omega, ?_, ?_, fun j hj => absurd hj (by omega)⟩ hJ⟩
  · unfold f_X6_forget; rw [t2]; rfl
  · unfold f_X7_forget; rw [gI_sI, t3]; rfl
  all_goals simp [gI_sI, nI_0]
theorem byte_ok : ∀ b, b < 256 → (vp_nar .byte (nI b).toInt8.toInt32) &&& 255 = nI b := by
  have h : (List.range 256).all (fun b => decide ((vp_nar .byte (nI b).toInt8.toInt32) &&& 255 = nI b)) = true := by decide +kernel
  intro b hb
  simpa using List.all_eq_true.mp h b (List.mem_range.mpr hb)
theorem lit255 : (255 : Int32) = nI 255 := by decide
theorem lit150 : (150 : Int32) = nI 150 := by decide
theorem sm_type : sim_type Inv := fun S h x => by
  obtain ⟨n, hP, hR, hI, ⟨ln, l1, l2, l3, l4⟩, hG, hD, hJ⟩ := id h
  by_cases h0 : x < 0
  · exact ⟨-1, S, S, by unfold f_X6_type; rw [if_pos h0], by unfold f_X7_type; rw [in_ok, if_pos h0]; rfl, h⟩
  by_cases h1 : x ≤ 255
  · obtain ⟨b, hb, rfl⟩ := nI_of2 (n := 255) (by decide) h0 h1
    have hlt : ¬ (255 : Int32) < nI b := Int32.not_lt.mpr h1
    by_cases hl : ln = 150
    · subst hl
      refine ⟨-3, S, S, ?_, ?_, h⟩
      · unfold f_X6_type f_X5_add
        rw [if_neg h0, if_pos h1, l2, if_neg (by decide)]
        rfl
      · unfold f_X7_type
        rw [in_ok, if_neg h0, if_neg hlt, bd_ok, if_neg (by decide), l3, if_pos (by decide)]
    · have hl2 : ln < 150 := by omega
      refine ⟨nI (ln + 1), sI (sI S 2 ln (nI b)) 1 1 (nI (ln + 1)), sI (sI (sI (sI S 2 ln (nI b)) 1 1 (nI (ln + 1))) 164 ln (vp_nar .byte (nI b).toInt8.toInt32)) 163 2 (nI (ln + 1)), ?_, ?_, Inv_tg h rfl (fun a _ h1 h2 _ _ h3 h4 _ _ => by rw [sI_ne h3, sI_ne h4, sI_ne h1, sI_ne h2]) ⟨ln + 1, by omega, by simp [gI_sI], by simp [gI_sI], fun j hj => ?_⟩ (IG_keep hG (by simp [gI_sI]) (by simp [gI_sI]) rfl rfl rfl rfl) hJ⟩
      · unfold f_X6_type f_X5_add
        rw [if_neg h0, if_pos h1, l2, if_pos (by rw [lit150]; exact nI_lt hl2 (by omega)), bnd_ok (inB_nI hl2 (by omega)), nI_clamp (by omega), nm_ok, nm_ok, bd_ok, if_neg (by decide)]
        simp only [gI_sI, l2]
        simp [nI_1]
      · unfold f_X7_type
        rw [in_ok, if_neg h0, if_neg hlt, bd_ok, if_neg (by decide)]
        simp only [gI_sI]
        simp only [show ¬ (163 = 1 ∧ 2 = 1) by decide, show ¬ (163 = 2 ∧ 2 = ln) by simp, if_false, l3]
        rw [if_neg (by rw [lit150, nI_eq (by omega) (by omega)]; omega), bnd_ok (inB_nI hl2 (by omega)), nI_clamp (by omega), nm_ok, nm_ok]
        simp only [gI_sI]
        simp [l3, nI_1]
      · by_cases hj2 : j = ln
        · subst hj2
          exact ⟨b, by omega, by simp [gI_sI], by simp [gI_sI]; exact byte_ok b (by omega)⟩
        · obtain ⟨c, c1, c2, c3⟩ := l4 j (by omega)
          exact ⟨c, c1, by simp [gI_sI, hj2, c2], by simp [gI_sI, hj2, c3]⟩
  · have hlt : (255 : Int32) < x := Int32.not_le.mp h1
    exact ⟨-1, S, S, by unfold f_X6_type; rw [if_neg h0, if_neg h1], by unfold f_X7_type; rw [in_ok, if_neg h0, if_pos hlt]; rfl, h⟩
