/-! a new shop on both sides -/
theorem nb0 : vp_nar .boolean 0 = 0 := by decide
theorem fv5 {x : Nat} (h : 5 ≤ x) (hx : x ≤ 150) : (5 : Int32) ≤ nI x := nI_le (a := 5) h (by omega)
theorem nf5 {x : Nat} (h : x < 5) : ¬ (5 : Int32) ≤ nI x := nI_ge (b := 5) h (by decide)
theorem op_l {d : Nat} (hd : 3 ≤ d) (hd2 : d + 6 ≤ 15) : ∀ (r i fu : Nat) (S : Mm), i + r = 5 → r < fu → ∃ F, f_X1_open_2 16 d fu (nI i) S = some ((), F) ∧ (∀ a, (a < 16 ∨ 19 < a) → F.1 a = S.1 a) ∧ F.2 = S.2 ∧ (∀ j, j < i → gI F 17 j = gI S 17 j ∧ gI F 18 j = gI S 18 j ∧ gI F 19 j = gI S 19 j) ∧ (∀ j, i ≤ j → j < 5 → gI F 17 j = nI j ∧ gI F 18 j = gI S (d + 2) j ∧ gI F 19 j = 0) ∧ gI F 16 3 = 0 ∧ gI F 16 4 = 0 ∧ gI F 16 5 = 0 ∧ gI F 16 6 = 0 ∧ gI F 16 7 = 0 := by
  intro r
  induction r with
  | zero =>
    intro i fu S hi hf
    obtain ⟨f, rfl⟩ : ∃ f, fu = f + 1 := ⟨fu - 1, by omega⟩
    rw [f_X1_open_2, if_pos (fv5 (by omega) (by omega)), nm_ok, nm_ok, nm_ok, nm_ok, nm_ok]
    refine ⟨_, rfl, fun a ha => ?_, rfl, fun j hj => ⟨?_, ?_, ?_⟩, fun j h1 h2 => by omega, ?_, ?_, ?_, ?_, ?_⟩
    · rw [sI_ne (by omega), sI_ne (by omega), sI_ne (by omega), sI_ne (by omega), sI_ne (by omega)]
    all_goals simp [gI_sI]
  | succ r ih =>
    intro i fu S hi hf
    obtain ⟨f, rfl⟩ : ∃ f, fu = f + 1 := ⟨fu - 1, by omega⟩
    rw [f_X1_open_2, if_neg (nf5 (by omega)), bnd_ok (inB_nI (by omega) (by decide)), nI_clamp (by omega), nm_ok, bnd_ok (inB_nI (by omega) (by decide)), bnd_ok (inB_nI (by omega) (by decide)), nm_ok, bnd_ok (inB_nI (by omega) (by decide)), nm_ok, nm_ok, nI_1]
    rw [gI_sI, if_neg (by omega)]
    generalize hA : sI (sI (sI S (16 + 1) i (nI i)) (16 + 2) i (gI S (d + 2) i)) (16 + 3) i 0 = A
    have hg : ∀ a j, gI A a j = if a = 19 ∧ j = i then 0 else if a = 18 ∧ j = i then gI S (d + 2) i else if a = 17 ∧ j = i then nI i else gI S a j := fun a j => by rw [← hA, gI_sI, gI_sI, gI_sI]
    obtain ⟨F, f1, f2, f3, f4, f5, f6⟩ := ih (i + 1) f A (by omega) (by omega)
    refine ⟨F, f1, fun a ha => ?_, ?_, fun j hj => ?_, fun j h1 h2 => ?_, f6⟩
    · rw [f2 a ha, ← hA, sI_ne (by omega), sI_ne (by omega), sI_ne (by omega)]
    · rw [f3, ← hA]; rfl
    · obtain ⟨a1, a2, a3⟩ := f4 j (by omega)
      rw [a1, a2, a3, hg, hg, hg, if_neg (by omega), if_neg (by omega), if_neg (by omega), if_neg (by omega), if_neg (by omega), if_neg (by omega), if_neg (by omega), if_neg (by omega), if_neg (by omega)]
      exact ⟨rfl, rfl, rfl⟩
    · by_cases hj : j = i
      · subst hj
        obtain ⟨a1, a2, a3⟩ := f4 j (by omega)
        rw [a1, a2, a3, hg, hg, hg]
        simp
      · obtain ⟨a1, a2, a3⟩ := f5 j (by omega) h2
        rw [a1, a2, a3, hg, if_neg (by omega), if_neg (by omega), if_neg (by omega)]
        exact ⟨rfl, rfl, rfl⟩
theorem pn_l : ∀ (r i fu : Nat) (S : Mm), i + r = 5 → r < fu → ∃ F, f_X7_plain_22 fu (nI i) S = some ((), F) ∧ ws_FM S F ∧ (∀ a j, a ≠ 170 → gI F a j = gI S a j) ∧ (∀ j, j < 5 + i → gI F 170 j = gI S 170 j) ∧ ∀ j, 5 + i ≤ j → j < 10 → gI F 170 j = 0 := by
  intro r
  induction r with
  | zero =>
    intro i fu S hi hf
    obtain ⟨f, rfl⟩ : ∃ f, fu = f + 1 := ⟨fu - 1, by omega⟩
    rw [f_X7_plain_22, if_pos (fv5 (by omega) (by omega))]
    exact ⟨S, rfl, ws_FM0, fun _ _ _ => rfl, fun _ _ => rfl, fun j h1 h2 => by omega⟩
  | succ r ih =>
    intro i fu S hi hf
    obtain ⟨f, rfl⟩ : ∃ f, fu = f + 1 := ⟨fu - 1, by omega⟩
    rw [f_X7_plain_22, if_neg (nf5 (by omega)), fv_n, bnd_ok (inB_nI (by omega) (by decide)), nI_clamp (by omega), nm_ok, nm_ok, nI_1]
    obtain ⟨F, f1, f2, f3, f4, f5⟩ := ih (i + 1) f (sI S 170 (5 + i) 0) (by omega) (by omega)
    refine ⟨F, f1, ws_FMt (ws_FMs (by omega)) f2, fun a j ha => ?_, fun j hj => ?_, fun j h1 h2 => ?_⟩
    · rw [f3 a j ha, gI_sI, if_neg (by omega)]
    · rw [f4 j (by omega), gI_sI, if_neg (by omega)]
    · by_cases hj : j = 5 + i
      · rw [f4 j (by omega), gI_sI, if_pos ⟨rfl, hj⟩]
      · exact f5 j (by omega) h2
/-- what the model does ahead of the items -/
theorem pre_m {bt : Nat → Nat} {ln : Nat} {S : Mm} (h : TxM bt ln S) : ∃ F, f_X7_shop S = f_X7_shop_21 400 (nI 0) F ∧ ws_FM S F ∧ ws_KM bt ln F 0 ∧ gI F 163 15 = -9 ∧ gI F 165 1 = nI 0 ∧ gI F 171 1 = nI 50 ∧ (∀ s, s < 5 → gI F 170 (5 + s) = nI 0) ∧ gI F 163 10 = 0 := by
  generalize hA : sI (sI (sI (sI (sI S 163 11 0) 163 15 (-9)) 165 1 0) 171 1 50) 163 10 0 = A
  have fA : ws_FM S A := by rw [← hA]; exact ws_FMt (ws_FMs (by omega)) (ws_FMt (ws_FMs (by omega)) (ws_FMt (ws_FMs (by omega)) (ws_FMt (ws_FMs (by omega)) (ws_FMs (by omega)))))
  have gA : ∀ a j, gI A a j = if a = 163 ∧ j = 10 then 0 else if a = 171 ∧ j = 1 then 50 else if a = 165 ∧ j = 1 then 0 else if a = 163 ∧ j = 15 then -9 else if a = 163 ∧ j = 11 then 0 else gI S a j := fun a j => by rw [← hA, gI_sI, gI_sI, gI_sI, gI_sI, gI_sI]
  obtain ⟨B, b1, b2, b3, b4, b5⟩ := pn_l 5 0 400 A (by omega) (by omega)
  have hB := TxM_f h (ws_FMt fA b2)
  obtain ⟨F, f1, f2, f3⟩ := rt_m (bt := bt) (a := 0) (by omega) hB (by rw [b3 _ _ (by omega), gA]; rfl)
  refine ⟨F, ?_, ws_FMt fA (ws_FMt b2 (ws_FMu f2)), f3, ?_, ?_, ?_, fun s hs => ?_, ?_⟩
  · unfold f_X7_shop f_X7_plain
    rw [nm_ok, nm_ok, bnd_ok in12, clamp1, nm_ok, bnd_ok in12, nm_ok, nm_ok, hA, show (0 : Int32) = nI 0 from rfl, b1, bd_ok, f1, bd_ok]
  · rw [f2.2.2 15 (by omega), b3 _ _ (by omega), gA]; rfl
  · rw [U3_g f2 (by omega), b3 _ _ (by omega), gA]; rfl
  · rw [U3_g f2 (by omega), b3 _ _ (by omega), gA]; rfl
  · rw [U3_g f2 (by omega), b5 _ (by omega) (by omega)]; rfl
  · rw [f2.2.2 10 (by omega), b3 _ _ (by omega), gA]; rfl
theorem td47 : ∀ (r i fu : Nat) (S : Mm), i + r = 5 → r < fu → ∃ F, f_X7_takeDraft_47 fu (nI i) S = some ((), F) ∧ (∀ a, (a < 163 ∨ a = 164 ∨ a = 165 ∨ a = 167 ∨ a = 171 ∨ 173 < a) → F.1 a = S.1 a) ∧ F.2 = S.2 ∧ (∀ j, j ≠ 30 → gI F 163 j = gI S 163 j) ∧ gI F 163 30 = 0 ∧ gI F 172 20 = 0 ∧ gI F 173 0 = 0 ∧ gI F 173 1 = 0 ∧ (∀ j, j < i → gI F 166 j = gI S 166 j ∧ gI F 168 j = gI S 168 j ∧ gI F 169 j = gI S 169 j ∧ gI F 170 j = gI S 170 j ∧ gI F 172 j = gI S 172 j ∧ gI F 172 (5 + j) = gI S 172 (5 + j)) ∧ (∀ j, i ≤ j → j < 5 → gI F 166 j = gI S 166 (5 + j) ∧ gI F 168 j = gI S 168 (5 + j) ∧ gI F 169 j = gI S 169 (5 + j) ∧ gI F 170 j = gI S 170 (5 + j) ∧ gI F 172 j = nI j ∧ gI F 172 (5 + j) = gI S 167 j) ∧ ∀ j, 10 ≤ j → j ≠ 20 → gI F 172 j = gI S 172 j := by
  intro r
  induction r with
  | zero =>
    intro i fu S hi hf
    obtain ⟨f, rfl⟩ : ∃ f, fu = f + 1 := ⟨fu - 1, by omega⟩
    rw [f_X7_takeDraft_47, if_pos (fv5 (by omega) (by omega)), bnd_ok (by decide), show (20 : Int32).toNatClampNeg = 20 by decide, nm_ok, nm_ok, bnd_ok in02, clamp0, nm_ok, bnd_ok in12, clamp1, nm_ok, nb0]
    refine ⟨_, rfl, fun a ha => ?_, rfl, fun j hj => ?_, ?_, ?_, ?_, ?_, fun j hj => ?_, fun j h1 h2 => by omega, fun j h1 h2 => ?_⟩
    · rw [sI_ne (by omega), sI_ne (by omega), sI_ne (by omega), sI_ne (by omega)]
    · rw [gI_sI, if_neg (by omega), gI_sI, if_neg (by omega), gI_sI, if_neg (by omega), gI_sI, if_neg (by omega)]
    · simp [gI_sI]
    · simp [gI_sI]
    · simp [gI_sI]
    · simp [gI_sI]
    · simp only [gI_sI]
      simp
      omega
    · rw [gI_sI, if_neg (by omega), gI_sI, if_neg (by omega), gI_sI, if_neg (by omega), gI_sI, if_neg (by omega)]
  | succ r ih =>
    intro i fu S hi hf
    obtain ⟨f, rfl⟩ : ∃ f, fu = f + 1 := ⟨fu - 1, by omega⟩
    rw [f_X7_takeDraft_47, if_neg (nf5 (by omega)), fv_n, show (0 : Int32) + nI i = nI i from Int32.zero_add _, nI_clamp (show 5 + i < 2 ^ 31 by omega), nI_clamp (show i < 2 ^ 31 by omega)]
    rw [bnd_ok (inB_nI (by omega) (by decide)), bnd_ok (inB_nI (by omega) (by decide)), nm_ok, bnd_ok (inB_nI (by omega) (by decide)), bnd_ok (inB_nI (by omega) (by decide)), nm_ok, bnd_ok (inB_nI (by omega) (by decide)), bnd_ok (inB_nI (by omega) (by decide)), nm_ok, bnd_ok (inB_nI (by omega) (by decide)), bnd_ok (inB_nI (by omega) (by decide)), nm_ok, bnd_ok (inB_nI (by omega) (by decide)), nm_ok, bnd_ok (inB_nI (by omega) (by decide)), bnd_ok (inB_nI (by omega) (by decide)), nm_ok, nm_ok, nI_1]
    generalize hA1 : sI S 166 i (gI S 166 (5 + i)) = A1
    generalize hA2 : sI A1 168 i (gI A1 168 (5 + i)) = A2
    generalize hA3 : sI A2 169 i (gI A2 169 (5 + i)) = A3
    generalize hA4 : sI A3 170 i (gI A3 170 (5 + i)) = A4
    generalize hA5 : sI A4 172 i (nI i) = A5
    generalize hA6 : sI A5 172 (5 + i) (gI A5 167 i) = A6
    have g1 : ∀ a j, gI A1 a j = if a = 166 ∧ j = i then gI S 166 (5 + i) else gI S a j := fun a j => by rw [← hA1, gI_sI]
    have g2 : ∀ a j, gI A2 a j = if a = 168 ∧ j = i then gI S 168 (5 + i) else gI A1 a j := fun a j => by rw [← hA2, gI_sI, g1 168 (5 + i), if_neg (show ¬ (168 = 166 ∧ 5 + i = i) by omega)]
    have g3 : ∀ a j, gI A3 a j = if a = 169 ∧ j = i then gI S 169 (5 + i) else gI A2 a j := fun a j => by rw [← hA3, gI_sI, g2 169 (5 + i), if_neg (show ¬ (169 = 168 ∧ 5 + i = i) by omega), g1 169 (5 + i), if_neg (show ¬ (169 = 166 ∧ 5 + i = i) by omega)]
    have g4 : ∀ a j, gI A4 a j = if a = 170 ∧ j = i then gI S 170 (5 + i) else gI A3 a j := fun a j => by rw [← hA4, gI_sI, g3 170 (5 + i), if_neg (show ¬ (170 = 169 ∧ 5 + i = i) by omega), g2 170 (5 + i), if_neg (show ¬ (170 = 168 ∧ 5 + i = i) by omega), g1 170 (5 + i), if_neg (show ¬ (170 = 166 ∧ 5 + i = i) by omega)]
    have g5 : ∀ a j, gI A5 a j = if a = 172 ∧ j = i then nI i else gI A4 a j := fun a j => by rw [← hA5, gI_sI]
    have e167 : gI A5 167 i = gI S 167 i := by rw [g5, if_neg (by omega), g4, if_neg (by omega), g3, if_neg (by omega), g2, if_neg (by omega), g1, if_neg (by omega)]
    have g6 : ∀ a j, gI A6 a j = if a = 172 ∧ j = 5 + i then gI S 167 i else gI A5 a j := fun a j => by rw [← hA6, gI_sI, e167]
    have hg : ∀ a j, gI A6 a j = if a = 172 ∧ j = 5 + i then gI S 167 i else if a = 172 ∧ j = i then nI i else if a = 170 ∧ j = i then gI S 170 (5 + i) else if a = 169 ∧ j = i then gI S 169 (5 + i) else if a = 168 ∧ j = i then gI S 168 (5 + i) else if a = 166 ∧ j = i then gI S 166 (5 + i) else gI S a j := fun a j => by rw [g6, g5, g4, g3, g2, g1]
    have hS : ∀ a j, (a = 172 ∧ j ≠ 5 + i ∧ j ≠ i ∨ a ≠ 172 ∧ j ≠ i ∨ a ≠ 172 ∧ a ≠ 170 ∧ a ≠ 169 ∧ a ≠ 168 ∧ a ≠ 166) → gI A6 a j = gI S a j := fun a j hh => by
      rw [hg, if_neg (by omega), if_neg (by omega), if_neg (by omega), if_neg (by omega), if_neg (by omega), if_neg (by omega)]
    obtain ⟨F, f1, f2, f3, f4, f5, f6, f7, f8, f9, f10, f11⟩ := ih (i + 1) f A6 (by omega) (by omega)
    refine ⟨F, f1, fun a ha => ?_, ?_, fun j hj => ?_, f5, f6, f7, f8, fun j hj => ?_, fun j h1 h2 => ?_, fun j h1 h2 => ?_⟩
    · rw [f2 a ha, ← hA6, sI_ne (by omega), ← hA5, sI_ne (by omega), ← hA4, sI_ne (by omega), ← hA3, sI_ne (by omega), ← hA2, sI_ne (by omega), ← hA1, sI_ne (by omega)]
    · rw [f3, ← hA6, ← hA5, ← hA4, ← hA3, ← hA2, ← hA1]; rfl
    · rw [f4 j hj, hS 163 j (by omega)]
    · obtain ⟨a1, a2, a3, a4, a5, a6⟩ := f9 j (by omega)
      rw [a1, a2, a3, a4, a5, a6, hS 166 j (by omega), hS 168 j (by omega), hS 169 j (by omega), hS 170 j (by omega), hS 172 j (by omega), hS 172 (5 + j) (by omega)]
      exact ⟨rfl, rfl, rfl, rfl, rfl, rfl⟩
    · by_cases hj : j = i
      · subst hj
        obtain ⟨a1, a2, a3, a4, a5, a6⟩ := f9 j (by omega)
        rw [a1, a2, a3, a4, a5, a6, hg, hg, hg, hg, hg, hg]
        simp
      · obtain ⟨a1, a2, a3, a4, a5, a6⟩ := f10 j (by omega) h2
        rw [a1, a2, a3, a4, a5, a6, hS 166 (5 + j) (by omega), hS 168 (5 + j) (by omega), hS 169 (5 + j) (by omega), hS 170 (5 + j) (by omega), hS 167 j (by omega)]
        exact ⟨rfl, rfl, rfl, rfl, rfl, rfl⟩
    · rw [f11 j h1 h2, hS 172 j (by omega)]
theorem td26 : ∀ (r i fu : Nat) (S : Mm), i + r = 20 → r < fu → ∃ F, f_X7_takeDraft_26 fu (nI i) S = f_X7_takeDraft_47 400 0 F ∧ (∀ a, a ≠ 172 → F.1 a = S.1 a) ∧ F.2 = S.2 ∧ (∀ j, (j < i ∨ 20 ≤ j) → gI F 172 j = gI S 172 j) ∧ ∀ j, i ≤ j → j < 20 → gI F 172 j = 0 := by
  intro r
  induction r with
  | zero =>
    intro i fu S hi hf
    obtain ⟨f, rfl⟩ : ∃ f, fu = f + 1 := ⟨fu - 1, by omega⟩
    rw [f_X7_takeDraft_26, if_pos (show (20 : Int32) ≤ nI i from nI_le (a := 20) (by omega) (by omega))]
    exact ⟨S, rfl, fun _ _ => rfl, rfl, fun _ _ => rfl, fun j h1 h2 => by omega⟩
  | succ r ih =>
    intro i fu S hi hf
    obtain ⟨f, rfl⟩ : ∃ f, fu = f + 1 := ⟨fu - 1, by omega⟩
    rw [f_X7_takeDraft_26, if_neg (show ¬ (20 : Int32) ≤ nI i from nI_ge (b := 20) (by omega) (by decide)), bnd_ok (inB_nI (by omega) (by decide)), nI_clamp (by omega), nm_ok, nm_ok, nI_1]
    obtain ⟨F, f1, f2, f3, f4, f5⟩ := ih (i + 1) f (sI S 172 i 0) (by omega) (by omega)
    refine ⟨F, f1, fun a ha => ?_, f3, fun j hj => ?_, fun j h1 h2 => ?_⟩
    · rw [f2 a ha, sI_ne ha]
    · rw [f4 j (by omega), gI_sI, if_neg (by omega)]
    · by_cases hj : j = i
      · rw [f4 j (by omega), gI_sI, if_pos ⟨rfl, hj⟩]
      · exact f5 j (by omega) h2
