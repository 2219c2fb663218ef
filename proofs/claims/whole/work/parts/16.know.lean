/-- S' is S but for the row 172, which is h -/
def U172 (S S' : Mm) (h : Nat → Int32) : Prop := (∀ a, a ≠ 172 → S'.1 a = S.1 a) ∧ S'.2 = S.2 ∧ ∀ m, gI S' 172 m = h m
theorem U172_0 (S : Mm) : U172 S S (fun m => gI S 172 m) := ⟨fun _ _ => rfl, rfl, fun _ => rfl⟩
theorem U172_s {S S' : Mm} {h h' : Nat → Int32} (u : U172 S S' h) (j : Nat) (v : Int32) (e : ∀ m, h' m = if m = j then v else h m) : U172 S (sI S' 172 j v) h' := ⟨fun a ha => by rw [sI_ne ha]; exact u.1 a ha, u.2.1, fun m => by
  rw [gI_sI, e m, u.2.2 m]
  by_cases hm : m = j <;> simp [hm]⟩
theorem ix_know (K i : Nat) : (21 : Int32) + 20 * nI K + nI i = nI (21 + 20 * K + i) := by
  rw [show (20 : Int32) * nI K = nI (20 * K) from pk_mul 20 K, show (21 : Int32) + nI (20 * K) = nI (21 + 20 * K) from nI_add 21 (20 * K), nI_add]
theorem know58 {S : Mm} {K : Nat} (hK : K ≤ 9) (e : gI S 172 20 = nI K) : ∀ (fu i : Nat) (S' : Mm), i ≤ 20 → 20 - i < fu → U172 S S' (fun m => if 21 + 20 * K ≤ m ∧ m < 21 + 20 * K + i then gI S 172 (m - (21 + 20 * K)) else gI S 172 m) → ∃ S'', f_X7_know_58 fu (nI i) S' = some ((), S'') ∧ U172 S S'' (fun m => if m = 20 then nI (K + 1) else if 21 + 20 * K ≤ m ∧ m < 21 + 20 * K + 20 then gI S 172 (m - (21 + 20 * K)) else gI S 172 m) := by
  intro fu
  induction fu with
  | zero => intro i S' h1 h2; omega
  | succ fu ih =>
    intro i S' h1 h2 u
    have e20 : gI S' 172 20 = nI K := by rw [u.2.2 20]; dsimp only; rw [if_neg (by omega)]; exact e
    rw [f_X7_know_58]
    by_cases hi : i = 20
    · subst hi
      rw [if_pos (by decide), bnd_ok i20, bnd_ok i20, cl20, e20, nI_1, nm_ok]
      exact ⟨_, rfl, U172_s u 20 _ (fun m => rfl)⟩
    · rw [if_neg (show ¬ (20 : Int32) ≤ nI i from nI_ge (b := 20) (by omega) (by decide)), bnd_ok i20, cl20, e20, ix_know, bnd_ok (inB_nI (by omega) (by decide)), bnd_ok (inB_nI (by omega) (by decide)), nm_ok, nm_ok, nI_1, nI_clamp (by omega), nI_clamp (by omega)]
      have ei : gI S' 172 i = gI S 172 i := by rw [u.2.2 i]; dsimp only; rw [if_neg (by omega)]
      refine ih (i + 1) _ (by omega) (by omega) (U172_s u _ _ (fun m => ?_))
      try dsimp only
      rw [ei]
      by_cases hm : m = 21 + 20 * K + i
      · rw [if_pos hm, if_pos (by omega)]
        exact congrArg (gI S 172) (by omega)
      · rw [if_neg hm]
        by_cases hm2 : 21 + 20 * K ≤ m ∧ m < 21 + 20 * K + i
        · rw [if_pos hm2, if_pos (by omega)]
        · rw [if_neg hm2, if_neg (by omega)]
theorem know14 {S : Mm} (e : gI S 172 20 = nI 10) : ∀ (fu i : Nat) (S' : Mm), i ≤ 180 → 180 - i < fu → U172 S S' (fun m => if 21 ≤ m ∧ m < 21 + i then gI S 172 (m + 20) else gI S 172 m) → ∃ S'', f_X7_know_14 fu (nI i) S' = some ((), S'') ∧ U172 S S'' (fun m => if m = 20 then nI 10 else if 21 ≤ m ∧ m < 201 then gI S 172 (m + 20) else if 201 ≤ m ∧ m < 221 then gI S 172 (m - 201) else gI S 172 m) := by
  intro fu
  induction fu with
  | zero => intro i S' h1 h2; omega
  | succ fu ih =>
    intro i S' h1 h2 u
    rw [f_X7_know_14]
    by_cases hi : i = 180
    · subst hi
      have e20 : gI S' 172 20 = nI 10 := by rw [u.2.2 20]; dsimp only; rw [if_neg (by omega)]; exact e
      rw [if_pos (by decide), bnd_ok i20, bnd_ok i20, cl20, e20, show nI 10 - 1 = nI 9 from nI_pred 9, nm_ok]
      have u2 : U172 S (sI S' 172 20 (nI 9)) (fun m => if m = 20 then nI 9 else if 21 ≤ m ∧ m < 21 + 180 then gI S 172 (m + 20) else gI S 172 m) := U172_s u 20 _ (fun m => rfl)
      obtain ⟨S'', h3, h4⟩ := know58 (S := sI S' 172 20 (nI 9)) (K := 9) (by omega) (by simp [gI_sI]) 400 0 (sI S' 172 20 (nI 9)) (by omega) (by omega) ⟨fun _ _ => rfl, rfl, fun m => by dsimp only; rw [if_neg (by omega)]⟩
      refine ⟨S'', h3, fun a ha => (h4.1 a ha).trans (u2.1 a ha), h4.2.1.trans u2.2.1, fun m => ?_⟩
      rw [h4.2.2 m]
      dsimp only
      by_cases m20 : m = 20
      · rw [if_pos m20, if_pos m20]
      · rw [if_neg m20, if_neg m20]
        by_cases a1 : 21 ≤ m ∧ m < 201
        · rw [if_neg (by omega), if_pos a1, u2.2.2 m]; dsimp only; rw [if_neg m20, if_pos a1]
        · rw [if_neg a1]
          by_cases a2 : 201 ≤ m ∧ m < 221
          · rw [if_pos (by omega), if_pos a2, u2.2.2]; dsimp only; rw [if_neg (by omega), if_neg (by omega)]
          · rw [if_neg (by omega), if_neg a2, u2.2.2 m]; dsimp only; rw [if_neg m20, if_neg a1]
    · rw [if_neg (show ¬ (180 : Int32) ≤ nI i from nI_ge (b := 180) (by omega) (by decide)), show (41 : Int32) + nI i = nI (41 + i) from nI_add 41 i, show (21 : Int32) + nI i = nI (21 + i) from nI_add 21 i, bnd_ok (inB_nI (by omega) (by decide)), bnd_ok (inB_nI (by omega) (by decide)), nm_ok, nm_ok, nI_1, nI_clamp (by omega), nI_clamp (by omega)]
      have ei : gI S' 172 (41 + i) = gI S 172 (41 + i) := by rw [u.2.2]; dsimp only; rw [if_neg (by omega)]
      refine ih (i + 1) _ (by omega) (by omega) (U172_s u _ _ (fun m => ?_))
      try dsimp only
      rw [ei]
      by_cases hm : m = 21 + i
      · rw [if_pos hm, if_pos (by omega)]
        exact congrArg (gI S 172) (by omega)
      · rw [if_neg hm]
        by_cases hm2 : 21 ≤ m ∧ m < 21 + i
        · rw [if_pos hm2, if_pos (by omega)]
        · rw [if_neg hm2, if_neg (by omega)]
theorem know_ok {S : Mm} {K : Nat} (hK : K ≤ 10) (e : gI S 172 20 = nI K) : ∃ S' h, f_X7_know S = some ((), S') ∧ U172 S S' h ∧ (∀ m, m < 20 ∨ 221 ≤ m → h m = gI S 172 m) ∧ h 20 = nI (min (K + 1) 10) ∧ ∀ j, j < min (K + 1) 10 → ∀ k, k < 20 → h (21 + 20 * (min (K + 1) 10 - 1 - j) + k) = if j = 0 then gI S 172 k else gI S 172 (21 + 20 * (K - j) + k) := by
  unfold f_X7_know
  rw [bnd_ok i20, cl20, e]
  by_cases h10 : K = 10
  · subst h10
    rw [if_pos (by decide)]
    obtain ⟨S', h1, h2⟩ := know14 (S := S) e 400 0 S (by omega) (by omega) ⟨fun _ _ => rfl, rfl, fun m => by dsimp only; rw [if_neg (by omega)]⟩
    refine ⟨S', _, h1, h2, fun m hm => ?_, if_pos rfl, fun j hj k hk => ?_⟩
    · show (if m = 20 then _ else _) = _
      rw [if_neg (by omega), if_neg (by omega), if_neg (by omega)]
    · show (if 21 + 20 * (min (10 + 1) 10 - 1 - j) + k = 20 then _ else _) = _
      rw [if_neg (by omega)]
      by_cases h0 : j = 0
      · rw [if_pos h0, if_neg (by omega), if_pos (by omega)]
        exact congrArg (gI S 172) (by omega)
      · rw [if_neg h0, if_pos (by omega)]
        exact congrArg (gI S 172) (by omega)
  · rw [if_neg (show ¬ nI K = 10 by rw [nI_10, nI_eq (by omega) (by omega)]; exact h10)]
    obtain ⟨S', h1, h2⟩ := know58 (S := S) (K := K) (by omega) e 400 0 S (by omega) (by omega) ⟨fun _ _ => rfl, rfl, fun m => by dsimp only; rw [if_neg (by omega)]⟩
    refine ⟨S', _, h1, h2, fun m hm => ?_, ?_, fun j hj k hk => ?_⟩
    · show (if m = 20 then _ else _) = _
      rw [if_neg (by omega), if_neg (by omega)]
    · show (if 20 = 20 then _ else _) = _
      rw [if_pos rfl, Nat.min_eq_left (by omega)]
    · show (if 21 + 20 * (min (K + 1) 10 - 1 - j) + k = 20 then _ else _) = _
      rw [if_neg (by omega)]
      by_cases h0 : j = 0
      · rw [if_pos h0, if_pos (by omega)]
        exact congrArg (gI S 172) (by omega)
      · rw [if_neg h0, if_neg (by omega)]
        exact congrArg (gI S 172) (by omega)
theorem undo26 {S : Mm} {K : Nat} (hK : K ≤ 9) (e : gI S 172 20 = nI K) : ∀ (fu i : Nat) (S' : Mm), i ≤ 20 → 20 - i < fu → U172 S S' (fun m => if m < i then gI S 172 (21 + 20 * K + m) else gI S 172 m) → ∃ S'', f_X7_undo_26 fu (nI i) S' = some (nI K, S'') ∧ U172 S S'' (fun m => if m < 20 then gI S 172 (21 + 20 * K + m) else gI S 172 m) := by
  intro fu
  induction fu with
  | zero => intro i S' h1 h2; omega
  | succ fu ih =>
    intro i S' h1 h2 u
    have e20 : gI S' 172 20 = nI K := by rw [u.2.2 20]; dsimp only; rw [if_neg (by omega)]; exact e
    rw [f_X7_undo_26]
    by_cases hi : i = 20
    · subst hi
      rw [if_pos (by decide), bnd_ok i20, cl20, e20]
      exact ⟨_, rfl, u⟩
    · rw [if_neg (show ¬ (20 : Int32) ≤ nI i from nI_ge (b := 20) (by omega) (by decide)), bnd_ok i20, cl20, e20, ix_know, bnd_ok (inB_nI (by omega) (by decide)), bnd_ok (inB_nI (by omega) (by decide)), nm_ok, nm_ok, nI_1, nI_clamp (by omega), nI_clamp (by omega)]
      have ei : gI S' 172 (21 + 20 * K + i) = gI S 172 (21 + 20 * K + i) := by rw [u.2.2]; dsimp only; rw [if_neg (by omega)]
      refine ih (i + 1) _ (by omega) (by omega) (U172_s u _ _ (fun m => ?_))
      try dsimp only
      rw [ei]
      by_cases hm : m = i
      · subst hm
        rw [if_pos rfl, if_pos (by omega)]
      · rw [if_neg hm]
        by_cases hm2 : m < i
        · rw [if_pos hm2, if_pos (by omega)]
        · rw [if_neg hm2, if_neg (by omega)]
theorem ix_img (i k : Nat) : (221 : Int32) * (1 + nI i) + nI k = nI (221 * (1 + i) + k) := by
  rw [show (1 : Int32) + nI i = nI (1 + i) from nI_add 1 i, show (221 : Int32) * nI (1 + i) = nI (221 * (1 + i)) from pk_mul 221 (1 + i), nI_add]
theorem keep13 {S : Mm} {i : Nat} (hi : i < 2) : ∀ (fu k : Nat) (S' : Mm), k ≤ 221 → 221 - k < fu → U172 S S' (fun m => if 221 * (1 + i) ≤ m ∧ m < 221 * (1 + i) + k then gI S 172 (m - 221 * (1 + i)) else gI S 172 m) → ∃ S'', f_X7_keep_13 fu (nI i) (nI k) S' = some (gI S 172 11, sI S'' 173 i 1) ∧ U172 S S'' (fun m => if 221 * (1 + i) ≤ m ∧ m < 221 * (1 + i) + 221 then gI S 172 (m - 221 * (1 + i)) else gI S 172 m) := by
  intro fu
  induction fu with
  | zero => intro k S' h1 h2; omega
  | succ fu ih =>
    intro k S' h1 h2 u
    rw [f_X7_keep_13]
    by_cases hk : k = 221
    · subst hk
      rw [if_pos (by decide), bnd_ok (inB_nI hi (by decide)), nm_ok, bnd_ok i11, cl11, nI_clamp (by omega)]
      refine ⟨S', ?_, u⟩
      have e11 : gI (sI S' 173 i (vp_nar .boolean 1)) 172 11 = gI S 172 11 := by
        rw [gI_sI, if_neg (by omega), u.2.2 11]; dsimp only; rw [if_neg (by omega)]
      rw [e11]
      rfl
    · rw [if_neg (show ¬ (221 : Int32) ≤ nI k from nI_ge (b := 221) (by omega) (by decide)), ix_img, bnd_ok (inB_nI (by omega) (by decide)), bnd_ok (inB_nI (by omega) (by decide)), nm_ok, nm_ok, nI_1, nI_clamp (by omega), nI_clamp (by omega)]
      have ek : gI S' 172 k = gI S 172 k := by rw [u.2.2]; dsimp only; rw [if_neg (by omega)]
      refine ih (k + 1) _ (by omega) (by omega) (U172_s u _ _ (fun m => ?_))
      try dsimp only
      rw [ek]
      by_cases hm : m = 221 * (1 + i) + k
      · rw [if_pos hm, if_pos (by omega)]
        exact congrArg (gI S 172) (by omega)
      · rw [if_neg hm]
        by_cases hm2 : 221 * (1 + i) ≤ m ∧ m < 221 * (1 + i) + k
        · rw [if_pos hm2, if_pos (by omega)]
        · rw [if_neg hm2, if_neg (by omega)]
theorem back25 {S : Mm} {i : Nat} (hi : i < 2) : ∀ (fu k : Nat) (S' : Mm), k ≤ 221 → 221 - k < fu → U172 S S' (fun m => if m < k then gI S 172 (221 * (1 + i) + m) else gI S 172 m) → ∃ S'', f_X7_back_25 fu (nI i) (nI k) S' = some (gI S 172 (221 * (1 + i) + 11), S'') ∧ U172 S S'' (fun m => if m < 221 then gI S 172 (221 * (1 + i) + m) else gI S 172 m) := by
  intro fu
  induction fu with
  | zero => intro k S' h1 h2; omega
  | succ fu ih =>
    intro k S' h1 h2 u
    rw [f_X7_back_25]
    by_cases hk : k = 221
    · subst hk
      rw [if_pos (by decide), bnd_ok i11, cl11, u.2.2 11]; dsimp only; rw [if_pos (by omega)]
      exact ⟨S', rfl, u⟩
    · rw [if_neg (show ¬ (221 : Int32) ≤ nI k from nI_ge (b := 221) (by omega) (by decide)), ix_img, bnd_ok (inB_nI (by omega) (by decide)), bnd_ok (inB_nI (by omega) (by decide)), nm_ok, nm_ok, nI_1, nI_clamp (by omega), nI_clamp (by omega)]
      have ek : gI S' 172 (221 * (1 + i) + k) = gI S 172 (221 * (1 + i) + k) := by rw [u.2.2]; dsimp only; rw [if_neg (by omega)]
      refine ih (k + 1) _ (by omega) (by omega) (U172_s u _ _ (fun m => ?_))
      try dsimp only
      rw [ek]
      by_cases hm : m = k
      · subst hm
        rw [if_pos rfl, if_pos (by omega)]
      · rw [if_neg hm]
        by_cases hm2 : m < k
        · rw [if_pos hm2, if_pos (by omega)]
        · rw [if_neg hm2, if_neg (by omega)]
