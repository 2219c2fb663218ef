theorem gI_cp {S : Mm} {a sp b dp n c j : Nat} : gI (cpI S a sp b dp n) c j = if c = b then va_cpy (S.1 a) (S.1 b) sp dp n j else gI S c j := by
  by_cases h : c = b
  · subst h; rw [if_pos rfl]; simp [gI, cpI, rowI, va_up]
  · rw [if_neg h]; simp [gI, cpI, rowI, va_up, h]
theorem cpI_ne {S : Mm} {a sp b dp n c : Nat} (h : c ≠ b) : (cpI S a sp b dp n).1 c = S.1 c := va_up_ne _ _ h
theorem cl5 : (5 : Int32).toNatClampNeg = 5 := by decide
theorem cp_ok {a b : Nat} (ha : LL a = 5) (hb : LL b = 5) : decide (¬ (0 : Int32) < 0 ∧ ¬ (0 : Int32) < 0 ∧ ¬ (5 : Int32) < 0 ∧ (0 : Int32).toNatClampNeg + (5 : Int32).toNatClampNeg ≤ LL a ∧ (0 : Int32).toNatClampNeg + (5 : Int32).toNatClampNeg ≤ LL b) = true := by
  rw [ha, hb]; decide
theorem apart1 {o a : Nat} (ho : KK o = 1) (ha : KK a = 1) (h : o ≠ a) : o + 4 ≤ a ∨ a + 4 ≤ o := by
  have o1 := kf_1_line ho; have o2 := kf_1_fault ho; have o3 := kf_1_thrown ho
  have a1 := kf_1_line ha; have a2 := kf_1_fault ha; have a3 := kf_1_thrown ha
  rcases Nat.lt_or_ge a (o + 4) with q | q
  · rcases Nat.lt_or_ge o (a + 4) with r | r
    · exfalso
      rcases (show a = o + 1 ∨ a = o + 2 ∨ a = o + 3 ∨ o = a + 1 ∨ o = a + 2 ∨ o = a + 3 by omega) with e | e | e | e | e | e
      · rw [e, o1] at ha; cases ha
      · rw [e, o2] at ha; cases ha
      · rw [e, o3] at ha; cases ha
      · rw [e, a1] at ho; cases ho
      · rw [e, a2] at ho; cases ho
      · rw [e, a3] at ho; cases ho
    · exact Or.inr r
  · exact Or.inl q
/-- a moment becomes another one -/
theorem become_ok {S : Mm} {o a : Nat} (ho : KK o = 1) (ha : KK a = 1) (hne : o ≠ a) : ∃ S', f_X1_become S o a = some ((), S') ∧ (∀ k, k < 20 → cM S' o k = cM S a k) ∧ (∀ b, b < o ∨ o + 4 ≤ b → S'.1 b = S.1 b) ∧ S'.2 = S.2 := by
  have hap := apart1 ho ha hne
  unfold f_X1_become
  rw [bnd_ok (cp_ok (lf_1_line ha) (lf_1_line ho)), nm_ok, bnd_ok (cp_ok (lf_1_fault ha) (lf_1_fault ho)), nm_ok, bnd_ok (cp_ok (lf_1_thrown ha) (lf_1_thrown ho)), nm_ok, nm_ok, nm_ok, nm_ok, nm_ok, nm_ok, clamp0, cl5]
  refine ⟨_, rfl, ?_, ?_, rfl⟩
  · have e1 : ¬ a = o := Ne.symm hne
    have f1 : ¬ a = o + 1 := by omega
    have f2 : ¬ a = o + 2 := by omega
    have f3 : ¬ a = o + 3 := by omega
    have g2 : ¬ a + 2 = o + 1 := by omega
    have g3 : ¬ a + 3 = o + 1 := by omega
    have g4 : ¬ a + 3 = o + 2 := by omega
    intro k hk
    unfold cM
    by_cases h5 : k < 5
    · rw [if_pos h5, if_pos h5]
      simp only [gI_sI, gI_cp]
      simp only [show ¬ (o + 1 = o) by omega, show ¬ (o + 1 = o + 2) by omega, show ¬ (o + 1 = o + 3) by omega, false_and, if_false, if_true]
      rw [sb_cpy0 h5]; rfl
    rw [if_neg h5, if_neg h5]
    by_cases h10 : k < 10
    · rw [if_pos h10, if_pos h10]
      simp only [gI_sI, gI_cp]
      simp only [show ¬ (o + 2 = o) by omega, show ¬ (o + 2 = o + 3) by omega, false_and, if_false, if_true]
      rw [sb_cpy0 (by omega)]
      show (cpI S (a + 1) 0 (o + 1) 0 5).1 (a + 2) _ = _
      exact (gI_cp (c := a + 2)).trans (if_neg g2)
    rw [if_neg h10, if_neg h10]
    by_cases hA : k = 10
    · rw [if_pos hA, if_pos hA]; simp [gI_sI, gI_cp, e1, f1, f2, f3]
    rw [if_neg hA, if_neg hA]
    by_cases hB : k = 11
    · rw [if_pos hB, if_pos hB]; simp [gI_sI, gI_cp, e1, f1, f2, f3]
    rw [if_neg hB, if_neg hB]
    by_cases hC : k = 12
    · rw [if_pos hC, if_pos hC]; simp [gI_sI, gI_cp, e1, f1, f2, f3]
    rw [if_neg hC, if_neg hC]
    by_cases hE : k = 13
    · rw [if_pos hE, if_pos hE]; simp [gI_sI, gI_cp, e1, f1, f2, f3]
    rw [if_neg hE, if_neg hE]
    by_cases h19 : k < 19
    · rw [if_pos h19, if_pos h19]
      simp only [gI_sI, gI_cp]
      simp only [show ¬ (o + 3 = o) by omega, false_and, if_false, if_true]
      rw [sb_cpy0 (by omega)]
      show gI (cpI (cpI S (a + 1) 0 (o + 1) 0 5) (a + 2) 0 (o + 2) 0 5) (a + 3) _ = _
      rw [gI_cp, if_neg g4, gI_cp, if_neg g3]
    rw [if_neg h19, if_neg h19]
    simp [gI_sI, gI_cp, e1, f1, f2, f3]
  · intro b hb
    rw [sI_ne (by omega), sI_ne (by omega), sI_ne (by omega), sI_ne (by omega), sI_ne (by omega)]
    rw [cpI_ne (by omega), cpI_ne (by omega), cpI_ne (by omega)]
/-! a past of the class beside a stretch of the model -/
def PX (n : Nat) (C : Mm) (g : Nat → Int32) (p : Nat) : Prop := MR n (cM C (p + 1)) g ∧ Wm n (cM C (p + 1)) ∧ ∃ K N : Nat, K ≤ 10 ∧ N < 10 ∧ gI C p 3 = nI K ∧ gI C p 2 = nI N ∧ g 20 = nI K ∧ ∀ j, j < K → MR n (cM C (p + 6 + 4 * ((N + 9 - j) % 10))) (fun k => g (21 + 20 * (K - 1 - j) + k)) ∧ Wm n (cM C (p + 6 + 4 * ((N + 9 - j) % 10)))
theorem PX_of {n p q : Nat} {S : Mm} (h : PR n S p q) : PX n S (fun m => gI S 172 (q + m)) p := by
  obtain ⟨r1, w1, K, N, hK, hN, e1, e2, e3, r2⟩ := h
  exact ⟨r1, w1, K, N, hK, hN, e1, e2, e3, fun j hj => ⟨fun k hk h => by
    have := (r2 j hj).1 k hk h
    rw [this]
    show gI S 172 _ = gI S 172 _
    congr 1; omega, (r2 j hj).2⟩⟩
theorem PR_of {n p q : Nat} {S : Mm} {g : Nat → Int32} (h : PX n S g p) (hg : ∀ m, m < 221 → gI S 172 (q + m) = g m) : PR n S p q := by
  obtain ⟨r1, w1, K, N, hK, hN, e1, e2, e3, r2⟩ := h
  refine ⟨fun k hk h => (r1 k hk h).trans (hg k (by omega)).symm, w1, K, N, hK, hN, e1, e2, (hg 20 (by omega)).trans e3, fun j hj => ⟨fun k hk h => ?_, (r2 j hj).2⟩⟩
  rw [(r2 j hj).1 k hk h]
  show g _ = gI S 172 _
  rw [← hg _ (by omega)]
  congr 1; omega
theorem PX_copy {n a p : Nat} {C C' : Mm} {g g' : Nat → Int32} (hn : n ≤ 5) (h : PX n C g a) (h0 : ∀ k, k < 20 → cM C' (p + 1) k = cM C (a + 1) k) (h1 : ∀ i, i < 10 → ∀ k, k < 20 → cM C' (p + 6 + 4 * i) k = cM C (a + 6 + 4 * i) k) (h2 : gI C' p 2 = gI C a 2) (h3 : gI C' p 3 = gI C a 3) (h4 : ∀ m, m < 221 → g' m = g m) : PX n C' g' p := by
  obtain ⟨r1, w1, K, N, hK, hN, e1, e2, e3, r2⟩ := h
  refine ⟨MR_keep r1 h0 (fun k hk => h4 k (by omega)), Wm_keep hn w1 h0, K, N, hK, hN, h3.trans e1, h2.trans e2, (h4 20 (by omega)).trans e3, fun j hj => ?_⟩
  have hm : (N + 9 - j) % 10 < 10 := Nat.mod_lt _ (by omega)
  exact ⟨MR_keep (r2 j hj).1 (h1 _ hm) (fun k hk => h4 _ (by omega)), Wm_keep hn (r2 j hj).2 (h1 _ hm)⟩
/-- the present is another one -/
theorem PX_pres {n p : Nat} {C C' : Mm} {g g' : Nat → Int32} (hn : n ≤ 5) (h : PX n C g p) (h1 : ∀ b, b = p ∨ (p + 5 ≤ b ∧ b < p + 46) → C'.1 b = C.1 b) (h2 : ∀ m, 20 ≤ m → m < 221 → g' m = g m) (hM : MR n (cM C' (p + 1)) g') (hW : Wm n (cM C' (p + 1))) : PX n C' g' p := by
  obtain ⟨-, -, K, N, hK, hN, e1, e2, e3, r2⟩ := h
  refine ⟨hM, hW, K, N, hK, hN, by unfold gI; rw [h1 p (Or.inl rfl)]; exact e1, by unfold gI; rw [h1 p (Or.inl rfl)]; exact e2, (h2 20 (by omega) (by omega)).trans e3, fun j hj => ?_⟩
  have hm : (N + 9 - j) % 10 < 10 := Nat.mod_lt _ (by omega)
  have hk : ∀ k, k < 20 → cM C' (p + 6 + 4 * ((N + 9 - j) % 10)) k = cM C (p + 6 + 4 * ((N + 9 - j) % 10)) k := fun k _ => cM_keep (fun b _ _ => h1 b (by omega)) k
  exact ⟨MR_keep (r2 j hj).1 hk (fun k hk => h2 _ (by omega) (by omega)), Wm_keep hn (r2 j hj).2 hk⟩
/-- one more moment is known -/
theorem PX_know {n p : Nat} {C C' : Mm} {g g' : Nat → Int32} {K N : Nat} (hn : n ≤ 5) (hM : MR n (cM C (p + 1)) g) (hW : Wm n (cM C (p + 1))) (hK : K ≤ 10) (hN : N < 10) (hH : ∀ j, j < K → MR n (cM C (p + 6 + 4 * ((N + 9 - j) % 10))) (fun k => g (21 + 20 * (K - 1 - j) + k)) ∧ Wm n (cM C (p + 6 + 4 * ((N + 9 - j) % 10))))
    (c1 : ∀ k, k < 20 → cM C' (p + 6 + 4 * N) k = cM C (p + 1) k) (c2 : ∀ b, b ≠ p → (b < p + 6 + 4 * N ∨ p + 6 + 4 * N + 4 ≤ b) → C'.1 b = C.1 b) (c3 : gI C' p 2 = nI ((N + 1) % 10)) (c4 : gI C' p 3 = nI (min (K + 1) 10))
    (g0 : ∀ k, k < 20 → g' k = g k) (g1 : g' 20 = nI (min (K + 1) 10)) (g2 : ∀ j, j < min (K + 1) 10 → ∀ k, k < 20 → g' (21 + 20 * (min (K + 1) 10 - 1 - j) + k) = if j = 0 then g k else g (21 + 20 * (K - j) + k)) : PX n C' g' p := by
  have hp : ∀ k, k < 20 → cM C' (p + 1) k = cM C (p + 1) k := fun k _ => cM_keep (fun b _ _ => c2 b (by omega) (by omega)) k
  refine ⟨MR_keep hM hp g0, Wm_keep hn hW hp, min (K + 1) 10, (N + 1) % 10, by omega, Nat.mod_lt _ (by omega), c4, c3, g1, fun j hj => ?_⟩
  by_cases h0 : j = 0
  · subst h0
    have e : ((N + 1) % 10 + 9 - 0) % 10 = N := by omega
    rw [e]
    refine ⟨fun k hk h => ?_, Wm_keep hn hW c1⟩
    rw [c1 k hk, hM k hk h]
    exact (by rw [g2 0 hj k hk, if_pos rfl] : g' _ = g k).symm
  · have e : ((N + 1) % 10 + 9 - j) % 10 = (N + 9 - (j - 1)) % 10 := by omega
    rw [e]
    have hm : (N + 9 - (j - 1)) % 10 < 10 := Nat.mod_lt _ (by omega)
    have hne : (N + 9 - (j - 1)) % 10 ≠ N := by omega
    have hk : ∀ k, k < 20 → cM C' (p + 6 + 4 * ((N + 9 - (j - 1)) % 10)) k = cM C (p + 6 + 4 * ((N + 9 - (j - 1)) % 10)) k := fun k _ => cM_keep (fun b _ _ => c2 b (by omega) (by omega)) k
    obtain ⟨q1, q2⟩ := hH (j - 1) (by omega)
    refine ⟨fun k hk1 h => ?_, Wm_keep hn q2 hk⟩
    rw [hk k hk1, q1 k hk1 h]
    show g _ = g' _
    rw [g2 j hj k hk1, if_neg h0]
    congr 1; omega
theorem remember_ok {S : Mm} {p N K : Nat} (hp : KK p = 3) (hN : N < 10) (hK : K ≤ 10) (e2 : gI S p 2 = nI N) (e3 : gI S p 3 = nI K) : ∃ S', f_X3_remember S p = some ((), S') ∧ (∀ k, k < 20 → cM S' (p + 6 + 4 * N) k = cM S (p + 1) k) ∧ (∀ b, b ≠ p → (b < p + 6 + 4 * N ∨ p + 6 + 4 * N + 4 ≤ b) → S'.1 b = S.1 b) ∧ gI S' p 2 = nI ((N + 1) % 10) ∧ gI S' p 3 = nI (min (K + 1) 10) ∧ S'.2 = S.2 := by
  obtain ⟨S1, h1, h2, h3, h4⟩ := become_ok (S := S) (o := p + 5 + 1 + 4 * N) (a := p + 1) (by have := KK_pm hp hN; rw [show p + 5 + 1 + 4 * N = p + 6 + 4 * N by omega]; exact this) (kf_3_present hp) (by omega)
  have r2 : gI S1 p 2 = nI N := by unfold gI; rw [h3 p (by omega)]; exact e2
  have r3 : gI S1 p 3 = nI K := by unfold gI; rw [h3 p (by omega)]; exact e3
  have m1 : nI N + 1 - (nI N + 1) / 10 * 10 = nI ((N + 1) % 10) := by
    rw [nI_1]
    exact pk_rem (a := N + 1) (d := 10) (by omega) (by omega) (by omega)
  have m2 : (if (10 : Int32) < nI K + 1 then 10 else nI K + 1) = nI (min (K + 1) 10) := by
    rw [nI_1]
    by_cases h : K = 10
    · subst h; rfl
    · rw [if_neg (show ¬ (10 : Int32) < nI (K + 1) from nI_nlt (b := 10) (a := K + 1) |> fun f => by
        intro q
        exact absurd q (by rw [nI_10]; exact fun z => by have := Int32.lt_iff_toInt_lt.mp z; rw [nI_toInt (by omega), nI_toInt (by omega)] at this; omega)), Nat.min_eq_left (by omega)]
  refine ⟨sI (sI S1 p 2 (nI ((N + 1) % 10))) p 3 (nI (min (K + 1) 10)), ?_, fun k hk => ?_, fun b hb1 hb2 => ?_, by simp [gI_sI], by simp [gI_sI], h4⟩
  · unfold f_X3_remember
    rw [e2, bnd_ok (inB_nI hN (by decide)), nI_clamp (by omega), h1, bd_ok, r2, m1, nm_ok]
    have : gI (sI S1 p 2 (nI ((N + 1) % 10))) p 3 = nI K := by simp [gI_sI, r3]
    rw [this, m2]
    rfl
  · rw [cM_keep (S := S1) (fun b _ _ => by rw [sI_ne (by omega), sI_ne (by omega)]) k, show p + 6 + 4 * N = p + 5 + 1 + 4 * N by omega]
    exact h2 k hk
  · rw [sI_ne hb1, sI_ne hb1]
    exact h3 b (by omega)
