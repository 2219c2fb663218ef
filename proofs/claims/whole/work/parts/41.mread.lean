/-! the model reads a word -/
def TxM (bt : Nat → Nat) (ln : Nat) (M : Mm) : Prop := ln ≤ 150 ∧ gI M 163 2 = nI ln ∧ ∀ j, j < ln → gI M 164 j &&& 255 = nI (bt j) ∧ bt j < 256
def U3 (M F : Mm) : Prop := (∀ a, a ≠ 163 → F.1 a = M.1 a) ∧ F.2 = M.2 ∧ ∀ j, (j < 11 ∨ 14 < j) → gI F 163 j = gI M 163 j
theorem U3_0 {M : Mm} : U3 M M := ⟨fun _ _ => rfl, rfl, fun _ _ => rfl⟩
theorem U3_t {M F G : Mm} (h : U3 M F) (g : U3 F G) : U3 M G := ⟨fun a ha => by rw [g.1 a ha, h.1 a ha], g.2.1.trans h.2.1, fun j hj => (g.2.2 j hj).trans (h.2.2 j hj)⟩
theorem U3_s {M : Mm} {j : Nat} {v : Int32} (h1 : 11 ≤ j) (h2 : j ≤ 14) : U3 M (sI M 163 j v) := ⟨fun a ha => sI_ne ha, rfl, fun i hi => by rw [gI_sI, if_neg (by omega)]⟩
theorem U3_g {M F : Mm} (h : U3 M F) {a j : Nat} (ha : a ≠ 163) : gI F a j = gI M a j := by unfold gI; rw [h.1 a ha]
theorem TxM_k {bt : Nat → Nat} {ln : Nat} {M F : Mm} (h : TxM bt ln M) (u : U3 M F) : TxM bt ln F := ⟨h.1, by rw [u.2.2 2 (by omega)]; exact h.2.1, fun j hj => by rw [U3_g u (by omega)]; exact h.2.2 j hj⟩
theorem here_y {bt : Nat → Nat} {ln i : Nat} {M : Mm} (h : TxM bt ln M) (e : gI M 163 11 = nI i) (hi : i < ln) : f_X7_here M = some (nI (bt i), M) := by
  have h150 := h.1
  unfold f_X7_here
  rw [h.2.1, e, if_neg (nI_ge hi (by omega)), bnd_ok (inB_nI (by omega) (by decide)), nI_clamp (by omega), (h.2.2 i hi).1]
theorem here_n {bt : Nat → Nat} {ln i : Nat} {M : Mm} (h : TxM bt ln M) (e : gI M 163 11 = nI i) (hi : ln ≤ i) (hb : i ≤ 150) : f_X7_here M = some (-1, M) := by
  unfold f_X7_here
  rw [h.2.1, e, if_pos (nI_le hi (by omega))]
theorem lt_m {S : Mm} {c : Nat} (hc : c < 256) : f_X7_in S (nI c) 97 122 = some (bI (isLt c), S) := by
  rw [in_ok]
  unfold isLt
  by_cases h1 : c < 97
  · rw [if_pos (show nI c < 97 from nI_lt (b := 97) h1 (by decide)), decide_eq_false (by omega)]; rfl
  · rw [if_neg (show ¬ nI c < 97 from nI_nlt (b := 97) (by omega) (by omega))]
    by_cases h2 : 122 < c
    · rw [if_pos (show (122 : Int32) < nI c from nI_lt (a := 122) h2 (by omega)), decide_eq_false (by omega)]; rfl
    · rw [if_neg (show ¬ (122 : Int32) < nI c from nI_nlt (a := 122) (by omega) (by omega)), decide_eq_true (by omega)]; rfl
theorem dg_m {S : Mm} {c : Nat} (hc : c < 256) : f_X7_in S (nI c) 48 57 = some (bI (isDg c), S) := by
  rw [in_ok]
  unfold isDg
  by_cases h1 : c < 48
  · rw [if_pos (show nI c < 48 from nI_lt (b := 48) h1 (by decide)), decide_eq_false (by omega)]; rfl
  · rw [if_neg (show ¬ nI c < 48 from nI_nlt (b := 48) (by omega) (by omega))]
    by_cases h2 : 57 < c
    · rw [if_pos (show (57 : Int32) < nI c from nI_lt (a := 57) h2 (by omega)), decide_eq_false (by omega)]; rfl
    · rw [if_neg (show ¬ (57 : Int32) < nI c from nI_nlt (a := 57) (by omega) (by omega)), decide_eq_true (by omega)]; rfl
theorem in_m1 {S : Mm} : f_X7_in S (-1) 97 122 = some (0, S) ∧ f_X7_in S (-1) 48 57 = some (0, S) := ⟨by rw [in_ok, if_pos (by decide)], by rw [in_ok, if_pos (by decide)]⟩
/-- the letters' end -/
def endL (M : Mm) (x1 : Int32) (s e : Nat) : Option (Unit × Mm) := some ((), sI M 163 13 (if e = s + 1 then x1 else 4))
theorem let_me {M : Mm} {x1 : Int32} {s e : Nat} (hs : s ≤ e) (he : e ≤ 150) (e1 : gI M 163 11 = nI e) (e2 : gI M 163 12 = nI s) : (if ((gI M 163 11) - (gI M 163 12)) = 1 then (nm (sI M 163 13 x1) (fun S11 => some ((), S11))) else (nm (sI M 163 13 4) (fun S9 => some ((), S9)))) = endL M x1 s e := by
  rw [e1, e2, sub48 hs]
  unfold endL
  have q : nI (e - s) = 1 ↔ e = s + 1 := by rw [show (1 : Int32) = nI 1 from rfl, nI_eq (by omega) (by omega)]; omega
  by_cases h : e = s + 1
  · rw [if_pos (q.2 h), if_pos h]; rfl
  · rw [if_neg (fun z => h (q.1 z)), if_neg h]; rfl
theorem let_m {bt : Nat → Nat} {ln : Nat} {x1 : Int32} {s : Nat} : ∀ (r i fu : Nat) (M : Mm), i + r = ln → r < fu → s ≤ i → TxM bt ln M → gI M 163 11 = nI i → gI M 163 12 = nI s → ∃ F, f_X7_read_63 fu x1 M = some ((), F) ∧ U3 M F ∧ gI F 163 11 = nI (rn isLt bt r i) ∧ gI F 163 12 = nI s ∧ gI F 163 13 = (if rn isLt bt r i = s + 1 then x1 else 4) ∧ gI F 163 14 = gI M 163 14 ∧ i ≤ rn isLt bt r i ∧ rn isLt bt r i ≤ ln := by
  intro r
  induction r with
  | zero =>
    intro i fu M hi hf hs hM e1 e2
    obtain ⟨f', rfl⟩ : ∃ f', fu = f' + 1 := ⟨fu - 1, by omega⟩
    have := hM.1
    rw [f_X7_read_63, here_n hM e1 (by omega) (by omega), bd_ok, in_m1.1, bd_ok, if_pos rfl, let_me hs (by omega) e1 e2]
    refine ⟨_, rfl, U3_s (by omega) (by omega), ?_, ?_, ?_, ?_, Nat.le_refl _, by show i ≤ ln; omega⟩
    · rw [gI_sI, if_neg (by omega)]; exact e1
    · rw [gI_sI, if_neg (by omega)]; exact e2
    · rw [gI_sI, if_pos ⟨rfl, rfl⟩]; rfl
    · rw [gI_sI, if_neg (by omega)]
  | succ r ih =>
    intro i fu M hi hf hs hM e1 e2
    obtain ⟨f', rfl⟩ : ∃ f', fu = f' + 1 := ⟨fu - 1, by omega⟩
    have h150 := hM.1
    obtain ⟨b1, b2⟩ := hM.2.2 i (by omega)
    rw [f_X7_read_63, here_y hM e1 (by omega), bd_ok, lt_m b2, bd_ok]
    unfold rn
    by_cases hl : isLt (bt i) = true
    · rw [hl, if_neg (show ¬ bI true = 0 by decide), nm_ok, e1, nI_1, if_pos rfl]
      have u : U3 M (sI M 163 11 (nI (i + 1))) := U3_s (by omega) (by omega)
      obtain ⟨F, a1, a2, a3, a4, a5, a6, a7, a8⟩ := ih (i + 1) f' _ (by omega) (by omega) (by omega) (TxM_k hM u) (by rw [gI_sI, if_pos ⟨rfl, rfl⟩]) (by rw [gI_sI, if_neg (by omega)]; exact e2)
      exact ⟨F, a1, U3_t u a2, a3, a4, a5, by rw [a6, gI_sI, if_neg (by omega)], by omega, a8⟩
    · rw [show isLt (bt i) = false by simpa using hl, if_pos (show bI false = 0 from rfl), if_neg (show ¬ (false = true) by decide), let_me hs (by omega) e1 e2]
      refine ⟨_, rfl, U3_s (by omega) (by omega), ?_, ?_, ?_, ?_, Nat.le_refl _, by omega⟩
      · rw [gI_sI, if_neg (by omega)]; exact e1
      · rw [gI_sI, if_neg (by omega)]; exact e2
      · rw [gI_sI, if_pos ⟨rfl, rfl⟩]
      · rw [gI_sI, if_neg (by omega)]
theorem num_me {M : Mm} {c s e v : Nat} (hc : c < 256) (hs : s ≤ e) (he : e ≤ 150) (hv : v ≤ 999) (e1 : gI M 163 11 = nI e) (e2 : gI M 163 12 = nI s) (e4 : gI M 163 14 = nI v) : (if 99 < (gI M 163 14) then (nm (sI M 163 13 4) (fun S9 =>
some ((), S9))) else (if nI c = 48 then (if ((gI M 163 11) - (gI M 163 12)) ≤ 1 then (nm (sI M 163 13 1) (fun S15 =>
some ((), S15))) else (nm (sI M 163 13 4) (fun S17 =>
some ((), S17)))) else (nm (sI M 163 13 1) (fun S12 =>
some ((), S12))))) = some ((), sI M 163 13 (nI (if 99 < v ∨ decide (c = 48) = true ∧ s + 1 < e then 4 else 1))) := by
  rw [e1, e2, e4, sub48 hs]
  have q1 : nI (e - s) ≤ 1 ↔ ¬ s + 1 < e := by rw [show (1 : Int32) = nI 1 from rfl, nI_leI (by omega) (by omega)]; omega
  have q2 : nI c = 48 ↔ c = 48 := by rw [show (48 : Int32) = nI 48 from rfl, nI_eq (by omega) (by omega)]
  by_cases h9 : 99 < v
  · rw [if_pos (show (99 : Int32) < nI v from nI_lt (a := 99) h9 (by omega)), if_pos (Or.inl h9)]; rfl
  · rw [if_neg (show ¬ (99 : Int32) < nI v from nI_nlt (a := 99) (by omega) (by omega))]
    by_cases h4 : c = 48
    · rw [if_pos (q2.2 h4), decide_eq_true h4]
      by_cases hl : s + 1 < e
      · rw [if_neg (fun z => q1.1 z hl), if_pos (Or.inr ⟨rfl, hl⟩)]; rfl
      · rw [if_pos (q1.2 hl), if_neg (show ¬ (99 < v ∨ true = true ∧ s + 1 < e) by simp; omega)]; rfl
    · rw [if_neg (fun z => h4 (q2.1 z)), decide_eq_false h4, if_neg (show ¬ (99 < v ∨ false = true ∧ s + 1 < e) by simp; omega)]; rfl
theorem num_m {bt : Nat → Nat} {ln : Nat} {c s : Nat} (hc : c < 256) : ∀ (r i v fu : Nat) (M : Mm), i + r = ln → r < fu → s ≤ i → v ≤ 999 → TxM bt ln M → gI M 163 11 = nI i → gI M 163 12 = nI s → gI M 163 14 = nI v → ∃ F, f_X7_read_126 fu (nI c) M = some ((), F) ∧ U3 M F ∧ gI F 163 11 = nI (nmr bt r i v).1 ∧ gI F 163 12 = nI s ∧ gI F 163 13 = nI (if 99 < (nmr bt r i v).2 ∨ decide (c = 48) = true ∧ s + 1 < (nmr bt r i v).1 then 4 else 1) ∧ gI F 163 14 = nI (nmr bt r i v).2 ∧ i ≤ (nmr bt r i v).1 ∧ (nmr bt r i v).1 ≤ ln ∧ (nmr bt r i v).2 ≤ 999 := by
  intro r
  induction r with
  | zero =>
    intro i v fu M hi hf hs hv hM e1 e2 e4
    obtain ⟨f', rfl⟩ : ∃ f', fu = f' + 1 := ⟨fu - 1, by omega⟩
    have := hM.1
    rw [f_X7_read_126, here_n hM e1 (by omega) (by omega), bd_ok, in_m1.2, bd_ok, if_pos rfl, num_me hc hs (by omega) hv e1 e2 e4]
    refine ⟨_, rfl, U3_s (by omega) (by omega), ?_, ?_, ?_, ?_, Nat.le_refl _, by show i ≤ ln; omega, hv⟩
    · rw [gI_sI, if_neg (by omega)]; exact e1
    · rw [gI_sI, if_neg (by omega)]; exact e2
    · rw [gI_sI, if_pos ⟨rfl, rfl⟩]; rfl
    · rw [gI_sI, if_neg (by omega)]; exact e4
  | succ r ih =>
    intro i v fu M hi hf hs hv hM e1 e2 e4
    obtain ⟨f', rfl⟩ : ∃ f', fu = f' + 1 := ⟨fu - 1, by omega⟩
    have h150 := hM.1
    obtain ⟨b1, b2⟩ := hM.2.2 i (by omega)
    rw [f_X7_read_126, here_y hM e1 (by omega), bd_ok, dg_m b2, bd_ok]
    unfold nmr
    by_cases hl : isDg (bt i) = true
    · have hd : 48 ≤ bt i ∧ bt i ≤ 57 := of_decide_eq_true hl
      rw [hl, if_neg (show ¬ bI true = 0 by decide), e4, if_pos rfl]
      by_cases h9 : 99 < v
      · rw [if_neg (show ¬ nI v ≤ (99 : Int32) from nI_ge (a := 99) h9 (by omega)), nm_ok, gI_sI, if_neg (by omega), e1, nI_1, nm_ok, if_pos h9]
        have u : U3 M (sI (sI M 163 14 (nI v)) 163 11 (nI (i + 1))) := U3_t (U3_s (by omega) (by omega)) (U3_s (by omega) (by omega))
        obtain ⟨F, a1, a2, a3, a4, a5, a6, a7, a8, a9⟩ := ih (i + 1) v f' _ (by omega) (by omega) (by omega) hv (TxM_k hM u) (by rw [gI_sI, if_pos ⟨rfl, rfl⟩]) (by rw [gI_sI, if_neg (by omega), gI_sI, if_neg (by omega)]; exact e2) (by rw [gI_sI, if_neg (by omega), gI_sI, if_pos ⟨rfl, rfl⟩])
        exact ⟨F, a1, U3_t u a2, a3, a4, a5, a6, by omega, a8, a9⟩
      · have ew : 10 * nI v + nI (bt i) - 48 = nI (v * 10 + bt i - 48) := by
          rw [show (10 : Int32) * nI v = nI (10 * v) from pk_mul 10 v, nI_add, Nat.mul_comm]
          exact sub48 (b := 48) (by omega)
        rw [if_pos (show nI v ≤ (99 : Int32) from nI_le (b := 99) (by omega) (by decide)), here_y hM e1 (by omega), bd_ok, ew, nm_ok, gI_sI, if_neg (by omega), e1, nI_1, nm_ok, if_neg h9]
        have u : U3 M (sI (sI M 163 14 (nI (v * 10 + bt i - 48))) 163 11 (nI (i + 1))) := U3_t (U3_s (by omega) (by omega)) (U3_s (by omega) (by omega))
        obtain ⟨F, a1, a2, a3, a4, a5, a6, a7, a8, a9⟩ := ih (i + 1) (v * 10 + bt i - 48) f' _ (by omega) (by omega) (by omega) (by omega) (TxM_k hM u) (by rw [gI_sI, if_pos ⟨rfl, rfl⟩]) (by rw [gI_sI, if_neg (by omega), gI_sI, if_neg (by omega)]; exact e2) (by rw [gI_sI, if_neg (by omega), gI_sI, if_pos ⟨rfl, rfl⟩])
        exact ⟨F, a1, U3_t u a2, a3, a4, a5, a6, by omega, a8, a9⟩
    · rw [show isDg (bt i) = false by simpa using hl, if_pos (show bI false = 0 from rfl), if_neg (show ¬ (false = true) by decide), num_me hc hs (by omega) hv e1 e2 e4]
      refine ⟨_, rfl, U3_s (by omega) (by omega), ?_, ?_, ?_, ?_, Nat.le_refl _, by show i ≤ ln; omega, hv⟩
      · rw [gI_sI, if_neg (by omega)]; exact e1
      · rw [gI_sI, if_neg (by omega)]; exact e2
      · rw [gI_sI, if_pos ⟨rfl, rfl⟩]
      · rw [gI_sI, if_neg (by omega)]; exact e4
