def isSp (c : Nat) : Bool := decide (c = 32)
theorem skip_c {bt : Nat → Nat} {ln : Nat} : ∀ (r i fu : Nat) (T : Mm), i + r = ln → r < fu → TxC bt ln T → gI T 1 3 = nI i → ∃ E, f_X5_readToken_0 fu T = f_X5_readToken_38 E ∧ U1 T E ∧ gI E 1 3 = nI (rn isSp bt r i) ∧ i ≤ rn isSp bt r i ∧ rn isSp bt r i ≤ ln := by
  intro r
  induction r with
  | zero =>
    intro i fu T hi hf hT e3
    obtain ⟨f', rfl⟩ : ∃ f', fu = f' + 1 := ⟨fu - 1, by omega⟩
    have := hT.1
    rw [f_X5_readToken_0, hT.2.1, e3, if_pos (nI_le (by omega) (by omega))]
    exact ⟨T, rfl, U1_0, e3, Nat.le_refl _, by show i ≤ ln; omega⟩
  | succ r ih =>
    intro i fu T hi hf hT e3
    obtain ⟨f', rfl⟩ : ∃ f', fu = f' + 1 := ⟨fu - 1, by omega⟩
    have h150 := hT.1
    obtain ⟨b1, b2⟩ := hT.2.2 i (by omega)
    rw [f_X5_readToken_0, hT.2.1, e3, if_neg (nI_ge (by omega) (by omega)), bnd_ok (inB_nI (by omega) (by decide)), nI_clamp (by omega), b1]
    unfold rn isSp
    have q : nI (bt i) = 32 ↔ bt i = 32 := by rw [show (32 : Int32) = nI 32 from rfl, nI_eq (by omega) (by omega)]
    by_cases h : bt i = 32
    · rw [if_pos (q.2 h), nm_ok, nI_1, if_pos (decide_eq_true h)]
      have u : U1 T (sI T 1 3 (nI (i + 1))) := U1_s (by omega) (by omega)
      obtain ⟨E, a1, a2, a3, a4, a5⟩ := ih (i + 1) f' _ (by omega) (by omega) (TxC_k hT u) (by rw [gI_sI, if_pos ⟨rfl, rfl⟩])
      exact ⟨E, a1, U1_t u a2, a3, by unfold isSp at a4; omega, a5⟩
    · rw [if_neg (fun z => h (q.1 z)), if_neg (by simpa using h)]
      exact ⟨T, rfl, U1_0, e3, Nat.le_refl _, by omega⟩
