/-! the words of a text -/
def isLt (c : Nat) : Bool := decide (97 ≤ c ∧ c ≤ 122)
def isDg (c : Nat) : Bool := decide (48 ≤ c ∧ c ≤ 57)
def rn (P : Nat → Bool) (bt : Nat → Nat) : Nat → Nat → Nat
  | 0, i => i
  | r + 1, i => if P (bt i) = true then rn P bt r (i + 1) else i
def nmr (bt : Nat → Nat) : Nat → Nat → Nat → Nat × Nat
  | 0, i, v => (i, v)
  | r + 1, i, v => if isDg (bt i) = true then nmr bt r (i + 1) (if 99 < v then v else v * 10 + bt i - 48) else (i, v)
/-- a class text at a place -/
def TxC (bt : Nat → Nat) (ln : Nat) (S : Mm) : Prop := ln ≤ 150 ∧ gI S 1 1 = nI ln ∧ ∀ j, j < ln → gI S 2 j = nI (bt j) ∧ bt j < 256
def U1 (S T : Mm) : Prop := (∀ a, a ≠ 1 → T.1 a = S.1 a) ∧ T.2 = S.2 ∧ gI T 1 1 = gI S 1 1 ∧ gI T 1 6 = gI S 1 6
theorem U1_0 {S : Mm} : U1 S S := ⟨fun _ _ => rfl, rfl, rfl, rfl⟩
theorem U1_t {S T U : Mm} (h : U1 S T) (g : U1 T U) : U1 S U := ⟨fun a ha => by rw [g.1 a ha, h.1 a ha], g.2.1.trans h.2.1, g.2.2.1.trans h.2.2.1, g.2.2.2.trans h.2.2.2⟩
theorem U1_s {S : Mm} {j : Nat} {v : Int32} (h1 : j ≠ 1) (h6 : j ≠ 6) : U1 S (sI S 1 j v) := ⟨fun a ha => sI_ne ha, rfl, by rw [gI_sI, if_neg (by omega)], by rw [gI_sI, if_neg (by omega)]⟩
theorem TxC_k {bt : Nat → Nat} {ln : Nat} {S T : Mm} (h : TxC bt ln S) (u : U1 S T) : TxC bt ln T := ⟨h.1, by rw [u.2.2.1]; exact h.2.1, fun j hj => by unfold gI; rw [u.1 2 (by omega)]; exact h.2.2 j hj⟩
theorem lt_c {S : Mm} {c : Nat} (hc : c < 256) : f_X5_isLetter S (nI c) = some (bI (isLt c), S) := by
  unfold f_X5_isLetter isLt
  by_cases h1 : c < 97
  · rw [if_pos (show nI c < 97 from nI_lt (b := 97) h1 (by decide)), decide_eq_false (by omega)]; rfl
  · rw [if_neg (show ¬ nI c < 97 from nI_nlt (b := 97) (by omega) (by omega))]
    by_cases h2 : 122 < c
    · rw [if_pos (show (122 : Int32) < nI c from nI_lt (a := 122) h2 (by omega)), decide_eq_false (by omega)]; rfl
    · rw [if_neg (show ¬ (122 : Int32) < nI c from nI_nlt (a := 122) (by omega) (by omega)), decide_eq_true (by omega)]; rfl
theorem dg_c {S : Mm} {c : Nat} (hc : c < 256) : f_X5_isDigit S (nI c) = some (bI (isDg c), S) := by
  unfold f_X5_isDigit isDg
  by_cases h1 : c < 48
  · rw [if_pos (show nI c < 48 from nI_lt (b := 48) h1 (by decide)), decide_eq_false (by omega)]; rfl
  · rw [if_neg (show ¬ nI c < 48 from nI_nlt (b := 48) (by omega) (by omega))]
    by_cases h2 : 57 < c
    · rw [if_pos (show (57 : Int32) < nI c from nI_lt (a := 57) h2 (by omega)), decide_eq_false (by omega)]; rfl
    · rw [if_neg (show ¬ (57 : Int32) < nI c from nI_nlt (a := 57) (by omega) (by omega)), decide_eq_true (by omega)]; rfl
theorem let_cl {bt : Nat → Nat} {ln : Nat} : ∀ (r i fu : Nat) (T : Mm), i + r = ln → r < fu → TxC bt ln T → gI T 1 3 = nI i → ∃ E, f_X5_takeLetters_28 fu T = some ((), E) ∧ U1 T E ∧ gI E 1 3 = nI (rn isLt bt r i) ∧ gI E 1 2 = gI T 1 2 ∧ gI E 1 4 = gI T 1 4 ∧ gI E 1 5 = (if rn isLt bt r i = i then gI T 1 5 else nI 0) ∧ i ≤ rn isLt bt r i := by
  intro r
  induction r with
  | zero =>
    intro i fu T hi hf hT e3
    obtain ⟨f', rfl⟩ : ∃ f', fu = f' + 1 := ⟨fu - 1, by omega⟩
    have := hT.1
    rw [f_X5_takeLetters_28, hT.2.1, e3, if_pos (nI_le (by omega) (by omega))]
    exact ⟨T, rfl, U1_0, e3, rfl, rfl, (if_pos rfl).symm, Nat.le_refl _⟩
  | succ r ih =>
    intro i fu T hi hf hT e3
    obtain ⟨f', rfl⟩ : ∃ f', fu = f' + 1 := ⟨fu - 1, by omega⟩
    have h150 := hT.1
    obtain ⟨b1, b2⟩ := hT.2.2 i (by omega)
    rw [f_X5_takeLetters_28, hT.2.1, e3, if_neg (nI_ge (by omega) (by omega)), bnd_ok (inB_nI (by omega) (by decide)), nI_clamp (by omega), b1, lt_c b2, bd_ok]
    unfold rn
    by_cases hl : isLt (bt i) = true
    · rw [hl, if_neg (show ¬ bI true = 0 by decide), nm_ok, nm_ok, gI_sI, if_neg (by omega), e3, nI_1, if_pos rfl]
      have u : U1 T (sI (sI T 1 5 0) 1 3 (nI (i + 1))) := U1_t (U1_s (by omega) (by omega)) (U1_s (by omega) (by omega))
      obtain ⟨E, a1, a2, a3, a4, a5, a6, a7⟩ := ih (i + 1) f' (sI (sI T 1 5 0) 1 3 (nI (i + 1))) (by omega) (by omega) (TxC_k hT u) (by rw [gI_sI, if_pos ⟨rfl, rfl⟩])
      refine ⟨E, a1, U1_t u a2, a3, ?_, ?_, ?_, by omega⟩
      · rw [a4, gI_sI, if_neg (by omega), gI_sI, if_neg (by omega)]
      · rw [a5, gI_sI, if_neg (by omega), gI_sI, if_neg (by omega)]
      · rw [a6, if_neg (show ¬ rn isLt bt r (i + 1) = i by omega)]
        split
        · rw [gI_sI, if_neg (by omega), gI_sI, if_pos ⟨rfl, rfl⟩]; rfl
        · rfl
    · rw [show isLt (bt i) = false by simpa using hl, if_pos (show bI false = 0 from rfl), if_neg (by decide), if_pos rfl]
      exact ⟨T, rfl, U1_0, e3, rfl, rfl, rfl, Nat.le_refl _⟩
theorem sub48 {a b : Nat} (h : b ≤ a) : nI a - nI b = nI (a - b) := by
  have e : nI a = nI (a - b) + nI b := by rw [nI_add, Nat.sub_add_cancel h]
  rw [e, Int32.add_sub_cancel]
theorem num_cl {bt : Nat → Nat} {ln : Nat} {x1 : Int32} : ∀ (r i v fu : Nat) (T : Mm), i + r = ln → r < fu → v ≤ 999 → TxC bt ln T → gI T 1 3 = nI i → gI T 1 5 = nI v → ∃ E, f_X5_takeNumber_25 fu x1 T = f_X5_takeNumber_97 x1 E ∧ U1 T E ∧ gI E 1 3 = nI (nmr bt r i v).1 ∧ gI E 1 5 = nI (nmr bt r i v).2 ∧ gI E 1 2 = gI T 1 2 ∧ i ≤ (nmr bt r i v).1 ∧ (nmr bt r i v).1 ≤ ln ∧ (nmr bt r i v).2 ≤ 999 := by
  intro r
  induction r with
  | zero =>
    intro i v fu T hi hf hv hT e3 e5
    obtain ⟨f', rfl⟩ : ∃ f', fu = f' + 1 := ⟨fu - 1, by omega⟩
    have := hT.1
    rw [f_X5_takeNumber_25, hT.2.1, e3, if_pos (nI_le (by omega) (by omega))]
    exact ⟨T, rfl, U1_0, e3, e5, rfl, Nat.le_refl _, by show i ≤ ln; omega, hv⟩
  | succ r ih =>
    intro i v fu T hi hf hv hT e3 e5
    obtain ⟨f', rfl⟩ : ∃ f', fu = f' + 1 := ⟨fu - 1, by omega⟩
    have h150 := hT.1
    obtain ⟨b1, b2⟩ := hT.2.2 i (by omega)
    rw [f_X5_takeNumber_25, hT.2.1, e3, if_neg (nI_ge (by omega) (by omega)), bnd_ok (inB_nI (by omega) (by decide)), nI_clamp (by omega), b1, dg_c b2, bd_ok]
    unfold nmr
    by_cases hl : isDg (bt i) = true
    · have hd : 48 ≤ bt i ∧ bt i ≤ 57 := of_decide_eq_true hl
      rw [hl, if_neg (show ¬ bI true = 0 by decide), e5, if_pos rfl]
      by_cases h9 : 99 < v
      · rw [if_pos (show (99 : Int32) < nI v from nI_lt (a := 99) h9 (by omega)), nm_ok, e3, nI_1, if_pos h9]
        have u : U1 T (sI T 1 3 (nI (i + 1))) := U1_s (by omega) (by omega)
        obtain ⟨E, a1, a2, a3, a4, a5, a6, a7, a8⟩ := ih (i + 1) v f' (sI T 1 3 (nI (i + 1))) (by omega) (by omega) hv (TxC_k hT u) (by rw [gI_sI, if_pos ⟨rfl, rfl⟩]) (by rw [gI_sI, if_neg (by omega)]; exact e5)
        exact ⟨E, a1, U1_t u a2, a3, a4, by rw [a5, gI_sI, if_neg (by omega)], by omega, a7, a8⟩
      · have ew : nI v * 10 + nI (bt i) - 48 = nI (v * 10 + bt i - 48) := by
          rw [show nI v * 10 = nI (v * 10) from pk_mul v 10, nI_add]
          exact sub48 (b := 48) (by omega)
        rw [if_neg (show ¬ (99 : Int32) < nI v from nI_nlt (a := 99) (by omega) (by omega)), bnd_ok (by rw [e3]; exact inB_nI (by omega) (by decide)), e3, nI_clamp (by omega), b1, ew, nm_ok, gI_sI, if_neg (by omega), e3, nI_1, nm_ok, if_neg h9]
        have u : U1 T (sI (sI T 1 5 (nI (v * 10 + bt i - 48))) 1 3 (nI (i + 1))) := U1_t (U1_s (by omega) (by omega)) (U1_s (by omega) (by omega))
        obtain ⟨E, a1, a2, a3, a4, a5, a6, a7, a8⟩ := ih (i + 1) (v * 10 + bt i - 48) f' _ (by omega) (by omega) (by omega) (TxC_k hT u) (by rw [gI_sI, if_pos ⟨rfl, rfl⟩]) (by rw [gI_sI, if_neg (by omega), gI_sI, if_pos ⟨rfl, rfl⟩])
        exact ⟨E, a1, U1_t u a2, a3, a4, by rw [a5, gI_sI, if_neg (by omega), gI_sI, if_neg (by omega)], by omega, a7, a8⟩
    · rw [show isDg (bt i) = false by simpa using hl, if_pos (show bI false = 0 from rfl), if_neg (by decide)]
      exact ⟨T, rfl, U1_0, e3, e5, rfl, Nat.le_refl _, by show i ≤ ln; omega, hv⟩
theorem tl_c {T : Mm} {s e v : Nat} {x1 : Bool} (he : s ≤ e) (hb : e ≤ 150) (hv : v ≤ 999) (e3 : gI T 1 3 = nI e) (e2 : gI T 1 2 = nI s) (e5 : gI T 1 5 = nI v) : f_X5_takeNumber_97 (bI x1) T = some ((), sI T 1 4 (nI (if 99 < v ∨ x1 = true ∧ s + 1 < e then 4 else 2))) := by
  unfold f_X5_takeNumber_97 f_X5_takeNumber_116
  rw [e3, e2, sub48 he, e5]
  have q1 : nI (e - s) ≤ 1 ↔ ¬ s + 1 < e := by rw [show (1 : Int32) = nI 1 from rfl, nI_leI (by omega) (by omega)]; omega
  by_cases h9 : 99 < v
  · rw [if_pos (show (99 : Int32) < nI v from nI_lt (a := 99) h9 (by omega)), if_pos (show (99 : Int32) < nI v from nI_lt (a := 99) h9 (by omega)), if_pos (Or.inl h9)]
    split <;> rfl
  · rw [if_neg (show ¬ (99 : Int32) < nI v from nI_nlt (a := 99) (by omega) (by omega)), if_neg (show ¬ (99 : Int32) < nI v from nI_nlt (a := 99) (by omega) (by omega))]
    cases x1 with
    | false =>
      rw [if_pos (show bI false = 0 from rfl), if_pos (show bI false = 0 from rfl), if_neg (show ¬ (99 < v ∨ false = true ∧ s + 1 < e) by simp; omega)]
      split <;> rfl
    | true =>
      rw [if_neg (show ¬ bI true = 0 by decide), if_neg (show ¬ bI true = 0 by decide)]
      by_cases hl : s + 1 < e
      · rw [if_neg (fun z => q1.1 z hl), if_neg one0, if_pos (Or.inr ⟨rfl, hl⟩)]; rfl
      · rw [if_pos (q1.2 hl), if_pos rfl, if_neg (show ¬ (99 < v ∨ true = true ∧ s + 1 < e) by simp; omega)]; rfl
