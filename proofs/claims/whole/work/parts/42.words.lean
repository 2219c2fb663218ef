/-! where words stand, and what both sides hold of one -/
theorem rn_b {P : Nat → Bool} {bt : Nat → Nat} : ∀ (r i : Nat), i ≤ rn P bt r i ∧ rn P bt r i ≤ i + r ∧ (rn P bt r i < i + r → P (bt (rn P bt r i)) = false)
  | 0, i => ⟨Nat.le_refl _, Nat.le_refl _, fun h => absurd h (Nat.lt_irrefl _)⟩
  | r + 1, i => by
    unfold rn
    have ih := rn_b (P := P) (bt := bt) r (i + 1)
    by_cases h : P (bt i) = true
    · rw [if_pos h]
      exact ⟨by omega, by omega, fun q => ih.2.2 (by omega)⟩
    · rw [if_neg h]
      exact ⟨Nat.le_refl _, by omega, fun _ => by simpa using h⟩
theorem nmr_b {bt : Nat → Nat} : ∀ (r i v : Nat), i ≤ (nmr bt r i v).1 ∧ (nmr bt r i v).1 ≤ i + r
  | 0, i, v => ⟨Nat.le_refl _, Nat.le_refl _⟩
  | r + 1, i, v => by
    unfold nmr
    have ih := nmr_b (bt := bt) r (i + 1) (if 99 < v then v else v * 10 + bt i - 48)
    by_cases h : isDg (bt i) = true
    · rw [if_pos h]
      exact ⟨by omega, by omega⟩
    · rw [if_neg h]
      exact ⟨Nat.le_refl _, by show i ≤ i + (r + 1); omega⟩
theorem tok_b {bt : Nat → Nat} {ln s : Nat} (hs : s ≤ ln) : s ≤ (tok bt ln s).2.2 ∧ (tok bt ln s).2.2 ≤ ln ∧ ((tok bt ln s).1 ≠ 0 → s < (tok bt ln s).2.2) ∧ ((tok bt ln s).1 = 2 → (tok bt ln s).2.1 ≤ 99) ∧ ((tok bt ln s).1 = 1 → (tok bt ln s).2.1 = 0 ∨ 97 ≤ (tok bt ln s).2.1 ∧ (tok bt ln s).2.1 ≤ 122) ∧ (tok bt ln s).1 ≤ 4 := by
  unfold tok
  by_cases h0 : ln ≤ s
  · rw [if_pos h0]
    exact ⟨Nat.le_refl _, hs, fun h => absurd rfl h, fun h => by simp at h, fun h => by simp at h, by show 0 ≤ 4; omega⟩
  · rw [if_neg h0]
    by_cases hl : isLt (bt s) = true
    · rw [if_pos hl]
      have b := rn_b (P := isLt) (bt := bt) (ln - (s + 1)) (s + 1)
      refine ⟨by show s ≤ rn isLt bt (ln - (s + 1)) (s + 1); omega, by show rn isLt bt (ln - (s + 1)) (s + 1) ≤ ln; omega, fun _ => by show s < rn isLt bt (ln - (s + 1)) (s + 1); omega, fun h => by simp at h, fun _ => ?_, by show 1 ≤ 4; omega⟩
      have hd : 97 ≤ bt s ∧ bt s ≤ 122 := of_decide_eq_true hl
      dsimp only
      split
      · exact Or.inr hd
      · exact Or.inl rfl
    · rw [if_neg hl]
      by_cases hd : isDg (bt s) = true
      · rw [if_pos hd]
        have b : s + 1 ≤ (nmr bt (ln - s) s 0).1 ∧ (nmr bt (ln - s) s 0).1 ≤ ln := by
          obtain ⟨q, hq⟩ : ∃ q, ln - s = q + 1 := ⟨ln - s - 1, by omega⟩
          rw [hq]
          unfold nmr
          rw [if_pos hd]
          have := nmr_b (bt := bt) q (s + 1) (if 99 < 0 then 0 else 0 * 10 + bt s - 48)
          omega
        refine ⟨by show s ≤ (nmr bt (ln - s) s 0).1; omega, b.2, fun _ => by show s < (nmr bt (ln - s) s 0).1; omega, fun h => ?_, fun h => ?_, ?_⟩
        · dsimp only at h ⊢
          by_cases hc : 99 < (nmr bt (ln - s) s 0).2 ∨ decide (bt s = 48) = true ∧ s + 1 < (nmr bt (ln - s) s 0).1
          · rw [if_pos hc] at h; omega
          · have := fun z => hc (Or.inl z); omega
        · dsimp only at h
          split at h <;> omega
        · dsimp only
          split <;> omega
      · rw [if_neg hd]
        refine ⟨by show s ≤ s + 1; omega, by show s + 1 ≤ ln; omega, fun _ => by show s < s + 1; omega, fun h => ?_, fun h => ?_, ?_⟩
        · dsimp only at h; split at h <;> omega
        · dsimp only at h; split at h <;> omega
        · dsimp only; split <;> omega
def ws_sk (bt : Nat → Nat) (ln a : Nat) : Nat := rn isSp bt (ln - a) a
def ws_kd (bt : Nat → Nat) (ln a : Nat) : Nat := (tok bt ln (ws_sk bt ln a)).1
def ws_wt (bt : Nat → Nat) (ln a : Nat) : Nat := (tok bt ln (ws_sk bt ln a)).2.1
def ws_en (bt : Nat → Nat) (ln a : Nat) : Nat := (tok bt ln (ws_sk bt ln a)).2.2
theorem sk_b {bt : Nat → Nat} {ln a : Nat} (h : a ≤ ln) : a ≤ ws_sk bt ln a ∧ ws_sk bt ln a ≤ ln ∧ (ws_sk bt ln a < ln → bt (ws_sk bt ln a) ≠ 32) := by
  have b := rn_b (P := isSp) (bt := bt) (ln - a) a
  unfold ws_sk
  exact ⟨b.1, by omega, fun q => of_decide_eq_false (b.2.2 (by omega))⟩
theorem ws_en_b {bt : Nat → Nat} {ln a : Nat} (h : a ≤ ln) : a ≤ ws_en bt ln a ∧ ws_en bt ln a ≤ ln ∧ (ws_kd bt ln a ≠ 0 → a < ws_en bt ln a) ∧ (ws_kd bt ln a = 2 → ws_wt bt ln a ≤ 99) ∧ (ws_kd bt ln a = 1 → ws_wt bt ln a = 0 ∨ 97 ≤ ws_wt bt ln a ∧ ws_wt bt ln a ≤ 122) ∧ ws_kd bt ln a ≤ 4 := by
  have b := sk_b (bt := bt) h
  have c := tok_b (bt := bt) b.2.1
  unfold ws_en ws_kd ws_wt
  exact ⟨by omega, c.2.1, fun q => by have := c.2.2.1 q; omega, c.2.2.2⟩
/-- the class holds the word behind a -/
def ws_KC (bt : Nat → Nat) (ln : Nat) (T : Mm) (a : Nat) : Prop := gI T 1 2 = nI (ws_sk bt ln a) ∧ gI T 1 3 = nI (ws_en bt ln a) ∧ gI T 1 4 = nI (ws_kd bt ln a) ∧ (ws_kd bt ln a = 1 ∨ ws_kd bt ln a = 2 → gI T 1 5 = nI (ws_wt bt ln a))
theorem rt_c {bt : Nat → Nat} {ln a : Nat} {T : Mm} (ha : a ≤ ln) (hT : TxC bt ln T) (e3 : gI T 1 3 = nI a) : ∃ E, f_X5_readToken T = some ((), E) ∧ U1 T E ∧ ws_KC bt ln E a := by
  have h150 := hT.1
  obtain ⟨E, a1, a2, a3, a4, a5⟩ := skip_c (bt := bt) (ln := ln) (ln - a) a 400 T (by omega) (by omega) hT e3
  obtain ⟨G, b1, b2, b3, b4, b5, b6⟩ := tok_c (bt := bt) (s := ws_sk bt ln a) a5 (TxC_k hT a2) a3
  exact ⟨G, by unfold f_X5_readToken; rw [a1, b1], U1_t a2 b2, b3, b4, b5, b6⟩
def ws_srt (k w : Nat) : Nat := if k = 0 then 3 else if k = 1 then (if w = 0 then 4 else w) else if k = 2 then 1 else if k = 3 then 2 else 4
/-- the model holds the word behind a -/
def ws_KM (bt : Nat → Nat) (ln : Nat) (M : Mm) (a : Nat) : Prop := gI M 163 11 = nI (ws_en bt ln a) ∧ gI M 163 12 = nI (ws_sk bt ln a) ∧ gI M 163 13 = nI (ws_srt (ws_kd bt ln a) (ws_wt bt ln a)) ∧ (ws_kd bt ln a = 2 → gI M 163 14 = nI (ws_wt bt ln a))
theorem tok_m {bt : Nat → Nat} {ln s f : Nat} {M : Mm} (hs : s ≤ ln) (hM : TxM bt ln M) (e1 : gI M 163 11 = nI s) (h32 : s < ln → bt s ≠ 32) : ∃ F, f_X7_read_0 (f + 1) M = some ((), F) ∧ U3 M F ∧ gI F 163 11 = nI (tok bt ln s).2.2 ∧ gI F 163 12 = nI s ∧ gI F 163 13 = nI (ws_srt (tok bt ln s).1 (tok bt ln s).2.1) ∧ ((tok bt ln s).1 = 2 → gI F 163 14 = nI (tok bt ln s).2.1) := by
  have h150 := hM.1
  rw [f_X7_read_0]
  unfold tok
  by_cases h0 : ln ≤ s
  · rw [here_n hM e1 h0 (by omega), bd_ok, if_neg (by decide), nm_ok, nm_ok, e1]
    generalize hA : sI (sI M 163 12 (nI s)) 163 14 0 = A
    have u : U3 M A := by rw [← hA]; exact U3_t (U3_s (by omega) (by omega)) (U3_s (by omega) (by omega))
    have a1 : gI A 163 11 = nI s := by rw [← hA, gI_sI, if_neg (by omega), gI_sI, if_neg (by omega)]; exact e1
    have a2 : gI A 163 12 = nI s := by rw [← hA, gI_sI, if_neg (by omega), gI_sI, if_pos ⟨rfl, rfl⟩]
    rw [here_n (TxM_k hM u) a1 h0 (by omega), bd_ok, if_neg (by decide), nm_ok, if_pos h0]
    refine ⟨_, rfl, U3_t u (U3_s (by omega) (by omega)), ?_, ?_, ?_, fun q => by simp at q⟩
    · rw [gI_sI, if_neg (by omega)]; exact a1
    · rw [gI_sI, if_neg (by omega)]; exact a2
    · rw [gI_sI, if_pos ⟨rfl, rfl⟩]; rfl
  · obtain ⟨b1, b2⟩ := hM.2.2 s (by omega)
    have q : nI (bt s) = 32 ↔ bt s = 32 := by rw [show (32 : Int32) = nI 32 from rfl, nI_eq (by omega) (by omega)]
    rw [here_y hM e1 (by omega), bd_ok, if_neg (fun z => h32 (by omega) (q.1 z)), nm_ok, nm_ok, e1]
    generalize hA : sI (sI M 163 12 (nI s)) 163 14 0 = A
    have u : U3 M A := by rw [← hA]; exact U3_t (U3_s (by omega) (by omega)) (U3_s (by omega) (by omega))
    have a1 : gI A 163 11 = nI s := by rw [← hA, gI_sI, if_neg (by omega), gI_sI, if_neg (by omega)]; exact e1
    have a2 : gI A 163 12 = nI s := by rw [← hA, gI_sI, if_neg (by omega), gI_sI, if_pos ⟨rfl, rfl⟩]
    have a4 : gI A 163 14 = nI 0 := by rw [← hA, gI_sI, if_pos ⟨rfl, rfl⟩]; rfl
    have hA' := TxM_k hM u
    rw [here_y hA' a1 (by omega), bd_ok, if_pos (nI_pos' (by omega)), lt_m b2, bd_ok, if_neg h0]
    by_cases hl : isLt (bt s) = true
    · rw [hl, if_neg (show ¬ bI true = 0 by decide), if_pos rfl]
      obtain ⟨F, c1, c2, c3, c4, c5, c6, c7, c8⟩ := let_m (bt := bt) (ln := ln) (x1 := nI (bt s)) (s := s) (ln - s) s 400 A (by omega) (by omega) (Nat.le_refl _) hA' a1 a2
      have er : rn isLt bt (ln - s) s = rn isLt bt (ln - (s + 1)) (s + 1) := by
        rw [show ln - s = (ln - (s + 1)) + 1 by omega]
        conv => lhs; unfold rn
        rw [if_pos hl]
      rw [er] at c3 c5
      refine ⟨F, c1, U3_t u c2, c3, c4, ?_, fun q => by simp at q⟩
      have hd : 97 ≤ bt s ∧ bt s ≤ 122 := of_decide_eq_true hl
      rw [c5]
      dsimp only
      by_cases he : rn isLt bt (ln - (s + 1)) (s + 1) = s + 1
      · rw [if_pos he, if_pos he]
        unfold ws_srt
        rw [if_neg (by omega), if_pos rfl, if_neg (by omega)]
      · rw [if_neg he, if_neg he]; rfl
    · have hl2 : isLt (bt s) = false := by simpa using hl
      rw [hl2, if_pos (show bI false = 0 from rfl), if_neg (show ¬ (false = true) by decide), dg_m b2, bd_ok]
      by_cases hd : isDg (bt s) = true
      · rw [hd, if_neg (show ¬ bI true = 0 by decide), if_pos rfl]
        obtain ⟨F, c1, c2, c3, c4, c5, c6, c7, c8, c9⟩ := num_m (bt := bt) (ln := ln) (c := bt s) (s := s) b2 (ln - s) s 0 400 A (by omega) (by omega) (Nat.le_refl _) (by omega) hA' a1 a2 a4
        refine ⟨F, c1, U3_t u c2, c3, c4, ?_, fun _ => c6⟩
        rw [c5]
        dsimp only
        by_cases hc : 99 < (nmr bt (ln - s) s 0).2 ∨ decide (bt s = 48) = true ∧ s + 1 < (nmr bt (ln - s) s 0).1
        · rw [if_pos hc, if_pos hc]; rfl
        · rw [if_neg hc, if_neg hc]; rfl
      · have hd2 : isDg (bt s) = false := by simpa using hd
        rw [hd2, if_pos (show bI false = 0 from rfl), if_neg (show ¬ (false = true) by decide), nm_ok, a1, nI_1]
        have q : nI (bt s) = 59 ↔ bt s = 59 := by rw [show (59 : Int32) = nI 59 from rfl, nI_eq (by omega) (by omega)]
        by_cases h : bt s = 59
        · rw [if_pos (q.2 h), if_pos h, nm_ok]
          refine ⟨_, rfl, U3_t u (U3_t (U3_s (by omega) (by omega)) (U3_s (by omega) (by omega))), ?_, ?_, ?_, fun q => by simp at q⟩
          · rw [gI_sI, if_neg (by omega), gI_sI, if_pos ⟨rfl, rfl⟩]
          · rw [gI_sI, if_neg (by omega), gI_sI, if_neg (by omega)]; exact a2
          · rw [gI_sI, if_pos ⟨rfl, rfl⟩]; rfl
        · rw [if_neg (fun z => h (q.1 z)), if_neg h, nm_ok]
          refine ⟨_, rfl, U3_t u (U3_t (U3_s (by omega) (by omega)) (U3_s (by omega) (by omega))), ?_, ?_, ?_, fun q => by simp at q⟩
          · rw [gI_sI, if_neg (by omega), gI_sI, if_pos ⟨rfl, rfl⟩]
          · rw [gI_sI, if_neg (by omega), gI_sI, if_neg (by omega)]; exact a2
          · rw [gI_sI, if_pos ⟨rfl, rfl⟩]; rfl
theorem skip_m {bt : Nat → Nat} {ln : Nat} : ∀ (r i fu : Nat) (M : Mm), i + r = ln → r < fu → TxM bt ln M → gI M 163 11 = nI i → ∃ F f', f_X7_read_0 fu M = f_X7_read_0 (f' + 1) F ∧ U3 M F ∧ gI F 163 11 = nI (rn isSp bt r i) := by
  intro r
  induction r with
  | zero =>
    intro i fu M hi hf hM e1
    obtain ⟨f', rfl⟩ : ∃ f', fu = f' + 1 := ⟨fu - 1, by omega⟩
    exact ⟨M, f', rfl, U3_0, e1⟩
  | succ r ih =>
    intro i fu M hi hf hM e1
    obtain ⟨f', rfl⟩ : ∃ f', fu = f' + 1 := ⟨fu - 1, by omega⟩
    have h150 := hM.1
    obtain ⟨b1, b2⟩ := hM.2.2 i (by omega)
    unfold rn isSp
    have q : nI (bt i) = 32 ↔ bt i = 32 := by rw [show (32 : Int32) = nI 32 from rfl, nI_eq (by omega) (by omega)]
    by_cases h : bt i = 32
    · rw [if_pos (decide_eq_true h)]
      have u : U3 M (sI M 163 11 (nI (i + 1))) := U3_s (by omega) (by omega)
      obtain ⟨F, f2, a1, a2, a3⟩ := ih (i + 1) f' _ (by omega) (by omega) (TxM_k hM u) (by rw [gI_sI, if_pos ⟨rfl, rfl⟩])
      refine ⟨F, f2, ?_, U3_t u a2, a3⟩
      rw [← a1]
      conv => lhs; rw [f_X7_read_0]
      rw [here_y hM e1 (by omega), bd_ok, if_pos (q.2 h), nm_ok, e1, nI_1]
    · rw [if_neg (by simpa using h)]
      exact ⟨M, f', rfl, U3_0, e1⟩
theorem rt_m {bt : Nat → Nat} {ln a : Nat} {M : Mm} (ha : a ≤ ln) (hM : TxM bt ln M) (e1 : gI M 163 11 = nI a) : ∃ F, f_X7_read M = some ((), F) ∧ U3 M F ∧ ws_KM bt ln F a := by
  have h150 := hM.1
  obtain ⟨E, f', a1, a2, a3⟩ := skip_m (bt := bt) (ln := ln) (ln - a) a 400 M (by omega) (by omega) hM e1
  have b := sk_b (bt := bt) ha
  obtain ⟨G, b1, b2, b3, b4, b5, b6⟩ := tok_m (bt := bt) (s := ws_sk bt ln a) (f := f') b.2.1 (TxM_k hM a2) a3 b.2.2
  exact ⟨G, by unfold f_X7_read; rw [a1, b1], U3_t a2 b2, b3, b4, b5, b6⟩
