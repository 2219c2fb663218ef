/-- kind, worth and end of the word that begins at s -/
def tok (bt : Nat → Nat) (ln s : Nat) : Nat × Nat × Nat := if ln ≤ s then (0, 0, s) else if isLt (bt s) = true then (1, if rn isLt bt (ln - (s + 1)) (s + 1) = s + 1 then bt s else 0, rn isLt bt (ln - (s + 1)) (s + 1)) else if isDg (bt s) = true then (if 99 < (nmr bt (ln - s) s 0).2 ∨ decide (bt s = 48) = true ∧ s + 1 < (nmr bt (ln - s) s 0).1 then 4 else 2, (nmr bt (ln - s) s 0).2, (nmr bt (ln - s) s 0).1) else (if bt s = 59 then 3 else 4, 0, s + 1)
theorem tok_c {bt : Nat → Nat} {ln s : Nat} {T : Mm} (hs : s ≤ ln) (hT : TxC bt ln T) (e3 : gI T 1 3 = nI s) : ∃ E, f_X5_readToken_38 T = some ((), E) ∧ U1 T E ∧ gI E 1 2 = nI s ∧ gI E 1 3 = nI (tok bt ln s).2.2 ∧ gI E 1 4 = nI (tok bt ln s).1 ∧ ((tok bt ln s).1 = 1 ∨ (tok bt ln s).1 = 2 → gI E 1 5 = nI (tok bt ln s).2.1) := by
  have h150 := hT.1
  unfold f_X5_readToken_38
  rw [nm_ok, e3]
  generalize hA : sI T 1 2 (nI s) = A
  have uA : U1 T A := by rw [← hA]; exact U1_s (by omega) (by omega)
  have hA' := TxC_k hT uA
  have a3 : gI A 1 3 = nI s := by rw [← hA, gI_sI, if_neg (by omega)]; exact e3
  have a2 : gI A 1 2 = nI s := by rw [← hA, gI_sI, if_pos ⟨rfl, rfl⟩]
  rw [a3, hA'.2.1]
  unfold tok
  by_cases h0 : ln ≤ s
  · rw [if_neg (nI_nlt h0 (by omega)), if_pos h0, nm_ok]
    refine ⟨_, rfl, U1_t uA (U1_s (by omega) (by omega)), ?_, ?_, ?_, fun q => by simp at q⟩
    · rw [gI_sI, if_neg (by omega)]; exact a2
    · rw [gI_sI, if_neg (by omega)]; exact a3
    · rw [gI_sI, if_pos ⟨rfl, rfl⟩]; rfl
  · obtain ⟨b1, b2⟩ := hA'.2.2 s (by omega)
    rw [if_pos (nI_lt (by omega) (by omega)), if_neg h0, bnd_ok (inB_nI (by omega) (by decide)), nI_clamp (by omega), b1, lt_c b2, bd_ok]
    by_cases hl : isLt (bt s) = true
    · rw [hl, if_neg (show ¬ bI true = 0 by decide), if_pos rfl]
      unfold f_X5_takeLetters
      rw [nm_ok, gI_sI, if_neg (by omega), a3, bnd_ok (inB_nI (by omega) (by decide)), nI_clamp (by omega), gI_sI, if_neg (by omega), b1, nm_ok, gI_sI, if_neg (by omega), gI_sI, if_neg (by omega), a3, nI_1, nm_ok]
      have u : U1 A (sI (sI (sI A 1 4 1) 1 5 (nI (bt s))) 1 3 (nI (s + 1))) := U1_t (U1_t (U1_s (by omega) (by omega)) (U1_s (by omega) (by omega))) (U1_s (by omega) (by omega))
      obtain ⟨E, c1, c2, c3, c4, c5, c6, c7⟩ := let_cl (bt := bt) (ln := ln) (ln - (s + 1)) (s + 1) 400 _ (by omega) (by omega) (TxC_k hA' u) (by rw [gI_sI, if_pos ⟨rfl, rfl⟩])
      rw [c1, bd_ok]
      refine ⟨E, rfl, U1_t uA (U1_t u c2), ?_, c3, ?_, fun _ => ?_⟩
      · rw [c4, gI_sI, if_neg (by omega), gI_sI, if_neg (by omega), gI_sI, if_neg (by omega)]; exact a2
      · rw [c5, gI_sI, if_neg (by omega), gI_sI, if_neg (by omega), gI_sI, if_pos ⟨rfl, rfl⟩]; rfl
      · rw [c6]
        dsimp only
        split
        · rw [gI_sI, if_neg (by omega), gI_sI, if_pos ⟨rfl, rfl⟩]
        · rfl
    · have hl2 : isLt (bt s) = false := by simpa using hl
      rw [hl2, if_pos (show bI false = 0 from rfl), if_neg (by decide), bnd_ok (by rw [a3]; exact inB_nI (by omega) (by decide)), a3, nI_clamp (by omega), b1, dg_c b2, bd_ok]
      by_cases hd : isDg (bt s) = true
      · rw [hd, if_neg (show ¬ bI true = 0 by decide), if_pos rfl]
        have u : U1 A (sI A 1 5 0) := U1_s (by omega) (by omega)
        have pre : f_X5_takeNumber A = f_X5_takeNumber_25 400 (bI (decide (bt s = 48))) (sI A 1 5 0) := by
          unfold f_X5_takeNumber
          rw [a3, bnd_ok (inB_nI (by omega) (by decide)), nI_clamp (by omega), b1]
          have q : nI (bt s) = 48 ↔ bt s = 48 := by rw [show (48 : Int32) = nI 48 from rfl, nI_eq (by omega) (by omega)]
          by_cases h : bt s = 48
          · rw [if_pos (q.2 h), decide_eq_true h]; rfl
          · rw [if_neg (fun z => h (q.1 z)), decide_eq_false h]; rfl
        obtain ⟨E, c1, c2, c3, c4, c5, c6, c7, c8⟩ := num_cl (bt := bt) (ln := ln) (x1 := bI (decide (bt s = 48))) (ln - s) s 0 400 (sI A 1 5 0) (by omega) (by omega) (by omega) (TxC_k hA' u) (by rw [gI_sI, if_neg (by omega)]; exact a3) (by rw [gI_sI, if_pos ⟨rfl, rfl⟩]; rfl)
        rw [pre, c1, tl_c c6 (by omega) c8 c3 (by rw [c5, gI_sI, if_neg (by omega)]; exact a2) c4, bd_ok]
        refine ⟨_, rfl, U1_t uA (U1_t u (U1_t c2 (U1_s (by omega) (by omega)))), ?_, ?_, ?_, fun _ => ?_⟩
        · rw [gI_sI, if_neg (by omega), c5, gI_sI, if_neg (by omega)]; exact a2
        · rw [gI_sI, if_neg (by omega)]; exact c3
        · rw [gI_sI, if_pos ⟨rfl, rfl⟩]
        · rw [gI_sI, if_neg (by omega)]; exact c4
      · have hd2 : isDg (bt s) = false := by simpa using hd
        rw [hd2, if_pos (show bI false = 0 from rfl), if_neg (show ¬ (false = true) by decide), bnd_ok (by rw [a3]; exact inB_nI (by omega) (by decide)), a3, nI_clamp (by omega), b1]
        have q : nI (bt s) = 59 ↔ bt s = 59 := by rw [show (59 : Int32) = nI 59 from rfl, nI_eq (by omega) (by omega)]
        by_cases h : bt s = 59
        · rw [if_pos (q.2 h), if_pos h, nm_ok, gI_sI, if_neg (by omega), a3, nI_1, nm_ok]
          refine ⟨_, rfl, U1_t uA (U1_t (U1_s (by omega) (by omega)) (U1_s (by omega) (by omega))), ?_, ?_, ?_, fun q => by simp at q⟩
          · rw [gI_sI, if_neg (by omega), gI_sI, if_neg (by omega)]; exact a2
          · rw [gI_sI, if_pos ⟨rfl, rfl⟩]
          · rw [gI_sI, if_neg (by omega), gI_sI, if_pos ⟨rfl, rfl⟩]; rfl
        · rw [if_neg (fun z => h (q.1 z)), if_neg h, nm_ok, gI_sI, if_neg (by omega), a3, nI_1, nm_ok]
          refine ⟨_, rfl, U1_t uA (U1_t (U1_s (by omega) (by omega)) (U1_s (by omega) (by omega))), ?_, ?_, ?_, fun q => by simp at q⟩
          · rw [gI_sI, if_neg (by omega), gI_sI, if_neg (by omega)]; exact a2
          · rw [gI_sI, if_pos ⟨rfl, rfl⟩]
          · rw [gI_sI, if_neg (by omega), gI_sI, if_pos ⟨rfl, rfl⟩]; rfl
