/-! the first state -/
def cI0 (S : Mm) : Bool := decide (pl S = 3) && decide (dr S = 9) && decide (gI S 3 0 = nI 0) && decide (gI S 165 0 = nI 0) && decide (gI S 3 1 = nI 50) && decide (gI S 171 0 = nI 50) && ((List.range 20).all fun k => decide (cM S 16 k = nI 0)) && ((List.range 10).all fun k => decide (gI S 172 (10 + k) = nI 0)) && decide (gI S 15 3 = nI 0) && decide (gI S 15 2 = nI 0) && decide (gI S 172 20 = nI 0) && ((List.range 2).all fun i => decide (gI S 154 i = 0 ∧ gI S 173 i = 0)) && decide (gI S 1 1 = nI 0) && decide (gI S 163 2 = nI 0) && decide (gI S 0 8 = nI 0) && decide (gI S 163 30 = nI 0) && decide (gJ S 0 13 = gJ S 163 0)
theorem Inv_of0 {S : Mm} (h : cI0 S = true) : Inv S := by
  unfold cI0 at h
  simp only [Bool.and_eq_true, decide_eq_true_eq, List.all_eq_true, List.mem_range] at h
  obtain ⟨⟨⟨⟨⟨⟨⟨⟨⟨⟨⟨⟨⟨⟨⟨⟨h1, h2⟩, h3⟩, h4⟩, h5⟩, h6⟩, h7⟩, h8⟩, h9⟩, h10⟩, h11⟩, h12⟩, h13⟩, h14⟩, h15⟩, h16⟩, h17⟩ := h
  refine ⟨0, ⟨by omega, by rw [h1]; exact h3, h4, ⟨50, by omega, by rw [h1]; exact h5, h6⟩, fun s hs => by omega⟩, ⟨fun k hk ho => ?_, ⟨⟨fun _ => 0, fun i hi => ⟨h7 i (by omega), show (0 : Nat) < 5 by decide⟩, fun i hi => by omega, fun s hs => by omega⟩, ⟨fun _ => 0, fun s hs => by omega⟩, ⟨0, by decide, h7 10 (by omega)⟩, ⟨0, 0, 0, 0, fun _ => 0, h7 11 (by omega), h7 12 (by omega), h7 13 (by omega), h7 19 (by omega), fun s hs => h7 (14 + s) (by omega), by omega, rfl, by omega, by omega⟩⟩, 0, 0, by omega, by omega, h9, h10, by rw [Nat.zero_add]; exact h11, fun j hj => by omega⟩, fun i hi => ⟨by rw [(h12 i hi).1, (h12 i hi).2], fun q => absurd (h12 i hi).1 q⟩, ⟨0, by omega, h13, h14, fun j hj => by omega⟩, ⟨0, by omega, h15, h16, fun j hj => by omega⟩, Or.inl ⟨h1, h2⟩, h17⟩
  have e := h8 (k - 10) (by omega)
  rw [show 10 + (k - 10) = k by omega] at e
  rw [show (15 + 1 : Nat) = 16 from rfl, h7 k hk]
  dsimp only
  rw [Nat.zero_add]
  exact e.symm
def cI1 : Bool := match f_X7_plain S00 with
  | some (_, S1) => match f_X7_takeDraft S1 with
    | some (_, S2) => cI0 S2
    | none => false
  | none => false
theorem cI1_ok : cI1 = true := by decide +kernel
theorem init_all : ∃ (S1 S2 : Mm) (r1 r2 : Unit), f_X7_plain S00 = some (r1, S1) ∧ f_X7_takeDraft S1 = some (r2, S2) ∧ Inv S2 := by
  have h := cI1_ok
  unfold cI1 at h
  cases e1 : f_X7_plain S00 with
  | none => rw [e1] at h; exact absurd h (by simp)
  | some q1 =>
    obtain ⟨r1, S1⟩ := q1
    rw [e1] at h
    dsimp only at h
    cases e2 : f_X7_takeDraft S1 with
    | none => rw [e2] at h; exact absurd h (by simp)
    | some q2 =>
      obtain ⟨r2, S2⟩ := q2
      rw [e2] at h
      exact ⟨S1, S2, r1, r2, rfl, e2, Inv_of0 h⟩
