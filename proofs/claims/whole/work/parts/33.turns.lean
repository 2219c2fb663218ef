def mkC (n : Nat) (l : List Nat) : Mm := (fun a j => if a = 165 then nI n else nI (l.getD j 0), fun _ _ => 0, (3, 9))
def rw5 (S : Mm) (a : Nat) : List Nat := [(gI S a 0).toNatClampNeg, (gI S a 1).toNatClampNeg, (gI S a 2).toNatClampNeg, (gI S a 3).toNatClampNeg, (gI S a 4).toNatClampNeg]
def rok (S : Mm) (a : Nat) (l : List Nat) : Bool := (List.range 5).all fun i => decide (gI S a i = nI (l.getD i 0))
def chk (n : Nat) : Nat → List Nat → Bool
  | 0, _ => false
  | k + 1, l => ((List.range n).all fun i => decide (l.getD i 0 < n)) && ((List.range 5).all fun i => decide (l.getD i 0 < 5)) && (match f_X6_advance (mkC n l) 161 (nI n) with
    | some (r, S1) => match f_X7_nextRow (mkC n l) with
      | some (r2, S2) => decide (r = r2) && (decide (r = 0) || (decide (r = 1) && rok S1 161 (rw5 S1 161) && rok S2 174 (rw5 S1 161) && chk n k (rw5 S1 161)))
      | none => false
    | none => false)
theorem chk0 : chk 0 120 [0, 1, 2, 3, 4] = true := by decide +kernel
theorem chk1 : chk 1 120 [0, 1, 2, 3, 4] = true := by decide +kernel
theorem chk2 : chk 2 120 [0, 1, 2, 3, 4] = true := by decide +kernel
theorem chk3 : chk 3 120 [0, 1, 2, 3, 4] = true := by decide +kernel
theorem chk4 : chk 4 120 [0, 1, 2, 3, 4] = true := by decide +kernel
theorem chk5 : chk 5 120 [0, 1, 2, 3, 4] = true := by decide +kernel
theorem chk_all {n : Nat} (hn : n ≤ 5) : chk n 120 [0, 1, 2, 3, 4] = true := by
  rcases (show n = 0 ∨ n = 1 ∨ n = 2 ∨ n = 3 ∨ n = 4 ∨ n = 5 by omega) with e | e | e | e | e | e <;> subst e
  · exact chk0
  · exact chk1
  · exact chk2
  · exact chk3
  · exact chk4
  · exact chk5
theorem rok_of {S : Mm} {a : Nat} {l : List Nat} (h : rok S a l = true) {i : Nat} (hi : i < 5) : gI S a i = nI (l.getD i 0) := of_decide_eq_true (List.all_eq_true.mp h i (List.mem_range.mpr hi))
def Row (a : Nat) (T : Mm) (l : List Nat) : Prop := ∀ i, i < 5 → gI T a i = nI (l.getD i 0)
def RowN (n : Nat) (T : Mm) (l : List Nat) : Prop := ∀ i, i < n → gI T 161 i = nI (l.getD i 0)
theorem chk_step {n k : Nat} {l : List Nat} (hn : n ≤ 5) (hn1 : 1 ≤ n) (h : chk n (k + 1) l = true) : (∀ i, i < n → l.getD i 0 < n) ∧ (∀ i, i < 5 → l.getD i 0 < 5) ∧ ∃ (r : Int32) (l' : List Nat), (r = 0 ∨ r = 1) ∧ (r = 1 → chk n k l' = true) ∧
    (∀ T, gI T 165 0 = nI n → RowN n T l → ∃ T', f_X6_advance T 161 (nI n) = some (r, T') ∧ kp 161 T T' ∧ (r = 1 → RowN n T' l')) ∧
    (∀ T, gI T 165 0 = nI n → Row 174 T l → ∃ T', f_X7_nextRow T = some (r, T') ∧ kp 174 T T' ∧ (r = 1 → Row 174 T' l')) := by
  unfold chk at h
  obtain ⟨h12, h3⟩ := (Bool.and_eq_true _ _).mp h
  obtain ⟨h1, h2⟩ := (Bool.and_eq_true _ _).mp h12
  refine ⟨fun i hi => of_decide_eq_true (List.all_eq_true.mp h1 i (List.mem_range.mpr hi)), fun i hi => of_decide_eq_true (List.all_eq_true.mp h2 i (List.mem_range.mpr hi)), ?_⟩
  cases e1 : f_X6_advance (mkC n l) 161 (nI n) with
  | none => rw [e1] at h3; exact absurd h3 (by simp)
  | some q1 =>
    obtain ⟨r, S1⟩ := q1
    rw [e1] at h3
    cases e2 : f_X7_nextRow (mkC n l) with
    | none => rw [e2] at h3; exact absurd h3 (by simp)
    | some q2 =>
      obtain ⟨r2, S2⟩ := q2
      rw [e2] at h3
      dsimp only at h3
      obtain ⟨h4, h5⟩ := (Bool.and_eq_true _ _).mp h3
      have hr : r = r2 := of_decide_eq_true h4
      have c161 : ∀ T, gI T 165 0 = nI n → RowN n T l → ag n 161 (mkC n l) T := fun T t1 t2 => ⟨fun i hi => t2 i hi, t1⟩
      have c174 : ∀ T, gI T 165 0 = nI n → Row 174 T l → ag 5 174 (mkC n l) T := fun T t1 t2 => ⟨fun i hi => t2 i hi, t1⟩
      have key : (r = 0 ∨ r = 1) ∧ (r = 1 → chk n k (rw5 S1 161) = true ∧ rok S1 161 (rw5 S1 161) = true ∧ rok S2 174 (rw5 S1 161) = true) := by
        rcases (Bool.or_eq_true _ _).mp h5 with q | q
        · have q0 := of_decide_eq_true q
          exact ⟨Or.inl q0, fun q1 => absurd (q1.symm.trans q0) (by decide)⟩
        · obtain ⟨q3, q4⟩ := (Bool.and_eq_true _ _).mp q
          obtain ⟨q5, q6⟩ := (Bool.and_eq_true _ _).mp q3
          obtain ⟨q7, q8⟩ := (Bool.and_eq_true _ _).mp q5
          exact ⟨Or.inr (of_decide_eq_true q7), fun _ => ⟨q4, q8, q6⟩⟩
      refine ⟨r, rw5 S1 161, key.1, fun q => (key.2 q).1, fun T t1 t2 => ?_, fun T t1 t2 => ?_⟩
      · obtain ⟨T', a1, a2, a3⟩ := lc_adv hn hn1 (mkC n l) T (c161 T t1 t2) r S1 e1
        exact ⟨T', a1, a3, fun q i hi => by rw [a2.1 i hi]; exact rok_of (key.2 q).2.1 (by omega)⟩
      · obtain ⟨T', a1, a2, a3⟩ := lm_next (mkC n l) T (c174 T t1 t2) r2 S2 e2
        exact ⟨T', by rw [hr]; exact a1, a3, fun q i hi => by rw [a2.1 i hi]; exact rok_of (key.2 q).2.2 hi⟩
