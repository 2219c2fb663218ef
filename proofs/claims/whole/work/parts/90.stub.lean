def InvX (S : Mm) : Prop := True
theorem sims_all : Sims InvX := sorry
theorem init_all : ∃ (S1 S2 : Mm) (r1 r2 : Unit), f_X7_plain S00 = some (r1, S1) ∧ f_X7_takeDraft S1 = some (r2, S2) ∧ InvX S2 := sorry
