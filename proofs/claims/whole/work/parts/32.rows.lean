/-! what a walk over one row reads is that row alone -/
def ag (m a : Nat) (C T : Mm) : Prop := (∀ i, i < m → gI T a i = gI C a i) ∧ gI T 165 0 = gI C 165 0
def kp (a : Nat) (T T' : Mm) : Prop := (∀ b, b ≠ a → T'.1 b = T.1 b) ∧ T'.2 = T.2
theorem kp_0 {a : Nat} {T : Mm} : kp a T T := ⟨fun _ _ => rfl, rfl⟩
theorem kp_t {a : Nat} {T U V : Mm} (h : kp a T U) (g : kp a U V) : kp a T V := ⟨fun b hb => by rw [g.1 b hb, h.1 b hb], g.2.trans h.2⟩
theorem kp_s {a j : Nat} {T : Mm} {v : Int32} : kp a T (sI T a j v) := ⟨fun b hb => sI_ne hb, rfl⟩
theorem ag_s {m a j : Nat} {C T : Mm} {v : Int32} (ha : a ≠ 165) (h : ag m a C T) : ag m a (sI C a j v) (sI T a j v) := ⟨fun i hi => by
  rw [gI_sI, gI_sI]
  by_cases e : i = j
  · rw [if_pos ⟨rfl, e⟩, if_pos ⟨rfl, e⟩]
  · rw [if_neg (fun q => e q.2), if_neg (fun q => e q.2)]; exact h.1 i hi, by
  rw [gI_sI, gI_sI, if_neg (fun q => ha q.1.symm), if_neg (fun q => ha q.1.symm)]; exact h.2⟩
def Lc {α : Type} (m a : Nat) (f : Mm → Option (α × Mm)) : Prop := ∀ C T, ag m a C T → ∀ r C', f C = some (r, C') → ∃ T', f T = some (r, T') ∧ ag m a C' T' ∧ kp a T T'
theorem bnd_inv {α : Type} {b : Bool} {k : Option α} {v : α} (h : bnd b k = some v) : b = true ∧ k = some v := by
  unfold bnd at h
  cases b with
  | false => simp at h
  | true => exact ⟨rfl, by simpa using h⟩
theorem inB5 {x : Int32} (h : inB x 5 = true) : x.toNatClampNeg < 5 := by
  unfold inB at h
  have := of_decide_eq_true h
  omega
theorem Lc_ret {α : Type} {m a : Nat} {v : α} : Lc m a (fun S => some (v, S)) := fun C T h r C' e => by
  have e2 : (v, C) = (r, C') := Option.some.inj e
  have e3 : v = r := congrArg Prod.fst e2
  have e4 : C = C' := congrArg Prod.snd e2
  subst e3; subst e4
  exact ⟨T, rfl, h, kp_0⟩
theorem Lc_bnd {α : Type} {m a : Nat} {b : Bool} {f : Mm → Option (α × Mm)} (h : b = true → Lc m a f) : Lc m a (fun S => bnd b (f S)) := fun C T ht r C' e => by
  obtain ⟨e1, e2⟩ := bnd_inv e
  obtain ⟨T', t1, t2⟩ := h e1 C T ht r C' e2
  exact ⟨T', by dsimp only; rw [bnd_ok e1]; exact t1, t2⟩
theorem Lc_bd {α β : Type} {m a : Nat} {f : Mm → Option (α × Mm)} {g : α → Mm → Option (β × Mm)} (hf : Lc m a f) (hg : ∀ r, Lc m a (g r)) : Lc m a (fun S => bd (f S) g) := fun C T ht r C' e => by
  dsimp only at e
  cases hc : f C with
  | none => rw [hc] at e; exact absurd e (by simp [bd])
  | some q =>
    obtain ⟨v, D⟩ := q
    rw [hc, bd_ok] at e
    obtain ⟨T1, t1, t2, t3⟩ := hf C T ht v D hc
    obtain ⟨T2, u1, u2, u3⟩ := hg v D T1 t2 r C' e
    exact ⟨T2, by dsimp only; rw [t1, bd_ok]; exact u1, u2, kp_t t3 u3⟩
theorem Lc_set {α : Type} {m a j : Nat} {v : Int32} {f : Mm → Option (α × Mm)} (ha : a ≠ 165) (h : Lc m a f) : Lc m a (fun S => f (sI S a j v)) := fun C T ht r C' e => by
  obtain ⟨T', t1, t2, t3⟩ := h (sI C a j v) (sI T a j v) (ag_s ha ht) r C' e
  exact ⟨T', t1, t2, kp_t kp_s t3⟩
theorem Lc_get {α : Type} {m a j : Nat} (hj : j < m) {F : Int32 → Mm → Option (α × Mm)} (h : ∀ v, Lc m a (F v)) : Lc m a (fun S => F (gI S a j) S) := fun C T ht r C' e => by
  dsimp only at e ⊢
  rw [ht.1 j hj]
  exact h (gI C a j) C T ht r C' e
theorem Lc_ite {α : Type} {m a : Nat} {c : Prop} [Decidable c] {f g : Mm → Option (α × Mm)} (hf : Lc m a f) (hg : Lc m a g) : Lc m a (fun S => if c then f S else g S) := fun C T ht r C' e => by
  dsimp only at e ⊢
  by_cases h : c
  · rw [if_pos h] at e ⊢; exact hf C T ht r C' e
  · rw [if_neg h] at e ⊢; exact hg C T ht r C' e
theorem Lc_none {α : Type} {m a : Nat} : Lc m a (fun _ => (none : Option (α × Mm))) := fun _ _ _ _ _ e => by simp at e
theorem LL161 : LL 161 = 5 := by decide
theorem dn1 {j : Nat} (h : 1 ≤ j) : nI j + -1 = nI (j - 1) := by
  rw [← Int32.sub_eq_add_neg]; exact sub1 h
theorem lc_swap {m i j : Nat} (hm : m ≤ 5) (hi : i < m) (hj : j < m) : Lc m 161 (fun S => f_X6_swap S 161 (nI i) (nI j)) := by
  unfold f_X6_swap
  simp only [LL161, nm_ok, nI_clamp (show i < 2 ^ 31 by omega), nI_clamp (show j < 2 ^ 31 by omega)]
  refine Lc_bnd (fun _ => ?_)
  refine Lc_get (F := fun v S => bnd (inB (nI j) 5) (bnd (inB (nI i) 5) (bnd (inB (nI j) 5) (some ((), sI (sI S 161 i (gI S 161 j)) 161 j v))))) hi (fun v => ?_)
  refine Lc_bnd (fun hy => Lc_bnd (fun _ => Lc_bnd (fun _ => ?_)))
  exact Lc_get (F := fun w S => some ((), sI (sI S 161 i w) 161 j v)) hj (fun w => Lc_set (f := fun S => some ((), sI S 161 j v)) (by decide) (Lc_set (f := fun S => some ((), S)) (by decide) Lc_ret))
theorem lc_71 {m : Nat} (hm : m ≤ 5) : ∀ (fu i j : Nat), i < 100 → j < m → Lc m 161 (f_X6_advance_71 161 fu (nI i) (nI j)) := by
  intro fu
  induction fu with
  | zero => intro i j _ _; exact Lc_none
  | succ fu ih =>
    intro i j hi hj
    show Lc m 161 (fun S => f_X6_advance_71 161 (fu + 1) (nI i) (nI j) S)
    simp only [f_X6_advance_71, nm_ok]
    by_cases h : j ≤ i
    · simp only [if_pos (nI_le h (by omega))]
      exact Lc_ret
    · simp only [if_neg (nI_ge (show i < j by omega) (by omega)), nI_1, dn1 (show 1 ≤ j by omega)]
      exact Lc_bd (lc_swap hm (by omega) hj) (fun _ => ih (i + 1) (j - 1) (by omega) (by omega))
theorem lc_55 {m i j : Nat} (hm : m ≤ 5) (hi : i < m) (hj : j < m) : Lc m 161 (f_X6_advance_55 161 (nI m) (nI i) (nI j)) := by
  show Lc m 161 (fun S => f_X6_advance_55 161 (nI m) (nI i) (nI j) S)
  simp only [f_X6_advance_55, nm_ok, nI_1, sub1 (show 1 ≤ m by omega)]
  exact Lc_bd (lc_swap hm hi hj) (fun _ => lc_71 hm _ _ _ (by omega) (by omega))
theorem lc_35 {m : Nat} (hm : m ≤ 5) : ∀ (fu i j : Nat), i < m → j < m → Lc m 161 (f_X6_advance_35 161 fu (nI m) (nI i) (nI j)) := by
  intro fu
  induction fu with
  | zero => intro i j _ _; exact Lc_none
  | succ fu ih =>
    intro i j hi hj
    show Lc m 161 (fun S => f_X6_advance_35 161 (fu + 1) (nI m) (nI i) (nI j) S)
    simp only [f_X6_advance_35, nm_ok, LL161, nI_clamp (show i < 2 ^ 31 by omega), nI_clamp (show j < 2 ^ 31 by omega)]
    by_cases h : j ≤ i
    · simp only [if_pos (nI_le h (by omega))]
      exact lc_55 hm hi hj
    · simp only [if_neg (nI_ge (show i < j by omega) (by omega)), dn1 (show 1 ≤ j by omega)]
      refine Lc_bnd (fun _ => Lc_bnd (fun _ => ?_))
      refine Lc_get (F := fun v S => if v ≤ gI S 161 j then f_X6_advance_55 161 (nI m) (nI i) (nI j) S else f_X6_advance_35 161 fu (nI m) (nI i) (nI (j - 1)) S) hi (fun v => ?_)
      exact Lc_get (F := fun w S => if v ≤ w then f_X6_advance_55 161 (nI m) (nI i) (nI j) S else f_X6_advance_35 161 fu (nI m) (nI i) (nI (j - 1)) S) hj (fun w => Lc_ite (lc_55 hm hi hj) (ih _ _ hi (by omega)))
theorem lc_25 {m i : Nat} (hm : m ≤ 5) (hi : i < m) : Lc m 161 (f_X6_advance_25 161 (nI m) (nI i)) := by
  show Lc m 161 (fun S => f_X6_advance_25 161 (nI m) (nI i) S)
  simp only [f_X6_advance_25, nm_ok, sub1 (show 1 ≤ m by omega)]
  exact Lc_ite (lc_35 hm _ _ _ hi (by omega)) Lc_ret
theorem lc_25n {m : Nat} : Lc m 161 (f_X6_advance_25 161 (nI m) (-1)) := by
  show Lc m 161 (fun S => f_X6_advance_25 161 (nI m) (-1) S)
  simp only [f_X6_advance_25, if_neg (show ¬ (0 : Int32) ≤ -1 by decide)]
  exact Lc_ret
theorem lc_4n {m : Nat} : ∀ fu, Lc m 161 (f_X6_advance_4 161 fu (nI m) (-1)) := by
  intro fu
  cases fu with
  | zero => exact Lc_none
  | succ fu =>
    show Lc m 161 (fun S => f_X6_advance_4 161 (fu + 1) (nI m) (-1) S)
    simp only [f_X6_advance_4, if_pos (show (-1 : Int32) < 0 by decide)]
    exact lc_25n
theorem lc_4 {m : Nat} (hm : m ≤ 5) : ∀ (fu i : Nat), i + 1 < m → Lc m 161 (f_X6_advance_4 161 fu (nI m) (nI i)) := by
  intro fu
  induction fu with
  | zero => intro i _; exact Lc_none
  | succ fu ih =>
    intro i hi
    show Lc m 161 (fun S => f_X6_advance_4 161 (fu + 1) (nI m) (nI i) S)
    simp only [f_X6_advance_4, nm_ok, LL161, if_neg (nI_pos (show i < 2 ^ 31 by omega)), nI_1, nI_clamp (show i < 2 ^ 31 by omega), nI_clamp (show i + 1 < 2 ^ 31 by omega)]
    have nx : Lc m 161 (f_X6_advance_4 161 fu (nI m) (nI i + -1)) := by
      rcases Nat.eq_zero_or_pos i with e | e
      · subst e; exact lc_4n fu
      · rw [dn1 e]; exact ih (i - 1) (by omega)
    refine Lc_bnd (fun _ => Lc_bnd (fun _ => ?_))
    refine Lc_get (F := fun v S => if v ≤ gI S 161 (i + 1) then f_X6_advance_25 161 (nI m) (nI i) S else f_X6_advance_4 161 fu (nI m) (nI i + -1) S) (show i < m by omega) (fun v => ?_)
    exact Lc_get (F := fun w S => if v ≤ w then f_X6_advance_25 161 (nI m) (nI i) S else f_X6_advance_4 161 fu (nI m) (nI i + -1) S) hi (fun w => Lc_ite (lc_25 hm (by omega)) nx)
theorem lc_adv {m : Nat} (hm : m ≤ 5) (h1 : 1 ≤ m) : Lc m 161 (fun S => f_X6_advance S 161 (nI m)) := by
  unfold f_X6_advance
  simp only [nm_ok]
  rcases Nat.lt_or_ge m 2 with h | h
  · obtain rfl : m = 1 := by omega
    exact lc_4n 400
  · have e : nI m - 2 = nI (m - 2) := by
      rcases (show m = 2 ∨ m = 3 ∨ m = 4 ∨ m = 5 by omega) with e | e | e | e <;> subst e <;> decide
    rw [e]
    exact lc_4 hm 400 (m - 2) (by omega)
theorem Lc_n {α : Type} {m a : Nat} {F : Int32 → Mm → Option (α × Mm)} (h : ∀ v, Lc m a (F v)) : Lc m a (fun S => F (gI S 165 0) S) := fun C T ht r C' e => by
  dsimp only at e ⊢
  rw [ht.2]
  exact h (gI C 165 0) C T ht r C' e
theorem lm_113 : ∀ (fu : Nat) (x y : Int32), Lc 5 174 (f_X7_nextRow_113 fu x y) := by
  intro fu
  induction fu with
  | zero => intro x y; exact Lc_none
  | succ fu ih =>
    intro x y
    show Lc 5 174 (fun S => f_X7_nextRow_113 (fu + 1) x y S)
    simp only [f_X7_nextRow_113, nm_ok]
    refine Lc_ite Lc_ret (Lc_bnd (fun hx => ?_))
    refine Lc_get (F := fun v S => bnd (inB y 5) (bnd (inB x 5) (bnd (inB y 5) (f_X7_nextRow_113 fu (x + 1) (y + -1) (sI (sI S 174 x.toNatClampNeg (gI S 174 y.toNatClampNeg)) 174 y.toNatClampNeg v))))) (inB5 hx) (fun v => ?_)
    refine Lc_bnd (fun hy => Lc_bnd (fun _ => Lc_bnd (fun _ => ?_)))
    exact Lc_get (F := fun w S => f_X7_nextRow_113 fu (x + 1) (y + -1) (sI (sI S 174 x.toNatClampNeg w) 174 y.toNatClampNeg v)) (inB5 hy) (fun w => Lc_set (f := fun S => f_X7_nextRow_113 fu (x + 1) (y + -1) (sI S 174 y.toNatClampNeg v)) (by decide) (Lc_set (f := f_X7_nextRow_113 fu (x + 1) (y + -1)) (by decide) (ih _ _)))
theorem cl0 : (0 : Int32).toNatClampNeg = 0 := rfl
theorem lm_51 : ∀ (fu : Nat) (x y : Int32), Lc 5 174 (f_X7_nextRow_51 fu x y) := by
  intro fu
  induction fu with
  | zero => intro x y; exact Lc_none
  | succ fu ih =>
    intro x y
    show Lc 5 174 (fun S => f_X7_nextRow_51 (fu + 1) x y S)
    simp only [f_X7_nextRow_51, nm_ok, cl0]
    refine Lc_bnd (fun hy => Lc_bnd (fun hx => ?_))
    refine Lc_get (F := fun v S => if v ≤ gI S 174 y.toNatClampNeg then bnd (inB x 5) (bnd (inB y 5) (bnd (inB x 5) (bnd (inB y 5) (bnd (inB 0 2) (f_X7_nextRow_113 400 (x + 1) (gI (sI (sI S 174 x.toNatClampNeg (gI S 174 y.toNatClampNeg)) 174 y.toNatClampNeg v) 165 0 - 1) (sI (sI S 174 x.toNatClampNeg (gI S 174 y.toNatClampNeg)) 174 y.toNatClampNeg v)))))) else f_X7_nextRow_51 fu x (y + -1) S) (inB5 hx) (fun v => ?_)
    refine Lc_get (F := fun w S => if v ≤ w then bnd (inB x 5) (bnd (inB y 5) (bnd (inB x 5) (bnd (inB y 5) (bnd (inB 0 2) (f_X7_nextRow_113 400 (x + 1) (gI (sI (sI S 174 x.toNatClampNeg w) 174 y.toNatClampNeg v) 165 0 - 1) (sI (sI S 174 x.toNatClampNeg w) 174 y.toNatClampNeg v)))))) else f_X7_nextRow_51 fu x (y + -1) S) (inB5 hy) (fun w => ?_)
    refine Lc_ite (Lc_bnd (fun _ => Lc_bnd (fun _ => Lc_bnd (fun _ => Lc_bnd (fun _ => Lc_bnd (fun _ => ?_)))))) (ih _ _)
    exact Lc_set (f := fun S => f_X7_nextRow_113 400 (x + 1) (gI (sI S 174 y.toNatClampNeg v) 165 0 - 1) (sI S 174 y.toNatClampNeg v)) (by decide) (Lc_set (f := fun S => f_X7_nextRow_113 400 (x + 1) (gI S 165 0 - 1) S) (by decide) (Lc_n (F := fun q S => f_X7_nextRow_113 400 (x + 1) (q - 1) S) (fun q => lm_113 _ _ _)))
theorem lm_36 {x : Int32} : Lc 5 174 (f_X7_nextRow_36 x) := by
  show Lc 5 174 (fun S => f_X7_nextRow_36 x S)
  simp only [f_X7_nextRow_36, nm_ok, cl0]
  exact Lc_ite (Lc_bnd (fun _ => Lc_n (F := fun q S => f_X7_nextRow_51 400 x (q - 1) S) (fun q => lm_51 _ _ _))) Lc_ret
theorem lm_9 : ∀ (fu : Nat) (x : Int32), Lc 5 174 (f_X7_nextRow_9 fu x) := by
  intro fu
  induction fu with
  | zero => intro x; exact Lc_none
  | succ fu ih =>
    intro x
    show Lc 5 174 (fun S => f_X7_nextRow_9 (fu + 1) x S)
    simp only [f_X7_nextRow_9, nm_ok]
    refine Lc_ite lm_36 (Lc_bnd (fun hx => Lc_bnd (fun hy => ?_)))
    refine Lc_get (F := fun v S => if v ≤ gI S 174 (x + 1).toNatClampNeg then f_X7_nextRow_36 x S else f_X7_nextRow_9 fu (x + -1) S) (inB5 hx) (fun v => ?_)
    exact Lc_get (F := fun w S => if v ≤ w then f_X7_nextRow_36 x S else f_X7_nextRow_9 fu (x + -1) S) (inB5 hy) (fun w => Lc_ite lm_36 (ih _))
theorem lm_next : Lc 5 174 f_X7_nextRow := by
  show Lc 5 174 (fun S => f_X7_nextRow S)
  simp only [f_X7_nextRow, nm_ok, cl0]
  exact Lc_bnd (fun _ => Lc_n (F := fun q S => f_X7_nextRow_9 400 (q - 2) S) (fun q => lm_9 _ _))
