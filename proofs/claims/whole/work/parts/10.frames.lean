def Fc (S T : Mm) : Prop := ∀ a, 163 ≤ a → T.1 a = S.1 a ∧ T.2.1 a = S.2.1 a
def Fm (S T : Mm) : Prop := T.2.2 = S.2.2 ∧ ∀ a, a < 163 → T.1 a = S.1 a ∧ T.2.1 a = S.2.1 a
def Cc (S T : Mm) : Prop := T.2.2 = S.2.2 ∧ (∀ a, a ≠ 157 → a ≠ 161 → a ≠ 162 → T.1 a = S.1 a) ∧ (∀ a, a ≠ 158 → a ≠ 159 → a ≠ 160 → T.2.1 a = S.2.1 a)
def Cm (S T : Mm) : Prop := T.2.2 = S.2.2 ∧ (∀ a, a ≠ 163 → a ≠ 174 → a ≠ 177 → T.1 a = S.1 a) ∧ (∀ j, j ≠ 18 → j ≠ 19 → T.1 163 j = S.1 163 j) ∧ (∀ a, a ≠ 163 → a ≠ 175 → a ≠ 176 → T.2.1 a = S.2.1 a) ∧ T.2.1 163 0 = S.2.1 163 0
theorem Fc.rf {S : Mm} : Fc S S := fun _ _ => ⟨rfl, rfl⟩
theorem Fm.rf {S : Mm} : Fm S S := ⟨rfl, fun _ _ => ⟨rfl, rfl⟩⟩
theorem Cc.rf {S : Mm} : Cc S S := ⟨rfl, fun _ _ _ _ => rfl, fun _ _ _ _ => rfl⟩
theorem Cm.rf {S : Mm} : Cm S S := ⟨rfl, fun _ _ _ _ => rfl, fun _ _ _ => rfl, fun _ _ _ _ => rfl, rfl⟩
theorem Fc.tr {S T U : Mm} (h : Fc S T) (g : Fc T U) : Fc S U := fun a ha => ⟨(g a ha).1.trans (h a ha).1, (g a ha).2.trans (h a ha).2⟩
theorem Fm.tr {S T U : Mm} (h : Fm S T) (g : Fm T U) : Fm S U := ⟨g.1.trans h.1, fun a ha => ⟨(g.2 a ha).1.trans (h.2 a ha).1, (g.2 a ha).2.trans (h.2 a ha).2⟩⟩
theorem Cc.tr {S T U : Mm} (h : Cc S T) (g : Cc T U) : Cc S U := ⟨g.1.trans h.1, fun a h1 h2 h3 => (g.2.1 a h1 h2 h3).trans (h.2.1 a h1 h2 h3), fun a h1 h2 h3 => (g.2.2 a h1 h2 h3).trans (h.2.2 a h1 h2 h3)⟩
theorem Cm.tr {S T U : Mm} (h : Cm S T) (g : Cm T U) : Cm S U := ⟨g.1.trans h.1, fun a h1 h2 h3 => (g.2.1 a h1 h2 h3).trans (h.2.1 a h1 h2 h3), fun j h1 h2 => (g.2.2.1 j h1 h2).trans (h.2.2.1 j h1 h2), fun a h1 h2 h3 => (g.2.2.2.1 a h1 h2 h3).trans (h.2.2.2.1 a h1 h2 h3), g.2.2.2.2.trans h.2.2.2.2⟩
theorem sI_ne {S : Mm} {a j b : Nat} {v : Int32} (h : b ≠ a) : (sI S a j v).1 b = S.1 b := va_up_ne _ _ h
theorem sJ_ne {S : Mm} {a j b : Nat} {v : Int64} (h : b ≠ a) : (sJ S a j v).2.1 b = S.2.1 b := va_up_ne _ _ h
theorem sI_nj {S : Mm} {a j b i : Nat} {v : Int32} (h : ¬ (b = a ∧ i = j)) : (sI S a j v).1 b i = S.1 b i := by
  by_cases hb : b = a
  · subst hb
    have hi : i ≠ j := fun q => h ⟨rfl, q⟩
    simp [sI, rowI, va_up, upd, hi]
  · rw [sI_ne hb]
theorem sJ_nj {S : Mm} {a j b i : Nat} {v : Int64} (h : ¬ (b = a ∧ i = j)) : (sJ S a j v).2.1 b i = S.2.1 b i := by
  by_cases hb : b = a
  · subst hb
    have hi : i ≠ j := fun q => h ⟨rfl, q⟩
    simp [sJ, rowJ, va_up, vp_updL, hi]
  · rw [sJ_ne hb]
theorem Fc_sI {S : Mm} {a j : Nat} {v : Int32} (h : a < 163) : Fc S (sI S a j v) := fun b hb => ⟨sI_ne (by omega), rfl⟩
theorem Fc_sJ {S : Mm} {a j : Nat} {v : Int64} (h : a < 163) : Fc S (sJ S a j v) := fun b hb => ⟨rfl, sJ_ne (by omega)⟩
theorem Fc_cpI {S : Mm} {a sp b dp n : Nat} (h : b < 163) : Fc S (cpI S a sp b dp n) := fun c hc => ⟨va_up_ne _ _ (by omega), rfl⟩
theorem Fm_sI {S : Mm} {a j : Nat} {v : Int32} (h : 163 ≤ a) : Fm S (sI S a j v) := ⟨rfl, fun b hb => ⟨sI_ne (by omega), rfl⟩⟩
theorem Fm_sJ {S : Mm} {a j : Nat} {v : Int64} (h : 163 ≤ a) : Fm S (sJ S a j v) := ⟨rfl, fun b hb => ⟨rfl, sJ_ne (by omega)⟩⟩
theorem Cc_sI {S : Mm} {a j : Nat} {v : Int32} (h : a = 157 ∨ a = 161 ∨ a = 162) : Cc S (sI S a j v) := ⟨rfl, fun b h1 h2 h3 => sI_ne (by omega), fun _ _ _ _ => rfl⟩
theorem Cc_sJ {S : Mm} {a j : Nat} {v : Int64} (h : a = 158 ∨ a = 159 ∨ a = 160) : Cc S (sJ S a j v) := ⟨rfl, fun _ _ _ _ => rfl, fun b h1 h2 h3 => sJ_ne (by omega)⟩
theorem Cc_cpI {S : Mm} {a sp b dp n : Nat} (h : b = 157 ∨ b = 161 ∨ b = 162) : Cc S (cpI S a sp b dp n) := ⟨rfl, fun c h1 h2 h3 => va_up_ne _ _ (by omega), fun _ _ _ _ => rfl⟩
theorem Cm_sI {S : Mm} {a j : Nat} {v : Int32} (h : a = 174 ∨ a = 177 ∨ (a = 163 ∧ (j = 18 ∨ j = 19))) : Cm S (sI S a j v) := ⟨rfl, fun b h1 h2 h3 => sI_ne (by omega), fun i h1 h2 => sI_nj (by omega), fun _ _ _ _ => rfl, rfl⟩
theorem Cm_sJ {S : Mm} {a j : Nat} {v : Int64} (h : a = 175 ∨ a = 176 ∨ (a = 163 ∧ j ≠ 0)) : Cm S (sJ S a j v) := ⟨rfl, fun _ _ _ _ => rfl, fun _ _ _ => rfl, fun b h1 h2 h3 => sJ_ne (by omega), sJ_nj (by omega)⟩
theorem Klt1 {k : Nat} (h : KK k = 1) : k + 4 ≤ 163 := by simpa using KK_all (P := fun k c => decide (c = 1 → k + 4 ≤ 163)) (by decide +kernel) h (by decide)
theorem Klt3 {k : Nat} (h : KK k = 3) : k + 46 ≤ 163 := by simpa using KK_all (P := fun k c => decide (c = 3 → k + 46 ≤ 163)) (by decide +kernel) h (by decide)
theorem Klt4 {k : Nat} (h : KK k = 4) : k + 6 ≤ 163 := by simpa using KK_all (P := fun k c => decide (c = 4 → k + 6 ≤ 163)) (by decide +kernel) h (by decide)
theorem fc_J6_bitCount_0f7a4 {S S' : Mm} {r : Int32} {x0 : Int32}  (h : f_J6_bitCount_0f7a4 S x0 = some (r, S')) : Fc S S' := by
  unfold f_J6_bitCount_0f7a4 at h
  obtain ⟨v1, e2, h⟩ := nm_some h
  obtain ⟨v3, e4, h⟩ := nm_some h
  obtain ⟨v5, e6, h⟩ := nm_some h
  obtain ⟨v7, e8, h⟩ := nm_some h
  obtain ⟨v9, e10, h⟩ := nm_some h
  obtain ⟨rfl, rfl⟩ := sm_inj h
  exact Fc.rf
theorem fc_X0_begin {S S' : Mm} {r : Unit}   (h : f_X0_begin S = some (r, S')) : Fc S S' := by
  unfold f_X0_begin at h
  obtain ⟨S1, e2, h⟩ := nm_some h
  have qS1 : Fc S S1 := by rw [e2]; exact Fc_sJ (by decide)
  obtain ⟨S3, e4, h⟩ := nm_some h
  have qS3 : Fc S1 S3 := by rw [e4]; exact Fc_sJ (by decide)
  obtain ⟨S5, e6, h⟩ := nm_some h
  have qS5 : Fc S3 S5 := by rw [e6]; exact Fc_sJ (by decide)
  obtain ⟨rfl, rfl⟩ := sm_inj h
  exact qS1.tr (qS3.tr (qS5))
theorem fc_X0_lookBehind {S S' : Mm} {r : Unit} {x1 : Int32} {x2 : Int32} {x3 : Int32}  (h : f_X0_lookBehind S x1 x2 x3 = some (r, S')) : Fc S S' := by
  unfold f_X0_lookBehind at h
  obtain ⟨S1, e2, h⟩ := nm_some h
  have qS1 : Fc S S1 := by rw [e2]; exact Fc_sJ (by decide)
  obtain ⟨b3, h⟩ := bnd_some h
  obtain ⟨S4, e5, h⟩ := nm_some h
  have qS4 : Fc S1 S4 := by rw [e5]; exact Fc_sJ (by decide)
  obtain ⟨b6, h⟩ := bnd_some h
  obtain ⟨S7, e8, h⟩ := nm_some h
  have qS7 : Fc S4 S7 := by rw [e8]; exact Fc_sJ (by decide)
  obtain ⟨rfl, rfl⟩ := sm_inj h
  exact qS1.tr (qS4.tr (qS7))
theorem fc_X0_thinShares_2 {r : Unit} {S' : Mm}    : ∀ (n : Nat) (x1 : Int32) (x2 : Int32) (x3 : Int32) (S : Mm), f_X0_thinShares_2 n x1 x2 x3 S = some (r, S') → Fc S S' := by
  intro n
  induction n with
  | zero => intro x1 x2 x3 S h; cases h
  | succ n ih =>
    intro x1 x2 x3 S h
    rw [f_X0_thinShares_2] at h
    by_cases c1 : x1 < x3
    · have h := ifT c1 h
      obtain ⟨rfl, rfl⟩ := sm_inj h
      exact Fc.rf
    · have h := ifF c1 h
      obtain ⟨b2, h⟩ := bnd_some h
      obtain ⟨b3, h⟩ := bnd_some h
      obtain ⟨S4, e5, h⟩ := nm_some h
      have qS4 : Fc S S4 := by rw [e5]; exact Fc_sJ (by decide)
      obtain ⟨v6, e7, h⟩ := nm_some h
      exact qS4.tr ((ih x1 x2 v6 S4 h))
theorem fc_X0_thinShares {S S' : Mm} {r : Unit} {x1 : Int32} {x2 : Int32}  (h : f_X0_thinShares S x1 x2 = some (r, S')) : Fc S S' := by
  unfold f_X0_thinShares at h
  exact (fc_X0_thinShares_2 400 x1 x2 0 S h)
theorem fc_X0_work {S S' : Mm} {r : Unit} {x1 : Int32} {x2 : Int32} {x3 : Int32}  (h : f_X0_work S x1 x2 x3 = some (r, S')) : Fc S S' := by
  unfold f_X0_work at h
  obtain ⟨S1, e2, h⟩ := nm_some h
  have qS1 : Fc S S1 := by rw [e2]; exact Fc_sJ (by decide)
  obtain ⟨b3, h⟩ := bnd_some h
  obtain ⟨S4, e5, h⟩ := nm_some h
  have qS4 : Fc S1 S4 := by rw [e5]; exact Fc_sJ (by decide)
  obtain ⟨b6, h⟩ := bnd_some h
  obtain ⟨S7, e8, h⟩ := nm_some h
  have qS7 : Fc S4 S7 := by rw [e8]; exact Fc_sJ (by decide)
  obtain ⟨b9, h⟩ := bnd_some h
  obtain ⟨S10, e11, h⟩ := nm_some h
  have qS10 : Fc S7 S10 := by rw [e11]; exact Fc_sJ (by decide)
  obtain ⟨rfl, rfl⟩ := sm_inj h
  exact qS1.tr (qS4.tr (qS7.tr (qS10)))
theorem fc_X0_through_7 {r : Unit} {S' : Mm} {a1 : Nat} {a2 : Nat} {a3 : Nat}   : ∀ (n : Nat) (x4 : Int32) (x5 : Int32) (S : Mm), f_X0_through_7 a1 a2 a3 n x4 x5 S = some (r, S') → Fc S S' := by
  intro n
  induction n with
  | zero => intro x4 x5 S h; cases h
  | succ n ih =>
    intro x4 x5 S h
    rw [f_X0_through_7] at h
    by_cases c1 : (gI S a1 0) ≤ x5
    · have h := ifT c1 h
      obtain ⟨S2, e3, h⟩ := nm_some h
      have qS2 : Fc S S2 := by rw [e3]; exact Fc_sJ (by decide)
      obtain ⟨rfl, rfl⟩ := sm_inj h
      exact qS2
    · have h := ifF c1 h
      obtain ⟨b4, h⟩ := bnd_some h
      obtain ⟨v5, e6, h⟩ := nm_some h
      obtain ⟨b7, h⟩ := bnd_some h
      obtain ⟨b8, h⟩ := bnd_some h
      obtain ⟨r9, S10, h11, h⟩ := bd_some h
      have qS10 : Fc S S10 := fc_X0_work  h11
      obtain ⟨b12, h⟩ := bnd_some h
      obtain ⟨S13, e14, h⟩ := nm_some h
      have qS13 : Fc S10 S13 := by rw [e14]; exact Fc_sJ (by decide)
      by_cases c15 : ((x4 >>> (v5 &&& 31)) &&& 1) = 1
      · have h := ifT c15 h
        obtain ⟨b18, h⟩ := bnd_some h
        obtain ⟨b19, h⟩ := bnd_some h
        obtain ⟨r20, S21, h22, h⟩ := bd_some h
        have qS21 : Fc S13 S21 := fc_X0_lookBehind  h22
        obtain ⟨v23, e24, h⟩ := nm_some h
        exact qS10.tr (qS13.tr (qS21.tr ((ih x4 v23 S21 h))))
      · have h := ifF c15 h
        obtain ⟨v16, e17, h⟩ := nm_some h
        exact qS10.tr (qS13.tr ((ih x4 v16 S13 h)))
theorem fc_X0_through {S S' : Mm} {r : Unit} {a1 : Nat} {a2 : Nat} {a3 : Nat} {x4 : Int32}  (h : f_X0_through S a1 a2 a3 x4 = some (r, S')) : Fc S S' := by
  unfold f_X0_through at h
  obtain ⟨r1, S2, h3, h⟩ := bd_some h
  have qS2 : Fc S S2 := fc_X0_begin  h3
  exact qS2.tr ((fc_X0_through_7 400 x4 0 S2 h))
theorem fc_X0_upTo_7 {r : Unit} {S' : Mm} {a2 : Nat} {a3 : Nat}   : ∀ (n : Nat) (x1 : Int32) (x4 : Int32) (S : Mm), f_X0_upTo_7 a2 a3 n x1 x4 S = some (r, S') → Fc S S' := by
  intro n
  induction n with
  | zero => intro x1 x4 S h; cases h
  | succ n ih =>
    intro x1 x4 S h
    rw [f_X0_upTo_7] at h
    by_cases c1 : x1 < x4
    · have h := ifT c1 h
      obtain ⟨rfl, rfl⟩ := sm_inj h
      exact Fc.rf
    · have h := ifF c1 h
      by_cases c2 : (gI S a2 0) ≤ x4
      · have h := ifT c2 h
        obtain ⟨rfl, rfl⟩ := sm_inj h
        exact Fc.rf
      · have h := ifF c2 h
        obtain ⟨b3, h⟩ := bnd_some h
        obtain ⟨v4, e5, h⟩ := nm_some h
        obtain ⟨b6, h⟩ := bnd_some h
        obtain ⟨b7, h⟩ := bnd_some h
        obtain ⟨r8, S9, h10, h⟩ := bd_some h
        have qS9 : Fc S S9 := fc_X0_work  h10
        by_cases c11 : x1 ≤ x4
        · have h := ifT c11 h
          obtain ⟨v12, e13, h⟩ := nm_some h
          exact qS9.tr ((ih x1 v12 S9 h))
        · have h := ifF c11 h
          by_cases c14 : (((gI S9 a3 3) >>> (v4 &&& 31)) &&& 1) = 1
          · have h := ifT c14 h
            obtain ⟨b17, h⟩ := bnd_some h
            obtain ⟨b18, h⟩ := bnd_some h
            obtain ⟨r19, S20, h21, h⟩ := bd_some h
            have qS20 : Fc S9 S20 := fc_X0_lookBehind  h21
            obtain ⟨b22, h⟩ := bnd_some h
            obtain ⟨r23, S24, h25, h⟩ := bd_some h
            have qS24 : Fc S20 S24 := fc_X0_thinShares  h25
            obtain ⟨v26, e27, h⟩ := nm_some h
            exact qS9.tr (qS20.tr (qS24.tr ((ih x1 v26 S24 h))))
          · have h := ifF c14 h
            obtain ⟨v15, e16, h⟩ := nm_some h
            exact qS9.tr ((ih x1 v15 S9 h))
theorem fc_X0_upTo {S S' : Mm} {r : Unit} {x1 : Int32} {a2 : Nat} {a3 : Nat}  (h : f_X0_upTo S x1 a2 a3 = some (r, S')) : Fc S S' := by
  unfold f_X0_upTo at h
  obtain ⟨r1, S2, h3, h⟩ := bd_some h
  have qS2 : Fc S S2 := fc_X0_begin  h3
  exact qS2.tr ((fc_X0_upTo_7 400 x1 0 S2 h))
theorem fc_X1_become {S S' : Mm} {r : Unit} {o : Nat} {a1 : Nat} (ho : KK o = 1) (h : f_X1_become S o a1 = some (r, S')) : Fc S S' := by
  have go := Klt1 ho
  unfold f_X1_become at h
  obtain ⟨b1, h⟩ := bnd_some h
  obtain ⟨S2, e3, h⟩ := nm_some h
  have qS2 : Fc S S2 := by rw [e3]; exact Fc_cpI (by omega)
  obtain ⟨b4, h⟩ := bnd_some h
  obtain ⟨S5, e6, h⟩ := nm_some h
  have qS5 : Fc S2 S5 := by rw [e6]; exact Fc_cpI (by omega)
  obtain ⟨b7, h⟩ := bnd_some h
  obtain ⟨S8, e9, h⟩ := nm_some h
  have qS8 : Fc S5 S8 := by rw [e9]; exact Fc_cpI (by omega)
  obtain ⟨S10, e11, h⟩ := nm_some h
  have qS10 : Fc S8 S10 := by rw [e11]; exact Fc_sI (by omega)
  obtain ⟨S12, e13, h⟩ := nm_some h
  have qS12 : Fc S10 S12 := by rw [e13]; exact Fc_sI (by omega)
  obtain ⟨S14, e15, h⟩ := nm_some h
  have qS14 : Fc S12 S14 := by rw [e15]; exact Fc_sI (by omega)
  obtain ⟨S16, e17, h⟩ := nm_some h
  have qS16 : Fc S14 S16 := by rw [e17]; exact Fc_sI (by omega)
  obtain ⟨S18, e19, h⟩ := nm_some h
  have qS18 : Fc S16 S18 := by rw [e19]; exact Fc_sI (by omega)
  obtain ⟨rfl, rfl⟩ := sm_inj h
  exact qS2.tr (qS5.tr (qS8.tr (qS10.tr (qS12.tr (qS14.tr (qS16.tr (qS18)))))))
theorem fc_X2_fate {S S' : Mm} {r : Int32}   (h : f_X2_fate S = some (r, S')) : Fc S S' := by
  unfold f_X2_fate at h
  by_cases c1 : (gI S 157 2) = (-1)
  · have h := ifT c1 h
    by_cases c2 : (gI S 157 1) = 0
    · have h := ifT c2 h
      obtain ⟨rfl, rfl⟩ := sm_inj h
      exact Fc.rf
    · have h := ifF c2 h
      obtain ⟨rfl, rfl⟩ := sm_inj h
      exact Fc.rf
  · have h := ifF c1 h
    obtain ⟨rfl, rfl⟩ := sm_inj h
    exact Fc.rf
theorem fc_X1_enter {S S' : Mm} {r : Unit} {o : Nat} {x2 : Int32} (ho : KK o = 1) (h : f_X1_enter S o x2 = some (r, S')) : Fc S S' := by
  have go := Klt1 ho
  unfold f_X1_enter at h
  obtain ⟨S1, e2, h⟩ := nm_some h
  have qS1 : Fc S S1 := by rw [e2]; exact Fc_sI (by omega)
  obtain ⟨S3, e4, h⟩ := nm_some h
  have qS3 : Fc S1 S3 := by rw [e4]; exact Fc_sI (by omega)
  obtain ⟨r5, S6, h7, h⟩ := bd_some h
  have qS6 : Fc S3 S6 := fc_X2_fate  h7
  by_cases c8 : r5 = 2
  · have h := ifT c8 h
    obtain ⟨b16, h⟩ := bnd_some h
    obtain ⟨b17, h⟩ := bnd_some h
    obtain ⟨S18, e19, h⟩ := nm_some h
    have qS18 : Fc S6 S18 := by rw [e19]; exact Fc_sI (by omega)
    obtain ⟨rfl, rfl⟩ := sm_inj h
    exact qS1.tr (qS3.tr (qS6.tr (qS18)))
  · have h := ifF c8 h
    obtain ⟨S9, e10, h⟩ := nm_some h
    have qS9 : Fc S6 S9 := by rw [e10]; exact Fc_sI (by omega)
    by_cases c11 : (gI S9 157 1) = 0
    · have h := ifT c11 h
      obtain ⟨rfl, rfl⟩ := sm_inj h
      exact qS1.tr (qS3.tr (qS6.tr (qS9)))
    · have h := ifF c11 h
      obtain ⟨S12, e13, h⟩ := nm_some h
      have qS12 : Fc S9 S12 := by rw [e13]; exact Fc_sI (by omega)
      obtain ⟨S14, e15, h⟩ := nm_some h
      have qS14 : Fc S12 S14 := by rw [e15]; exact Fc_sI (by omega)
      obtain ⟨rfl, rfl⟩ := sm_inj h
      exact qS1.tr (qS3.tr (qS6.tr (qS9.tr (qS12.tr (qS14)))))
theorem fc_X1_open_2 {r : Unit} {S' : Mm} {o : Nat} {a1 : Nat} (ho : KK o = 1)  : ∀ (n : Nat) (x2 : Int32) (S : Mm), f_X1_open_2 o a1 n x2 S = some (r, S') → Fc S S' := by
  have go := Klt1 ho
  intro n
  induction n with
  | zero => intro x2 S h; cases h
  | succ n ih =>
    intro x2 S h
    rw [f_X1_open_2] at h
    by_cases c1 : 5 ≤ x2
    · have h := ifT c1 h
      obtain ⟨S2, e3, h⟩ := nm_some h
      have qS2 : Fc S S2 := by rw [e3]; exact Fc_sI (by omega)
      obtain ⟨S4, e5, h⟩ := nm_some h
      have qS4 : Fc S2 S4 := by rw [e5]; exact Fc_sI (by omega)
      obtain ⟨S6, e7, h⟩ := nm_some h
      have qS6 : Fc S4 S6 := by rw [e7]; exact Fc_sI (by omega)
      obtain ⟨S8, e9, h⟩ := nm_some h
      have qS8 : Fc S6 S8 := by rw [e9]; exact Fc_sI (by omega)
      obtain ⟨S10, e11, h⟩ := nm_some h
      have qS10 : Fc S8 S10 := by rw [e11]; exact Fc_sI (by omega)
      obtain ⟨rfl, rfl⟩ := sm_inj h
      exact qS2.tr (qS4.tr (qS6.tr (qS8.tr (qS10))))
    · have h := ifF c1 h
      obtain ⟨b12, h⟩ := bnd_some h
      obtain ⟨S13, e14, h⟩ := nm_some h
      have qS13 : Fc S S13 := by rw [e14]; exact Fc_sI (by omega)
      obtain ⟨b15, h⟩ := bnd_some h
      obtain ⟨b16, h⟩ := bnd_some h
      obtain ⟨S17, e18, h⟩ := nm_some h
      have qS17 : Fc S13 S17 := by rw [e18]; exact Fc_sI (by omega)
      obtain ⟨b19, h⟩ := bnd_some h
      obtain ⟨S20, e21, h⟩ := nm_some h
      have qS20 : Fc S17 S20 := by rw [e21]; exact Fc_sI (by omega)
      obtain ⟨v22, e23, h⟩ := nm_some h
      exact qS13.tr (qS17.tr (qS20.tr ((ih v22 S20 h))))
theorem fc_X1_open {S S' : Mm} {r : Unit} {o : Nat} {a1 : Nat} (ho : KK o = 1) (h : f_X1_open S o a1 = some (r, S')) : Fc S S' := by
  have go := Klt1 ho
  unfold f_X1_open at h
  exact (fc_X1_open_2 ho 400 0 S h)
theorem fc_X1_placeOf_2 {r : Int32} {S' : Mm} {o : Nat}   : ∀ (n : Nat) (x1 : Int32) (x2 : Int32) (x3 : Int32) (S : Mm), f_X1_placeOf_2 o n x1 x2 x3 S = some (r, S') → Fc S S' := by
  intro n
  induction n with
  | zero => intro x1 x2 x3 S h; cases h
  | succ n ih =>
    intro x1 x2 x3 S h
    rw [f_X1_placeOf_2] at h
    by_cases c1 : x2 ≤ x3
    · have h := ifT c1 h
      obtain ⟨rfl, rfl⟩ := sm_inj h
      exact Fc.rf
    · have h := ifF c1 h
      obtain ⟨b2, h⟩ := bnd_some h
      by_cases c3 : (gI S (o + 1) x3.toNatClampNeg) = x1
      · have h := ifT c3 h
        obtain ⟨rfl, rfl⟩ := sm_inj h
        exact Fc.rf
      · have h := ifF c3 h
        obtain ⟨v4, e5, h⟩ := nm_some h
        exact (ih x1 x2 v4 S h)
theorem fc_X1_placeOf {S S' : Mm} {r : Int32} {o : Nat} {x1 : Int32} {x2 : Int32}  (h : f_X1_placeOf S o x1 x2 = some (r, S')) : Fc S S' := by
  unfold f_X1_placeOf at h
  exact (fc_X1_placeOf_2 400 x1 x2 0 S h)
theorem fc_X2_draw {S S' : Mm} {r : Int32} {x0 : Int32} {x1 : Int32}  (h : f_X2_draw S x0 x1 = some (r, S')) : Fc S S' := by
  unfold f_X2_draw at h
  obtain ⟨v1, e2, h⟩ := nm_some h
  obtain ⟨rfl, rfl⟩ := sm_inj h
  exact Fc.rf
theorem fc_X2_go_93 {r : Unit} {S' : Mm} {a1 : Nat} {a2 : Nat}  {kk18 : Int32 → Int32 → Int32 → Mm → Option (Unit × Mm)} (hk18 : ∀ (x3 : Int32) (x4 : Int32) (x5 : Int32) (S : Mm), kk18 x3 x4 x5 S = some (r, S') → Fc S S') : ∀ (x3 : Int32) (x4 : Int32) (x5 : Int32) (x6 : Int32) (S : Mm), f_X2_go_93 kk18 a1 a2 x3 x4 x5 x6 S = some (r, S') → Fc S S' := by
  intro x3 x4 x5 x6 S h
  unfold f_X2_go_93 at h
  by_cases c1 : ((x3 >>> (x6 &&& 31)) &&& 1) = 1
  · have h := ifT c1 h
    obtain ⟨b4, h⟩ := bnd_some h
    obtain ⟨S5, e6, h⟩ := nm_some h
    have qS5 : Fc S S5 := by rw [e6]; exact Fc_sI (by decide)
    by_cases c7 : (gI S5 157 1) = 0
    · have h := ifT c7 h
      obtain ⟨v8, e9, h⟩ := nm_some h
      exact qS5.tr ((hk18 x3 x4 v8 S5 h))
    · have h := ifF c7 h
      obtain ⟨r10, S11, h12, h⟩ := bd_some h
      have qS11 : Fc S5 S11 := fc_X2_draw  h12
      obtain ⟨b13, h⟩ := bnd_some h
      by_cases c14 : r10 < (gI S11 (a1 + 4) x6.toNatClampNeg)
      · have h := ifT c14 h
        obtain ⟨v15, e16, h⟩ := nm_some h
        exact qS5.tr (qS11.tr ((hk18 x3 x4 v15 S11 h)))
      · have h := ifF c14 h
        obtain ⟨S17, e18, h⟩ := nm_some h
        have qS17 : Fc S11 S17 := by rw [e18]; exact Fc_sI (by decide)
        obtain ⟨v19, e20, h⟩ := nm_some h
        exact qS5.tr (qS11.tr (qS17.tr ((hk18 x3 x4 v19 S17 h))))
  · have h := ifF c1 h
    obtain ⟨v2, e3, h⟩ := nm_some h
    exact (hk18 x3 x4 v2 S h)
theorem fc_X2_go_18 {r : Unit} {S' : Mm} {a1 : Nat} {a2 : Nat}   : ∀ (n : Nat) (x3 : Int32) (x4 : Int32) (x5 : Int32) (S : Mm), f_X2_go_18 a1 a2 n x3 x4 x5 S = some (r, S') → Fc S S' := by
  intro n
  induction n with
  | zero => intro x3 x4 x5 S h; cases h
  | succ n ih =>
    intro x3 x4 x5 S h
    rw [f_X2_go_18] at h
    by_cases c1 : (gI S a1 0) ≤ x5
    · have h := ifT c1 h
      obtain ⟨rfl, rfl⟩ := sm_inj h
      exact Fc.rf
    · have h := ifF c1 h
      by_cases c2 : (gI S 157 2) = (-1)
      · have h := ifT c2 h
        obtain ⟨b3, h⟩ := bnd_some h
        obtain ⟨v4, e5, h⟩ := nm_some h
        obtain ⟨b6, h⟩ := bnd_some h
        obtain ⟨S7, e8, h⟩ := nm_some h
        have qS7 : Fc S S7 := by rw [e8]; exact Fc_sI (by decide)
        by_cases c9 : (gI S7 157 1) = 0
        · have h := ifT c9 h
          obtain ⟨r12, S13, h14, h⟩ := bd_some h
          have qS13 : Fc S7 S13 := fc_X2_draw  h14
          obtain ⟨b15, h⟩ := bnd_some h
          by_cases c16 : (gI S13 (a2 + 2) v4.toNatClampNeg) ≤ r12
          · have h := ifT c16 h
            obtain ⟨S17, e18, h⟩ := nm_some h
            have qS17 : Fc S13 S17 := by rw [e18]; exact Fc_sI (by decide)
            exact qS7.tr (qS13.tr (qS17.tr ((fc_X2_go_93 ih x3 x4 x5 v4 S17 h))))
          · have h := ifF c16 h
            obtain ⟨S19, e20, h⟩ := nm_some h
            have qS19 : Fc S13 S19 := by rw [e20]; exact Fc_sI (by decide)
            exact qS7.tr (qS13.tr (qS19.tr ((fc_X2_go_93 ih x3 x4 x5 v4 S19 h))))
        · have h := ifF c9 h
          obtain ⟨S10, e11, h⟩ := nm_some h
          have qS10 : Fc S7 S10 := by rw [e11]; exact Fc_sI (by decide)
          exact qS7.tr (qS10.tr ((fc_X2_go_93 ih x3 x4 x5 v4 S10 h)))
      · have h := ifF c2 h
        obtain ⟨rfl, rfl⟩ := sm_inj h
        exact Fc.rf
theorem fc_X2_go {S S' : Mm} {r : Unit} {a1 : Nat} {a2 : Nat} {x3 : Int32} {x4 : Int32}  (h : f_X2_go S a1 a2 x3 x4 = some (r, S')) : Fc S S' := by
  unfold f_X2_go at h
  obtain ⟨S1, e2, h⟩ := nm_some h
  have qS1 : Fc S S1 := by rw [e2]; exact Fc_sI (by decide)
  obtain ⟨S3, e4, h⟩ := nm_some h
  have qS3 : Fc S1 S3 := by rw [e4]; exact Fc_sI (by decide)
  obtain ⟨S5, e6, h⟩ := nm_some h
  have qS5 : Fc S3 S5 := by rw [e6]; exact Fc_sI (by decide)
  exact qS1.tr (qS3.tr (qS5.tr ((fc_X2_go_18 400 x3 x4 0 S5 h))))
theorem fc_X3_become_13 {r : Unit} {S' : Mm} {o : Nat} {a1 : Nat} (ho : KK o = 3)  : ∀ (n : Nat) (x2 : Int32) (S : Mm), f_X3_become_13 o a1 n x2 S = some (r, S') → Fc S S' := by
  have go := Klt3 ho
  intro n
  induction n with
  | zero => intro x2 S h; cases h
  | succ n ih =>
    intro x2 S h
    rw [f_X3_become_13] at h
    by_cases c1 : 10 ≤ x2
    · have h := ifT c1 h
      obtain ⟨S2, e3, h⟩ := nm_some h
      have qS2 : Fc S S2 := by rw [e3]; exact Fc_sI (by omega)
      obtain ⟨S4, e5, h⟩ := nm_some h
      have qS4 : Fc S2 S4 := by rw [e5]; exact Fc_sI (by omega)
      obtain ⟨rfl, rfl⟩ := sm_inj h
      exact qS2.tr (qS4)
    · have h := ifF c1 h
      obtain ⟨b6, h⟩ := bnd_some h
      have kq7 := kel_M (kf_3_earlier ho) b6
      obtain ⟨b8, h⟩ := bnd_some h
      obtain ⟨r10, S11, h12, h⟩ := bd_some h
      have qS11 : Fc S S11 := fc_X1_become kq7 h12
      obtain ⟨v13, e14, h⟩ := nm_some h
      exact qS11.tr ((ih v13 S11 h))
theorem fc_X3_become {S S' : Mm} {r : Unit} {o : Nat} {a1 : Nat} (ho : KK o = 3) (h : f_X3_become S o a1 = some (r, S')) : Fc S S' := by
  have go := Klt3 ho
  unfold f_X3_become at h
  obtain ⟨r1, S2, h3, h⟩ := bd_some h
  have qS2 : Fc S S2 := fc_X1_become (kf_3_present ho) h3
  exact qS2.tr ((fc_X3_become_13 ho 400 0 S2 h))
theorem fc_X3_open {S S' : Mm} {r : Unit} {o : Nat} {a1 : Nat} (ho : KK o = 3) (h : f_X3_open S o a1 = some (r, S')) : Fc S S' := by
  have go := Klt3 ho
  unfold f_X3_open at h
  obtain ⟨r1, S2, h3, h⟩ := bd_some h
  have qS2 : Fc S S2 := fc_X1_open (kf_3_present ho) h3
  obtain ⟨S4, e5, h⟩ := nm_some h
  have qS4 : Fc S2 S4 := by rw [e5]; exact Fc_sI (by omega)
  obtain ⟨S6, e7, h⟩ := nm_some h
  have qS6 : Fc S4 S6 := by rw [e7]; exact Fc_sI (by omega)
  obtain ⟨rfl, rfl⟩ := sm_inj h
  exact qS2.tr (qS4.tr (qS6))
theorem fc_X3_remember {S S' : Mm} {r : Unit} {o : Nat} (ho : KK o = 3) (h : f_X3_remember S o = some (r, S')) : Fc S S' := by
  have go := Klt3 ho
  unfold f_X3_remember at h
  obtain ⟨b1, h⟩ := bnd_some h
  have kq2 := kel_M (kf_3_earlier ho) b1
  obtain ⟨r3, S4, h5, h⟩ := bd_some h
  have qS4 : Fc S S4 := fc_X1_become kq2 h5
  obtain ⟨S6, e7, h⟩ := nm_some h
  have qS6 : Fc S4 S6 := by rw [e7]; exact Fc_sI (by omega)
  obtain ⟨S8, e9, h⟩ := nm_some h
  have qS8 : Fc S6 S8 := by rw [e9]; exact Fc_sI (by omega)
  obtain ⟨rfl, rfl⟩ := sm_inj h
  exact qS4.tr (qS6.tr (qS8))
theorem fc_X3_restore {S S' : Mm} {r : Int32} {o : Nat} (ho : KK o = 3) (h : f_X3_restore S o = some (r, S')) : Fc S S' := by
  have go := Klt3 ho
  unfold f_X3_restore at h
  by_cases c1 : (gI S o 3) = 0
  · have h := ifT c1 h
    obtain ⟨rfl, rfl⟩ := sm_inj h
    exact Fc.rf
  · have h := ifF c1 h
    obtain ⟨S2, e3, h⟩ := nm_some h
    have qS2 : Fc S S2 := by rw [e3]; exact Fc_sI (by omega)
    obtain ⟨b4, h⟩ := bnd_some h
    have kq5 := kel_M (kf_3_earlier ho) b4
    obtain ⟨r6, S7, h8, h⟩ := bd_some h
    have qS7 : Fc S2 S7 := fc_X1_become (kf_3_present ho) h8
    obtain ⟨S9, e10, h⟩ := nm_some h
    have qS9 : Fc S7 S9 := by rw [e10]; exact Fc_sI (by omega)
    obtain ⟨rfl, rfl⟩ := sm_inj h
    exact qS2.tr (qS7.tr (qS9))
theorem fc_X4_allows_4 {r : Int32} {S' : Mm} {o : Nat} {a1 : Nat}   : ∀ (n : Nat) (x2 : Int32) (x3 : Int32) (S : Mm), f_X4_allows_4 o a1 n x2 x3 S = some (r, S') → Fc S S' := by
  intro n
  induction n with
  | zero => intro x2 x3 S h; cases h
  | succ n ih =>
    intro x2 x3 S h
    rw [f_X4_allows_4] at h
    by_cases c1 : (gI S o 0) ≤ x3
    · have h := ifT c1 h
      obtain ⟨rfl, rfl⟩ := sm_inj h
      exact Fc.rf
    · have h := ifF c1 h
      obtain ⟨b2, h⟩ := bnd_some h
      obtain ⟨b3, h⟩ := bnd_some h
      by_cases c4 : ((gI S (o + 5) (gI S a1 x3.toNatClampNeg).toNatClampNeg) &&& x2) = 0
      · have h := ifT c4 h
        obtain ⟨b5, h⟩ := bnd_some h
        obtain ⟨v6, e7, h⟩ := nm_some h
        obtain ⟨v8, e9, h⟩ := nm_some h
        exact (ih v6 v8 S h)
      · have h := ifF c4 h
        obtain ⟨rfl, rfl⟩ := sm_inj h
        exact Fc.rf
theorem fc_X4_allows {S S' : Mm} {r : Int32} {o : Nat} {a1 : Nat}  (h : f_X4_allows S o a1 = some (r, S')) : Fc S S' := by
  unfold f_X4_allows at h
  exact (fc_X4_allows_4 400 0 0 S h)
theorem fc_X4_empty {S S' : Mm} {r : Unit} {o : Nat} (ho : KK o = 4) (h : f_X4_empty S o = some (r, S')) : Fc S S' := by
  have go := Klt4 ho
  unfold f_X4_empty at h
  obtain ⟨S1, e2, h⟩ := nm_some h
  have qS1 : Fc S S1 := by rw [e2]; exact Fc_sI (by omega)
  obtain ⟨S3, e4, h⟩ := nm_some h
  have qS3 : Fc S1 S3 := by rw [e4]; exact Fc_sI (by omega)
  obtain ⟨rfl, rfl⟩ := sm_inj h
  exact qS1.tr (qS3)
theorem fc_X4_mustLead {S S' : Mm} {r : Int32} {o : Nat} {x1 : Int32} {x2 : Int32}  (h : f_X4_mustLead S o x1 x2 = some (r, S')) : Fc S S' := by
  unfold f_X4_mustLead at h
  obtain ⟨b1, h⟩ := bnd_some h
  by_cases c2 : (((gI S (o + 5) x1.toNatClampNeg) >>> (x2 &&& 31)) &&& 1) = 1
  · have h := ifT c2 h
    obtain ⟨rfl, rfl⟩ := sm_inj h
    exact Fc.rf
  · have h := ifF c2 h
    obtain ⟨rfl, rfl⟩ := sm_inj h
    exact Fc.rf
theorem fc_X5_add {S S' : Mm} {r : Int32} {x1 : Int32}  (h : f_X5_add S x1 = some (r, S')) : Fc S S' := by
  unfold f_X5_add at h
  by_cases c1 : (gI S 1 1) < 150
  · have h := ifT c1 h
    obtain ⟨b2, h⟩ := bnd_some h
    obtain ⟨S3, e4, h⟩ := nm_some h
    have qS3 : Fc S S3 := by rw [e4]; exact Fc_sI (by decide)
    obtain ⟨S5, e6, h⟩ := nm_some h
    have qS5 : Fc S3 S5 := by rw [e6]; exact Fc_sI (by decide)
    obtain ⟨rfl, rfl⟩ := sm_inj h
    exact qS3.tr (qS5)
  · have h := ifF c1 h
    obtain ⟨rfl, rfl⟩ := sm_inj h
    exact Fc.rf
theorem fc_X5_isDigit {S S' : Mm} {r : Int32} {x0 : Int32}  (h : f_X5_isDigit S x0 = some (r, S')) : Fc S S' := by
  unfold f_X5_isDigit at h
  by_cases c1 : x0 < 48
  · have h := ifT c1 h
    obtain ⟨rfl, rfl⟩ := sm_inj h
    exact Fc.rf
  · have h := ifF c1 h
    by_cases c2 : 57 < x0
    · have h := ifT c2 h
      obtain ⟨rfl, rfl⟩ := sm_inj h
      exact Fc.rf
    · have h := ifF c2 h
      obtain ⟨rfl, rfl⟩ := sm_inj h
      exact Fc.rf
theorem fc_X5_isLetter {S S' : Mm} {r : Int32} {x0 : Int32}  (h : f_X5_isLetter S x0 = some (r, S')) : Fc S S' := by
  unfold f_X5_isLetter at h
  by_cases c1 : x0 < 97
  · have h := ifT c1 h
    obtain ⟨rfl, rfl⟩ := sm_inj h
    exact Fc.rf
  · have h := ifF c1 h
    by_cases c2 : 122 < x0
    · have h := ifT c2 h
      obtain ⟨rfl, rfl⟩ := sm_inj h
      exact Fc.rf
    · have h := ifF c2 h
      obtain ⟨rfl, rfl⟩ := sm_inj h
      exact Fc.rf
theorem fc_X5_takeLetters_28 {r : Unit} {S' : Mm}    : ∀ (n : Nat) (S : Mm), f_X5_takeLetters_28 n S = some (r, S') → Fc S S' := by
  intro n
  induction n with
  | zero => intro S h; cases h
  | succ n ih =>
    intro S h
    rw [f_X5_takeLetters_28] at h
    by_cases c1 : (gI S 1 1) ≤ (gI S 1 3)
    · have h := ifT c1 h
      obtain ⟨rfl, rfl⟩ := sm_inj h
      exact Fc.rf
    · have h := ifF c1 h
      obtain ⟨b2, h⟩ := bnd_some h
      obtain ⟨r3, S4, h5, h⟩ := bd_some h
      have qS4 : Fc S S4 := fc_X5_isLetter  h5
      by_cases c6 : r3 = 0
      · have h := ifT c6 h
        obtain ⟨rfl, rfl⟩ := sm_inj h
        exact qS4
      · have h := ifF c6 h
        obtain ⟨S7, e8, h⟩ := nm_some h
        have qS7 : Fc S4 S7 := by rw [e8]; exact Fc_sI (by decide)
        obtain ⟨S9, e10, h⟩ := nm_some h
        have qS9 : Fc S7 S9 := by rw [e10]; exact Fc_sI (by decide)
        exact qS4.tr (qS7.tr (qS9.tr ((ih S9 h))))
theorem fc_X5_takeLetters {S S' : Mm} {r : Unit}   (h : f_X5_takeLetters S = some (r, S')) : Fc S S' := by
  unfold f_X5_takeLetters at h
  obtain ⟨S1, e2, h⟩ := nm_some h
  have qS1 : Fc S S1 := by rw [e2]; exact Fc_sI (by decide)
  obtain ⟨b3, h⟩ := bnd_some h
  obtain ⟨S4, e5, h⟩ := nm_some h
  have qS4 : Fc S1 S4 := by rw [e5]; exact Fc_sI (by decide)
  obtain ⟨S6, e7, h⟩ := nm_some h
  have qS6 : Fc S4 S6 := by rw [e7]; exact Fc_sI (by decide)
  exact qS1.tr (qS4.tr (qS6.tr ((fc_X5_takeLetters_28 400 S6 h))))
theorem fc_X5_takeNumber_116 {r : Unit} {S' : Mm}    : ∀ (x1 : Int32) (x2 : Int32) (S : Mm), f_X5_takeNumber_116 x1 x2 S = some (r, S') → Fc S S' := by
  intro x1 x2 S h
  unfold f_X5_takeNumber_116 at h
  by_cases c1 : 99 < (gI S 1 5)
  · have h := ifT c1 h
    obtain ⟨S2, e3, h⟩ := nm_some h
    have qS2 : Fc S S2 := by rw [e3]; exact Fc_sI (by decide)
    obtain ⟨rfl, rfl⟩ := sm_inj h
    exact qS2
  · have h := ifF c1 h
    by_cases c4 : x1 = 0
    · have h := ifT c4 h
      obtain ⟨S5, e6, h⟩ := nm_some h
      have qS5 : Fc S S5 := by rw [e6]; exact Fc_sI (by decide)
      obtain ⟨rfl, rfl⟩ := sm_inj h
      exact qS5
    · have h := ifF c4 h
      by_cases c7 : x2 = 0
      · have h := ifT c7 h
        obtain ⟨S8, e9, h⟩ := nm_some h
        have qS8 : Fc S S8 := by rw [e9]; exact Fc_sI (by decide)
        obtain ⟨rfl, rfl⟩ := sm_inj h
        exact qS8
      · have h := ifF c7 h
        obtain ⟨S10, e11, h⟩ := nm_some h
        have qS10 : Fc S S10 := by rw [e11]; exact Fc_sI (by decide)
        obtain ⟨rfl, rfl⟩ := sm_inj h
        exact qS10
theorem fc_X5_takeNumber_97 {r : Unit} {S' : Mm}    : ∀ (x1 : Int32) (S : Mm), f_X5_takeNumber_97 x1 S = some (r, S') → Fc S S' := by
  intro x1 S h
  unfold f_X5_takeNumber_97 at h
  by_cases c1 : ((gI S 1 3) - (gI S 1 2)) ≤ 1
  · have h := ifT c1 h
    exact (fc_X5_takeNumber_116 x1 0 S h)
  · have h := ifF c1 h
    exact (fc_X5_takeNumber_116 x1 1 S h)
theorem fc_X5_takeNumber_25 {r : Unit} {S' : Mm}    : ∀ (n : Nat) (x1 : Int32) (S : Mm), f_X5_takeNumber_25 n x1 S = some (r, S') → Fc S S' := by
  intro n
  induction n with
  | zero => intro x1 S h; cases h
  | succ n ih =>
    intro x1 S h
    rw [f_X5_takeNumber_25] at h
    by_cases c1 : (gI S 1 1) ≤ (gI S 1 3)
    · have h := ifT c1 h
      exact (fc_X5_takeNumber_97 x1 S h)
    · have h := ifF c1 h
      obtain ⟨b2, h⟩ := bnd_some h
      obtain ⟨r3, S4, h5, h⟩ := bd_some h
      have qS4 : Fc S S4 := fc_X5_isDigit  h5
      by_cases c6 : r3 = 0
      · have h := ifT c6 h
        exact qS4.tr ((fc_X5_takeNumber_97 x1 S4 h))
      · have h := ifF c6 h
        by_cases c7 : 99 < (gI S4 1 5)
        · have h := ifT c7 h
          obtain ⟨S8, e9, h⟩ := nm_some h
          have qS8 : Fc S4 S8 := by rw [e9]; exact Fc_sI (by decide)
          exact qS4.tr (qS8.tr ((ih x1 S8 h)))
        · have h := ifF c7 h
          obtain ⟨b10, h⟩ := bnd_some h
          obtain ⟨S11, e12, h⟩ := nm_some h
          have qS11 : Fc S4 S11 := by rw [e12]; exact Fc_sI (by decide)
          obtain ⟨S13, e14, h⟩ := nm_some h
          have qS13 : Fc S11 S13 := by rw [e14]; exact Fc_sI (by decide)
          exact qS4.tr (qS11.tr (qS13.tr ((ih x1 S13 h))))
theorem fc_X5_takeNumber {S S' : Mm} {r : Unit}   (h : f_X5_takeNumber S = some (r, S')) : Fc S S' := by
  unfold f_X5_takeNumber at h
  obtain ⟨b1, h⟩ := bnd_some h
  by_cases c2 : (gI S 2 (gI S 1 3).toNatClampNeg) = 48
  · have h := ifT c2 h
    obtain ⟨S5, e6, h⟩ := nm_some h
    have qS5 : Fc S S5 := by rw [e6]; exact Fc_sI (by decide)
    exact qS5.tr ((fc_X5_takeNumber_25 400 1 S5 h))
  · have h := ifF c2 h
    obtain ⟨S3, e4, h⟩ := nm_some h
    have qS3 : Fc S S3 := by rw [e4]; exact Fc_sI (by decide)
    exact qS3.tr ((fc_X5_takeNumber_25 400 0 S3 h))
theorem fc_X5_readToken_38 {r : Unit} {S' : Mm}    : ∀ (S : Mm), f_X5_readToken_38 S = some (r, S') → Fc S S' := by
  intro S h
  unfold f_X5_readToken_38 at h
  obtain ⟨S1, e2, h⟩ := nm_some h
  have qS1 : Fc S S1 := by rw [e2]; exact Fc_sI (by decide)
  by_cases c3 : (gI S1 1 3) < (gI S1 1 1)
  · have h := ifT c3 h
    obtain ⟨b4, h⟩ := bnd_some h
    obtain ⟨r5, S6, h7, h⟩ := bd_some h
    have qS6 : Fc S1 S6 := fc_X5_isLetter  h7
    by_cases c8 : r5 = 0
    · have h := ifT c8 h
      obtain ⟨b9, h⟩ := bnd_some h
      obtain ⟨r10, S11, h12, h⟩ := bd_some h
      have qS11 : Fc S6 S11 := fc_X5_isDigit  h12
      by_cases c13 : r10 = 0
      · have h := ifT c13 h
        obtain ⟨b14, h⟩ := bnd_some h
        by_cases c15 : (gI S11 2 (gI S11 1 3).toNatClampNeg) = 59
        · have h := ifT c15 h
          obtain ⟨S20, e21, h⟩ := nm_some h
          have qS20 : Fc S11 S20 := by rw [e21]; exact Fc_sI (by decide)
          obtain ⟨S22, e23, h⟩ := nm_some h
          have qS22 : Fc S20 S22 := by rw [e23]; exact Fc_sI (by decide)
          obtain ⟨rfl, rfl⟩ := sm_inj h
          exact qS1.tr (qS6.tr (qS11.tr (qS20.tr (qS22))))
        · have h := ifF c15 h
          obtain ⟨S16, e17, h⟩ := nm_some h
          have qS16 : Fc S11 S16 := by rw [e17]; exact Fc_sI (by decide)
          obtain ⟨S18, e19, h⟩ := nm_some h
          have qS18 : Fc S16 S18 := by rw [e19]; exact Fc_sI (by decide)
          obtain ⟨rfl, rfl⟩ := sm_inj h
          exact qS1.tr (qS6.tr (qS11.tr (qS16.tr (qS18))))
      · have h := ifF c13 h
        obtain ⟨r24, S25, h26, h⟩ := bd_some h
        have qS25 : Fc S11 S25 := fc_X5_takeNumber  h26
        obtain ⟨rfl, rfl⟩ := sm_inj h
        exact qS1.tr (qS6.tr (qS11.tr (qS25)))
    · have h := ifF c8 h
      obtain ⟨r27, S28, h29, h⟩ := bd_some h
      have qS28 : Fc S6 S28 := fc_X5_takeLetters  h29
      obtain ⟨rfl, rfl⟩ := sm_inj h
      exact qS1.tr (qS6.tr (qS28))
  · have h := ifF c3 h
    obtain ⟨S30, e31, h⟩ := nm_some h
    have qS30 : Fc S1 S30 := by rw [e31]; exact Fc_sI (by decide)
    obtain ⟨rfl, rfl⟩ := sm_inj h
    exact qS1.tr (qS30)
theorem fc_X5_readToken_0 {r : Unit} {S' : Mm}    : ∀ (n : Nat) (S : Mm), f_X5_readToken_0 n S = some (r, S') → Fc S S' := by
  intro n
  induction n with
  | zero => intro S h; cases h
  | succ n ih =>
    intro S h
    rw [f_X5_readToken_0] at h
    by_cases c1 : (gI S 1 1) ≤ (gI S 1 3)
    · have h := ifT c1 h
      exact (fc_X5_readToken_38 S h)
    · have h := ifF c1 h
      obtain ⟨b2, h⟩ := bnd_some h
      by_cases c3 : (gI S 2 (gI S 1 3).toNatClampNeg) = 32
      · have h := ifT c3 h
        obtain ⟨S4, e5, h⟩ := nm_some h
        have qS4 : Fc S S4 := by rw [e5]; exact Fc_sI (by decide)
        exact qS4.tr ((ih S4 h))
      · have h := ifF c3 h
        exact (fc_X5_readToken_38 S h)
theorem fc_X5_readToken {S S' : Mm} {r : Unit}   (h : f_X5_readToken S = some (r, S')) : Fc S S' := by
  unfold f_X5_readToken at h
  exact (fc_X5_readToken_0 400 S h)
theorem fc_X5_readNumber {S S' : Mm} {r : Int32} {x1 : Int32} {x2 : Int32}  (h : f_X5_readNumber S x1 x2 = some (r, S')) : Fc S S' := by
  unfold f_X5_readNumber at h
  obtain ⟨r1, S2, h3, h⟩ := bd_some h
  have qS2 : Fc S S2 := fc_X5_readToken  h3
  by_cases c4 : (gI S2 1 4) = 2
  · have h := ifT c4 h
    by_cases c5 : (gI S2 1 5) < x1
    · have h := ifT c5 h
      obtain ⟨rfl, rfl⟩ := sm_inj h
      exact qS2
    · have h := ifF c5 h
      by_cases c6 : x2 < (gI S2 1 5)
      · have h := ifT c6 h
        obtain ⟨rfl, rfl⟩ := sm_inj h
        exact qS2
      · have h := ifF c6 h
        obtain ⟨rfl, rfl⟩ := sm_inj h
        exact qS2
  · have h := ifF c4 h
    obtain ⟨rfl, rfl⟩ := sm_inj h
    exact qS2
theorem fc_X5_readAhead {S S' : Mm} {r : Int32} {a1 : Nat} (ha1 : KK a1 = 4) (h : f_X5_readAhead S a1 = some (r, S')) : Fc S S' := by
  have ga1 := Klt4 ha1
  unfold f_X5_readAhead at h
  obtain ⟨r1, S2, h3, h⟩ := bd_some h
  have qS2 : Fc S S2 := fc_X5_readNumber  h3
  by_cases c4 : r1 = 0
  · have h := ifT c4 h
    obtain ⟨rfl, rfl⟩ := sm_inj h
    exact qS2
  · have h := ifF c4 h
    obtain ⟨v5, e6, h⟩ := nm_some h
    obtain ⟨r7, S8, h9, h⟩ := bd_some h
    have qS8 : Fc S2 S8 := fc_X5_readNumber  h9
    by_cases c10 : r7 = 0
    · have h := ifT c10 h
      obtain ⟨rfl, rfl⟩ := sm_inj h
      exact qS2.tr (qS8)
    · have h := ifF c10 h
      obtain ⟨b11, h⟩ := bnd_some h
      obtain ⟨b12, h⟩ := bnd_some h
      obtain ⟨S13, e14, h⟩ := nm_some h
      have qS13 : Fc S8 S13 := by rw [e14]; exact Fc_sI (by omega)
      obtain ⟨rfl, rfl⟩ := sm_inj h
      exact qS2.tr (qS8.tr (qS13))
theorem fc_X5_readEnd {S S' : Mm} {r : Int32}   (h : f_X5_readEnd S = some (r, S')) : Fc S S' := by
  unfold f_X5_readEnd at h
  obtain ⟨r1, S2, h3, h⟩ := bd_some h
  have qS2 : Fc S S2 := fc_X5_readToken  h3
  by_cases c4 : (gI S2 1 4) = 3
  · have h := ifT c4 h
    obtain ⟨rfl, rfl⟩ := sm_inj h
    exact qS2
  · have h := ifF c4 h
    obtain ⟨rfl, rfl⟩ := sm_inj h
    exact qS2
theorem fc_X5_readStep {S S' : Mm} {r : Int32} {a1 : Nat} (ha1 : KK a1 = 4) (h : f_X5_readStep S a1 = some (r, S')) : Fc S S' := by
  have ga1 := Klt4 ha1
  unfold f_X5_readStep at h
  obtain ⟨v1, e2, h⟩ := nm_some h
  obtain ⟨r3, S4, h5, h⟩ := bd_some h
  have qS4 : Fc S S4 := fc_X5_readNumber  h5
  by_cases c6 : r3 = 0
  · have h := ifT c6 h
    obtain ⟨rfl, rfl⟩ := sm_inj h
    exact qS4
  · have h := ifF c6 h
    obtain ⟨b7, h⟩ := bnd_some h
    obtain ⟨S8, e9, h⟩ := nm_some h
    have qS8 : Fc S4 S8 := by rw [e9]; exact Fc_sI (by omega)
    obtain ⟨r10, S11, h12, h⟩ := bd_some h
    have qS11 : Fc S8 S11 := fc_X5_readNumber  h12
    by_cases c13 : r10 = 0
    · have h := ifT c13 h
      obtain ⟨rfl, rfl⟩ := sm_inj h
      exact qS4.tr (qS8.tr (qS11))
    · have h := ifF c13 h
      obtain ⟨b14, h⟩ := bnd_some h
      obtain ⟨S15, e16, h⟩ := nm_some h
      have qS15 : Fc S11 S15 := by rw [e16]; exact Fc_sI (by omega)
      obtain ⟨r17, S18, h19, h⟩ := bd_some h
      have qS18 : Fc S15 S18 := fc_X5_readNumber  h19
      by_cases c20 : r17 = 0
      · have h := ifT c20 h
        obtain ⟨rfl, rfl⟩ := sm_inj h
        exact qS4.tr (qS8.tr (qS11.tr (qS15.tr (qS18))))
      · have h := ifF c20 h
        obtain ⟨b21, h⟩ := bnd_some h
        obtain ⟨S22, e23, h⟩ := nm_some h
        have qS22 : Fc S18 S22 := by rw [e23]; exact Fc_sI (by omega)
        obtain ⟨r24, S25, h26, h⟩ := bd_some h
        have qS25 : Fc S22 S25 := fc_X5_readNumber  h26
        by_cases c27 : r24 = 0
        · have h := ifT c27 h
          obtain ⟨rfl, rfl⟩ := sm_inj h
          exact qS4.tr (qS8.tr (qS11.tr (qS15.tr (qS18.tr (qS22.tr (qS25))))))
        · have h := ifF c27 h
          obtain ⟨b28, h⟩ := bnd_some h
          obtain ⟨S29, e30, h⟩ := nm_some h
          have qS29 : Fc S25 S29 := by rw [e30]; exact Fc_sI (by omega)
          obtain ⟨b31, h⟩ := bnd_some h
          obtain ⟨S32, e33, h⟩ := nm_some h
          have qS32 : Fc S29 S32 := by rw [e33]; exact Fc_sI (by omega)
          obtain ⟨S34, e35, h⟩ := nm_some h
          have qS34 : Fc S32 S34 := by rw [e35]; exact Fc_sI (by omega)
          obtain ⟨rfl, rfl⟩ := sm_inj h
          exact qS4.tr (qS8.tr (qS11.tr (qS15.tr (qS18.tr (qS22.tr (qS25.tr (qS29.tr (qS32.tr (qS34)))))))))
theorem fc_X5_readPrice {S S' : Mm} {r : Int32} {a1 : Nat} (ha1 : KK a1 = 4) (h : f_X5_readPrice S a1 = some (r, S')) : Fc S S' := by
  have ga1 := Klt4 ha1
  unfold f_X5_readPrice at h
  obtain ⟨r1, S2, h3, h⟩ := bd_some h
  have qS2 : Fc S S2 := fc_X5_readNumber  h3
  by_cases c4 : r1 = 0
  · have h := ifT c4 h
    obtain ⟨rfl, rfl⟩ := sm_inj h
    exact qS2
  · have h := ifF c4 h
    obtain ⟨S5, e6, h⟩ := nm_some h
    have qS5 : Fc S2 S5 := by rw [e6]; exact Fc_sI (by omega)
    obtain ⟨S7, e8, h⟩ := nm_some h
    have qS7 : Fc S5 S7 := by rw [e8]; exact Fc_sI (by decide)
    obtain ⟨rfl, rfl⟩ := sm_inj h
    exact qS2.tr (qS5.tr (qS7))
theorem fc_X5_readInto_142 {r : Int32} {S' : Mm} {a1 : Nat} (ha1 : KK a1 = 4) {kk12 : Int32 → Mm → Option (Int32 × Mm)} (hk12 : ∀ (x2 : Int32) (S : Mm), kk12 x2 S = some (r, S') → Fc S S') : ∀ (x2 : Int32) (x3 : Int32) (S : Mm), f_X5_readInto_142 kk12 a1 x2 x3 S = some (r, S') → Fc S S' := by
  have ga1 := Klt4 ha1
  intro x2 x3 S h
  unfold f_X5_readInto_142 at h
  by_cases c1 : x3 = 0
  · have h := ifT c1 h
    obtain ⟨rfl, rfl⟩ := sm_inj h
    exact Fc.rf
  · have h := ifF c1 h
    obtain ⟨r2, S3, h4, h⟩ := bd_some h
    have qS3 : Fc S S3 := fc_X5_readEnd  h4
    by_cases c5 : r2 = 0
    · have h := ifT c5 h
      obtain ⟨rfl, rfl⟩ := sm_inj h
      exact qS3
    · have h := ifF c5 h
      obtain ⟨v6, e7, h⟩ := nm_some h
      exact qS3.tr ((hk12 v6 S3 h))
theorem fc_X5_readInto_106 {r : Int32} {S' : Mm} {a1 : Nat} (ha1 : KK a1 = 4) {kk12 : Int32 → Mm → Option (Int32 × Mm)} (hk12 : ∀ (x2 : Int32) (S : Mm), kk12 x2 S = some (r, S') → Fc S S') : ∀ (x2 : Int32) (x3 : Int32) (S : Mm), f_X5_readInto_106 kk12 a1 x2 x3 S = some (r, S') → Fc S S' := by
  have ga1 := Klt4 ha1
  intro x2 x3 S h
  unfold f_X5_readInto_106 at h
  exact (fc_X5_readInto_142 ha1 hk12 x2 x3 S h)
theorem fc_X5_readInto_104 {r : Int32} {S' : Mm} {a1 : Nat} (ha1 : KK a1 = 4) {kk12 : Int32 → Mm → Option (Int32 × Mm)} (hk12 : ∀ (x2 : Int32) (S : Mm), kk12 x2 S = some (r, S') → Fc S S') : ∀ (x2 : Int32) (S : Mm), f_X5_readInto_104 kk12 a1 x2 S = some (r, S') → Fc S S' := by
  have ga1 := Klt4 ha1
  intro x2 S h
  unfold f_X5_readInto_104 at h
  exact (fc_X5_readInto_106 ha1 hk12 x2 0 S h)
theorem fc_X5_readInto_139 {r : Int32} {S' : Mm} {a1 : Nat} (ha1 : KK a1 = 4) {kk12 : Int32 → Mm → Option (Int32 × Mm)} (hk12 : ∀ (x2 : Int32) (S : Mm), kk12 x2 S = some (r, S') → Fc S S') : ∀ (x2 : Int32) (x3 : Int32) (S : Mm), f_X5_readInto_139 kk12 a1 x2 x3 S = some (r, S') → Fc S S' := by
  have ga1 := Klt4 ha1
  intro x2 x3 S h
  unfold f_X5_readInto_139 at h
  exact (fc_X5_readInto_142 ha1 hk12 x2 x3 S h)
theorem fc_X5_readInto_137 {r : Int32} {S' : Mm} {a1 : Nat} (ha1 : KK a1 = 4) {kk12 : Int32 → Mm → Option (Int32 × Mm)} (hk12 : ∀ (x2 : Int32) (S : Mm), kk12 x2 S = some (r, S') → Fc S S') : ∀ (x2 : Int32) (S : Mm), f_X5_readInto_137 kk12 a1 x2 S = some (r, S') → Fc S S' := by
  have ga1 := Klt4 ha1
  intro x2 S h
  unfold f_X5_readInto_137 at h
  exact (fc_X5_readInto_139 ha1 hk12 x2 0 S h)
theorem fc_X5_readInto_12 {r : Int32} {S' : Mm} {a1 : Nat} (ha1 : KK a1 = 4)  : ∀ (n : Nat) (x2 : Int32) (S : Mm), f_X5_readInto_12 a1 n x2 S = some (r, S') → Fc S S' := by
  have ga1 := Klt4 ha1
  intro n
  induction n with
  | zero => intro x2 S h; cases h
  | succ n ih =>
    intro x2 S h
    rw [f_X5_readInto_12] at h
    by_cases c1 : 150 < x2
    · have h := ifT c1 h
      obtain ⟨rfl, rfl⟩ := sm_inj h
      exact Fc.rf
    · have h := ifF c1 h
      obtain ⟨r2, S3, h4, h⟩ := bd_some h
      have qS3 : Fc S S3 := fc_X5_readToken  h4
      by_cases c5 : (gI S3 1 4) = 0
      · have h := ifT c5 h
        obtain ⟨rfl, rfl⟩ := sm_inj h
        exact qS3
      · have h := ifF c5 h
        by_cases c6 : (gI S3 1 4) = 1
        · have h := ifT c6 h
          by_cases c7 : (gI S3 1 5) = 104
          · have h := ifT c7 h
            obtain ⟨r8, S9, h10, h⟩ := bd_some h
            have qS9 : Fc S3 S9 := fc_X5_readAhead ha1 h10
            exact qS3.tr (qS9.tr ((fc_X5_readInto_142 ha1 ih x2 r8 S9 h)))
          · have h := ifF c7 h
            by_cases c11 : (gI S3 1 5) = 112
            · have h := ifT c11 h
              by_cases c12 : (gI S3 1 6) = 0
              · have h := ifT c12 h
                obtain ⟨r13, S14, h15, h⟩ := bd_some h
                have qS14 : Fc S3 S14 := fc_X5_readPrice ha1 h15
                by_cases c16 : r13 = 0
                · have h := ifT c16 h
                  exact qS3.tr (qS14.tr ((fc_X5_readInto_137 ha1 ih x2 S14 h)))
                · have h := ifF c16 h
                  exact qS3.tr (qS14.tr ((fc_X5_readInto_139 ha1 ih x2 1 S14 h)))
              · have h := ifF c12 h
                exact qS3.tr ((fc_X5_readInto_137 ha1 ih x2 S3 h))
            · have h := ifF c11 h
              by_cases c17 : (gI S3 1 5) = 115
              · have h := ifT c17 h
                by_cases c18 : 5 ≤ (gI S3 a1 0)
                · have h := ifT c18 h
                  exact qS3.tr ((fc_X5_readInto_104 ha1 ih x2 S3 h))
                · have h := ifF c18 h
                  obtain ⟨r19, S20, h21, h⟩ := bd_some h
                  have qS20 : Fc S3 S20 := fc_X5_readStep ha1 h21
                  by_cases c22 : r19 = 0
                  · have h := ifT c22 h
                    exact qS3.tr (qS20.tr ((fc_X5_readInto_104 ha1 ih x2 S20 h)))
                  · have h := ifF c22 h
                    exact qS3.tr (qS20.tr ((fc_X5_readInto_106 ha1 ih x2 1 S20 h)))
              · have h := ifF c17 h
                exact qS3.tr ((fc_X5_readInto_142 ha1 ih x2 0 S3 h))
        · have h := ifF c6 h
          exact qS3.tr ((fc_X5_readInto_142 ha1 ih x2 0 S3 h))
theorem fc_X5_readInto {S S' : Mm} {r : Int32} {a1 : Nat} (ha1 : KK a1 = 4) (h : f_X5_readInto S a1 = some (r, S')) : Fc S S' := by
  have ga1 := Klt4 ha1
  unfold f_X5_readInto at h
  obtain ⟨S1, e2, h⟩ := nm_some h
  have qS1 : Fc S S1 := by rw [e2]; exact Fc_sI (by decide)
  obtain ⟨S3, e4, h⟩ := nm_some h
  have qS3 : Fc S1 S3 := by rw [e4]; exact Fc_sI (by decide)
  exact qS1.tr (qS3.tr ((fc_X5_readInto_12 ha1 400 0 S3 h)))
theorem fc_X6_swap {S S' : Mm} {r : Unit} {x1 : Int32} {x2 : Int32}  (h : f_X6_swap S 161 x1 x2 = some (r, S')) : Fc S S' := by
  unfold f_X6_swap at h
  obtain ⟨b1, h⟩ := bnd_some h
  obtain ⟨v2, e3, h⟩ := nm_some h
  obtain ⟨b4, h⟩ := bnd_some h
  obtain ⟨b5, h⟩ := bnd_some h
  obtain ⟨S6, e7, h⟩ := nm_some h
  have qS6 : Fc S S6 := by rw [e7]; exact Fc_sI (by decide)
  obtain ⟨b8, h⟩ := bnd_some h
  obtain ⟨S9, e10, h⟩ := nm_some h
  have qS9 : Fc S6 S9 := by rw [e10]; exact Fc_sI (by decide)
  obtain ⟨rfl, rfl⟩ := sm_inj h
  exact qS6.tr (qS9)
theorem fc_X6_advance_71 {r : Int32} {S' : Mm}    : ∀ (n : Nat) (x4 : Int32) (x5 : Int32) (S : Mm), f_X6_advance_71 161 n x4 x5 S = some (r, S') → Fc S S' := by
  intro n
  induction n with
  | zero => intro x4 x5 S h; cases h
  | succ n ih =>
    intro x4 x5 S h
    rw [f_X6_advance_71] at h
    by_cases c1 : x5 ≤ x4
    · have h := ifT c1 h
      obtain ⟨rfl, rfl⟩ := sm_inj h
      exact Fc.rf
    · have h := ifF c1 h
      obtain ⟨r2, S3, h4, h⟩ := bd_some h
      have qS3 : Fc S S3 := fc_X6_swap  h4
      obtain ⟨v5, e6, h⟩ := nm_some h
      obtain ⟨v7, e8, h⟩ := nm_some h
      exact qS3.tr ((ih v5 v7 S3 h))
theorem fc_X6_advance_55 {r : Int32} {S' : Mm}    : ∀ (x1 : Int32) (x2 : Int32) (x3 : Int32) (S : Mm), f_X6_advance_55 161 x1 x2 x3 S = some (r, S') → Fc S S' := by
  intro x1 x2 x3 S h
  unfold f_X6_advance_55 at h
  obtain ⟨r1, S2, h3, h⟩ := bd_some h
  have qS2 : Fc S S2 := fc_X6_swap  h3
  obtain ⟨v4, e5, h⟩ := nm_some h
  obtain ⟨v6, e7, h⟩ := nm_some h
  exact qS2.tr ((fc_X6_advance_71 400 v4 v6 S2 h))
theorem fc_X6_advance_35 {r : Int32} {S' : Mm}    : ∀ (n : Nat) (x1 : Int32) (x2 : Int32) (x3 : Int32) (S : Mm), f_X6_advance_35 161 n x1 x2 x3 S = some (r, S') → Fc S S' := by
  intro n
  induction n with
  | zero => intro x1 x2 x3 S h; cases h
  | succ n ih =>
    intro x1 x2 x3 S h
    rw [f_X6_advance_35] at h
    by_cases c1 : x3 ≤ x2
    · have h := ifT c1 h
      exact (fc_X6_advance_55 x1 x2 x3 S h)
    · have h := ifF c1 h
      obtain ⟨b2, h⟩ := bnd_some h
      obtain ⟨b3, h⟩ := bnd_some h
      by_cases c4 : (gI S 161 x2.toNatClampNeg) ≤ (gI S 161 x3.toNatClampNeg)
      · have h := ifT c4 h
        exact (fc_X6_advance_55 x1 x2 x3 S h)
      · have h := ifF c4 h
        obtain ⟨v5, e6, h⟩ := nm_some h
        exact (ih x1 x2 v5 S h)
theorem fc_X6_advance_25 {r : Int32} {S' : Mm}    : ∀ (x1 : Int32) (x2 : Int32) (S : Mm), f_X6_advance_25 161 x1 x2 S = some (r, S') → Fc S S' := by
  intro x1 x2 S h
  unfold f_X6_advance_25 at h
  by_cases c1 : 0 ≤ x2
  · have h := ifT c1 h
    obtain ⟨v2, e3, h⟩ := nm_some h
    exact (fc_X6_advance_35 400 x1 x2 v2 S h)
  · have h := ifF c1 h
    obtain ⟨rfl, rfl⟩ := sm_inj h
    exact Fc.rf
theorem fc_X6_advance_4 {r : Int32} {S' : Mm}    : ∀ (n : Nat) (x1 : Int32) (x2 : Int32) (S : Mm), f_X6_advance_4 161 n x1 x2 S = some (r, S') → Fc S S' := by
  intro n
  induction n with
  | zero => intro x1 x2 S h; cases h
  | succ n ih =>
    intro x1 x2 S h
    rw [f_X6_advance_4] at h
    by_cases c1 : x2 < 0
    · have h := ifT c1 h
      exact (fc_X6_advance_25 x1 x2 S h)
    · have h := ifF c1 h
      obtain ⟨b2, h⟩ := bnd_some h
      obtain ⟨b3, h⟩ := bnd_some h
      by_cases c4 : (gI S 161 x2.toNatClampNeg) ≤ (gI S 161 (x2 + 1).toNatClampNeg)
      · have h := ifT c4 h
        exact (fc_X6_advance_25 x1 x2 S h)
      · have h := ifF c4 h
        obtain ⟨v5, e6, h⟩ := nm_some h
        exact (ih x1 v5 S h)
theorem fc_X6_advance {S S' : Mm} {r : Int32} {x1 : Int32}  (h : f_X6_advance S 161 x1 = some (r, S')) : Fc S S' := by
  unfold f_X6_advance at h
  obtain ⟨v1, e2, h⟩ := nm_some h
  exact (fc_X6_advance_4 400 x1 v1 S h)
theorem fc_X6_isImage {S S' : Mm} {r : Int32} {x0 : Int32}  (h : f_X6_isImage S x0 = some (r, S')) : Fc S S' := by
  unfold f_X6_isImage at h
  by_cases c1 : x0 < 0
  · have h := ifT c1 h
    obtain ⟨rfl, rfl⟩ := sm_inj h
    exact Fc.rf
  · have h := ifF c1 h
    by_cases c2 : 2 ≤ x0
    · have h := ifT c2 h
      obtain ⟨rfl, rfl⟩ := sm_inj h
      exact Fc.rf
    · have h := ifF c2 h
      obtain ⟨rfl, rfl⟩ := sm_inj h
      exact Fc.rf
theorem fc_X6_back {S S' : Mm} {r : Int32} {x1 : Int32}  (h : f_X6_back S x1 = some (r, S')) : Fc S S' := by
  unfold f_X6_back at h
  obtain ⟨r1, S2, h3, h⟩ := bd_some h
  have qS2 : Fc S S2 := fc_X6_isImage  h3
  by_cases c4 : r1 = 0
  · have h := ifT c4 h
    obtain ⟨rfl, rfl⟩ := sm_inj h
    exact qS2
  · have h := ifF c4 h
    obtain ⟨b5, h⟩ := bnd_some h
    by_cases c6 : (gI S2 154 x1.toNatClampNeg) = 0
    · have h := ifT c6 h
      obtain ⟨rfl, rfl⟩ := sm_inj h
      exact qS2
    · have h := ifF c6 h
      obtain ⟨b7, h⟩ := bnd_some h
      have kq8 := kel_P k61 b7
      obtain ⟨r9, S10, h11, h⟩ := bd_some h
      have qS10 : Fc S2 S10 := fc_X3_become k15 h11
      obtain ⟨rfl, rfl⟩ := sm_inj h
      exact qS2.tr (qS10)
theorem fc_X6_bestLooks_9 {r : Int32} {S' : Mm}    : ∀ (n : Nat) (x1 : Int32) (x2 : Int64) (x4 : Int32) (S : Mm), f_X6_bestLooks_9 n x1 x2 x4 S = some (r, S') → Fc S S' := by
  intro n
  induction n with
  | zero => intro x1 x2 x4 S h; cases h
  | succ n ih =>
    intro x1 x2 x4 S h
    rw [f_X6_bestLooks_9] at h
    by_cases c2 : (1 <<< ((gI S (pl S) 0) &&& 31)) ≤ x4
    · have h := ifT c2 h
      obtain ⟨rfl, rfl⟩ := sm_inj h
      exact Fc.rf
    · have h := ifF c2 h
      obtain ⟨r4, S5, h6, h⟩ := bd_some h
      have qS5 : Fc S S5 := fc_X0_through  h6
      by_cases c7 : 0 ≤ (lg_cmp (gJ S5 158 2) x2)
      · have h := ifT c7 h
        obtain ⟨v8, e9, h⟩ := nm_some h
        exact qS5.tr ((ih x1 x2 v8 S5 h))
      · have h := ifF c7 h
        obtain ⟨v10, e11, h⟩ := nm_some h
        obtain ⟨v12, e13, h⟩ := nm_some h
        exact qS5.tr ((ih x4 v10 v12 S5 h))
theorem fc_X6_bestLooks {S S' : Mm} {r : Int32}   (h : f_X6_bestLooks S = some (r, S')) : Fc S S' := by
  unfold f_X6_bestLooks at h
  exact (fc_X6_bestLooks_9 400 0 10000000000000 0 S h)
theorem fc_X6_isStep {S S' : Mm} {r : Int32} {x1 : Int32}  (h : f_X6_isStep S x1 = some (r, S')) : Fc S S' := by
  unfold f_X6_isStep at h
  by_cases c1 : x1 < 0
  · have h := ifT c1 h
    obtain ⟨rfl, rfl⟩ := sm_inj h
    exact Fc.rf
  · have h := ifF c1 h
    by_cases c3 : (gI S (pl S) 0) ≤ x1
    · have h := ifT c3 h
      obtain ⟨rfl, rfl⟩ := sm_inj h
      exact Fc.rf
    · have h := ifF c3 h
      obtain ⟨rfl, rfl⟩ := sm_inj h
      exact Fc.rf
theorem fc_X6_findLeastOrder_124 {r : Unit} {S' : Mm}   {kk32 : Int64 → Int32 → Mm → Option (Unit × Mm)} (hk32 : ∀ (x1 : Int64) (x3 : Int32) (S : Mm), kk32 x1 x3 S = some (r, S') → Fc S S') : ∀ (x1 : Int64) (x3 : Int32) (S : Mm), f_X6_findLeastOrder_124 kk32 x1 x3 S = some (r, S') → Fc S S' := by
  intro x1 x3 S h
  unfold f_X6_findLeastOrder_124 at h
  obtain ⟨r2, S3, h4, h⟩ := bd_some h
  have qS3 : Fc S S3 := fc_X6_advance  h4
  by_cases c5 : r2 = 0
  · have h := ifT c5 h
    obtain ⟨rfl, rfl⟩ := sm_inj h
    exact qS3
  · have h := ifF c5 h
    obtain ⟨v6, e7, h⟩ := nm_some h
    exact qS3.tr ((hk32 x1 v6 S3 h))
theorem fc_X6_findLeastOrder_32 {r : Unit} {S' : Mm}    : ∀ (n : Nat) (x1 : Int64) (x3 : Int32) (S : Mm), f_X6_findLeastOrder_32 n x1 x3 S = some (r, S') → Fc S S' := by
  intro n
  induction n with
  | zero => intro x1 x3 S h; cases h
  | succ n ih =>
    intro x1 x3 S h
    rw [f_X6_findLeastOrder_32] at h
    by_cases c1 : 120 ≤ x3
    · have h := ifT c1 h
      obtain ⟨rfl, rfl⟩ := sm_inj h
      exact Fc.rf
    · have h := ifF c1 h
      obtain ⟨r3, S4, h5, h⟩ := bd_some h
      have qS4 : Fc S S4 := fc_X4_allows  h5
      by_cases c6 : r3 = 0
      · have h := ifT c6 h
        exact qS4.tr ((fc_X6_findLeastOrder_124 ih x1 x3 S4 h))
      · have h := ifF c6 h
        obtain ⟨r8, S9, h10, h⟩ := bd_some h
        have qS9 : Fc S4 S9 := fc_X0_through  h10
        by_cases c11 : 0 ≤ (lg_cmp (gJ S9 158 2) x1)
        · have h := ifT c11 h
          exact qS4.tr (qS9.tr ((fc_X6_findLeastOrder_124 ih x1 x3 S9 h)))
        · have h := ifF c11 h
          obtain ⟨v12, e13, h⟩ := nm_some h
          obtain ⟨b15, h⟩ := bnd_some h
          obtain ⟨S16, e17, h⟩ := nm_some h
          have qS16 : Fc S9 S16 := by rw [e17]; exact Fc_cpI (by decide)
          exact qS4.tr (qS9.tr (qS16.tr ((fc_X6_findLeastOrder_124 ih v12 x3 S16 h))))
theorem fc_X6_findLeastOrder_2 {r : Unit} {S' : Mm}    : ∀ (n : Nat) (x1 : Int32) (S : Mm), f_X6_findLeastOrder_2 n x1 S = some (r, S') → Fc S S' := by
  intro n
  induction n with
  | zero => intro x1 S h; cases h
  | succ n ih =>
    intro x1 S h
    rw [f_X6_findLeastOrder_2] at h
    by_cases c2 : (gI S (pl S) 0) ≤ x1
    · have h := ifT c2 h
      exact (fc_X6_findLeastOrder_32 400 10000000000000 0 S h)
    · have h := ifF c2 h
      obtain ⟨b3, h⟩ := bnd_some h
      obtain ⟨S4, e5, h⟩ := nm_some h
      have qS4 : Fc S S4 := by rw [e5]; exact Fc_sI (by decide)
      obtain ⟨v6, e7, h⟩ := nm_some h
      exact qS4.tr ((ih v6 S4 h))
theorem fc_X6_findLeastOrder {S S' : Mm} {r : Unit}   (h : f_X6_findLeastOrder S = some (r, S')) : Fc S S' := by
  unfold f_X6_findLeastOrder at h
  exact (fc_X6_findLeastOrder_2 400 0 S h)
theorem fc_X6_bestOrder {S S' : Mm} {r : Int32} {x1 : Int32}  (h : f_X6_bestOrder S x1 = some (r, S')) : Fc S S' := by
  unfold f_X6_bestOrder at h
  obtain ⟨r1, S2, h3, h⟩ := bd_some h
  have qS2 : Fc S S2 := fc_X6_isStep  h3
  by_cases c4 : r1 = 0
  · have h := ifT c4 h
    obtain ⟨rfl, rfl⟩ := sm_inj h
    exact qS2
  · have h := ifF c4 h
    obtain ⟨r5, S6, h7, h⟩ := bd_some h
    have qS6 : Fc S2 S6 := fc_X6_findLeastOrder  h7
    obtain ⟨b8, h⟩ := bnd_some h
    obtain ⟨rfl, rfl⟩ := sm_inj h
    exact qS2.tr (qS6)
theorem fc_X6_isBit {S S' : Mm} {r : Int32} {x0 : Int32}  (h : f_X6_isBit S x0 = some (r, S')) : Fc S S' := by
  unfold f_X6_isBit at h
  by_cases c1 : x0 = 0
  · have h := ifT c1 h
    obtain ⟨rfl, rfl⟩ := sm_inj h
    exact Fc.rf
  · have h := ifF c1 h
    by_cases c2 : x0 = 1
    · have h := ifT c2 h
      obtain ⟨rfl, rfl⟩ := sm_inj h
      exact Fc.rf
    · have h := ifF c2 h
      obtain ⟨rfl, rfl⟩ := sm_inj h
      exact Fc.rf
theorem fc_X6_isFoundBehind {S S' : Mm} {r : Int32} {x1 : Int32}  (h : f_X6_isFoundBehind S x1 = some (r, S')) : Fc S S' := by
  unfold f_X6_isFoundBehind at h
  obtain ⟨b1, h⟩ := bnd_some h
  by_cases c2 : (((gI S 16 3) >>> ((gI S 17 x1.toNatClampNeg) &&& 31)) &&& 1) = 0
  · have h := ifT c2 h
    obtain ⟨rfl, rfl⟩ := sm_inj h
    exact Fc.rf
  · have h := ifF c2 h
    obtain ⟨r4, S5, h6, h⟩ := bd_some h
    have qS5 : Fc S S5 := fc_X0_upTo  h6
    by_cases c7 : (lg_cmp (gJ S5 158 1) 0) ≤ 0
    · have h := ifT c7 h
      obtain ⟨rfl, rfl⟩ := sm_inj h
      exact qS5
    · have h := ifF c7 h
      obtain ⟨rfl, rfl⟩ := sm_inj h
      exact qS5
theorem fc_X6_commonDivisor_9 {r : Int64} {S' : Mm}    : ∀ (n : Nat) (x4 : Int64) (x6 : Int64) (x8 : Int32) (S : Mm), f_X6_commonDivisor_9 n x4 x6 x8 S = some (r, S') → Fc S S' := by
  intro n
  induction n with
  | zero => intro x4 x6 x8 S h; cases h
  | succ n ih =>
    intro x4 x6 x8 S h
    rw [f_X6_commonDivisor_9] at h
    by_cases c1 : 100 ≤ x8
    · have h := ifT c1 h
      obtain ⟨rfl, rfl⟩ := sm_inj h
      exact Fc.rf
    · have h := ifF c1 h
      by_cases c2 : (lg_cmp x6 0) = 0
      · have h := ifT c2 h
        obtain ⟨rfl, rfl⟩ := sm_inj h
        exact Fc.rf
      · have h := ifF c2 h
        obtain ⟨b3, h⟩ := bnd_some h
        obtain ⟨v4, e5, h⟩ := nm_some h
        obtain ⟨v6, e7, h⟩ := nm_some h
        exact (ih x6 v4 v6 S h)
theorem fc_X6_commonDivisor {S S' : Mm} {r : Int64} {x0 : Int64} {x2 : Int64}  (h : f_X6_commonDivisor S x0 x2 = some (r, S')) : Fc S S' := by
  unfold f_X6_commonDivisor at h
  exact (fc_X6_commonDivisor_9 400 x0 x2 0 S h)
theorem fc_X6_part {S S' : Mm} {r : Int64} {x0 : Int64} {x2 : Int64} {x4 : Int32}  (h : f_X6_part S x0 x2 x4 = some (r, S')) : Fc S S' := by
  unfold f_X6_part at h
  obtain ⟨r1, S2, h3, h⟩ := bd_some h
  have qS2 : Fc S S2 := fc_X6_commonDivisor  h3
  by_cases c4 : (lg_cmp x2 0) = 0
  · have h := ifT c4 h
    obtain ⟨rfl, rfl⟩ := sm_inj h
    exact qS2
  · have h := ifF c4 h
    by_cases c5 : (lg_cmp r1 0) = 0
    · have h := ifT c5 h
      obtain ⟨rfl, rfl⟩ := sm_inj h
      exact qS2
    · have h := ifF c5 h
      by_cases c6 : x4 = 0
      · have h := ifT c6 h
        obtain ⟨b8, h⟩ := bnd_some h
        obtain ⟨rfl, rfl⟩ := sm_inj h
        exact qS2
      · have h := ifF c6 h
        obtain ⟨b7, h⟩ := bnd_some h
        obtain ⟨rfl, rfl⟩ := sm_inj h
        exact qS2
theorem fc_X6_blame {S S' : Mm} {r : Int64} {x1 : Int32} {x2 : Int32} {x3 : Int32}  (h : f_X6_blame S x1 x2 x3 = some (r, S')) : Fc S S' := by
  unfold f_X6_blame at h
  obtain ⟨r1, S2, h3, h⟩ := bd_some h
  have qS2 : Fc S S2 := fc_X6_isStep  h3
  by_cases c4 : r1 = 0
  · have h := ifT c4 h
    obtain ⟨rfl, rfl⟩ := sm_inj h
    exact qS2
  · have h := ifF c4 h
    obtain ⟨r5, S6, h7, h⟩ := bd_some h
    have qS6 : Fc S2 S6 := fc_X6_isStep  h7
    by_cases c8 : r5 = 0
    · have h := ifT c8 h
      obtain ⟨rfl, rfl⟩ := sm_inj h
      exact qS2.tr (qS6)
    · have h := ifF c8 h
      obtain ⟨r9, S10, h11, h⟩ := bd_some h
      have qS10 : Fc S6 S10 := fc_X6_isBit  h11
      by_cases c12 : r9 = 0
      · have h := ifT c12 h
        obtain ⟨rfl, rfl⟩ := sm_inj h
        exact qS2.tr (qS6.tr (qS10))
      · have h := ifF c12 h
        obtain ⟨r13, S14, h15, h⟩ := bd_some h
        have qS14 : Fc S10 S14 := fc_X6_isFoundBehind  h15
        by_cases c16 : r13 = 0
        · have h := ifT c16 h
          obtain ⟨rfl, rfl⟩ := sm_inj h
          exact qS2.tr (qS6.tr (qS10.tr (qS14)))
        · have h := ifF c16 h
          by_cases c17 : x2 ≤ x1
          · have h := ifT c17 h
            obtain ⟨b18, h⟩ := bnd_some h
            obtain ⟨r19, S20, h21, h⟩ := bd_some h
            have qS20 : Fc S14 S20 := fc_X6_part  h21
            obtain ⟨rfl, rfl⟩ := sm_inj h
            exact qS2.tr (qS6.tr (qS10.tr (qS14.tr (qS20))))
          · have h := ifF c17 h
            obtain ⟨r22, S23, h24, h⟩ := bd_some h
            have qS23 : Fc S14 S23 := fc_X6_part  h24
            obtain ⟨rfl, rfl⟩ := sm_inj h
            exact qS2.tr (qS6.tr (qS10.tr (qS14.tr (qS23))))
theorem fc_X6_clear {S S' : Mm} {r : Int32}   (h : f_X6_clear S = some (r, S')) : Fc S S' := by
  unfold f_X6_clear at h
  obtain ⟨v1, e2, h⟩ := nm_some h
  obtain ⟨S3, e4, h⟩ := nm_some h
  have qS3 : Fc S S3 := by rw [e4]; exact Fc_sI (by decide)
  obtain ⟨rfl, rfl⟩ := sm_inj h
  exact qS3
theorem fc_X6_count {S S' : Mm} {r : Int32} {x1 : Int32}  (h : f_X6_count S x1 = some (r, S')) : Fc S S' := by
  unfold f_X6_count at h
  by_cases c1 : x1 = 0
  · have h := ifT c1 h
    obtain ⟨rfl, rfl⟩ := sm_inj h
    exact Fc.rf
  · have h := ifF c1 h
    by_cases c3 : x1 = 1
    · have h := ifT c3 h
      obtain ⟨rfl, rfl⟩ := sm_inj h
      exact Fc.rf
    · have h := ifF c3 h
      by_cases c5 : x1 = 2
      · have h := ifT c5 h
        obtain ⟨rfl, rfl⟩ := sm_inj h
        exact Fc.rf
      · have h := ifF c5 h
        by_cases c6 : x1 = 3
        · have h := ifT c6 h
          obtain ⟨rfl, rfl⟩ := sm_inj h
          exact Fc.rf
        · have h := ifF c6 h
          by_cases c7 : x1 = 4
          · have h := ifT c7 h
            obtain ⟨rfl, rfl⟩ := sm_inj h
            exact Fc.rf
          · have h := ifF c7 h
            obtain ⟨rfl, rfl⟩ := sm_inj h
            exact Fc.rf
theorem fc_X6_explainsTold_2 {r : Int32} {S' : Mm}    : ∀ (n : Nat) (x1 : Int32) (x2 : Int32) (S : Mm), f_X6_explainsTold_2 n x1 x2 S = some (r, S') → Fc S S' := by
  intro n
  induction n with
  | zero => intro x1 x2 S h; cases h
  | succ n ih =>
    intro x1 x2 S h
    rw [f_X6_explainsTold_2] at h
    by_cases c1 : (gI S 0 8) ≤ x2
    · have h := ifT c1 h
      obtain ⟨rfl, rfl⟩ := sm_inj h
      exact Fc.rf
    · have h := ifF c1 h
      obtain ⟨b3, h⟩ := bnd_some h
      obtain ⟨r4, S5, h6, h⟩ := bd_some h
      have qS5 : Fc S S5 := fc_X2_go  h6
      obtain ⟨r7, S8, h9, h⟩ := bd_some h
      have qS8 : Fc S5 S8 := fc_X2_fate  h9
      obtain ⟨b10, h⟩ := bnd_some h
      by_cases c11 : r7 = (gI S8 156 x2.toNatClampNeg)
      · have h := ifT c11 h
        obtain ⟨v12, e13, h⟩ := nm_some h
        exact qS5.tr (qS8.tr ((ih x1 v12 S8 h)))
      · have h := ifF c11 h
        obtain ⟨rfl, rfl⟩ := sm_inj h
        exact qS5.tr (qS8)
theorem fc_X6_explainsTold {S S' : Mm} {r : Int32} {x1 : Int32}  (h : f_X6_explainsTold S x1 = some (r, S')) : Fc S S' := by
  unfold f_X6_explainsTold at h
  exact (fc_X6_explainsTold_2 400 x1 0 S h)
theorem fc_X6_hasFewDuds {S S' : Mm} {r : Int32} {x1 : Int32} {x2 : Int32}  (h : f_X6_hasFewDuds S x1 x2 = some (r, S')) : Fc S S' := by
  unfold f_X6_hasFewDuds at h
  obtain ⟨r2, S3, h4, h⟩ := bd_some h
  have qS3 : Fc S S3 := fc_X0_through  h4
  obtain ⟨v5, e6, h⟩ := nm_some h
  by_cases c7 : (lg_cmp v5 0) ≤ 0
  · have h := ifT c7 h
    obtain ⟨rfl, rfl⟩ := sm_inj h
    exact qS3
  · have h := ifF c7 h
    by_cases c8 : 0 < (lg_cmp ((gJ S3 158 1) * 250) (v5 * x2.toInt64))
    · have h := ifT c8 h
      obtain ⟨rfl, rfl⟩ := sm_inj h
      exact qS3
    · have h := ifF c8 h
      obtain ⟨rfl, rfl⟩ := sm_inj h
      exact qS3
theorem fc_X6_few_22 {r : Int32} {S' : Mm}    : ∀ (n : Nat) (x1 : Int32) (x2 : Int32) (x3 : Int32) (x4 : Int32) (S : Mm), f_X6_few_22 n x1 x2 x3 x4 S = some (r, S') → Fc S S' := by
  intro n
  induction n with
  | zero => intro x1 x2 x3 x4 S h; cases h
  | succ n ih =>
    intro x1 x2 x3 x4 S h
    rw [f_X6_few_22] at h
    by_cases c2 : (1 <<< ((gI S (pl S) 0) &&& 31)) ≤ x4
    · have h := ifT c2 h
      obtain ⟨rfl, rfl⟩ := sm_inj h
      exact Fc.rf
    · have h := ifF c2 h
      obtain ⟨r3, S4, h5, h⟩ := bd_some h
      have qS4 : Fc S S4 := fc_J6_bitCount_0f7a4  h5
      by_cases c6 : x3 ≤ r3
      · have h := ifT c6 h
        obtain ⟨v7, e8, h⟩ := nm_some h
        exact qS4.tr ((ih x1 x2 x3 v7 S4 h))
      · have h := ifF c6 h
        obtain ⟨r9, S10, h11, h⟩ := bd_some h
        have qS10 : Fc S4 S10 := fc_X6_hasFewDuds  h11
        by_cases c12 : r9 = 0
        · have h := ifT c12 h
          obtain ⟨v13, e14, h⟩ := nm_some h
          exact qS4.tr (qS10.tr ((ih x1 x2 x3 v13 S10 h)))
        · have h := ifF c12 h
          obtain ⟨r15, S16, h17, h⟩ := bd_some h
          have qS16 : Fc S10 S16 := fc_J6_bitCount_0f7a4  h17
          obtain ⟨v18, e19, h⟩ := nm_some h
          exact qS4.tr (qS10.tr (qS16.tr ((ih x1 x4 r15 v18 S16 h))))
theorem fc_X6_few {S S' : Mm} {r : Int32} {x1 : Int32}  (h : f_X6_few S x1 = some (r, S')) : Fc S S' := by
  unfold f_X6_few at h
  by_cases c1 : x1 < 0
  · have h := ifT c1 h
    obtain ⟨rfl, rfl⟩ := sm_inj h
    exact Fc.rf
  · have h := ifF c1 h
    by_cases c2 : x1 ≤ 250
    · have h := ifT c2 h
      exact (fc_X6_few_22 400 x1 ((-9)) 6 0 S h)
    · have h := ifF c2 h
      obtain ⟨rfl, rfl⟩ := sm_inj h
      exact Fc.rf
theorem fc_X6_first_25 {r : Int32} {S' : Mm}    : ∀ (n : Nat) (x1 : Int32) (x2 : Int32) (x3 : Int32) (S : Mm), f_X6_first_25 n x1 x2 x3 S = some (r, S') → Fc S S' := by
  intro n
  induction n with
  | zero => intro x1 x2 x3 S h; cases h
  | succ n ih =>
    intro x1 x2 x3 S h
    rw [f_X6_first_25] at h
    by_cases c1 : x1 < x3
    · have h := ifT c1 h
      obtain ⟨rfl, rfl⟩ := sm_inj h
      exact Fc.rf
    · have h := ifF c1 h
      obtain ⟨b2, h⟩ := bnd_some h
      obtain ⟨b3, h⟩ := bnd_some h
      by_cases c4 : (lg_cmp (gJ S 160 x3.toNatClampNeg) (gJ S 160 x2.toNatClampNeg)) ≤ 0
      · have h := ifT c4 h
        obtain ⟨v5, e6, h⟩ := nm_some h
        exact (ih x1 x2 v5 S h)
      · have h := ifF c4 h
        obtain ⟨v7, e8, h⟩ := nm_some h
        exact (ih x1 x3 v7 S h)
theorem fc_X6_first {S S' : Mm} {r : Int32} {x1 : Int32}  (h : f_X6_first S x1 = some (r, S')) : Fc S S' := by
  unfold f_X6_first at h
  obtain ⟨r1, S2, h3, h⟩ := bd_some h
  have qS2 : Fc S S2 := fc_X6_isStep  h3
  by_cases c4 : r1 = 0
  · have h := ifT c4 h
    obtain ⟨rfl, rfl⟩ := sm_inj h
    exact qS2
  · have h := ifF c4 h
    obtain ⟨r5, S6, h7, h⟩ := bd_some h
    have qS6 : Fc S2 S6 := fc_X6_isFoundBehind  h7
    by_cases c8 : r5 = 0
    · have h := ifT c8 h
      obtain ⟨rfl, rfl⟩ := sm_inj h
      exact qS2.tr (qS6)
    · have h := ifF c8 h
      exact qS2.tr (qS6.tr ((fc_X6_first_25 400 x1 0 1 S6 h)))
theorem fc_X6_flowNow {S S' : Mm} {r : Unit}   (h : f_X6_flowNow S = some (r, S')) : Fc S S' := by
  unfold f_X6_flowNow at h
  obtain ⟨r2, S3, h4, h⟩ := bd_some h
  have qS3 : Fc S S3 := fc_X0_through  h4
  obtain ⟨rfl, rfl⟩ := sm_inj h
  exact qS3
theorem fc_X6_forget {S S' : Mm} {r : Int32}   (h : f_X6_forget S = some (r, S')) : Fc S S' := by
  unfold f_X6_forget at h
  obtain ⟨v1, e2, h⟩ := nm_some h
  obtain ⟨S3, e4, h⟩ := nm_some h
  have qS3 : Fc S S3 := by rw [e4]; exact Fc_sI (by decide)
  obtain ⟨rfl, rfl⟩ := sm_inj h
  exact qS3
theorem fc_X6_isDraw {S S' : Mm} {r : Int32} {x0 : Int32}  (h : f_X6_isDraw S x0 = some (r, S')) : Fc S S' := by
  unfold f_X6_isDraw at h
  by_cases c1 : x0 < 0
  · have h := ifT c1 h
    obtain ⟨rfl, rfl⟩ := sm_inj h
    exact Fc.rf
  · have h := ifF c1 h
    by_cases c2 : 9999 < x0
    · have h := ifT c2 h
      obtain ⟨rfl, rfl⟩ := sm_inj h
      exact Fc.rf
    · have h := ifF c2 h
      obtain ⟨rfl, rfl⟩ := sm_inj h
      exact Fc.rf
theorem fc_X6_keep {S S' : Mm} {r : Int32} {x1 : Int32}  (h : f_X6_keep S x1 = some (r, S')) : Fc S S' := by
  unfold f_X6_keep at h
  obtain ⟨r1, S2, h3, h⟩ := bd_some h
  have qS2 : Fc S S2 := fc_X6_isImage  h3
  by_cases c4 : r1 = 0
  · have h := ifT c4 h
    obtain ⟨rfl, rfl⟩ := sm_inj h
    exact qS2
  · have h := ifF c4 h
    obtain ⟨b5, h⟩ := bnd_some h
    have kq6 := kel_P k61 b5
    obtain ⟨r7, S8, h9, h⟩ := bd_some h
    have qS8 : Fc S2 S8 := fc_X3_become kq6 h9
    obtain ⟨b10, h⟩ := bnd_some h
    obtain ⟨S11, e12, h⟩ := nm_some h
    have qS11 : Fc S8 S11 := by rw [e12]; exact Fc_sI (by decide)
    obtain ⟨rfl, rfl⟩ := sm_inj h
    exact qS2.tr (qS8.tr (qS11))
theorem fc_X6_line {S S' : Mm} {r : Int32} {x1 : Int32}  (h : f_X6_line S x1 = some (r, S')) : Fc S S' := by
  unfold f_X6_line at h
  obtain ⟨r1, S2, h3, h⟩ := bd_some h
  have qS2 : Fc S S2 := fc_X6_isStep  h3
  by_cases c4 : r1 = 0
  · have h := ifT c4 h
    obtain ⟨rfl, rfl⟩ := sm_inj h
    exact qS2
  · have h := ifF c4 h
    obtain ⟨b5, h⟩ := bnd_some h
    obtain ⟨rfl, rfl⟩ := sm_inj h
    exact qS2
theorem fc_X6_looks {S S' : Mm} {r : Int32} {x1 : Int32} {x2 : Int32}  (h : f_X6_looks S x1 x2 = some (r, S')) : Fc S S' := by
  unfold f_X6_looks at h
  obtain ⟨r1, S2, h3, h⟩ := bd_some h
  have qS2 : Fc S S2 := fc_X6_isStep  h3
  by_cases c4 : r1 = 0
  · have h := ifT c4 h
    obtain ⟨rfl, rfl⟩ := sm_inj h
    exact qS2
  · have h := ifF c4 h
    obtain ⟨r5, S6, h7, h⟩ := bd_some h
    have qS6 : Fc S2 S6 := fc_X6_isBit  h7
    by_cases c8 : r5 = 0
    · have h := ifT c8 h
      obtain ⟨rfl, rfl⟩ := sm_inj h
      exact qS2.tr (qS6)
    · have h := ifF c8 h
      by_cases c9 : (((gI S6 16 3) >>> (x1 &&& 31)) &&& 1) = x2
      · have h := ifT c9 h
        obtain ⟨rfl, rfl⟩ := sm_inj h
        exact qS2.tr (qS6)
      · have h := ifF c9 h
        obtain ⟨r10, S11, h12, h⟩ := bd_some h
        have qS11 : Fc S6 S11 := fc_X3_remember k15 h12
        obtain ⟨S13, e14, h⟩ := nm_some h
        have qS13 : Fc S11 S13 := by rw [e14]; exact Fc_sI (by decide)
        obtain ⟨r15, S16, h17, h⟩ := bd_some h
        have qS16 : Fc S13 S16 := fc_J6_bitCount_0f7a4  h17
        obtain ⟨rfl, rfl⟩ := sm_inj h
        exact qS2.tr (qS6.tr (qS11.tr (qS13.tr (qS16))))
theorem fc_X6_lost {S S' : Mm} {r : Int64} {x1 : Int32} {x2 : Int32}  (h : f_X6_lost S x1 x2 = some (r, S')) : Fc S S' := by
  unfold f_X6_lost at h
  obtain ⟨r1, S2, h3, h⟩ := bd_some h
  have qS2 : Fc S S2 := fc_X6_isStep  h3
  by_cases c4 : r1 = 0
  · have h := ifT c4 h
    obtain ⟨rfl, rfl⟩ := sm_inj h
    exact qS2
  · have h := ifF c4 h
    obtain ⟨r5, S6, h7, h⟩ := bd_some h
    have qS6 : Fc S2 S6 := fc_X6_isBit  h7
    by_cases c8 : r5 = 0
    · have h := ifT c8 h
      obtain ⟨rfl, rfl⟩ := sm_inj h
      exact qS2.tr (qS6)
    · have h := ifF c8 h
      obtain ⟨r9, S10, h11, h⟩ := bd_some h
      have qS10 : Fc S6 S10 := fc_X6_flowNow  h11
      obtain ⟨b12, h⟩ := bnd_some h
      obtain ⟨r13, S14, h15, h⟩ := bd_some h
      have qS14 : Fc S10 S14 := fc_X6_part  h15
      obtain ⟨rfl, rfl⟩ := sm_inj h
      exact qS2.tr (qS6.tr (qS10.tr (qS14)))
theorem fc_X6_makes {S S' : Mm} {r : Int32} {x1 : Int32}  (h : f_X6_makes S x1 = some (r, S')) : Fc S S' := by
  unfold f_X6_makes at h
  obtain ⟨r1, S2, h3, h⟩ := bd_some h
  have qS2 : Fc S S2 := fc_X6_isDraw  h3
  by_cases c4 : r1 = 0
  · have h := ifT c4 h
    obtain ⟨rfl, rfl⟩ := sm_inj h
    exact qS2
  · have h := ifF c4 h
    by_cases c5 : (gI S2 16 4) < 9999
    · have h := ifT c5 h
      obtain ⟨r6, S7, h8, h⟩ := bd_some h
      have qS7 : Fc S2 S7 := fc_X3_remember k15 h8
      obtain ⟨r10, S11, h12, h⟩ := bd_some h
      have qS11 : Fc S7 S11 := fc_X2_go  h12
      obtain ⟨r14, S15, h16, h⟩ := bd_some h
      have qS15 : Fc S11 S15 := fc_X1_enter k16 h16
      obtain ⟨r17, S18, h19, h⟩ := bd_some h
      have qS18 : Fc S15 S18 := fc_X2_fate  h19
      obtain ⟨rfl, rfl⟩ := sm_inj h
      exact qS2.tr (qS7.tr (qS11.tr (qS15.tr (qS18))))
    · have h := ifF c5 h
      obtain ⟨rfl, rfl⟩ := sm_inj h
      exact qS2
theorem fc_X6_markStep {S S' : Mm} {r : Int32} {x1 : Int32}  (h : f_X6_markStep S x1 = some (r, S')) : Fc S S' := by
  unfold f_X6_markStep at h
  obtain ⟨S1, e2, h⟩ := nm_some h
  have qS1 : Fc S S1 := by rw [e2]; exact Fc_sJ (by decide)
  obtain ⟨b4, h⟩ := bnd_some h
  obtain ⟨rfl, rfl⟩ := sm_inj h
  exact qS1
theorem fc_X6_markPoint {S S' : Mm} {r : Int32} {x1 : Int32}  (h : f_X6_markPoint S x1 = some (r, S')) : Fc S S' := by
  unfold f_X6_markPoint at h
  obtain ⟨S1, e2, h⟩ := nm_some h
  have qS1 : Fc S S1 := by rw [e2]; exact Fc_sJ (by decide)
  obtain ⟨r3, S4, h5, h⟩ := bd_some h
  have qS4 : Fc S1 S4 := fc_X6_markStep  h5
  obtain ⟨b6, h⟩ := bnd_some h
  obtain ⟨rfl, rfl⟩ := sm_inj h
  exact qS1.tr (qS4)
theorem fc_X6_markEye {S S' : Mm} {r : Int32} {x1 : Int32}  (h : f_X6_markEye S x1 = some (r, S')) : Fc S S' := by
  unfold f_X6_markEye at h
  obtain ⟨S1, e2, h⟩ := nm_some h
  have qS1 : Fc S S1 := by rw [e2]; exact Fc_sJ (by decide)
  obtain ⟨r3, S4, h5, h⟩ := bd_some h
  have qS4 : Fc S1 S4 := fc_X6_markStep  h5
  obtain ⟨b7, h⟩ := bnd_some h
  obtain ⟨rfl, rfl⟩ := sm_inj h
  exact qS1.tr (qS4)
theorem fc_X6_markTrue {S S' : Mm} {r : Int32} {x1 : Int32}  (h : f_X6_markTrue S x1 = some (r, S')) : Fc S S' := by
  unfold f_X6_markTrue at h
  obtain ⟨S1, e2, h⟩ := nm_some h
  have qS1 : Fc S S1 := by rw [e2]; exact Fc_sJ (by decide)
  obtain ⟨r3, S4, h5, h⟩ := bd_some h
  have qS4 : Fc S1 S4 := fc_X6_markPoint  h5
  obtain ⟨rfl, rfl⟩ := sm_inj h
  exact qS1.tr (qS4)
theorem fc_X6_markBlue {S S' : Mm} {r : Int32} {x1 : Int32}  (h : f_X6_markBlue S x1 = some (r, S')) : Fc S S' := by
  unfold f_X6_markBlue at h
  obtain ⟨S1, e2, h⟩ := nm_some h
  have qS1 : Fc S S1 := by rw [e2]; exact Fc_sJ (by decide)
  obtain ⟨r3, S4, h5, h⟩ := bd_some h
  have qS4 : Fc S1 S4 := fc_X6_markEye  h5
  obtain ⟨b6, h⟩ := bnd_some h
  obtain ⟨rfl, rfl⟩ := sm_inj h
  exact qS1.tr (qS4)
theorem fc_X6_markSack {S S' : Mm} {r : Int32} {x1 : Int32}  (h : f_X6_markSack S x1 = some (r, S')) : Fc S S' := by
  unfold f_X6_markSack at h
  obtain ⟨S1, e2, h⟩ := nm_some h
  have qS1 : Fc S S1 := by rw [e2]; exact Fc_sJ (by decide)
  obtain ⟨r3, S4, h5, h⟩ := bd_some h
  have qS4 : Fc S1 S4 := fc_X6_markStep  h5
  obtain ⟨rfl, rfl⟩ := sm_inj h
  exact qS1.tr (qS4)
theorem fc_X6_mark {S S' : Mm} {r : Int32} {x1 : Int32} {x2 : Int32}  (h : f_X6_mark S x1 x2 = some (r, S')) : Fc S S' := by
  unfold f_X6_mark at h
  obtain ⟨r1, S2, h3, h⟩ := bd_some h
  have qS2 : Fc S S2 := fc_X6_isStep  h3
  by_cases c4 : r1 = 0
  · have h := ifT c4 h
    obtain ⟨rfl, rfl⟩ := sm_inj h
    exact qS2
  · have h := ifF c4 h
    by_cases c5 : x1 = 0
    · have h := ifT c5 h
      obtain ⟨r6, S7, h8, h⟩ := bd_some h
      have qS7 : Fc S2 S7 := fc_X6_markStep  h8
      obtain ⟨rfl, rfl⟩ := sm_inj h
      exact qS2.tr (qS7)
    · have h := ifF c5 h
      by_cases c9 : x1 = 1
      · have h := ifT c9 h
        obtain ⟨r10, S11, h12, h⟩ := bd_some h
        have qS11 : Fc S2 S11 := fc_X6_markPoint  h12
        obtain ⟨rfl, rfl⟩ := sm_inj h
        exact qS2.tr (qS11)
      · have h := ifF c9 h
        by_cases c13 : x1 = 2
        · have h := ifT c13 h
          obtain ⟨r14, S15, h16, h⟩ := bd_some h
          have qS15 : Fc S2 S15 := fc_X6_markEye  h16
          obtain ⟨rfl, rfl⟩ := sm_inj h
          exact qS2.tr (qS15)
        · have h := ifF c13 h
          by_cases c17 : x1 = 3
          · have h := ifT c17 h
            obtain ⟨r18, S19, h20, h⟩ := bd_some h
            have qS19 : Fc S2 S19 := fc_X6_markTrue  h20
            obtain ⟨rfl, rfl⟩ := sm_inj h
            exact qS2.tr (qS19)
          · have h := ifF c17 h
            by_cases c21 : x1 = 4
            · have h := ifT c21 h
              obtain ⟨r22, S23, h24, h⟩ := bd_some h
              have qS23 : Fc S2 S23 := fc_X6_markBlue  h24
              obtain ⟨rfl, rfl⟩ := sm_inj h
              exact qS2.tr (qS23)
            · have h := ifF c21 h
              by_cases c25 : x1 = 5
              · have h := ifT c25 h
                obtain ⟨r26, S27, h28, h⟩ := bd_some h
                have qS27 : Fc S2 S27 := fc_X6_markSack  h28
                obtain ⟨rfl, rfl⟩ := sm_inj h
                exact qS2.tr (qS27)
              · have h := ifF c25 h
                obtain ⟨rfl, rfl⟩ := sm_inj h
                exact qS2
theorem fc_X6_mean {S S' : Mm} {r : Int64} {x1 : Int32} {x2 : Int32}  (h : f_X6_mean S x1 x2 = some (r, S')) : Fc S S' := by
  unfold f_X6_mean at h
  by_cases c1 : x1 < 0
  · have h := ifT c1 h
    obtain ⟨rfl, rfl⟩ := sm_inj h
    exact Fc.rf
  · have h := ifF c1 h
    by_cases c2 : 3 < x1
    · have h := ifT c2 h
      obtain ⟨rfl, rfl⟩ := sm_inj h
      exact Fc.rf
    · have h := ifF c2 h
      obtain ⟨r3, S4, h5, h⟩ := bd_some h
      have qS4 : Fc S S4 := fc_X6_isBit  h5
      by_cases c6 : r3 = 0
      · have h := ifT c6 h
        obtain ⟨rfl, rfl⟩ := sm_inj h
        exact qS4
      · have h := ifF c6 h
        obtain ⟨r7, S8, h9, h⟩ := bd_some h
        have qS8 : Fc S4 S8 := fc_X6_flowNow  h9
        by_cases c10 : x1 = 0
        · have h := ifT c10 h
          obtain ⟨r11, S12, h13, h⟩ := bd_some h
          have qS12 : Fc S8 S12 := fc_X6_part  h13
          obtain ⟨rfl, rfl⟩ := sm_inj h
          exact qS4.tr (qS8.tr (qS12))
        · have h := ifF c10 h
          by_cases c14 : x1 = 1
          · have h := ifT c14 h
            obtain ⟨r15, S16, h17, h⟩ := bd_some h
            have qS16 : Fc S8 S16 := fc_X6_part  h17
            obtain ⟨rfl, rfl⟩ := sm_inj h
            exact qS4.tr (qS8.tr (qS16))
          · have h := ifF c14 h
            by_cases c18 : x1 = 2
            · have h := ifT c18 h
              obtain ⟨r19, S20, h21, h⟩ := bd_some h
              have qS20 : Fc S8 S20 := fc_X6_part  h21
              obtain ⟨rfl, rfl⟩ := sm_inj h
              exact qS4.tr (qS8.tr (qS20))
            · have h := ifF c18 h
              obtain ⟨r22, S23, h24, h⟩ := bd_some h
              have qS23 : Fc S8 S23 := fc_X6_part  h24
              obtain ⟨rfl, rfl⟩ := sm_inj h
              exact qS4.tr (qS8.tr (qS23))
theorem fc_X6_moves {S S' : Mm} {r : Int32} {x1 : Int32}  (h : f_X6_moves S x1 = some (r, S')) : Fc S S' := by
  unfold f_X6_moves at h
  by_cases c1 : x1 = 0
  · have h := ifT c1 h
    obtain ⟨rfl, rfl⟩ := sm_inj h
    exact Fc.rf
  · have h := ifF c1 h
    obtain ⟨r2, S3, h4, h⟩ := bd_some h
    have qS3 : Fc S S3 := fc_X6_isStep  h4
    by_cases c5 : r2 = 0
    · have h := ifT c5 h
      obtain ⟨rfl, rfl⟩ := sm_inj h
      exact qS3
    · have h := ifF c5 h
      obtain ⟨b6, h⟩ := bnd_some h
      obtain ⟨v7, e8, h⟩ := nm_some h
      obtain ⟨b10, h⟩ := bnd_some h
      obtain ⟨r11, S12, h13, h⟩ := bd_some h
      have qS12 : Fc S3 S12 := fc_X4_mustLead  h13
      by_cases c14 : r11 = 0
      · have h := ifT c14 h
        obtain ⟨r15, S16, h17, h⟩ := bd_some h
        have qS16 : Fc S12 S16 := fc_X3_remember k15 h17
        obtain ⟨b18, h⟩ := bnd_some h
        obtain ⟨b19, h⟩ := bnd_some h
        obtain ⟨S20, e21, h⟩ := nm_some h
        have qS20 : Fc S16 S20 := by rw [e21]; exact Fc_sI (by decide)
        obtain ⟨b22, h⟩ := bnd_some h
        obtain ⟨S23, e24, h⟩ := nm_some h
        have qS23 : Fc S20 S23 := by rw [e24]; exact Fc_sI (by decide)
        obtain ⟨rfl, rfl⟩ := sm_inj h
        exact qS3.tr (qS12.tr (qS16.tr (qS20.tr (qS23))))
      · have h := ifF c14 h
        obtain ⟨rfl, rfl⟩ := sm_inj h
        exact qS3.tr (qS12)
theorem fc_X6_now {S S' : Mm} {r : Int32} {x1 : Int32}  (h : f_X6_now S x1 = some (r, S')) : Fc S S' := by
  unfold f_X6_now at h
  by_cases c1 : x1 = 0
  · have h := ifT c1 h
    obtain ⟨rfl, rfl⟩ := sm_inj h
    exact Fc.rf
  · have h := ifF c1 h
    by_cases c2 : x1 = 1
    · have h := ifT c2 h
      obtain ⟨rfl, rfl⟩ := sm_inj h
      exact Fc.rf
    · have h := ifF c2 h
      by_cases c3 : x1 = 2
      · have h := ifT c3 h
        obtain ⟨rfl, rfl⟩ := sm_inj h
        exact Fc.rf
      · have h := ifF c3 h
        by_cases c4 : x1 = 3
        · have h := ifT c4 h
          obtain ⟨rfl, rfl⟩ := sm_inj h
          exact Fc.rf
        · have h := ifF c4 h
          by_cases c5 : x1 = 4
          · have h := ifT c5 h
            obtain ⟨rfl, rfl⟩ := sm_inj h
            exact Fc.rf
          · have h := ifF c5 h
            by_cases c6 : x1 = 5
            · have h := ifT c6 h
              obtain ⟨rfl, rfl⟩ := sm_inj h
              exact Fc.rf
            · have h := ifF c6 h
              obtain ⟨rfl, rfl⟩ := sm_inj h
              exact Fc.rf
theorem fc_X6_paper {S S' : Mm} {r : Int64} {x1 : Int32} {x2 : Int32}  (h : f_X6_paper S x1 x2 = some (r, S')) : Fc S S' := by
  unfold f_X6_paper at h
  by_cases c1 : x1 < 1
  · have h := ifT c1 h
    obtain ⟨rfl, rfl⟩ := sm_inj h
    exact Fc.rf
  · have h := ifF c1 h
    by_cases c2 : 99 < x1
    · have h := ifT c2 h
      obtain ⟨rfl, rfl⟩ := sm_inj h
      exact Fc.rf
    · have h := ifF c2 h
      obtain ⟨r3, S4, h5, h⟩ := bd_some h
      have qS4 : Fc S S4 := fc_X6_isBit  h5
      by_cases c6 : r3 = 0
      · have h := ifT c6 h
        obtain ⟨rfl, rfl⟩ := sm_inj h
        exact qS4
      · have h := ifF c6 h
        obtain ⟨r7, S8, h9, h⟩ := bd_some h
        have qS8 : Fc S4 S8 := fc_X6_flowNow  h9
        obtain ⟨r10, S11, h12, h⟩ := bd_some h
        have qS11 : Fc S8 S11 := fc_X6_part  h12
        obtain ⟨rfl, rfl⟩ := sm_inj h
        exact qS4.tr (qS8.tr (qS11))
theorem fc_X6_skill {S S' : Mm} {r : Int32} {x1 : Int32} {x2 : Int32}  (h : f_X6_skill S x1 x2 = some (r, S')) : Fc S S' := by
  unfold f_X6_skill at h
  obtain ⟨r1, S2, h3, h⟩ := bd_some h
  have qS2 : Fc S S2 := fc_X6_isStep  h3
  by_cases c4 : r1 = 0
  · have h := ifT c4 h
    obtain ⟨rfl, rfl⟩ := sm_inj h
    exact qS2
  · have h := ifF c4 h
    by_cases c5 : x2 < 0
    · have h := ifT c5 h
      obtain ⟨rfl, rfl⟩ := sm_inj h
      exact qS2
    · have h := ifF c5 h
      by_cases c6 : x2 ≤ 9
      · have h := ifT c6 h
        obtain ⟨r7, S8, h9, h⟩ := bd_some h
        have qS8 : Fc S2 S8 := fc_X3_remember k15 h9
        obtain ⟨b10, h⟩ := bnd_some h
        obtain ⟨v11, e12, h⟩ := nm_some h
        obtain ⟨b13, h⟩ := bnd_some h
        obtain ⟨S14, e15, h⟩ := nm_some h
        have qS14 : Fc S8 S14 := by rw [e15]; exact Fc_sI (by decide)
        obtain ⟨rfl, rfl⟩ := sm_inj h
        exact qS2.tr (qS8.tr (qS14))
      · have h := ifF c6 h
        obtain ⟨rfl, rfl⟩ := sm_inj h
        exact qS2
theorem fc_X6_step {S S' : Mm} {r : Int32} {x1 : Int32} {x2 : Int32}  (h : f_X6_step S x1 x2 = some (r, S')) : Fc S S' := by
  unfold f_X6_step at h
  obtain ⟨r1, S2, h3, h⟩ := bd_some h
  have qS2 : Fc S S2 := fc_X6_isStep  h3
  by_cases c4 : r1 = 0
  · have h := ifT c4 h
    obtain ⟨rfl, rfl⟩ := sm_inj h
    exact qS2
  · have h := ifF c4 h
    by_cases c5 : x2 = 0
    · have h := ifT c5 h
      obtain ⟨b7, h⟩ := bnd_some h
      obtain ⟨rfl, rfl⟩ := sm_inj h
      exact qS2
    · have h := ifF c5 h
      by_cases c8 : x2 = 1
      · have h := ifT c8 h
        obtain ⟨b9, h⟩ := bnd_some h
        obtain ⟨rfl, rfl⟩ := sm_inj h
        exact qS2
      · have h := ifF c8 h
        by_cases c10 : x2 = 2
        · have h := ifT c10 h
          obtain ⟨b12, h⟩ := bnd_some h
          obtain ⟨rfl, rfl⟩ := sm_inj h
          exact qS2
        · have h := ifF c10 h
          by_cases c13 : x2 = 3
          · have h := ifT c13 h
            obtain ⟨b15, h⟩ := bnd_some h
            obtain ⟨rfl, rfl⟩ := sm_inj h
            exact qS2
          · have h := ifF c13 h
            by_cases c16 : x2 = 4
            · have h := ifT c16 h
              obtain ⟨rfl, rfl⟩ := sm_inj h
              exact qS2
            · have h := ifF c16 h
              by_cases c17 : x2 = 5
              · have h := ifT c17 h
                obtain ⟨b18, h⟩ := bnd_some h
                obtain ⟨rfl, rfl⟩ := sm_inj h
                exact qS2
              · have h := ifF c17 h
                by_cases c19 : x2 = 6
                · have h := ifT c19 h
                  obtain ⟨r21, S22, h23, h⟩ := bd_some h
                  have qS22 : Fc S2 S22 := fc_X1_placeOf  h23
                  obtain ⟨rfl, rfl⟩ := sm_inj h
                  exact qS2.tr (qS22)
                · have h := ifF c19 h
                  by_cases c24 : x2 = 7
                  · have h := ifT c24 h
                    obtain ⟨b26, h⟩ := bnd_some h
                    obtain ⟨rfl, rfl⟩ := sm_inj h
                    exact qS2
                  · have h := ifF c24 h
                    obtain ⟨rfl, rfl⟩ := sm_inj h
                    exact qS2
theorem fc_X6_tells {S S' : Mm} {r : Int32} {x1 : Int32} {x2 : Int32}  (h : f_X6_tells S x1 x2 = some (r, S')) : Fc S S' := by
  unfold f_X6_tells at h
  obtain ⟨r1, S2, h3, h⟩ := bd_some h
  have qS2 : Fc S S2 := fc_X6_isDraw  h3
  by_cases c4 : r1 = 0
  · have h := ifT c4 h
    obtain ⟨rfl, rfl⟩ := sm_inj h
    exact qS2
  · have h := ifF c4 h
    by_cases c5 : x2 < 0
    · have h := ifT c5 h
      obtain ⟨rfl, rfl⟩ := sm_inj h
      exact qS2
    · have h := ifF c5 h
      by_cases c6 : x2 ≤ 2
      · have h := ifT c6 h
        by_cases c7 : (gI S2 0 8) < 6
        · have h := ifT c7 h
          obtain ⟨b8, h⟩ := bnd_some h
          obtain ⟨S9, e10, h⟩ := nm_some h
          have qS9 : Fc S2 S9 := by rw [e10]; exact Fc_sI (by decide)
          obtain ⟨b11, h⟩ := bnd_some h
          obtain ⟨S12, e13, h⟩ := nm_some h
          have qS12 : Fc S9 S12 := by rw [e13]; exact Fc_sI (by decide)
          obtain ⟨S14, e15, h⟩ := nm_some h
          have qS14 : Fc S12 S14 := by rw [e15]; exact Fc_sI (by decide)
          obtain ⟨rfl, rfl⟩ := sm_inj h
          exact qS2.tr (qS9.tr (qS12.tr (qS14)))
        · have h := ifF c7 h
          obtain ⟨rfl, rfl⟩ := sm_inj h
          exact qS2
      · have h := ifF c6 h
        obtain ⟨rfl, rfl⟩ := sm_inj h
        exact qS2
theorem fc_X6_trace {S S' : Mm} {r : Int64}   (h : f_X6_trace S = some (r, S')) : Fc S S' := by
  unfold f_X6_trace at h
  obtain ⟨rfl, rfl⟩ := sm_inj h
  exact Fc.rf
theorem fc_X6_type {S S' : Mm} {r : Int32} {x1 : Int32}  (h : f_X6_type S x1 = some (r, S')) : Fc S S' := by
  unfold f_X6_type at h
  by_cases c1 : x1 < 0
  · have h := ifT c1 h
    obtain ⟨rfl, rfl⟩ := sm_inj h
    exact Fc.rf
  · have h := ifF c1 h
    by_cases c2 : x1 ≤ 255
    · have h := ifT c2 h
      obtain ⟨r3, S4, h5, h⟩ := bd_some h
      have qS4 : Fc S S4 := fc_X5_add  h5
      by_cases c6 : r3 = 0
      · have h := ifT c6 h
        obtain ⟨rfl, rfl⟩ := sm_inj h
        exact qS4
      · have h := ifF c6 h
        obtain ⟨rfl, rfl⟩ := sm_inj h
        exact qS4
    · have h := ifF c2 h
      obtain ⟨rfl, rfl⟩ := sm_inj h
      exact Fc.rf
theorem fc_X6_undo {S S' : Mm} {r : Int32}   (h : f_X6_undo S = some (r, S')) : Fc S S' := by
  unfold f_X6_undo at h
  obtain ⟨r1, S2, h3, h⟩ := bd_some h
  have qS2 : Fc S S2 := fc_X3_restore k15 h3
  by_cases c4 : r1 = 0
  · have h := ifT c4 h
    obtain ⟨rfl, rfl⟩ := sm_inj h
    exact qS2
  · have h := ifF c4 h
    obtain ⟨rfl, rfl⟩ := sm_inj h
    exact qS2
theorem fc_X6_who_57 {r : Int32} {S' : Mm}   {kk23 : Int32 → Int32 → Int32 → Int32 → Int32 → Mm → Option (Int32 × Mm)} (hk23 : ∀ (x1 : Int32) (x2 : Int32) (x3 : Int32) (x4 : Int32) (x5 : Int32) (S : Mm), kk23 x1 x2 x3 x4 x5 S = some (r, S') → Fc S S') : ∀ (x1 : Int32) (x2 : Int32) (x3 : Int32) (x4 : Int32) (x5 : Int32) (S : Mm), f_X6_who_57 kk23 x1 x2 x3 x4 x5 S = some (r, S') → Fc S S' := by
  intro x1 x2 x3 x4 x5 S h
  unfold f_X6_who_57 at h
  by_cases c1 : x2 = 0
  · have h := ifT c1 h
    obtain ⟨v8, e9, h⟩ := nm_some h
    obtain ⟨v10, e11, h⟩ := nm_some h
    exact (hk23 x1 v8 x3 x5 v10 S h)
  · have h := ifF c1 h
    obtain ⟨v2, e3, h⟩ := nm_some h
    obtain ⟨v4, e5, h⟩ := nm_some h
    obtain ⟨v6, e7, h⟩ := nm_some h
    exact (hk23 x1 v4 x3 v2 v6 S h)
theorem fc_X6_who_23 {r : Int32} {S' : Mm}    : ∀ (n : Nat) (x1 : Int32) (x2 : Int32) (x3 : Int32) (x4 : Int32) (x5 : Int32) (S : Mm), f_X6_who_23 n x1 x2 x3 x4 x5 S = some (r, S') → Fc S S' := by
  intro n
  induction n with
  | zero => intro x1 x2 x3 x4 x5 S h; cases h
  | succ n ih =>
    intro x1 x2 x3 x4 x5 S h
    rw [f_X6_who_23] at h
    by_cases c2 : (1 <<< ((gI S (pl S) 0) &&& 31)) ≤ x5
    · have h := ifT c2 h
      by_cases c3 : x1 = 0
      · have h := ifT c3 h
        obtain ⟨rfl, rfl⟩ := sm_inj h
        exact Fc.rf
      · have h := ifF c3 h
        by_cases c4 : x1 = 1
        · have h := ifT c4 h
          obtain ⟨rfl, rfl⟩ := sm_inj h
          exact Fc.rf
        · have h := ifF c4 h
          obtain ⟨rfl, rfl⟩ := sm_inj h
          exact Fc.rf
    · have h := ifF c2 h
      obtain ⟨r5, S6, h7, h⟩ := bd_some h
      have qS6 : Fc S S6 := fc_X6_explainsTold  h7
      by_cases c8 : r5 = 0
      · have h := ifT c8 h
        obtain ⟨v9, e10, h⟩ := nm_some h
        exact qS6.tr ((ih x1 x2 x3 x4 v9 S6 h))
      · have h := ifF c8 h
        by_cases c11 : x2 = 0
        · have h := ifT c11 h
          exact qS6.tr ((fc_X6_who_57 ih x1 x2 x5 x4 x5 S6 h))
        · have h := ifF c11 h
          exact qS6.tr ((fc_X6_who_57 ih x1 x2 x3 x4 x5 S6 h))
theorem fc_X6_who {S S' : Mm} {r : Int32} {x1 : Int32}  (h : f_X6_who S x1 = some (r, S')) : Fc S S' := by
  unfold f_X6_who at h
  by_cases c1 : x1 < 0
  · have h := ifT c1 h
    obtain ⟨rfl, rfl⟩ := sm_inj h
    exact Fc.rf
  · have h := ifF c1 h
    by_cases c2 : x1 ≤ 2
    · have h := ifT c2 h
      exact (fc_X6_who_23 400 x1 0 ((-9)) ((-9)) 0 S h)
    · have h := ifF c2 h
      obtain ⟨rfl, rfl⟩ := sm_inj h
      exact Fc.rf
theorem fm_X7_in {S S' : Mm} {r : Int32} {x0 : Int32} {x1 : Int32} {x2 : Int32}  (h : f_X7_in S x0 x1 x2 = some (r, S')) : Fm S S' := by
  unfold f_X7_in at h
  by_cases c1 : x0 < x1
  · have h := ifT c1 h
    obtain ⟨rfl, rfl⟩ := sm_inj h
    exact Fm.rf
  · have h := ifF c1 h
    by_cases c2 : x2 < x0
    · have h := ifT c2 h
      obtain ⟨rfl, rfl⟩ := sm_inj h
      exact Fm.rf
    · have h := ifF c2 h
      obtain ⟨rfl, rfl⟩ := sm_inj h
      exact Fm.rf
theorem fm_X7_back_25 {r : Int32} {S' : Mm}    : ∀ (n : Nat) (x1 : Int32) (x2 : Int32) (S : Mm), f_X7_back_25 n x1 x2 S = some (r, S') → Fm S S' := by
  intro n
  induction n with
  | zero => intro x1 x2 S h; cases h
  | succ n ih =>
    intro x1 x2 S h
    rw [f_X7_back_25] at h
    by_cases c1 : 221 ≤ x2
    · have h := ifT c1 h
      obtain ⟨b2, h⟩ := bnd_some h
      obtain ⟨rfl, rfl⟩ := sm_inj h
      exact Fm.rf
    · have h := ifF c1 h
      obtain ⟨b3, h⟩ := bnd_some h
      obtain ⟨b4, h⟩ := bnd_some h
      obtain ⟨S5, e6, h⟩ := nm_some h
      have qS5 : Fm S S5 := by rw [e6]; exact Fm_sI (by decide)
      obtain ⟨v7, e8, h⟩ := nm_some h
      exact qS5.tr ((ih x1 v7 S5 h))
theorem fm_X7_back {S S' : Mm} {r : Int32} {x1 : Int32}  (h : f_X7_back S x1 = some (r, S')) : Fm S S' := by
  unfold f_X7_back at h
  obtain ⟨r1, S2, h3, h⟩ := bd_some h
  have qS2 : Fm S S2 := fm_X7_in  h3
  by_cases c4 : r1 = 0
  · have h := ifT c4 h
    obtain ⟨rfl, rfl⟩ := sm_inj h
    exact qS2
  · have h := ifF c4 h
    obtain ⟨b5, h⟩ := bnd_some h
    by_cases c6 : (gI S2 173 x1.toNatClampNeg) = 0
    · have h := ifT c6 h
      obtain ⟨rfl, rfl⟩ := sm_inj h
      exact qS2
    · have h := ifF c6 h
      exact qS2.tr ((fm_X7_back_25 400 x1 0 S2 h))
theorem fm_X7_begin_22 {r : Unit} {S' : Mm}    : ∀ (n : Nat) (x1 : Int32) (S : Mm), f_X7_begin_22 n x1 S = some (r, S') → Fm S S' := by
  intro n
  induction n with
  | zero => intro x1 S h; cases h
  | succ n ih =>
    intro x1 S h
    rw [f_X7_begin_22] at h
    by_cases c1 : 5 ≤ x1
    · have h := ifT c1 h
      obtain ⟨rfl, rfl⟩ := sm_inj h
      exact Fm.rf
    · have h := ifF c1 h
      obtain ⟨b2, h⟩ := bnd_some h
      obtain ⟨S3, e4, h⟩ := nm_some h
      have qS3 : Fm S S3 := by rw [e4]; exact Fm_sJ (by decide)
      obtain ⟨b5, h⟩ := bnd_some h
      obtain ⟨S6, e7, h⟩ := nm_some h
      have qS6 : Fm S3 S6 := by rw [e7]; exact Fm_sJ (by decide)
      obtain ⟨v8, e9, h⟩ := nm_some h
      exact qS3.tr (qS6.tr ((ih v8 S6 h)))
theorem fm_X7_begin {S S' : Mm} {r : Unit}   (h : f_X7_begin S = some (r, S')) : Fm S S' := by
  unfold f_X7_begin at h
  obtain ⟨S1, e2, h⟩ := nm_some h
  have qS1 : Fm S S1 := by rw [e2]; exact Fm_sJ (by decide)
  obtain ⟨S3, e4, h⟩ := nm_some h
  have qS3 : Fm S1 S3 := by rw [e4]; exact Fm_sJ (by decide)
  obtain ⟨S5, e6, h⟩ := nm_some h
  have qS5 : Fm S3 S5 := by rw [e6]; exact Fm_sJ (by decide)
  obtain ⟨S7, e8, h⟩ := nm_some h
  have qS7 : Fm S5 S7 := by rw [e8]; exact Fm_sJ (by decide)
  exact qS1.tr (qS3.tr (qS5.tr (qS7.tr ((fm_X7_begin_22 400 0 S7 h)))))
theorem fm_X7_takeRow_2 {r : Unit} {S' : Mm}    : ∀ (n : Nat) (x1 : Int32) (S : Mm), f_X7_takeRow_2 n x1 S = some (r, S') → Fm S S' := by
  intro n
  induction n with
  | zero => intro x1 S h; cases h
  | succ n ih =>
    intro x1 S h
    rw [f_X7_takeRow_2] at h
    by_cases c1 : 5 ≤ x1
    · have h := ifT c1 h
      obtain ⟨rfl, rfl⟩ := sm_inj h
      exact Fm.rf
    · have h := ifF c1 h
      obtain ⟨b2, h⟩ := bnd_some h
      obtain ⟨b3, h⟩ := bnd_some h
      obtain ⟨S4, e5, h⟩ := nm_some h
      have qS4 : Fm S S4 := by rw [e5]; exact Fm_sI (by decide)
      obtain ⟨v6, e7, h⟩ := nm_some h
      exact qS4.tr ((ih v6 S4 h))
theorem fm_X7_takeRow {S S' : Mm} {r : Unit}   (h : f_X7_takeRow S = some (r, S')) : Fm S S' := by
  unfold f_X7_takeRow at h
  exact (fm_X7_takeRow_2 400 0 S h)
theorem fm_X7_grow_50 {r : Unit} {S' : Mm}    : ∀ (n : Nat) (x1 : Int32) (S : Mm), f_X7_grow_50 n x1 S = some (r, S') → Fm S S' := by
  intro n
  induction n with
  | zero => intro x1 S h; cases h
  | succ n ih =>
    intro x1 S h
    rw [f_X7_grow_50] at h
    by_cases c1 : 5 ≤ x1
    · have h := ifT c1 h
      obtain ⟨rfl, rfl⟩ := sm_inj h
      exact Fm.rf
    · have h := ifF c1 h
      obtain ⟨b2, h⟩ := bnd_some h
      obtain ⟨b3, h⟩ := bnd_some h
      obtain ⟨S4, e5, h⟩ := nm_some h
      have qS4 : Fm S S4 := by rw [e5]; exact Fm_sJ (by decide)
      obtain ⟨b6, h⟩ := bnd_some h
      obtain ⟨b7, h⟩ := bnd_some h
      obtain ⟨S8, e9, h⟩ := nm_some h
      have qS8 : Fm S4 S8 := by rw [e9]; exact Fm_sJ (by decide)
      obtain ⟨v10, e11, h⟩ := nm_some h
      exact qS4.tr (qS8.tr ((ih v10 S8 h)))
theorem fm_X7_grow {S S' : Mm} {r : Unit}   (h : f_X7_grow S = some (r, S')) : Fm S S' := by
  unfold f_X7_grow at h
  obtain ⟨S1, e2, h⟩ := nm_some h
  have qS1 : Fm S S1 := by rw [e2]; exact Fm_sJ (by decide)
  obtain ⟨S3, e4, h⟩ := nm_some h
  have qS3 : Fm S1 S3 := by rw [e4]; exact Fm_sJ (by decide)
  obtain ⟨S5, e6, h⟩ := nm_some h
  have qS5 : Fm S3 S5 := by rw [e6]; exact Fm_sJ (by decide)
  obtain ⟨S7, e8, h⟩ := nm_some h
  have qS7 : Fm S5 S7 := by rw [e8]; exact Fm_sJ (by decide)
  exact qS1.tr (qS3.tr (qS5.tr (qS7.tr ((fm_X7_grow_50 400 0 S7 h)))))
theorem fm_X7_work {S S' : Mm} {r : Unit} {x1 : Int32}  (h : f_X7_work S x1 = some (r, S')) : Fm S S' := by
  unfold f_X7_work at h
  obtain ⟨b1, h⟩ := bnd_some h
  obtain ⟨v2, e3, h⟩ := nm_some h
  obtain ⟨b4, h⟩ := bnd_some h
  obtain ⟨S5, e6, h⟩ := nm_some h
  have qS5 : Fm S S5 := by rw [e6]; exact Fm_sJ (by decide)
  obtain ⟨r7, S8, h9, h⟩ := bd_some h
  have qS8 : Fm S5 S8 := fm_X7_grow  h9
  obtain ⟨b10, h⟩ := bnd_some h
  obtain ⟨v11, e12, h⟩ := nm_some h
  obtain ⟨S13, e14, h⟩ := nm_some h
  have qS13 : Fm S8 S13 := by rw [e14]; exact Fm_sJ (by decide)
  obtain ⟨S15, e16, h⟩ := nm_some h
  have qS15 : Fm S13 S15 := by rw [e16]; exact Fm_sJ (by decide)
  obtain ⟨b17, h⟩ := bnd_some h
  obtain ⟨b18, h⟩ := bnd_some h
  obtain ⟨S19, e20, h⟩ := nm_some h
  have qS19 : Fm S15 S19 := by rw [e20]; exact Fm_sJ (by decide)
  obtain ⟨rfl, rfl⟩ := sm_inj h
  exact qS5.tr (qS8.tr (qS13.tr (qS15.tr (qS19))))
theorem fm_X7_lookAt_92 {r : Unit} {S' : Mm}    : ∀ (n : Nat) (x1 : Int32) (x3 : Int32) (x4 : Int32) (S : Mm), f_X7_lookAt_92 n x1 x3 x4 S = some (r, S') → Fm S S' := by
  intro n
  induction n with
  | zero => intro x1 x3 x4 S h; cases h
  | succ n ih =>
    intro x1 x3 x4 S h
    rw [f_X7_lookAt_92] at h
    by_cases c1 : x1 < x4
    · have h := ifT c1 h
      obtain ⟨rfl, rfl⟩ := sm_inj h
      exact Fm.rf
    · have h := ifF c1 h
      obtain ⟨b2, h⟩ := bnd_some h
      obtain ⟨b3, h⟩ := bnd_some h
      obtain ⟨b4, h⟩ := bnd_some h
      obtain ⟨S5, e6, h⟩ := nm_some h
      have qS5 : Fm S S5 := by rw [e6]; exact Fm_sJ (by decide)
      obtain ⟨v7, e8, h⟩ := nm_some h
      exact qS5.tr ((ih x1 x3 v7 S5 h))
theorem fm_X7_lookAt_41 {r : Unit} {S' : Mm}    : ∀ (x1 : Int32) (x2 : Int32) (x3 : Int32) (S : Mm), f_X7_lookAt_41 x1 x2 x3 S = some (r, S') → Fm S S' := by
  intro x1 x2 x3 S h
  unfold f_X7_lookAt_41 at h
  obtain ⟨r1, S2, h3, h⟩ := bd_some h
  have qS2 : Fm S S2 := fm_X7_grow  h3
  by_cases c4 : x2 = 0
  · have h := ifT c4 h
    obtain ⟨rfl, rfl⟩ := sm_inj h
    exact qS2
  · have h := ifF c4 h
    obtain ⟨b5, h⟩ := bnd_some h
    obtain ⟨b6, h⟩ := bnd_some h
    obtain ⟨S7, e8, h⟩ := nm_some h
    have qS7 : Fm S2 S7 := by rw [e8]; exact Fm_sJ (by decide)
    obtain ⟨b9, h⟩ := bnd_some h
    obtain ⟨S10, e11, h⟩ := nm_some h
    have qS10 : Fm S7 S10 := by rw [e11]; exact Fm_sJ (by decide)
    exact qS2.tr (qS7.tr (qS10.tr ((fm_X7_lookAt_92 400 x1 x3 0 S10 h))))
theorem fm_X7_lookAt {S S' : Mm} {r : Unit} {x1 : Int32} {x2 : Int32}  (h : f_X7_lookAt S x1 x2 = some (r, S')) : Fm S S' := by
  unfold f_X7_lookAt at h
  obtain ⟨b1, h⟩ := bnd_some h
  obtain ⟨v2, e3, h⟩ := nm_some h
  by_cases c4 : x2 = 0
  · have h := ifT c4 h
    obtain ⟨S5, e6, h⟩ := nm_some h
    have qS5 : Fm S S5 := by rw [e6]; exact Fm_sJ (by decide)
    exact qS5.tr ((fm_X7_lookAt_41 x1 x2 v2 S5 h))
  · have h := ifF c4 h
    obtain ⟨b7, h⟩ := bnd_some h
    obtain ⟨S8, e9, h⟩ := nm_some h
    have qS8 : Fm S S8 := by rw [e9]; exact Fm_sJ (by decide)
    exact qS8.tr ((fm_X7_lookAt_41 x1 x2 v2 S8 h))
theorem fm_X7_measure_6 {r : Unit} {S' : Mm}    : ∀ (n : Nat) (x1 : Int32) (x2 : Int32) (S : Mm), f_X7_measure_6 n x1 x2 S = some (r, S') → Fm S S' := by
  intro n
  induction n with
  | zero => intro x1 x2 S h; cases h
  | succ n ih =>
    intro x1 x2 S h
    rw [f_X7_measure_6] at h
    obtain ⟨b1, h⟩ := bnd_some h
    by_cases c2 : (gI S 165 (0 : Int32).toNatClampNeg) ≤ x2
    · have h := ifT c2 h
      obtain ⟨b3, h⟩ := bnd_some h
      obtain ⟨S4, e5, h⟩ := nm_some h
      have qS4 : Fm S S4 := by rw [e5]; exact Fm_sJ (by decide)
      obtain ⟨rfl, rfl⟩ := sm_inj h
      exact qS4
    · have h := ifF c2 h
      obtain ⟨r6, S7, h8, h⟩ := bd_some h
      have qS7 : Fm S S7 := fm_X7_work  h8
      obtain ⟨b9, h⟩ := bnd_some h
      by_cases c10 : ((x1 >>> ((gI S7 174 x2.toNatClampNeg) &&& 31)) &&& 1) = 1
      · have h := ifT c10 h
        obtain ⟨r16, S17, h18, h⟩ := bd_some h
        have qS17 : Fm S7 S17 := fm_X7_lookAt  h18
        obtain ⟨v19, e20, h⟩ := nm_some h
        exact qS7.tr (qS17.tr ((ih x1 v19 S17 h)))
      · have h := ifF c10 h
        obtain ⟨r11, S12, h13, h⟩ := bd_some h
        have qS12 : Fm S7 S12 := fm_X7_lookAt  h13
        obtain ⟨v14, e15, h⟩ := nm_some h
        exact qS7.tr (qS12.tr ((ih x1 v14 S12 h)))
theorem fm_X7_measure {S S' : Mm} {r : Unit} {x1 : Int32}  (h : f_X7_measure S x1 = some (r, S')) : Fm S S' := by
  unfold f_X7_measure at h
  obtain ⟨r1, S2, h3, h⟩ := bd_some h
  have qS2 : Fm S S2 := fm_X7_begin  h3
  exact qS2.tr ((fm_X7_measure_6 400 x1 0 S2 h))
theorem fm_X7_bestLooks_13 {r : Int32} {S' : Mm}    : ∀ (n : Nat) (x1 : Int32) (x2 : Int64) (x4 : Int32) (S : Mm), f_X7_bestLooks_13 n x1 x2 x4 S = some (r, S') → Fm S S' := by
  intro n
  induction n with
  | zero => intro x1 x2 x4 S h; cases h
  | succ n ih =>
    intro x1 x2 x4 S h
    rw [f_X7_bestLooks_13] at h
    obtain ⟨b1, h⟩ := bnd_some h
    by_cases c2 : (1 <<< ((gI S 165 (0 : Int32).toNatClampNeg) &&& 31)) ≤ x4
    · have h := ifT c2 h
      obtain ⟨rfl, rfl⟩ := sm_inj h
      exact Fm.rf
    · have h := ifF c2 h
      obtain ⟨r3, S4, h5, h⟩ := bd_some h
      have qS4 : Fm S S4 := fm_X7_measure  h5
      by_cases c6 : (lg_cmp x2 0) < 0
      · have h := ifT c6 h
        obtain ⟨v7, e8, h⟩ := nm_some h
        obtain ⟨v9, e10, h⟩ := nm_some h
        exact qS4.tr ((ih x4 v7 v9 S4 h))
      · have h := ifF c6 h
        by_cases c11 : 0 ≤ (lg_cmp (gJ S4 163 22) x2)
        · have h := ifT c11 h
          obtain ⟨v12, e13, h⟩ := nm_some h
          exact qS4.tr ((ih x1 x2 v12 S4 h))
        · have h := ifF c11 h
          obtain ⟨v14, e15, h⟩ := nm_some h
          obtain ⟨v16, e17, h⟩ := nm_some h
          exact qS4.tr ((ih x4 v14 v16 S4 h))
theorem fm_X7_bestLooks {S S' : Mm} {r : Int32}   (h : f_X7_bestLooks S = some (r, S')) : Fm S S' := by
  unfold f_X7_bestLooks at h
  obtain ⟨r1, S2, h3, h⟩ := bd_some h
  have qS2 : Fm S S2 := fm_X7_takeRow  h3
  exact qS2.tr ((fm_X7_bestLooks_13 400 0 ((-1)) 0 S2 h))
theorem fm_X7_isStep {S S' : Mm} {r : Int32} {x1 : Int32}  (h : f_X7_isStep S x1 = some (r, S')) : Fm S S' := by
  unfold f_X7_isStep at h
  obtain ⟨b1, h⟩ := bnd_some h
  obtain ⟨r2, S3, h4, h⟩ := bd_some h
  have qS3 : Fm S S3 := fm_X7_in  h4
  obtain ⟨b5, h⟩ := bnd_some h
  obtain ⟨rfl, rfl⟩ := sm_inj h
  exact qS3
theorem fm_X7_isLawful_16 {r : Int32} {S' : Mm}   {kk4 : Int32 → Int32 → Mm → Option (Int32 × Mm)} (hk4 : ∀ (x1 : Int32) (x2 : Int32) (S : Mm), kk4 x1 x2 S = some (r, S') → Fm S S') : ∀ (n : Nat) (x1 : Int32) (x2 : Int32) (x3 : Int32) (S : Mm), f_X7_isLawful_16 kk4 n x1 x2 x3 S = some (r, S') → Fm S S' := by
  intro n
  induction n with
  | zero => intro x1 x2 x3 S h; cases h
  | succ n ih =>
    intro x1 x2 x3 S h
    rw [f_X7_isLawful_16] at h
    by_cases c1 : x2 ≤ x3
    · have h := ifT c1 h
      obtain ⟨v2, e3, h⟩ := nm_some h
      exact (hk4 x1 v2 S h)
    · have h := ifF c1 h
      by_cases c4 : x1 = 0
      · have h := ifT c4 h
        obtain ⟨v5, e6, h⟩ := nm_some h
        exact (ih 0 x2 v5 S h)
      · have h := ifF c4 h
        obtain ⟨b7, h⟩ := bnd_some h
        obtain ⟨b8, h⟩ := bnd_some h
        obtain ⟨b9, h⟩ := bnd_some h
        by_cases c10 : (((gI S 170 (gI S 174 x2.toNatClampNeg).toNatClampNeg) >>> ((gI S 174 x3.toNatClampNeg) &&& 31)) &&& 1) = 0
        · have h := ifT c10 h
          obtain ⟨v13, e14, h⟩ := nm_some h
          exact (ih 1 x2 v13 S h)
        · have h := ifF c10 h
          obtain ⟨v11, e12, h⟩ := nm_some h
          exact (ih 0 x2 v11 S h)
theorem fm_X7_isLawful_4 {r : Int32} {S' : Mm}    : ∀ (n : Nat) (x1 : Int32) (x2 : Int32) (S : Mm), f_X7_isLawful_4 n x1 x2 S = some (r, S') → Fm S S' := by
  intro n
  induction n with
  | zero => intro x1 x2 S h; cases h
  | succ n ih =>
    intro x1 x2 S h
    rw [f_X7_isLawful_4] at h
    obtain ⟨b1, h⟩ := bnd_some h
    by_cases c2 : (gI S 165 (0 : Int32).toNatClampNeg) ≤ x2
    · have h := ifT c2 h
      obtain ⟨b3, h⟩ := bnd_some h
      obtain ⟨rfl, rfl⟩ := sm_inj h
      exact Fm.rf
    · have h := ifF c2 h
      exact (fm_X7_isLawful_16 ih 400 x1 x2 0 S h)
theorem fm_X7_isLawful {S S' : Mm} {r : Int32}   (h : f_X7_isLawful S = some (r, S')) : Fm S S' := by
  unfold f_X7_isLawful at h
  exact (fm_X7_isLawful_4 400 1 0 S h)
theorem fm_X7_nextRow_113 {r : Int32} {S' : Mm}    : ∀ (n : Nat) (x4 : Int32) (x5 : Int32) (S : Mm), f_X7_nextRow_113 n x4 x5 S = some (r, S') → Fm S S' := by
  intro n
  induction n with
  | zero => intro x4 x5 S h; cases h
  | succ n ih =>
    intro x4 x5 S h
    rw [f_X7_nextRow_113] at h
    by_cases c1 : x5 ≤ x4
    · have h := ifT c1 h
      obtain ⟨rfl, rfl⟩ := sm_inj h
      exact Fm.rf
    · have h := ifF c1 h
      obtain ⟨b2, h⟩ := bnd_some h
      obtain ⟨v3, e4, h⟩ := nm_some h
      obtain ⟨b5, h⟩ := bnd_some h
      obtain ⟨b6, h⟩ := bnd_some h
      obtain ⟨S7, e8, h⟩ := nm_some h
      have qS7 : Fm S S7 := by rw [e8]; exact Fm_sI (by decide)
      obtain ⟨b9, h⟩ := bnd_some h
      obtain ⟨S10, e11, h⟩ := nm_some h
      have qS10 : Fm S7 S10 := by rw [e11]; exact Fm_sI (by decide)
      obtain ⟨v12, e13, h⟩ := nm_some h
      obtain ⟨v14, e15, h⟩ := nm_some h
      exact qS7.tr (qS10.tr ((ih v12 v14 S10 h)))
theorem fm_X7_nextRow_51 {r : Int32} {S' : Mm}    : ∀ (n : Nat) (x1 : Int32) (x2 : Int32) (S : Mm), f_X7_nextRow_51 n x1 x2 S = some (r, S') → Fm S S' := by
  intro n
  induction n with
  | zero => intro x1 x2 S h; cases h
  | succ n ih =>
    intro x1 x2 S h
    rw [f_X7_nextRow_51] at h
    obtain ⟨b1, h⟩ := bnd_some h
    obtain ⟨b2, h⟩ := bnd_some h
    by_cases c3 : (gI S 174 x1.toNatClampNeg) ≤ (gI S 174 x2.toNatClampNeg)
    · have h := ifT c3 h
      obtain ⟨b4, h⟩ := bnd_some h
      obtain ⟨v5, e6, h⟩ := nm_some h
      obtain ⟨b7, h⟩ := bnd_some h
      obtain ⟨b8, h⟩ := bnd_some h
      obtain ⟨S9, e10, h⟩ := nm_some h
      have qS9 : Fm S S9 := by rw [e10]; exact Fm_sI (by decide)
      obtain ⟨b11, h⟩ := bnd_some h
      obtain ⟨S12, e13, h⟩ := nm_some h
      have qS12 : Fm S9 S12 := by rw [e13]; exact Fm_sI (by decide)
      obtain ⟨v14, e15, h⟩ := nm_some h
      obtain ⟨b16, h⟩ := bnd_some h
      obtain ⟨v17, e18, h⟩ := nm_some h
      exact qS9.tr (qS12.tr ((fm_X7_nextRow_113 400 v14 v17 S12 h)))
    · have h := ifF c3 h
      obtain ⟨v19, e20, h⟩ := nm_some h
      exact (ih x1 v19 S h)
theorem fm_X7_nextRow_36 {r : Int32} {S' : Mm}    : ∀ (x1 : Int32) (S : Mm), f_X7_nextRow_36 x1 S = some (r, S') → Fm S S' := by
  intro x1 S h
  unfold f_X7_nextRow_36 at h
  by_cases c1 : 0 ≤ x1
  · have h := ifT c1 h
    obtain ⟨b2, h⟩ := bnd_some h
    obtain ⟨v3, e4, h⟩ := nm_some h
    exact (fm_X7_nextRow_51 400 x1 v3 S h)
  · have h := ifF c1 h
    obtain ⟨rfl, rfl⟩ := sm_inj h
    exact Fm.rf
theorem fm_X7_nextRow_9 {r : Int32} {S' : Mm}    : ∀ (n : Nat) (x1 : Int32) (S : Mm), f_X7_nextRow_9 n x1 S = some (r, S') → Fm S S' := by
  intro n
  induction n with
  | zero => intro x1 S h; cases h
  | succ n ih =>
    intro x1 S h
    rw [f_X7_nextRow_9] at h
    by_cases c1 : x1 < 0
    · have h := ifT c1 h
      exact (fm_X7_nextRow_36 x1 S h)
    · have h := ifF c1 h
      obtain ⟨b2, h⟩ := bnd_some h
      obtain ⟨b3, h⟩ := bnd_some h
      by_cases c4 : (gI S 174 x1.toNatClampNeg) ≤ (gI S 174 (x1 + 1).toNatClampNeg)
      · have h := ifT c4 h
        exact (fm_X7_nextRow_36 x1 S h)
      · have h := ifF c4 h
        obtain ⟨v5, e6, h⟩ := nm_some h
        exact (ih v5 S h)
theorem fm_X7_nextRow {S S' : Mm} {r : Int32}   (h : f_X7_nextRow S = some (r, S')) : Fm S S' := by
  unfold f_X7_nextRow at h
  obtain ⟨b1, h⟩ := bnd_some h
  obtain ⟨v2, e3, h⟩ := nm_some h
  exact (fm_X7_nextRow_9 400 v2 S h)
theorem fm_X7_bestOrder_83 {r : Int32} {S' : Mm}   {kk37 : Int32 → Int64 → Int32 → Mm → Option (Int32 × Mm)} (hk37 : ∀ (x1 : Int32) (x2 : Int64) (x4 : Int32) (S : Mm), kk37 x1 x2 x4 S = some (r, S') → Fm S S') : ∀ (n : Nat) (x1 : Int32) (x2 : Int64) (x5 : Int32) (S : Mm), f_X7_bestOrder_83 kk37 n x1 x2 x5 S = some (r, S') → Fm S S' := by
  intro n
  induction n with
  | zero => intro x1 x2 x5 S h; cases h
  | succ n ih =>
    intro x1 x2 x5 S h
    rw [f_X7_bestOrder_83] at h
    by_cases c1 : 5 ≤ x5
    · have h := ifT c1 h
      obtain ⟨r2, S3, h4, h⟩ := bd_some h
      have qS3 : Fm S S3 := fm_X7_nextRow  h4
      exact qS3.tr ((hk37 x1 x2 r2 S3 h))
    · have h := ifF c1 h
      obtain ⟨b5, h⟩ := bnd_some h
      obtain ⟨b6, h⟩ := bnd_some h
      obtain ⟨S7, e8, h⟩ := nm_some h
      have qS7 : Fm S S7 := by rw [e8]; exact Fm_sI (by decide)
      obtain ⟨v9, e10, h⟩ := nm_some h
      exact qS7.tr ((ih x1 x2 v9 S7 h))
theorem fm_X7_bestOrder_37 {r : Int32} {S' : Mm}    : ∀ (n : Nat) (x1 : Int32) (x2 : Int64) (x4 : Int32) (S : Mm), f_X7_bestOrder_37 n x1 x2 x4 S = some (r, S') → Fm S S' := by
  intro n
  induction n with
  | zero => intro x1 x2 x4 S h; cases h
  | succ n ih =>
    intro x1 x2 x4 S h
    rw [f_X7_bestOrder_37] at h
    by_cases c1 : x4 = 0
    · have h := ifT c1 h
      obtain ⟨b2, h⟩ := bnd_some h
      obtain ⟨rfl, rfl⟩ := sm_inj h
      exact Fm.rf
    · have h := ifF c1 h
      obtain ⟨r3, S4, h5, h⟩ := bd_some h
      have qS4 : Fm S S4 := fm_X7_isLawful  h5
      by_cases c6 : r3 = 0
      · have h := ifT c6 h
        obtain ⟨r7, S8, h9, h⟩ := bd_some h
        have qS8 : Fm S4 S8 := fm_X7_nextRow  h9
        exact qS4.tr (qS8.tr ((ih x1 x2 r7 S8 h)))
      · have h := ifF c6 h
        obtain ⟨b10, h⟩ := bnd_some h
        obtain ⟨r11, S12, h13, h⟩ := bd_some h
        have qS12 : Fm S4 S12 := fm_X7_measure  h13
        by_cases c14 : (lg_cmp x2 0) < 0
        · have h := ifT c14 h
          obtain ⟨v15, e16, h⟩ := nm_some h
          exact qS4.tr (qS12.tr ((fm_X7_bestOrder_83 ih 400 x1 v15 0 S12 h)))
        · have h := ifF c14 h
          by_cases c17 : 0 ≤ (lg_cmp (gJ S12 163 22) x2)
          · have h := ifT c17 h
            obtain ⟨r18, S19, h20, h⟩ := bd_some h
            have qS19 : Fm S12 S19 := fm_X7_nextRow  h20
            exact qS4.tr (qS12.tr (qS19.tr ((ih x1 x2 r18 S19 h))))
          · have h := ifF c17 h
            obtain ⟨v21, e22, h⟩ := nm_some h
            exact qS4.tr (qS12.tr ((fm_X7_bestOrder_83 ih 400 x1 v21 0 S12 h)))
theorem fm_X7_bestOrder_12 {r : Int32} {S' : Mm}    : ∀ (n : Nat) (x1 : Int32) (x2 : Int32) (S : Mm), f_X7_bestOrder_12 n x1 x2 S = some (r, S') → Fm S S' := by
  intro n
  induction n with
  | zero => intro x1 x2 S h; cases h
  | succ n ih =>
    intro x1 x2 S h
    rw [f_X7_bestOrder_12] at h
    by_cases c1 : 5 ≤ x2
    · have h := ifT c1 h
      exact (fm_X7_bestOrder_37 400 x1 ((-1)) 1 S h)
    · have h := ifF c1 h
      obtain ⟨b2, h⟩ := bnd_some h
      obtain ⟨S3, e4, h⟩ := nm_some h
      have qS3 : Fm S S3 := by rw [e4]; exact Fm_sI (by decide)
      obtain ⟨v5, e6, h⟩ := nm_some h
      exact qS3.tr ((ih x1 v5 S3 h))
theorem fm_X7_bestOrder {S S' : Mm} {r : Int32} {x1 : Int32}  (h : f_X7_bestOrder S x1 = some (r, S')) : Fm S S' := by
  unfold f_X7_bestOrder at h
  obtain ⟨r1, S2, h3, h⟩ := bd_some h
  have qS2 : Fm S S2 := fm_X7_isStep  h3
  by_cases c4 : r1 = 0
  · have h := ifT c4 h
    obtain ⟨rfl, rfl⟩ := sm_inj h
    exact qS2
  · have h := ifF c4 h
    exact qS2.tr ((fm_X7_bestOrder_12 400 x1 0 S2 h))
theorem fm_X7_blameFor_10 {r : Unit} {S' : Mm}    : ∀ (n : Nat) (x1 : Int32) (x2 : Int32) (S : Mm), f_X7_blameFor_10 n x1 x2 S = some (r, S') → Fm S S' := by
  intro n
  induction n with
  | zero => intro x1 x2 S h; cases h
  | succ n ih =>
    intro x1 x2 S h
    rw [f_X7_blameFor_10] at h
    by_cases c1 : x1 < x2
    · have h := ifT c1 h
      obtain ⟨rfl, rfl⟩ := sm_inj h
      exact Fm.rf
    · have h := ifF c1 h
      obtain ⟨r2, S3, h4, h⟩ := bd_some h
      have qS3 : Fm S S3 := fm_X7_work  h4
      by_cases c5 : x1 ≤ x2
      · have h := ifT c5 h
        obtain ⟨r6, S7, h8, h⟩ := bd_some h
        have qS7 : Fm S3 S7 := fm_X7_lookAt  h8
        obtain ⟨v9, e10, h⟩ := nm_some h
        exact qS3.tr (qS7.tr ((ih x1 v9 S7 h)))
      · have h := ifF c5 h
        obtain ⟨b11, h⟩ := bnd_some h
        obtain ⟨b12, h⟩ := bnd_some h
        by_cases c13 : (((gI S3 172 (10 : Int32).toNatClampNeg) >>> ((gI S3 174 x2.toNatClampNeg) &&& 31)) &&& 1) = 1
        · have h := ifT c13 h
          obtain ⟨r19, S20, h21, h⟩ := bd_some h
          have qS20 : Fm S3 S20 := fm_X7_lookAt  h21
          obtain ⟨v22, e23, h⟩ := nm_some h
          exact qS3.tr (qS20.tr ((ih x1 v22 S20 h)))
        · have h := ifF c13 h
          obtain ⟨r14, S15, h16, h⟩ := bd_some h
          have qS15 : Fm S3 S15 := fm_X7_lookAt  h16
          obtain ⟨v17, e18, h⟩ := nm_some h
          exact qS3.tr (qS15.tr ((ih x1 v17 S15 h)))
theorem fm_X7_blameFor {S S' : Mm} {r : Unit} {x1 : Int32}  (h : f_X7_blameFor S x1 = some (r, S')) : Fm S S' := by
  unfold f_X7_blameFor at h
  obtain ⟨r1, S2, h3, h⟩ := bd_some h
  have qS2 : Fm S S2 := fm_X7_takeRow  h3
  obtain ⟨r4, S5, h6, h⟩ := bd_some h
  have qS5 : Fm S2 S5 := fm_X7_begin  h6
  exact qS2.tr (qS5.tr ((fm_X7_blameFor_10 400 x1 0 S5 h)))
theorem fm_X7_isTold {S S' : Mm} {r : Int32} {x1 : Int32}  (h : f_X7_isTold S x1 = some (r, S')) : Fm S S' := by
  unfold f_X7_isTold at h
  obtain ⟨b1, h⟩ := bnd_some h
  obtain ⟨b2, h⟩ := bnd_some h
  by_cases c3 : (((gI S 172 (10 : Int32).toNatClampNeg) >>> ((gI S 174 x1.toNatClampNeg) &&& 31)) &&& 1) = 1
  · have h := ifT c3 h
    by_cases c4 : (lg_cmp (gJ S 163 24) 0) ≤ 0
    · have h := ifT c4 h
      obtain ⟨rfl, rfl⟩ := sm_inj h
      exact Fm.rf
    · have h := ifF c4 h
      obtain ⟨rfl, rfl⟩ := sm_inj h
      exact Fm.rf
  · have h := ifF c3 h
    obtain ⟨rfl, rfl⟩ := sm_inj h
    exact Fm.rf
theorem fm_X7_part_6 {r : Int64} {S' : Mm}    : ∀ (n : Nat) (x0 : Int64) (x2 : Int64) (x4 : Int32) (x5 : Int64) (x7 : Int64) (S : Mm), f_X7_part_6 n x0 x2 x4 x5 x7 S = some (r, S') → Fm S S' := by
  intro n
  induction n with
  | zero => intro x0 x2 x4 x5 x7 S h; cases h
  | succ n ih =>
    intro x0 x2 x4 x5 x7 S h
    rw [f_X7_part_6] at h
    by_cases c1 : (lg_cmp x7 0) = 0
    · have h := ifT c1 h
      by_cases c2 : x4 = 0
      · have h := ifT c2 h
        obtain ⟨b4, h⟩ := bnd_some h
        obtain ⟨rfl, rfl⟩ := sm_inj h
        exact Fm.rf
      · have h := ifF c2 h
        obtain ⟨b3, h⟩ := bnd_some h
        obtain ⟨rfl, rfl⟩ := sm_inj h
        exact Fm.rf
    · have h := ifF c1 h
      obtain ⟨b5, h⟩ := bnd_some h
      obtain ⟨v6, e7, h⟩ := nm_some h
      exact (ih x0 x2 x4 x7 v6 S h)
theorem fm_X7_part {S S' : Mm} {r : Int64} {x0 : Int64} {x2 : Int64} {x4 : Int32}  (h : f_X7_part S x0 x2 x4 = some (r, S')) : Fm S S' := by
  unfold f_X7_part at h
  exact (fm_X7_part_6 400 x0 x2 x4 x0 x2 S h)
theorem fm_X7_blame {S S' : Mm} {r : Int64} {x1 : Int32} {x2 : Int32} {x3 : Int32}  (h : f_X7_blame S x1 x2 x3 = some (r, S')) : Fm S S' := by
  unfold f_X7_blame at h
  obtain ⟨r1, S2, h3, h⟩ := bd_some h
  have qS2 : Fm S S2 := fm_X7_isStep  h3
  by_cases c4 : r1 = 0
  · have h := ifT c4 h
    obtain ⟨rfl, rfl⟩ := sm_inj h
    exact qS2
  · have h := ifF c4 h
    obtain ⟨r5, S6, h7, h⟩ := bd_some h
    have qS6 : Fm S2 S6 := fm_X7_isStep  h7
    by_cases c8 : r5 = 0
    · have h := ifT c8 h
      obtain ⟨rfl, rfl⟩ := sm_inj h
      exact qS2.tr (qS6)
    · have h := ifF c8 h
      obtain ⟨r9, S10, h11, h⟩ := bd_some h
      have qS10 : Fm S6 S10 := fm_X7_in  h11
      by_cases c12 : r9 = 0
      · have h := ifT c12 h
        obtain ⟨rfl, rfl⟩ := sm_inj h
        exact qS2.tr (qS6.tr (qS10))
      · have h := ifF c12 h
        obtain ⟨r13, S14, h15, h⟩ := bd_some h
        have qS14 : Fm S10 S14 := fm_X7_blameFor  h15
        obtain ⟨r16, S17, h18, h⟩ := bd_some h
        have qS17 : Fm S14 S17 := fm_X7_isTold  h18
        by_cases c19 : r16 = 0
        · have h := ifT c19 h
          obtain ⟨rfl, rfl⟩ := sm_inj h
          exact qS2.tr (qS6.tr (qS10.tr (qS14.tr (qS17))))
        · have h := ifF c19 h
          obtain ⟨b20, h⟩ := bnd_some h
          obtain ⟨r21, S22, h23, h⟩ := bd_some h
          have qS22 : Fm S17 S22 := fm_X7_part  h23
          obtain ⟨rfl, rfl⟩ := sm_inj h
          exact qS2.tr (qS6.tr (qS10.tr (qS14.tr (qS17.tr (qS22)))))
theorem fm_X7_clear {S S' : Mm} {r : Int32}   (h : f_X7_clear S = some (r, S')) : Fm S S' := by
  unfold f_X7_clear at h
  obtain ⟨v1, e2, h⟩ := nm_some h
  obtain ⟨S3, e4, h⟩ := nm_some h
  have qS3 : Fm S S3 := by rw [e4]; exact Fm_sI (by decide)
  obtain ⟨rfl, rfl⟩ := sm_inj h
  exact qS3
theorem fm_X7_count {S S' : Mm} {r : Int32} {x1 : Int32}  (h : f_X7_count S x1 = some (r, S')) : Fm S S' := by
  unfold f_X7_count at h
  by_cases c1 : x1 = 0
  · have h := ifT c1 h
    obtain ⟨b2, h⟩ := bnd_some h
    obtain ⟨rfl, rfl⟩ := sm_inj h
    exact Fm.rf
  · have h := ifF c1 h
    by_cases c3 : x1 = 1
    · have h := ifT c3 h
      obtain ⟨b4, h⟩ := bnd_some h
      obtain ⟨rfl, rfl⟩ := sm_inj h
      exact Fm.rf
    · have h := ifF c3 h
      by_cases c5 : x1 = 2
      · have h := ifT c5 h
        obtain ⟨rfl, rfl⟩ := sm_inj h
        exact Fm.rf
      · have h := ifF c5 h
        by_cases c6 : x1 = 3
        · have h := ifT c6 h
          obtain ⟨b7, h⟩ := bnd_some h
          obtain ⟨rfl, rfl⟩ := sm_inj h
          exact Fm.rf
        · have h := ifF c6 h
          by_cases c8 : x1 = 4
          · have h := ifT c8 h
            obtain ⟨rfl, rfl⟩ := sm_inj h
            exact Fm.rf
          · have h := ifF c8 h
            obtain ⟨rfl, rfl⟩ := sm_inj h
            exact Fm.rf
theorem fm_X7_drawOf {S S' : Mm} {r : Int32} {x0 : Int32} {x1 : Int32}  (h : f_X7_drawOf S x0 x1 = some (r, S')) : Fm S S' := by
  unfold f_X7_drawOf at h
  obtain ⟨v1, e2, h⟩ := nm_some h
  obtain ⟨rfl, rfl⟩ := sm_inj h
  exact Fm.rf
theorem fm_X7_here {S S' : Mm} {r : Int32}   (h : f_X7_here S = some (r, S')) : Fm S S' := by
  unfold f_X7_here at h
  by_cases c1 : (gI S 163 2) ≤ (gI S 163 11)
  · have h := ifT c1 h
    obtain ⟨rfl, rfl⟩ := sm_inj h
    exact Fm.rf
  · have h := ifF c1 h
    obtain ⟨b2, h⟩ := bnd_some h
    obtain ⟨rfl, rfl⟩ := sm_inj h
    exact Fm.rf
theorem fm_X7_read_63 {r : Unit} {S' : Mm}    : ∀ (n : Nat) (x1 : Int32) (S : Mm), f_X7_read_63 n x1 S = some (r, S') → Fm S S' := by
  intro n
  induction n with
  | zero => intro x1 S h; cases h
  | succ n ih =>
    intro x1 S h
    rw [f_X7_read_63] at h
    obtain ⟨r1, S2, h3, h⟩ := bd_some h
    have qS2 : Fm S S2 := fm_X7_here  h3
    obtain ⟨r4, S5, h6, h⟩ := bd_some h
    have qS5 : Fm S2 S5 := fm_X7_in  h6
    by_cases c7 : r4 = 0
    · have h := ifT c7 h
      by_cases c8 : ((gI S5 163 11) - (gI S5 163 12)) = 1
      · have h := ifT c8 h
        obtain ⟨S11, e12, h⟩ := nm_some h
        have qS11 : Fm S5 S11 := by rw [e12]; exact Fm_sI (by decide)
        obtain ⟨rfl, rfl⟩ := sm_inj h
        exact qS2.tr (qS5.tr (qS11))
      · have h := ifF c8 h
        obtain ⟨S9, e10, h⟩ := nm_some h
        have qS9 : Fm S5 S9 := by rw [e10]; exact Fm_sI (by decide)
        obtain ⟨rfl, rfl⟩ := sm_inj h
        exact qS2.tr (qS5.tr (qS9))
    · have h := ifF c7 h
      obtain ⟨S13, e14, h⟩ := nm_some h
      have qS13 : Fm S5 S13 := by rw [e14]; exact Fm_sI (by decide)
      exact qS2.tr (qS5.tr (qS13.tr ((ih x1 S13 h))))
theorem fm_X7_read_126 {r : Unit} {S' : Mm}    : ∀ (n : Nat) (x1 : Int32) (S : Mm), f_X7_read_126 n x1 S = some (r, S') → Fm S S' := by
  intro n
  induction n with
  | zero => intro x1 S h; cases h
  | succ n ih =>
    intro x1 S h
    rw [f_X7_read_126] at h
    obtain ⟨r1, S2, h3, h⟩ := bd_some h
    have qS2 : Fm S S2 := fm_X7_here  h3
    obtain ⟨r4, S5, h6, h⟩ := bd_some h
    have qS5 : Fm S2 S5 := fm_X7_in  h6
    by_cases c7 : r4 = 0
    · have h := ifT c7 h
      by_cases c8 : 99 < (gI S5 163 14)
      · have h := ifT c8 h
        obtain ⟨S9, e10, h⟩ := nm_some h
        have qS9 : Fm S5 S9 := by rw [e10]; exact Fm_sI (by decide)
        obtain ⟨rfl, rfl⟩ := sm_inj h
        exact qS2.tr (qS5.tr (qS9))
      · have h := ifF c8 h
        by_cases c11 : x1 = 48
        · have h := ifT c11 h
          by_cases c14 : ((gI S5 163 11) - (gI S5 163 12)) ≤ 1
          · have h := ifT c14 h
            obtain ⟨S15, e16, h⟩ := nm_some h
            have qS15 : Fm S5 S15 := by rw [e16]; exact Fm_sI (by decide)
            obtain ⟨rfl, rfl⟩ := sm_inj h
            exact qS2.tr (qS5.tr (qS15))
          · have h := ifF c14 h
            obtain ⟨S17, e18, h⟩ := nm_some h
            have qS17 : Fm S5 S17 := by rw [e18]; exact Fm_sI (by decide)
            obtain ⟨rfl, rfl⟩ := sm_inj h
            exact qS2.tr (qS5.tr (qS17))
        · have h := ifF c11 h
          obtain ⟨S12, e13, h⟩ := nm_some h
          have qS12 : Fm S5 S12 := by rw [e13]; exact Fm_sI (by decide)
          obtain ⟨rfl, rfl⟩ := sm_inj h
          exact qS2.tr (qS5.tr (qS12))
    · have h := ifF c7 h
      by_cases c19 : (gI S5 163 14) ≤ 99
      · have h := ifT c19 h
        obtain ⟨r20, S21, h22, h⟩ := bd_some h
        have qS21 : Fm S5 S21 := fm_X7_here  h22
        obtain ⟨S23, e24, h⟩ := nm_some h
        have qS23 : Fm S21 S23 := by rw [e24]; exact Fm_sI (by decide)
        obtain ⟨S25, e26, h⟩ := nm_some h
        have qS25 : Fm S23 S25 := by rw [e26]; exact Fm_sI (by decide)
        exact qS2.tr (qS5.tr (qS21.tr (qS23.tr (qS25.tr ((ih x1 S25 h))))))
      · have h := ifF c19 h
        obtain ⟨S27, e28, h⟩ := nm_some h
        have qS27 : Fm S5 S27 := by rw [e28]; exact Fm_sI (by decide)
        obtain ⟨S29, e30, h⟩ := nm_some h
        have qS29 : Fm S27 S29 := by rw [e30]; exact Fm_sI (by decide)
        exact qS2.tr (qS5.tr (qS27.tr (qS29.tr ((ih x1 S29 h)))))
theorem fm_X7_read_0 {r : Unit} {S' : Mm}    : ∀ (n : Nat) (S : Mm), f_X7_read_0 n S = some (r, S') → Fm S S' := by
  intro n
  induction n with
  | zero => intro S h; cases h
  | succ n ih =>
    intro S h
    rw [f_X7_read_0] at h
    obtain ⟨r1, S2, h3, h⟩ := bd_some h
    have qS2 : Fm S S2 := fm_X7_here  h3
    by_cases c4 : r1 = 32
    · have h := ifT c4 h
      obtain ⟨S30, e31, h⟩ := nm_some h
      have qS30 : Fm S2 S30 := by rw [e31]; exact Fm_sI (by decide)
      exact qS2.tr (qS30.tr ((ih S30 h)))
    · have h := ifF c4 h
      obtain ⟨S5, e6, h⟩ := nm_some h
      have qS5 : Fm S2 S5 := by rw [e6]; exact Fm_sI (by decide)
      obtain ⟨S7, e8, h⟩ := nm_some h
      have qS7 : Fm S5 S7 := by rw [e8]; exact Fm_sI (by decide)
      obtain ⟨r9, S10, h11, h⟩ := bd_some h
      have qS10 : Fm S7 S10 := fm_X7_here  h11
      by_cases c12 : 0 ≤ r9
      · have h := ifT c12 h
        obtain ⟨r13, S14, h15, h⟩ := bd_some h
        have qS14 : Fm S10 S14 := fm_X7_in  h15
        by_cases c16 : r13 = 0
        · have h := ifT c16 h
          obtain ⟨r17, S18, h19, h⟩ := bd_some h
          have qS18 : Fm S14 S18 := fm_X7_in  h19
          by_cases c20 : r17 = 0
          · have h := ifT c20 h
            obtain ⟨S21, e22, h⟩ := nm_some h
            have qS21 : Fm S18 S21 := by rw [e22]; exact Fm_sI (by decide)
            by_cases c23 : r9 = 59
            · have h := ifT c23 h
              obtain ⟨S26, e27, h⟩ := nm_some h
              have qS26 : Fm S21 S26 := by rw [e27]; exact Fm_sI (by decide)
              obtain ⟨rfl, rfl⟩ := sm_inj h
              exact qS2.tr (qS5.tr (qS7.tr (qS10.tr (qS14.tr (qS18.tr (qS21.tr (qS26)))))))
            · have h := ifF c23 h
              obtain ⟨S24, e25, h⟩ := nm_some h
              have qS24 : Fm S21 S24 := by rw [e25]; exact Fm_sI (by decide)
              obtain ⟨rfl, rfl⟩ := sm_inj h
              exact qS2.tr (qS5.tr (qS7.tr (qS10.tr (qS14.tr (qS18.tr (qS21.tr (qS24)))))))
          · have h := ifF c20 h
            exact qS2.tr (qS5.tr (qS7.tr (qS10.tr (qS14.tr (qS18.tr ((fm_X7_read_126 400 r9 S18 h)))))))
        · have h := ifF c16 h
          exact qS2.tr (qS5.tr (qS7.tr (qS10.tr (qS14.tr ((fm_X7_read_63 400 r9 S14 h))))))
      · have h := ifF c12 h
        obtain ⟨S28, e29, h⟩ := nm_some h
        have qS28 : Fm S10 S28 := by rw [e29]; exact Fm_sI (by decide)
        obtain ⟨rfl, rfl⟩ := sm_inj h
        exact qS2.tr (qS5.tr (qS7.tr (qS10.tr (qS28))))
theorem fm_X7_read {S S' : Mm} {r : Unit}   (h : f_X7_read S = some (r, S')) : Fm S S' := by
  unfold f_X7_read at h
  exact (fm_X7_read_0 400 S h)
theorem fm_X7_due {S S' : Mm} {r : Int32} {x1 : Int32}  (h : f_X7_due S x1 = some (r, S')) : Fm S S' := by
  unfold f_X7_due at h
  obtain ⟨v1, e2, h⟩ := nm_some h
  by_cases c3 : (gI S 163 15) = (-9)
  · have h := ifT c3 h
    by_cases c4 : x1 = 0
    · have h := ifT c4 h
      obtain ⟨S5, e6, h⟩ := nm_some h
      have qS5 : Fm S S5 := by rw [e6]; exact Fm_sI (by decide)
      obtain ⟨rfl, rfl⟩ := sm_inj h
      exact qS5
    · have h := ifF c4 h
      obtain ⟨r7, S8, h9, h⟩ := bd_some h
      have qS8 : Fm S S8 := fm_X7_read  h9
      obtain ⟨rfl, rfl⟩ := sm_inj h
      exact qS8
  · have h := ifF c3 h
    obtain ⟨rfl, rfl⟩ := sm_inj h
    exact Fm.rf
theorem fm_X7_manyOf_4 {r : Int32} {S' : Mm}    : ∀ (n : Nat) (x0 : Int32) (x1 : Int32) (x2 : Int32) (S : Mm), f_X7_manyOf_4 n x0 x1 x2 S = some (r, S') → Fm S S' := by
  intro n
  induction n with
  | zero => intro x0 x1 x2 S h; cases h
  | succ n ih =>
    intro x0 x1 x2 S h
    rw [f_X7_manyOf_4] at h
    by_cases c1 : 5 ≤ x2
    · have h := ifT c1 h
      obtain ⟨rfl, rfl⟩ := sm_inj h
      exact Fm.rf
    · have h := ifF c1 h
      obtain ⟨v2, e3, h⟩ := nm_some h
      obtain ⟨v4, e5, h⟩ := nm_some h
      exact (ih x0 v2 v4 S h)
theorem fm_X7_manyOf {S S' : Mm} {r : Int32} {x0 : Int32}  (h : f_X7_manyOf S x0 = some (r, S')) : Fm S S' := by
  unfold f_X7_manyOf at h
  exact (fm_X7_manyOf_4 400 x0 0 0 S h)
theorem fm_X7_few_51 {r : Int32} {S' : Mm}   {kk22 : Int32 → Int32 → Int32 → Mm → Option (Int32 × Mm)} (hk22 : ∀ (x1 : Int32) (x2 : Int32) (x3 : Int32) (S : Mm), kk22 x1 x2 x3 S = some (r, S') → Fm S S') : ∀ (x1 : Int32) (x2 : Int32) (x3 : Int32) (S : Mm), f_X7_few_51 kk22 x1 x2 x3 S = some (r, S') → Fm S S' := by
  intro x1 x2 x3 S h
  unfold f_X7_few_51 at h
  obtain ⟨r1, S2, h3, h⟩ := bd_some h
  have qS2 : Fm S S2 := fm_X7_measure  h3
  by_cases c4 : (lg_cmp ((gJ S2 163 23) + (gJ S2 163 24)) 0) ≤ 0
  · have h := ifT c4 h
    obtain ⟨v5, e6, h⟩ := nm_some h
    exact qS2.tr ((hk22 x1 x2 v5 S2 h))
  · have h := ifF c4 h
    by_cases c7 : 0 < (lg_cmp (250 * (gJ S2 163 24)) (x1.toInt64 * ((gJ S2 163 23) + (gJ S2 163 24))))
    · have h := ifT c7 h
      obtain ⟨v8, e9, h⟩ := nm_some h
      exact qS2.tr ((hk22 x1 x2 v8 S2 h))
    · have h := ifF c7 h
      obtain ⟨v10, e11, h⟩ := nm_some h
      exact qS2.tr ((hk22 x1 x3 v10 S2 h))
theorem fm_X7_few_22 {r : Int32} {S' : Mm}    : ∀ (n : Nat) (x1 : Int32) (x2 : Int32) (x3 : Int32) (S : Mm), f_X7_few_22 n x1 x2 x3 S = some (r, S') → Fm S S' := by
  intro n
  induction n with
  | zero => intro x1 x2 x3 S h; cases h
  | succ n ih =>
    intro x1 x2 x3 S h
    rw [f_X7_few_22] at h
    obtain ⟨b1, h⟩ := bnd_some h
    by_cases c2 : (1 <<< ((gI S 165 (0 : Int32).toNatClampNeg) &&& 31)) ≤ x3
    · have h := ifT c2 h
      obtain ⟨rfl, rfl⟩ := sm_inj h
      exact Fm.rf
    · have h := ifF c2 h
      by_cases c3 : x2 = (-9)
      · have h := ifT c3 h
        exact (fm_X7_few_51 ih x1 x2 x3 S h)
      · have h := ifF c3 h
        obtain ⟨r4, S5, h6, h⟩ := bd_some h
        have qS5 : Fm S S5 := fm_X7_manyOf  h6
        obtain ⟨r7, S8, h9, h⟩ := bd_some h
        have qS8 : Fm S5 S8 := fm_X7_manyOf  h9
        by_cases c10 : r7 ≤ r4
        · have h := ifT c10 h
          obtain ⟨v11, e12, h⟩ := nm_some h
          exact qS5.tr (qS8.tr ((ih x1 x2 v11 S8 h)))
        · have h := ifF c10 h
          exact qS5.tr (qS8.tr ((fm_X7_few_51 ih x1 x2 x3 S8 h)))
theorem fm_X7_few {S S' : Mm} {r : Int32} {x1 : Int32}  (h : f_X7_few S x1 = some (r, S')) : Fm S S' := by
  unfold f_X7_few at h
  obtain ⟨r1, S2, h3, h⟩ := bd_some h
  have qS2 : Fm S S2 := fm_X7_in  h3
  by_cases c4 : r1 = 0
  · have h := ifT c4 h
    obtain ⟨rfl, rfl⟩ := sm_inj h
    exact qS2
  · have h := ifF c4 h
    obtain ⟨r5, S6, h7, h⟩ := bd_some h
    have qS6 : Fm S2 S6 := fm_X7_takeRow  h7
    exact qS2.tr (qS6.tr ((fm_X7_few_22 400 x1 ((-9)) 0 S6 h)))
theorem fm_X7_first_19 {r : Int32} {S' : Mm}    : ∀ (n : Nat) (x1 : Int32) (x2 : Int32) (x3 : Int32) (S : Mm), f_X7_first_19 n x1 x2 x3 S = some (r, S') → Fm S S' := by
  intro n
  induction n with
  | zero => intro x1 x2 x3 S h; cases h
  | succ n ih =>
    intro x1 x2 x3 S h
    rw [f_X7_first_19] at h
    by_cases c1 : x1 < x3
    · have h := ifT c1 h
      obtain ⟨r2, S3, h4, h⟩ := bd_some h
      have qS3 : Fm S S3 := fm_X7_isTold  h4
      by_cases c5 : r2 = 0
      · have h := ifT c5 h
        obtain ⟨rfl, rfl⟩ := sm_inj h
        exact qS3
      · have h := ifF c5 h
        obtain ⟨rfl, rfl⟩ := sm_inj h
        exact qS3
    · have h := ifF c1 h
      obtain ⟨b6, h⟩ := bnd_some h
      obtain ⟨b7, h⟩ := bnd_some h
      by_cases c8 : (lg_cmp (gJ S 176 x3.toNatClampNeg) (gJ S 176 x2.toNatClampNeg)) ≤ 0
      · have h := ifT c8 h
        obtain ⟨v9, e10, h⟩ := nm_some h
        exact (ih x1 x2 v9 S h)
      · have h := ifF c8 h
        obtain ⟨v11, e12, h⟩ := nm_some h
        exact (ih x1 x3 v11 S h)
theorem fm_X7_first {S S' : Mm} {r : Int32} {x1 : Int32}  (h : f_X7_first S x1 = some (r, S')) : Fm S S' := by
  unfold f_X7_first at h
  obtain ⟨r1, S2, h3, h⟩ := bd_some h
  have qS2 : Fm S S2 := fm_X7_isStep  h3
  by_cases c4 : r1 = 0
  · have h := ifT c4 h
    obtain ⟨rfl, rfl⟩ := sm_inj h
    exact qS2
  · have h := ifF c4 h
    obtain ⟨r5, S6, h7, h⟩ := bd_some h
    have qS6 : Fm S2 S6 := fm_X7_blameFor  h7
    exact qS2.tr (qS6.tr ((fm_X7_first_19 400 x1 0 1 S6 h)))
theorem fm_X7_forget {S S' : Mm} {r : Int32}   (h : f_X7_forget S = some (r, S')) : Fm S S' := by
  unfold f_X7_forget at h
  obtain ⟨v1, e2, h⟩ := nm_some h
  obtain ⟨S3, e4, h⟩ := nm_some h
  have qS3 : Fm S S3 := by rw [e4]; exact Fm_sI (by decide)
  obtain ⟨rfl, rfl⟩ := sm_inj h
  exact qS3
theorem fm_X7_go_82 {r : Int32} {S' : Mm}   {kk16 : Int32 → Int32 → Int32 → Int32 → Mm → Option (Int32 × Mm)} (hk16 : ∀ (x1 : Int32) (x2 : Int32) (x3 : Int32) (x4 : Int32) (S : Mm), kk16 x1 x2 x3 x4 S = some (r, S') → Fm S S') : ∀ (x1 : Int32) (x2 : Int32) (x3 : Int32) (x4 : Int32) (x5 : Int32) (S : Mm), f_X7_go_82 kk16 x1 x2 x3 x4 x5 S = some (r, S') → Fm S S' := by
  intro x1 x2 x3 x4 x5 S h
  unfold f_X7_go_82 at h
  by_cases c1 : ((x2 >>> (x5 &&& 31)) &&& 1) = 1
  · have h := ifT c1 h
    obtain ⟨b4, h⟩ := bnd_some h
    obtain ⟨S5, e6, h⟩ := nm_some h
    have qS5 : Fm S S5 := by rw [e6]; exact Fm_sI (by decide)
    by_cases c7 : x3 = 0
    · have h := ifT c7 h
      obtain ⟨v8, e9, h⟩ := nm_some h
      exact qS5.tr ((hk16 x1 x2 x3 v8 S5 h))
    · have h := ifF c7 h
      obtain ⟨r10, S11, h12, h⟩ := bd_some h
      have qS11 : Fm S5 S11 := fm_X7_drawOf  h12
      obtain ⟨b13, h⟩ := bnd_some h
      by_cases c14 : r10 < (gI S11 169 x5.toNatClampNeg)
      · have h := ifT c14 h
        obtain ⟨v15, e16, h⟩ := nm_some h
        exact qS5.tr (qS11.tr ((hk16 x1 x2 x3 v15 S11 h)))
      · have h := ifF c14 h
        obtain ⟨S17, e18, h⟩ := nm_some h
        have qS17 : Fm S11 S17 := by rw [e18]; exact Fm_sI (by decide)
        obtain ⟨rfl, rfl⟩ := sm_inj h
        exact qS5.tr (qS11.tr (qS17))
  · have h := ifF c1 h
    obtain ⟨v2, e3, h⟩ := nm_some h
    exact (hk16 x1 x2 x3 v2 S h)
theorem fm_X7_go_76 {r : Int32} {S' : Mm}   {kk16 : Int32 → Int32 → Int32 → Int32 → Mm → Option (Int32 × Mm)} (hk16 : ∀ (x1 : Int32) (x2 : Int32) (x3 : Int32) (x4 : Int32) (S : Mm), kk16 x1 x2 x3 x4 S = some (r, S') → Fm S S') : ∀ (x1 : Int32) (x2 : Int32) (x4 : Int32) (x5 : Int32) (S : Mm), f_X7_go_76 kk16 x1 x2 x4 x5 S = some (r, S') → Fm S S' := by
  intro x1 x2 x4 x5 S h
  unfold f_X7_go_76 at h
  exact (fm_X7_go_82 hk16 x1 x2 1 x4 x5 S h)
theorem fm_X7_go_16 {r : Int32} {S' : Mm}    : ∀ (n : Nat) (x1 : Int32) (x2 : Int32) (x3 : Int32) (x4 : Int32) (S : Mm), f_X7_go_16 n x1 x2 x3 x4 S = some (r, S') → Fm S S' := by
  intro n
  induction n with
  | zero => intro x1 x2 x3 x4 S h; cases h
  | succ n ih =>
    intro x1 x2 x3 x4 S h
    rw [f_X7_go_16] at h
    obtain ⟨b1, h⟩ := bnd_some h
    by_cases c2 : (gI S 165 (0 : Int32).toNatClampNeg) ≤ x4
    · have h := ifT c2 h
      by_cases c3 : x3 = 0
      · have h := ifT c3 h
        obtain ⟨S4, e5, h⟩ := nm_some h
        have qS4 : Fm S S4 := by rw [e5]; exact Fm_sI (by decide)
        by_cases c6 : x3 = 0
        · have h := ifT c6 h
          obtain ⟨rfl, rfl⟩ := sm_inj h
          exact qS4
        · have h := ifF c6 h
          obtain ⟨rfl, rfl⟩ := sm_inj h
          exact qS4
      · have h := ifF c3 h
        obtain ⟨b7, h⟩ := bnd_some h
        obtain ⟨S8, e9, h⟩ := nm_some h
        have qS8 : Fm S S8 := by rw [e9]; exact Fm_sI (by decide)
        by_cases c10 : x3 = 0
        · have h := ifT c10 h
          obtain ⟨rfl, rfl⟩ := sm_inj h
          exact qS8
        · have h := ifF c10 h
          obtain ⟨rfl, rfl⟩ := sm_inj h
          exact qS8
    · have h := ifF c2 h
      obtain ⟨b11, h⟩ := bnd_some h
      obtain ⟨v12, e13, h⟩ := nm_some h
      obtain ⟨b14, h⟩ := bnd_some h
      obtain ⟨S15, e16, h⟩ := nm_some h
      have qS15 : Fm S S15 := by rw [e16]; exact Fm_sI (by decide)
      by_cases c17 : x3 = 0
      · have h := ifT c17 h
        obtain ⟨r18, S19, h20, h⟩ := bd_some h
        have qS19 : Fm S15 S19 := fm_X7_drawOf  h20
        obtain ⟨b21, h⟩ := bnd_some h
        by_cases c22 : (gI S19 172 (5 + v12).toNatClampNeg) ≤ r18
        · have h := ifT c22 h
          exact qS15.tr (qS19.tr ((fm_X7_go_82 ih x1 x2 0 x4 v12 S19 h)))
        · have h := ifF c22 h
          exact qS15.tr (qS19.tr ((fm_X7_go_76 ih x1 x2 x4 v12 S19 h)))
      · have h := ifF c17 h
        exact qS15.tr ((fm_X7_go_76 ih x1 x2 x4 v12 S15 h))
theorem fm_X7_go {S S' : Mm} {r : Int32} {x1 : Int32} {x2 : Int32}  (h : f_X7_go S x1 x2 = some (r, S')) : Fm S S' := by
  unfold f_X7_go at h
  obtain ⟨S1, e2, h⟩ := nm_some h
  have qS1 : Fm S S1 := by rw [e2]; exact Fm_sI (by decide)
  obtain ⟨S3, e4, h⟩ := nm_some h
  have qS3 : Fm S1 S3 := by rw [e4]; exact Fm_sI (by decide)
  exact qS1.tr (qS3.tr ((fm_X7_go_16 400 x1 x2 0 0 S3 h)))
theorem fm_X7_isSeed {S S' : Mm} {r : Int32} {x0 : Int32}  (h : f_X7_isSeed S x0 = some (r, S')) : Fm S S' := by
  unfold f_X7_isSeed at h
  obtain ⟨r1, S2, h3, h⟩ := bd_some h
  have qS2 : Fm S S2 := fm_X7_in  h3
  obtain ⟨b4, h⟩ := bnd_some h
  obtain ⟨rfl, rfl⟩ := sm_inj h
  exact qS2
theorem fm_X7_keep_13 {r : Int32} {S' : Mm}    : ∀ (n : Nat) (x1 : Int32) (x2 : Int32) (S : Mm), f_X7_keep_13 n x1 x2 S = some (r, S') → Fm S S' := by
  intro n
  induction n with
  | zero => intro x1 x2 S h; cases h
  | succ n ih =>
    intro x1 x2 S h
    rw [f_X7_keep_13] at h
    by_cases c1 : 221 ≤ x2
    · have h := ifT c1 h
      obtain ⟨b2, h⟩ := bnd_some h
      obtain ⟨S3, e4, h⟩ := nm_some h
      have qS3 : Fm S S3 := by rw [e4]; exact Fm_sI (by decide)
      obtain ⟨b5, h⟩ := bnd_some h
      obtain ⟨rfl, rfl⟩ := sm_inj h
      exact qS3
    · have h := ifF c1 h
      obtain ⟨b6, h⟩ := bnd_some h
      obtain ⟨b7, h⟩ := bnd_some h
      obtain ⟨S8, e9, h⟩ := nm_some h
      have qS8 : Fm S S8 := by rw [e9]; exact Fm_sI (by decide)
      obtain ⟨v10, e11, h⟩ := nm_some h
      exact qS8.tr ((ih x1 v10 S8 h))
theorem fm_X7_keep {S S' : Mm} {r : Int32} {x1 : Int32}  (h : f_X7_keep S x1 = some (r, S')) : Fm S S' := by
  unfold f_X7_keep at h
  obtain ⟨r1, S2, h3, h⟩ := bd_some h
  have qS2 : Fm S S2 := fm_X7_in  h3
  by_cases c4 : r1 = 0
  · have h := ifT c4 h
    obtain ⟨rfl, rfl⟩ := sm_inj h
    exact qS2
  · have h := ifF c4 h
    exact qS2.tr ((fm_X7_keep_13 400 x1 0 S2 h))
theorem fm_X7_know_58 {r : Unit} {S' : Mm}    : ∀ (n : Nat) (x1 : Int32) (S : Mm), f_X7_know_58 n x1 S = some (r, S') → Fm S S' := by
  intro n
  induction n with
  | zero => intro x1 S h; cases h
  | succ n ih =>
    intro x1 S h
    rw [f_X7_know_58] at h
    by_cases c1 : 20 ≤ x1
    · have h := ifT c1 h
      obtain ⟨b2, h⟩ := bnd_some h
      obtain ⟨b3, h⟩ := bnd_some h
      obtain ⟨S4, e5, h⟩ := nm_some h
      have qS4 : Fm S S4 := by rw [e5]; exact Fm_sI (by decide)
      obtain ⟨rfl, rfl⟩ := sm_inj h
      exact qS4
    · have h := ifF c1 h
      obtain ⟨b6, h⟩ := bnd_some h
      obtain ⟨b7, h⟩ := bnd_some h
      obtain ⟨b8, h⟩ := bnd_some h
      obtain ⟨S9, e10, h⟩ := nm_some h
      have qS9 : Fm S S9 := by rw [e10]; exact Fm_sI (by decide)
      obtain ⟨v11, e12, h⟩ := nm_some h
      exact qS9.tr ((ih v11 S9 h))
theorem fm_X7_know_14 {r : Unit} {S' : Mm}    : ∀ (n : Nat) (x1 : Int32) (S : Mm), f_X7_know_14 n x1 S = some (r, S') → Fm S S' := by
  intro n
  induction n with
  | zero => intro x1 S h; cases h
  | succ n ih =>
    intro x1 S h
    rw [f_X7_know_14] at h
    by_cases c1 : 180 ≤ x1
    · have h := ifT c1 h
      obtain ⟨b2, h⟩ := bnd_some h
      obtain ⟨b3, h⟩ := bnd_some h
      obtain ⟨S4, e5, h⟩ := nm_some h
      have qS4 : Fm S S4 := by rw [e5]; exact Fm_sI (by decide)
      exact qS4.tr ((fm_X7_know_58 400 0 S4 h))
    · have h := ifF c1 h
      obtain ⟨b6, h⟩ := bnd_some h
      obtain ⟨b7, h⟩ := bnd_some h
      obtain ⟨S8, e9, h⟩ := nm_some h
      have qS8 : Fm S S8 := by rw [e9]; exact Fm_sI (by decide)
      obtain ⟨v10, e11, h⟩ := nm_some h
      exact qS8.tr ((ih v10 S8 h))
theorem fm_X7_know {S S' : Mm} {r : Unit}   (h : f_X7_know S = some (r, S')) : Fm S S' := by
  unfold f_X7_know at h
  obtain ⟨b1, h⟩ := bnd_some h
  by_cases c2 : (gI S 172 (20 : Int32).toNatClampNeg) = 10
  · have h := ifT c2 h
    exact (fm_X7_know_14 400 0 S h)
  · have h := ifF c2 h
    exact (fm_X7_know_58 400 0 S h)
theorem fm_X7_line {S S' : Mm} {r : Int32} {x1 : Int32}  (h : f_X7_line S x1 = some (r, S')) : Fm S S' := by
  unfold f_X7_line at h
  obtain ⟨r1, S2, h3, h⟩ := bd_some h
  have qS2 : Fm S S2 := fm_X7_isStep  h3
  by_cases c4 : r1 = 0
  · have h := ifT c4 h
    obtain ⟨rfl, rfl⟩ := sm_inj h
    exact qS2
  · have h := ifF c4 h
    obtain ⟨b5, h⟩ := bnd_some h
    obtain ⟨rfl, rfl⟩ := sm_inj h
    exact qS2
theorem fm_X7_looks {S S' : Mm} {r : Int32} {x1 : Int32} {x2 : Int32}  (h : f_X7_looks S x1 x2 = some (r, S')) : Fm S S' := by
  unfold f_X7_looks at h
  obtain ⟨r1, S2, h3, h⟩ := bd_some h
  have qS2 : Fm S S2 := fm_X7_isStep  h3
  by_cases c4 : r1 = 0
  · have h := ifT c4 h
    obtain ⟨rfl, rfl⟩ := sm_inj h
    exact qS2
  · have h := ifF c4 h
    obtain ⟨r5, S6, h7, h⟩ := bd_some h
    have qS6 : Fm S2 S6 := fm_X7_in  h7
    by_cases c8 : r5 = 0
    · have h := ifT c8 h
      obtain ⟨rfl, rfl⟩ := sm_inj h
      exact qS2.tr (qS6)
    · have h := ifF c8 h
      obtain ⟨b9, h⟩ := bnd_some h
      by_cases c10 : (((gI S6 172 (10 : Int32).toNatClampNeg) >>> (x1 &&& 31)) &&& 1) = x2
      · have h := ifT c10 h
        obtain ⟨rfl, rfl⟩ := sm_inj h
        exact qS2.tr (qS6)
      · have h := ifF c10 h
        obtain ⟨r11, S12, h13, h⟩ := bd_some h
        have qS12 : Fm S6 S12 := fm_X7_know  h13
        obtain ⟨b14, h⟩ := bnd_some h
        obtain ⟨b15, h⟩ := bnd_some h
        obtain ⟨S16, e17, h⟩ := nm_some h
        have qS16 : Fm S12 S16 := by rw [e17]; exact Fm_sI (by decide)
        obtain ⟨b18, h⟩ := bnd_some h
        obtain ⟨r19, S20, h21, h⟩ := bd_some h
        have qS20 : Fm S16 S20 := fm_X7_manyOf  h21
        obtain ⟨rfl, rfl⟩ := sm_inj h
        exact qS2.tr (qS6.tr (qS12.tr (qS16.tr (qS20))))
theorem fm_X7_lost {S S' : Mm} {r : Int64} {x1 : Int32} {x2 : Int32}  (h : f_X7_lost S x1 x2 = some (r, S')) : Fm S S' := by
  unfold f_X7_lost at h
  obtain ⟨r1, S2, h3, h⟩ := bd_some h
  have qS2 : Fm S S2 := fm_X7_isStep  h3
  by_cases c4 : r1 = 0
  · have h := ifT c4 h
    obtain ⟨rfl, rfl⟩ := sm_inj h
    exact qS2
  · have h := ifF c4 h
    obtain ⟨r5, S6, h7, h⟩ := bd_some h
    have qS6 : Fm S2 S6 := fm_X7_in  h7
    by_cases c8 : r5 = 0
    · have h := ifT c8 h
      obtain ⟨rfl, rfl⟩ := sm_inj h
      exact qS2.tr (qS6)
    · have h := ifF c8 h
      obtain ⟨r9, S10, h11, h⟩ := bd_some h
      have qS10 : Fm S6 S10 := fm_X7_takeRow  h11
      obtain ⟨b12, h⟩ := bnd_some h
      obtain ⟨r13, S14, h15, h⟩ := bd_some h
      have qS14 : Fm S10 S14 := fm_X7_measure  h15
      obtain ⟨b16, h⟩ := bnd_some h
      obtain ⟨r17, S18, h19, h⟩ := bd_some h
      have qS18 : Fm S14 S18 := fm_X7_part  h19
      obtain ⟨rfl, rfl⟩ := sm_inj h
      exact qS2.tr (qS6.tr (qS10.tr (qS14.tr (qS18))))
theorem fm_X7_makes_114 {r : Int32} {S' : Mm}    : ∀ (x2 : Int32) (S : Mm), f_X7_makes_114 x2 S = some (r, S') → Fm S S' := by
  intro x2 S h
  unfold f_X7_makes_114 at h
  obtain ⟨b1, h⟩ := bnd_some h
  obtain ⟨b2, h⟩ := bnd_some h
  obtain ⟨S3, e4, h⟩ := nm_some h
  have qS3 : Fm S S3 := by rw [e4]; exact Fm_sI (by decide)
  obtain ⟨b5, h⟩ := bnd_some h
  by_cases c6 : (gI S3 172 (19 : Int32).toNatClampNeg) ≤ 9999999
  · have h := ifT c6 h
    obtain ⟨b7, h⟩ := bnd_some h
    obtain ⟨b8, h⟩ := bnd_some h
    obtain ⟨S9, e10, h⟩ := nm_some h
    have qS9 : Fm S3 S9 := by rw [e10]; exact Fm_sI (by decide)
    obtain ⟨rfl, rfl⟩ := sm_inj h
    exact qS3.tr (qS9)
  · have h := ifF c6 h
    obtain ⟨b11, h⟩ := bnd_some h
    obtain ⟨S12, e13, h⟩ := nm_some h
    have qS12 : Fm S3 S12 := by rw [e13]; exact Fm_sI (by decide)
    obtain ⟨rfl, rfl⟩ := sm_inj h
    exact qS3.tr (qS12)
theorem fm_X7_makes_93 {r : Int32} {S' : Mm}    : ∀ (x2 : Int32) (S : Mm), f_X7_makes_93 x2 S = some (r, S') → Fm S S' := by
  intro x2 S h
  unfold f_X7_makes_93 at h
  by_cases c1 : x2 = 2
  · have h := ifT c1 h
    obtain ⟨b2, h⟩ := bnd_some h
    obtain ⟨b3, h⟩ := bnd_some h
    obtain ⟨S4, e5, h⟩ := nm_some h
    have qS4 : Fm S S4 := by rw [e5]; exact Fm_sI (by decide)
    exact qS4.tr ((fm_X7_makes_114 x2 S4 h))
  · have h := ifF c1 h
    exact (fm_X7_makes_114 x2 S h)
theorem fm_X7_makes_73 {r : Int32} {S' : Mm}    : ∀ (x2 : Int32) (S : Mm), f_X7_makes_73 x2 S = some (r, S') → Fm S S' := by
  intro x2 S h
  unfold f_X7_makes_73 at h
  obtain ⟨b1, h⟩ := bnd_some h
  by_cases c2 : x2 = 1
  · have h := ifT c2 h
    obtain ⟨b6, h⟩ := bnd_some h
    obtain ⟨S7, e8, h⟩ := nm_some h
    have qS7 : Fm S S7 := by rw [e8]; exact Fm_sI (by decide)
    exact qS7.tr ((fm_X7_makes_93 x2 S7 h))
  · have h := ifF c2 h
    obtain ⟨b3, h⟩ := bnd_some h
    obtain ⟨S4, e5, h⟩ := nm_some h
    have qS4 : Fm S S4 := by rw [e5]; exact Fm_sI (by decide)
    exact qS4.tr ((fm_X7_makes_93 x2 S4 h))
theorem fm_X7_makes {S S' : Mm} {r : Int32} {x1 : Int32}  (h : f_X7_makes S x1 = some (r, S')) : Fm S S' := by
  unfold f_X7_makes at h
  obtain ⟨r1, S2, h3, h⟩ := bd_some h
  have qS2 : Fm S S2 := fm_X7_isSeed  h3
  by_cases c4 : r1 = 0
  · have h := ifT c4 h
    obtain ⟨rfl, rfl⟩ := sm_inj h
    exact qS2
  · have h := ifF c4 h
    obtain ⟨b5, h⟩ := bnd_some h
    by_cases c6 : (gI S2 172 (11 : Int32).toNatClampNeg) = 9999
    · have h := ifT c6 h
      obtain ⟨rfl, rfl⟩ := sm_inj h
      exact qS2
    · have h := ifF c6 h
      obtain ⟨r7, S8, h9, h⟩ := bd_some h
      have qS8 : Fm S2 S8 := fm_X7_know  h9
      obtain ⟨b10, h⟩ := bnd_some h
      obtain ⟨r11, S12, h13, h⟩ := bd_some h
      have qS12 : Fm S8 S12 := fm_X7_go  h13
      obtain ⟨b14, h⟩ := bnd_some h
      obtain ⟨b15, h⟩ := bnd_some h
      obtain ⟨S16, e17, h⟩ := nm_some h
      have qS16 : Fm S12 S16 := by rw [e17]; exact Fm_sI (by decide)
      obtain ⟨b18, h⟩ := bnd_some h
      by_cases c19 : 2 ≤ r11
      · have h := ifT c19 h
        obtain ⟨b20, h⟩ := bnd_some h
        obtain ⟨S21, e22, h⟩ := nm_some h
        have qS21 : Fm S16 S21 := by rw [e22]; exact Fm_sI (by decide)
        exact qS2.tr (qS8.tr (qS12.tr (qS16.tr (qS21.tr ((fm_X7_makes_73 r11 S21 h))))))
      · have h := ifF c19 h
        obtain ⟨b23, h⟩ := bnd_some h
        obtain ⟨S24, e25, h⟩ := nm_some h
        have qS24 : Fm S16 S24 := by rw [e25]; exact Fm_sI (by decide)
        exact qS2.tr (qS8.tr (qS12.tr (qS16.tr (qS24.tr ((fm_X7_makes_73 r11 S24 h))))))
theorem fm_X7_mark {S S' : Mm} {r : Int32} {x1 : Int32} {x2 : Int32}  (h : f_X7_mark S x1 x2 = some (r, S')) : Fm S S' := by
  unfold f_X7_mark at h
  obtain ⟨r1, S2, h3, h⟩ := bd_some h
  have qS2 : Fm S S2 := fm_X7_in  h3
  by_cases c4 : r1 = 0
  · have h := ifT c4 h
    obtain ⟨rfl, rfl⟩ := sm_inj h
    exact qS2
  · have h := ifF c4 h
    obtain ⟨r5, S6, h7, h⟩ := bd_some h
    have qS6 : Fm S2 S6 := fm_X7_isStep  h7
    by_cases c8 : r5 = 0
    · have h := ifT c8 h
      obtain ⟨rfl, rfl⟩ := sm_inj h
      exact qS2.tr (qS6)
    · have h := ifF c8 h
      obtain ⟨b9, h⟩ := bnd_some h
      obtain ⟨b10, h⟩ := bnd_some h
      obtain ⟨v11, e12, h⟩ := nm_some h
      obtain ⟨b13, h⟩ := bnd_some h
      obtain ⟨b14, h⟩ := bnd_some h
      obtain ⟨v15, e16, h⟩ := nm_some h
      by_cases c17 : x1 = 0
      · have h := ifT c17 h
        obtain ⟨S18, e19, h⟩ := nm_some h
        have qS18 : Fm S6 S18 := by rw [e19]; exact Fm_sJ (by decide)
        obtain ⟨b20, h⟩ := bnd_some h
        obtain ⟨rfl, rfl⟩ := sm_inj h
        exact qS2.tr (qS6.tr (qS18))
      · have h := ifF c17 h
        by_cases c21 : x1 = 1
        · have h := ifT c21 h
          obtain ⟨S22, e23, h⟩ := nm_some h
          have qS22 : Fm S6 S22 := by rw [e23]; exact Fm_sJ (by decide)
          obtain ⟨rfl, rfl⟩ := sm_inj h
          exact qS2.tr (qS6.tr (qS22))
        · have h := ifF c21 h
          by_cases c24 : x1 = 2
          · have h := ifT c24 h
            obtain ⟨S25, e26, h⟩ := nm_some h
            have qS25 : Fm S6 S25 := by rw [e26]; exact Fm_sJ (by decide)
            obtain ⟨rfl, rfl⟩ := sm_inj h
            exact qS2.tr (qS6.tr (qS25))
          · have h := ifF c24 h
            by_cases c27 : x1 = 3
            · have h := ifT c27 h
              obtain ⟨S28, e29, h⟩ := nm_some h
              have qS28 : Fm S6 S28 := by rw [e29]; exact Fm_sJ (by decide)
              obtain ⟨rfl, rfl⟩ := sm_inj h
              exact qS2.tr (qS6.tr (qS28))
            · have h := ifF c27 h
              by_cases c30 : x1 = 4
              · have h := ifT c30 h
                obtain ⟨S31, e32, h⟩ := nm_some h
                have qS31 : Fm S6 S31 := by rw [e32]; exact Fm_sJ (by decide)
                obtain ⟨b33, h⟩ := bnd_some h
                obtain ⟨rfl, rfl⟩ := sm_inj h
                exact qS2.tr (qS6.tr (qS31))
              · have h := ifF c30 h
                obtain ⟨S34, e35, h⟩ := nm_some h
                have qS34 : Fm S6 S34 := by rw [e35]; exact Fm_sJ (by decide)
                obtain ⟨b36, h⟩ := bnd_some h
                obtain ⟨b37, h⟩ := bnd_some h
                obtain ⟨rfl, rfl⟩ := sm_inj h
                exact qS2.tr (qS6.tr (qS34))
theorem fm_X7_mayBe {S S' : Mm} {r : Int32} {x1 : Int32}  (h : f_X7_mayBe S x1 = some (r, S')) : Fm S S' := by
  unfold f_X7_mayBe at h
  by_cases c1 : x1 = 104
  · have h := ifT c1 h
    obtain ⟨rfl, rfl⟩ := sm_inj h
    exact Fm.rf
  · have h := ifF c1 h
    by_cases c2 : x1 = 112
    · have h := ifT c2 h
      by_cases c3 : (gI S 163 10) = 0
      · have h := ifT c3 h
        obtain ⟨rfl, rfl⟩ := sm_inj h
        exact Fm.rf
      · have h := ifF c3 h
        obtain ⟨rfl, rfl⟩ := sm_inj h
        exact Fm.rf
    · have h := ifF c2 h
      by_cases c4 : x1 = 115
      · have h := ifT c4 h
        obtain ⟨b5, h⟩ := bnd_some h
        by_cases c6 : 5 ≤ (gI S 165 (1 : Int32).toNatClampNeg)
        · have h := ifT c6 h
          obtain ⟨rfl, rfl⟩ := sm_inj h
          exact Fm.rf
        · have h := ifF c6 h
          obtain ⟨rfl, rfl⟩ := sm_inj h
          exact Fm.rf
      · have h := ifF c4 h
        obtain ⟨rfl, rfl⟩ := sm_inj h
        exact Fm.rf
theorem fm_X7_mean {S S' : Mm} {r : Int64} {x1 : Int32} {x2 : Int32}  (h : f_X7_mean S x1 x2 = some (r, S')) : Fm S S' := by
  unfold f_X7_mean at h
  obtain ⟨r1, S2, h3, h⟩ := bd_some h
  have qS2 : Fm S S2 := fm_X7_in  h3
  by_cases c4 : r1 = 0
  · have h := ifT c4 h
    obtain ⟨rfl, rfl⟩ := sm_inj h
    exact qS2
  · have h := ifF c4 h
    obtain ⟨r5, S6, h7, h⟩ := bd_some h
    have qS6 : Fm S2 S6 := fm_X7_in  h7
    by_cases c8 : r5 = 0
    · have h := ifT c8 h
      obtain ⟨rfl, rfl⟩ := sm_inj h
      exact qS2.tr (qS6)
    · have h := ifF c8 h
      obtain ⟨r9, S10, h11, h⟩ := bd_some h
      have qS10 : Fm S6 S10 := fm_X7_takeRow  h11
      obtain ⟨b12, h⟩ := bnd_some h
      obtain ⟨r13, S14, h15, h⟩ := bd_some h
      have qS14 : Fm S10 S14 := fm_X7_measure  h15
      by_cases c16 : x1 = 0
      · have h := ifT c16 h
        obtain ⟨r17, S18, h19, h⟩ := bd_some h
        have qS18 : Fm S14 S18 := fm_X7_part  h19
        obtain ⟨rfl, rfl⟩ := sm_inj h
        exact qS2.tr (qS6.tr (qS10.tr (qS14.tr (qS18))))
      · have h := ifF c16 h
        by_cases c20 : x1 = 1
        · have h := ifT c20 h
          obtain ⟨r21, S22, h23, h⟩ := bd_some h
          have qS22 : Fm S14 S22 := fm_X7_part  h23
          obtain ⟨rfl, rfl⟩ := sm_inj h
          exact qS2.tr (qS6.tr (qS10.tr (qS14.tr (qS22))))
        · have h := ifF c20 h
          by_cases c24 : x1 = 2
          · have h := ifT c24 h
            obtain ⟨r25, S26, h27, h⟩ := bd_some h
            have qS26 : Fm S14 S26 := fm_X7_part  h27
            obtain ⟨rfl, rfl⟩ := sm_inj h
            exact qS2.tr (qS6.tr (qS10.tr (qS14.tr (qS26))))
          · have h := ifF c24 h
            by_cases c28 : (lg_cmp (gJ S14 163 23) 0) = 0
            · have h := ifT c28 h
              obtain ⟨rfl, rfl⟩ := sm_inj h
              exact qS2.tr (qS6.tr (qS10.tr (qS14)))
            · have h := ifF c28 h
              obtain ⟨r29, S30, h31, h⟩ := bd_some h
              have qS30 : Fm S14 S30 := fm_X7_part  h31
              obtain ⟨rfl, rfl⟩ := sm_inj h
              exact qS2.tr (qS6.tr (qS10.tr (qS14.tr (qS30))))
theorem fm_X7_moves {S S' : Mm} {r : Int32} {x1 : Int32}  (h : f_X7_moves S x1 = some (r, S')) : Fm S S' := by
  unfold f_X7_moves at h
  obtain ⟨b1, h⟩ := bnd_some h
  obtain ⟨r2, S3, h4, h⟩ := bd_some h
  have qS3 : Fm S S3 := fm_X7_in  h4
  by_cases c5 : r2 = 0
  · have h := ifT c5 h
    obtain ⟨rfl, rfl⟩ := sm_inj h
    exact qS3
  · have h := ifF c5 h
    obtain ⟨b6, h⟩ := bnd_some h
    obtain ⟨v7, e8, h⟩ := nm_some h
    obtain ⟨b9, h⟩ := bnd_some h
    obtain ⟨v10, e11, h⟩ := nm_some h
    obtain ⟨b12, h⟩ := bnd_some h
    by_cases c13 : (((gI S3 170 v10.toNatClampNeg) >>> (v7 &&& 31)) &&& 1) = 1
    · have h := ifT c13 h
      obtain ⟨rfl, rfl⟩ := sm_inj h
      exact qS3
    · have h := ifF c13 h
      obtain ⟨r14, S15, h16, h⟩ := bd_some h
      have qS15 : Fm S3 S15 := fm_X7_know  h16
      obtain ⟨b17, h⟩ := bnd_some h
      obtain ⟨S18, e19, h⟩ := nm_some h
      have qS18 : Fm S15 S18 := by rw [e19]; exact Fm_sI (by decide)
      obtain ⟨b20, h⟩ := bnd_some h
      obtain ⟨S21, e22, h⟩ := nm_some h
      have qS21 : Fm S18 S21 := by rw [e22]; exact Fm_sI (by decide)
      obtain ⟨rfl, rfl⟩ := sm_inj h
      exact qS3.tr (qS15.tr (qS18.tr (qS21)))
theorem fm_X7_now_68 {r : Int32} {S' : Mm}    : ∀ (n : Nat) (x2 : Int32) (x3 : Int32) (S : Mm), f_X7_now_68 n x2 x3 S = some (r, S') → Fm S S' := by
  intro n
  induction n with
  | zero => intro x2 x3 S h; cases h
  | succ n ih =>
    intro x2 x3 S h
    rw [f_X7_now_68] at h
    by_cases c1 : 5 ≤ x3
    · have h := ifT c1 h
      obtain ⟨rfl, rfl⟩ := sm_inj h
      exact Fm.rf
    · have h := ifF c1 h
      obtain ⟨b2, h⟩ := bnd_some h
      obtain ⟨v3, e4, h⟩ := nm_some h
      obtain ⟨v5, e6, h⟩ := nm_some h
      exact (ih v3 v5 S h)
theorem fm_X7_now {S S' : Mm} {r : Int32} {x1 : Int32}  (h : f_X7_now S x1 = some (r, S')) : Fm S S' := by
  unfold f_X7_now at h
  by_cases c1 : x1 = 0
  · have h := ifT c1 h
    obtain ⟨b2, h⟩ := bnd_some h
    obtain ⟨rfl, rfl⟩ := sm_inj h
    exact Fm.rf
  · have h := ifF c1 h
    by_cases c3 : x1 = 1
    · have h := ifT c3 h
      obtain ⟨b4, h⟩ := bnd_some h
      obtain ⟨rfl, rfl⟩ := sm_inj h
      exact Fm.rf
    · have h := ifF c3 h
      by_cases c5 : x1 = 2
      · have h := ifT c5 h
        obtain ⟨b6, h⟩ := bnd_some h
        obtain ⟨rfl, rfl⟩ := sm_inj h
        exact Fm.rf
      · have h := ifF c5 h
        by_cases c7 : x1 = 3
        · have h := ifT c7 h
          exact (fm_X7_now_68 400 0 0 S h)
        · have h := ifF c7 h
          by_cases c8 : x1 = 4
          · have h := ifT c8 h
            obtain ⟨b9, h⟩ := bnd_some h
            obtain ⟨rfl, rfl⟩ := sm_inj h
            exact Fm.rf
          · have h := ifF c8 h
            by_cases c10 : x1 = 5
            · have h := ifT c10 h
              obtain ⟨b11, h⟩ := bnd_some h
              obtain ⟨rfl, rfl⟩ := sm_inj h
              exact Fm.rf
            · have h := ifF c10 h
              obtain ⟨rfl, rfl⟩ := sm_inj h
              exact Fm.rf
theorem fm_X7_number {S S' : Mm} {r : Int32} {x1 : Int32} {x2 : Int32}  (h : f_X7_number S x1 x2 = some (r, S')) : Fm S S' := by
  unfold f_X7_number at h
  by_cases c1 : (gI S 163 13) = 1
  · have h := ifT c1 h
    obtain ⟨r5, S6, h7, h⟩ := bd_some h
    have qS6 : Fm S S6 := fm_X7_in  h7
    by_cases c8 : r5 = 0
    · have h := ifT c8 h
      obtain ⟨r9, S10, h11, h⟩ := bd_some h
      have qS10 : Fm S6 S10 := fm_X7_due  h11
      obtain ⟨rfl, rfl⟩ := sm_inj h
      exact qS6.tr (qS10)
    · have h := ifF c8 h
      obtain ⟨r12, S13, h14, h⟩ := bd_some h
      have qS13 : Fm S6 S13 := fm_X7_due  h14
      obtain ⟨rfl, rfl⟩ := sm_inj h
      exact qS6.tr (qS13)
  · have h := ifF c1 h
    obtain ⟨r2, S3, h4, h⟩ := bd_some h
    have qS3 : Fm S S3 := fm_X7_due  h4
    obtain ⟨rfl, rfl⟩ := sm_inj h
    exact qS3
theorem fm_X7_paper {S S' : Mm} {r : Int64} {x1 : Int32} {x2 : Int32}  (h : f_X7_paper S x1 x2 = some (r, S')) : Fm S S' := by
  unfold f_X7_paper at h
  obtain ⟨r1, S2, h3, h⟩ := bd_some h
  have qS2 : Fm S S2 := fm_X7_in  h3
  by_cases c4 : r1 = 0
  · have h := ifT c4 h
    obtain ⟨rfl, rfl⟩ := sm_inj h
    exact qS2
  · have h := ifF c4 h
    obtain ⟨r5, S6, h7, h⟩ := bd_some h
    have qS6 : Fm S2 S6 := fm_X7_in  h7
    by_cases c8 : r5 = 0
    · have h := ifT c8 h
      obtain ⟨rfl, rfl⟩ := sm_inj h
      exact qS2.tr (qS6)
    · have h := ifF c8 h
      obtain ⟨r9, S10, h11, h⟩ := bd_some h
      have qS10 : Fm S6 S10 := fm_X7_takeRow  h11
      obtain ⟨b12, h⟩ := bnd_some h
      obtain ⟨r13, S14, h15, h⟩ := bd_some h
      have qS14 : Fm S10 S14 := fm_X7_measure  h15
      by_cases c16 : (lg_cmp ((gJ S14 163 23) + (gJ S14 163 24)) 0) = 0
      · have h := ifT c16 h
        obtain ⟨rfl, rfl⟩ := sm_inj h
        exact qS2.tr (qS6.tr (qS10.tr (qS14)))
      · have h := ifF c16 h
        obtain ⟨r17, S18, h19, h⟩ := bd_some h
        have qS18 : Fm S14 S18 := fm_X7_part  h19
        obtain ⟨rfl, rfl⟩ := sm_inj h
        exact qS2.tr (qS6.tr (qS10.tr (qS14.tr (qS18))))
theorem fm_X7_placeOf_2 {r : Int32} {S' : Mm}    : ∀ (n : Nat) (x1 : Int32) (x2 : Int32) (S : Mm), f_X7_placeOf_2 n x1 x2 S = some (r, S') → Fm S S' := by
  intro n
  induction n with
  | zero => intro x1 x2 S h; cases h
  | succ n ih =>
    intro x1 x2 S h
    rw [f_X7_placeOf_2] at h
    obtain ⟨b1, h⟩ := bnd_some h
    by_cases c2 : (gI S 165 (0 : Int32).toNatClampNeg) ≤ x2
    · have h := ifT c2 h
      obtain ⟨rfl, rfl⟩ := sm_inj h
      exact Fm.rf
    · have h := ifF c2 h
      obtain ⟨b3, h⟩ := bnd_some h
      by_cases c4 : (gI S 172 (0 + x2).toNatClampNeg) = x1
      · have h := ifT c4 h
        obtain ⟨rfl, rfl⟩ := sm_inj h
        exact Fm.rf
      · have h := ifF c4 h
        obtain ⟨v5, e6, h⟩ := nm_some h
        exact (ih x1 v5 S h)
theorem fm_X7_placeOf {S S' : Mm} {r : Int32} {x1 : Int32}  (h : f_X7_placeOf S x1 = some (r, S')) : Fm S S' := by
  unfold f_X7_placeOf at h
  exact (fm_X7_placeOf_2 400 x1 0 S h)
theorem fm_X7_plain_22 {r : Unit} {S' : Mm}    : ∀ (n : Nat) (x1 : Int32) (S : Mm), f_X7_plain_22 n x1 S = some (r, S') → Fm S S' := by
  intro n
  induction n with
  | zero => intro x1 S h; cases h
  | succ n ih =>
    intro x1 S h
    rw [f_X7_plain_22] at h
    by_cases c1 : 5 ≤ x1
    · have h := ifT c1 h
      obtain ⟨rfl, rfl⟩ := sm_inj h
      exact Fm.rf
    · have h := ifF c1 h
      obtain ⟨b2, h⟩ := bnd_some h
      obtain ⟨S3, e4, h⟩ := nm_some h
      have qS3 : Fm S S3 := by rw [e4]; exact Fm_sI (by decide)
      obtain ⟨v5, e6, h⟩ := nm_some h
      exact qS3.tr ((ih v5 S3 h))
theorem fm_X7_plain {S S' : Mm} {r : Unit}   (h : f_X7_plain S = some (r, S')) : Fm S S' := by
  unfold f_X7_plain at h
  obtain ⟨b1, h⟩ := bnd_some h
  obtain ⟨S2, e3, h⟩ := nm_some h
  have qS2 : Fm S S2 := by rw [e3]; exact Fm_sI (by decide)
  obtain ⟨b4, h⟩ := bnd_some h
  obtain ⟨S5, e6, h⟩ := nm_some h
  have qS5 : Fm S2 S5 := by rw [e6]; exact Fm_sI (by decide)
  obtain ⟨S7, e8, h⟩ := nm_some h
  have qS7 : Fm S5 S7 := by rw [e8]; exact Fm_sI (by decide)
  exact qS2.tr (qS5.tr (qS7.tr ((fm_X7_plain_22 400 0 S7 h))))
theorem fm_X7_readRow {S S' : Mm} {r : Unit} {x1 : Int32}  (h : f_X7_readRow S x1 = some (r, S')) : Fm S S' := by
  unfold f_X7_readRow at h
  by_cases c1 : x1 = 104
  · have h := ifT c1 h
    obtain ⟨b2, h⟩ := bnd_some h
    obtain ⟨r3, S4, h5, h⟩ := bd_some h
    have qS4 : Fm S S4 := fm_X7_number  h5
    obtain ⟨b6, h⟩ := bnd_some h
    obtain ⟨r7, S8, h9, h⟩ := bd_some h
    have qS8 : Fm S4 S8 := fm_X7_number  h9
    by_cases c10 : (gI S8 163 15) = (-9)
    · have h := ifT c10 h
      obtain ⟨b11, h⟩ := bnd_some h
      obtain ⟨b12, h⟩ := bnd_some h
      obtain ⟨S13, e14, h⟩ := nm_some h
      have qS13 : Fm S8 S13 := by rw [e14]; exact Fm_sI (by decide)
      obtain ⟨rfl, rfl⟩ := sm_inj h
      exact qS4.tr (qS8.tr (qS13))
    · have h := ifF c10 h
      obtain ⟨rfl, rfl⟩ := sm_inj h
      exact qS4.tr (qS8)
  · have h := ifF c1 h
    by_cases c15 : x1 = 115
    · have h := ifT c15 h
      obtain ⟨b16, h⟩ := bnd_some h
      obtain ⟨v17, e18, h⟩ := nm_some h
      obtain ⟨r19, S20, h21, h⟩ := bd_some h
      have qS20 : Fm S S20 := fm_X7_number  h21
      obtain ⟨b22, h⟩ := bnd_some h
      obtain ⟨S23, e24, h⟩ := nm_some h
      have qS23 : Fm S20 S23 := by rw [e24]; exact Fm_sI (by decide)
      obtain ⟨r25, S26, h27, h⟩ := bd_some h
      have qS26 : Fm S23 S26 := fm_X7_number  h27
      obtain ⟨b28, h⟩ := bnd_some h
      obtain ⟨S29, e30, h⟩ := nm_some h
      have qS29 : Fm S26 S29 := by rw [e30]; exact Fm_sI (by decide)
      obtain ⟨r31, S32, h33, h⟩ := bd_some h
      have qS32 : Fm S29 S32 := fm_X7_number  h33
      obtain ⟨b34, h⟩ := bnd_some h
      obtain ⟨S35, e36, h⟩ := nm_some h
      have qS35 : Fm S32 S35 := by rw [e36]; exact Fm_sI (by decide)
      obtain ⟨r37, S38, h39, h⟩ := bd_some h
      have qS38 : Fm S35 S38 := fm_X7_number  h39
      obtain ⟨b40, h⟩ := bnd_some h
      obtain ⟨S41, e42, h⟩ := nm_some h
      have qS41 : Fm S38 S41 := by rw [e42]; exact Fm_sI (by decide)
      obtain ⟨b43, h⟩ := bnd_some h
      obtain ⟨b44, h⟩ := bnd_some h
      obtain ⟨S45, e46, h⟩ := nm_some h
      have qS45 : Fm S41 S45 := by rw [e46]; exact Fm_sI (by decide)
      obtain ⟨rfl, rfl⟩ := sm_inj h
      exact qS20.tr (qS23.tr (qS26.tr (qS29.tr (qS32.tr (qS35.tr (qS38.tr (qS41.tr (qS45))))))))
    · have h := ifF c15 h
      obtain ⟨r47, S48, h49, h⟩ := bd_some h
      have qS48 : Fm S S48 := fm_X7_number  h49
      obtain ⟨b50, h⟩ := bnd_some h
      obtain ⟨S51, e52, h⟩ := nm_some h
      have qS51 : Fm S48 S51 := by rw [e52]; exact Fm_sI (by decide)
      obtain ⟨S53, e54, h⟩ := nm_some h
      have qS53 : Fm S51 S53 := by rw [e54]; exact Fm_sI (by decide)
      obtain ⟨rfl, rfl⟩ := sm_inj h
      exact qS48.tr (qS51.tr (qS53))
theorem fm_X7_takeDraft_47 {r : Unit} {S' : Mm}    : ∀ (n : Nat) (x1 : Int32) (S : Mm), f_X7_takeDraft_47 n x1 S = some (r, S') → Fm S S' := by
  intro n
  induction n with
  | zero => intro x1 S h; cases h
  | succ n ih =>
    intro x1 S h
    rw [f_X7_takeDraft_47] at h
    by_cases c1 : 5 ≤ x1
    · have h := ifT c1 h
      obtain ⟨b2, h⟩ := bnd_some h
      obtain ⟨S3, e4, h⟩ := nm_some h
      have qS3 : Fm S S3 := by rw [e4]; exact Fm_sI (by decide)
      obtain ⟨S5, e6, h⟩ := nm_some h
      have qS5 : Fm S3 S5 := by rw [e6]; exact Fm_sI (by decide)
      obtain ⟨b7, h⟩ := bnd_some h
      obtain ⟨S8, e9, h⟩ := nm_some h
      have qS8 : Fm S5 S8 := by rw [e9]; exact Fm_sI (by decide)
      obtain ⟨b10, h⟩ := bnd_some h
      obtain ⟨S11, e12, h⟩ := nm_some h
      have qS11 : Fm S8 S11 := by rw [e12]; exact Fm_sI (by decide)
      obtain ⟨rfl, rfl⟩ := sm_inj h
      exact qS3.tr (qS5.tr (qS8.tr (qS11)))
    · have h := ifF c1 h
      obtain ⟨b13, h⟩ := bnd_some h
      obtain ⟨b14, h⟩ := bnd_some h
      obtain ⟨S15, e16, h⟩ := nm_some h
      have qS15 : Fm S S15 := by rw [e16]; exact Fm_sI (by decide)
      obtain ⟨b17, h⟩ := bnd_some h
      obtain ⟨b18, h⟩ := bnd_some h
      obtain ⟨S19, e20, h⟩ := nm_some h
      have qS19 : Fm S15 S19 := by rw [e20]; exact Fm_sI (by decide)
      obtain ⟨b21, h⟩ := bnd_some h
      obtain ⟨b22, h⟩ := bnd_some h
      obtain ⟨S23, e24, h⟩ := nm_some h
      have qS23 : Fm S19 S23 := by rw [e24]; exact Fm_sI (by decide)
      obtain ⟨b25, h⟩ := bnd_some h
      obtain ⟨b26, h⟩ := bnd_some h
      obtain ⟨S27, e28, h⟩ := nm_some h
      have qS27 : Fm S23 S27 := by rw [e28]; exact Fm_sI (by decide)
      obtain ⟨b29, h⟩ := bnd_some h
      obtain ⟨S30, e31, h⟩ := nm_some h
      have qS30 : Fm S27 S30 := by rw [e31]; exact Fm_sI (by decide)
      obtain ⟨b32, h⟩ := bnd_some h
      obtain ⟨b33, h⟩ := bnd_some h
      obtain ⟨S34, e35, h⟩ := nm_some h
      have qS34 : Fm S30 S34 := by rw [e35]; exact Fm_sI (by decide)
      obtain ⟨v36, e37, h⟩ := nm_some h
      exact qS15.tr (qS19.tr (qS23.tr (qS27.tr (qS30.tr (qS34.tr ((ih v36 S34 h)))))))
theorem fm_X7_takeDraft_26 {r : Unit} {S' : Mm}    : ∀ (n : Nat) (x1 : Int32) (S : Mm), f_X7_takeDraft_26 n x1 S = some (r, S') → Fm S S' := by
  intro n
  induction n with
  | zero => intro x1 S h; cases h
  | succ n ih =>
    intro x1 S h
    rw [f_X7_takeDraft_26] at h
    by_cases c1 : 20 ≤ x1
    · have h := ifT c1 h
      exact (fm_X7_takeDraft_47 400 0 S h)
    · have h := ifF c1 h
      obtain ⟨b2, h⟩ := bnd_some h
      obtain ⟨S3, e4, h⟩ := nm_some h
      have qS3 : Fm S S3 := by rw [e4]; exact Fm_sI (by decide)
      obtain ⟨v5, e6, h⟩ := nm_some h
      exact qS3.tr ((ih v5 S3 h))
theorem fm_X7_takeDraft {S S' : Mm} {r : Unit}   (h : f_X7_takeDraft S = some (r, S')) : Fm S S' := by
  unfold f_X7_takeDraft at h
  obtain ⟨b1, h⟩ := bnd_some h
  obtain ⟨b2, h⟩ := bnd_some h
  obtain ⟨S3, e4, h⟩ := nm_some h
  have qS3 : Fm S S3 := by rw [e4]; exact Fm_sI (by decide)
  obtain ⟨b5, h⟩ := bnd_some h
  obtain ⟨b6, h⟩ := bnd_some h
  obtain ⟨S7, e8, h⟩ := nm_some h
  have qS7 : Fm S3 S7 := by rw [e8]; exact Fm_sI (by decide)
  exact qS3.tr (qS7.tr ((fm_X7_takeDraft_26 400 0 S7 h)))
theorem fm_X7_shop_91 {r : Int32} {S' : Mm}    : ∀ (x1 : Int32) (S : Mm), f_X7_shop_91 x1 S = some (r, S') → Fm S S' := by
  intro x1 S h
  unfold f_X7_shop_91 at h
  by_cases c1 : (gI S 163 15) = (-9)
  · have h := ifT c1 h
    obtain ⟨r2, S3, h4, h⟩ := bd_some h
    have qS3 : Fm S S3 := fm_X7_takeDraft  h4
    obtain ⟨S5, e6, h⟩ := nm_some h
    have qS5 : Fm S3 S5 := by rw [e6]; exact Fm_sI (by decide)
    obtain ⟨rfl, rfl⟩ := sm_inj h
    exact qS3.tr (qS5)
  · have h := ifF c1 h
    obtain ⟨rfl, rfl⟩ := sm_inj h
    exact Fm.rf
theorem fm_X7_shop_21 {r : Int32} {S' : Mm}    : ∀ (n : Nat) (x1 : Int32) (S : Mm), f_X7_shop_21 n x1 S = some (r, S') → Fm S S' := by
  intro n
  induction n with
  | zero => intro x1 S h; cases h
  | succ n ih =>
    intro x1 S h
    rw [f_X7_shop_21] at h
    by_cases c1 : (gI S 163 15) = (-9)
    · have h := ifT c1 h
      by_cases c2 : (gI S 163 13) = 3
      · have h := ifT c2 h
        exact (fm_X7_shop_91 x1 S h)
      · have h := ifF c2 h
        obtain ⟨v3, e4, h⟩ := nm_some h
        obtain ⟨r5, S6, h7, h⟩ := bd_some h
        have qS6 : Fm S S6 := fm_X7_mayBe  h7
        obtain ⟨r8, S9, h10, h⟩ := bd_some h
        have qS9 : Fm S6 S9 := fm_X7_due  h10
        by_cases c11 : (gI S9 163 15) = (-9)
        · have h := ifT c11 h
          obtain ⟨r12, S13, h14, h⟩ := bd_some h
          have qS13 : Fm S9 S13 := fm_X7_readRow  h14
          by_cases c15 : (gI S13 163 13) = 2
          · have h := ifT c15 h
            obtain ⟨r21, S22, h23, h⟩ := bd_some h
            have qS22 : Fm S13 S22 := fm_X7_due  h23
            obtain ⟨v24, e25, h⟩ := nm_some h
            exact qS6.tr (qS9.tr (qS13.tr (qS22.tr ((ih v24 S22 h)))))
          · have h := ifF c15 h
            obtain ⟨r16, S17, h18, h⟩ := bd_some h
            have qS17 : Fm S13 S17 := fm_X7_due  h18
            obtain ⟨v19, e20, h⟩ := nm_some h
            exact qS6.tr (qS9.tr (qS13.tr (qS17.tr ((ih v19 S17 h)))))
        · have h := ifF c11 h
          exact qS6.tr (qS9.tr ((ih x1 S9 h)))
    · have h := ifF c1 h
      exact (fm_X7_shop_91 x1 S h)
theorem fm_X7_shop {S S' : Mm} {r : Int32}   (h : f_X7_shop S = some (r, S')) : Fm S S' := by
  unfold f_X7_shop at h
  obtain ⟨S1, e2, h⟩ := nm_some h
  have qS1 : Fm S S1 := by rw [e2]; exact Fm_sI (by decide)
  obtain ⟨S3, e4, h⟩ := nm_some h
  have qS3 : Fm S1 S3 := by rw [e4]; exact Fm_sI (by decide)
  obtain ⟨r5, S6, h7, h⟩ := bd_some h
  have qS6 : Fm S3 S6 := fm_X7_plain  h7
  obtain ⟨r8, S9, h10, h⟩ := bd_some h
  have qS9 : Fm S6 S9 := fm_X7_read  h10
  exact qS1.tr (qS3.tr (qS6.tr (qS9.tr ((fm_X7_shop_21 400 0 S9 h)))))
theorem fm_X7_skill {S S' : Mm} {r : Int32} {x1 : Int32} {x2 : Int32}  (h : f_X7_skill S x1 x2 = some (r, S')) : Fm S S' := by
  unfold f_X7_skill at h
  obtain ⟨r1, S2, h3, h⟩ := bd_some h
  have qS2 : Fm S S2 := fm_X7_isStep  h3
  by_cases c4 : r1 = 0
  · have h := ifT c4 h
    obtain ⟨rfl, rfl⟩ := sm_inj h
    exact qS2
  · have h := ifF c4 h
    obtain ⟨r5, S6, h7, h⟩ := bd_some h
    have qS6 : Fm S2 S6 := fm_X7_in  h7
    by_cases c8 : r5 = 0
    · have h := ifT c8 h
      obtain ⟨rfl, rfl⟩ := sm_inj h
      exact qS2.tr (qS6)
    · have h := ifF c8 h
      obtain ⟨r9, S10, h11, h⟩ := bd_some h
      have qS10 : Fm S6 S10 := fm_X7_know  h11
      obtain ⟨b12, h⟩ := bnd_some h
      obtain ⟨v13, e14, h⟩ := nm_some h
      obtain ⟨b15, h⟩ := bnd_some h
      obtain ⟨S16, e17, h⟩ := nm_some h
      have qS16 : Fm S10 S16 := by rw [e17]; exact Fm_sI (by decide)
      obtain ⟨rfl, rfl⟩ := sm_inj h
      exact qS2.tr (qS6.tr (qS10.tr (qS16)))
theorem fm_X7_step {S S' : Mm} {r : Int32} {x1 : Int32} {x2 : Int32}  (h : f_X7_step S x1 x2 = some (r, S')) : Fm S S' := by
  unfold f_X7_step at h
  obtain ⟨r1, S2, h3, h⟩ := bd_some h
  have qS2 : Fm S S2 := fm_X7_isStep  h3
  by_cases c4 : r1 = 0
  · have h := ifT c4 h
    obtain ⟨rfl, rfl⟩ := sm_inj h
    exact qS2
  · have h := ifF c4 h
    by_cases c5 : x2 = 0
    · have h := ifT c5 h
      obtain ⟨b6, h⟩ := bnd_some h
      obtain ⟨rfl, rfl⟩ := sm_inj h
      exact qS2
    · have h := ifF c5 h
      by_cases c7 : x2 = 1
      · have h := ifT c7 h
        obtain ⟨b8, h⟩ := bnd_some h
        obtain ⟨rfl, rfl⟩ := sm_inj h
        exact qS2
      · have h := ifF c7 h
        by_cases c9 : x2 = 2
        · have h := ifT c9 h
          obtain ⟨b10, h⟩ := bnd_some h
          obtain ⟨rfl, rfl⟩ := sm_inj h
          exact qS2
        · have h := ifF c9 h
          by_cases c11 : x2 = 3
          · have h := ifT c11 h
            obtain ⟨b12, h⟩ := bnd_some h
            obtain ⟨rfl, rfl⟩ := sm_inj h
            exact qS2
          · have h := ifF c11 h
            by_cases c13 : x2 = 4
            · have h := ifT c13 h
              obtain ⟨b14, h⟩ := bnd_some h
              obtain ⟨rfl, rfl⟩ := sm_inj h
              exact qS2
            · have h := ifF c13 h
              by_cases c15 : x2 = 5
              · have h := ifT c15 h
                obtain ⟨b16, h⟩ := bnd_some h
                obtain ⟨rfl, rfl⟩ := sm_inj h
                exact qS2
              · have h := ifF c15 h
                by_cases c17 : x2 = 6
                · have h := ifT c17 h
                  obtain ⟨r18, S19, h20, h⟩ := bd_some h
                  have qS19 : Fm S2 S19 := fm_X7_placeOf  h20
                  obtain ⟨rfl, rfl⟩ := sm_inj h
                  exact qS2.tr (qS19)
                · have h := ifF c17 h
                  by_cases c21 : x2 = 7
                  · have h := ifT c21 h
                    obtain ⟨b22, h⟩ := bnd_some h
                    obtain ⟨rfl, rfl⟩ := sm_inj h
                    exact qS2
                  · have h := ifF c21 h
                    obtain ⟨rfl, rfl⟩ := sm_inj h
                    exact qS2
theorem fm_X7_tells {S S' : Mm} {r : Int32} {x1 : Int32} {x2 : Int32}  (h : f_X7_tells S x1 x2 = some (r, S')) : Fm S S' := by
  unfold f_X7_tells at h
  obtain ⟨r1, S2, h3, h⟩ := bd_some h
  have qS2 : Fm S S2 := fm_X7_isSeed  h3
  by_cases c4 : r1 = 0
  · have h := ifT c4 h
    obtain ⟨rfl, rfl⟩ := sm_inj h
    exact qS2
  · have h := ifF c4 h
    obtain ⟨r5, S6, h7, h⟩ := bd_some h
    have qS6 : Fm S2 S6 := fm_X7_in  h7
    by_cases c8 : r5 = 0
    · have h := ifT c8 h
      obtain ⟨rfl, rfl⟩ := sm_inj h
      exact qS2.tr (qS6)
    · have h := ifF c8 h
      by_cases c9 : (gI S6 163 30) = 6
      · have h := ifT c9 h
        obtain ⟨rfl, rfl⟩ := sm_inj h
        exact qS2.tr (qS6)
      · have h := ifF c9 h
        obtain ⟨b10, h⟩ := bnd_some h
        obtain ⟨S11, e12, h⟩ := nm_some h
        have qS11 : Fm S6 S11 := by rw [e12]; exact Fm_sI (by decide)
        obtain ⟨b13, h⟩ := bnd_some h
        obtain ⟨S14, e15, h⟩ := nm_some h
        have qS14 : Fm S11 S14 := by rw [e15]; exact Fm_sI (by decide)
        obtain ⟨S16, e17, h⟩ := nm_some h
        have qS16 : Fm S14 S16 := by rw [e17]; exact Fm_sI (by decide)
        obtain ⟨rfl, rfl⟩ := sm_inj h
        exact qS2.tr (qS6.tr (qS11.tr (qS14.tr (qS16))))
theorem fm_X7_trace {S S' : Mm} {r : Int64}   (h : f_X7_trace S = some (r, S')) : Fm S S' := by
  unfold f_X7_trace at h
  obtain ⟨rfl, rfl⟩ := sm_inj h
  exact Fm.rf
theorem fm_X7_type {S S' : Mm} {r : Int32} {x1 : Int32}  (h : f_X7_type S x1 = some (r, S')) : Fm S S' := by
  unfold f_X7_type at h
  obtain ⟨r1, S2, h3, h⟩ := bd_some h
  have qS2 : Fm S S2 := fm_X7_in  h3
  by_cases c4 : r1 = 0
  · have h := ifT c4 h
    obtain ⟨rfl, rfl⟩ := sm_inj h
    exact qS2
  · have h := ifF c4 h
    by_cases c5 : (gI S2 163 2) = 150
    · have h := ifT c5 h
      obtain ⟨rfl, rfl⟩ := sm_inj h
      exact qS2
    · have h := ifF c5 h
      obtain ⟨b6, h⟩ := bnd_some h
      obtain ⟨S7, e8, h⟩ := nm_some h
      have qS7 : Fm S2 S7 := by rw [e8]; exact Fm_sI (by decide)
      obtain ⟨S9, e10, h⟩ := nm_some h
      have qS9 : Fm S7 S9 := by rw [e10]; exact Fm_sI (by decide)
      obtain ⟨rfl, rfl⟩ := sm_inj h
      exact qS2.tr (qS7.tr (qS9))
theorem fm_X7_undo_26 {r : Int32} {S' : Mm}    : ∀ (n : Nat) (x1 : Int32) (S : Mm), f_X7_undo_26 n x1 S = some (r, S') → Fm S S' := by
  intro n
  induction n with
  | zero => intro x1 S h; cases h
  | succ n ih =>
    intro x1 S h
    rw [f_X7_undo_26] at h
    by_cases c1 : 20 ≤ x1
    · have h := ifT c1 h
      obtain ⟨b2, h⟩ := bnd_some h
      obtain ⟨rfl, rfl⟩ := sm_inj h
      exact Fm.rf
    · have h := ifF c1 h
      obtain ⟨b3, h⟩ := bnd_some h
      obtain ⟨b4, h⟩ := bnd_some h
      obtain ⟨b5, h⟩ := bnd_some h
      obtain ⟨S6, e7, h⟩ := nm_some h
      have qS6 : Fm S S6 := by rw [e7]; exact Fm_sI (by decide)
      obtain ⟨v8, e9, h⟩ := nm_some h
      exact qS6.tr ((ih v8 S6 h))
theorem fm_X7_undo {S S' : Mm} {r : Int32}   (h : f_X7_undo S = some (r, S')) : Fm S S' := by
  unfold f_X7_undo at h
  obtain ⟨b1, h⟩ := bnd_some h
  by_cases c2 : (gI S 172 (20 : Int32).toNatClampNeg) = 0
  · have h := ifT c2 h
    obtain ⟨rfl, rfl⟩ := sm_inj h
    exact Fm.rf
  · have h := ifF c2 h
    obtain ⟨b3, h⟩ := bnd_some h
    obtain ⟨b4, h⟩ := bnd_some h
    obtain ⟨S5, e6, h⟩ := nm_some h
    have qS5 : Fm S S5 := by rw [e6]; exact Fm_sI (by decide)
    exact qS5.tr ((fm_X7_undo_26 400 0 S5 h))
theorem fm_X7_who_50 {r : Int32} {S' : Mm}   {kk31 : Int32 → Int32 → Int32 → Int32 → Int32 → Mm → Option (Int32 × Mm)} (hk31 : ∀ (x1 : Int32) (x2 : Int32) (x3 : Int32) (x4 : Int32) (x5 : Int32) (S : Mm), kk31 x1 x2 x3 x4 x5 S = some (r, S') → Fm S S') : ∀ (n : Nat) (x1 : Int32) (x2 : Int32) (x3 : Int32) (x4 : Int32) (x5 : Int32) (x6 : Int32) (x7 : Int32) (S : Mm), f_X7_who_50 kk31 n x1 x2 x3 x4 x5 x6 x7 S = some (r, S') → Fm S S' := by
  intro n
  induction n with
  | zero => intro x1 x2 x3 x4 x5 x6 x7 S h; cases h
  | succ n ih =>
    intro x1 x2 x3 x4 x5 x6 x7 S h
    rw [f_X7_who_50] at h
    by_cases c1 : (gI S 163 30) ≤ x7
    · have h := ifT c1 h
      by_cases c2 : x6 = 0
      · have h := ifT c2 h
        obtain ⟨v3, e4, h⟩ := nm_some h
        exact (hk31 x1 x2 x3 x4 v3 S h)
      · have h := ifF c2 h
        by_cases c5 : x2 = 0
        · have h := ifT c5 h
          obtain ⟨v12, e13, h⟩ := nm_some h
          obtain ⟨v14, e15, h⟩ := nm_some h
          obtain ⟨v16, e17, h⟩ := nm_some h
          exact (hk31 x1 v14 x5 v12 v16 S h)
        · have h := ifF c5 h
          obtain ⟨v6, e7, h⟩ := nm_some h
          obtain ⟨v8, e9, h⟩ := nm_some h
          obtain ⟨v10, e11, h⟩ := nm_some h
          exact (hk31 x1 v8 x3 v6 v10 S h)
    · have h := ifF c1 h
      by_cases c18 : x6 = 0
      · have h := ifT c18 h
        obtain ⟨v19, e20, h⟩ := nm_some h
        exact (ih x1 x2 x3 x4 x5 0 v19 S h)
      · have h := ifF c18 h
        obtain ⟨b21, h⟩ := bnd_some h
        obtain ⟨r22, S23, h24, h⟩ := bd_some h
        have qS23 : Fm S S23 := fm_X7_go  h24
        obtain ⟨b25, h⟩ := bnd_some h
        by_cases c26 : r22 = (gI S23 179 x7.toNatClampNeg)
        · have h := ifT c26 h
          obtain ⟨v29, e30, h⟩ := nm_some h
          exact qS23.tr ((ih x1 x2 x3 x4 x5 1 v29 S23 h))
        · have h := ifF c26 h
          obtain ⟨v27, e28, h⟩ := nm_some h
          exact qS23.tr ((ih x1 x2 x3 x4 x5 0 v27 S23 h))
theorem fm_X7_who_31 {r : Int32} {S' : Mm}    : ∀ (n : Nat) (x1 : Int32) (x2 : Int32) (x3 : Int32) (x4 : Int32) (x5 : Int32) (S : Mm), f_X7_who_31 n x1 x2 x3 x4 x5 S = some (r, S') → Fm S S' := by
  intro n
  induction n with
  | zero => intro x1 x2 x3 x4 x5 S h; cases h
  | succ n ih =>
    intro x1 x2 x3 x4 x5 S h
    rw [f_X7_who_31] at h
    obtain ⟨b1, h⟩ := bnd_some h
    by_cases c2 : (1 <<< ((gI S 165 (0 : Int32).toNatClampNeg) &&& 31)) ≤ x5
    · have h := ifT c2 h
      by_cases c3 : x1 = 0
      · have h := ifT c3 h
        obtain ⟨rfl, rfl⟩ := sm_inj h
        exact Fm.rf
      · have h := ifF c3 h
        by_cases c4 : x1 = 1
        · have h := ifT c4 h
          obtain ⟨rfl, rfl⟩ := sm_inj h
          exact Fm.rf
        · have h := ifF c4 h
          by_cases c5 : x2 = 0
          · have h := ifT c5 h
            obtain ⟨rfl, rfl⟩ := sm_inj h
            exact Fm.rf
          · have h := ifF c5 h
            obtain ⟨rfl, rfl⟩ := sm_inj h
            exact Fm.rf
    · have h := ifF c2 h
      exact (fm_X7_who_50 ih 400 x1 x2 x3 x4 x5 1 0 S h)
theorem fm_X7_who {S S' : Mm} {r : Int32} {x1 : Int32}  (h : f_X7_who S x1 = some (r, S')) : Fm S S' := by
  unfold f_X7_who at h
  obtain ⟨r1, S2, h3, h⟩ := bd_some h
  have qS2 : Fm S S2 := fm_X7_in  h3
  by_cases c4 : r1 = 0
  · have h := ifT c4 h
    obtain ⟨rfl, rfl⟩ := sm_inj h
    exact qS2
  · have h := ifF c4 h
    obtain ⟨b5, h⟩ := bnd_some h
    obtain ⟨v6, e7, h⟩ := nm_some h
    exact qS2.tr ((fm_X7_who_31 400 x1 0 ((-9)) v6 0 S2 h))
theorem cc_J6_bitCount_0f7a4 {S S' : Mm} {r : Int32} {x0 : Int32}  (h : f_J6_bitCount_0f7a4 S x0 = some (r, S')) : Cc S S' := by
  unfold f_J6_bitCount_0f7a4 at h
  obtain ⟨v1, e2, h⟩ := nm_some h
  obtain ⟨v3, e4, h⟩ := nm_some h
  obtain ⟨v5, e6, h⟩ := nm_some h
  obtain ⟨v7, e8, h⟩ := nm_some h
  obtain ⟨v9, e10, h⟩ := nm_some h
  obtain ⟨rfl, rfl⟩ := sm_inj h
  exact Cc.rf
theorem cc_X0_begin {S S' : Mm} {r : Unit}   (h : f_X0_begin S = some (r, S')) : Cc S S' := by
  unfold f_X0_begin at h
  obtain ⟨S1, e2, h⟩ := nm_some h
  have qS1 : Cc S S1 := by rw [e2]; exact Cc_sJ (by decide)
  obtain ⟨S3, e4, h⟩ := nm_some h
  have qS3 : Cc S1 S3 := by rw [e4]; exact Cc_sJ (by decide)
  obtain ⟨S5, e6, h⟩ := nm_some h
  have qS5 : Cc S3 S5 := by rw [e6]; exact Cc_sJ (by decide)
  obtain ⟨rfl, rfl⟩ := sm_inj h
  exact qS1.tr (qS3.tr (qS5))
theorem cc_X0_lookBehind {S S' : Mm} {r : Unit} {x1 : Int32} {x2 : Int32} {x3 : Int32}  (h : f_X0_lookBehind S x1 x2 x3 = some (r, S')) : Cc S S' := by
  unfold f_X0_lookBehind at h
  obtain ⟨S1, e2, h⟩ := nm_some h
  have qS1 : Cc S S1 := by rw [e2]; exact Cc_sJ (by decide)
  obtain ⟨b3, h⟩ := bnd_some h
  obtain ⟨S4, e5, h⟩ := nm_some h
  have qS4 : Cc S1 S4 := by rw [e5]; exact Cc_sJ (by decide)
  obtain ⟨b6, h⟩ := bnd_some h
  obtain ⟨S7, e8, h⟩ := nm_some h
  have qS7 : Cc S4 S7 := by rw [e8]; exact Cc_sJ (by decide)
  obtain ⟨rfl, rfl⟩ := sm_inj h
  exact qS1.tr (qS4.tr (qS7))
theorem cc_X0_thinShares_2 {r : Unit} {S' : Mm}    : ∀ (n : Nat) (x1 : Int32) (x2 : Int32) (x3 : Int32) (S : Mm), f_X0_thinShares_2 n x1 x2 x3 S = some (r, S') → Cc S S' := by
  intro n
  induction n with
  | zero => intro x1 x2 x3 S h; cases h
  | succ n ih =>
    intro x1 x2 x3 S h
    rw [f_X0_thinShares_2] at h
    by_cases c1 : x1 < x3
    · have h := ifT c1 h
      obtain ⟨rfl, rfl⟩ := sm_inj h
      exact Cc.rf
    · have h := ifF c1 h
      obtain ⟨b2, h⟩ := bnd_some h
      obtain ⟨b3, h⟩ := bnd_some h
      obtain ⟨S4, e5, h⟩ := nm_some h
      have qS4 : Cc S S4 := by rw [e5]; exact Cc_sJ (by decide)
      obtain ⟨v6, e7, h⟩ := nm_some h
      exact qS4.tr ((ih x1 x2 v6 S4 h))
theorem cc_X0_thinShares {S S' : Mm} {r : Unit} {x1 : Int32} {x2 : Int32}  (h : f_X0_thinShares S x1 x2 = some (r, S')) : Cc S S' := by
  unfold f_X0_thinShares at h
  exact (cc_X0_thinShares_2 400 x1 x2 0 S h)
theorem cc_X0_work {S S' : Mm} {r : Unit} {x1 : Int32} {x2 : Int32} {x3 : Int32}  (h : f_X0_work S x1 x2 x3 = some (r, S')) : Cc S S' := by
  unfold f_X0_work at h
  obtain ⟨S1, e2, h⟩ := nm_some h
  have qS1 : Cc S S1 := by rw [e2]; exact Cc_sJ (by decide)
  obtain ⟨b3, h⟩ := bnd_some h
  obtain ⟨S4, e5, h⟩ := nm_some h
  have qS4 : Cc S1 S4 := by rw [e5]; exact Cc_sJ (by decide)
  obtain ⟨b6, h⟩ := bnd_some h
  obtain ⟨S7, e8, h⟩ := nm_some h
  have qS7 : Cc S4 S7 := by rw [e8]; exact Cc_sJ (by decide)
  obtain ⟨b9, h⟩ := bnd_some h
  obtain ⟨S10, e11, h⟩ := nm_some h
  have qS10 : Cc S7 S10 := by rw [e11]; exact Cc_sJ (by decide)
  obtain ⟨rfl, rfl⟩ := sm_inj h
  exact qS1.tr (qS4.tr (qS7.tr (qS10)))
theorem cc_X0_through_7 {r : Unit} {S' : Mm} {a1 : Nat} {a2 : Nat} {a3 : Nat}   : ∀ (n : Nat) (x4 : Int32) (x5 : Int32) (S : Mm), f_X0_through_7 a1 a2 a3 n x4 x5 S = some (r, S') → Cc S S' := by
  intro n
  induction n with
  | zero => intro x4 x5 S h; cases h
  | succ n ih =>
    intro x4 x5 S h
    rw [f_X0_through_7] at h
    by_cases c1 : (gI S a1 0) ≤ x5
    · have h := ifT c1 h
      obtain ⟨S2, e3, h⟩ := nm_some h
      have qS2 : Cc S S2 := by rw [e3]; exact Cc_sJ (by decide)
      obtain ⟨rfl, rfl⟩ := sm_inj h
      exact qS2
    · have h := ifF c1 h
      obtain ⟨b4, h⟩ := bnd_some h
      obtain ⟨v5, e6, h⟩ := nm_some h
      obtain ⟨b7, h⟩ := bnd_some h
      obtain ⟨b8, h⟩ := bnd_some h
      obtain ⟨r9, S10, h11, h⟩ := bd_some h
      have qS10 : Cc S S10 := cc_X0_work  h11
      obtain ⟨b12, h⟩ := bnd_some h
      obtain ⟨S13, e14, h⟩ := nm_some h
      have qS13 : Cc S10 S13 := by rw [e14]; exact Cc_sJ (by decide)
      by_cases c15 : ((x4 >>> (v5 &&& 31)) &&& 1) = 1
      · have h := ifT c15 h
        obtain ⟨b18, h⟩ := bnd_some h
        obtain ⟨b19, h⟩ := bnd_some h
        obtain ⟨r20, S21, h22, h⟩ := bd_some h
        have qS21 : Cc S13 S21 := cc_X0_lookBehind  h22
        obtain ⟨v23, e24, h⟩ := nm_some h
        exact qS10.tr (qS13.tr (qS21.tr ((ih x4 v23 S21 h))))
      · have h := ifF c15 h
        obtain ⟨v16, e17, h⟩ := nm_some h
        exact qS10.tr (qS13.tr ((ih x4 v16 S13 h)))
theorem cc_X0_through {S S' : Mm} {r : Unit} {a1 : Nat} {a2 : Nat} {a3 : Nat} {x4 : Int32}  (h : f_X0_through S a1 a2 a3 x4 = some (r, S')) : Cc S S' := by
  unfold f_X0_through at h
  obtain ⟨r1, S2, h3, h⟩ := bd_some h
  have qS2 : Cc S S2 := cc_X0_begin  h3
  exact qS2.tr ((cc_X0_through_7 400 x4 0 S2 h))
theorem cc_X0_upTo_7 {r : Unit} {S' : Mm} {a2 : Nat} {a3 : Nat}   : ∀ (n : Nat) (x1 : Int32) (x4 : Int32) (S : Mm), f_X0_upTo_7 a2 a3 n x1 x4 S = some (r, S') → Cc S S' := by
  intro n
  induction n with
  | zero => intro x1 x4 S h; cases h
  | succ n ih =>
    intro x1 x4 S h
    rw [f_X0_upTo_7] at h
    by_cases c1 : x1 < x4
    · have h := ifT c1 h
      obtain ⟨rfl, rfl⟩ := sm_inj h
      exact Cc.rf
    · have h := ifF c1 h
      by_cases c2 : (gI S a2 0) ≤ x4
      · have h := ifT c2 h
        obtain ⟨rfl, rfl⟩ := sm_inj h
        exact Cc.rf
      · have h := ifF c2 h
        obtain ⟨b3, h⟩ := bnd_some h
        obtain ⟨v4, e5, h⟩ := nm_some h
        obtain ⟨b6, h⟩ := bnd_some h
        obtain ⟨b7, h⟩ := bnd_some h
        obtain ⟨r8, S9, h10, h⟩ := bd_some h
        have qS9 : Cc S S9 := cc_X0_work  h10
        by_cases c11 : x1 ≤ x4
        · have h := ifT c11 h
          obtain ⟨v12, e13, h⟩ := nm_some h
          exact qS9.tr ((ih x1 v12 S9 h))
        · have h := ifF c11 h
          by_cases c14 : (((gI S9 a3 3) >>> (v4 &&& 31)) &&& 1) = 1
          · have h := ifT c14 h
            obtain ⟨b17, h⟩ := bnd_some h
            obtain ⟨b18, h⟩ := bnd_some h
            obtain ⟨r19, S20, h21, h⟩ := bd_some h
            have qS20 : Cc S9 S20 := cc_X0_lookBehind  h21
            obtain ⟨b22, h⟩ := bnd_some h
            obtain ⟨r23, S24, h25, h⟩ := bd_some h
            have qS24 : Cc S20 S24 := cc_X0_thinShares  h25
            obtain ⟨v26, e27, h⟩ := nm_some h
            exact qS9.tr (qS20.tr (qS24.tr ((ih x1 v26 S24 h))))
          · have h := ifF c14 h
            obtain ⟨v15, e16, h⟩ := nm_some h
            exact qS9.tr ((ih x1 v15 S9 h))
theorem cc_X0_upTo {S S' : Mm} {r : Unit} {x1 : Int32} {a2 : Nat} {a3 : Nat}  (h : f_X0_upTo S x1 a2 a3 = some (r, S')) : Cc S S' := by
  unfold f_X0_upTo at h
  obtain ⟨r1, S2, h3, h⟩ := bd_some h
  have qS2 : Cc S S2 := cc_X0_begin  h3
  exact qS2.tr ((cc_X0_upTo_7 400 x1 0 S2 h))
theorem cc_X2_fate {S S' : Mm} {r : Int32}   (h : f_X2_fate S = some (r, S')) : Cc S S' := by
  unfold f_X2_fate at h
  by_cases c1 : (gI S 157 2) = (-1)
  · have h := ifT c1 h
    by_cases c2 : (gI S 157 1) = 0
    · have h := ifT c2 h
      obtain ⟨rfl, rfl⟩ := sm_inj h
      exact Cc.rf
    · have h := ifF c2 h
      obtain ⟨rfl, rfl⟩ := sm_inj h
      exact Cc.rf
  · have h := ifF c1 h
    obtain ⟨rfl, rfl⟩ := sm_inj h
    exact Cc.rf
theorem cc_X1_placeOf_2 {r : Int32} {S' : Mm} {o : Nat}   : ∀ (n : Nat) (x1 : Int32) (x2 : Int32) (x3 : Int32) (S : Mm), f_X1_placeOf_2 o n x1 x2 x3 S = some (r, S') → Cc S S' := by
  intro n
  induction n with
  | zero => intro x1 x2 x3 S h; cases h
  | succ n ih =>
    intro x1 x2 x3 S h
    rw [f_X1_placeOf_2] at h
    by_cases c1 : x2 ≤ x3
    · have h := ifT c1 h
      obtain ⟨rfl, rfl⟩ := sm_inj h
      exact Cc.rf
    · have h := ifF c1 h
      obtain ⟨b2, h⟩ := bnd_some h
      by_cases c3 : (gI S (o + 1) x3.toNatClampNeg) = x1
      · have h := ifT c3 h
        obtain ⟨rfl, rfl⟩ := sm_inj h
        exact Cc.rf
      · have h := ifF c3 h
        obtain ⟨v4, e5, h⟩ := nm_some h
        exact (ih x1 x2 v4 S h)
theorem cc_X1_placeOf {S S' : Mm} {r : Int32} {o : Nat} {x1 : Int32} {x2 : Int32}  (h : f_X1_placeOf S o x1 x2 = some (r, S')) : Cc S S' := by
  unfold f_X1_placeOf at h
  exact (cc_X1_placeOf_2 400 x1 x2 0 S h)
theorem cc_X2_draw {S S' : Mm} {r : Int32} {x0 : Int32} {x1 : Int32}  (h : f_X2_draw S x0 x1 = some (r, S')) : Cc S S' := by
  unfold f_X2_draw at h
  obtain ⟨v1, e2, h⟩ := nm_some h
  obtain ⟨rfl, rfl⟩ := sm_inj h
  exact Cc.rf
theorem cc_X2_go_93 {r : Unit} {S' : Mm} {a1 : Nat} {a2 : Nat}  {kk18 : Int32 → Int32 → Int32 → Mm → Option (Unit × Mm)} (hk18 : ∀ (x3 : Int32) (x4 : Int32) (x5 : Int32) (S : Mm), kk18 x3 x4 x5 S = some (r, S') → Cc S S') : ∀ (x3 : Int32) (x4 : Int32) (x5 : Int32) (x6 : Int32) (S : Mm), f_X2_go_93 kk18 a1 a2 x3 x4 x5 x6 S = some (r, S') → Cc S S' := by
  intro x3 x4 x5 x6 S h
  unfold f_X2_go_93 at h
  by_cases c1 : ((x3 >>> (x6 &&& 31)) &&& 1) = 1
  · have h := ifT c1 h
    obtain ⟨b4, h⟩ := bnd_some h
    obtain ⟨S5, e6, h⟩ := nm_some h
    have qS5 : Cc S S5 := by rw [e6]; exact Cc_sI (by decide)
    by_cases c7 : (gI S5 157 1) = 0
    · have h := ifT c7 h
      obtain ⟨v8, e9, h⟩ := nm_some h
      exact qS5.tr ((hk18 x3 x4 v8 S5 h))
    · have h := ifF c7 h
      obtain ⟨r10, S11, h12, h⟩ := bd_some h
      have qS11 : Cc S5 S11 := cc_X2_draw  h12
      obtain ⟨b13, h⟩ := bnd_some h
      by_cases c14 : r10 < (gI S11 (a1 + 4) x6.toNatClampNeg)
      · have h := ifT c14 h
        obtain ⟨v15, e16, h⟩ := nm_some h
        exact qS5.tr (qS11.tr ((hk18 x3 x4 v15 S11 h)))
      · have h := ifF c14 h
        obtain ⟨S17, e18, h⟩ := nm_some h
        have qS17 : Cc S11 S17 := by rw [e18]; exact Cc_sI (by decide)
        obtain ⟨v19, e20, h⟩ := nm_some h
        exact qS5.tr (qS11.tr (qS17.tr ((hk18 x3 x4 v19 S17 h))))
  · have h := ifF c1 h
    obtain ⟨v2, e3, h⟩ := nm_some h
    exact (hk18 x3 x4 v2 S h)
theorem cc_X2_go_18 {r : Unit} {S' : Mm} {a1 : Nat} {a2 : Nat}   : ∀ (n : Nat) (x3 : Int32) (x4 : Int32) (x5 : Int32) (S : Mm), f_X2_go_18 a1 a2 n x3 x4 x5 S = some (r, S') → Cc S S' := by
  intro n
  induction n with
  | zero => intro x3 x4 x5 S h; cases h
  | succ n ih =>
    intro x3 x4 x5 S h
    rw [f_X2_go_18] at h
    by_cases c1 : (gI S a1 0) ≤ x5
    · have h := ifT c1 h
      obtain ⟨rfl, rfl⟩ := sm_inj h
      exact Cc.rf
    · have h := ifF c1 h
      by_cases c2 : (gI S 157 2) = (-1)
      · have h := ifT c2 h
        obtain ⟨b3, h⟩ := bnd_some h
        obtain ⟨v4, e5, h⟩ := nm_some h
        obtain ⟨b6, h⟩ := bnd_some h
        obtain ⟨S7, e8, h⟩ := nm_some h
        have qS7 : Cc S S7 := by rw [e8]; exact Cc_sI (by decide)
        by_cases c9 : (gI S7 157 1) = 0
        · have h := ifT c9 h
          obtain ⟨r12, S13, h14, h⟩ := bd_some h
          have qS13 : Cc S7 S13 := cc_X2_draw  h14
          obtain ⟨b15, h⟩ := bnd_some h
          by_cases c16 : (gI S13 (a2 + 2) v4.toNatClampNeg) ≤ r12
          · have h := ifT c16 h
            obtain ⟨S17, e18, h⟩ := nm_some h
            have qS17 : Cc S13 S17 := by rw [e18]; exact Cc_sI (by decide)
            exact qS7.tr (qS13.tr (qS17.tr ((cc_X2_go_93 ih x3 x4 x5 v4 S17 h))))
          · have h := ifF c16 h
            obtain ⟨S19, e20, h⟩ := nm_some h
            have qS19 : Cc S13 S19 := by rw [e20]; exact Cc_sI (by decide)
            exact qS7.tr (qS13.tr (qS19.tr ((cc_X2_go_93 ih x3 x4 x5 v4 S19 h))))
        · have h := ifF c9 h
          obtain ⟨S10, e11, h⟩ := nm_some h
          have qS10 : Cc S7 S10 := by rw [e11]; exact Cc_sI (by decide)
          exact qS7.tr (qS10.tr ((cc_X2_go_93 ih x3 x4 x5 v4 S10 h)))
      · have h := ifF c2 h
        obtain ⟨rfl, rfl⟩ := sm_inj h
        exact Cc.rf
theorem cc_X2_go {S S' : Mm} {r : Unit} {a1 : Nat} {a2 : Nat} {x3 : Int32} {x4 : Int32}  (h : f_X2_go S a1 a2 x3 x4 = some (r, S')) : Cc S S' := by
  unfold f_X2_go at h
  obtain ⟨S1, e2, h⟩ := nm_some h
  have qS1 : Cc S S1 := by rw [e2]; exact Cc_sI (by decide)
  obtain ⟨S3, e4, h⟩ := nm_some h
  have qS3 : Cc S1 S3 := by rw [e4]; exact Cc_sI (by decide)
  obtain ⟨S5, e6, h⟩ := nm_some h
  have qS5 : Cc S3 S5 := by rw [e6]; exact Cc_sI (by decide)
  exact qS1.tr (qS3.tr (qS5.tr ((cc_X2_go_18 400 x3 x4 0 S5 h))))
theorem cc_X4_allows_4 {r : Int32} {S' : Mm} {o : Nat} {a1 : Nat}   : ∀ (n : Nat) (x2 : Int32) (x3 : Int32) (S : Mm), f_X4_allows_4 o a1 n x2 x3 S = some (r, S') → Cc S S' := by
  intro n
  induction n with
  | zero => intro x2 x3 S h; cases h
  | succ n ih =>
    intro x2 x3 S h
    rw [f_X4_allows_4] at h
    by_cases c1 : (gI S o 0) ≤ x3
    · have h := ifT c1 h
      obtain ⟨rfl, rfl⟩ := sm_inj h
      exact Cc.rf
    · have h := ifF c1 h
      obtain ⟨b2, h⟩ := bnd_some h
      obtain ⟨b3, h⟩ := bnd_some h
      by_cases c4 : ((gI S (o + 5) (gI S a1 x3.toNatClampNeg).toNatClampNeg) &&& x2) = 0
      · have h := ifT c4 h
        obtain ⟨b5, h⟩ := bnd_some h
        obtain ⟨v6, e7, h⟩ := nm_some h
        obtain ⟨v8, e9, h⟩ := nm_some h
        exact (ih v6 v8 S h)
      · have h := ifF c4 h
        obtain ⟨rfl, rfl⟩ := sm_inj h
        exact Cc.rf
theorem cc_X4_allows {S S' : Mm} {r : Int32} {o : Nat} {a1 : Nat}  (h : f_X4_allows S o a1 = some (r, S')) : Cc S S' := by
  unfold f_X4_allows at h
  exact (cc_X4_allows_4 400 0 0 S h)
theorem cc_X4_mustLead {S S' : Mm} {r : Int32} {o : Nat} {x1 : Int32} {x2 : Int32}  (h : f_X4_mustLead S o x1 x2 = some (r, S')) : Cc S S' := by
  unfold f_X4_mustLead at h
  obtain ⟨b1, h⟩ := bnd_some h
  by_cases c2 : (((gI S (o + 5) x1.toNatClampNeg) >>> (x2 &&& 31)) &&& 1) = 1
  · have h := ifT c2 h
    obtain ⟨rfl, rfl⟩ := sm_inj h
    exact Cc.rf
  · have h := ifF c2 h
    obtain ⟨rfl, rfl⟩ := sm_inj h
    exact Cc.rf
theorem cc_X6_swap {S S' : Mm} {r : Unit} {x1 : Int32} {x2 : Int32}  (h : f_X6_swap S 161 x1 x2 = some (r, S')) : Cc S S' := by
  unfold f_X6_swap at h
  obtain ⟨b1, h⟩ := bnd_some h
  obtain ⟨v2, e3, h⟩ := nm_some h
  obtain ⟨b4, h⟩ := bnd_some h
  obtain ⟨b5, h⟩ := bnd_some h
  obtain ⟨S6, e7, h⟩ := nm_some h
  have qS6 : Cc S S6 := by rw [e7]; exact Cc_sI (by decide)
  obtain ⟨b8, h⟩ := bnd_some h
  obtain ⟨S9, e10, h⟩ := nm_some h
  have qS9 : Cc S6 S9 := by rw [e10]; exact Cc_sI (by decide)
  obtain ⟨rfl, rfl⟩ := sm_inj h
  exact qS6.tr (qS9)
theorem cc_X6_advance_71 {r : Int32} {S' : Mm}    : ∀ (n : Nat) (x4 : Int32) (x5 : Int32) (S : Mm), f_X6_advance_71 161 n x4 x5 S = some (r, S') → Cc S S' := by
  intro n
  induction n with
  | zero => intro x4 x5 S h; cases h
  | succ n ih =>
    intro x4 x5 S h
    rw [f_X6_advance_71] at h
    by_cases c1 : x5 ≤ x4
    · have h := ifT c1 h
      obtain ⟨rfl, rfl⟩ := sm_inj h
      exact Cc.rf
    · have h := ifF c1 h
      obtain ⟨r2, S3, h4, h⟩ := bd_some h
      have qS3 : Cc S S3 := cc_X6_swap  h4
      obtain ⟨v5, e6, h⟩ := nm_some h
      obtain ⟨v7, e8, h⟩ := nm_some h
      exact qS3.tr ((ih v5 v7 S3 h))
theorem cc_X6_advance_55 {r : Int32} {S' : Mm}    : ∀ (x1 : Int32) (x2 : Int32) (x3 : Int32) (S : Mm), f_X6_advance_55 161 x1 x2 x3 S = some (r, S') → Cc S S' := by
  intro x1 x2 x3 S h
  unfold f_X6_advance_55 at h
  obtain ⟨r1, S2, h3, h⟩ := bd_some h
  have qS2 : Cc S S2 := cc_X6_swap  h3
  obtain ⟨v4, e5, h⟩ := nm_some h
  obtain ⟨v6, e7, h⟩ := nm_some h
  exact qS2.tr ((cc_X6_advance_71 400 v4 v6 S2 h))
theorem cc_X6_advance_35 {r : Int32} {S' : Mm}    : ∀ (n : Nat) (x1 : Int32) (x2 : Int32) (x3 : Int32) (S : Mm), f_X6_advance_35 161 n x1 x2 x3 S = some (r, S') → Cc S S' := by
  intro n
  induction n with
  | zero => intro x1 x2 x3 S h; cases h
  | succ n ih =>
    intro x1 x2 x3 S h
    rw [f_X6_advance_35] at h
    by_cases c1 : x3 ≤ x2
    · have h := ifT c1 h
      exact (cc_X6_advance_55 x1 x2 x3 S h)
    · have h := ifF c1 h
      obtain ⟨b2, h⟩ := bnd_some h
      obtain ⟨b3, h⟩ := bnd_some h
      by_cases c4 : (gI S 161 x2.toNatClampNeg) ≤ (gI S 161 x3.toNatClampNeg)
      · have h := ifT c4 h
        exact (cc_X6_advance_55 x1 x2 x3 S h)
      · have h := ifF c4 h
        obtain ⟨v5, e6, h⟩ := nm_some h
        exact (ih x1 x2 v5 S h)
theorem cc_X6_advance_25 {r : Int32} {S' : Mm}    : ∀ (x1 : Int32) (x2 : Int32) (S : Mm), f_X6_advance_25 161 x1 x2 S = some (r, S') → Cc S S' := by
  intro x1 x2 S h
  unfold f_X6_advance_25 at h
  by_cases c1 : 0 ≤ x2
  · have h := ifT c1 h
    obtain ⟨v2, e3, h⟩ := nm_some h
    exact (cc_X6_advance_35 400 x1 x2 v2 S h)
  · have h := ifF c1 h
    obtain ⟨rfl, rfl⟩ := sm_inj h
    exact Cc.rf
theorem cc_X6_advance_4 {r : Int32} {S' : Mm}    : ∀ (n : Nat) (x1 : Int32) (x2 : Int32) (S : Mm), f_X6_advance_4 161 n x1 x2 S = some (r, S') → Cc S S' := by
  intro n
  induction n with
  | zero => intro x1 x2 S h; cases h
  | succ n ih =>
    intro x1 x2 S h
    rw [f_X6_advance_4] at h
    by_cases c1 : x2 < 0
    · have h := ifT c1 h
      exact (cc_X6_advance_25 x1 x2 S h)
    · have h := ifF c1 h
      obtain ⟨b2, h⟩ := bnd_some h
      obtain ⟨b3, h⟩ := bnd_some h
      by_cases c4 : (gI S 161 x2.toNatClampNeg) ≤ (gI S 161 (x2 + 1).toNatClampNeg)
      · have h := ifT c4 h
        exact (cc_X6_advance_25 x1 x2 S h)
      · have h := ifF c4 h
        obtain ⟨v5, e6, h⟩ := nm_some h
        exact (ih x1 v5 S h)
theorem cc_X6_advance {S S' : Mm} {r : Int32} {x1 : Int32}  (h : f_X6_advance S 161 x1 = some (r, S')) : Cc S S' := by
  unfold f_X6_advance at h
  obtain ⟨v1, e2, h⟩ := nm_some h
  exact (cc_X6_advance_4 400 x1 v1 S h)
theorem cc_X6_isImage {S S' : Mm} {r : Int32} {x0 : Int32}  (h : f_X6_isImage S x0 = some (r, S')) : Cc S S' := by
  unfold f_X6_isImage at h
  by_cases c1 : x0 < 0
  · have h := ifT c1 h
    obtain ⟨rfl, rfl⟩ := sm_inj h
    exact Cc.rf
  · have h := ifF c1 h
    by_cases c2 : 2 ≤ x0
    · have h := ifT c2 h
      obtain ⟨rfl, rfl⟩ := sm_inj h
      exact Cc.rf
    · have h := ifF c2 h
      obtain ⟨rfl, rfl⟩ := sm_inj h
      exact Cc.rf
theorem cc_X6_bestLooks_9 {r : Int32} {S' : Mm}    : ∀ (n : Nat) (x1 : Int32) (x2 : Int64) (x4 : Int32) (S : Mm), f_X6_bestLooks_9 n x1 x2 x4 S = some (r, S') → Cc S S' := by
  intro n
  induction n with
  | zero => intro x1 x2 x4 S h; cases h
  | succ n ih =>
    intro x1 x2 x4 S h
    rw [f_X6_bestLooks_9] at h
    by_cases c2 : (1 <<< ((gI S (pl S) 0) &&& 31)) ≤ x4
    · have h := ifT c2 h
      obtain ⟨rfl, rfl⟩ := sm_inj h
      exact Cc.rf
    · have h := ifF c2 h
      obtain ⟨r4, S5, h6, h⟩ := bd_some h
      have qS5 : Cc S S5 := cc_X0_through  h6
      by_cases c7 : 0 ≤ (lg_cmp (gJ S5 158 2) x2)
      · have h := ifT c7 h
        obtain ⟨v8, e9, h⟩ := nm_some h
        exact qS5.tr ((ih x1 x2 v8 S5 h))
      · have h := ifF c7 h
        obtain ⟨v10, e11, h⟩ := nm_some h
        obtain ⟨v12, e13, h⟩ := nm_some h
        exact qS5.tr ((ih x4 v10 v12 S5 h))
theorem cc_X6_bestLooks {S S' : Mm} {r : Int32}   (h : f_X6_bestLooks S = some (r, S')) : Cc S S' := by
  unfold f_X6_bestLooks at h
  exact (cc_X6_bestLooks_9 400 0 10000000000000 0 S h)
theorem cc_X6_isStep {S S' : Mm} {r : Int32} {x1 : Int32}  (h : f_X6_isStep S x1 = some (r, S')) : Cc S S' := by
  unfold f_X6_isStep at h
  by_cases c1 : x1 < 0
  · have h := ifT c1 h
    obtain ⟨rfl, rfl⟩ := sm_inj h
    exact Cc.rf
  · have h := ifF c1 h
    by_cases c3 : (gI S (pl S) 0) ≤ x1
    · have h := ifT c3 h
      obtain ⟨rfl, rfl⟩ := sm_inj h
      exact Cc.rf
    · have h := ifF c3 h
      obtain ⟨rfl, rfl⟩ := sm_inj h
      exact Cc.rf
theorem cc_X6_findLeastOrder_124 {r : Unit} {S' : Mm}   {kk32 : Int64 → Int32 → Mm → Option (Unit × Mm)} (hk32 : ∀ (x1 : Int64) (x3 : Int32) (S : Mm), kk32 x1 x3 S = some (r, S') → Cc S S') : ∀ (x1 : Int64) (x3 : Int32) (S : Mm), f_X6_findLeastOrder_124 kk32 x1 x3 S = some (r, S') → Cc S S' := by
  intro x1 x3 S h
  unfold f_X6_findLeastOrder_124 at h
  obtain ⟨r2, S3, h4, h⟩ := bd_some h
  have qS3 : Cc S S3 := cc_X6_advance  h4
  by_cases c5 : r2 = 0
  · have h := ifT c5 h
    obtain ⟨rfl, rfl⟩ := sm_inj h
    exact qS3
  · have h := ifF c5 h
    obtain ⟨v6, e7, h⟩ := nm_some h
    exact qS3.tr ((hk32 x1 v6 S3 h))
theorem cc_X6_findLeastOrder_32 {r : Unit} {S' : Mm}    : ∀ (n : Nat) (x1 : Int64) (x3 : Int32) (S : Mm), f_X6_findLeastOrder_32 n x1 x3 S = some (r, S') → Cc S S' := by
  intro n
  induction n with
  | zero => intro x1 x3 S h; cases h
  | succ n ih =>
    intro x1 x3 S h
    rw [f_X6_findLeastOrder_32] at h
    by_cases c1 : 120 ≤ x3
    · have h := ifT c1 h
      obtain ⟨rfl, rfl⟩ := sm_inj h
      exact Cc.rf
    · have h := ifF c1 h
      obtain ⟨r3, S4, h5, h⟩ := bd_some h
      have qS4 : Cc S S4 := cc_X4_allows  h5
      by_cases c6 : r3 = 0
      · have h := ifT c6 h
        exact qS4.tr ((cc_X6_findLeastOrder_124 ih x1 x3 S4 h))
      · have h := ifF c6 h
        obtain ⟨r8, S9, h10, h⟩ := bd_some h
        have qS9 : Cc S4 S9 := cc_X0_through  h10
        by_cases c11 : 0 ≤ (lg_cmp (gJ S9 158 2) x1)
        · have h := ifT c11 h
          exact qS4.tr (qS9.tr ((cc_X6_findLeastOrder_124 ih x1 x3 S9 h)))
        · have h := ifF c11 h
          obtain ⟨v12, e13, h⟩ := nm_some h
          obtain ⟨b15, h⟩ := bnd_some h
          obtain ⟨S16, e17, h⟩ := nm_some h
          have qS16 : Cc S9 S16 := by rw [e17]; exact Cc_cpI (by decide)
          exact qS4.tr (qS9.tr (qS16.tr ((cc_X6_findLeastOrder_124 ih v12 x3 S16 h))))
theorem cc_X6_findLeastOrder_2 {r : Unit} {S' : Mm}    : ∀ (n : Nat) (x1 : Int32) (S : Mm), f_X6_findLeastOrder_2 n x1 S = some (r, S') → Cc S S' := by
  intro n
  induction n with
  | zero => intro x1 S h; cases h
  | succ n ih =>
    intro x1 S h
    rw [f_X6_findLeastOrder_2] at h
    by_cases c2 : (gI S (pl S) 0) ≤ x1
    · have h := ifT c2 h
      exact (cc_X6_findLeastOrder_32 400 10000000000000 0 S h)
    · have h := ifF c2 h
      obtain ⟨b3, h⟩ := bnd_some h
      obtain ⟨S4, e5, h⟩ := nm_some h
      have qS4 : Cc S S4 := by rw [e5]; exact Cc_sI (by decide)
      obtain ⟨v6, e7, h⟩ := nm_some h
      exact qS4.tr ((ih v6 S4 h))
theorem cc_X6_findLeastOrder {S S' : Mm} {r : Unit}   (h : f_X6_findLeastOrder S = some (r, S')) : Cc S S' := by
  unfold f_X6_findLeastOrder at h
  exact (cc_X6_findLeastOrder_2 400 0 S h)
theorem cc_X6_bestOrder {S S' : Mm} {r : Int32} {x1 : Int32}  (h : f_X6_bestOrder S x1 = some (r, S')) : Cc S S' := by
  unfold f_X6_bestOrder at h
  obtain ⟨r1, S2, h3, h⟩ := bd_some h
  have qS2 : Cc S S2 := cc_X6_isStep  h3
  by_cases c4 : r1 = 0
  · have h := ifT c4 h
    obtain ⟨rfl, rfl⟩ := sm_inj h
    exact qS2
  · have h := ifF c4 h
    obtain ⟨r5, S6, h7, h⟩ := bd_some h
    have qS6 : Cc S2 S6 := cc_X6_findLeastOrder  h7
    obtain ⟨b8, h⟩ := bnd_some h
    obtain ⟨rfl, rfl⟩ := sm_inj h
    exact qS2.tr (qS6)
theorem cc_X6_isBit {S S' : Mm} {r : Int32} {x0 : Int32}  (h : f_X6_isBit S x0 = some (r, S')) : Cc S S' := by
  unfold f_X6_isBit at h
  by_cases c1 : x0 = 0
  · have h := ifT c1 h
    obtain ⟨rfl, rfl⟩ := sm_inj h
    exact Cc.rf
  · have h := ifF c1 h
    by_cases c2 : x0 = 1
    · have h := ifT c2 h
      obtain ⟨rfl, rfl⟩ := sm_inj h
      exact Cc.rf
    · have h := ifF c2 h
      obtain ⟨rfl, rfl⟩ := sm_inj h
      exact Cc.rf
theorem cc_X6_isFoundBehind {S S' : Mm} {r : Int32} {x1 : Int32}  (h : f_X6_isFoundBehind S x1 = some (r, S')) : Cc S S' := by
  unfold f_X6_isFoundBehind at h
  obtain ⟨b1, h⟩ := bnd_some h
  by_cases c2 : (((gI S 16 3) >>> ((gI S 17 x1.toNatClampNeg) &&& 31)) &&& 1) = 0
  · have h := ifT c2 h
    obtain ⟨rfl, rfl⟩ := sm_inj h
    exact Cc.rf
  · have h := ifF c2 h
    obtain ⟨r4, S5, h6, h⟩ := bd_some h
    have qS5 : Cc S S5 := cc_X0_upTo  h6
    by_cases c7 : (lg_cmp (gJ S5 158 1) 0) ≤ 0
    · have h := ifT c7 h
      obtain ⟨rfl, rfl⟩ := sm_inj h
      exact qS5
    · have h := ifF c7 h
      obtain ⟨rfl, rfl⟩ := sm_inj h
      exact qS5
theorem cc_X6_commonDivisor_9 {r : Int64} {S' : Mm}    : ∀ (n : Nat) (x4 : Int64) (x6 : Int64) (x8 : Int32) (S : Mm), f_X6_commonDivisor_9 n x4 x6 x8 S = some (r, S') → Cc S S' := by
  intro n
  induction n with
  | zero => intro x4 x6 x8 S h; cases h
  | succ n ih =>
    intro x4 x6 x8 S h
    rw [f_X6_commonDivisor_9] at h
    by_cases c1 : 100 ≤ x8
    · have h := ifT c1 h
      obtain ⟨rfl, rfl⟩ := sm_inj h
      exact Cc.rf
    · have h := ifF c1 h
      by_cases c2 : (lg_cmp x6 0) = 0
      · have h := ifT c2 h
        obtain ⟨rfl, rfl⟩ := sm_inj h
        exact Cc.rf
      · have h := ifF c2 h
        obtain ⟨b3, h⟩ := bnd_some h
        obtain ⟨v4, e5, h⟩ := nm_some h
        obtain ⟨v6, e7, h⟩ := nm_some h
        exact (ih x6 v4 v6 S h)
theorem cc_X6_commonDivisor {S S' : Mm} {r : Int64} {x0 : Int64} {x2 : Int64}  (h : f_X6_commonDivisor S x0 x2 = some (r, S')) : Cc S S' := by
  unfold f_X6_commonDivisor at h
  exact (cc_X6_commonDivisor_9 400 x0 x2 0 S h)
theorem cc_X6_part {S S' : Mm} {r : Int64} {x0 : Int64} {x2 : Int64} {x4 : Int32}  (h : f_X6_part S x0 x2 x4 = some (r, S')) : Cc S S' := by
  unfold f_X6_part at h
  obtain ⟨r1, S2, h3, h⟩ := bd_some h
  have qS2 : Cc S S2 := cc_X6_commonDivisor  h3
  by_cases c4 : (lg_cmp x2 0) = 0
  · have h := ifT c4 h
    obtain ⟨rfl, rfl⟩ := sm_inj h
    exact qS2
  · have h := ifF c4 h
    by_cases c5 : (lg_cmp r1 0) = 0
    · have h := ifT c5 h
      obtain ⟨rfl, rfl⟩ := sm_inj h
      exact qS2
    · have h := ifF c5 h
      by_cases c6 : x4 = 0
      · have h := ifT c6 h
        obtain ⟨b8, h⟩ := bnd_some h
        obtain ⟨rfl, rfl⟩ := sm_inj h
        exact qS2
      · have h := ifF c6 h
        obtain ⟨b7, h⟩ := bnd_some h
        obtain ⟨rfl, rfl⟩ := sm_inj h
        exact qS2
theorem cc_X6_blame {S S' : Mm} {r : Int64} {x1 : Int32} {x2 : Int32} {x3 : Int32}  (h : f_X6_blame S x1 x2 x3 = some (r, S')) : Cc S S' := by
  unfold f_X6_blame at h
  obtain ⟨r1, S2, h3, h⟩ := bd_some h
  have qS2 : Cc S S2 := cc_X6_isStep  h3
  by_cases c4 : r1 = 0
  · have h := ifT c4 h
    obtain ⟨rfl, rfl⟩ := sm_inj h
    exact qS2
  · have h := ifF c4 h
    obtain ⟨r5, S6, h7, h⟩ := bd_some h
    have qS6 : Cc S2 S6 := cc_X6_isStep  h7
    by_cases c8 : r5 = 0
    · have h := ifT c8 h
      obtain ⟨rfl, rfl⟩ := sm_inj h
      exact qS2.tr (qS6)
    · have h := ifF c8 h
      obtain ⟨r9, S10, h11, h⟩ := bd_some h
      have qS10 : Cc S6 S10 := cc_X6_isBit  h11
      by_cases c12 : r9 = 0
      · have h := ifT c12 h
        obtain ⟨rfl, rfl⟩ := sm_inj h
        exact qS2.tr (qS6.tr (qS10))
      · have h := ifF c12 h
        obtain ⟨r13, S14, h15, h⟩ := bd_some h
        have qS14 : Cc S10 S14 := cc_X6_isFoundBehind  h15
        by_cases c16 : r13 = 0
        · have h := ifT c16 h
          obtain ⟨rfl, rfl⟩ := sm_inj h
          exact qS2.tr (qS6.tr (qS10.tr (qS14)))
        · have h := ifF c16 h
          by_cases c17 : x2 ≤ x1
          · have h := ifT c17 h
            obtain ⟨b18, h⟩ := bnd_some h
            obtain ⟨r19, S20, h21, h⟩ := bd_some h
            have qS20 : Cc S14 S20 := cc_X6_part  h21
            obtain ⟨rfl, rfl⟩ := sm_inj h
            exact qS2.tr (qS6.tr (qS10.tr (qS14.tr (qS20))))
          · have h := ifF c17 h
            obtain ⟨r22, S23, h24, h⟩ := bd_some h
            have qS23 : Cc S14 S23 := cc_X6_part  h24
            obtain ⟨rfl, rfl⟩ := sm_inj h
            exact qS2.tr (qS6.tr (qS10.tr (qS14.tr (qS23))))
theorem cc_X6_count {S S' : Mm} {r : Int32} {x1 : Int32}  (h : f_X6_count S x1 = some (r, S')) : Cc S S' := by
  unfold f_X6_count at h
  by_cases c1 : x1 = 0
  · have h := ifT c1 h
    obtain ⟨rfl, rfl⟩ := sm_inj h
    exact Cc.rf
  · have h := ifF c1 h
    by_cases c3 : x1 = 1
    · have h := ifT c3 h
      obtain ⟨rfl, rfl⟩ := sm_inj h
      exact Cc.rf
    · have h := ifF c3 h
      by_cases c5 : x1 = 2
      · have h := ifT c5 h
        obtain ⟨rfl, rfl⟩ := sm_inj h
        exact Cc.rf
      · have h := ifF c5 h
        by_cases c6 : x1 = 3
        · have h := ifT c6 h
          obtain ⟨rfl, rfl⟩ := sm_inj h
          exact Cc.rf
        · have h := ifF c6 h
          by_cases c7 : x1 = 4
          · have h := ifT c7 h
            obtain ⟨rfl, rfl⟩ := sm_inj h
            exact Cc.rf
          · have h := ifF c7 h
            obtain ⟨rfl, rfl⟩ := sm_inj h
            exact Cc.rf
theorem cc_X6_explainsTold_2 {r : Int32} {S' : Mm}    : ∀ (n : Nat) (x1 : Int32) (x2 : Int32) (S : Mm), f_X6_explainsTold_2 n x1 x2 S = some (r, S') → Cc S S' := by
  intro n
  induction n with
  | zero => intro x1 x2 S h; cases h
  | succ n ih =>
    intro x1 x2 S h
    rw [f_X6_explainsTold_2] at h
    by_cases c1 : (gI S 0 8) ≤ x2
    · have h := ifT c1 h
      obtain ⟨rfl, rfl⟩ := sm_inj h
      exact Cc.rf
    · have h := ifF c1 h
      obtain ⟨b3, h⟩ := bnd_some h
      obtain ⟨r4, S5, h6, h⟩ := bd_some h
      have qS5 : Cc S S5 := cc_X2_go  h6
      obtain ⟨r7, S8, h9, h⟩ := bd_some h
      have qS8 : Cc S5 S8 := cc_X2_fate  h9
      obtain ⟨b10, h⟩ := bnd_some h
      by_cases c11 : r7 = (gI S8 156 x2.toNatClampNeg)
      · have h := ifT c11 h
        obtain ⟨v12, e13, h⟩ := nm_some h
        exact qS5.tr (qS8.tr ((ih x1 v12 S8 h)))
      · have h := ifF c11 h
        obtain ⟨rfl, rfl⟩ := sm_inj h
        exact qS5.tr (qS8)
theorem cc_X6_explainsTold {S S' : Mm} {r : Int32} {x1 : Int32}  (h : f_X6_explainsTold S x1 = some (r, S')) : Cc S S' := by
  unfold f_X6_explainsTold at h
  exact (cc_X6_explainsTold_2 400 x1 0 S h)
theorem cc_X6_hasFewDuds {S S' : Mm} {r : Int32} {x1 : Int32} {x2 : Int32}  (h : f_X6_hasFewDuds S x1 x2 = some (r, S')) : Cc S S' := by
  unfold f_X6_hasFewDuds at h
  obtain ⟨r2, S3, h4, h⟩ := bd_some h
  have qS3 : Cc S S3 := cc_X0_through  h4
  obtain ⟨v5, e6, h⟩ := nm_some h
  by_cases c7 : (lg_cmp v5 0) ≤ 0
  · have h := ifT c7 h
    obtain ⟨rfl, rfl⟩ := sm_inj h
    exact qS3
  · have h := ifF c7 h
    by_cases c8 : 0 < (lg_cmp ((gJ S3 158 1) * 250) (v5 * x2.toInt64))
    · have h := ifT c8 h
      obtain ⟨rfl, rfl⟩ := sm_inj h
      exact qS3
    · have h := ifF c8 h
      obtain ⟨rfl, rfl⟩ := sm_inj h
      exact qS3
theorem cc_X6_few_22 {r : Int32} {S' : Mm}    : ∀ (n : Nat) (x1 : Int32) (x2 : Int32) (x3 : Int32) (x4 : Int32) (S : Mm), f_X6_few_22 n x1 x2 x3 x4 S = some (r, S') → Cc S S' := by
  intro n
  induction n with
  | zero => intro x1 x2 x3 x4 S h; cases h
  | succ n ih =>
    intro x1 x2 x3 x4 S h
    rw [f_X6_few_22] at h
    by_cases c2 : (1 <<< ((gI S (pl S) 0) &&& 31)) ≤ x4
    · have h := ifT c2 h
      obtain ⟨rfl, rfl⟩ := sm_inj h
      exact Cc.rf
    · have h := ifF c2 h
      obtain ⟨r3, S4, h5, h⟩ := bd_some h
      have qS4 : Cc S S4 := cc_J6_bitCount_0f7a4  h5
      by_cases c6 : x3 ≤ r3
      · have h := ifT c6 h
        obtain ⟨v7, e8, h⟩ := nm_some h
        exact qS4.tr ((ih x1 x2 x3 v7 S4 h))
      · have h := ifF c6 h
        obtain ⟨r9, S10, h11, h⟩ := bd_some h
        have qS10 : Cc S4 S10 := cc_X6_hasFewDuds  h11
        by_cases c12 : r9 = 0
        · have h := ifT c12 h
          obtain ⟨v13, e14, h⟩ := nm_some h
          exact qS4.tr (qS10.tr ((ih x1 x2 x3 v13 S10 h)))
        · have h := ifF c12 h
          obtain ⟨r15, S16, h17, h⟩ := bd_some h
          have qS16 : Cc S10 S16 := cc_J6_bitCount_0f7a4  h17
          obtain ⟨v18, e19, h⟩ := nm_some h
          exact qS4.tr (qS10.tr (qS16.tr ((ih x1 x4 r15 v18 S16 h))))
theorem cc_X6_few {S S' : Mm} {r : Int32} {x1 : Int32}  (h : f_X6_few S x1 = some (r, S')) : Cc S S' := by
  unfold f_X6_few at h
  by_cases c1 : x1 < 0
  · have h := ifT c1 h
    obtain ⟨rfl, rfl⟩ := sm_inj h
    exact Cc.rf
  · have h := ifF c1 h
    by_cases c2 : x1 ≤ 250
    · have h := ifT c2 h
      exact (cc_X6_few_22 400 x1 ((-9)) 6 0 S h)
    · have h := ifF c2 h
      obtain ⟨rfl, rfl⟩ := sm_inj h
      exact Cc.rf
theorem cc_X6_first_25 {r : Int32} {S' : Mm}    : ∀ (n : Nat) (x1 : Int32) (x2 : Int32) (x3 : Int32) (S : Mm), f_X6_first_25 n x1 x2 x3 S = some (r, S') → Cc S S' := by
  intro n
  induction n with
  | zero => intro x1 x2 x3 S h; cases h
  | succ n ih =>
    intro x1 x2 x3 S h
    rw [f_X6_first_25] at h
    by_cases c1 : x1 < x3
    · have h := ifT c1 h
      obtain ⟨rfl, rfl⟩ := sm_inj h
      exact Cc.rf
    · have h := ifF c1 h
      obtain ⟨b2, h⟩ := bnd_some h
      obtain ⟨b3, h⟩ := bnd_some h
      by_cases c4 : (lg_cmp (gJ S 160 x3.toNatClampNeg) (gJ S 160 x2.toNatClampNeg)) ≤ 0
      · have h := ifT c4 h
        obtain ⟨v5, e6, h⟩ := nm_some h
        exact (ih x1 x2 v5 S h)
      · have h := ifF c4 h
        obtain ⟨v7, e8, h⟩ := nm_some h
        exact (ih x1 x3 v7 S h)
theorem cc_X6_first {S S' : Mm} {r : Int32} {x1 : Int32}  (h : f_X6_first S x1 = some (r, S')) : Cc S S' := by
  unfold f_X6_first at h
  obtain ⟨r1, S2, h3, h⟩ := bd_some h
  have qS2 : Cc S S2 := cc_X6_isStep  h3
  by_cases c4 : r1 = 0
  · have h := ifT c4 h
    obtain ⟨rfl, rfl⟩ := sm_inj h
    exact qS2
  · have h := ifF c4 h
    obtain ⟨r5, S6, h7, h⟩ := bd_some h
    have qS6 : Cc S2 S6 := cc_X6_isFoundBehind  h7
    by_cases c8 : r5 = 0
    · have h := ifT c8 h
      obtain ⟨rfl, rfl⟩ := sm_inj h
      exact qS2.tr (qS6)
    · have h := ifF c8 h
      exact qS2.tr (qS6.tr ((cc_X6_first_25 400 x1 0 1 S6 h)))
theorem cc_X6_flowNow {S S' : Mm} {r : Unit}   (h : f_X6_flowNow S = some (r, S')) : Cc S S' := by
  unfold f_X6_flowNow at h
  obtain ⟨r2, S3, h4, h⟩ := bd_some h
  have qS3 : Cc S S3 := cc_X0_through  h4
  obtain ⟨rfl, rfl⟩ := sm_inj h
  exact qS3
theorem cc_X6_isDraw {S S' : Mm} {r : Int32} {x0 : Int32}  (h : f_X6_isDraw S x0 = some (r, S')) : Cc S S' := by
  unfold f_X6_isDraw at h
  by_cases c1 : x0 < 0
  · have h := ifT c1 h
    obtain ⟨rfl, rfl⟩ := sm_inj h
    exact Cc.rf
  · have h := ifF c1 h
    by_cases c2 : 9999 < x0
    · have h := ifT c2 h
      obtain ⟨rfl, rfl⟩ := sm_inj h
      exact Cc.rf
    · have h := ifF c2 h
      obtain ⟨rfl, rfl⟩ := sm_inj h
      exact Cc.rf
theorem cc_X6_line {S S' : Mm} {r : Int32} {x1 : Int32}  (h : f_X6_line S x1 = some (r, S')) : Cc S S' := by
  unfold f_X6_line at h
  obtain ⟨r1, S2, h3, h⟩ := bd_some h
  have qS2 : Cc S S2 := cc_X6_isStep  h3
  by_cases c4 : r1 = 0
  · have h := ifT c4 h
    obtain ⟨rfl, rfl⟩ := sm_inj h
    exact qS2
  · have h := ifF c4 h
    obtain ⟨b5, h⟩ := bnd_some h
    obtain ⟨rfl, rfl⟩ := sm_inj h
    exact qS2
theorem cc_X6_lost {S S' : Mm} {r : Int64} {x1 : Int32} {x2 : Int32}  (h : f_X6_lost S x1 x2 = some (r, S')) : Cc S S' := by
  unfold f_X6_lost at h
  obtain ⟨r1, S2, h3, h⟩ := bd_some h
  have qS2 : Cc S S2 := cc_X6_isStep  h3
  by_cases c4 : r1 = 0
  · have h := ifT c4 h
    obtain ⟨rfl, rfl⟩ := sm_inj h
    exact qS2
  · have h := ifF c4 h
    obtain ⟨r5, S6, h7, h⟩ := bd_some h
    have qS6 : Cc S2 S6 := cc_X6_isBit  h7
    by_cases c8 : r5 = 0
    · have h := ifT c8 h
      obtain ⟨rfl, rfl⟩ := sm_inj h
      exact qS2.tr (qS6)
    · have h := ifF c8 h
      obtain ⟨r9, S10, h11, h⟩ := bd_some h
      have qS10 : Cc S6 S10 := cc_X6_flowNow  h11
      obtain ⟨b12, h⟩ := bnd_some h
      obtain ⟨r13, S14, h15, h⟩ := bd_some h
      have qS14 : Cc S10 S14 := cc_X6_part  h15
      obtain ⟨rfl, rfl⟩ := sm_inj h
      exact qS2.tr (qS6.tr (qS10.tr (qS14)))
theorem cc_X6_mean {S S' : Mm} {r : Int64} {x1 : Int32} {x2 : Int32}  (h : f_X6_mean S x1 x2 = some (r, S')) : Cc S S' := by
  unfold f_X6_mean at h
  by_cases c1 : x1 < 0
  · have h := ifT c1 h
    obtain ⟨rfl, rfl⟩ := sm_inj h
    exact Cc.rf
  · have h := ifF c1 h
    by_cases c2 : 3 < x1
    · have h := ifT c2 h
      obtain ⟨rfl, rfl⟩ := sm_inj h
      exact Cc.rf
    · have h := ifF c2 h
      obtain ⟨r3, S4, h5, h⟩ := bd_some h
      have qS4 : Cc S S4 := cc_X6_isBit  h5
      by_cases c6 : r3 = 0
      · have h := ifT c6 h
        obtain ⟨rfl, rfl⟩ := sm_inj h
        exact qS4
      · have h := ifF c6 h
        obtain ⟨r7, S8, h9, h⟩ := bd_some h
        have qS8 : Cc S4 S8 := cc_X6_flowNow  h9
        by_cases c10 : x1 = 0
        · have h := ifT c10 h
          obtain ⟨r11, S12, h13, h⟩ := bd_some h
          have qS12 : Cc S8 S12 := cc_X6_part  h13
          obtain ⟨rfl, rfl⟩ := sm_inj h
          exact qS4.tr (qS8.tr (qS12))
        · have h := ifF c10 h
          by_cases c14 : x1 = 1
          · have h := ifT c14 h
            obtain ⟨r15, S16, h17, h⟩ := bd_some h
            have qS16 : Cc S8 S16 := cc_X6_part  h17
            obtain ⟨rfl, rfl⟩ := sm_inj h
            exact qS4.tr (qS8.tr (qS16))
          · have h := ifF c14 h
            by_cases c18 : x1 = 2
            · have h := ifT c18 h
              obtain ⟨r19, S20, h21, h⟩ := bd_some h
              have qS20 : Cc S8 S20 := cc_X6_part  h21
              obtain ⟨rfl, rfl⟩ := sm_inj h
              exact qS4.tr (qS8.tr (qS20))
            · have h := ifF c18 h
              obtain ⟨r22, S23, h24, h⟩ := bd_some h
              have qS23 : Cc S8 S23 := cc_X6_part  h24
              obtain ⟨rfl, rfl⟩ := sm_inj h
              exact qS4.tr (qS8.tr (qS23))
theorem cc_X6_now {S S' : Mm} {r : Int32} {x1 : Int32}  (h : f_X6_now S x1 = some (r, S')) : Cc S S' := by
  unfold f_X6_now at h
  by_cases c1 : x1 = 0
  · have h := ifT c1 h
    obtain ⟨rfl, rfl⟩ := sm_inj h
    exact Cc.rf
  · have h := ifF c1 h
    by_cases c2 : x1 = 1
    · have h := ifT c2 h
      obtain ⟨rfl, rfl⟩ := sm_inj h
      exact Cc.rf
    · have h := ifF c2 h
      by_cases c3 : x1 = 2
      · have h := ifT c3 h
        obtain ⟨rfl, rfl⟩ := sm_inj h
        exact Cc.rf
      · have h := ifF c3 h
        by_cases c4 : x1 = 3
        · have h := ifT c4 h
          obtain ⟨rfl, rfl⟩ := sm_inj h
          exact Cc.rf
        · have h := ifF c4 h
          by_cases c5 : x1 = 4
          · have h := ifT c5 h
            obtain ⟨rfl, rfl⟩ := sm_inj h
            exact Cc.rf
          · have h := ifF c5 h
            by_cases c6 : x1 = 5
            · have h := ifT c6 h
              obtain ⟨rfl, rfl⟩ := sm_inj h
              exact Cc.rf
            · have h := ifF c6 h
              obtain ⟨rfl, rfl⟩ := sm_inj h
              exact Cc.rf
theorem cc_X6_paper {S S' : Mm} {r : Int64} {x1 : Int32} {x2 : Int32}  (h : f_X6_paper S x1 x2 = some (r, S')) : Cc S S' := by
  unfold f_X6_paper at h
  by_cases c1 : x1 < 1
  · have h := ifT c1 h
    obtain ⟨rfl, rfl⟩ := sm_inj h
    exact Cc.rf
  · have h := ifF c1 h
    by_cases c2 : 99 < x1
    · have h := ifT c2 h
      obtain ⟨rfl, rfl⟩ := sm_inj h
      exact Cc.rf
    · have h := ifF c2 h
      obtain ⟨r3, S4, h5, h⟩ := bd_some h
      have qS4 : Cc S S4 := cc_X6_isBit  h5
      by_cases c6 : r3 = 0
      · have h := ifT c6 h
        obtain ⟨rfl, rfl⟩ := sm_inj h
        exact qS4
      · have h := ifF c6 h
        obtain ⟨r7, S8, h9, h⟩ := bd_some h
        have qS8 : Cc S4 S8 := cc_X6_flowNow  h9
        obtain ⟨r10, S11, h12, h⟩ := bd_some h
        have qS11 : Cc S8 S11 := cc_X6_part  h12
        obtain ⟨rfl, rfl⟩ := sm_inj h
        exact qS4.tr (qS8.tr (qS11))
theorem cc_X6_step {S S' : Mm} {r : Int32} {x1 : Int32} {x2 : Int32}  (h : f_X6_step S x1 x2 = some (r, S')) : Cc S S' := by
  unfold f_X6_step at h
  obtain ⟨r1, S2, h3, h⟩ := bd_some h
  have qS2 : Cc S S2 := cc_X6_isStep  h3
  by_cases c4 : r1 = 0
  · have h := ifT c4 h
    obtain ⟨rfl, rfl⟩ := sm_inj h
    exact qS2
  · have h := ifF c4 h
    by_cases c5 : x2 = 0
    · have h := ifT c5 h
      obtain ⟨b7, h⟩ := bnd_some h
      obtain ⟨rfl, rfl⟩ := sm_inj h
      exact qS2
    · have h := ifF c5 h
      by_cases c8 : x2 = 1
      · have h := ifT c8 h
        obtain ⟨b9, h⟩ := bnd_some h
        obtain ⟨rfl, rfl⟩ := sm_inj h
        exact qS2
      · have h := ifF c8 h
        by_cases c10 : x2 = 2
        · have h := ifT c10 h
          obtain ⟨b12, h⟩ := bnd_some h
          obtain ⟨rfl, rfl⟩ := sm_inj h
          exact qS2
        · have h := ifF c10 h
          by_cases c13 : x2 = 3
          · have h := ifT c13 h
            obtain ⟨b15, h⟩ := bnd_some h
            obtain ⟨rfl, rfl⟩ := sm_inj h
            exact qS2
          · have h := ifF c13 h
            by_cases c16 : x2 = 4
            · have h := ifT c16 h
              obtain ⟨rfl, rfl⟩ := sm_inj h
              exact qS2
            · have h := ifF c16 h
              by_cases c17 : x2 = 5
              · have h := ifT c17 h
                obtain ⟨b18, h⟩ := bnd_some h
                obtain ⟨rfl, rfl⟩ := sm_inj h
                exact qS2
              · have h := ifF c17 h
                by_cases c19 : x2 = 6
                · have h := ifT c19 h
                  obtain ⟨r21, S22, h23, h⟩ := bd_some h
                  have qS22 : Cc S2 S22 := cc_X1_placeOf  h23
                  obtain ⟨rfl, rfl⟩ := sm_inj h
                  exact qS2.tr (qS22)
                · have h := ifF c19 h
                  by_cases c24 : x2 = 7
                  · have h := ifT c24 h
                    obtain ⟨b26, h⟩ := bnd_some h
                    obtain ⟨rfl, rfl⟩ := sm_inj h
                    exact qS2
                  · have h := ifF c24 h
                    obtain ⟨rfl, rfl⟩ := sm_inj h
                    exact qS2
theorem cc_X6_trace {S S' : Mm} {r : Int64}   (h : f_X6_trace S = some (r, S')) : Cc S S' := by
  unfold f_X6_trace at h
  obtain ⟨rfl, rfl⟩ := sm_inj h
  exact Cc.rf
theorem cc_X6_who_57 {r : Int32} {S' : Mm}   {kk23 : Int32 → Int32 → Int32 → Int32 → Int32 → Mm → Option (Int32 × Mm)} (hk23 : ∀ (x1 : Int32) (x2 : Int32) (x3 : Int32) (x4 : Int32) (x5 : Int32) (S : Mm), kk23 x1 x2 x3 x4 x5 S = some (r, S') → Cc S S') : ∀ (x1 : Int32) (x2 : Int32) (x3 : Int32) (x4 : Int32) (x5 : Int32) (S : Mm), f_X6_who_57 kk23 x1 x2 x3 x4 x5 S = some (r, S') → Cc S S' := by
  intro x1 x2 x3 x4 x5 S h
  unfold f_X6_who_57 at h
  by_cases c1 : x2 = 0
  · have h := ifT c1 h
    obtain ⟨v8, e9, h⟩ := nm_some h
    obtain ⟨v10, e11, h⟩ := nm_some h
    exact (hk23 x1 v8 x3 x5 v10 S h)
  · have h := ifF c1 h
    obtain ⟨v2, e3, h⟩ := nm_some h
    obtain ⟨v4, e5, h⟩ := nm_some h
    obtain ⟨v6, e7, h⟩ := nm_some h
    exact (hk23 x1 v4 x3 v2 v6 S h)
theorem cc_X6_who_23 {r : Int32} {S' : Mm}    : ∀ (n : Nat) (x1 : Int32) (x2 : Int32) (x3 : Int32) (x4 : Int32) (x5 : Int32) (S : Mm), f_X6_who_23 n x1 x2 x3 x4 x5 S = some (r, S') → Cc S S' := by
  intro n
  induction n with
  | zero => intro x1 x2 x3 x4 x5 S h; cases h
  | succ n ih =>
    intro x1 x2 x3 x4 x5 S h
    rw [f_X6_who_23] at h
    by_cases c2 : (1 <<< ((gI S (pl S) 0) &&& 31)) ≤ x5
    · have h := ifT c2 h
      by_cases c3 : x1 = 0
      · have h := ifT c3 h
        obtain ⟨rfl, rfl⟩ := sm_inj h
        exact Cc.rf
      · have h := ifF c3 h
        by_cases c4 : x1 = 1
        · have h := ifT c4 h
          obtain ⟨rfl, rfl⟩ := sm_inj h
          exact Cc.rf
        · have h := ifF c4 h
          obtain ⟨rfl, rfl⟩ := sm_inj h
          exact Cc.rf
    · have h := ifF c2 h
      obtain ⟨r5, S6, h7, h⟩ := bd_some h
      have qS6 : Cc S S6 := cc_X6_explainsTold  h7
      by_cases c8 : r5 = 0
      · have h := ifT c8 h
        obtain ⟨v9, e10, h⟩ := nm_some h
        exact qS6.tr ((ih x1 x2 x3 x4 v9 S6 h))
      · have h := ifF c8 h
        by_cases c11 : x2 = 0
        · have h := ifT c11 h
          exact qS6.tr ((cc_X6_who_57 ih x1 x2 x5 x4 x5 S6 h))
        · have h := ifF c11 h
          exact qS6.tr ((cc_X6_who_57 ih x1 x2 x3 x4 x5 S6 h))
theorem cc_X6_who {S S' : Mm} {r : Int32} {x1 : Int32}  (h : f_X6_who S x1 = some (r, S')) : Cc S S' := by
  unfold f_X6_who at h
  by_cases c1 : x1 < 0
  · have h := ifT c1 h
    obtain ⟨rfl, rfl⟩ := sm_inj h
    exact Cc.rf
  · have h := ifF c1 h
    by_cases c2 : x1 ≤ 2
    · have h := ifT c2 h
      exact (cc_X6_who_23 400 x1 0 ((-9)) ((-9)) 0 S h)
    · have h := ifF c2 h
      obtain ⟨rfl, rfl⟩ := sm_inj h
      exact Cc.rf
theorem cm_X7_in {S S' : Mm} {r : Int32} {x0 : Int32} {x1 : Int32} {x2 : Int32}  (h : f_X7_in S x0 x1 x2 = some (r, S')) : Cm S S' := by
  unfold f_X7_in at h
  by_cases c1 : x0 < x1
  · have h := ifT c1 h
    obtain ⟨rfl, rfl⟩ := sm_inj h
    exact Cm.rf
  · have h := ifF c1 h
    by_cases c2 : x2 < x0
    · have h := ifT c2 h
      obtain ⟨rfl, rfl⟩ := sm_inj h
      exact Cm.rf
    · have h := ifF c2 h
      obtain ⟨rfl, rfl⟩ := sm_inj h
      exact Cm.rf
theorem cm_X7_begin_22 {r : Unit} {S' : Mm}    : ∀ (n : Nat) (x1 : Int32) (S : Mm), f_X7_begin_22 n x1 S = some (r, S') → Cm S S' := by
  intro n
  induction n with
  | zero => intro x1 S h; cases h
  | succ n ih =>
    intro x1 S h
    rw [f_X7_begin_22] at h
    by_cases c1 : 5 ≤ x1
    · have h := ifT c1 h
      obtain ⟨rfl, rfl⟩ := sm_inj h
      exact Cm.rf
    · have h := ifF c1 h
      obtain ⟨b2, h⟩ := bnd_some h
      obtain ⟨S3, e4, h⟩ := nm_some h
      have qS3 : Cm S S3 := by rw [e4]; exact Cm_sJ (by simp)
      obtain ⟨b5, h⟩ := bnd_some h
      obtain ⟨S6, e7, h⟩ := nm_some h
      have qS6 : Cm S3 S6 := by rw [e7]; exact Cm_sJ (by simp)
      obtain ⟨v8, e9, h⟩ := nm_some h
      exact qS3.tr (qS6.tr ((ih v8 S6 h)))
theorem cm_X7_begin {S S' : Mm} {r : Unit}   (h : f_X7_begin S = some (r, S')) : Cm S S' := by
  unfold f_X7_begin at h
  obtain ⟨S1, e2, h⟩ := nm_some h
  have qS1 : Cm S S1 := by rw [e2]; exact Cm_sJ (by simp)
  obtain ⟨S3, e4, h⟩ := nm_some h
  have qS3 : Cm S1 S3 := by rw [e4]; exact Cm_sJ (by simp)
  obtain ⟨S5, e6, h⟩ := nm_some h
  have qS5 : Cm S3 S5 := by rw [e6]; exact Cm_sJ (by simp)
  obtain ⟨S7, e8, h⟩ := nm_some h
  have qS7 : Cm S5 S7 := by rw [e8]; exact Cm_sJ (by simp)
  exact qS1.tr (qS3.tr (qS5.tr (qS7.tr ((cm_X7_begin_22 400 0 S7 h)))))
theorem cm_X7_takeRow_2 {r : Unit} {S' : Mm}    : ∀ (n : Nat) (x1 : Int32) (S : Mm), f_X7_takeRow_2 n x1 S = some (r, S') → Cm S S' := by
  intro n
  induction n with
  | zero => intro x1 S h; cases h
  | succ n ih =>
    intro x1 S h
    rw [f_X7_takeRow_2] at h
    by_cases c1 : 5 ≤ x1
    · have h := ifT c1 h
      obtain ⟨rfl, rfl⟩ := sm_inj h
      exact Cm.rf
    · have h := ifF c1 h
      obtain ⟨b2, h⟩ := bnd_some h
      obtain ⟨b3, h⟩ := bnd_some h
      obtain ⟨S4, e5, h⟩ := nm_some h
      have qS4 : Cm S S4 := by rw [e5]; exact Cm_sI (by simp)
      obtain ⟨v6, e7, h⟩ := nm_some h
      exact qS4.tr ((ih v6 S4 h))
theorem cm_X7_takeRow {S S' : Mm} {r : Unit}   (h : f_X7_takeRow S = some (r, S')) : Cm S S' := by
  unfold f_X7_takeRow at h
  exact (cm_X7_takeRow_2 400 0 S h)
theorem cm_X7_grow_50 {r : Unit} {S' : Mm}    : ∀ (n : Nat) (x1 : Int32) (S : Mm), f_X7_grow_50 n x1 S = some (r, S') → Cm S S' := by
  intro n
  induction n with
  | zero => intro x1 S h; cases h
  | succ n ih =>
    intro x1 S h
    rw [f_X7_grow_50] at h
    by_cases c1 : 5 ≤ x1
    · have h := ifT c1 h
      obtain ⟨rfl, rfl⟩ := sm_inj h
      exact Cm.rf
    · have h := ifF c1 h
      obtain ⟨b2, h⟩ := bnd_some h
      obtain ⟨b3, h⟩ := bnd_some h
      obtain ⟨S4, e5, h⟩ := nm_some h
      have qS4 : Cm S S4 := by rw [e5]; exact Cm_sJ (by simp)
      obtain ⟨b6, h⟩ := bnd_some h
      obtain ⟨b7, h⟩ := bnd_some h
      obtain ⟨S8, e9, h⟩ := nm_some h
      have qS8 : Cm S4 S8 := by rw [e9]; exact Cm_sJ (by simp)
      obtain ⟨v10, e11, h⟩ := nm_some h
      exact qS4.tr (qS8.tr ((ih v10 S8 h)))
theorem cm_X7_grow {S S' : Mm} {r : Unit}   (h : f_X7_grow S = some (r, S')) : Cm S S' := by
  unfold f_X7_grow at h
  obtain ⟨S1, e2, h⟩ := nm_some h
  have qS1 : Cm S S1 := by rw [e2]; exact Cm_sJ (by simp)
  obtain ⟨S3, e4, h⟩ := nm_some h
  have qS3 : Cm S1 S3 := by rw [e4]; exact Cm_sJ (by simp)
  obtain ⟨S5, e6, h⟩ := nm_some h
  have qS5 : Cm S3 S5 := by rw [e6]; exact Cm_sJ (by simp)
  obtain ⟨S7, e8, h⟩ := nm_some h
  have qS7 : Cm S5 S7 := by rw [e8]; exact Cm_sJ (by simp)
  exact qS1.tr (qS3.tr (qS5.tr (qS7.tr ((cm_X7_grow_50 400 0 S7 h)))))
theorem cm_X7_work {S S' : Mm} {r : Unit} {x1 : Int32}  (h : f_X7_work S x1 = some (r, S')) : Cm S S' := by
  unfold f_X7_work at h
  obtain ⟨b1, h⟩ := bnd_some h
  obtain ⟨v2, e3, h⟩ := nm_some h
  obtain ⟨b4, h⟩ := bnd_some h
  obtain ⟨S5, e6, h⟩ := nm_some h
  have qS5 : Cm S S5 := by rw [e6]; exact Cm_sJ (by simp)
  obtain ⟨r7, S8, h9, h⟩ := bd_some h
  have qS8 : Cm S5 S8 := cm_X7_grow  h9
  obtain ⟨b10, h⟩ := bnd_some h
  obtain ⟨v11, e12, h⟩ := nm_some h
  obtain ⟨S13, e14, h⟩ := nm_some h
  have qS13 : Cm S8 S13 := by rw [e14]; exact Cm_sJ (by simp)
  obtain ⟨S15, e16, h⟩ := nm_some h
  have qS15 : Cm S13 S15 := by rw [e16]; exact Cm_sJ (by simp)
  obtain ⟨b17, h⟩ := bnd_some h
  obtain ⟨b18, h⟩ := bnd_some h
  obtain ⟨S19, e20, h⟩ := nm_some h
  have qS19 : Cm S15 S19 := by rw [e20]; exact Cm_sJ (by simp)
  obtain ⟨rfl, rfl⟩ := sm_inj h
  exact qS5.tr (qS8.tr (qS13.tr (qS15.tr (qS19))))
theorem cm_X7_lookAt_92 {r : Unit} {S' : Mm}    : ∀ (n : Nat) (x1 : Int32) (x3 : Int32) (x4 : Int32) (S : Mm), f_X7_lookAt_92 n x1 x3 x4 S = some (r, S') → Cm S S' := by
  intro n
  induction n with
  | zero => intro x1 x3 x4 S h; cases h
  | succ n ih =>
    intro x1 x3 x4 S h
    rw [f_X7_lookAt_92] at h
    by_cases c1 : x1 < x4
    · have h := ifT c1 h
      obtain ⟨rfl, rfl⟩ := sm_inj h
      exact Cm.rf
    · have h := ifF c1 h
      obtain ⟨b2, h⟩ := bnd_some h
      obtain ⟨b3, h⟩ := bnd_some h
      obtain ⟨b4, h⟩ := bnd_some h
      obtain ⟨S5, e6, h⟩ := nm_some h
      have qS5 : Cm S S5 := by rw [e6]; exact Cm_sJ (by simp)
      obtain ⟨v7, e8, h⟩ := nm_some h
      exact qS5.tr ((ih x1 x3 v7 S5 h))
theorem cm_X7_lookAt_41 {r : Unit} {S' : Mm}    : ∀ (x1 : Int32) (x2 : Int32) (x3 : Int32) (S : Mm), f_X7_lookAt_41 x1 x2 x3 S = some (r, S') → Cm S S' := by
  intro x1 x2 x3 S h
  unfold f_X7_lookAt_41 at h
  obtain ⟨r1, S2, h3, h⟩ := bd_some h
  have qS2 : Cm S S2 := cm_X7_grow  h3
  by_cases c4 : x2 = 0
  · have h := ifT c4 h
    obtain ⟨rfl, rfl⟩ := sm_inj h
    exact qS2
  · have h := ifF c4 h
    obtain ⟨b5, h⟩ := bnd_some h
    obtain ⟨b6, h⟩ := bnd_some h
    obtain ⟨S7, e8, h⟩ := nm_some h
    have qS7 : Cm S2 S7 := by rw [e8]; exact Cm_sJ (by simp)
    obtain ⟨b9, h⟩ := bnd_some h
    obtain ⟨S10, e11, h⟩ := nm_some h
    have qS10 : Cm S7 S10 := by rw [e11]; exact Cm_sJ (by simp)
    exact qS2.tr (qS7.tr (qS10.tr ((cm_X7_lookAt_92 400 x1 x3 0 S10 h))))
theorem cm_X7_lookAt {S S' : Mm} {r : Unit} {x1 : Int32} {x2 : Int32}  (h : f_X7_lookAt S x1 x2 = some (r, S')) : Cm S S' := by
  unfold f_X7_lookAt at h
  obtain ⟨b1, h⟩ := bnd_some h
  obtain ⟨v2, e3, h⟩ := nm_some h
  by_cases c4 : x2 = 0
  · have h := ifT c4 h
    obtain ⟨S5, e6, h⟩ := nm_some h
    have qS5 : Cm S S5 := by rw [e6]; exact Cm_sJ (by simp)
    exact qS5.tr ((cm_X7_lookAt_41 x1 x2 v2 S5 h))
  · have h := ifF c4 h
    obtain ⟨b7, h⟩ := bnd_some h
    obtain ⟨S8, e9, h⟩ := nm_some h
    have qS8 : Cm S S8 := by rw [e9]; exact Cm_sJ (by simp)
    exact qS8.tr ((cm_X7_lookAt_41 x1 x2 v2 S8 h))
theorem cm_X7_measure_6 {r : Unit} {S' : Mm}    : ∀ (n : Nat) (x1 : Int32) (x2 : Int32) (S : Mm), f_X7_measure_6 n x1 x2 S = some (r, S') → Cm S S' := by
  intro n
  induction n with
  | zero => intro x1 x2 S h; cases h
  | succ n ih =>
    intro x1 x2 S h
    rw [f_X7_measure_6] at h
    obtain ⟨b1, h⟩ := bnd_some h
    by_cases c2 : (gI S 165 (0 : Int32).toNatClampNeg) ≤ x2
    · have h := ifT c2 h
      obtain ⟨b3, h⟩ := bnd_some h
      obtain ⟨S4, e5, h⟩ := nm_some h
      have qS4 : Cm S S4 := by rw [e5]; exact Cm_sJ (by simp)
      obtain ⟨rfl, rfl⟩ := sm_inj h
      exact qS4
    · have h := ifF c2 h
      obtain ⟨r6, S7, h8, h⟩ := bd_some h
      have qS7 : Cm S S7 := cm_X7_work  h8
      obtain ⟨b9, h⟩ := bnd_some h
      by_cases c10 : ((x1 >>> ((gI S7 174 x2.toNatClampNeg) &&& 31)) &&& 1) = 1
      · have h := ifT c10 h
        obtain ⟨r16, S17, h18, h⟩ := bd_some h
        have qS17 : Cm S7 S17 := cm_X7_lookAt  h18
        obtain ⟨v19, e20, h⟩ := nm_some h
        exact qS7.tr (qS17.tr ((ih x1 v19 S17 h)))
      · have h := ifF c10 h
        obtain ⟨r11, S12, h13, h⟩ := bd_some h
        have qS12 : Cm S7 S12 := cm_X7_lookAt  h13
        obtain ⟨v14, e15, h⟩ := nm_some h
        exact qS7.tr (qS12.tr ((ih x1 v14 S12 h)))
theorem cm_X7_measure {S S' : Mm} {r : Unit} {x1 : Int32}  (h : f_X7_measure S x1 = some (r, S')) : Cm S S' := by
  unfold f_X7_measure at h
  obtain ⟨r1, S2, h3, h⟩ := bd_some h
  have qS2 : Cm S S2 := cm_X7_begin  h3
  exact qS2.tr ((cm_X7_measure_6 400 x1 0 S2 h))
theorem cm_X7_bestLooks_13 {r : Int32} {S' : Mm}    : ∀ (n : Nat) (x1 : Int32) (x2 : Int64) (x4 : Int32) (S : Mm), f_X7_bestLooks_13 n x1 x2 x4 S = some (r, S') → Cm S S' := by
  intro n
  induction n with
  | zero => intro x1 x2 x4 S h; cases h
  | succ n ih =>
    intro x1 x2 x4 S h
    rw [f_X7_bestLooks_13] at h
    obtain ⟨b1, h⟩ := bnd_some h
    by_cases c2 : (1 <<< ((gI S 165 (0 : Int32).toNatClampNeg) &&& 31)) ≤ x4
    · have h := ifT c2 h
      obtain ⟨rfl, rfl⟩ := sm_inj h
      exact Cm.rf
    · have h := ifF c2 h
      obtain ⟨r3, S4, h5, h⟩ := bd_some h
      have qS4 : Cm S S4 := cm_X7_measure  h5
      by_cases c6 : (lg_cmp x2 0) < 0
      · have h := ifT c6 h
        obtain ⟨v7, e8, h⟩ := nm_some h
        obtain ⟨v9, e10, h⟩ := nm_some h
        exact qS4.tr ((ih x4 v7 v9 S4 h))
      · have h := ifF c6 h
        by_cases c11 : 0 ≤ (lg_cmp (gJ S4 163 22) x2)
        · have h := ifT c11 h
          obtain ⟨v12, e13, h⟩ := nm_some h
          exact qS4.tr ((ih x1 x2 v12 S4 h))
        · have h := ifF c11 h
          obtain ⟨v14, e15, h⟩ := nm_some h
          obtain ⟨v16, e17, h⟩ := nm_some h
          exact qS4.tr ((ih x4 v14 v16 S4 h))
theorem cm_X7_bestLooks {S S' : Mm} {r : Int32}   (h : f_X7_bestLooks S = some (r, S')) : Cm S S' := by
  unfold f_X7_bestLooks at h
  obtain ⟨r1, S2, h3, h⟩ := bd_some h
  have qS2 : Cm S S2 := cm_X7_takeRow  h3
  exact qS2.tr ((cm_X7_bestLooks_13 400 0 ((-1)) 0 S2 h))
theorem cm_X7_isStep {S S' : Mm} {r : Int32} {x1 : Int32}  (h : f_X7_isStep S x1 = some (r, S')) : Cm S S' := by
  unfold f_X7_isStep at h
  obtain ⟨b1, h⟩ := bnd_some h
  obtain ⟨r2, S3, h4, h⟩ := bd_some h
  have qS3 : Cm S S3 := cm_X7_in  h4
  obtain ⟨b5, h⟩ := bnd_some h
  obtain ⟨rfl, rfl⟩ := sm_inj h
  exact qS3
theorem cm_X7_isLawful_16 {r : Int32} {S' : Mm}   {kk4 : Int32 → Int32 → Mm → Option (Int32 × Mm)} (hk4 : ∀ (x1 : Int32) (x2 : Int32) (S : Mm), kk4 x1 x2 S = some (r, S') → Cm S S') : ∀ (n : Nat) (x1 : Int32) (x2 : Int32) (x3 : Int32) (S : Mm), f_X7_isLawful_16 kk4 n x1 x2 x3 S = some (r, S') → Cm S S' := by
  intro n
  induction n with
  | zero => intro x1 x2 x3 S h; cases h
  | succ n ih =>
    intro x1 x2 x3 S h
    rw [f_X7_isLawful_16] at h
    by_cases c1 : x2 ≤ x3
    · have h := ifT c1 h
      obtain ⟨v2, e3, h⟩ := nm_some h
      exact (hk4 x1 v2 S h)
    · have h := ifF c1 h
      by_cases c4 : x1 = 0
      · have h := ifT c4 h
        obtain ⟨v5, e6, h⟩ := nm_some h
        exact (ih 0 x2 v5 S h)
      · have h := ifF c4 h
        obtain ⟨b7, h⟩ := bnd_some h
        obtain ⟨b8, h⟩ := bnd_some h
        obtain ⟨b9, h⟩ := bnd_some h
        by_cases c10 : (((gI S 170 (gI S 174 x2.toNatClampNeg).toNatClampNeg) >>> ((gI S 174 x3.toNatClampNeg) &&& 31)) &&& 1) = 0
        · have h := ifT c10 h
          obtain ⟨v13, e14, h⟩ := nm_some h
          exact (ih 1 x2 v13 S h)
        · have h := ifF c10 h
          obtain ⟨v11, e12, h⟩ := nm_some h
          exact (ih 0 x2 v11 S h)
theorem cm_X7_isLawful_4 {r : Int32} {S' : Mm}    : ∀ (n : Nat) (x1 : Int32) (x2 : Int32) (S : Mm), f_X7_isLawful_4 n x1 x2 S = some (r, S') → Cm S S' := by
  intro n
  induction n with
  | zero => intro x1 x2 S h; cases h
  | succ n ih =>
    intro x1 x2 S h
    rw [f_X7_isLawful_4] at h
    obtain ⟨b1, h⟩ := bnd_some h
    by_cases c2 : (gI S 165 (0 : Int32).toNatClampNeg) ≤ x2
    · have h := ifT c2 h
      obtain ⟨b3, h⟩ := bnd_some h
      obtain ⟨rfl, rfl⟩ := sm_inj h
      exact Cm.rf
    · have h := ifF c2 h
      exact (cm_X7_isLawful_16 ih 400 x1 x2 0 S h)
theorem cm_X7_isLawful {S S' : Mm} {r : Int32}   (h : f_X7_isLawful S = some (r, S')) : Cm S S' := by
  unfold f_X7_isLawful at h
  exact (cm_X7_isLawful_4 400 1 0 S h)
theorem cm_X7_nextRow_113 {r : Int32} {S' : Mm}    : ∀ (n : Nat) (x4 : Int32) (x5 : Int32) (S : Mm), f_X7_nextRow_113 n x4 x5 S = some (r, S') → Cm S S' := by
  intro n
  induction n with
  | zero => intro x4 x5 S h; cases h
  | succ n ih =>
    intro x4 x5 S h
    rw [f_X7_nextRow_113] at h
    by_cases c1 : x5 ≤ x4
    · have h := ifT c1 h
      obtain ⟨rfl, rfl⟩ := sm_inj h
      exact Cm.rf
    · have h := ifF c1 h
      obtain ⟨b2, h⟩ := bnd_some h
      obtain ⟨v3, e4, h⟩ := nm_some h
      obtain ⟨b5, h⟩ := bnd_some h
      obtain ⟨b6, h⟩ := bnd_some h
      obtain ⟨S7, e8, h⟩ := nm_some h
      have qS7 : Cm S S7 := by rw [e8]; exact Cm_sI (by simp)
      obtain ⟨b9, h⟩ := bnd_some h
      obtain ⟨S10, e11, h⟩ := nm_some h
      have qS10 : Cm S7 S10 := by rw [e11]; exact Cm_sI (by simp)
      obtain ⟨v12, e13, h⟩ := nm_some h
      obtain ⟨v14, e15, h⟩ := nm_some h
      exact qS7.tr (qS10.tr ((ih v12 v14 S10 h)))
theorem cm_X7_nextRow_51 {r : Int32} {S' : Mm}    : ∀ (n : Nat) (x1 : Int32) (x2 : Int32) (S : Mm), f_X7_nextRow_51 n x1 x2 S = some (r, S') → Cm S S' := by
  intro n
  induction n with
  | zero => intro x1 x2 S h; cases h
  | succ n ih =>
    intro x1 x2 S h
    rw [f_X7_nextRow_51] at h
    obtain ⟨b1, h⟩ := bnd_some h
    obtain ⟨b2, h⟩ := bnd_some h
    by_cases c3 : (gI S 174 x1.toNatClampNeg) ≤ (gI S 174 x2.toNatClampNeg)
    · have h := ifT c3 h
      obtain ⟨b4, h⟩ := bnd_some h
      obtain ⟨v5, e6, h⟩ := nm_some h
      obtain ⟨b7, h⟩ := bnd_some h
      obtain ⟨b8, h⟩ := bnd_some h
      obtain ⟨S9, e10, h⟩ := nm_some h
      have qS9 : Cm S S9 := by rw [e10]; exact Cm_sI (by simp)
      obtain ⟨b11, h⟩ := bnd_some h
      obtain ⟨S12, e13, h⟩ := nm_some h
      have qS12 : Cm S9 S12 := by rw [e13]; exact Cm_sI (by simp)
      obtain ⟨v14, e15, h⟩ := nm_some h
      obtain ⟨b16, h⟩ := bnd_some h
      obtain ⟨v17, e18, h⟩ := nm_some h
      exact qS9.tr (qS12.tr ((cm_X7_nextRow_113 400 v14 v17 S12 h)))
    · have h := ifF c3 h
      obtain ⟨v19, e20, h⟩ := nm_some h
      exact (ih x1 v19 S h)
theorem cm_X7_nextRow_36 {r : Int32} {S' : Mm}    : ∀ (x1 : Int32) (S : Mm), f_X7_nextRow_36 x1 S = some (r, S') → Cm S S' := by
  intro x1 S h
  unfold f_X7_nextRow_36 at h
  by_cases c1 : 0 ≤ x1
  · have h := ifT c1 h
    obtain ⟨b2, h⟩ := bnd_some h
    obtain ⟨v3, e4, h⟩ := nm_some h
    exact (cm_X7_nextRow_51 400 x1 v3 S h)
  · have h := ifF c1 h
    obtain ⟨rfl, rfl⟩ := sm_inj h
    exact Cm.rf
theorem cm_X7_nextRow_9 {r : Int32} {S' : Mm}    : ∀ (n : Nat) (x1 : Int32) (S : Mm), f_X7_nextRow_9 n x1 S = some (r, S') → Cm S S' := by
  intro n
  induction n with
  | zero => intro x1 S h; cases h
  | succ n ih =>
    intro x1 S h
    rw [f_X7_nextRow_9] at h
    by_cases c1 : x1 < 0
    · have h := ifT c1 h
      exact (cm_X7_nextRow_36 x1 S h)
    · have h := ifF c1 h
      obtain ⟨b2, h⟩ := bnd_some h
      obtain ⟨b3, h⟩ := bnd_some h
      by_cases c4 : (gI S 174 x1.toNatClampNeg) ≤ (gI S 174 (x1 + 1).toNatClampNeg)
      · have h := ifT c4 h
        exact (cm_X7_nextRow_36 x1 S h)
      · have h := ifF c4 h
        obtain ⟨v5, e6, h⟩ := nm_some h
        exact (ih v5 S h)
theorem cm_X7_nextRow {S S' : Mm} {r : Int32}   (h : f_X7_nextRow S = some (r, S')) : Cm S S' := by
  unfold f_X7_nextRow at h
  obtain ⟨b1, h⟩ := bnd_some h
  obtain ⟨v2, e3, h⟩ := nm_some h
  exact (cm_X7_nextRow_9 400 v2 S h)
theorem cm_X7_bestOrder_83 {r : Int32} {S' : Mm}   {kk37 : Int32 → Int64 → Int32 → Mm → Option (Int32 × Mm)} (hk37 : ∀ (x1 : Int32) (x2 : Int64) (x4 : Int32) (S : Mm), kk37 x1 x2 x4 S = some (r, S') → Cm S S') : ∀ (n : Nat) (x1 : Int32) (x2 : Int64) (x5 : Int32) (S : Mm), f_X7_bestOrder_83 kk37 n x1 x2 x5 S = some (r, S') → Cm S S' := by
  intro n
  induction n with
  | zero => intro x1 x2 x5 S h; cases h
  | succ n ih =>
    intro x1 x2 x5 S h
    rw [f_X7_bestOrder_83] at h
    by_cases c1 : 5 ≤ x5
    · have h := ifT c1 h
      obtain ⟨r2, S3, h4, h⟩ := bd_some h
      have qS3 : Cm S S3 := cm_X7_nextRow  h4
      exact qS3.tr ((hk37 x1 x2 r2 S3 h))
    · have h := ifF c1 h
      obtain ⟨b5, h⟩ := bnd_some h
      obtain ⟨b6, h⟩ := bnd_some h
      obtain ⟨S7, e8, h⟩ := nm_some h
      have qS7 : Cm S S7 := by rw [e8]; exact Cm_sI (by simp)
      obtain ⟨v9, e10, h⟩ := nm_some h
      exact qS7.tr ((ih x1 x2 v9 S7 h))
theorem cm_X7_bestOrder_37 {r : Int32} {S' : Mm}    : ∀ (n : Nat) (x1 : Int32) (x2 : Int64) (x4 : Int32) (S : Mm), f_X7_bestOrder_37 n x1 x2 x4 S = some (r, S') → Cm S S' := by
  intro n
  induction n with
  | zero => intro x1 x2 x4 S h; cases h
  | succ n ih =>
    intro x1 x2 x4 S h
    rw [f_X7_bestOrder_37] at h
    by_cases c1 : x4 = 0
    · have h := ifT c1 h
      obtain ⟨b2, h⟩ := bnd_some h
      obtain ⟨rfl, rfl⟩ := sm_inj h
      exact Cm.rf
    · have h := ifF c1 h
      obtain ⟨r3, S4, h5, h⟩ := bd_some h
      have qS4 : Cm S S4 := cm_X7_isLawful  h5
      by_cases c6 : r3 = 0
      · have h := ifT c6 h
        obtain ⟨r7, S8, h9, h⟩ := bd_some h
        have qS8 : Cm S4 S8 := cm_X7_nextRow  h9
        exact qS4.tr (qS8.tr ((ih x1 x2 r7 S8 h)))
      · have h := ifF c6 h
        obtain ⟨b10, h⟩ := bnd_some h
        obtain ⟨r11, S12, h13, h⟩ := bd_some h
        have qS12 : Cm S4 S12 := cm_X7_measure  h13
        by_cases c14 : (lg_cmp x2 0) < 0
        · have h := ifT c14 h
          obtain ⟨v15, e16, h⟩ := nm_some h
          exact qS4.tr (qS12.tr ((cm_X7_bestOrder_83 ih 400 x1 v15 0 S12 h)))
        · have h := ifF c14 h
          by_cases c17 : 0 ≤ (lg_cmp (gJ S12 163 22) x2)
          · have h := ifT c17 h
            obtain ⟨r18, S19, h20, h⟩ := bd_some h
            have qS19 : Cm S12 S19 := cm_X7_nextRow  h20
            exact qS4.tr (qS12.tr (qS19.tr ((ih x1 x2 r18 S19 h))))
          · have h := ifF c17 h
            obtain ⟨v21, e22, h⟩ := nm_some h
            exact qS4.tr (qS12.tr ((cm_X7_bestOrder_83 ih 400 x1 v21 0 S12 h)))
theorem cm_X7_bestOrder_12 {r : Int32} {S' : Mm}    : ∀ (n : Nat) (x1 : Int32) (x2 : Int32) (S : Mm), f_X7_bestOrder_12 n x1 x2 S = some (r, S') → Cm S S' := by
  intro n
  induction n with
  | zero => intro x1 x2 S h; cases h
  | succ n ih =>
    intro x1 x2 S h
    rw [f_X7_bestOrder_12] at h
    by_cases c1 : 5 ≤ x2
    · have h := ifT c1 h
      exact (cm_X7_bestOrder_37 400 x1 ((-1)) 1 S h)
    · have h := ifF c1 h
      obtain ⟨b2, h⟩ := bnd_some h
      obtain ⟨S3, e4, h⟩ := nm_some h
      have qS3 : Cm S S3 := by rw [e4]; exact Cm_sI (by simp)
      obtain ⟨v5, e6, h⟩ := nm_some h
      exact qS3.tr ((ih x1 v5 S3 h))
theorem cm_X7_bestOrder {S S' : Mm} {r : Int32} {x1 : Int32}  (h : f_X7_bestOrder S x1 = some (r, S')) : Cm S S' := by
  unfold f_X7_bestOrder at h
  obtain ⟨r1, S2, h3, h⟩ := bd_some h
  have qS2 : Cm S S2 := cm_X7_isStep  h3
  by_cases c4 : r1 = 0
  · have h := ifT c4 h
    obtain ⟨rfl, rfl⟩ := sm_inj h
    exact qS2
  · have h := ifF c4 h
    exact qS2.tr ((cm_X7_bestOrder_12 400 x1 0 S2 h))
theorem cm_X7_blameFor_10 {r : Unit} {S' : Mm}    : ∀ (n : Nat) (x1 : Int32) (x2 : Int32) (S : Mm), f_X7_blameFor_10 n x1 x2 S = some (r, S') → Cm S S' := by
  intro n
  induction n with
  | zero => intro x1 x2 S h; cases h
  | succ n ih =>
    intro x1 x2 S h
    rw [f_X7_blameFor_10] at h
    by_cases c1 : x1 < x2
    · have h := ifT c1 h
      obtain ⟨rfl, rfl⟩ := sm_inj h
      exact Cm.rf
    · have h := ifF c1 h
      obtain ⟨r2, S3, h4, h⟩ := bd_some h
      have qS3 : Cm S S3 := cm_X7_work  h4
      by_cases c5 : x1 ≤ x2
      · have h := ifT c5 h
        obtain ⟨r6, S7, h8, h⟩ := bd_some h
        have qS7 : Cm S3 S7 := cm_X7_lookAt  h8
        obtain ⟨v9, e10, h⟩ := nm_some h
        exact qS3.tr (qS7.tr ((ih x1 v9 S7 h)))
      · have h := ifF c5 h
        obtain ⟨b11, h⟩ := bnd_some h
        obtain ⟨b12, h⟩ := bnd_some h
        by_cases c13 : (((gI S3 172 (10 : Int32).toNatClampNeg) >>> ((gI S3 174 x2.toNatClampNeg) &&& 31)) &&& 1) = 1
        · have h := ifT c13 h
          obtain ⟨r19, S20, h21, h⟩ := bd_some h
          have qS20 : Cm S3 S20 := cm_X7_lookAt  h21
          obtain ⟨v22, e23, h⟩ := nm_some h
          exact qS3.tr (qS20.tr ((ih x1 v22 S20 h)))
        · have h := ifF c13 h
          obtain ⟨r14, S15, h16, h⟩ := bd_some h
          have qS15 : Cm S3 S15 := cm_X7_lookAt  h16
          obtain ⟨v17, e18, h⟩ := nm_some h
          exact qS3.tr (qS15.tr ((ih x1 v17 S15 h)))
theorem cm_X7_blameFor {S S' : Mm} {r : Unit} {x1 : Int32}  (h : f_X7_blameFor S x1 = some (r, S')) : Cm S S' := by
  unfold f_X7_blameFor at h
  obtain ⟨r1, S2, h3, h⟩ := bd_some h
  have qS2 : Cm S S2 := cm_X7_takeRow  h3
  obtain ⟨r4, S5, h6, h⟩ := bd_some h
  have qS5 : Cm S2 S5 := cm_X7_begin  h6
  exact qS2.tr (qS5.tr ((cm_X7_blameFor_10 400 x1 0 S5 h)))
theorem cm_X7_isTold {S S' : Mm} {r : Int32} {x1 : Int32}  (h : f_X7_isTold S x1 = some (r, S')) : Cm S S' := by
  unfold f_X7_isTold at h
  obtain ⟨b1, h⟩ := bnd_some h
  obtain ⟨b2, h⟩ := bnd_some h
  by_cases c3 : (((gI S 172 (10 : Int32).toNatClampNeg) >>> ((gI S 174 x1.toNatClampNeg) &&& 31)) &&& 1) = 1
  · have h := ifT c3 h
    by_cases c4 : (lg_cmp (gJ S 163 24) 0) ≤ 0
    · have h := ifT c4 h
      obtain ⟨rfl, rfl⟩ := sm_inj h
      exact Cm.rf
    · have h := ifF c4 h
      obtain ⟨rfl, rfl⟩ := sm_inj h
      exact Cm.rf
  · have h := ifF c3 h
    obtain ⟨rfl, rfl⟩ := sm_inj h
    exact Cm.rf
theorem cm_X7_part_6 {r : Int64} {S' : Mm}    : ∀ (n : Nat) (x0 : Int64) (x2 : Int64) (x4 : Int32) (x5 : Int64) (x7 : Int64) (S : Mm), f_X7_part_6 n x0 x2 x4 x5 x7 S = some (r, S') → Cm S S' := by
  intro n
  induction n with
  | zero => intro x0 x2 x4 x5 x7 S h; cases h
  | succ n ih =>
    intro x0 x2 x4 x5 x7 S h
    rw [f_X7_part_6] at h
    by_cases c1 : (lg_cmp x7 0) = 0
    · have h := ifT c1 h
      by_cases c2 : x4 = 0
      · have h := ifT c2 h
        obtain ⟨b4, h⟩ := bnd_some h
        obtain ⟨rfl, rfl⟩ := sm_inj h
        exact Cm.rf
      · have h := ifF c2 h
        obtain ⟨b3, h⟩ := bnd_some h
        obtain ⟨rfl, rfl⟩ := sm_inj h
        exact Cm.rf
    · have h := ifF c1 h
      obtain ⟨b5, h⟩ := bnd_some h
      obtain ⟨v6, e7, h⟩ := nm_some h
      exact (ih x0 x2 x4 x7 v6 S h)
theorem cm_X7_part {S S' : Mm} {r : Int64} {x0 : Int64} {x2 : Int64} {x4 : Int32}  (h : f_X7_part S x0 x2 x4 = some (r, S')) : Cm S S' := by
  unfold f_X7_part at h
  exact (cm_X7_part_6 400 x0 x2 x4 x0 x2 S h)
theorem cm_X7_blame {S S' : Mm} {r : Int64} {x1 : Int32} {x2 : Int32} {x3 : Int32}  (h : f_X7_blame S x1 x2 x3 = some (r, S')) : Cm S S' := by
  unfold f_X7_blame at h
  obtain ⟨r1, S2, h3, h⟩ := bd_some h
  have qS2 : Cm S S2 := cm_X7_isStep  h3
  by_cases c4 : r1 = 0
  · have h := ifT c4 h
    obtain ⟨rfl, rfl⟩ := sm_inj h
    exact qS2
  · have h := ifF c4 h
    obtain ⟨r5, S6, h7, h⟩ := bd_some h
    have qS6 : Cm S2 S6 := cm_X7_isStep  h7
    by_cases c8 : r5 = 0
    · have h := ifT c8 h
      obtain ⟨rfl, rfl⟩ := sm_inj h
      exact qS2.tr (qS6)
    · have h := ifF c8 h
      obtain ⟨r9, S10, h11, h⟩ := bd_some h
      have qS10 : Cm S6 S10 := cm_X7_in  h11
      by_cases c12 : r9 = 0
      · have h := ifT c12 h
        obtain ⟨rfl, rfl⟩ := sm_inj h
        exact qS2.tr (qS6.tr (qS10))
      · have h := ifF c12 h
        obtain ⟨r13, S14, h15, h⟩ := bd_some h
        have qS14 : Cm S10 S14 := cm_X7_blameFor  h15
        obtain ⟨r16, S17, h18, h⟩ := bd_some h
        have qS17 : Cm S14 S17 := cm_X7_isTold  h18
        by_cases c19 : r16 = 0
        · have h := ifT c19 h
          obtain ⟨rfl, rfl⟩ := sm_inj h
          exact qS2.tr (qS6.tr (qS10.tr (qS14.tr (qS17))))
        · have h := ifF c19 h
          obtain ⟨b20, h⟩ := bnd_some h
          obtain ⟨r21, S22, h23, h⟩ := bd_some h
          have qS22 : Cm S17 S22 := cm_X7_part  h23
          obtain ⟨rfl, rfl⟩ := sm_inj h
          exact qS2.tr (qS6.tr (qS10.tr (qS14.tr (qS17.tr (qS22)))))
theorem cm_X7_count {S S' : Mm} {r : Int32} {x1 : Int32}  (h : f_X7_count S x1 = some (r, S')) : Cm S S' := by
  unfold f_X7_count at h
  by_cases c1 : x1 = 0
  · have h := ifT c1 h
    obtain ⟨b2, h⟩ := bnd_some h
    obtain ⟨rfl, rfl⟩ := sm_inj h
    exact Cm.rf
  · have h := ifF c1 h
    by_cases c3 : x1 = 1
    · have h := ifT c3 h
      obtain ⟨b4, h⟩ := bnd_some h
      obtain ⟨rfl, rfl⟩ := sm_inj h
      exact Cm.rf
    · have h := ifF c3 h
      by_cases c5 : x1 = 2
      · have h := ifT c5 h
        obtain ⟨rfl, rfl⟩ := sm_inj h
        exact Cm.rf
      · have h := ifF c5 h
        by_cases c6 : x1 = 3
        · have h := ifT c6 h
          obtain ⟨b7, h⟩ := bnd_some h
          obtain ⟨rfl, rfl⟩ := sm_inj h
          exact Cm.rf
        · have h := ifF c6 h
          by_cases c8 : x1 = 4
          · have h := ifT c8 h
            obtain ⟨rfl, rfl⟩ := sm_inj h
            exact Cm.rf
          · have h := ifF c8 h
            obtain ⟨rfl, rfl⟩ := sm_inj h
            exact Cm.rf
theorem cm_X7_drawOf {S S' : Mm} {r : Int32} {x0 : Int32} {x1 : Int32}  (h : f_X7_drawOf S x0 x1 = some (r, S')) : Cm S S' := by
  unfold f_X7_drawOf at h
  obtain ⟨v1, e2, h⟩ := nm_some h
  obtain ⟨rfl, rfl⟩ := sm_inj h
  exact Cm.rf
theorem cm_X7_here {S S' : Mm} {r : Int32}   (h : f_X7_here S = some (r, S')) : Cm S S' := by
  unfold f_X7_here at h
  by_cases c1 : (gI S 163 2) ≤ (gI S 163 11)
  · have h := ifT c1 h
    obtain ⟨rfl, rfl⟩ := sm_inj h
    exact Cm.rf
  · have h := ifF c1 h
    obtain ⟨b2, h⟩ := bnd_some h
    obtain ⟨rfl, rfl⟩ := sm_inj h
    exact Cm.rf
theorem cm_X7_manyOf_4 {r : Int32} {S' : Mm}    : ∀ (n : Nat) (x0 : Int32) (x1 : Int32) (x2 : Int32) (S : Mm), f_X7_manyOf_4 n x0 x1 x2 S = some (r, S') → Cm S S' := by
  intro n
  induction n with
  | zero => intro x0 x1 x2 S h; cases h
  | succ n ih =>
    intro x0 x1 x2 S h
    rw [f_X7_manyOf_4] at h
    by_cases c1 : 5 ≤ x2
    · have h := ifT c1 h
      obtain ⟨rfl, rfl⟩ := sm_inj h
      exact Cm.rf
    · have h := ifF c1 h
      obtain ⟨v2, e3, h⟩ := nm_some h
      obtain ⟨v4, e5, h⟩ := nm_some h
      exact (ih x0 v2 v4 S h)
theorem cm_X7_manyOf {S S' : Mm} {r : Int32} {x0 : Int32}  (h : f_X7_manyOf S x0 = some (r, S')) : Cm S S' := by
  unfold f_X7_manyOf at h
  exact (cm_X7_manyOf_4 400 x0 0 0 S h)
theorem cm_X7_few_51 {r : Int32} {S' : Mm}   {kk22 : Int32 → Int32 → Int32 → Mm → Option (Int32 × Mm)} (hk22 : ∀ (x1 : Int32) (x2 : Int32) (x3 : Int32) (S : Mm), kk22 x1 x2 x3 S = some (r, S') → Cm S S') : ∀ (x1 : Int32) (x2 : Int32) (x3 : Int32) (S : Mm), f_X7_few_51 kk22 x1 x2 x3 S = some (r, S') → Cm S S' := by
  intro x1 x2 x3 S h
  unfold f_X7_few_51 at h
  obtain ⟨r1, S2, h3, h⟩ := bd_some h
  have qS2 : Cm S S2 := cm_X7_measure  h3
  by_cases c4 : (lg_cmp ((gJ S2 163 23) + (gJ S2 163 24)) 0) ≤ 0
  · have h := ifT c4 h
    obtain ⟨v5, e6, h⟩ := nm_some h
    exact qS2.tr ((hk22 x1 x2 v5 S2 h))
  · have h := ifF c4 h
    by_cases c7 : 0 < (lg_cmp (250 * (gJ S2 163 24)) (x1.toInt64 * ((gJ S2 163 23) + (gJ S2 163 24))))
    · have h := ifT c7 h
      obtain ⟨v8, e9, h⟩ := nm_some h
      exact qS2.tr ((hk22 x1 x2 v8 S2 h))
    · have h := ifF c7 h
      obtain ⟨v10, e11, h⟩ := nm_some h
      exact qS2.tr ((hk22 x1 x3 v10 S2 h))
theorem cm_X7_few_22 {r : Int32} {S' : Mm}    : ∀ (n : Nat) (x1 : Int32) (x2 : Int32) (x3 : Int32) (S : Mm), f_X7_few_22 n x1 x2 x3 S = some (r, S') → Cm S S' := by
  intro n
  induction n with
  | zero => intro x1 x2 x3 S h; cases h
  | succ n ih =>
    intro x1 x2 x3 S h
    rw [f_X7_few_22] at h
    obtain ⟨b1, h⟩ := bnd_some h
    by_cases c2 : (1 <<< ((gI S 165 (0 : Int32).toNatClampNeg) &&& 31)) ≤ x3
    · have h := ifT c2 h
      obtain ⟨rfl, rfl⟩ := sm_inj h
      exact Cm.rf
    · have h := ifF c2 h
      by_cases c3 : x2 = (-9)
      · have h := ifT c3 h
        exact (cm_X7_few_51 ih x1 x2 x3 S h)
      · have h := ifF c3 h
        obtain ⟨r4, S5, h6, h⟩ := bd_some h
        have qS5 : Cm S S5 := cm_X7_manyOf  h6
        obtain ⟨r7, S8, h9, h⟩ := bd_some h
        have qS8 : Cm S5 S8 := cm_X7_manyOf  h9
        by_cases c10 : r7 ≤ r4
        · have h := ifT c10 h
          obtain ⟨v11, e12, h⟩ := nm_some h
          exact qS5.tr (qS8.tr ((ih x1 x2 v11 S8 h)))
        · have h := ifF c10 h
          exact qS5.tr (qS8.tr ((cm_X7_few_51 ih x1 x2 x3 S8 h)))
theorem cm_X7_few {S S' : Mm} {r : Int32} {x1 : Int32}  (h : f_X7_few S x1 = some (r, S')) : Cm S S' := by
  unfold f_X7_few at h
  obtain ⟨r1, S2, h3, h⟩ := bd_some h
  have qS2 : Cm S S2 := cm_X7_in  h3
  by_cases c4 : r1 = 0
  · have h := ifT c4 h
    obtain ⟨rfl, rfl⟩ := sm_inj h
    exact qS2
  · have h := ifF c4 h
    obtain ⟨r5, S6, h7, h⟩ := bd_some h
    have qS6 : Cm S2 S6 := cm_X7_takeRow  h7
    exact qS2.tr (qS6.tr ((cm_X7_few_22 400 x1 ((-9)) 0 S6 h)))
theorem cm_X7_first_19 {r : Int32} {S' : Mm}    : ∀ (n : Nat) (x1 : Int32) (x2 : Int32) (x3 : Int32) (S : Mm), f_X7_first_19 n x1 x2 x3 S = some (r, S') → Cm S S' := by
  intro n
  induction n with
  | zero => intro x1 x2 x3 S h; cases h
  | succ n ih =>
    intro x1 x2 x3 S h
    rw [f_X7_first_19] at h
    by_cases c1 : x1 < x3
    · have h := ifT c1 h
      obtain ⟨r2, S3, h4, h⟩ := bd_some h
      have qS3 : Cm S S3 := cm_X7_isTold  h4
      by_cases c5 : r2 = 0
      · have h := ifT c5 h
        obtain ⟨rfl, rfl⟩ := sm_inj h
        exact qS3
      · have h := ifF c5 h
        obtain ⟨rfl, rfl⟩ := sm_inj h
        exact qS3
    · have h := ifF c1 h
      obtain ⟨b6, h⟩ := bnd_some h
      obtain ⟨b7, h⟩ := bnd_some h
      by_cases c8 : (lg_cmp (gJ S 176 x3.toNatClampNeg) (gJ S 176 x2.toNatClampNeg)) ≤ 0
      · have h := ifT c8 h
        obtain ⟨v9, e10, h⟩ := nm_some h
        exact (ih x1 x2 v9 S h)
      · have h := ifF c8 h
        obtain ⟨v11, e12, h⟩ := nm_some h
        exact (ih x1 x3 v11 S h)
theorem cm_X7_first {S S' : Mm} {r : Int32} {x1 : Int32}  (h : f_X7_first S x1 = some (r, S')) : Cm S S' := by
  unfold f_X7_first at h
  obtain ⟨r1, S2, h3, h⟩ := bd_some h
  have qS2 : Cm S S2 := cm_X7_isStep  h3
  by_cases c4 : r1 = 0
  · have h := ifT c4 h
    obtain ⟨rfl, rfl⟩ := sm_inj h
    exact qS2
  · have h := ifF c4 h
    obtain ⟨r5, S6, h7, h⟩ := bd_some h
    have qS6 : Cm S2 S6 := cm_X7_blameFor  h7
    exact qS2.tr (qS6.tr ((cm_X7_first_19 400 x1 0 1 S6 h)))
theorem cm_X7_go_82 {r : Int32} {S' : Mm}   {kk16 : Int32 → Int32 → Int32 → Int32 → Mm → Option (Int32 × Mm)} (hk16 : ∀ (x1 : Int32) (x2 : Int32) (x3 : Int32) (x4 : Int32) (S : Mm), kk16 x1 x2 x3 x4 S = some (r, S') → Cm S S') : ∀ (x1 : Int32) (x2 : Int32) (x3 : Int32) (x4 : Int32) (x5 : Int32) (S : Mm), f_X7_go_82 kk16 x1 x2 x3 x4 x5 S = some (r, S') → Cm S S' := by
  intro x1 x2 x3 x4 x5 S h
  unfold f_X7_go_82 at h
  by_cases c1 : ((x2 >>> (x5 &&& 31)) &&& 1) = 1
  · have h := ifT c1 h
    obtain ⟨b4, h⟩ := bnd_some h
    obtain ⟨S5, e6, h⟩ := nm_some h
    have qS5 : Cm S S5 := by rw [e6]; exact Cm_sI (by simp)
    by_cases c7 : x3 = 0
    · have h := ifT c7 h
      obtain ⟨v8, e9, h⟩ := nm_some h
      exact qS5.tr ((hk16 x1 x2 x3 v8 S5 h))
    · have h := ifF c7 h
      obtain ⟨r10, S11, h12, h⟩ := bd_some h
      have qS11 : Cm S5 S11 := cm_X7_drawOf  h12
      obtain ⟨b13, h⟩ := bnd_some h
      by_cases c14 : r10 < (gI S11 169 x5.toNatClampNeg)
      · have h := ifT c14 h
        obtain ⟨v15, e16, h⟩ := nm_some h
        exact qS5.tr (qS11.tr ((hk16 x1 x2 x3 v15 S11 h)))
      · have h := ifF c14 h
        obtain ⟨S17, e18, h⟩ := nm_some h
        have qS17 : Cm S11 S17 := by rw [e18]; exact Cm_sI (by simp)
        obtain ⟨rfl, rfl⟩ := sm_inj h
        exact qS5.tr (qS11.tr (qS17))
  · have h := ifF c1 h
    obtain ⟨v2, e3, h⟩ := nm_some h
    exact (hk16 x1 x2 x3 v2 S h)
theorem cm_X7_go_76 {r : Int32} {S' : Mm}   {kk16 : Int32 → Int32 → Int32 → Int32 → Mm → Option (Int32 × Mm)} (hk16 : ∀ (x1 : Int32) (x2 : Int32) (x3 : Int32) (x4 : Int32) (S : Mm), kk16 x1 x2 x3 x4 S = some (r, S') → Cm S S') : ∀ (x1 : Int32) (x2 : Int32) (x4 : Int32) (x5 : Int32) (S : Mm), f_X7_go_76 kk16 x1 x2 x4 x5 S = some (r, S') → Cm S S' := by
  intro x1 x2 x4 x5 S h
  unfold f_X7_go_76 at h
  exact (cm_X7_go_82 hk16 x1 x2 1 x4 x5 S h)
theorem cm_X7_go_16 {r : Int32} {S' : Mm}    : ∀ (n : Nat) (x1 : Int32) (x2 : Int32) (x3 : Int32) (x4 : Int32) (S : Mm), f_X7_go_16 n x1 x2 x3 x4 S = some (r, S') → Cm S S' := by
  intro n
  induction n with
  | zero => intro x1 x2 x3 x4 S h; cases h
  | succ n ih =>
    intro x1 x2 x3 x4 S h
    rw [f_X7_go_16] at h
    obtain ⟨b1, h⟩ := bnd_some h
    by_cases c2 : (gI S 165 (0 : Int32).toNatClampNeg) ≤ x4
    · have h := ifT c2 h
      by_cases c3 : x3 = 0
      · have h := ifT c3 h
        obtain ⟨S4, e5, h⟩ := nm_some h
        have qS4 : Cm S S4 := by rw [e5]; exact Cm_sI (by simp)
        by_cases c6 : x3 = 0
        · have h := ifT c6 h
          obtain ⟨rfl, rfl⟩ := sm_inj h
          exact qS4
        · have h := ifF c6 h
          obtain ⟨rfl, rfl⟩ := sm_inj h
          exact qS4
      · have h := ifF c3 h
        obtain ⟨b7, h⟩ := bnd_some h
        obtain ⟨S8, e9, h⟩ := nm_some h
        have qS8 : Cm S S8 := by rw [e9]; exact Cm_sI (by simp)
        by_cases c10 : x3 = 0
        · have h := ifT c10 h
          obtain ⟨rfl, rfl⟩ := sm_inj h
          exact qS8
        · have h := ifF c10 h
          obtain ⟨rfl, rfl⟩ := sm_inj h
          exact qS8
    · have h := ifF c2 h
      obtain ⟨b11, h⟩ := bnd_some h
      obtain ⟨v12, e13, h⟩ := nm_some h
      obtain ⟨b14, h⟩ := bnd_some h
      obtain ⟨S15, e16, h⟩ := nm_some h
      have qS15 : Cm S S15 := by rw [e16]; exact Cm_sI (by simp)
      by_cases c17 : x3 = 0
      · have h := ifT c17 h
        obtain ⟨r18, S19, h20, h⟩ := bd_some h
        have qS19 : Cm S15 S19 := cm_X7_drawOf  h20
        obtain ⟨b21, h⟩ := bnd_some h
        by_cases c22 : (gI S19 172 (5 + v12).toNatClampNeg) ≤ r18
        · have h := ifT c22 h
          exact qS15.tr (qS19.tr ((cm_X7_go_82 ih x1 x2 0 x4 v12 S19 h)))
        · have h := ifF c22 h
          exact qS15.tr (qS19.tr ((cm_X7_go_76 ih x1 x2 x4 v12 S19 h)))
      · have h := ifF c17 h
        exact qS15.tr ((cm_X7_go_76 ih x1 x2 x4 v12 S15 h))
theorem cm_X7_go {S S' : Mm} {r : Int32} {x1 : Int32} {x2 : Int32}  (h : f_X7_go S x1 x2 = some (r, S')) : Cm S S' := by
  unfold f_X7_go at h
  obtain ⟨S1, e2, h⟩ := nm_some h
  have qS1 : Cm S S1 := by rw [e2]; exact Cm_sI (by simp)
  obtain ⟨S3, e4, h⟩ := nm_some h
  have qS3 : Cm S1 S3 := by rw [e4]; exact Cm_sI (by simp)
  exact qS1.tr (qS3.tr ((cm_X7_go_16 400 x1 x2 0 0 S3 h)))
theorem cm_X7_isSeed {S S' : Mm} {r : Int32} {x0 : Int32}  (h : f_X7_isSeed S x0 = some (r, S')) : Cm S S' := by
  unfold f_X7_isSeed at h
  obtain ⟨r1, S2, h3, h⟩ := bd_some h
  have qS2 : Cm S S2 := cm_X7_in  h3
  obtain ⟨b4, h⟩ := bnd_some h
  obtain ⟨rfl, rfl⟩ := sm_inj h
  exact qS2
theorem cm_X7_line {S S' : Mm} {r : Int32} {x1 : Int32}  (h : f_X7_line S x1 = some (r, S')) : Cm S S' := by
  unfold f_X7_line at h
  obtain ⟨r1, S2, h3, h⟩ := bd_some h
  have qS2 : Cm S S2 := cm_X7_isStep  h3
  by_cases c4 : r1 = 0
  · have h := ifT c4 h
    obtain ⟨rfl, rfl⟩ := sm_inj h
    exact qS2
  · have h := ifF c4 h
    obtain ⟨b5, h⟩ := bnd_some h
    obtain ⟨rfl, rfl⟩ := sm_inj h
    exact qS2
theorem cm_X7_lost {S S' : Mm} {r : Int64} {x1 : Int32} {x2 : Int32}  (h : f_X7_lost S x1 x2 = some (r, S')) : Cm S S' := by
  unfold f_X7_lost at h
  obtain ⟨r1, S2, h3, h⟩ := bd_some h
  have qS2 : Cm S S2 := cm_X7_isStep  h3
  by_cases c4 : r1 = 0
  · have h := ifT c4 h
    obtain ⟨rfl, rfl⟩ := sm_inj h
    exact qS2
  · have h := ifF c4 h
    obtain ⟨r5, S6, h7, h⟩ := bd_some h
    have qS6 : Cm S2 S6 := cm_X7_in  h7
    by_cases c8 : r5 = 0
    · have h := ifT c8 h
      obtain ⟨rfl, rfl⟩ := sm_inj h
      exact qS2.tr (qS6)
    · have h := ifF c8 h
      obtain ⟨r9, S10, h11, h⟩ := bd_some h
      have qS10 : Cm S6 S10 := cm_X7_takeRow  h11
      obtain ⟨b12, h⟩ := bnd_some h
      obtain ⟨r13, S14, h15, h⟩ := bd_some h
      have qS14 : Cm S10 S14 := cm_X7_measure  h15
      obtain ⟨b16, h⟩ := bnd_some h
      obtain ⟨r17, S18, h19, h⟩ := bd_some h
      have qS18 : Cm S14 S18 := cm_X7_part  h19
      obtain ⟨rfl, rfl⟩ := sm_inj h
      exact qS2.tr (qS6.tr (qS10.tr (qS14.tr (qS18))))
theorem cm_X7_mean {S S' : Mm} {r : Int64} {x1 : Int32} {x2 : Int32}  (h : f_X7_mean S x1 x2 = some (r, S')) : Cm S S' := by
  unfold f_X7_mean at h
  obtain ⟨r1, S2, h3, h⟩ := bd_some h
  have qS2 : Cm S S2 := cm_X7_in  h3
  by_cases c4 : r1 = 0
  · have h := ifT c4 h
    obtain ⟨rfl, rfl⟩ := sm_inj h
    exact qS2
  · have h := ifF c4 h
    obtain ⟨r5, S6, h7, h⟩ := bd_some h
    have qS6 : Cm S2 S6 := cm_X7_in  h7
    by_cases c8 : r5 = 0
    · have h := ifT c8 h
      obtain ⟨rfl, rfl⟩ := sm_inj h
      exact qS2.tr (qS6)
    · have h := ifF c8 h
      obtain ⟨r9, S10, h11, h⟩ := bd_some h
      have qS10 : Cm S6 S10 := cm_X7_takeRow  h11
      obtain ⟨b12, h⟩ := bnd_some h
      obtain ⟨r13, S14, h15, h⟩ := bd_some h
      have qS14 : Cm S10 S14 := cm_X7_measure  h15
      by_cases c16 : x1 = 0
      · have h := ifT c16 h
        obtain ⟨r17, S18, h19, h⟩ := bd_some h
        have qS18 : Cm S14 S18 := cm_X7_part  h19
        obtain ⟨rfl, rfl⟩ := sm_inj h
        exact qS2.tr (qS6.tr (qS10.tr (qS14.tr (qS18))))
      · have h := ifF c16 h
        by_cases c20 : x1 = 1
        · have h := ifT c20 h
          obtain ⟨r21, S22, h23, h⟩ := bd_some h
          have qS22 : Cm S14 S22 := cm_X7_part  h23
          obtain ⟨rfl, rfl⟩ := sm_inj h
          exact qS2.tr (qS6.tr (qS10.tr (qS14.tr (qS22))))
        · have h := ifF c20 h
          by_cases c24 : x1 = 2
          · have h := ifT c24 h
            obtain ⟨r25, S26, h27, h⟩ := bd_some h
            have qS26 : Cm S14 S26 := cm_X7_part  h27
            obtain ⟨rfl, rfl⟩ := sm_inj h
            exact qS2.tr (qS6.tr (qS10.tr (qS14.tr (qS26))))
          · have h := ifF c24 h
            by_cases c28 : (lg_cmp (gJ S14 163 23) 0) = 0
            · have h := ifT c28 h
              obtain ⟨rfl, rfl⟩ := sm_inj h
              exact qS2.tr (qS6.tr (qS10.tr (qS14)))
            · have h := ifF c28 h
              obtain ⟨r29, S30, h31, h⟩ := bd_some h
              have qS30 : Cm S14 S30 := cm_X7_part  h31
              obtain ⟨rfl, rfl⟩ := sm_inj h
              exact qS2.tr (qS6.tr (qS10.tr (qS14.tr (qS30))))
theorem cm_X7_now_68 {r : Int32} {S' : Mm}    : ∀ (n : Nat) (x2 : Int32) (x3 : Int32) (S : Mm), f_X7_now_68 n x2 x3 S = some (r, S') → Cm S S' := by
  intro n
  induction n with
  | zero => intro x2 x3 S h; cases h
  | succ n ih =>
    intro x2 x3 S h
    rw [f_X7_now_68] at h
    by_cases c1 : 5 ≤ x3
    · have h := ifT c1 h
      obtain ⟨rfl, rfl⟩ := sm_inj h
      exact Cm.rf
    · have h := ifF c1 h
      obtain ⟨b2, h⟩ := bnd_some h
      obtain ⟨v3, e4, h⟩ := nm_some h
      obtain ⟨v5, e6, h⟩ := nm_some h
      exact (ih v3 v5 S h)
theorem cm_X7_now {S S' : Mm} {r : Int32} {x1 : Int32}  (h : f_X7_now S x1 = some (r, S')) : Cm S S' := by
  unfold f_X7_now at h
  by_cases c1 : x1 = 0
  · have h := ifT c1 h
    obtain ⟨b2, h⟩ := bnd_some h
    obtain ⟨rfl, rfl⟩ := sm_inj h
    exact Cm.rf
  · have h := ifF c1 h
    by_cases c3 : x1 = 1
    · have h := ifT c3 h
      obtain ⟨b4, h⟩ := bnd_some h
      obtain ⟨rfl, rfl⟩ := sm_inj h
      exact Cm.rf
    · have h := ifF c3 h
      by_cases c5 : x1 = 2
      · have h := ifT c5 h
        obtain ⟨b6, h⟩ := bnd_some h
        obtain ⟨rfl, rfl⟩ := sm_inj h
        exact Cm.rf
      · have h := ifF c5 h
        by_cases c7 : x1 = 3
        · have h := ifT c7 h
          exact (cm_X7_now_68 400 0 0 S h)
        · have h := ifF c7 h
          by_cases c8 : x1 = 4
          · have h := ifT c8 h
            obtain ⟨b9, h⟩ := bnd_some h
            obtain ⟨rfl, rfl⟩ := sm_inj h
            exact Cm.rf
          · have h := ifF c8 h
            by_cases c10 : x1 = 5
            · have h := ifT c10 h
              obtain ⟨b11, h⟩ := bnd_some h
              obtain ⟨rfl, rfl⟩ := sm_inj h
              exact Cm.rf
            · have h := ifF c10 h
              obtain ⟨rfl, rfl⟩ := sm_inj h
              exact Cm.rf
theorem cm_X7_paper {S S' : Mm} {r : Int64} {x1 : Int32} {x2 : Int32}  (h : f_X7_paper S x1 x2 = some (r, S')) : Cm S S' := by
  unfold f_X7_paper at h
  obtain ⟨r1, S2, h3, h⟩ := bd_some h
  have qS2 : Cm S S2 := cm_X7_in  h3
  by_cases c4 : r1 = 0
  · have h := ifT c4 h
    obtain ⟨rfl, rfl⟩ := sm_inj h
    exact qS2
  · have h := ifF c4 h
    obtain ⟨r5, S6, h7, h⟩ := bd_some h
    have qS6 : Cm S2 S6 := cm_X7_in  h7
    by_cases c8 : r5 = 0
    · have h := ifT c8 h
      obtain ⟨rfl, rfl⟩ := sm_inj h
      exact qS2.tr (qS6)
    · have h := ifF c8 h
      obtain ⟨r9, S10, h11, h⟩ := bd_some h
      have qS10 : Cm S6 S10 := cm_X7_takeRow  h11
      obtain ⟨b12, h⟩ := bnd_some h
      obtain ⟨r13, S14, h15, h⟩ := bd_some h
      have qS14 : Cm S10 S14 := cm_X7_measure  h15
      by_cases c16 : (lg_cmp ((gJ S14 163 23) + (gJ S14 163 24)) 0) = 0
      · have h := ifT c16 h
        obtain ⟨rfl, rfl⟩ := sm_inj h
        exact qS2.tr (qS6.tr (qS10.tr (qS14)))
      · have h := ifF c16 h
        obtain ⟨r17, S18, h19, h⟩ := bd_some h
        have qS18 : Cm S14 S18 := cm_X7_part  h19
        obtain ⟨rfl, rfl⟩ := sm_inj h
        exact qS2.tr (qS6.tr (qS10.tr (qS14.tr (qS18))))
theorem cm_X7_placeOf_2 {r : Int32} {S' : Mm}    : ∀ (n : Nat) (x1 : Int32) (x2 : Int32) (S : Mm), f_X7_placeOf_2 n x1 x2 S = some (r, S') → Cm S S' := by
  intro n
  induction n with
  | zero => intro x1 x2 S h; cases h
  | succ n ih =>
    intro x1 x2 S h
    rw [f_X7_placeOf_2] at h
    obtain ⟨b1, h⟩ := bnd_some h
    by_cases c2 : (gI S 165 (0 : Int32).toNatClampNeg) ≤ x2
    · have h := ifT c2 h
      obtain ⟨rfl, rfl⟩ := sm_inj h
      exact Cm.rf
    · have h := ifF c2 h
      obtain ⟨b3, h⟩ := bnd_some h
      by_cases c4 : (gI S 172 (0 + x2).toNatClampNeg) = x1
      · have h := ifT c4 h
        obtain ⟨rfl, rfl⟩ := sm_inj h
        exact Cm.rf
      · have h := ifF c4 h
        obtain ⟨v5, e6, h⟩ := nm_some h
        exact (ih x1 v5 S h)
theorem cm_X7_placeOf {S S' : Mm} {r : Int32} {x1 : Int32}  (h : f_X7_placeOf S x1 = some (r, S')) : Cm S S' := by
  unfold f_X7_placeOf at h
  exact (cm_X7_placeOf_2 400 x1 0 S h)
theorem cm_X7_step {S S' : Mm} {r : Int32} {x1 : Int32} {x2 : Int32}  (h : f_X7_step S x1 x2 = some (r, S')) : Cm S S' := by
  unfold f_X7_step at h
  obtain ⟨r1, S2, h3, h⟩ := bd_some h
  have qS2 : Cm S S2 := cm_X7_isStep  h3
  by_cases c4 : r1 = 0
  · have h := ifT c4 h
    obtain ⟨rfl, rfl⟩ := sm_inj h
    exact qS2
  · have h := ifF c4 h
    by_cases c5 : x2 = 0
    · have h := ifT c5 h
      obtain ⟨b6, h⟩ := bnd_some h
      obtain ⟨rfl, rfl⟩ := sm_inj h
      exact qS2
    · have h := ifF c5 h
      by_cases c7 : x2 = 1
      · have h := ifT c7 h
        obtain ⟨b8, h⟩ := bnd_some h
        obtain ⟨rfl, rfl⟩ := sm_inj h
        exact qS2
      · have h := ifF c7 h
        by_cases c9 : x2 = 2
        · have h := ifT c9 h
          obtain ⟨b10, h⟩ := bnd_some h
          obtain ⟨rfl, rfl⟩ := sm_inj h
          exact qS2
        · have h := ifF c9 h
          by_cases c11 : x2 = 3
          · have h := ifT c11 h
            obtain ⟨b12, h⟩ := bnd_some h
            obtain ⟨rfl, rfl⟩ := sm_inj h
            exact qS2
          · have h := ifF c11 h
            by_cases c13 : x2 = 4
            · have h := ifT c13 h
              obtain ⟨b14, h⟩ := bnd_some h
              obtain ⟨rfl, rfl⟩ := sm_inj h
              exact qS2
            · have h := ifF c13 h
              by_cases c15 : x2 = 5
              · have h := ifT c15 h
                obtain ⟨b16, h⟩ := bnd_some h
                obtain ⟨rfl, rfl⟩ := sm_inj h
                exact qS2
              · have h := ifF c15 h
                by_cases c17 : x2 = 6
                · have h := ifT c17 h
                  obtain ⟨r18, S19, h20, h⟩ := bd_some h
                  have qS19 : Cm S2 S19 := cm_X7_placeOf  h20
                  obtain ⟨rfl, rfl⟩ := sm_inj h
                  exact qS2.tr (qS19)
                · have h := ifF c17 h
                  by_cases c21 : x2 = 7
                  · have h := ifT c21 h
                    obtain ⟨b22, h⟩ := bnd_some h
                    obtain ⟨rfl, rfl⟩ := sm_inj h
                    exact qS2
                  · have h := ifF c21 h
                    obtain ⟨rfl, rfl⟩ := sm_inj h
                    exact qS2
theorem cm_X7_trace {S S' : Mm} {r : Int64}   (h : f_X7_trace S = some (r, S')) : Cm S S' := by
  unfold f_X7_trace at h
  obtain ⟨rfl, rfl⟩ := sm_inj h
  exact Cm.rf
theorem cm_X7_who_50 {r : Int32} {S' : Mm}   {kk31 : Int32 → Int32 → Int32 → Int32 → Int32 → Mm → Option (Int32 × Mm)} (hk31 : ∀ (x1 : Int32) (x2 : Int32) (x3 : Int32) (x4 : Int32) (x5 : Int32) (S : Mm), kk31 x1 x2 x3 x4 x5 S = some (r, S') → Cm S S') : ∀ (n : Nat) (x1 : Int32) (x2 : Int32) (x3 : Int32) (x4 : Int32) (x5 : Int32) (x6 : Int32) (x7 : Int32) (S : Mm), f_X7_who_50 kk31 n x1 x2 x3 x4 x5 x6 x7 S = some (r, S') → Cm S S' := by
  intro n
  induction n with
  | zero => intro x1 x2 x3 x4 x5 x6 x7 S h; cases h
  | succ n ih =>
    intro x1 x2 x3 x4 x5 x6 x7 S h
    rw [f_X7_who_50] at h
    by_cases c1 : (gI S 163 30) ≤ x7
    · have h := ifT c1 h
      by_cases c2 : x6 = 0
      · have h := ifT c2 h
        obtain ⟨v3, e4, h⟩ := nm_some h
        exact (hk31 x1 x2 x3 x4 v3 S h)
      · have h := ifF c2 h
        by_cases c5 : x2 = 0
        · have h := ifT c5 h
          obtain ⟨v12, e13, h⟩ := nm_some h
          obtain ⟨v14, e15, h⟩ := nm_some h
          obtain ⟨v16, e17, h⟩ := nm_some h
          exact (hk31 x1 v14 x5 v12 v16 S h)
        · have h := ifF c5 h
          obtain ⟨v6, e7, h⟩ := nm_some h
          obtain ⟨v8, e9, h⟩ := nm_some h
          obtain ⟨v10, e11, h⟩ := nm_some h
          exact (hk31 x1 v8 x3 v6 v10 S h)
    · have h := ifF c1 h
      by_cases c18 : x6 = 0
      · have h := ifT c18 h
        obtain ⟨v19, e20, h⟩ := nm_some h
        exact (ih x1 x2 x3 x4 x5 0 v19 S h)
      · have h := ifF c18 h
        obtain ⟨b21, h⟩ := bnd_some h
        obtain ⟨r22, S23, h24, h⟩ := bd_some h
        have qS23 : Cm S S23 := cm_X7_go  h24
        obtain ⟨b25, h⟩ := bnd_some h
        by_cases c26 : r22 = (gI S23 179 x7.toNatClampNeg)
        · have h := ifT c26 h
          obtain ⟨v29, e30, h⟩ := nm_some h
          exact qS23.tr ((ih x1 x2 x3 x4 x5 1 v29 S23 h))
        · have h := ifF c26 h
          obtain ⟨v27, e28, h⟩ := nm_some h
          exact qS23.tr ((ih x1 x2 x3 x4 x5 0 v27 S23 h))
theorem cm_X7_who_31 {r : Int32} {S' : Mm}    : ∀ (n : Nat) (x1 : Int32) (x2 : Int32) (x3 : Int32) (x4 : Int32) (x5 : Int32) (S : Mm), f_X7_who_31 n x1 x2 x3 x4 x5 S = some (r, S') → Cm S S' := by
  intro n
  induction n with
  | zero => intro x1 x2 x3 x4 x5 S h; cases h
  | succ n ih =>
    intro x1 x2 x3 x4 x5 S h
    rw [f_X7_who_31] at h
    obtain ⟨b1, h⟩ := bnd_some h
    by_cases c2 : (1 <<< ((gI S 165 (0 : Int32).toNatClampNeg) &&& 31)) ≤ x5
    · have h := ifT c2 h
      by_cases c3 : x1 = 0
      · have h := ifT c3 h
        obtain ⟨rfl, rfl⟩ := sm_inj h
        exact Cm.rf
      · have h := ifF c3 h
        by_cases c4 : x1 = 1
        · have h := ifT c4 h
          obtain ⟨rfl, rfl⟩ := sm_inj h
          exact Cm.rf
        · have h := ifF c4 h
          by_cases c5 : x2 = 0
          · have h := ifT c5 h
            obtain ⟨rfl, rfl⟩ := sm_inj h
            exact Cm.rf
          · have h := ifF c5 h
            obtain ⟨rfl, rfl⟩ := sm_inj h
            exact Cm.rf
    · have h := ifF c2 h
      exact (cm_X7_who_50 ih 400 x1 x2 x3 x4 x5 1 0 S h)
theorem cm_X7_who {S S' : Mm} {r : Int32} {x1 : Int32}  (h : f_X7_who S x1 = some (r, S')) : Cm S S' := by
  unfold f_X7_who at h
  obtain ⟨r1, S2, h3, h⟩ := bd_some h
  have qS2 : Cm S S2 := cm_X7_in  h3
  by_cases c4 : r1 = 0
  · have h := ifT c4 h
    obtain ⟨rfl, rfl⟩ := sm_inj h
    exact qS2
  · have h := ifF c4 h
    obtain ⟨b5, h⟩ := bnd_some h
    obtain ⟨v6, e7, h⟩ := nm_some h
    exact qS2.tr ((cm_X7_who_31 400 x1 0 ((-9)) v6 0 S2 h))
