theorem fmb_ge {f sc lk ms : Nat → Nat} {lo : Nat → Bool} : ∀ i j, i ≤ j → fmb f sc lk ms lo i j = 0 := by
  intro i
  induction i with
  | zero => intro j _; rfl
  | succ i ih =>
    intro j hj
    unfold fmb
    rw [if_neg (by omega), ih j (by omega), Nat.zero_mul]
theorem as_k0 (k g d sc : Nat) : (k + (g + d) * sc) * 10 * 10 = 100 * (k + (g + d) * (sc + 0)) := by grind
theorem as_g (g f : Nat) (h : f ≤ 9) : (g * 10 - g * f) * 10 = 10 * (g * (10 - f)) := by rw [← Nat.mul_sub, Nat.mul_comm]
theorem as_d (g d f : Nat) : d * 10 + g * f = 10 * d + g * f := by rw [Nat.mul_comm d 10]
theorem as_sum (g d f : Nat) (h : f ≤ 9) : (g * 10 - g * f) + (d * 10 + g * f) = (g + d) * 10 := by
  have : g * f ≤ g * 10 := Nat.mul_le_mul_left g (by omega)
  omega
theorem as_k1 (k g d sc lk : Nat) : ((k + (g + d) * sc) * 10 + (g + d) * 10 * lk) * 10 = 100 * (k + (g + d) * (sc + lk)) := by grind
theorem as_x (x e : Nat) : x * 100 ^ e * 10 * 10 = x * 100 ^ (e + 1) := by rw [Nat.pow_succ, Nat.mul_assoc, Nat.mul_assoc]
theorem as_y (y m : Nat) : y * 10 * m = y * (10 * m) := Nat.mul_assoc _ _ _
def FM (f sc lk ms : Nat → Nat) (lo : Nat → Bool) (S M : Mm) (i : Nat) : Prop := MS S M (100 ^ i) (fl f sc lk ms lo i).2.2 (fl f sc lk ms lo i).1 (fl f sc lk ms lo i).2.1 (fun j => if j < i then fls f sc lk ms lo j * 100 ^ (i - 1 - j) else 0) (fun j => fmb f sc lk ms lo i j)
theorem p100 {i : Nat} (h : i ≤ 5) : 100 ^ i ≤ 10000000000 := (Nat.pow_le_pow_right (by omega) h : 100 ^ i ≤ 100 ^ 5)
theorem step_m {f sc lk ms : Nat → Nat} {lo : Nat → Bool} {n : Nat} (hb : ∀ i, i < n → f i ≤ 9 ∧ ms i ≤ 9 ∧ sc i ≤ 99 ∧ lk i ≤ 30) (hn : n ≤ 5) {S M : Mm} {i s : Nat} (hi : i < n) (hs : s < 5) (r1 : gI S 174 i = nI s) (r2 : gI S 166 s = nI (sc i)) (r3 : gI S 172 (5 + s) = nI (f i)) (r4 : gI S 168 s = nI (lk i)) (r5 : gI S 169 s = nI (ms i)) (h : FM f sc lk ms lo S M i) : ∃ A, f_X7_work M (nI i) = some ((), A) ∧ A.1 = S.1 ∧ (lo i = false → ∃ E, f_X7_lookAt A (nI i) 0 = some ((), E) ∧ FM f sc lk ms lo S E (i + 1)) ∧ (lo i = true → ∃ E, f_X7_lookAt A (nI i) 1 = some ((), E) ∧ FM f sc lk ms lo S E (i + 1)) := by
  obtain ⟨h1, h2, h3, h4⟩ := hb i hi
  obtain ⟨b1, b2⟩ := fl_bd (lo := lo) hb i (by omega)
  have b3 := p100 (show i ≤ 5 by omega)
  have b4 : ∀ j, fmb f sc lk ms lo i j ≤ 100 ^ i := fun j => fmb_bd (lo := lo) hb j i (by omega)
  have ei : fl f sc lk ms lo (i + 1) = (10 * ((fl f sc lk ms lo i).1 * (10 - f i)), (10 * (fl f sc lk ms lo i).2.1 + (fl f sc lk ms lo i).1 * f i) * (if lo i = true then ms i else 10), 100 * ((fl f sc lk ms lo i).2.2 + ((fl f sc lk ms lo i).1 + (fl f sc lk ms lo i).2.1) * (sc i + if lo i = true then lk i else 0))) := rfl
  have em : ∀ j, fmb f sc lk ms lo (i + 1) j = if j = i then (fl f sc lk ms lo i).1 * f i * (if lo i = true then ms i else 10) else fmb f sc lk ms lo i j * (if lo i = true then 10 * ms i else 100) := fun _ => rfl
  have el : fls f sc lk ms lo i = if lo i = true then (10 * (fl f sc lk ms lo i).2.1 + (fl f sc lk ms lo i).1 * f i) * (10 - ms i) else 0 := rfl
  have hgf : (fl f sc lk ms lo i).1 * f i ≤ (fl f sc lk ms lo i).1 * 10 := Nat.mul_le_mul_left _ (by omega)
  have z := fmb_ge (f := f) (sc := sc) (lk := lk) (ms := ms) (lo := lo) i i (Nat.le_refl _)
  have z2 : ∀ j, i < j → fmb f sc lk ms lo i j = 0 := fun j hj => fmb_ge i j (by omega)
  obtain ⟨A, a1, a2⟩ := work_m h (by omega) hs h3 h1 (by omega) r1 r2 r3
  refine ⟨A, a1, a2.1, fun hl => ?_, fun hl => ?_⟩
  · obtain ⟨E, x1, x2⟩ := look0_m a2 (by omega) r1
    refine ⟨E, x1, MS_cast x2 ?_ ?_ ?_ ?_ (fun j hj => ?_) (fun j hj => ?_)⟩
    · rw [Nat.pow_succ, Nat.mul_assoc]
    · rw [ei, hl, if_neg (by decide)]; exact as_k0 _ _ _ _
    · rw [ei]; exact as_g _ _ h1
    · rw [ei, hl, if_neg (by decide), as_d]
    · try dsimp only
      by_cases e : j < i
      · rw [if_pos e, if_pos (by omega), as_x, show i - 1 - j + 1 = i + 1 - 1 - j by omega]
      · rw [if_neg e]
        by_cases e2 : j = i
        · rw [if_pos (by omega), e2, el, hl, if_neg (by decide)]; simp
        · rw [if_neg (by omega)]
    · try dsimp only
      rw [em, hl, if_neg (show ¬ (false = true) by decide), if_neg (show ¬ (false = true) by decide)]
      by_cases e : j = i
      · rw [if_pos e, if_pos e, e, z, Nat.zero_mul, Nat.zero_add]
      · rw [if_neg e, if_neg e, as_y]
  · obtain ⟨E, x1, x2⟩ := look1_m a2 (by omega) hs h4 h2 (by omega) (fun j hj => by
      try dsimp only
      have := b4 j
      split <;> omega) r1 r4 r5
    refine ⟨E, x1, MS_cast x2 ?_ ?_ ?_ ?_ (fun j hj => ?_) (fun j hj => ?_)⟩
    · rw [Nat.pow_succ, Nat.mul_assoc]
    · rw [ei, hl, if_pos rfl, as_sum _ _ _ h1]; exact as_k1 _ _ _ _ _
    · rw [ei]; exact as_g _ _ h1
    · rw [ei, hl, if_pos rfl, as_d]
    · try dsimp only
      by_cases e2 : j = i
      · rw [if_pos e2, if_pos (by omega), e2, el, hl, if_pos rfl, as_d, show i + 1 - 1 - i = 0 by omega, Nat.pow_zero, Nat.mul_one]
      · rw [if_neg e2]
        by_cases e : j < i
        · rw [if_pos e, if_pos (by omega), as_x, show i - 1 - j + 1 = i + 1 - 1 - j by omega]
        · rw [if_neg e, if_neg (by omega)]
    · try dsimp only
      rw [em, hl, if_pos rfl, if_pos rfl]
      by_cases e : j = i
      · rw [if_pos (by omega), if_pos e, if_pos e, e, z, Nat.zero_mul, Nat.zero_add]
      · rw [if_neg e, if_neg e]
        by_cases e3 : j ≤ i
        · rw [if_pos e3, as_y]
        · rw [if_neg e3, z2 j (by omega)]; simp
theorem FM_0 {f sc lk ms : Nat → Nat} {lo : Nat → Bool} {S M : Mm} (h : MS S M 1 0 1 0 (fun _ => 0) (fun _ => 0)) : FM f sc lk ms lo S M 0 := MS_cast h rfl rfl rfl rfl (fun j _ => (if_neg (by omega)).symm) (fun _ _ => rfl)
/-- the model's row is in place, and its numbers -/
def RwM (S : Mm) (n : Nat) (L : Nat → Nat) : Prop := ∀ i, i < n → gI S 174 i = nI (L i) ∧ L i < n
theorem meas_ml {S : Mm} {n : Nat} {F sec lk ms ah : Nat → Nat} {pr : Nat} {L : Nat → Nat} (hn : n ≤ 5) (D : DtM S n F sec lk ms ah pr) (hF : ∀ s, s < n → F s ≤ 9 ∧ ms s ≤ 9 ∧ sec s ≤ 99 ∧ lk s ≤ 30) (hL : RwM S n L) {w : Nat} (hw : w < 32) : ∀ (r i fu : Nat) (M : Mm), i + r = n → r < fu → FM (fun i => F (L i)) (fun i => sec (L i)) (fun i => lk (L i)) (fun i => ms (L i)) (fun i => bitq w (L i)) S M i → ∃ E0, f_X7_measure_6 fu (nI w) (nI i) M = some ((), sJ E0 163 22 (gJ E0 163 22 + gJ E0 163 24 * (gI S 171 0).toInt64)) ∧ FM (fun i => F (L i)) (fun i => sec (L i)) (fun i => lk (L i)) (fun i => ms (L i)) (fun i => bitq w (L i)) S E0 n := by
  obtain ⟨d1, dp, d2⟩ := D
  have hb : ∀ i, i < n → (fun i => F (L i)) i ≤ 9 ∧ (fun i => ms (L i)) i ≤ 9 ∧ (fun i => sec (L i)) i ≤ 99 ∧ (fun i => lk (L i)) i ≤ 30 := fun i hi => hF (L i) (hL i hi).2
  intro r
  induction r with
  | zero =>
    intro i fu M hi hf h
    obtain ⟨f', rfl⟩ : ∃ f', fu = f' + 1 := ⟨fu - 1, by omega⟩
    obtain rfl : i = n := by omega
    refine ⟨M, ?_, h⟩
    rw [f_X7_measure_6, bnd_ok (by decide), show (0 : Int32).toNatClampNeg = 0 from rfl, MS_g h, d1, if_pos (nI_le (Nat.le_refl _) (by omega)), bnd_ok (by decide), MS_g h, nm_ok]
  | succ r ih =>
    intro i fu M hi hf h
    obtain ⟨f', rfl⟩ : ∃ f', fu = f' + 1 := ⟨fu - 1, by omega⟩
    have hin : i < n := by omega
    obtain ⟨l1, l2⟩ := hL i hin
    obtain ⟨g1, g3, g4, g5, -⟩ := d2 (L i) l2
    obtain ⟨A, a1, a2, a3, a4⟩ := step_m hb hn hin (show L i < 5 by omega) l1 g3 g1 g4 g5 h
    rw [f_X7_measure_6, bnd_ok (by decide), show (0 : Int32).toNatClampNeg = 0 from rfl, MS_g h, d1, if_neg (nI_ge hin (by omega)), a1, bd_ok, bnd_ok (inB_nI (by omega) (by decide)), nI_clamp (by omega), show gI A 174 i = nI (L i) by unfold gI; rw [a2]; exact l1, bit_if hw (by omega)]
    by_cases hl : bitq w (L i) = true
    · obtain ⟨E, e1, e2⟩ := a4 hl
      rw [if_pos hl, e1, bd_ok, nm_ok, nI_1]
      exact ih (i + 1) f' E (by omega) (by omega) e2
    · obtain ⟨E, e1, e2⟩ := a3 (show bitq w (L i) = false by simpa using hl)
      rw [if_neg hl, e1, bd_ok, nm_ok, nI_1]
      exact ih (i + 1) f' E (by omega) (by omega) e2
theorem meas_m {S M : Mm} {n : Nat} {F sec lk ms ah : Nat → Nat} {pr : Nat} {L : Nat → Nat} (hn : n ≤ 5) (D : DtM S n F sec lk ms ah pr) (hF : ∀ s, s < n → F s ≤ 9 ∧ ms s ≤ 9 ∧ sec s ≤ 99 ∧ lk s ≤ 30) (hpr : pr ≤ 99) (hL : RwM S n L) {w : Nat} (hw : w < 32) (hM : M.1 = S.1) {p : Nat × Nat × Nat} (hp : p = fl (fun i => F (L i)) (fun i => sec (L i)) (fun i => lk (L i)) (fun i => ms (L i)) (fun i => bitq w (L i)) n) : ∃ E, f_X7_measure M (nI w) = some ((), E) ∧ MS S E (100 ^ n) (p.2.2 + p.2.1 * pr) p.1 p.2.1 (fun j => if j < n then fls (fun i => F (L i)) (fun i => sec (L i)) (fun i => lk (L i)) (fun i => ms (L i)) (fun i => bitq w (L i)) j * 100 ^ (n - 1 - j) else 0) (fun j => fmb (fun i => F (L i)) (fun i => sec (L i)) (fun i => lk (L i)) (fun i => ms (L i)) (fun i => bitq w (L i)) n j) := by
  unfold f_X7_measure
  obtain ⟨B, b1, b2⟩ := beg_m hM
  rw [b1, bd_ok]
  obtain ⟨E0, e1, e2⟩ := meas_ml hn D hF hL hw n 0 400 B (by omega) (by omega) (FM_0 b2)
  refine ⟨_, e1, ?_⟩
  obtain ⟨c0, c1, c2, c3, c4, c5⟩ := e2
  rw [← hp] at c2 c3 c4
  refine ⟨c0, ?_, ?_, ?_, ?_, fun j hj => ?_⟩
  · rw [gJ_sJ, if_neg (by omega)]; exact c1
  · rw [gJ_sJ, if_pos ⟨rfl, rfl⟩, c2, c4, D.2.1, nI_l (by omega), lN_mul, lN_add]
  · rw [gJ_sJ, if_neg (by omega)]; exact c3
  · rw [gJ_sJ, if_neg (by omega)]; exact c4
  · rw [gJ_sJ, if_neg (by omega), gJ_sJ, if_neg (by omega)]; exact c5 j hj
/-- taking the present line into the row -/
theorem row_ml {S : Mm} : ∀ (r i fu : Nat) (M : Mm), i + r = 5 → r < fu → (∀ a, a ≠ 174 → M.1 a = S.1 a) → M.2 = S.2 → (∀ j, j < i → gI M 174 j = gI S 172 j) → ∃ E, f_X7_takeRow_2 fu (nI i) M = some ((), E) ∧ (∀ a, a ≠ 174 → E.1 a = S.1 a) ∧ E.2 = S.2 ∧ ∀ j, j < 5 → gI E 174 j = gI S 172 j := by
  intro r
  induction r with
  | zero =>
    intro i fu M hi hf h1 h2 h3
    obtain ⟨f', rfl⟩ : ∃ f', fu = f' + 1 := ⟨fu - 1, by omega⟩
    rw [f_X7_takeRow_2, show i = 5 by omega, if_pos (by decide)]
    exact ⟨M, rfl, h1, h2, fun j hj => h3 j (by omega)⟩
  | succ r ih =>
    intro i fu M hi hf h1 h2 h3
    obtain ⟨f', rfl⟩ : ∃ f', fu = f' + 1 := ⟨fu - 1, by omega⟩
    rw [f_X7_takeRow_2, if_neg (show ¬ 5 ≤ nI i from nI_ge (b := 5) (by omega) (by decide)), show (0 : Int32) + nI i = nI i by rw [show (0 : Int32) = nI 0 from rfl, nI_add, Nat.zero_add], bnd_ok (inB_nI (by omega) (by decide)), bnd_ok (inB_nI (by omega) (by decide)), nI_clamp (by omega), show gI M 172 i = gI S 172 i by unfold gI; rw [h1 172 (by omega)], nm_ok, nm_ok, nI_1]
    refine ih (i + 1) f' _ (by omega) (by omega) (fun a ha => by rw [sI_ne ha]; exact h1 a ha) h2 (fun j hj => ?_)
    by_cases e : j = i
    · rw [gI_sI, if_pos ⟨rfl, e⟩, e]
    · rw [gI_sI, if_neg (by omega)]; exact h3 j (by omega)
theorem row_m {S : Mm} : ∃ E, f_X7_takeRow S = some ((), E) ∧ (∀ a, a ≠ 174 → E.1 a = S.1 a) ∧ E.2 = S.2 ∧ ∀ j, j < 5 → gI E 174 j = gI S 172 j := row_ml 5 0 400 S (by omega) (by omega) (fun _ _ => rfl) rfl (fun j hj => by omega)
