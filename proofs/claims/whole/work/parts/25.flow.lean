def fl (f sc lk ms : Nat → Nat) (lo : Nat → Bool) : Nat → Nat × Nat × Nat
  | 0 => (1, 0, 0)
  | i + 1 => (10 * ((fl f sc lk ms lo i).1 * (10 - f i)), (10 * (fl f sc lk ms lo i).2.1 + (fl f sc lk ms lo i).1 * f i) * (if lo i = true then ms i else 10), 100 * ((fl f sc lk ms lo i).2.2 + ((fl f sc lk ms lo i).1 + (fl f sc lk ms lo i).2.1) * (sc i + if lo i = true then lk i else 0)))
def fls (f sc lk ms : Nat → Nat) (lo : Nat → Bool) (i : Nat) : Nat := if lo i = true then (10 * (fl f sc lk ms lo i).2.1 + (fl f sc lk ms lo i).1 * f i) * (10 - ms i) else 0
def fmb (f sc lk ms : Nat → Nat) (lo : Nat → Bool) : Nat → Nat → Nat
  | 0, _ => 0
  | i + 1, j => if j = i then (fl f sc lk ms lo i).1 * f i * (if lo i = true then ms i else 10) else fmb f sc lk ms lo i j * (if lo i = true then 10 * ms i else 100)
/-! bounds -/
theorem fl_bd {f sc lk ms : Nat → Nat} {lo : Nat → Bool} {n : Nat} (h : ∀ i, i < n → f i ≤ 9 ∧ ms i ≤ 9 ∧ sc i ≤ 99 ∧ lk i ≤ 30) : ∀ i, i ≤ n → (fl f sc lk ms lo i).1 + (fl f sc lk ms lo i).2.1 ≤ 100 ^ i ∧ (fl f sc lk ms lo i).2.2 ≤ 129 * i * 100 ^ i := by
  intro i
  induction i with
  | zero => intro _; exact ⟨by simp [fl], by simp [fl]⟩
  | succ i ih =>
    intro hi
    obtain ⟨a, b⟩ := ih (by omega)
    obtain ⟨h1, h2, h3, h4⟩ := h i (by omega)
    unfold fl
    generalize fl f sc lk ms lo i = p at a b
    dsimp only
    have e1 : p.1 * (10 - f i) + p.1 * f i = 10 * p.1 := by rw [← Nat.mul_add, show 10 - f i + f i = 10 by omega, Nat.mul_comm]
    refine ⟨?_, ?_⟩
    · have e2 : (10 * p.2.1 + p.1 * f i) * (if lo i = true then ms i else 10) ≤ (10 * p.2.1 + p.1 * f i) * 10 := Nat.mul_le_mul_left _ (by split <;> omega)
      rw [Nat.pow_succ]
      omega
    · have e3 : (p.1 + p.2.1) * (sc i + if lo i = true then lk i else 0) ≤ 100 ^ i * 129 := Nat.mul_le_mul a (by split <;> omega)
      have e4 : 129 * (i + 1) * 100 ^ (i + 1) = 100 * (129 * i * 100 ^ i + 100 ^ i * 129) := by
        rw [Nat.pow_succ]
        generalize 100 ^ i = q
        rw [Nat.mul_add 129 i 1, Nat.add_mul, Nat.mul_add 100, Nat.mul_one, Nat.mul_comm q 100, Nat.mul_left_comm (129 * i), Nat.mul_left_comm 129 100, Nat.mul_comm 129 q]
      rw [e4]
      exact Nat.mul_le_mul_left 100 (Nat.add_le_add b e3)
theorem fmb_bd {f sc lk ms : Nat → Nat} {lo : Nat → Bool} {n : Nat} (h : ∀ i, i < n → f i ≤ 9 ∧ ms i ≤ 9 ∧ sc i ≤ 99 ∧ lk i ≤ 30) (j : Nat) : ∀ i, i ≤ n → fmb f sc lk ms lo i j ≤ 100 ^ i := by
  intro i
  induction i with
  | zero => intro _; exact Nat.zero_le _
  | succ i ih =>
    intro hi
    have a := (fl_bd (lo := lo) h i (by omega)).1
    have b := ih (by omega)
    obtain ⟨h1, h2, h3, h4⟩ := h i (by omega)
    unfold fmb
    rw [Nat.pow_succ]
    split
    · have e1 : (fl f sc lk ms lo i).1 * f i ≤ 100 ^ i * 10 := Nat.mul_le_mul (by omega) (by omega)
      have e2 : (fl f sc lk ms lo i).1 * f i * (if lo i = true then ms i else 10) ≤ 100 ^ i * 10 * 10 := Nat.mul_le_mul e1 (by split <;> omega)
      omega
    · exact Nat.mul_le_mul b (by split <;> omega)
theorem fls_bd {f sc lk ms : Nat → Nat} {lo : Nat → Bool} {n : Nat} (h : ∀ i, i < n → f i ≤ 9 ∧ ms i ≤ 9 ∧ sc i ≤ 99 ∧ lk i ≤ 30) {i : Nat} (hi : i < n) : fls f sc lk ms lo i ≤ 100 ^ (i + 1) := by
  have a := (fl_bd (lo := lo) h i (by omega)).1
  obtain ⟨h1, h2, h3, h4⟩ := h i (by omega)
  unfold fls
  split
  · have e0 : (fl f sc lk ms lo i).1 * f i ≤ (fl f sc lk ms lo i).1 * 10 := Nat.mul_le_mul_left _ (by omega)
    have e1 : 10 * (fl f sc lk ms lo i).2.1 + (fl f sc lk ms lo i).1 * f i ≤ 10 * 100 ^ i := by omega
    have e2 := Nat.mul_le_mul e1 (show 10 - ms i ≤ 10 by omega)
    rw [Nat.pow_succ]
    omega
  · exact Nat.zero_le _
theorem K_step {i : Nat} (h : i < 5) : 100 ^ (5 - i) = 100 * 100 ^ (5 - (i + 1)) := by
  rw [show 5 - i = (5 - (i + 1)) + 1 by omega, Nat.pow_succ, Nat.mul_comm]
theorem K_le (i : Nat) : 100 ^ (5 - i) ≤ 10000000000 := (Nat.pow_le_pow_right (by omega) (show 5 - i ≤ 5 by omega) : 100 ^ (5 - i) ≤ 100 ^ 5)
theorem K_mul {i x : Nat} (hi : i ≤ 5) (hx : x ≤ 100 ^ i) : x * 100 ^ (5 - i) ≤ 10000000000 := by
  have h1 : x * 100 ^ (5 - i) ≤ 100 ^ i * 100 ^ (5 - i) := Nat.mul_le_mul_right _ hx
  rw [← Nat.pow_add, show i + (5 - i) = 5 by omega] at h1
  exact h1
/-! the class' two half steps -/
def U158 (S T : Mm) : Prop := T.1 = S.1 ∧ T.2.2 = S.2.2
theorem U158_g {S T : Mm} (u : U158 S T) (a j : Nat) : gI T a j = gI S a j := by unfold gI; rw [u.1]
theorem U158_p {S T : Mm} (u : U158 S T) : pl T = pl S := by unfold pl; rw [u.2]
theorem ten_sub {m : Nat} (h : m ≤ 10) : (10 : Int32) - nI m = nI (10 - m) := by
  have h1 : ((List.range 11).all fun m => decide ((10 : Int32) - nI m = nI (10 - m))) = true := by decide
  exact of_decide_eq_true (List.all_eq_true.mp h1 m (List.mem_range.mpr (by omega)))
theorem div10 {u : Nat} (h : 10 * u < 2 ^ 63) : lN (10 * u) / 10 = lN u := by
  have := pk_lDiv (a := 10 * u) (b := 10) h (by omega) (by omega)
  rw [Nat.mul_div_cancel_left u (by omega)] at this
  exact this
theorem work_c {T : Mm} {i sc f u d c : Nat} (hi : i < 5) (hsc : sc ≤ 99) (hf : f ≤ 9) (hu : 10 * u < 2 ^ 63) (e0 : gJ T 158 0 = lN (10 * u)) (e1 : gJ T 158 1 = lN d) (e2 : gJ T 158 2 = lN c) : ∃ E, f_X0_work T (nI i) (nI sc) (nI f) = some ((), E) ∧ U158 T E ∧ gJ E 158 0 = lN (10 * u - u * f) ∧ gJ E 158 1 = lN (d + u * f) ∧ gJ E 158 2 = lN (c + (10 * u + d) * sc) ∧ gJ E 160 i = lN (u * f) ∧ ∀ a j, a ≠ 158 → ¬ (a = 160 ∧ j = i) → gJ E a j = gJ T a j := by
  have hle : u * f ≤ 10 * u := by rw [Nat.mul_comm 10 u]; exact Nat.mul_le_mul_left u (by omega)
  unfold f_X0_work
  rw [nm_ok, e0, e1, e2, nI_l (by omega), lN_add, lN_mul, lN_add, bnd_ok (inB_nI hi (by decide)), nI_clamp (by omega), nm_ok]
  generalize hA : sJ T 158 2 (lN (c + (10 * u + d) * sc)) = A
  have a0 : gJ A 158 0 = lN (10 * u) := by rw [← hA, gJ_sJ, if_neg (by omega)]; exact e0
  have a1 : gJ A 158 1 = lN d := by rw [← hA, gJ_sJ, if_neg (by omega)]; exact e1
  have a2 : gJ A 158 2 = lN (c + (10 * u + d) * sc) := by rw [← hA, gJ_sJ, if_pos ⟨rfl, rfl⟩]
  have ar : ∀ a j, a ≠ 158 → gJ A a j = gJ T a j := fun a j h => by rw [← hA, gJ_sJ, if_neg (by omega)]
  have au : U158 T A := by rw [← hA]; exact ⟨rfl, rfl⟩
  rw [a0, div10 hu, nI_l (by omega), lN_mul, bnd_ok (inB_nI hi (by decide)), nm_ok]
  generalize hB : sJ A 160 i (lN (u * f)) = B
  have b0 : gJ B 158 0 = lN (10 * u) := by rw [← hB, gJ_sJ, if_neg (by omega)]; exact a0
  have b1 : gJ B 158 1 = lN d := by rw [← hB, gJ_sJ, if_neg (by omega)]; exact a1
  have b2 : gJ B 158 2 = lN (c + (10 * u + d) * sc) := by rw [← hB, gJ_sJ, if_neg (by omega)]; exact a2
  have b6 : gJ B 160 i = lN (u * f) := by rw [← hB, gJ_sJ, if_pos ⟨rfl, rfl⟩]
  have br : ∀ a j, a ≠ 158 → ¬ (a = 160 ∧ j = i) → gJ B a j = gJ T a j := fun a j h h2 => by rw [← hB, gJ_sJ, if_neg h2]; exact ar a j h
  have bu : U158 T B := by rw [← hB]; exact au
  rw [b0, b6, lN_sub hle, bnd_ok (inB_nI hi (by decide)), nm_ok]
  generalize hC : sJ B 158 0 (lN (10 * u - u * f)) = C
  have c0 : gJ C 158 0 = lN (10 * u - u * f) := by rw [← hC, gJ_sJ, if_pos ⟨rfl, rfl⟩]
  have c1 : gJ C 158 1 = lN d := by rw [← hC, gJ_sJ, if_neg (by omega)]; exact b1
  have c2 : gJ C 158 2 = lN (c + (10 * u + d) * sc) := by rw [← hC, gJ_sJ, if_neg (by omega)]; exact b2
  have c6 : gJ C 160 i = lN (u * f) := by rw [← hC, gJ_sJ, if_neg (by omega)]; exact b6
  rw [c1, c6, lN_add]
  refine ⟨_, rfl, ?_, ?_, ?_, ?_, ?_, fun a j h h2 => ?_⟩
  · rw [← hC]; exact bu
  · rw [gJ_sJ, if_neg (by omega)]; exact c0
  · rw [gJ_sJ, if_pos ⟨rfl, rfl⟩]
  · rw [gJ_sJ, if_neg (by omega)]; exact c2
  · rw [gJ_sJ, if_neg (by omega)]; exact c6
  · rw [gJ_sJ, if_neg (by omega), ← hC, gJ_sJ, if_neg (by omega)]; exact br a j h h2
theorem look_c {T : Mm} {i lk ms u g c : Nat} (hi : i < 5) (hlk : lk ≤ 30) (hm : ms ≤ 9) (hu : 10 * u < 2 ^ 63) (e0 : gJ T 158 0 = lN g) (e1 : gJ T 158 1 = lN (10 * u)) (e2 : gJ T 158 2 = lN c) : ∃ E, f_X0_lookBehind T (nI i) (nI lk) (nI ms) = some ((), E) ∧ U158 T E ∧ gJ E 158 0 = lN g ∧ gJ E 158 1 = lN (u * ms) ∧ gJ E 158 2 = lN (c + (g + 10 * u) * lk) ∧ gJ E 159 i = lN (u * (10 - ms)) ∧ ∀ a j, a ≠ 158 → ¬ (a = 159 ∧ j = i) → gJ E a j = gJ T a j := by
  have hle : u * (10 - ms) ≤ 10 * u := by rw [Nat.mul_comm 10 u]; exact Nat.mul_le_mul_left u (by omega)
  have heq : 10 * u - u * (10 - ms) = u * ms := by
    rw [Nat.mul_comm 10 u, ← Nat.mul_sub, show 10 - (10 - ms) = ms by omega]
  unfold f_X0_lookBehind
  rw [nm_ok, e0, e1, e2, nI_l (by omega), lN_add, lN_mul, lN_add, bnd_ok (inB_nI hi (by decide)), nI_clamp (by omega), nm_ok]
  generalize hA : sJ T 158 2 (lN (c + (g + 10 * u) * lk)) = A
  have a0 : gJ A 158 0 = lN g := by rw [← hA, gJ_sJ, if_neg (by omega)]; exact e0
  have a1 : gJ A 158 1 = lN (10 * u) := by rw [← hA, gJ_sJ, if_neg (by omega)]; exact e1
  have a2 : gJ A 158 2 = lN (c + (g + 10 * u) * lk) := by rw [← hA, gJ_sJ, if_pos ⟨rfl, rfl⟩]
  have ar : ∀ a j, a ≠ 158 → gJ A a j = gJ T a j := fun a j h => by rw [← hA, gJ_sJ, if_neg (by omega)]
  have au : U158 T A := by rw [← hA]; exact ⟨rfl, rfl⟩
  rw [a1, div10 hu, ten_sub (by omega), nI_l (by omega), lN_mul, bnd_ok (inB_nI hi (by decide)), nm_ok]
  generalize hB : sJ A 159 i (lN (u * (10 - ms))) = B
  have b0 : gJ B 158 0 = lN g := by rw [← hB, gJ_sJ, if_neg (by omega)]; exact a0
  have b1 : gJ B 158 1 = lN (10 * u) := by rw [← hB, gJ_sJ, if_neg (by omega)]; exact a1
  have b2 : gJ B 158 2 = lN (c + (g + 10 * u) * lk) := by rw [← hB, gJ_sJ, if_neg (by omega)]; exact a2
  have b6 : gJ B 159 i = lN (u * (10 - ms)) := by rw [← hB, gJ_sJ, if_pos ⟨rfl, rfl⟩]
  have br : ∀ a j, a ≠ 158 → ¬ (a = 159 ∧ j = i) → gJ B a j = gJ T a j := fun a j h h2 => by rw [← hB, gJ_sJ, if_neg h2]; exact ar a j h
  have bu : U158 T B := by rw [← hB]; exact au
  rw [b1, b6, lN_sub hle, heq]
  refine ⟨_, rfl, ?_, ?_, ?_, ?_, ?_, fun a j h h2 => ?_⟩
  · exact bu
  · rw [gJ_sJ, if_neg (by omega)]; exact b0
  · rw [gJ_sJ, if_pos ⟨rfl, rfl⟩]
  · rw [gJ_sJ, if_neg (by omega)]; exact b2
  · rw [gJ_sJ, if_neg (by omega)]; exact b6
  · rw [gJ_sJ, if_neg (by omega)]; exact br a j h h2

/-! arithmetic of one step, q the scale after it -/
theorem ar_c1 (g d k sc q : Nat) : k * (100 * q) + (10 * (g * (10 * q)) + d * (100 * q)) * sc = 100 * (k + (g + d) * sc) * q := by grind
theorem ar_g (g f q : Nat) (h : f ≤ 9) : 10 * (g * (10 * q)) - g * (10 * q) * f = 10 * (g * (10 - f)) * q := by
  obtain ⟨e, he⟩ : ∃ e, 10 = f + e := ⟨10 - f, by omega⟩
  have h1 : 10 * (g * (10 * q)) = g * (10 * q) * f + 10 * (g * e) * q := by
    have : 10 * (g * (10 * q)) = (f + e) * (g * (10 * q)) := by rw [← he]
    rw [this]
    grind
  rw [h1, Nat.add_sub_cancel_left, show 10 - f = e by omega]
theorem ar_d (g d f q : Nat) : d * (100 * q) + g * (10 * q) * f = 10 * ((10 * d + g * f) * q) := by grind
theorem ar_sum (g d f q : Nat) (h : f ≤ 9) : 10 * (g * (10 - f)) * q + 10 * ((10 * d + g * f) * q) = 100 * (g + d) * q := by
  obtain ⟨e, he⟩ : ∃ e, 10 = f + e := ⟨10 - f, by omega⟩
  rw [show 10 - f = e by omega]
  have h1 : 100 * (g + d) * q = 10 * ((f + e) * g + 10 * d) * q := by rw [← he]; grind
  rw [h1]
  grind
theorem ar_c2 (g d k sc lk q : Nat) : 100 * (k + (g + d) * sc) * q + 100 * (g + d) * q * lk = 100 * (k + (g + d) * (sc + lk)) * q := by grind
def FC (f sc lk ms : Nat → Nat) (lo : Nat → Bool) (T : Mm) (i : Nat) : Prop := gJ T 158 0 = lN ((fl f sc lk ms lo i).1 * 100 ^ (5 - i)) ∧ gJ T 158 1 = lN ((fl f sc lk ms lo i).2.1 * 100 ^ (5 - i)) ∧ gJ T 158 2 = lN ((fl f sc lk ms lo i).2.2 * 100 ^ (5 - i))
/-- the class' work at place i: then no look, or a look -/
theorem work_c2 {f sc lk ms : Nat → Nat} {lo : Nat → Bool} {n : Nat} (h : ∀ i, i < n → f i ≤ 9 ∧ ms i ≤ 9 ∧ sc i ≤ 99 ∧ lk i ≤ 30) (hn : n ≤ 5) {T : Mm} {i : Nat} (hi : i < n) (c : FC f sc lk ms lo T i) : ∃ E, f_X0_work T (nI i) (nI (sc i)) (nI (f i)) = some ((), E) ∧ U158 T E ∧ gJ E 160 i = lN ((fl f sc lk ms lo i).1 * f i * 10 * 100 ^ (5 - (i + 1))) ∧ (∀ a j, a ≠ 158 → ¬ (a = 160 ∧ j = i) → gJ E a j = gJ T a j) ∧ gJ E 158 1 = lN (10 * ((10 * (fl f sc lk ms lo i).2.1 + (fl f sc lk ms lo i).1 * f i) * 100 ^ (5 - (i + 1)))) ∧ (lo i = false → FC f sc lk ms lo E (i + 1)) ∧
    (lo i = true → ∀ A, (∀ j, gJ A 158 j = gJ E 158 j) → ∃ E', f_X0_lookBehind A (nI i) (nI (lk i)) (nI (ms i)) = some ((), E') ∧ U158 A E' ∧ FC f sc lk ms lo E' (i + 1) ∧ gJ E' 159 i = lN (fls f sc lk ms lo i * 100 ^ (5 - (i + 1))) ∧ ∀ a j, a ≠ 158 → ¬ (a = 159 ∧ j = i) → gJ E' a j = gJ A a j) := by
  obtain ⟨h1, h2, h3, h4⟩ := h i hi
  obtain ⟨b1, b2⟩ := fl_bd (lo := lo) h i (by omega)
  obtain ⟨c0, c1, c2⟩ := c
  have hK := K_step (show i < 5 by omega)
  have hq : 0 < 100 ^ (5 - (i + 1)) := Nat.pow_pos (by omega)
  have m1 := K_mul (show i ≤ 5 by omega) (show (fl f sc lk ms lo i).1 ≤ 100 ^ i by omega)
  have m2 := K_mul (show i ≤ 5 by omega) (show (fl f sc lk ms lo i).2.1 ≤ 100 ^ i by omega)
  rw [hK] at c0 c1 c2 m1 m2
  unfold FC fls
  rw [show fl f sc lk ms lo (i + 1) = (10 * ((fl f sc lk ms lo i).1 * (10 - f i)), (10 * (fl f sc lk ms lo i).2.1 + (fl f sc lk ms lo i).1 * f i) * (if lo i = true then ms i else 10), 100 * ((fl f sc lk ms lo i).2.2 + ((fl f sc lk ms lo i).1 + (fl f sc lk ms lo i).2.1) * (sc i + if lo i = true then lk i else 0))) from rfl]
  generalize fl f sc lk ms lo i = p at c0 c1 c2 m1 m2 b1 b2 ⊢
  obtain ⟨g, d, k⟩ := p
  dsimp only at c0 c1 c2 m1 m2 b1 b2 ⊢
  generalize 100 ^ (5 - (i + 1)) = q at c0 c1 c2 m1 m2 hq ⊢
  have e0 : gJ T 158 0 = lN (10 * (g * (10 * q))) := by rw [c0]; exact congrArg lN (by grind)
  have z1 : 10 * (g * (10 * q)) = g * (100 * q) := by grind
  obtain ⟨E, w1, w2, w3, w4, w5, w6, w7⟩ := work_c (show i < 5 by omega) h3 h1 (show 10 * (g * (10 * q)) < 2 ^ 63 by omega) e0 c1 c2
  rw [ar_c1] at w5
  rw [ar_g g (f i) q h1] at w3
  rw [ar_d] at w4
  refine ⟨E, w1, w2, by rw [w6]; exact congrArg lN (by grind), w7, w4, fun hl => ?_, fun hl A hA => ?_⟩
  · rw [hl, if_neg (by decide), if_neg (by decide), Nat.add_zero]
    exact ⟨w3, by rw [w4]; exact congrArg lN (by grind), w5⟩
  · rw [hl, if_pos rfl, if_pos rfl, if_pos rfl]
    have z2 : 10 * ((10 * d + g * f i) * q) ≤ 10000000000 + 10000000000 := by
      have t1 : g * f i ≤ g * 10 := Nat.mul_le_mul_left g (by omega)
      have t2 : (10 * d + g * f i) * q ≤ (10 * d + g * 10) * q := Nat.mul_le_mul_right q (by omega)
      have t3 : 10 * ((10 * d + g * 10) * q) = d * (100 * q) + g * (100 * q) := by grind
      omega
    obtain ⟨E', l1, l2, l3, l4, l5, l6, l7⟩ := look_c (T := A) (show i < 5 by omega) h4 h2 (show 10 * ((10 * d + g * f i) * q) < 2 ^ 63 by omega) ((hA 0).trans w3) ((hA 1).trans w4) ((hA 2).trans w5)
    rw [ar_sum g d (f i) q h1, ar_c2] at l5
    exact ⟨E', l1, l2, ⟨l3, by rw [l4]; exact congrArg lN (by grind), l5⟩, by rw [l6]; exact congrArg lN (by grind), l7⟩
