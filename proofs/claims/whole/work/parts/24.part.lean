theorem lc0 {a : Nat} (ha : a < 2 ^ 63) : lg_cmp (lN a) 0 = 0 ↔ a = 0 := by
  rw [lg_cmp_eq, show (0 : Int64) = lN 0 from rfl, pk_lEQ ha (by omega)]
theorem dne {b : Nat} (h0 : 0 < b) (h : b < 2 ^ 63) : decide (¬ lN b = 0) = true := decide_eq_true (show ¬ lN b = 0 from fun q => by have := (pk_lEQ (a := b) (b := 0) h (by omega)).1 q; omega)
theorem mod_half {a b : Nat} (hb : 0 < b) (h : b ≤ a) : 2 * (a % b) ≤ a := by
  have h1 := Nat.mod_lt a hb
  have h2 := Nat.div_add_mod a b
  have h3 : 1 ≤ a / b := Nat.div_pos h hb
  have h4 : b * 1 ≤ b * (a / b) := Nat.mul_le_mul_left b h3
  omega
theorem gcd_step {a b : Nat} : Nat.gcd b (a % b) = Nat.gcd a b := by
  rw [Nat.gcd_comm a b, Nat.gcd_rec b a, Nat.gcd_comm]
theorem euc_c {S : Mm} : ∀ (m a b i fu : Nat), b ≤ a → a < 2 ^ 62 → a * b < 2 ^ m → i + m ≤ 100 → 101 - i < fu → f_X6_commonDivisor_9 fu (lN a) (lN b) (nI i) S = some (lN (Nat.gcd a b), S) := by
  intro m
  induction m with
  | zero =>
    intro a b i fu h1 h2 h3 h4 h5
    obtain ⟨f', rfl⟩ : ∃ f', fu = f' + 1 := ⟨fu - 1, by omega⟩
    have hb : b = 0 := by
      rcases Nat.eq_zero_or_pos b with e | e
      · exact e
      · have : 1 * 1 ≤ a * b := Nat.mul_le_mul (by omega) e
        omega
    rw [f_X6_commonDivisor_9, hb, Nat.gcd_zero_right]
    split
    · rfl
    · rw [if_pos ((lc0 (by omega)).2 rfl)]
  | succ m ih =>
    intro a b i fu h1 h2 h3 h4 h5
    obtain ⟨f', rfl⟩ : ∃ f', fu = f' + 1 := ⟨fu - 1, by omega⟩
    rw [f_X6_commonDivisor_9, if_neg (show ¬ 100 ≤ nI i from nI_ge (b := 100) (by omega) (by decide))]
    by_cases hb : b = 0
    · rw [if_pos ((lc0 (by omega)).2 hb), hb, Nat.gcd_zero_right]
    · have hb0 : 0 < b := by omega
      rw [if_neg (fun q => hb ((lc0 (by omega)).1 q)), bnd_ok (dne hb0 (by omega)), pk_lRem (by omega) hb0 (by omega), nm_ok, nm_ok, nI_1]
      have hm := Nat.mod_lt a hb0
      have h6 : 2 * (b * (a % b)) ≤ a * b := by
        have := Nat.mul_le_mul_left b (mod_half hb0 h1)
        rw [Nat.mul_comm b a] at this
        rw [← Nat.mul_assoc, Nat.mul_comm 2 b, Nat.mul_assoc]
        exact this
      rw [ih b (a % b) (i + 1) f' (by omega) (by omega) (by rw [Nat.pow_succ] at h3; omega) (by omega) (by omega), gcd_step]
theorem cdv_ok {S : Mm} {a b : Nat} (ha : a < 2 ^ 43) (hb : b < 2 ^ 43) : f_X6_commonDivisor S (lN a) (lN b) = some (lN (Nat.gcd a b), S) := by
  unfold f_X6_commonDivisor
  have hp : a * b < 2 ^ 86 := by
    have h1 : a * b ≤ a * 2 ^ 43 := Nat.mul_le_mul_left a (by omega)
    have h2 : a * 2 ^ 43 < 2 ^ 43 * 2 ^ 43 := Nat.mul_lt_mul_of_pos_right ha (by decide)
    have h3 : (2 : Nat) ^ 43 * 2 ^ 43 = 2 ^ 86 := by decide
    omega
  by_cases h : b ≤ a
  · exact euc_c 86 a b 0 400 h (by omega) hp (by omega) (by omega)
  · have hb0 : 0 < b := by omega
    rw [show (400 : Nat) = 399 + 1 from rfl, f_X6_commonDivisor_9, if_neg (by decide), if_neg (fun q => by have := (lc0 (a := b) (by omega)).1 q; omega), bnd_ok (dne hb0 (by omega)), pk_lRem (by omega) hb0 (by omega), nm_ok, nm_ok]
    rw [show (0 : Int32) + 1 = nI 1 from rfl, Nat.mod_eq_of_lt (show a < b by omega), euc_c 86 b a 1 399 (by omega) (by omega) (by rw [Nat.mul_comm]; exact hp) (by omega) (by omega), Nat.gcd_comm]
def fr (a b : Nat) (x : Int32) : Int64 := if x = 0 then lN (a / Nat.gcd a b) else lN (b / Nat.gcd a b)
theorem part_c {S : Mm} {a b : Nat} {x : Int32} (ha : a < 2 ^ 43) (hb : b < 2 ^ 43) : f_X6_part S (lN a) (lN b) x = some (if b = 0 then -9 else fr a b x, S) := by
  unfold f_X6_part
  rw [cdv_ok ha hb, bd_ok]
  by_cases h : b = 0
  · rw [if_pos ((lc0 (by omega)).2 h), if_pos h]
  · have hg : 0 < Nat.gcd a b := Nat.gcd_pos_of_pos_right a (by omega)
    have hg2 : Nat.gcd a b ≤ b := Nat.le_of_dvd (by omega) (Nat.gcd_dvd_right a b)
    rw [if_neg (fun q => h ((lc0 (by omega)).1 q)), if_neg h, if_neg (fun q => by have := (lc0 (a := Nat.gcd a b) (by omega)).1 q; omega)]
    unfold fr
    have hne : decide (¬ lN (Nat.gcd a b) = 0) = true := decide_eq_true (fun q => by have := (pk_lEQ (a := Nat.gcd a b) (b := 0) (by omega) (by omega)).1 q; omega)
    by_cases hx : x = 0
    · rw [if_pos hx, if_pos hx, bnd_ok hne, pk_lDiv (by omega) hg (by omega)]
    · rw [if_neg hx, if_neg hx, bnd_ok hne, pk_lDiv (by omega) hg (by omega)]
theorem euc_m {S : Mm} {A B : Nat} {x : Int32} (hA : A < 2 ^ 43) (hB : B < 2 ^ 43) (hB0 : 0 < B) : ∀ (m a b fu : Nat), b ≤ a → 0 < a → a < 2 ^ 43 → a * b < 2 ^ m → Nat.gcd a b = Nat.gcd A B → m + 1 ≤ fu → f_X7_part_6 fu (lN A) (lN B) x (lN a) (lN b) S = some (fr A B x, S) := by
  intro m
  induction m with
  | zero =>
    intro a b fu h1 h0 h2 h3 h4 h5
    obtain ⟨f', rfl⟩ : ∃ f', fu = f' + 1 := ⟨fu - 1, by omega⟩
    have hb : b = 0 := by
      rcases Nat.eq_zero_or_pos b with e | e
      · exact e
      · have : 1 * 1 ≤ a * b := Nat.mul_le_mul (by omega) e
        omega
    rw [hb, Nat.gcd_zero_right] at h4
    rw [f_X7_part_6, hb, if_pos ((lc0 (by omega)).2 rfl)]
    unfold fr
    have hne : decide (¬ lN a = 0) = true := decide_eq_true (fun q => by have := (pk_lEQ (a := a) (b := 0) (by omega) (by omega)).1 q; omega)
    rw [← h4]
    by_cases hx : x = 0
    · rw [if_pos hx, if_pos hx, bnd_ok hne, pk_lDiv (by omega) h0 (by omega)]
    · rw [if_neg hx, if_neg hx, bnd_ok hne, pk_lDiv (by omega) h0 (by omega)]
  | succ m ih =>
    intro a b fu h1 h0 h2 h3 h4 h5
    by_cases hb : b = 0
    · exact ih a b fu h1 h0 h2 (by rw [hb, Nat.mul_zero]; exact Nat.two_pow_pos m) h4 (by omega)
    · obtain ⟨f', rfl⟩ : ∃ f', fu = f' + 1 := ⟨fu - 1, by omega⟩
      have hb0 : 0 < b := by omega
      rw [f_X7_part_6, if_neg (fun q => hb ((lc0 (by omega)).1 q)), bnd_ok (dne hb0 (by omega)), pk_lRem (by omega) hb0 (by omega), nm_ok]
      have hm := Nat.mod_lt a hb0
      have h6 : 2 * (b * (a % b)) ≤ a * b := by
        have := Nat.mul_le_mul_left b (mod_half hb0 h1)
        rw [Nat.mul_comm b a] at this
        rw [← Nat.mul_assoc, Nat.mul_comm 2 b, Nat.mul_assoc]
        exact this
      exact ih b (a % b) f' (by omega) hb0 (by omega) (by rw [Nat.pow_succ] at h3; omega) (by rw [gcd_step]; exact h4) (by omega)
theorem part_m {S : Mm} {a b : Nat} {x : Int32} (ha : a < 2 ^ 43) (hb : b < 2 ^ 43) (hb0 : 0 < b) : f_X7_part S (lN a) (lN b) x = some (fr a b x, S) := by
  unfold f_X7_part
  have hp : a * b < 2 ^ 86 := by
    have h1 : a * b ≤ a * 2 ^ 43 := Nat.mul_le_mul_left a (by omega)
    have h2 : a * 2 ^ 43 < 2 ^ 43 * 2 ^ 43 := Nat.mul_lt_mul_of_pos_right ha (by decide)
    have h3 : (2 : Nat) ^ 43 * 2 ^ 43 = 2 ^ 86 := by decide
    omega
  by_cases h : b ≤ a
  · exact euc_m ha hb hb0 86 a b 400 h (by omega) ha hp rfl (by omega)
  · rw [show (400 : Nat) = 399 + 1 from rfl, f_X7_part_6, if_neg (fun q => by have := (lc0 (a := b) (by omega)).1 q; omega), bnd_ok (dne hb0 (by omega)), pk_lRem (by omega) hb0 (by omega), nm_ok, Nat.mod_eq_of_lt (show a < b by omega)]
    exact euc_m ha hb hb0 86 b a 399 (by omega) hb0 hb (by rw [Nat.mul_comm]; exact hp) (Nat.gcd_comm b a) (by omega)
theorem fr_scale {a b k : Nat} {x : Int32} (hk : 0 < k) : fr (a * k) (b * k) x = fr a b x := by
  unfold fr
  rw [Nat.gcd_mul_right, Nat.mul_div_mul_right _ _ hk, Nat.mul_div_mul_right _ _ hk]
/-- the class' part of scaled numbers is the model's part -/
theorem part_c2 {S : Mm} {a b k : Nat} {x : Int32} (hk : 0 < k) (ha : a * k < 2 ^ 43) (hb : b * k < 2 ^ 43) : f_X6_part S (lN (a * k)) (lN (b * k)) x = some (if b = 0 then -9 else fr a b x, S) := by
  rw [part_c ha hb, fr_scale hk]
  by_cases h : b = 0
  · rw [if_pos h, h, Nat.zero_mul, if_pos rfl]
  · rw [if_neg h, if_neg (Nat.pos_iff_ne_zero.mp (Nat.mul_pos (by omega) hk))]
