def bitq (w s : Nat) : Bool := decide (w / 2 ^ s % 2 = 1)
theorem bit_if {α : Type} {w s : Nat} (hw : w < 32) (hs : s < 5) (A B : α) : (if ((nI w) >>> (nI s &&& 31)) &&& 1 = 1 then A else B) = if bitq w s = true then A else B := by
  rw [bit_ok hw hs]
  unfold bitq
  have : nI (w / 2 ^ s % 2) = 1 ↔ w / 2 ^ s % 2 = 1 := by rw [show (1 : Int32) = nI 1 from rfl, nI_eq (by omega) (by omega)]
  by_cases h : w / 2 ^ s % 2 = 1
  · rw [if_pos (this.2 h), if_pos (decide_eq_true h)]
  · rw [if_neg (fun q => h (this.1 q)), if_neg (by simpa using h)]
theorem thr_cl {S : Mm} {n : Nat} {F sec lk ms ah : Nat → Nat} {pr : Nat} {L : Nat → Nat} {a3 : Nat} (hD : ID S) (D : DtC S n F sec lk ms ah pr) (hL : ∀ i, i < n → gI S a3 i = nI (L i) ∧ L i < n) (h3 : LL a3 = 5) {w : Nat} (hw : w < 32) : ∀ (r i fu : Nat) (T : Mm), i + r = n → r < fu → U158 S T → FC (fun i => F (L i)) (fun i => sec (L i)) (fun i => lk (L i)) (fun i => ms (L i)) (fun i => bitq w (L i)) T i → (∀ j, j < i → gJ T 159 j = lN (fls (fun i => F (L i)) (fun i => sec (L i)) (fun i => lk (L i)) (fun i => ms (L i)) (fun i => bitq w (L i)) j * 100 ^ (5 - (j + 1)))) → ∃ E E0, f_X0_through_7 (pl S) 16 a3 fu (nI w) (nI i) T = some ((), sJ E0 158 2 (gJ E0 158 2 + gJ E0 158 1 * lN pr)) ∧ E = sJ E0 158 2 (gJ E0 158 2 + gJ E0 158 1 * lN pr) ∧ U158 S E0 ∧ FC (fun i => F (L i)) (fun i => sec (L i)) (fun i => lk (L i)) (fun i => ms (L i)) (fun i => bitq w (L i)) E0 n ∧ (∀ j, j < n → gJ E0 159 j = lN (fls (fun i => F (L i)) (fun i => sec (L i)) (fun i => lk (L i)) (fun i => ms (L i)) (fun i => bitq w (L i)) j * 100 ^ (5 - (j + 1)))) := by
  obtain ⟨hn, d1, d3, d4, d2⟩ := D
  have hb : ∀ i, i < n → (fun i => F (L i)) i ≤ 9 ∧ (fun i => ms (L i)) i ≤ 9 ∧ (fun i => sec (L i)) i ≤ 99 ∧ (fun i => lk (L i)) i ≤ 30 := fun i hi => by
    obtain ⟨-, y1, -, y2, -, y3, -, y4, -⟩ := d2 (L i) (hL i hi).2
    exact ⟨y1, y4, y2, y3⟩
  intro r
  induction r with
  | zero =>
    intro i fu T hi hf u c l
    obtain ⟨f', rfl⟩ : ∃ f', fu = f' + 1 := ⟨fu - 1, by omega⟩
    obtain rfl : i = n := by omega
    refine ⟨_, T, ?_, rfl, u, c, l⟩
    rw [f_X0_through_7, U158_g u, d1, if_pos (nI_le (Nat.le_refl _) (by omega)), nm_ok, U158_g u, d3, nI_l (by omega)]
  | succ r ih =>
    intro i fu T hi hf u c l
    obtain ⟨f', rfl⟩ : ∃ f', fu = f' + 1 := ⟨fu - 1, by omega⟩
    have hin : i < n := by omega
    obtain ⟨l1, l2⟩ := hL i hin
    obtain ⟨g1, -, g3, -, g4, -, g5, -⟩ := d2 (L i) l2
    obtain ⟨E, w1, w2, w3, w4, w5, w6, w7⟩ := work_c2 hb hn hin c
    have uE : U158 S E := ⟨w2.1.trans u.1, w2.2.trans u.2⟩
    rw [f_X0_through_7, U158_g u, d1, if_neg (nI_ge hin (by omega)), h3, bnd_ok (inB_nI (by omega) (by decide)), nI_clamp (by omega), U158_g u, l1, nm_ok, bnd_ok (inB_nI (by omega) (by decide)), bnd_ok (inB_nI (by omega) (by decide)), nI_clamp (by omega), U158_g u, U158_g u, g3, show gI S (16 + 2) (L i) = nI (F (L i)) from g1, w1, bd_ok, bnd_ok (inB_nI (by omega) (by decide)), nm_ok, bit_if hw (by omega)]
    generalize hA : sJ E 159 i 0 = A
    have uA : U158 S A := by rw [← hA]; exact uE
    have A8 : ∀ j, gJ A 158 j = gJ E 158 j := fun j => by rw [← hA, gJ_sJ, if_neg (by omega)]
    have A9 : ∀ j, j < i → gJ A 159 j = gJ T 159 j := fun j hj => by rw [← hA, gJ_sJ, if_neg (by omega)]; exact w4 159 j (by omega) (by omega)
    have A9i : gJ A 159 i = lN 0 := by rw [← hA, gJ_sJ, if_pos ⟨rfl, rfl⟩]; rfl
    by_cases hl : bitq w (L i) = true
    · obtain ⟨E', x1, x2, x3, x4, x5⟩ := w7 hl A A8
      have uE' : U158 S E' := ⟨x2.1.trans uA.1, x2.2.trans uA.2⟩
      rw [if_pos hl, bnd_ok (inB_nI (by omega) (by decide)), bnd_ok (inB_nI (by omega) (by decide)), U158_g uA, U158_g uA, g4, g5, x1, bd_ok, nm_ok, nI_1]
      refine ih (i + 1) f' E' (by omega) (by omega) uE' x3 (fun j hj => ?_)
      by_cases hj2 : j = i
      · rw [hj2]; exact x4
      · rw [x5 159 j (by omega) (by omega), A9 j (by omega)]; exact l j (by omega)
    · rw [if_neg hl, nm_ok, nI_1]
      have hl2 : bitq w (L i) = false := by simpa using hl
      have cA := w6 hl2
      refine ih (i + 1) f' A (by omega) (by omega) uA ?_ (fun j hj => ?_)
      · unfold FC
        rw [A8 0, A8 1, A8 2]
        exact cA
      · by_cases hj2 : j = i
        · rw [hj2, A9i]
          unfold fls
          rw [if_neg (show ¬ (fun i => bitq w (L i)) i = true from hl), Nat.zero_mul]
        · rw [A9 j (by omega)]; exact l j (by omega)
theorem fl_0 {f sc lk ms : Nat → Nat} {lo : Nat → Bool} : (10000000000 : Int64) = lN ((fl f sc lk ms lo 0).1 * 100 ^ (5 - 0)) ∧ (0 : Int64) = lN ((fl f sc lk ms lo 0).2.1 * 100 ^ (5 - 0)) ∧ (0 : Int64) = lN ((fl f sc lk ms lo 0).2.2 * 100 ^ (5 - 0)) := by
  have e : (100 : Nat) ^ (5 - 0) = 10000000000 := by decide
  refine ⟨?_, ?_, ?_⟩
  · rw [show (fl f sc lk ms lo 0).1 = 1 from rfl, e]; rfl
  · rw [show (fl f sc lk ms lo 0).2.1 = 0 from rfl, Nat.zero_mul]; rfl
  · rw [show (fl f sc lk ms lo 0).2.2 = 0 from rfl, Nat.zero_mul]; rfl
/-- the class' whole flow -/
theorem thr_c {S T : Mm} {n : Nat} {F sec lk ms ah : Nat → Nat} {pr : Nat} {L : Nat → Nat} {a3 : Nat} (hD : ID S) (D : DtC S n F sec lk ms ah pr) (hL : ∀ i, i < n → gI S a3 i = nI (L i) ∧ L i < n) (h3 : LL a3 = 5) {w : Nat} (hw : w < 32) (u : U158 S T) {p : Nat × Nat × Nat} (hp : p = fl (fun i => F (L i)) (fun i => sec (L i)) (fun i => lk (L i)) (fun i => ms (L i)) (fun i => bitq w (L i)) n) : ∃ E, f_X0_through T (pl S) 16 a3 (nI w) = some ((), E) ∧ U158 S E ∧ gJ E 158 0 = lN (p.1 * 100 ^ (5 - n)) ∧ gJ E 158 1 = lN (p.2.1 * 100 ^ (5 - n)) ∧ gJ E 158 2 = lN ((p.2.2 + p.2.1 * pr) * 100 ^ (5 - n)) ∧ ∀ j, j < n → gJ E 159 j = lN (fls (fun i => F (L i)) (fun i => sec (L i)) (fun i => lk (L i)) (fun i => ms (L i)) (fun i => bitq w (L i)) j * 100 ^ (5 - (j + 1))) := by
  unfold f_X0_through f_X0_begin
  rw [nm_ok, nm_ok, nm_ok, bd_ok]
  obtain ⟨E, E0, h1, h2, h3', h4, h5⟩ := thr_cl hD D hL h3 hw n 0 400 (sJ (sJ (sJ T 158 0 10000000000) 158 1 0) 158 2 0) (by omega) (by have := D.1; omega) u ⟨by rw [gJ_sJ, if_neg (by omega), gJ_sJ, if_neg (by omega), gJ_sJ, if_pos ⟨rfl, rfl⟩]; exact fl_0.1, by rw [gJ_sJ, if_neg (by omega), gJ_sJ, if_pos ⟨rfl, rfl⟩]; exact fl_0.2.1, by rw [gJ_sJ, if_pos ⟨rfl, rfl⟩]; exact fl_0.2.2⟩ (fun j hj => by omega)
  obtain ⟨c0, c1, c2⟩ := h4
  rw [← hp] at c0 c1 c2
  refine ⟨E, by rw [h2]; exact h1, by rw [h2]; exact h3', ?_, ?_, ?_, fun j hj => ?_⟩
  · rw [h2, gJ_sJ, if_neg (by omega)]; exact c0
  · rw [h2, gJ_sJ, if_neg (by omega)]; exact c1
  · rw [h2, gJ_sJ, if_pos ⟨rfl, rfl⟩, c1, c2, lN_mul, lN_add]
    exact congrArg lN (by grind)
  · rw [h2, gJ_sJ, if_neg (by omega)]; exact h5 j hj

/-! up to one place -/
theorem thin_c {S : Mm} {i m : Nat} (hi : i < 5) (hm : m ≤ 9) {v : Nat → Nat} (hv : ∀ j, j ≤ i → 10 * v j < 2 ^ 63) : ∀ (r j fu : Nat) (T : Mm), j + r = i + 1 → r < fu → U158 S T → (∀ k, j ≤ k → k ≤ i → gJ T 160 k = lN (10 * v k)) → (∀ k, k < j → gJ T 160 k = lN (v k * m)) → (∀ k, gJ T 158 k = gJ S 158 k) → ∃ E, f_X0_thinShares_2 fu (nI i) (nI m) (nI j) T = some ((), E) ∧ U158 S E ∧ (∀ k, k ≤ i → gJ E 160 k = lN (v k * m)) ∧ ∀ k, gJ E 158 k = gJ S 158 k := by
  intro r
  induction r with
  | zero =>
    intro j fu T hj hf u h1 h2 h3
    obtain ⟨f', rfl⟩ : ∃ f', fu = f' + 1 := ⟨fu - 1, by omega⟩
    rw [f_X0_thinShares_2, if_pos (nI_lt (by omega) (by omega))]
    exact ⟨T, rfl, u, fun k hk => h2 k (by omega), h3⟩
  | succ r ih =>
    intro j fu T hj hf u h1 h2 h3
    obtain ⟨f', rfl⟩ : ∃ f', fu = f' + 1 := ⟨fu - 1, by omega⟩
    rw [f_X0_thinShares_2, if_neg (nI_nlt (by omega) (by omega)), bnd_ok (inB_nI (by omega) (by decide)), bnd_ok (inB_nI (by omega) (by decide)), nI_clamp (by omega), h1 j (by omega) (by omega), div10 (hv j (by omega)), nI_l (by omega), lN_mul, nm_ok, nm_ok, nI_1]
    refine ih (j + 1) f' _ (by omega) (by omega) u (fun k hk1 hk2 => ?_) (fun k hk => ?_) (fun k => ?_)
    · rw [gJ_sJ, if_neg (by omega)]; exact h1 k (by omega) hk2
    · by_cases e : k = j
      · rw [gJ_sJ, if_pos ⟨rfl, e⟩, e]
      · rw [gJ_sJ, if_neg (by omega)]; exact h2 k (by omega)
    · rw [gJ_sJ, if_neg (by omega)]; exact h3 k

theorem ar_m1 (x m q : Nat) : x * (10 * q) * m = x * (10 * m) * q := by grind
theorem ar_m4 (x q : Nat) : x * (100 * q) = 10 * (x * (10 * q)) := by grind
theorem ar_m5 (x q : Nat) : x * 10 * q = 10 * (x * q) := by grind
theorem ar_t3 (x q : Nat) : 10 * (x * 10 * q) = x * (100 * q) := by grind
theorem up_cl {S : Mm} {n : Nat} {F sec lk ms ah : Nat → Nat} {pr : Nat} {L : Nat → Nat} (hD : ID S) (D : DtC S n F sec lk ms ah pr) (hL : LnC S n L) {b p : Nat} (hb32 : b < 32) (hp : p < n) (h16 : gI S 16 3 = nI b) {f sc lk' ms' : Nat → Nat} {lo : Nat → Bool} (ef : f = fun i => F (L i)) (es : sc = fun i => sec (L i)) (el : lk' = fun i => lk (L i)) (em : ms' = fun i => ms (L i)) (eo : lo = fun i => decide (i < p) && bitq b (L i)) : ∀ (r i fu : Nat) (T : Mm), i + r = p + 1 → r < fu → U158 S T → FC f sc lk' ms' lo T i → (∀ j, j < i → gJ T 160 j = lN (fmb f sc lk' ms' lo i j * 100 ^ (5 - i))) → ∃ E, f_X0_upTo_7 (pl S) 16 fu (nI p) (nI i) T = some ((), E) ∧ U158 S E ∧ FC f sc lk' ms' lo E (p + 1) ∧ (∀ j, j < p + 1 → gJ E 160 j = lN (fmb f sc lk' ms' lo (p + 1) j * 100 ^ (5 - (p + 1)))) := by
  obtain ⟨hn, d1, d3, d4, d2⟩ := D
  have hb : ∀ i, i < n → f i ≤ 9 ∧ ms' i ≤ 9 ∧ sc i ≤ 99 ∧ lk' i ≤ 30 := fun i hi => by
    obtain ⟨-, y1, -, y2, -, y3, -, y4, -⟩ := d2 (L i) (hL.2 i hi)
    rw [ef, es, el, em]
    exact ⟨y1, y4, y2, y3⟩
  intro r
  induction r with
  | zero =>
    intro i fu T hi hf u c l
    obtain ⟨f', rfl⟩ : ∃ f', fu = f' + 1 := ⟨fu - 1, by omega⟩
    obtain rfl : i = p + 1 := by omega
    refine ⟨T, ?_, u, c, l⟩
    rw [f_X0_upTo_7, if_pos (nI_lt (by omega) (by omega))]
  | succ r ih =>
    intro i fu T hi hf u c l
    obtain ⟨f', rfl⟩ : ∃ f', fu = f' + 1 := ⟨fu - 1, by omega⟩
    have hin : i < n := by omega
    have l1 := (hL.1 i (by omega)).1
    have l2 := hL.2 i hin
    obtain ⟨g1, -, g3, -, g4, -, g5, -⟩ := d2 (L i) l2
    obtain ⟨E, w1, w2, w3, w4, w5, w6, w7⟩ := work_c2 hb hn hin c
    have es' : sc i = sec (L i) := by rw [es]
    have ef' : f i = F (L i) := by rw [ef]
    have el' : lk' i = lk (L i) := by rw [el]
    have em' : ms' i = ms (L i) := by rw [em]
    rw [es', ef'] at w1
    have uE : U158 S E := ⟨w2.1.trans u.1, w2.2.trans u.2⟩
    have hK := K_step (show i < 5 by omega)
    rw [f_X0_upTo_7, if_neg (nI_nlt (by omega) (by omega)), U158_g u, d1, if_neg (nI_ge hin (by omega)), bnd_ok (inB_nI (by omega) (by decide)), nI_clamp (by omega), U158_g u, show gI S (16 + 1) i = nI (L i) from l1, nm_ok, bnd_ok (inB_nI (by omega) (by decide)), bnd_ok (inB_nI (by omega) (by decide)), nI_clamp (by omega), U158_g u, U158_g u, g3, show gI S (16 + 2) (L i) = nI (F (L i)) from g1, w1, bd_ok]
    have shr : lo i = false → ∀ j, j < i + 1 → gJ E 160 j = lN (fmb f sc lk' ms' lo (i + 1) j * 100 ^ (5 - (i + 1))) := fun hlo j hj => by
      unfold fmb
      rw [hlo]
      by_cases e : j = i
      · rw [if_pos e, if_neg (by decide), e, w3]
      · rw [if_neg e, if_neg (by decide), w4 160 j (by omega) (by omega), l j (by omega), hK]
        exact congrArg lN (Nat.mul_assoc _ _ _).symm
    by_cases hip : i = p
    · have hlo : lo i = false := by rw [eo]; simp [hip]
      rw [if_pos (nI_le (by omega) (by omega)), nm_ok, nI_1]
      exact ih (i + 1) f' E (by omega) (by omega) uE (w6 hlo) (shr hlo)
    · rw [if_neg (nI_ge (show i < p by omega) (by omega)), U158_g uE, h16, bit_if hb32 (by omega)]
      by_cases hl : bitq b (L i) = true
      · have hlo : lo i = true := by rw [eo]; simp [hl]; omega
        obtain ⟨E', x1, x2, x3, x4, x5⟩ := w7 hlo E (fun _ => rfl)
        rw [el', em'] at x1
        have uE' : U158 S E' := ⟨x2.1.trans uE.1, x2.2.trans uE.2⟩
        rw [if_pos hl, bnd_ok (inB_nI (by omega) (by decide)), bnd_ok (inB_nI (by omega) (by decide)), U158_g uE, U158_g uE, g4, g5, x1, bd_ok, bnd_ok (inB_nI (by omega) (by decide)), U158_g uE', g5]
        have hms := (hb i hin).2.1
        have hm160 : ∀ j, gJ E' 160 j = gJ E 160 j := fun j => x5 160 j (by omega) (by omega)
        have bm : ∀ j, fmb f sc lk' ms' lo i j * 100 ^ (5 - i) ≤ 10000000000 := fun j => K_mul (by omega) (fmb_bd (lo := lo) hb j i (by omega))
        have bg : (fl f sc lk' ms' lo i).1 * 100 ^ (5 - i) ≤ 10000000000 := K_mul (by omega) (by have := (fl_bd (lo := lo) hb i (by omega)).1; omega)
        rw [hK] at bm bg
        obtain ⟨E2, t1, t2, t3, t4⟩ := thin_c (S := E') (i := i) (m := ms (L i)) (by omega) (by rw [← em']; exact hms) (v := fun j => if j = i then (fl f sc lk' ms' lo i).1 * f i * 100 ^ (5 - (i + 1)) else fmb f sc lk' ms' lo i j * (10 * 100 ^ (5 - (i + 1)))) (fun j hj => by
          split
          · have t1 : (fl f sc lk' ms' lo i).1 * f i ≤ (fl f sc lk' ms' lo i).1 * 10 := Nat.mul_le_mul_left _ (by have := (hb i hin).1; omega)
            have t2 : (fl f sc lk' ms' lo i).1 * f i * 100 ^ (5 - (i + 1)) ≤ (fl f sc lk' ms' lo i).1 * 10 * 100 ^ (5 - (i + 1)) := Nat.mul_le_mul_right _ t1
            have t3 : 10 * ((fl f sc lk' ms' lo i).1 * 10 * 100 ^ (5 - (i + 1))) = (fl f sc lk' ms' lo i).1 * (100 * 100 ^ (5 - (i + 1))) := ar_t3 _ _
            omega
          · have t3 : 10 * (fmb f sc lk' ms' lo i j * (10 * 100 ^ (5 - (i + 1)))) = fmb f sc lk' ms' lo i j * (100 * 100 ^ (5 - (i + 1))) := (ar_m4 _ _).symm
            have := bm j
            omega) (i + 1) 0 400 E' (by omega) (by omega) ⟨rfl, rfl⟩ (fun k _ hk => by
          rw [hm160]
          by_cases e : k = i
          · rw [if_pos e, e, w3]; exact congrArg lN (ar_m5 _ _)
          · rw [if_neg e, w4 160 k (by omega) (by omega), l k (by omega), hK]; exact congrArg lN (ar_m4 _ _)) (fun k hk => by omega) (fun _ => rfl)
        rw [show f_X0_thinShares E' (nI i) (nI (ms (L i))) = some ((), E2) from t1, bd_ok, nm_ok, nI_1]
        refine ih (i + 1) f' E2 (by omega) (by omega) ⟨t2.1.trans uE'.1, t2.2.trans uE'.2⟩ ?_ (fun j hj => ?_)
        · unfold FC
          rw [t4 0, t4 1, t4 2]
          exact x3
        · rw [t3 j (by omega), show fmb f sc lk' ms' lo (i + 1) j = if j = i then (fl f sc lk' ms' lo i).1 * f i * (if lo i = true then ms' i else 10) else fmb f sc lk' ms' lo i j * (if lo i = true then 10 * ms' i else 100) from rfl]
          rw [hlo, if_pos rfl, if_pos rfl, ← em']
          by_cases e : j = i
          · rw [if_pos e, if_pos e]; exact congrArg lN (Nat.mul_right_comm _ _ _)
          · rw [if_neg e, if_neg e]; exact congrArg lN (ar_m1 _ _ _)
      · have hlo : lo i = false := by rw [eo]; simp [show bitq b (L i) = false by simpa using hl]
        rw [if_neg hl, nm_ok, nI_1]
        exact ih (i + 1) f' E (by omega) (by omega) uE (w6 hlo) (shr hlo)
theorem up_c {S T : Mm} {n : Nat} {F sec lk ms ah : Nat → Nat} {pr : Nat} {L : Nat → Nat} (hD : ID S) (D : DtC S n F sec lk ms ah pr) (hL : LnC S n L) {b p : Nat} (hb32 : b < 32) (hp : p < n) (h16 : gI S 16 3 = nI b) (u : U158 S T) {f sc lk' ms' : Nat → Nat} {lo : Nat → Bool} (ef : f = fun i => F (L i)) (es : sc = fun i => sec (L i)) (el : lk' = fun i => lk (L i)) (em : ms' = fun i => ms (L i)) (eo : lo = fun i => decide (i < p) && bitq b (L i)) : ∃ E, f_X0_upTo T (nI p) (pl S) 16 = some ((), E) ∧ U158 S E ∧ FC f sc lk' ms' lo E (p + 1) ∧ (∀ j, j < p + 1 → gJ E 160 j = lN (fmb f sc lk' ms' lo (p + 1) j * 100 ^ (5 - (p + 1)))) := by
  unfold f_X0_upTo f_X0_begin
  rw [nm_ok, nm_ok, nm_ok, bd_ok]
  exact up_cl hD D hL hb32 hp h16 ef es el em eo (p + 1) 0 400 (sJ (sJ (sJ T 158 0 10000000000) 158 1 0) 158 2 0) (by omega) (by have := D.1; omega) u ⟨by rw [gJ_sJ, if_neg (by omega), gJ_sJ, if_neg (by omega), gJ_sJ, if_pos ⟨rfl, rfl⟩]; exact fl_0.1, by rw [gJ_sJ, if_neg (by omega), gJ_sJ, if_pos ⟨rfl, rfl⟩]; exact fl_0.2.1, by rw [gJ_sJ, if_pos ⟨rfl, rfl⟩]; exact fl_0.2.2⟩ (fun j hj => by omega)
