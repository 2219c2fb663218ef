def inn (a : Nat) (L : Nat → Nat) : Nat → Bool
  | 0 => true
  | j + 1 => inn a L j && decide (a / 2 ^ (L j) % 2 = 0)
def otl (ah L : Nat → Nat) : Nat → Bool
  | 0 => true
  | i + 1 => otl ah L i && inn (ah (L i)) L i
def gth (L : Nat → Nat) : Nat → Nat
  | 0 => 0
  | i + 1 => gth L i ||| 2 ^ (L i)
theorem fin3 {a g s : Nat} (ha : a < 32) (hg : g < 32) (hs : s < 5) : (a &&& (g ||| 2 ^ s) = 0 ↔ (a &&& g = 0 ∧ a / 2 ^ s % 2 = 0)) ∧ (g ||| 2 ^ s) < 32 := by
  have h : ((List.range 32).all fun a => (List.range 32).all fun g => (List.range 5).all fun s => decide ((a &&& (g ||| 2 ^ s) = 0 ↔ (a &&& g = 0 ∧ a / 2 ^ s % 2 = 0)) ∧ (g ||| 2 ^ s) < 32)) = true := by decide +kernel
  have h1 := List.all_eq_true.mp h a (List.mem_range.mpr ha)
  have h2 := List.all_eq_true.mp h1 g (List.mem_range.mpr hg)
  exact of_decide_eq_true (List.all_eq_true.mp h2 s (List.mem_range.mpr hs))
theorem fin2 {a g : Nat} (ha : a < 32) (hg : g < 32) : nI a &&& nI g = 0 ↔ a &&& g = 0 := by
  have h : ((List.range 32).all fun a => (List.range 32).all fun g => decide (nI a &&& nI g = 0 ↔ a &&& g = 0)) = true := by decide +kernel
  have h1 := List.all_eq_true.mp h a (List.mem_range.mpr ha)
  exact of_decide_eq_true (List.all_eq_true.mp h1 g (List.mem_range.mpr hg))
theorem fin2o {g s : Nat} (hg : g < 32) (hs : s < 5) : nI g ||| ((1 : Int32) <<< (nI s &&& 31)) = nI (g ||| 2 ^ s) := by
  have h : ((List.range 32).all fun g => (List.range 5).all fun s => decide (nI g ||| ((1 : Int32) <<< (nI s &&& 31)) = nI (g ||| 2 ^ s))) = true := by decide +kernel
  have h1 := List.all_eq_true.mp h g (List.mem_range.mpr hg)
  exact of_decide_eq_true (List.all_eq_true.mp h1 s (List.mem_range.mpr hs))
theorem gth_lt {L : Nat → Nat} {n : Nat} (hL : ∀ i, i < n → L i < 5) : ∀ i, i ≤ n → gth L i < 32 := by
  intro i
  induction i with
  | zero => intro _; unfold gth; omega
  | succ i ih => intro hi; unfold gth; exact (fin3 (a := 0) (by omega) (ih (by omega)) (hL i (by omega))).2
theorem gth_inn {L : Nat → Nat} {n a : Nat} (ha : a < 32) (hL : ∀ i, i < n → L i < 5) : ∀ i, i ≤ n → (a &&& gth L i = 0 ↔ inn a L i = true) := by
  intro i
  induction i with
  | zero => intro _; unfold gth inn; simp
  | succ i ih =>
    intro hi
    unfold gth inn
    rw [(fin3 ha (gth_lt hL i (by omega)) (hL i (by omega))).1, ih (by omega)]
    simp
theorem otl_mono {ah L : Nat → Nat} {i : Nat} (h : otl ah L i = false) : ∀ d, otl ah L (i + d) = false := by
  intro d
  induction d with
  | zero => exact h
  | succ d ih => show (otl ah L (i + d) && inn (ah (L (i + d))) L (i + d)) = false; rw [ih, Bool.false_and]
theorem alw_c {T : Mm} {o n : Nat} {ah L : Nat → Nat} (hn : n ≤ 5) (e0 : gI T o 0 = nI n) (el : ∀ i, i < n → gI T 161 i = nI (L i) ∧ L i < n) (ea : ∀ s, s < n → gI T (o + 5) s = nI (ah s) ∧ ah s < 32) : ∀ (r i fu : Nat), i + r = n → r < fu → otl ah L i = true → f_X4_allows_4 o 161 fu (nI (gth L i)) (nI i) T = some (bI (otl ah L n), T) := by
  have hL5 : ∀ i, i < n → L i < 5 := fun i hi => by have := (el i hi).2; omega
  intro r
  induction r with
  | zero =>
    intro i fu hi hf h
    obtain ⟨f', rfl⟩ : ∃ f', fu = f' + 1 := ⟨fu - 1, by omega⟩
    obtain rfl : i = n := by omega
    rw [f_X4_allows_4, e0, if_pos (nI_le (Nat.le_refl _) (by omega)), h]; rfl
  | succ r ih =>
    intro i fu hi hf h
    obtain ⟨f', rfl⟩ : ∃ f', fu = f' + 1 := ⟨fu - 1, by omega⟩
    have hin : i < n := by omega
    obtain ⟨l1, l2⟩ := el i hin
    obtain ⟨a1, a2⟩ := ea (L i) l2
    have hg := gth_lt hL5 i (by omega)
    rw [f_X4_allows_4, e0, if_neg (nI_ge hin (by omega)), LL161, bnd_ok (inB_nI (by omega) (by decide)), nI_clamp (by omega), l1, bnd_ok (inB_nI (by omega) (by decide)), nI_clamp (by omega), a1]
    have q := (fin2 a2 hg).trans (gth_inn a2 hL5 i (by omega))
    by_cases hq : inn (ah (L i)) L i = true
    · rw [if_pos (q.2 hq), bnd_ok (inB_nI (by omega) (by decide)), fin2o hg (by omega), nm_ok, nm_ok, nI_1]
      exact ih (i + 1) f' (by omega) (by omega) (by show (otl ah L i && inn (ah (L i)) L i) = true; rw [h, hq]; rfl)
    · rw [if_neg (fun z => hq (q.1 z))]
      have hf1 : otl ah L (i + 1) = false := by
        show (otl ah L i && inn (ah (L i)) L i) = false
        rw [show inn (ah (L i)) L i = false by simpa using hq, Bool.and_false]
      have := otl_mono hf1 r
      rw [show n = i + 1 + r by omega, this]; rfl
theorem law16 {T : Mm} {n i : Nat} {ah L : Nat → Nat} (hn : n ≤ 5) (hi : i < n) (el : ∀ i, i < n → gI T 174 i = nI (L i) ∧ L i < n) (ea : ∀ s, s < n → gI T 170 s = nI (ah s) ∧ ah s < 32) {kk : Int32 → Int32 → Mm → Option (Int32 × Mm)} {b : Bool} : ∀ (r j fu : Nat), j + r = i → r < fu → f_X7_isLawful_16 kk fu (bI (b && inn (ah (L i)) L j)) (nI i) (nI j) T = kk (bI (b && inn (ah (L i)) L i)) (nI (i + 1)) T := by
  intro r
  induction r with
  | zero =>
    intro j fu hj hf
    obtain ⟨f', rfl⟩ : ∃ f', fu = f' + 1 := ⟨fu - 1, by omega⟩
    obtain rfl : j = i := by omega
    rw [f_X7_isLawful_16, if_pos (nI_le (Nat.le_refl _) (by omega)), nm_ok, nI_1]
  | succ r ih =>
    intro j fu hj hf
    obtain ⟨f', rfl⟩ : ∃ f', fu = f' + 1 := ⟨fu - 1, by omega⟩
    obtain ⟨l1, l2⟩ := el i hi
    obtain ⟨l3, l4⟩ := el j (by omega)
    obtain ⟨a1, a2⟩ := ea (L i) l2
    have ih' := ih (j + 1) f' (by omega) (by omega)
    rw [show inn (ah (L i)) L (j + 1) = (inn (ah (L i)) L j && decide (ah (L i) / 2 ^ (L j) % 2 = 0)) from rfl] at ih'
    rw [f_X7_isLawful_16, if_neg (nI_ge (show j < i by omega) (by omega))]
    cases hb : (b && inn (ah (L i)) L j) with
    | false =>
      rw [if_pos (show bI false = 0 from rfl), nm_ok, nI_1]
      rw [← Bool.and_assoc, hb, Bool.false_and] at ih'
      exact ih'
    | true =>
      rw [if_neg (show ¬ bI true = 0 by decide), bnd_ok (inB_nI (by omega) (by decide)), nI_clamp (by omega), l1, bnd_ok (inB_nI (by omega) (by decide)), bnd_ok (inB_nI (by omega) (by decide)), nI_clamp (by omega), nI_clamp (by omega), l3, a1, bit_ok a2 (by omega)]
      rw [← Bool.and_assoc, hb, Bool.true_and] at ih'
      have q : nI (ah (L i) / 2 ^ (L j) % 2) = 0 ↔ ah (L i) / 2 ^ (L j) % 2 = 0 := by rw [show (0 : Int32) = nI 0 from rfl, nI_eq (by omega) (by omega)]
      by_cases hz : ah (L i) / 2 ^ (L j) % 2 = 0
      · rw [if_pos (q.2 hz), nm_ok, nI_1]
        rw [decide_eq_true hz] at ih'
        exact ih'
      · rw [if_neg (fun z => hz (q.1 z)), nm_ok, nI_1]
        rw [decide_eq_false hz] at ih'
        exact ih'
theorem law4 {T : Mm} {n : Nat} {ah L : Nat → Nat} (hn : n ≤ 5) (e0 : gI T 165 0 = nI n) (el : ∀ i, i < n → gI T 174 i = nI (L i) ∧ L i < n) (ea : ∀ s, s < n → gI T 170 s = nI (ah s) ∧ ah s < 32) : ∀ (r i fu : Nat), i + r = n → r < fu → f_X7_isLawful_4 fu (bI (otl ah L i)) (nI i) T = some (bI (otl ah L n), T) := by
  intro r
  induction r with
  | zero =>
    intro i fu hi hf
    obtain ⟨f', rfl⟩ : ∃ f', fu = f' + 1 := ⟨fu - 1, by omega⟩
    obtain rfl : i = n := by omega
    rw [f_X7_isLawful_4, bnd_ok (by decide), cl0, e0, if_pos (nI_le (Nat.le_refl _) (by omega)), bnd_ok (by cases otl ah L i <;> decide)]
  | succ r ih =>
    intro i fu hi hf
    obtain ⟨f', rfl⟩ : ∃ f', fu = f' + 1 := ⟨fu - 1, by omega⟩
    have hin : i < n := by omega
    rw [f_X7_isLawful_4, bnd_ok (by decide), cl0, e0, if_neg (nI_ge hin (by omega))]
    have h := law16 (T := T) (ah := ah) (L := L) hn hin el ea (kk := f_X7_isLawful_4 f') (b := otl ah L i) i 0 400 (by omega) (by omega)
    rw [show inn (ah (L i)) L 0 = true from rfl, Bool.and_true] at h
    exact h.trans (ih (i + 1) f' (by omega) (by omega))
theorem lawf_m {T : Mm} {n : Nat} {ah L : Nat → Nat} (hn : n ≤ 5) (e0 : gI T 165 0 = nI n) (el : ∀ i, i < n → gI T 174 i = nI (L i) ∧ L i < n) (ea : ∀ s, s < n → gI T 170 s = nI (ah s) ∧ ah s < 32) : f_X7_isLawful T = some (bI (otl ah L n), T) := law4 hn e0 el ea n 0 400 (by omega) (by omega)
theorem lawf_c {T : Mm} {o n : Nat} {ah L : Nat → Nat} (hn : n ≤ 5) (e0 : gI T o 0 = nI n) (el : ∀ i, i < n → gI T 161 i = nI (L i) ∧ L i < n) (ea : ∀ s, s < n → gI T (o + 5) s = nI (ah s) ∧ ah s < 32) : f_X4_allows T o 161 = some (bI (otl ah L n), T) := alw_c hn e0 el ea n 0 400 (by omega) (by omega) rfl
/-- the first row of all is lawful -/
theorem otl_id {ah : Nat → Nat} {n : Nat} (h : ∀ s, s < n → ∀ j, j ≤ s → (ah s).testBit j = false) : ∀ i, i ≤ n → otl ah (fun i => i) i = true := by
  have hin : ∀ s, s < n → ∀ j, j ≤ s → inn (ah s) (fun i => i) j = true := by
    intro s hs j
    induction j with
    | zero => intro _; rfl
    | succ j ih =>
      intro hj
      show (inn (ah s) (fun i => i) j && decide (ah s / 2 ^ j % 2 = 0)) = true
      have hb := h s hs j (by omega)
      rw [Nat.testBit_eq_decide_div_mod_eq] at hb
      have hb2 := of_decide_eq_false hb
      rw [ih (by omega), decide_eq_true (by omega)]; rfl
  intro i
  induction i with
  | zero => intro _; rfl
  | succ i ih =>
    intro hi
    show (otl ah (fun i => i) i && inn (ah i) (fun i => i) i) = true
    rw [ih (by omega), hin i (by omega) i (Nat.le_refl _)]; rfl
