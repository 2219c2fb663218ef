theorem bit_if0 {α : Type} {w s : Nat} (hw : w < 32) (hs : s < 5) (A B : α) : (if ((nI w) >>> (nI s &&& 31)) &&& 1 = 0 then A else B) = if bitq w s = true then B else A := by
  rw [bit_ok hw hs]
  unfold bitq
  have : nI (w / 2 ^ s % 2) = 0 ↔ w / 2 ^ s % 2 = 0 := by rw [show (0 : Int32) = nI 0 from rfl, nI_eq (by omega) (by omega)]
  by_cases h : w / 2 ^ s % 2 = 1
  · rw [if_neg (fun q => by have := this.1 q; omega), if_pos (decide_eq_true h)]
  · rw [if_pos (this.2 (by omega)), if_neg (by simpa using h)]
theorem bf_ml {S : Mm} {n : Nat} {F sec lk ms ah : Nat → Nat} {pr : Nat} {L : Nat → Nat} (hn : n ≤ 5) (D : DtM S n F sec lk ms ah pr) (hF : ∀ s, s < n → F s ≤ 9 ∧ ms s ≤ 9 ∧ sec s ≤ 99 ∧ lk s ≤ 30) (hL : RwM S n L) {b p : Nat} (hb32 : b < 32) (hp : p < n) (h10 : gI S 172 10 = nI b) : ∀ (r i fu : Nat) (M : Mm), i + r = p + 1 → r < fu → FM (fun i => F (L i)) (fun i => sec (L i)) (fun i => lk (L i)) (fun i => ms (L i)) (fun i => decide (i < p) && bitq b (L i)) S M i → ∃ E, f_X7_blameFor_10 fu (nI p) (nI i) M = some ((), E) ∧ FM (fun i => F (L i)) (fun i => sec (L i)) (fun i => lk (L i)) (fun i => ms (L i)) (fun i => decide (i < p) && bitq b (L i)) S E (p + 1) := by
  obtain ⟨d1, dp, d2⟩ := D
  have hb : ∀ i, i < n → (fun i => F (L i)) i ≤ 9 ∧ (fun i => ms (L i)) i ≤ 9 ∧ (fun i => sec (L i)) i ≤ 99 ∧ (fun i => lk (L i)) i ≤ 30 := fun i hi => hF (L i) (hL i hi).2
  intro r
  induction r with
  | zero =>
    intro i fu M hi hf h
    obtain ⟨f', rfl⟩ : ∃ f', fu = f' + 1 := ⟨fu - 1, by omega⟩
    obtain rfl : i = p + 1 := by omega
    refine ⟨M, ?_, h⟩
    rw [f_X7_blameFor_10, if_pos (nI_lt (by omega) (by omega))]
  | succ r ih =>
    intro i fu M hi hf h
    obtain ⟨f', rfl⟩ : ∃ f', fu = f' + 1 := ⟨fu - 1, by omega⟩
    have hin : i < n := by omega
    obtain ⟨l1, l2⟩ := hL i hin
    obtain ⟨g1, g3, g4, g5, -⟩ := d2 (L i) l2
    obtain ⟨A, a1, a2, a3, a4⟩ := step_m hb hn hin (show L i < 5 by omega) l1 g3 g1 g4 g5 h
    rw [f_X7_blameFor_10, if_neg (nI_nlt (by omega) (by omega)), a1, bd_ok]
    by_cases hip : i = p
    · obtain ⟨E, e1, e2⟩ := a3 (by simp [hip])
      rw [if_pos (nI_le (by omega) (by omega)), e1, bd_ok, nm_ok, nI_1]
      exact ih (i + 1) f' E (by omega) (by omega) e2
    · rw [if_neg (nI_ge (show i < p by omega) (by omega)), bnd_ok (by decide), bnd_ok (inB_nI (by omega) (by decide)), nI_clamp (by omega), show (10 : Int32).toNatClampNeg = 10 by decide, show gI A 172 10 = nI b by unfold gI; rw [a2]; exact h10, show gI A 174 i = nI (L i) by unfold gI; rw [a2]; exact l1, bit_if hb32 (by omega)]
      by_cases hl : bitq b (L i) = true
      · obtain ⟨E, e1, e2⟩ := a4 (by simp [hl]; omega)
        rw [if_pos hl, e1, bd_ok, nm_ok, nI_1]
        exact ih (i + 1) f' E (by omega) (by omega) e2
      · obtain ⟨E, e1, e2⟩ := a3 (by simp [show bitq b (L i) = false by simpa using hl])
        rw [if_neg hl, e1, bd_ok, nm_ok, nI_1]
        exact ih (i + 1) f' E (by omega) (by omega) e2
/-- both sides' blame for place p -/
theorem blm {S : Mm} {n : Nat} (hP : IP n S) (hR : PR n S 15 0) (hD : ID S) {p : Nat} (hp : p < n) : ∃ (d : Nat) (y : Nat → Nat) (bit : Bool) (E : Mm), d ≤ 100 ^ (p + 1) ∧ (∀ j, y j ≤ 100 ^ (p + 1)) ∧ (∀ j, p < j → y j = 0) ∧ U158 S E ∧
    f_X6_isFoundBehind S (nI p) = some (if (bit && decide (0 < d)) = true then 1 else 0, E) ∧ ((bit && decide (0 < d)) = true → gJ E 158 1 = lN (d * 100 ^ (5 - (p + 1))) ∧ ∀ j, j ≤ p → gJ E 160 j = lN (y j * 100 ^ (5 - (p + 1)))) ∧
    ∀ M, M.1 = S.1 → ∃ Z, f_X7_blameFor M (nI p) = some ((), Z) ∧ f_X7_isTold Z (nI p) = some (if (bit && decide (0 < d)) = true then 1 else 0, Z) ∧ gJ Z 163 24 = lN d ∧ ∀ j, j < 5 → gJ Z 176 j = lN (y j) := by
  have hn := hP.1
  obtain ⟨F, sec, lk, ms, ah, pr, L, b, DC, DM, LC, LM, hb, b1, b2⟩ := Dt_of hP hR
  have hb32 := pow_n hn hb
  have hF : ∀ s, s < n → F s ≤ 9 ∧ ms s ≤ 9 ∧ sec s ≤ 99 ∧ lk s ≤ 30 := fun s hs => by
    obtain ⟨-, y1, -, y2, -, y3, -, y4, -⟩ := DC.2.2.2.2 s hs
    exact ⟨y1, y4, y2, y3⟩
  have hLn : ∀ i, i < n → (fun i => F (L i)) i ≤ 9 ∧ (fun i => ms (L i)) i ≤ 9 ∧ (fun i => sec (L i)) i ≤ 99 ∧ (fun i => lk (L i)) i ≤ 30 := fun i hi => hF (L i) (LC.2 i hi)
  obtain ⟨E, u1, u2, u3, u4⟩ := up_c (S := S) (T := S) hD DC LC hb32 hp b1 ⟨rfl, rfl⟩ rfl rfl rfl rfl rfl
  have hd : (fl (fun i => F (L i)) (fun i => sec (L i)) (fun i => lk (L i)) (fun i => ms (L i)) (fun i => decide (i < p) && bitq b (L i)) (p + 1)).2.1 ≤ 100 ^ (p + 1) := by
    have := (fl_bd (lo := fun i => decide (i < p) && bitq b (L i)) hLn (p + 1) (by omega)).1
    omega
  have hlp := LC.2 p hp
  have pn := p100 (show p + 1 ≤ 5 by omega)
  have hk := p100p (5 - (p + 1))
  have mside : ∀ M, M.1 = S.1 → ∃ Z, f_X7_blameFor M (nI p) = some ((), Z) ∧ f_X7_isTold Z (nI p) = some (if (bitq b (L p) && decide (0 < (fl (fun i => F (L i)) (fun i => sec (L i)) (fun i => lk (L i)) (fun i => ms (L i)) (fun i => decide (i < p) && bitq b (L i)) (p + 1)).2.1)) = true then 1 else 0, Z) ∧ gJ Z 163 24 = lN (fl (fun i => F (L i)) (fun i => sec (L i)) (fun i => lk (L i)) (fun i => ms (L i)) (fun i => decide (i < p) && bitq b (L i)) (p + 1)).2.1 ∧ ∀ j, j < 5 → gJ Z 176 j = lN (fmb (fun i => F (L i)) (fun i => sec (L i)) (fun i => lk (L i)) (fun i => ms (L i)) (fun i => decide (i < p) && bitq b (L i)) (p + 1) j) := fun M hM => by
    obtain ⟨M1, m1, m2, m3, m4⟩ := row_m (S := M)
    have m2' : ∀ a, a ≠ 174 → M1.1 a = S.1 a := fun a ha => by rw [m2 a ha, hM]
    have hR1 : RwM M1 n L := fun i hi => ⟨by rw [m4 i (by omega)]; unfold gI; rw [hM]; exact LM i (by omega), LC.2 i hi⟩
    have h10 : gI M1 172 10 = nI b := by unfold gI; rw [m2' 172 (by omega)]; exact b2
    obtain ⟨B, q1, q2⟩ := beg_m (S := M1) (M := M1) rfl
    obtain ⟨Z, z1, z2⟩ := bf_ml (S := M1) hn (DtM_keep DM (fun a h1 h2 => m2' a (by omega))) hF hR1 hb32 hp h10 (p + 1) 0 400 B (by omega) (by omega) (FM_0 q2)
    obtain ⟨c0, c1, c2, c3, c4, c5⟩ := id z2
    refine ⟨Z, ?_, ?_, c4, fun j hj => (c5 j hj).2⟩
    · unfold f_X7_blameFor
      rw [m1, bd_ok, q1, bd_ok]
      exact z1
    · unfold f_X7_isTold
      rw [bnd_ok (by decide), bnd_ok (inB_nI (by omega) (by decide)), nI_clamp (by omega), show (10 : Int32).toNatClampNeg = 10 by decide, MS_g z2, h10, MS_g z2, (hR1 p hp).1, bit_if hb32 (by omega), c4]
      cases hbit : bitq b (L p) with
      | false => rw [if_neg (by decide), Bool.false_and, if_neg (by decide)]
      | true =>
        rw [if_pos rfl, Bool.true_and]
        have q : lg_cmp (lN (fl (fun i => F (L i)) (fun i => sec (L i)) (fun i => lk (L i)) (fun i => ms (L i)) (fun i => decide (i < p) && bitq b (L i)) (p + 1)).2.1) 0 ≤ 0 ↔ ¬ 0 < (fl (fun i => F (L i)) (fun i => sec (L i)) (fun i => lk (L i)) (fun i => ms (L i)) (fun i => decide (i < p) && bitq b (L i)) (p + 1)).2.1 := by
          rw [lg_cmp_le, show (0 : Int64) = lN 0 from rfl, pk_lLE (by omega) (by omega)]
          omega
        by_cases h0 : 0 < (fl (fun i => F (L i)) (fun i => sec (L i)) (fun i => lk (L i)) (fun i => ms (L i)) (fun i => decide (i < p) && bitq b (L i)) (p + 1)).2.1
        · rw [if_neg (fun z => q.1 z h0), if_pos (decide_eq_true h0)]
        · rw [if_pos (q.2 h0), if_neg (by simpa using h0)]
  have kd := K_mul (show p + 1 ≤ 5 by omega) hd
  refine ⟨(fl (fun i => F (L i)) (fun i => sec (L i)) (fun i => lk (L i)) (fun i => ms (L i)) (fun i => decide (i < p) && bitq b (L i)) (p + 1)).2.1, fun j => fmb (fun i => F (L i)) (fun i => sec (L i)) (fun i => lk (L i)) (fun i => ms (L i)) (fun i => decide (i < p) && bitq b (L i)) (p + 1) j, bitq b (L p), if bitq b (L p) = true then E else S, hd, fun j => fmb_bd (lo := fun i => decide (i < p) && bitq b (L i)) hLn j (p + 1) (by omega), fun j hj => fmb_ge (p + 1) j (by omega), ?_, ?_, ?_, mside⟩
  · split
    · exact u2
    · exact ⟨rfl, rfl⟩
  · unfold f_X6_isFoundBehind
    rw [bnd_ok (inB_nI (by omega) (by decide)), nI_clamp (by omega), b1, (LC.1 p (by omega)).1, bit_if0 hb32 (by omega)]
    cases hbit : bitq b (L p) with
    | false => simp
    | true =>
      rw [if_pos rfl, if_pos rfl, Bool.true_and, u1, bd_ok, u3.2.1]
      have q : lg_cmp (lN ((fl (fun i => F (L i)) (fun i => sec (L i)) (fun i => lk (L i)) (fun i => ms (L i)) (fun i => decide (i < p) && bitq b (L i)) (p + 1)).2.1 * 100 ^ (5 - (p + 1)))) 0 ≤ 0 ↔ ¬ 0 < (fl (fun i => F (L i)) (fun i => sec (L i)) (fun i => lk (L i)) (fun i => ms (L i)) (fun i => decide (i < p) && bitq b (L i)) (p + 1)).2.1 := by
        rw [lg_cmp_le, show (0 : Int64) = lN 0 from rfl, pk_lLE (by omega) (by omega)]
        constructor
        · intro h h2
          have := Nat.mul_pos h2 hk
          omega
        · intro h
          rw [show (fl (fun i => F (L i)) (fun i => sec (L i)) (fun i => lk (L i)) (fun i => ms (L i)) (fun i => decide (i < p) && bitq b (L i)) (p + 1)).2.1 = 0 by omega, Nat.zero_mul]
          omega
      by_cases h0 : 0 < (fl (fun i => F (L i)) (fun i => sec (L i)) (fun i => lk (L i)) (fun i => ms (L i)) (fun i => decide (i < p) && bitq b (L i)) (p + 1)).2.1
      · rw [if_neg (fun z => q.1 z h0), if_pos (decide_eq_true h0)]
      · rw [if_pos (q.2 h0), if_neg (by simpa using h0)]
  · intro hh
    have hbit : bitq b (L p) = true := by
      cases hq : bitq b (L p) with
      | false => rw [hq, Bool.false_and] at hh; exact absurd hh (by decide)
      | true => rfl
    rw [if_pos hbit]
    exact ⟨u3.2.1, fun j hj => u4 j (by omega)⟩
theorem sm_blame : sim_blame Inv := fun S h x1 x2 x3 => by
  obtain ⟨n, hP, hR, hI, hT, hG, hD, hJ⟩ := id h
  obtain ⟨hn, p1, p2, -⟩ := id hP
  rcases stp_cases n hn x1 with ⟨p, hp, rfl⟩ | hx
  · rcases stp_cases n hn x2 with ⟨j, hj, rfl⟩ | hx
    · by_cases hx3 : x3 = 0 ∨ x3 = 1
      · obtain ⟨d, y, bit, E, bd, by1, by2, u, c1, c2, m⟩ := blm hP hR hD hp
        obtain ⟨Z, z1, z2, z3, z4⟩ := m E u.1
        have kd := K_mul (show p + 1 ≤ 5 by omega) bd
        have ky := K_mul (show p + 1 ≤ 5 by omega) (by1 j)
        have pn := p100 (show p + 1 ≤ 5 by omega)
        have byj := by1 j
        have hk := p100p (5 - (p + 1))
        have key : ∃ r, f_X6_blame S (nI p) (nI j) x3 = some (r, E) ∧ f_X7_blame E (nI p) (nI j) x3 = some (r, Z) := by
          by_cases ht : (bit && decide (0 < d)) = true
          · obtain ⟨k1, k2⟩ := c2 ht
            have d0 : 0 < d := by
              have := (Bool.and_eq_true _ _).mp ht
              exact of_decide_eq_true this.2
            rw [if_pos ht] at c1 z2
            refine ⟨fr (y j) d x3, ?_, ?_⟩
            · unfold f_X6_blame
              rw [cs_yes hn p1 hp, bd_ok, if_neg one0, cs_yes hn p1 hj, bd_ok, if_neg one0, (isBit_yes hx3).1, bd_ok, if_neg one0, c1, bd_ok, if_neg one0]
              by_cases hjp : j ≤ p
              · rw [if_pos (nI_le hjp (by omega)), bnd_ok (inB_nI (by omega) (by decide)), nI_clamp (by omega), k1, k2 j hjp, part_c2 hk (by omega) (by omega), if_neg (by omega), bd_ok]
              · rw [if_neg (nI_ge (by omega) (by omega)), k1, by2 j (by omega), show (0 : Int64) = lN (0 * 100 ^ (5 - (p + 1))) by rw [Nat.zero_mul]; rfl, part_c2 hk (by omega) (by omega), if_neg (by omega), bd_ok]
            · unfold f_X7_blame
              rw [ms_yes hn (show gI E 165 0 = nI n by rw [U158_g u]; exact p2) hp, bd_ok, if_neg one0, ms_yes hn (show gI E 165 0 = nI n by rw [U158_g u]; exact p2) hj, bd_ok, if_neg one0, (isBit_yes hx3).2, bd_ok, if_neg one0, z1, bd_ok, z2, bd_ok, if_neg one0, bnd_ok (inB_nI (by omega) (by decide)), nI_clamp (by omega), z3, z4 j (by omega), part_m (by omega) (by omega) d0, bd_ok]
          · rw [if_neg ht] at c1 z2
            refine ⟨-9, ?_, ?_⟩
            · unfold f_X6_blame
              rw [cs_yes hn p1 hp, bd_ok, if_neg one0, cs_yes hn p1 hj, bd_ok, if_neg one0, (isBit_yes hx3).1, bd_ok, if_neg one0, c1, bd_ok, if_pos rfl]
            · unfold f_X7_blame
              rw [ms_yes hn (show gI E 165 0 = nI n by rw [U158_g u]; exact p2) hp, bd_ok, if_neg one0, ms_yes hn (show gI E 165 0 = nI n by rw [U158_g u]; exact p2) hj, bd_ok, if_neg one0, (isBit_yes hx3).2, bd_ok, if_neg one0, z1, bd_ok, z2, bd_ok, if_pos rfl]
        obtain ⟨r, k1, k2⟩ := key
        exact ⟨r, E, Z, k1, k2, Inv_scr h (cc_X6_blame k1) (cm_X7_blame k2)⟩
      · refine simS h ⟨-1, by unfold f_X6_blame; rw [cs_yes hn p1 hp, bd_ok, if_neg one0, cs_yes hn p1 hj, bd_ok, if_neg one0, (isBit_no (S := S) hx3).1]; rfl, ?_⟩
        show f_X7_blame S _ _ _ = _
        unfold f_X7_blame; rw [ms_yes hn p2 hp, bd_ok, if_neg one0, ms_yes hn p2 hj, bd_ok, if_neg one0, (isBit_no (S := S) hx3).2]; rfl
    · refine simS h ⟨-1, by unfold f_X6_blame; rw [cs_yes hn p1 hp, bd_ok, if_neg one0, cs_no p1 hx]; rfl, ?_⟩
      show f_X7_blame S _ _ _ = _
      unfold f_X7_blame; rw [ms_yes hn p2 hp, bd_ok, if_neg one0, ms_no hn p2 hx]; rfl
  · refine simS h ⟨-1, by unfold f_X6_blame; rw [cs_no p1 hx]; rfl, ?_⟩
    show f_X7_blame S _ _ _ = _
    unfold f_X7_blame; rw [ms_no hn p2 hx]; rfl
def bst (y : Nat → Nat) : Nat → Nat → Nat → Nat
  | 0, _, k => k
  | r + 1, i, k => if y i ≤ y k then bst y r (i + 1) k else bst y r (i + 1) i
theorem fst_c {E : Mm} {p k : Nat} {y : Nat → Nat} (hp : p < 5) (hk : 0 < k) (hy : ∀ j, y j * k ≤ 10000000000) (e : ∀ j, j ≤ p → gJ E 160 j = lN (y j * k)) : ∀ (r i fu b : Nat), i + r = p + 1 → r < fu → b ≤ p → f_X6_first_25 fu (nI p) (nI b) (nI i) E = some (nI (bst y r i b), E) := by
  intro r
  induction r with
  | zero =>
    intro i fu b hi hf hb
    obtain ⟨f', rfl⟩ : ∃ f', fu = f' + 1 := ⟨fu - 1, by omega⟩
    rw [f_X6_first_25, if_pos (nI_lt (by omega) (by omega))]; rfl
  | succ r ih =>
    intro i fu b hi hf hb
    obtain ⟨f', rfl⟩ : ∃ f', fu = f' + 1 := ⟨fu - 1, by omega⟩
    have y1 := hy i
    have y2 := hy b
    have q : lg_cmp (lN (y i * k)) (lN (y b * k)) ≤ 0 ↔ y i ≤ y b := by rw [lg_cmp_le, pk_lLE (by omega) (by omega), mulK hk]
    rw [f_X6_first_25, if_neg (nI_nlt (by omega) (by omega)), bnd_ok (inB_nI (by omega) (by decide)), bnd_ok (inB_nI (by omega) (by decide)), nI_clamp (by omega), nI_clamp (by omega), e i (by omega), e b hb]
    unfold bst
    by_cases h : y i ≤ y b
    · rw [if_pos (q.2 h), if_pos h, nm_ok, nI_1]; exact ih (i + 1) f' b (by omega) (by omega) hb
    · rw [if_neg (fun z => h (q.1 z)), if_neg h, nm_ok, nI_1]; exact ih (i + 1) f' i (by omega) (by omega) (by omega)
theorem fst_m {Z : Mm} {p : Nat} {t : Int32} {y : Nat → Nat} (hp : p < 5) (hy : ∀ j, y j ≤ 10000000000) (e : ∀ j, j < 5 → gJ Z 176 j = lN (y j)) (ht : f_X7_isTold Z (nI p) = some (t, Z)) : ∀ (r i fu b : Nat), i + r = p + 1 → r < fu → b ≤ p → f_X7_first_19 fu (nI p) (nI b) (nI i) Z = some (if t = 0 then -9 else nI (bst y r i b), Z) := by
  intro r
  induction r with
  | zero =>
    intro i fu b hi hf hb
    obtain ⟨f', rfl⟩ : ∃ f', fu = f' + 1 := ⟨fu - 1, by omega⟩
    rw [f_X7_first_19, if_pos (nI_lt (by omega) (by omega)), ht, bd_ok]
    split <;> rfl
  | succ r ih =>
    intro i fu b hi hf hb
    obtain ⟨f', rfl⟩ : ∃ f', fu = f' + 1 := ⟨fu - 1, by omega⟩
    have y1 := hy i
    have y2 := hy b
    have q : lg_cmp (lN (y i)) (lN (y b)) ≤ 0 ↔ y i ≤ y b := by rw [lg_cmp_le, pk_lLE (by omega) (by omega)]
    rw [f_X7_first_19, if_neg (nI_nlt (by omega) (by omega)), bnd_ok (inB_nI (by omega) (by decide)), bnd_ok (inB_nI (by omega) (by decide)), nI_clamp (by omega), nI_clamp (by omega), e i (by omega), e b (by omega)]
    rw [show bst y (r + 1) i b = if y i ≤ y b then bst y r (i + 1) b else bst y r (i + 1) i from rfl]
    by_cases h : y i ≤ y b
    · rw [if_pos (q.2 h), if_pos h, nm_ok, nI_1]; exact ih (i + 1) f' b (by omega) (by omega) hb
    · rw [if_neg (fun z => h (q.1 z)), if_neg h, nm_ok, nI_1]; exact ih (i + 1) f' i (by omega) (by omega) (by omega)
theorem sm_first : sim_first Inv := fun S h x1 => by
  obtain ⟨n, hP, hR, hI, hT, hG, hD, hJ⟩ := id h
  obtain ⟨hn, p1, p2, -⟩ := id hP
  rcases stp_cases n hn x1 with ⟨p, hp, rfl⟩ | hx
  · obtain ⟨d, y, bit, E, bd, by1, by2, u, c1, c2, m⟩ := blm hP hR hD hp
    obtain ⟨Z, z1, z2, z3, z4⟩ := m E u.1
    have pn := p100 (show p + 1 ≤ 5 by omega)
    have hk := p100p (5 - (p + 1))
    have z5 := fst_m (Z := Z) (p := p) (y := y) (by omega) (fun j => by have := by1 j; omega) z4 z2 p 1 400 0 (by omega) (by omega) (by omega)
    have key : ∃ r, f_X6_first S (nI p) = some (r, E) ∧ f_X7_first E (nI p) = some (r, Z) := by
      have k2 : f_X7_first E (nI p) = some (if (if (bit && decide (0 < d)) = true then (1 : Int32) else 0) = 0 then -9 else nI (bst y p 1 0), Z) := by
        unfold f_X7_first
        rw [ms_yes hn (show gI E 165 0 = nI n by rw [U158_g u]; exact p2) hp, bd_ok, if_neg one0, z1, bd_ok]
        exact z5
      by_cases ht : (bit && decide (0 < d)) = true
      · rw [if_pos ht] at c1 k2
        refine ⟨nI (bst y p 1 0), ?_, by rw [k2, if_neg one0]⟩
        unfold f_X6_first
        rw [cs_yes hn p1 hp, bd_ok, if_neg one0, c1, bd_ok, if_neg one0]
        exact fst_c (by omega) hk (fun j => K_mul (by omega) (by1 j)) (c2 ht).2 p 1 400 0 (by omega) (by omega) (by omega)
      · rw [if_neg ht] at c1 k2
        refine ⟨-9, ?_, by rw [k2, if_pos rfl]⟩
        unfold f_X6_first
        rw [cs_yes hn p1 hp, bd_ok, if_neg one0, c1, bd_ok, if_pos rfl]
    obtain ⟨r, k1, k2⟩ := key
    exact ⟨r, E, Z, k1, k2, Inv_scr h (cc_X6_first k1) (cm_X7_first k2)⟩
  · refine simS h ⟨-1, by unfold f_X6_first; rw [cs_no p1 hx]; rfl, ?_⟩
    show f_X7_first S _ = _
    unfold f_X7_first; rw [ms_no hn p2 hx]; rfl
