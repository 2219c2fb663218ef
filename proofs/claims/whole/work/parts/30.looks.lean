theorem mulK {a b k : Nat} (hk : 0 < k) : a * k ≤ b * k ↔ a ≤ b := ⟨fun h => Nat.le_of_mul_le_mul_right h hk, fun h => Nat.mul_le_mul_right k h⟩
theorem bl_both {S M1 : Mm} {n : Nat} (hn : n ≤ 5) {c : Nat → Nat} {k : Nat} (hk : 0 < k) (hck : ∀ w, c w * k ≤ 7440000000000) (hC : gI S (pl S) 0 = nI n) (hM : gI M1 165 0 = nI n)
    (hc : ∀ w T, w < 32 → U158 S T → ∃ E, f_X0_through T (pl T) 16 17 (nI w) = some ((), E) ∧ U158 S E ∧ gJ E 158 2 = lN (c w * k))
    (hm : ∀ w M, w < 32 → M.1 = M1.1 → ∃ E, f_X7_measure M (nI w) = some ((), E) ∧ E.1 = M1.1 ∧ gJ E 163 22 = lN (c w)) :
    ∀ (r w fu fu' best : Nat) (xc xm : Int64), w + r = 2 ^ n → r < fu → r < fu' → (w = 0 ∧ xc = 10000000000000 ∧ xm = -1 ∨ ∃ v, xc = lN (v * k) ∧ xm = lN v ∧ v * k ≤ 7440000000000) → ∀ T, U158 S T → ∃ res, (∃ E, f_X6_bestLooks_9 fu (nI best) xc (nI w) T = some (res, E) ∧ U158 S E) ∧ ∀ M, M.1 = M1.1 → ∃ E, f_X7_bestLooks_13 fu' (nI best) xm (nI w) M = some (res, E) := by
  have h2n : 2 ^ n ≤ 32 := (Nat.pow_le_pow_right (by omega) hn : 2 ^ n ≤ 2 ^ 5)
  have hkl : ∀ v, v ≤ v * k := fun v => Nat.le_mul_of_pos_right v hk
  intro r
  induction r with
  | zero =>
    intro w fu fu' best xc xm hw hf hf' h0 T u
    obtain ⟨f1, rfl⟩ : ∃ f1, fu = f1 + 1 := ⟨fu - 1, by omega⟩
    obtain ⟨f2, rfl⟩ : ∃ f2, fu' = f2 + 1 := ⟨fu' - 1, by omega⟩
    have hT : gI T (pl T) 0 = nI n := by rw [U158_p u, U158_g u]; exact hC
    refine ⟨nI best, ⟨T, ?_, u⟩, fun M v => ⟨M, ?_⟩⟩
    · rw [f_X6_bestLooks_9, hT, shl_ok hn, show w = 2 ^ n by omega, if_pos (nI_le (Nat.le_refl _) (by omega))]
    · rw [f_X7_bestLooks_13, bnd_ok (by decide), show (0 : Int32).toNatClampNeg = 0 from rfl, show gI M 165 0 = nI n by unfold gI; rw [v]; exact hM, shl_ok hn, show w = 2 ^ n by omega, if_pos (nI_le (Nat.le_refl _) (by omega))]
  | succ r ih =>
    intro w fu fu' best xc xm hw hf hf' h0 T u
    obtain ⟨f1, rfl⟩ : ∃ f1, fu = f1 + 1 := ⟨fu - 1, by omega⟩
    obtain ⟨f2, rfl⟩ : ∃ f2, fu' = f2 + 1 := ⟨fu' - 1, by omega⟩
    have hT : gI T (pl T) 0 = nI n := by rw [U158_p u, U158_g u]; exact hC
    have hw2 : w < 2 ^ n := by omega
    obtain ⟨E, e1, e2, e3⟩ := hc w T (by omega) u
    have bw := hck w
    have bw2 := hkl (c w)
    rw [f_X6_bestLooks_9, hT, shl_ok hn, if_neg (nI_ge hw2 (by omega)), e1, bd_ok, e3]
    have mstep : ∀ M, M.1 = M1.1 → ∃ E, f_X7_bestLooks_13 (f2 + 1) (nI best) xm (nI w) M = (if lg_cmp xm 0 < 0 then f_X7_bestLooks_13 f2 (nI w) (lN (c w)) (nI (w + 1)) E else if 0 ≤ lg_cmp (lN (c w)) xm then f_X7_bestLooks_13 f2 (nI best) xm (nI (w + 1)) E else f_X7_bestLooks_13 f2 (nI w) (lN (c w)) (nI (w + 1)) E) ∧ E.1 = M1.1 := fun M v => by
      obtain ⟨E, a1, a2, a3⟩ := hm w M (by omega) v
      refine ⟨E, ?_, a2⟩
      rw [f_X7_bestLooks_13, bnd_ok (by decide), show (0 : Int32).toNatClampNeg = 0 from rfl, show gI M 165 0 = nI n by unfold gI; rw [v]; exact hM, shl_ok hn, if_neg (nI_ge hw2 (by omega)), a1, bd_ok, a3]
      simp only [nm_ok, nI_1]
    have take : ∃ res, (∃ E', f_X6_bestLooks_9 f1 (nI w) (lN (c w * k)) (nI (w + 1)) E = some (res, E') ∧ U158 S E') ∧ ∀ M, M.1 = M1.1 → ∃ E', f_X7_bestLooks_13 f2 (nI w) (lN (c w)) (nI (w + 1)) M = some (res, E') := ih (w + 1) f1 f2 w _ _ (by omega) (by omega) (by omega) (Or.inr ⟨c w, rfl, rfl, bw⟩) E e2
    rcases h0 with ⟨-, hxc, hxm⟩ | ⟨v, hxc, hxm, hv⟩
    · rw [if_neg (fun q => by
        rw [lg_cmp_ge, hxc, show (10000000000000 : Int64) = lN 10000000000000 from rfl, pk_lLE (by omega) (by omega)] at q
        omega), nm_ok, nm_ok, nI_1]
      obtain ⟨res, t1, t2⟩ := take
      refine ⟨res, t1, fun M v => ?_⟩
      obtain ⟨E', a1, a2⟩ := mstep M v
      rw [a1, hxm, if_pos (by decide)]
      exact t2 E' a2
    · have hvk := hkl v
      have nneg : ¬ lg_cmp xm 0 < 0 := fun q => by
        rw [lg_cmp_lt, hxm, show (0 : Int64) = lN 0 from rfl, pk_lLT (by omega) (by omega)] at q
        omega
      have cc : 0 ≤ lg_cmp (lN (c w * k)) xc ↔ v ≤ c w := by rw [lg_cmp_ge, hxc, pk_lLE (by omega) (by omega), mulK hk]
      have cm : 0 ≤ lg_cmp (lN (c w)) xm ↔ v ≤ c w := by rw [lg_cmp_ge, hxm, pk_lLE (by omega) (by omega)]
      by_cases hq : v ≤ c w
      · rw [if_pos (cc.2 hq), nm_ok, nI_1]
        obtain ⟨res, t1, t2⟩ := ih (w + 1) f1 f2 best xc xm (by omega) (by omega) (by omega) (Or.inr ⟨v, hxc, hxm, hv⟩) E e2
        refine ⟨res, t1, fun M vv => ?_⟩
        obtain ⟨E', a1, a2⟩ := mstep M vv
        rw [a1, if_neg nneg, if_pos (cm.2 hq)]
        exact t2 E' a2
      · rw [if_neg (fun q => hq (cc.1 q)), nm_ok, nm_ok, nI_1]
        obtain ⟨res, t1, t2⟩ := take
        refine ⟨res, t1, fun M vv => ?_⟩
        obtain ⟨E', a1, a2⟩ := mstep M vv
        rw [a1, if_neg nneg, if_neg (fun q => hq (cm.1 q))]
        exact t2 E' a2
theorem sm_bestLooks : sim_bestLooks Inv := fun S h => by
  obtain ⟨n, hP, hR, hI, hT, hG, hD, hJ⟩ := id h
  obtain ⟨hn, p1, p2, -⟩ := id hP
  obtain ⟨p, pr, ls, b, hb, b1, b2, bd1, hc, hm⟩ := allfl hP hR hD
  have h2n : 2 ^ n ≤ 32 := (Nat.pow_le_pow_right (by omega) hn : 2 ^ n ≤ 2 ^ 5)
  obtain ⟨M1, m1, m2, m3⟩ := hm S rfl
  have go := fun (M1 : Mm) (hM : gI M1 165 0 = nI n) hmm => bl_both (S := S) (M1 := M1) hn (c := fun w => (p w).2.2 + (p w).2.1 * pr) (p100p (5 - n)) (fun w => K_mul2 hn (bd1 w).2.1) p1 hM (fun w T hw u => by
      obtain ⟨E, e1, e2, -, -, e5, -⟩ := hc w T hw u
      exact ⟨E, e1, e2, e5⟩) hmm (2 ^ n) 0 400 400 0 10000000000000 (-1) (by omega) (by omega) (by omega) (Or.inl ⟨rfl, rfl, rfl⟩) S ⟨rfl, rfl⟩
  obtain ⟨res0, ⟨E, e1, e2⟩, -⟩ := go M1 (by unfold gI; rw [m2 165 (by omega)]; exact p2) (fun w M hw hM => by
    obtain ⟨E, w1, w2, -, w4, -⟩ := m3 w M hw hM
    exact ⟨E, w1, w2, w4⟩)
  obtain ⟨N1, n1, n2, n3⟩ := hm E e2.1
  obtain ⟨res, ⟨E', e1', e2'⟩, e3'⟩ := go N1 (by unfold gI; rw [n2 165 (by omega)]; exact p2) (fun w M hw hM => by
    obtain ⟨E, w1, w2, -, w4, -⟩ := n3 w M hw hM
    exact ⟨E, w1, w2, w4⟩)
  have eqE : (res0, E) = (res, E') := Option.some.inj (e1.symm.trans e1')
  have e4 : res0 = res := congrArg Prod.fst eqE
  obtain ⟨Z, z1⟩ := e3' N1 rfl
  have k1 : f_X6_bestLooks S = some (res0, E) := e1
  have k2 : f_X7_bestLooks E = some (res0, Z) := by
    unfold f_X7_bestLooks
    rw [n1, bd_ok, e4]
    exact z1
  exact ⟨res0, E, Z, k1, k2, Inv_scr h (cc_X6_bestLooks k1) (cm_X7_bestLooks k2)⟩

theorem pcn_le {v : Nat} : pcn v ≤ 5 := by
  unfold pcn
  have h1 := Nat.mod_lt v (show 0 < 2 by omega)
  have h2 := Nat.mod_lt (v / 2) (show 0 < 2 by omega)
  have h3 := Nat.mod_lt (v / 4) (show 0 < 2 by omega)
  have h4 := Nat.mod_lt (v / 8) (show 0 < 2 by omega)
  have h5 := Nat.mod_lt (v / 16) (show 0 < 2 by omega)
  omega
def okf (g d x : Nat) : Bool := decide (0 < g + d) && decide (250 * d ≤ x * (g + d))
theorem few_c {S T : Mm} {n : Nat} {g d : Nat → Nat} {k x w : Nat} (hk : 0 < k) (hx : x ≤ 250) (hgd : ∀ w, (g w + d w) * k ≤ 10000000000) (hw : w < 32) (u : U158 S T)
    (hc : ∀ w T, w < 32 → U158 S T → ∃ E, f_X0_through T (pl T) 16 17 (nI w) = some ((), E) ∧ U158 S E ∧ gJ E 158 0 = lN (g w * k) ∧ gJ E 158 1 = lN (d w * k)) : ∃ E, f_X6_hasFewDuds T (nI w) (nI x) = some (bI (okf (g w) (d w) x), E) ∧ U158 S E := by
  obtain ⟨E, e1, e2, e3, e4⟩ := hc w T hw u
  refine ⟨E, ?_, e2⟩
  have b := hgd w
  have b1 : d w * k ≤ (g w + d w) * k := Nat.mul_le_mul_right k (by omega)
  have b2 : (g w + d w) * k * x ≤ 10000000000 * 250 := Nat.mul_le_mul b hx
  unfold f_X6_hasFewDuds
  rw [e1, bd_ok, nm_ok, e3, e4, lN_add, ← Nat.add_mul, show lN (d w * k) * 250 = lN (d w * k * 250) from lN_mul _ 250, nI_l (by omega), lN_mul]
  have q1 : lg_cmp (lN ((g w + d w) * k)) 0 ≤ 0 ↔ ¬ 0 < g w + d w := by
    rw [lg_cmp_le, show (0 : Int64) = lN 0 from rfl, pk_lLE (by omega) (by omega)]
    constructor
    · intro h h2
      have := Nat.mul_pos h2 hk
      omega
    · intro h
      rw [show g w + d w = 0 by omega, Nat.zero_mul]
      omega
  have q2 : 0 < lg_cmp (lN (d w * k * 250)) (lN ((g w + d w) * k * x)) ↔ ¬ 250 * d w ≤ x * (g w + d w) := by
    rw [lg_cmp_gt, pk_lLT (by omega) (by omega), show (g w + d w) * k * x = x * (g w + d w) * k by rw [Nat.mul_right_comm, Nat.mul_comm x], show d w * k * 250 = 250 * d w * k by rw [Nat.mul_right_comm, Nat.mul_comm 250], ← Nat.not_le, mulK hk]
  unfold okf
  by_cases h1 : 0 < g w + d w
  · rw [if_neg (fun q => q1.1 q h1), decide_eq_true h1, Bool.true_and]
    by_cases h2 : 250 * d w ≤ x * (g w + d w)
    · rw [if_neg (fun q => q2.1 q h2), decide_eq_true h2]; rfl
    · rw [if_pos (q2.2 h2), decide_eq_false h2]; rfl
  · rw [if_pos (q1.2 h1), decide_eq_false h1]; rfl
theorem few_m {M1 M : Mm} {n : Nat} {g d : Nat → Nat} {x w : Nat} (hx : x ≤ 250) (hgd : ∀ w, (g w + d w) ≤ 10000000000) (hw : w < 32) (u : M.1 = M1.1) {kk : Int32 → Int32 → Int32 → Mm → Option (Int32 × Mm)} {x2 : Int32}
    (hm : ∀ w M, w < 32 → M.1 = M1.1 → ∃ E, f_X7_measure M (nI w) = some ((), E) ∧ E.1 = M1.1 ∧ gJ E 163 23 = lN (g w) ∧ gJ E 163 24 = lN (d w)) : ∃ E, f_X7_few_51 kk (nI x) x2 (nI w) M = (if okf (g w) (d w) x = true then kk (nI x) (nI w) (nI (w + 1)) E else kk (nI x) x2 (nI (w + 1)) E) ∧ E.1 = M1.1 := by
  obtain ⟨E, e1, e2, e3, e4⟩ := hm w M hw u
  refine ⟨E, ?_, e2⟩
  have b := hgd w
  have b2 : x * (g w + d w) ≤ 250 * 10000000000 := Nat.mul_le_mul hx b
  unfold f_X7_few_51
  rw [e1, bd_ok, e3, e4, lN_add, show 250 * lN (d w) = lN (250 * d w) from lN_mul 250 _, nI_l (by omega), lN_mul]
  simp only [nm_ok, nI_1]
  have q1 : lg_cmp (lN (g w + d w)) 0 ≤ 0 ↔ ¬ 0 < g w + d w := by
    rw [lg_cmp_le, show (0 : Int64) = lN 0 from rfl, pk_lLE (by omega) (by omega)]
    omega
  have q2 : 0 < lg_cmp (lN (250 * d w)) (lN (x * (g w + d w))) ↔ ¬ 250 * d w ≤ x * (g w + d w) := by
    rw [lg_cmp_gt, pk_lLT (by omega) (by omega), ← Nat.not_le]
  unfold okf
  by_cases h1 : 0 < g w + d w
  · rw [if_neg (fun q => q1.1 q h1), decide_eq_true h1, Bool.true_and]
    by_cases h2 : 250 * d w ≤ x * (g w + d w)
    · rw [if_neg (fun q => q2.1 q h2), decide_eq_true h2, if_pos rfl]
    · rw [if_pos (q2.2 h2), decide_eq_false h2, if_neg (by decide)]
  · rw [if_pos (q1.2 h1), decide_eq_false h1, Bool.false_and, if_neg (by decide)]
theorem fw_both {S M1 : Mm} {n : Nat} (hn : n ≤ 5) {ok : Nat → Bool} {x : Nat} (hC : gI S (pl S) 0 = nI n) (hM : gI M1 165 0 = nI n)
    (hc : ∀ w T, w < 32 → U158 S T → ∃ E, f_X6_hasFewDuds T (nI w) (nI x) = some (bI (ok w), E) ∧ U158 S E)
    (hm : ∀ kk x2 w M, w < 32 → M.1 = M1.1 → ∃ E, f_X7_few_51 kk (nI x) x2 (nI w) M = (if ok w = true then kk (nI x) (nI w) (nI (w + 1)) E else kk (nI x) x2 (nI (w + 1)) E) ∧ E.1 = M1.1) :
    ∀ (r w fu fu' : Nat) (xb xc : Int32), w + r = 2 ^ n → r < fu → r < fu' → (xb = -9 ∧ xc = 6 ∨ ∃ v, v < 32 ∧ xb = nI v ∧ xc = nI (pcn v)) → ∀ T, U158 S T → ∃ res, (∃ E, f_X6_few_22 fu (nI x) xb xc (nI w) T = some (res, E) ∧ U158 S E) ∧ ∀ M, M.1 = M1.1 → ∃ E, f_X7_few_22 fu' (nI x) xb (nI w) M = some (res, E) := by
  have h2n : 2 ^ n ≤ 32 := (Nat.pow_le_pow_right (by omega) hn : 2 ^ n ≤ 2 ^ 5)
  intro r
  induction r with
  | zero =>
    intro w fu fu' xb xc hw hf hf' h0 T u
    obtain ⟨f1, rfl⟩ : ∃ f1, fu = f1 + 1 := ⟨fu - 1, by omega⟩
    obtain ⟨f2, rfl⟩ : ∃ f2, fu' = f2 + 1 := ⟨fu' - 1, by omega⟩
    have hT : gI T (pl T) 0 = nI n := by rw [U158_p u, U158_g u]; exact hC
    refine ⟨xb, ⟨T, ?_, u⟩, fun M v => ⟨M, ?_⟩⟩
    · rw [f_X6_few_22, hT, shl_ok hn, show w = 2 ^ n by omega, if_pos (nI_le (Nat.le_refl _) (by omega))]
    · rw [f_X7_few_22, bnd_ok (by decide), show (0 : Int32).toNatClampNeg = 0 from rfl, show gI M 165 0 = nI n by unfold gI; rw [v]; exact hM, shl_ok hn, show w = 2 ^ n by omega, if_pos (nI_le (Nat.le_refl _) (by omega))]
  | succ r ih =>
    intro w fu fu' xb xc hw hf hf' h0 T u
    obtain ⟨f1, rfl⟩ : ∃ f1, fu = f1 + 1 := ⟨fu - 1, by omega⟩
    obtain ⟨f2, rfl⟩ : ∃ f2, fu' = f2 + 1 := ⟨fu' - 1, by omega⟩
    have hT : gI T (pl T) 0 = nI n := by rw [U158_p u, U158_g u]; exact hC
    have hw2 : w < 2 ^ n := by omega
    have hw32 : w < 32 := by omega
    have hpw := pcn_le (v := w)
    rw [f_X6_few_22, hT, shl_ok hn, if_neg (nI_ge hw2 (by omega)), bc_ok hw32, bd_ok]
    have mpre : ∀ M, M.1 = M1.1 → f_X7_few_22 (f2 + 1) (nI x) xb (nI w) M = (if xb = -9 then f_X7_few_51 (f_X7_few_22 f2) (nI x) xb (nI w) M else (bd (f_X7_manyOf M (nI w)) (fun r4 S5 => bd (f_X7_manyOf S5 xb) (fun r7 S8 => if r7 ≤ r4 then f_X7_few_22 f2 (nI x) xb (nI (w + 1)) S8 else f_X7_few_51 (f_X7_few_22 f2) (nI x) xb (nI w) S8)))) := fun M v => by
      rw [f_X7_few_22, bnd_ok (by decide), show (0 : Int32).toNatClampNeg = 0 from rfl, show gI M 165 0 = nI n by unfold gI; rw [v]; exact hM, shl_ok hn, if_neg (nI_ge hw2 (by omega))]
      simp only [nm_ok, nI_1]
    have try1 : ∃ res, (∃ E, (bd (f_X6_hasFewDuds T (nI w) (nI x)) (fun r9 S10 => if r9 = 0 then (nm (nI w + 1) (fun v13 => f_X6_few_22 f1 (nI x) xb xc v13 S10)) else (bd (f_J6_bitCount_0f7a4 S10 (nI w)) (fun r15 S16 => nm (nI w + 1) (fun v18 => f_X6_few_22 f1 (nI x) (nI w) r15 v18 S16))))) = some (res, E) ∧ U158 S E) ∧ ∀ M, M.1 = M1.1 → ∃ E, f_X7_few_51 (f_X7_few_22 f2) (nI x) xb (nI w) M = some (res, E) := by
      obtain ⟨E, e1, e2⟩ := hc w T hw32 u
      rw [e1, bd_ok]
      cases hok : ok w with
      | false =>
        rw [if_pos (show bI false = 0 from rfl), nm_ok, nI_1]
        obtain ⟨res, t1, t2⟩ := ih (w + 1) f1 f2 xb xc (by omega) (by omega) (by omega) h0 E e2
        refine ⟨res, t1, fun M v => ?_⟩
        obtain ⟨E', a1, a2⟩ := hm (f_X7_few_22 f2) xb w M hw32 v
        rw [a1, hok, if_neg (by decide)]
        exact t2 E' a2
      | true =>
        rw [if_neg (show ¬ bI true = 0 by decide), bc_ok hw32, bd_ok, nm_ok, nI_1]
        obtain ⟨res, t1, t2⟩ := ih (w + 1) f1 f2 (nI w) (nI (pcn w)) (by omega) (by omega) (by omega) (Or.inr ⟨w, hw32, rfl, rfl⟩) E e2
        refine ⟨res, t1, fun M v => ?_⟩
        obtain ⟨E', a1, a2⟩ := hm (f_X7_few_22 f2) xb w M hw32 v
        rw [a1, hok, if_pos rfl]
        exact t2 E' a2
    obtain ⟨res, t1, t2⟩ := try1
    rcases id h0 with ⟨hb, hcc⟩ | ⟨v, hv, hb, hcc⟩
    · refine ⟨res, ?_, fun M v => ?_⟩
      · rw [if_neg (by rw [hcc]; exact nI_ge (b := 6) (by omega) (by decide))]
        exact t1
      · rw [mpre M v, if_pos hb]
        exact t2 M v
    · have hpv := pcn_le (v := v)
      have hne : ¬ xb = -9 := fun q => absurd (nI_pos (show v < 2 ^ 31 by omega)) (by rw [← hb, q]; decide)
      have hle : xc ≤ nI (pcn w) ↔ pcn v ≤ pcn w := by rw [hcc, nI_leI (by omega) (by omega)]
      by_cases hp : pcn v ≤ pcn w
      · rw [if_pos (hle.2 hp), nm_ok, nI_1]
        obtain ⟨res, s1, s2⟩ := ih (w + 1) f1 f2 xb xc (by omega) (by omega) (by omega) h0 T u
        refine ⟨res, s1, fun M vv => ?_⟩
        rw [mpre M vv, if_neg hne, mo_ok hw32, bd_ok, hb, mo_ok hv, bd_ok, if_pos (by rw [← hcc]; exact hle.2 hp), ← hb]
        exact s2 M vv
      · refine ⟨res, ?_, fun M vv => ?_⟩
        · rw [if_neg (fun q => hp (hle.1 q))]
          exact t1
        · rw [mpre M vv, if_neg hne, mo_ok hw32, bd_ok, hb, mo_ok hv, bd_ok, if_neg (by rw [← hcc]; exact fun q => hp (hle.1 q)), ← hb]
          exact t2 M vv
theorem x250 {x : Int32} (h0 : ¬ x < 0) (h3 : x ≤ 250) : ∃ j, j ≤ 250 ∧ x = nI j := by
  obtain ⟨j, hj, rfl⟩ := nI_of h0
  refine ⟨j, ?_, rfl⟩
  rcases Nat.lt_or_ge 250 j with q | q
  · exact absurd h3 (Int32.not_le.mpr (nI_lt (a := 250) q hj))
  · exact q
theorem sm_few : sim_few Inv := fun S h x => by
  obtain ⟨n, hP, hR, hI, hT, hG, hD, hJ⟩ := id h
  obtain ⟨hn, p1, p2, -⟩ := id hP
  obtain ⟨p, pr, ls, b, hb, b1, b2, bd1, hc, hm⟩ := allfl hP hR hD
  have h2n : 2 ^ n ≤ 32 := (Nat.pow_le_pow_right (by omega) hn : 2 ^ n ≤ 2 ^ 5)
  by_cases x0 : x < 0
  · refine simS h ⟨-1, by unfold f_X6_few; rw [if_pos x0], ?_⟩
    show f_X7_few S _ = _
    unfold f_X7_few; rw [in_ok, if_pos x0]; rfl
  by_cases x2 : x ≤ 250
  · obtain ⟨j, hj, rfl⟩ := x250 x0 x2
    have pn := p100 hn
    have go := fun (M1 : Mm) (hM : gI M1 165 0 = nI n) (hmm : ∀ w M, w < 32 → M.1 = M1.1 → ∃ E, f_X7_measure M (nI w) = some ((), E) ∧ E.1 = M1.1 ∧ gJ E 163 23 = lN (p w).1 ∧ gJ E 163 24 = lN (p w).2.1) => fw_both (S := S) (M1 := M1) hn (ok := fun w => okf (p w).1 (p w).2.1 j) (x := j) p1 hM (fun w T hw u => few_c (n := n) (g := fun w => (p w).1) (d := fun w => (p w).2.1) (p100p (5 - n)) hj (fun w => by have := K_mul2 hn (c := 1) (show (p w).1 + (p w).2.1 ≤ 1 * 100 ^ n by have := (bd1 w).1; omega); omega) hw u (fun w T hw u => by
      obtain ⟨E, e1, e2, e3, e4, -⟩ := hc w T hw u
      exact ⟨E, e1, e2, e3, e4⟩)) (fun kk x2 w M hw hM => few_m (n := n) (g := fun w => (p w).1) (d := fun w => (p w).2.1) hj (fun w => by have := (bd1 w).1; omega) hw hM hmm) (2 ^ n) 0 400 400 (-9) 6 (by omega) (by omega) (by omega) (Or.inl ⟨rfl, rfl⟩) S ⟨rfl, rfl⟩
    obtain ⟨M1, m1, m2, m3⟩ := hm S rfl
    obtain ⟨res0, ⟨E, e1, e2⟩, -⟩ := go M1 (by unfold gI; rw [m2 165 (by omega)]; exact p2) (fun w M hw hM => by
      obtain ⟨E, w1, w2, -, -, w5, w6, -⟩ := m3 w M hw hM
      exact ⟨E, w1, w2, w5, w6⟩)
    obtain ⟨N1, n1, n2, n3⟩ := hm E e2.1
    obtain ⟨res, ⟨E', e1', e2'⟩, e3'⟩ := go N1 (by unfold gI; rw [n2 165 (by omega)]; exact p2) (fun w M hw hM => by
      obtain ⟨E, w1, w2, -, -, w5, w6, -⟩ := n3 w M hw hM
      exact ⟨E, w1, w2, w5, w6⟩)
    have eqE : (res0, E) = (res, E') := Option.some.inj (e1.symm.trans e1')
    have e4 : res0 = res := congrArg Prod.fst eqE
    obtain ⟨Z, z1⟩ := e3' N1 rfl
    have k1 : f_X6_few S (nI j) = some (res0, E) := by unfold f_X6_few; rw [if_neg x0, if_pos x2]; exact e1
    have k2 : f_X7_few E (nI j) = some (res0, Z) := by
      unfold f_X7_few
      rw [in_ok, if_neg x0, if_neg (Int32.not_lt.mpr x2), bd_ok, if_neg one0, n1, bd_ok, e4]
      exact z1
    exact ⟨res0, E, Z, k1, k2, Inv_scr h (cc_X6_few k1) (cm_X7_few k2)⟩
  · refine simS h ⟨-1, by unfold f_X6_few; rw [if_neg x0, if_neg x2], ?_⟩
    show f_X7_few S _ = _
    unfold f_X7_few; rw [in_ok, if_neg x0, if_pos (Int32.not_le.mp x2)]; rfl
