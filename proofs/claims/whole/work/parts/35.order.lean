def CF (S T : Mm) : Prop := (∀ a, a ≠ 161 → a ≠ 162 → T.1 a = S.1 a) ∧ T.2.2 = S.2.2
def MF (S M : Mm) : Prop := ∀ a, a ≠ 161 → a ≠ 162 → a ≠ 174 → a ≠ 177 → M.1 a = S.1 a
theorem ord83 {kk : Int32 → Int64 → Int32 → Mm → Option (Int32 × Mm)} {x1 : Int32} {xm : Int64} {M0 : Mm} : ∀ (r j fu : Nat) (M : Mm), j + r = 5 → r < fu → kp 177 M0 M → (∀ i, i < j → gI M 177 i = gI M0 174 i) → ∃ E, f_X7_bestOrder_83 kk fu x1 xm (nI j) M = bd (f_X7_nextRow E) (fun r S => kk x1 xm r S) ∧ kp 177 M0 E ∧ ∀ i, i < 5 → gI E 177 i = gI M0 174 i := by
  intro r
  induction r with
  | zero =>
    intro j fu M hj hf h1 h2
    obtain ⟨f', rfl⟩ : ∃ f', fu = f' + 1 := ⟨fu - 1, by omega⟩
    rw [f_X7_bestOrder_83, show j = 5 by omega, if_pos (by decide)]
    exact ⟨M, rfl, h1, fun i hi => h2 i (by omega)⟩
  | succ r ih =>
    intro j fu M hj hf h1 h2
    obtain ⟨f', rfl⟩ : ∃ f', fu = f' + 1 := ⟨fu - 1, by omega⟩
    rw [f_X7_bestOrder_83, if_neg (show ¬ 5 ≤ nI j from nI_ge (b := 5) (by omega) (by decide)), bnd_ok (inB_nI (by omega) (by decide)), bnd_ok (inB_nI (by omega) (by decide)), nm_ok, nm_ok, nI_1, nI_clamp (by omega)]
    refine ih (j + 1) f' _ (by omega) (by omega) (kp_t h1 kp_s) (fun i hi => ?_)
    by_cases e : i = j
    · rw [gI_sI, if_pos ⟨rfl, e⟩, e]; unfold gI; rw [h1.1 174 (by omega)]
    · rw [gI_sI, if_neg (by omega)]; exact h2 i (by omega)
theorem ord_both {S : Mm} {n : Nat} (hn : n ≤ 5) {K : Nat} (hK : 0 < K) {lw : List Nat → Bool} {c : List Nat → Nat} (hck : ∀ l, (∀ i, i < n → l.getD i 0 < n) → c l * K ≤ 7440000000000) (hC : gI S (pl S) 0 = nI n) (hpl : pl S ≤ 9) (h165 : gI S 165 0 = nI n)
    (hc : ∀ l T, (∀ i, i < n → l.getD i 0 < n) → CF S T → RowN n T l → f_X4_allows T (pl T) 161 = some (bI (lw l), T) ∧ ∃ E, f_X0_through T (pl T) 16 161 (gI T 16 3) = some ((), E) ∧ U158 T E ∧ gJ E 158 2 = lN (c l * K))
    (hm : ∀ l M, (∀ i, i < n → l.getD i 0 < n) → MF S M → Row 174 M l → f_X7_isLawful M = some (bI (lw l), M) ∧ ∃ E, f_X7_measure M (gI M 172 10) = some ((), E) ∧ E.1 = M.1 ∧ gJ E 163 22 = lN (c l))
    {x : Nat} (hx : x < n) : ∀ (k : Nat) (l : List Nat) (t fu fu' : Nat) (st : Bool) (xc xm : Int64) (v : Nat) (B : Nat → Int32), chk n k l = true → t + k ≤ 120 → k < fu → k < fu' → (st = false → xc = 10000000000000 ∧ xm = -1 ∧ lw l = true) → (st = true → xc = lN (v * K) ∧ xm = lN v ∧ v * K ≤ 7440000000000) → ∀ T, CF S T → RowN n T l → (st = true → ∀ i, i < n → gI T 162 i = B i) → ∃ B' : Nat → Int32, (∃ E, f_X6_findLeastOrder_32 fu xc (nI t) T = some ((), E) ∧ CF S E ∧ ∀ i, i < n → gI E 162 i = B' i) ∧ ∀ M, MF S M → Row 174 M l → (st = true → ∀ i, i < n → gI M 177 i = B i) → ∃ E, f_X7_bestOrder_37 fu' (nI x) xm 1 M = some (B' x, E) := by
  have hkl : ∀ v, v ≤ v * K := fun v => Nat.le_mul_of_pos_right v hK
  intro k
  induction k with
  | zero => intro l t fu fu' st xc xm v B h; exact absurd h (by simp [chk])
  | succ k ih =>
    intro l t fu fu' st xc xm v B h ht hf hf' hs0 hs1 T hT hrow hB
    obtain ⟨f1, rfl⟩ : ∃ f1, fu = f1 + 1 := ⟨fu - 1, by omega⟩
    obtain ⟨f2, rfl⟩ : ∃ f2, fu' = f2 + 1 := ⟨fu' - 1, by omega⟩
    obtain ⟨good, good5, r, l', hr, hchk, hadv, hnext⟩ := chk_step hn (by omega) h
    have plT : ∀ T, CF S T → gI T (pl T) 0 = nI n := fun T hT => by
      have : pl T = pl S := by unfold pl; rw [hT.2]
      rw [this]; unfold gI; rw [hT.1 _ (by omega) (by omega)]; exact hC
    have g165 : ∀ T, CF S T → gI T 165 0 = nI n := fun T hT => by unfold gI; rw [hT.1 165 (by omega) (by omega)]; exact h165
    have m165 : ∀ M, MF S M → gI M 165 0 = nI n := fun M hM => by unfold gI; rw [hM 165 (by omega) (by omega) (by omega) (by omega)]; exact h165
    have tl : ∀ (xc' xm' : Int64) (v' : Nat) (B1 : Nat → Int32), xc' = lN (v' * K) → xm' = lN v' → v' * K ≤ 7440000000000 → ∀ T2, CF S T2 → RowN n T2 l → (∀ i, i < n → gI T2 162 i = B1 i) → ∃ B' : Nat → Int32, (∃ E, f_X6_findLeastOrder_124 (f_X6_findLeastOrder_32 f1) xc' (nI t) T2 = some ((), E) ∧ CF S E ∧ ∀ i, i < n → gI E 162 i = B' i) ∧ ∀ M2, MF S M2 → Row 174 M2 l → (∀ i, i < n → gI M2 177 i = B1 i) → ∃ E, bd (f_X7_nextRow M2) (fun r S => f_X7_bestOrder_37 f2 (nI x) xm' r S) = some (B' x, E) := by
      intro xc' xm' v' B1 e1 e2 e3 T2 hT2 hr2 hB1
      obtain ⟨T3, a1, a2, a3⟩ := hadv T2 (g165 T2 hT2) hr2
      have hT3 : CF S T3 := ⟨fun a h1 h2 => by rw [a2.1 a h1]; exact hT2.1 a h1 h2, by rw [a2.2]; exact hT2.2⟩
      have hB3 : ∀ i, i < n → gI T3 162 i = B1 i := fun i hi => by rw [← hB1 i hi]; unfold gI; rw [a2.1 162 (by omega)]
      have mnext : ∀ M2, MF S M2 → Row 174 M2 l → (∀ i, i < n → gI M2 177 i = B1 i) → ∃ M3, f_X7_nextRow M2 = some (r, M3) ∧ MF S M3 ∧ (r = 1 → Row 174 M3 l') ∧ ∀ i, i < n → gI M3 177 i = B1 i := fun M2 q1 q2 q3 => by
        obtain ⟨M3, b1, b2, b3⟩ := hnext M2 (m165 M2 q1) q2
        exact ⟨M3, b1, fun a h1 h2 h3 h4 => by rw [b2.1 a h3]; exact q1 a h1 h2 h3 h4, b3, fun i hi => by rw [← q3 i hi]; unfold gI; rw [b2.1 177 (by omega)]⟩
      unfold f_X6_findLeastOrder_124
      rw [plT T2 hT2, a1, bd_ok]
      rcases hr with hr | hr
      · rw [if_pos hr]
        refine ⟨B1, ⟨T3, rfl, hT3, hB3⟩, fun M2 q1 q2 q3 => ?_⟩
        obtain ⟨M3, b1, b2, b3, b4⟩ := mnext M2 q1 q2 q3
        obtain ⟨f3, rfl⟩ : ∃ f3, f2 = f3 + 1 := ⟨f2 - 1, by omega⟩
        refine ⟨M3, ?_⟩
        rw [b1, bd_ok, hr, f_X7_bestOrder_37, if_pos rfl, bnd_ok (inB_nI (by omega) (by decide)), nI_clamp (by omega), b4 x hx]
      · rw [if_neg (by rw [hr]; decide), nm_ok, nI_1]
        obtain ⟨B', c1, c2⟩ := ih l' (t + 1) f1 f2 true xc' xm' v' B1 (hchk hr) (by omega) (by omega) (by omega) (fun q => by simp at q) (fun _ => ⟨e1, e2, e3⟩) T3 hT3 (a3 hr) (fun _ => hB3)
        refine ⟨B', c1, fun M2 q1 q2 q3 => ?_⟩
        obtain ⟨M3, b1, b2, b3, b4⟩ := mnext M2 q1 q2 q3
        rw [b1, bd_ok, hr]
        exact c2 M3 b2 (b3 hr) (fun _ => b4)
    obtain ⟨w1, E, w2, w3, w4⟩ := hc l T good hT hrow
    have hE : CF S E := ⟨fun a h1 h2 => by rw [w3.1]; exact hT.1 a h1 h2, w3.2.trans hT.2⟩
    have hrE : RowN n E l := fun i hi => by rw [U158_g w3]; exact hrow i hi
    have bw := hck l good
    have bw2 := hkl (c l)
    rw [f_X6_findLeastOrder_32, if_neg (show ¬ 120 ≤ nI t from nI_ge (b := 120) (by omega) (by decide)), w1, bd_ok]
    -- taking this row
    have take : ∃ B' : Nat → Int32, (∃ E', bnd (decide (¬ (0 : Int32) < 0 ∧ ¬ (0 : Int32) < 0 ∧ ¬ (gI E (pl E) 0) < 0 ∧ (0 : Int32).toNatClampNeg + (gI E (pl E) 0).toNatClampNeg ≤ LL 161 ∧ (0 : Int32).toNatClampNeg + (gI E (pl E) 0).toNatClampNeg ≤ LL 162)) (nm (cpI E 161 (0 : Int32).toNatClampNeg 162 (0 : Int32).toNatClampNeg (gI E (pl E) 0).toNatClampNeg) (fun S16 => f_X6_findLeastOrder_124 (f_X6_findLeastOrder_32 f1) (lN (c l * K)) (nI t) S16)) = some ((), E') ∧ CF S E' ∧ ∀ i, i < n → gI E' 162 i = B' i) ∧ ∀ M, MF S M → Row 174 M l → ∃ E', f_X7_bestOrder_83 (f_X7_bestOrder_37 f2) 400 (nI x) (lN (c l)) 0 M = some (B' x, E') := by
      rw [plT E hE, nI_clamp (by omega), cl0, bnd_ok (decide_eq_true ⟨by decide, by decide, nI_pos (by omega), by rw [LL161]; omega, by rw [show LL 162 = 5 by decide]; omega⟩), nm_ok]
      generalize hT2 : cpI E 161 0 162 0 n = T2
      have k2 : CF S T2 := by rw [← hT2]; exact ⟨fun a h1 h2 => by rw [cpI_ne h2]; exact hE.1 a h1 h2, hE.2⟩
      have k3 : RowN n T2 l := fun i hi => by rw [← hT2, gI_cp, if_neg (by omega)]; exact hrE i hi
      have k4 : ∀ i, i < n → gI T2 162 i = nI (l.getD i 0) := fun i hi => by
        rw [← hT2, gI_cp, if_pos rfl]
        unfold va_cpy
        rw [if_pos ⟨by omega, by omega⟩, show 0 + (i - 0) = i by omega]
        exact hrE i hi
      obtain ⟨B', c1, c2⟩ := tl (lN (c l * K)) (lN (c l)) (c l) (fun i => nI (l.getD i 0)) rfl rfl bw T2 k2 k3 k4
      refine ⟨B', c1, fun M q1 q2 => ?_⟩
      obtain ⟨E', o1, o2, o3⟩ := ord83 (kk := f_X7_bestOrder_37 f2) (x1 := nI x) (xm := lN (c l)) (M0 := M) 5 0 400 M (by omega) (by omega) kp_0 (fun i hi => by omega)
      rw [show (0 : Int32) = nI 0 from rfl, o1]
      refine c2 E' (fun a h1 h2 h3 h4 => by rw [o2.1 a h4]; exact q1 a h1 h2 h3 h4) (fun i hi => ?_) (fun i hi => ?_)
      · rw [← q2 i hi]; unfold gI; rw [o2.1 174 (by omega)]
      · rw [o3 i (by omega)]; exact q2 i (by omega)
    have mpre : ∀ M, MF S M → Row 174 M l → f_X7_bestOrder_37 (f2 + 1) (nI x) xm 1 M = (if bI (lw l) = 0 then bd (f_X7_nextRow M) (fun r S => f_X7_bestOrder_37 f2 (nI x) xm r S) else bnd (inB 10 663) (bd (f_X7_measure M (gI M 172 10)) (fun _ S12 => if lg_cmp xm 0 < 0 then f_X7_bestOrder_83 (f_X7_bestOrder_37 f2) 400 (nI x) (gJ S12 163 22) 0 S12 else if 0 ≤ lg_cmp (gJ S12 163 22) xm then bd (f_X7_nextRow S12) (fun r S => f_X7_bestOrder_37 f2 (nI x) xm r S) else f_X7_bestOrder_83 (f_X7_bestOrder_37 f2) 400 (nI x) (gJ S12 163 22) 0 S12))) := fun M q1 q2 => by
      rw [f_X7_bestOrder_37, if_neg one0, (hm l M good q1 q2).1, bd_ok]
      rfl
    cases hl : lw l with
    | false =>
      rw [if_pos (show bI false = 0 from rfl)]
      have hst : st = true := by
        cases hq : st with
        | false => have := (hs0 hq).2.2; rw [hl] at this; exact absurd this (by decide)
        | true => rfl
      obtain ⟨e1, e2, e3⟩ := hs1 hst
      obtain ⟨B', c1, c2⟩ := tl xc xm v B e1 e2 e3 T hT hrow (hB hst)
      refine ⟨B', c1, fun M q1 q2 q3 => ?_⟩
      rw [mpre M q1 q2, hl, if_pos (show bI false = 0 from rfl)]
      exact c2 M q1 q2 (q3 hst)
    | true =>
      rw [if_neg (show ¬ bI true = 0 by decide), w2, bd_ok, w4]
      have mpre2 : ∀ M, MF S M → Row 174 M l → ∃ Z, f_X7_bestOrder_37 (f2 + 1) (nI x) xm 1 M = (if lg_cmp xm 0 < 0 then f_X7_bestOrder_83 (f_X7_bestOrder_37 f2) 400 (nI x) (lN (c l)) 0 Z else if 0 ≤ lg_cmp (lN (c l)) xm then bd (f_X7_nextRow Z) (fun r S => f_X7_bestOrder_37 f2 (nI x) xm r S) else f_X7_bestOrder_83 (f_X7_bestOrder_37 f2) 400 (nI x) (lN (c l)) 0 Z) ∧ Z.1 = M.1 := fun M q1 q2 => by
        obtain ⟨-, Z, z1, z2, z3⟩ := hm l M good q1 q2
        refine ⟨Z, ?_, z2⟩
        rw [mpre M q1 q2, hl, if_neg (show ¬ bI true = 0 by decide), bnd_ok (by decide), z1, bd_ok, z3]
      have zf : ∀ M Z : Mm, MF S M → Row 174 M l → Z.1 = M.1 → MF S Z ∧ Row 174 Z l ∧ ∀ i, gI Z 177 i = gI M 177 i := fun M Z q1 q2 q3 => ⟨fun a h1 h2 h3 h4 => by rw [q3]; exact q1 a h1 h2 h3 h4, fun i hi => by unfold gI; rw [q3]; exact q2 i hi, fun i => by unfold gI; rw [q3]⟩
      cases hq : st with
      | false =>
        obtain ⟨e1, e2, -⟩ := hs0 hq
        rw [if_neg (fun q => by
          rw [lg_cmp_ge, e1, show (10000000000000 : Int64) = lN 10000000000000 from rfl, pk_lLE (by omega) (by omega)] at q
          omega), nm_ok]
        obtain ⟨B', c1, c2⟩ := take
        refine ⟨B', c1, fun M q1 q2 _ => ?_⟩
        obtain ⟨Z, z1, z2⟩ := mpre2 M q1 q2
        obtain ⟨y1, y2, -⟩ := zf M Z q1 q2 z2
        rw [z1, e2, if_pos (by decide)]
        exact c2 Z y1 y2
      | true =>
        obtain ⟨e1, e2, e3⟩ := hs1 hq
        have hvk := hkl v
        have nneg : ¬ lg_cmp xm 0 < 0 := fun q => by
          rw [lg_cmp_lt, e2, show (0 : Int64) = lN 0 from rfl, pk_lLT (by omega) (by omega)] at q
          omega
        have cc : 0 ≤ lg_cmp (lN (c l * K)) xc ↔ v ≤ c l := by rw [lg_cmp_ge, e1, pk_lLE (by omega) (by omega), mulK hK]
        have cm : 0 ≤ lg_cmp (lN (c l)) xm ↔ v ≤ c l := by rw [lg_cmp_ge, e2, pk_lLE (by omega) (by omega)]
        by_cases hv : v ≤ c l
        · rw [if_pos (cc.2 hv)]
          obtain ⟨B', c1, c2⟩ := tl xc xm v B e1 e2 e3 E hE hrE (fun i hi => by rw [U158_g w3]; exact hB hq i hi)
          refine ⟨B', c1, fun M q1 q2 q3 => ?_⟩
          obtain ⟨Z, z1, z2⟩ := mpre2 M q1 q2
          obtain ⟨y1, y2, y3⟩ := zf M Z q1 q2 z2
          rw [z1, if_neg nneg, if_pos (cm.2 hv)]
          exact c2 Z y1 y2 (fun i hi => by rw [y3]; exact q3 rfl i hi)
        · rw [if_neg (fun q => hv (cc.1 q)), nm_ok]
          obtain ⟨B', c1, c2⟩ := take
          refine ⟨B', c1, fun M q1 q2 _ => ?_⟩
          obtain ⟨Z, z1, z2⟩ := mpre2 M q1 q2
          obtain ⟨y1, y2, -⟩ := zf M Z q1 q2 z2
          rw [z1, if_neg nneg, if_neg (fun q => hv (cm.1 q))]
          exact c2 Z y1 y2
