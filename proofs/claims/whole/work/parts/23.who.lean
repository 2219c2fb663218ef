def V63 (S M : Mm) : Prop := (∀ a, 163 < a → M.1 a = S.1 a) ∧ (∀ j, j ≠ 18 → j ≠ 19 → gI M 163 j = gI S 163 j)
theorem go_cv {S T : Mm} {n : Nat} {F sec lk ms ah : Nat → Nat} {pr : Nat} {L : Nat → Nat} (hD : ID S) (D : DtC S n F sec lk ms ah pr) (hL : LnC S n L) {w z : Nat} (hw : w < 32) (hz : z ≤ 9999) (u : U157 S T) : ∃ E, f_X2_go T (pl T) 16 (nI w) (nI z) = some ((), E) ∧ U157 S E ∧ f_X2_fate E = some (nI (way L sec F lk ms w z n 0 false 0).1, E) := by
  have hp : pl T = pl S := by unfold pl; rw [u.2]
  have hd : dr T = dr S := by unfold dr; rw [u.2]
  obtain ⟨E, h1, h2, h3⟩ := go_c (S := T) (w := w) (z := z) (by unfold ID; rw [hp, hd]; exact hD) (DtC_keep hD D hp (fun a ha => u.1 a (by omega))) (L := L) ⟨fun i hi => by unfold gI; rw [u.1 17 (by omega)]; exact hL.1 i hi, hL.2⟩ hw hz
  exact ⟨E, h1, ⟨fun a ha => by rw [h2.1 a ha, u.1 a ha], h2.2.trans u.2⟩, fate_ok D.1 h3⟩
theorem go_mv {S M : Mm} {n : Nat} {F sec lk ms ah : Nat → Nat} {pr : Nat} {L : Nat → Nat} (hn : n ≤ 5) (D : DtM S n F sec lk ms ah pr) (hF : ∀ s, s < n → F s ≤ 9 ∧ ms s ≤ 9) (hL : LnM S n L) (hL2 : ∀ i, i < n → L i < n) {w z : Nat} (hw : w < 32) (hz : z ≤ 9999) (u : V63 S M) : ∃ E, f_X7_go M (nI z) (nI w) = some (nI (way L sec F lk ms w z n 0 false 0).1, E) ∧ V63 S E := by
  obtain ⟨E, h1, h2, -⟩ := go_m (S := M) hn (DtM_keep D (fun a h1 _ => u.1 a (by omega))) hF (L := L) (fun i hi => by unfold gI; rw [u.1 172 (by omega)]; exact hL i hi) hL2 hw hz
  exact ⟨E, h1, fun a ha => by rw [h2.1 a (by omega), u.1 a ha], fun j j1 j2 => by rw [h2.2.1 j j1 j2, u.2 j j1 j2]⟩
def fits (fw : Nat → Nat) (how : Nat → Int32) : Nat → Nat → Bool
  | 0, _ => true
  | r + 1, j => decide (nI (fw j) = how j) && fits fw how r (j + 1)
theorem ex_c {S : Mm} {t : Nat} {zs : Nat → Nat} {how : Nat → Int32} {fw : Nat → Nat} {w : Nat} (ht : t ≤ 6) (e8 : gI S 0 8 = nI t) (ez : ∀ j, j < t → gI S 155 j = nI (zs j) ∧ gI S 156 j = how j) (hgo : ∀ j T, j < t → U157 S T → ∃ E, f_X2_go T (pl T) 16 (nI w) (nI (zs j)) = some ((), E) ∧ U157 S E ∧ f_X2_fate E = some (nI (fw j), E)) : ∀ (r j fu : Nat) (T : Mm), j + r = t → r < fu → U157 S T → ∃ E, f_X6_explainsTold_2 fu (nI w) (nI j) T = some (bI (fits fw how r j), E) ∧ U157 S E := by
  intro r
  induction r with
  | zero =>
    intro j fu T hj hf u
    obtain ⟨f', rfl⟩ : ∃ f', fu = f' + 1 := ⟨fu - 1, by omega⟩
    refine ⟨T, ?_, u⟩
    rw [f_X6_explainsTold_2, show gI T 0 8 = nI t by unfold gI; rw [u.1 0 (by omega)]; exact e8, show j = t by omega, if_pos (nI_le (Nat.le_refl _) (by omega))]
    rfl
  | succ r ih =>
    intro j fu T hj hf u
    obtain ⟨f', rfl⟩ : ∃ f', fu = f' + 1 := ⟨fu - 1, by omega⟩
    obtain ⟨E, h1, h2, h3⟩ := hgo j T (by omega) u
    rw [f_X6_explainsTold_2, show gI T 0 8 = nI t by unfold gI; rw [u.1 0 (by omega)]; exact e8, if_neg (nI_ge (by omega) (by omega)), bnd_ok (inB_nI (by omega) (by decide)), nI_clamp (by omega), show gI T 155 j = nI (zs j) by unfold gI; rw [u.1 155 (by omega)]; exact (ez j (by omega)).1, h1, bd_ok, h3, bd_ok, bnd_ok (inB_nI (by omega) (by decide)), show gI E 156 j = how j by unfold gI; rw [h2.1 156 (by omega)]; exact (ez j (by omega)).2]
    unfold fits
    by_cases q : nI (fw j) = how j
    · rw [if_pos q, nm_ok, nI_1, decide_eq_true q, Bool.true_and]
      exact ih (j + 1) f' E (by omega) (by omega) h2
    · rw [if_neg q, decide_eq_false q, Bool.false_and]
      exact ⟨E, rfl, h2⟩
theorem ex_m {S : Mm} {t : Nat} {zs : Nat → Nat} {how : Nat → Int32} {fw : Nat → Nat} {w : Nat} (ht : t ≤ 6) (e8 : gI S 163 30 = nI t) (ez : ∀ j, j < t → gI S 178 j = nI (zs j) ∧ gI S 179 j = how j) (hgo : ∀ j T, j < t → V63 S T → ∃ E, f_X7_go T (nI (zs j)) (nI w) = some (nI (fw j), E) ∧ V63 S E) {kk : Int32 → Int32 → Int32 → Int32 → Int32 → Mm → Option (Int32 × Mm)} {x1 x2 x3 x4 : Int32} : ∀ (r j fu : Nat) (b : Bool) (M : Mm), j + r = t → r < fu → V63 S M → ∃ E, f_X7_who_50 kk fu x1 x2 x3 x4 (nI w) (bI b) (nI j) M = (if (b && fits fw how r j) = true then kk x1 (x2 + 1) (if x2 = 0 then nI w else x3) (x4 &&& nI w) (nI w + 1) E else kk x1 x2 x3 x4 (nI w + 1) E) ∧ V63 S E := by
  intro r
  induction r with
  | zero =>
    intro j fu b M hj hf u
    obtain ⟨f', rfl⟩ : ∃ f', fu = f' + 1 := ⟨fu - 1, by omega⟩
    refine ⟨M, ?_, u⟩
    rw [f_X7_who_50, show gI M 163 30 = nI t by rw [u.2 30 (by omega) (by omega)]; exact e8, show j = t by omega, if_pos (nI_le (Nat.le_refl _) (by omega))]
    cases b with
    | false => rw [if_pos (show bI false = 0 from rfl), nm_ok, if_neg (by simp)]
    | true =>
      rw [if_neg (show ¬ bI true = 0 by decide), if_pos (show (true && fits fw how 0 t) = true from rfl)]
      by_cases hx : x2 = 0
      · rw [if_pos hx, if_pos hx]; rfl
      · rw [if_neg hx, if_neg hx]; rfl
  | succ r ih =>
    intro j fu b M hj hf u
    obtain ⟨f', rfl⟩ : ∃ f', fu = f' + 1 := ⟨fu - 1, by omega⟩
    rw [f_X7_who_50, show gI M 163 30 = nI t by rw [u.2 30 (by omega) (by omega)]; exact e8, if_neg (nI_ge (by omega) (by omega))]
    cases b with
    | false =>
      rw [if_pos (show bI false = 0 from rfl), nm_ok, nI_1]
      obtain ⟨E, h1, h2⟩ := ih (j + 1) f' false M (by omega) (by omega) u
      refine ⟨E, ?_, h2⟩
      rw [show (0 : Int32) = bI false from rfl, h1]
      rfl
    | true =>
      obtain ⟨E, h1, h2⟩ := hgo j M (by omega) u
      rw [if_neg (show ¬ bI true = 0 by decide), bnd_ok (inB_nI (by omega) (by decide)), nI_clamp (by omega), show gI M 178 j = nI (zs j) by unfold gI; rw [u.1 178 (by omega)]; exact (ez j (by omega)).1, h1, bd_ok, bnd_ok (inB_nI (by omega) (by decide)), show gI E 179 j = how j by unfold gI; rw [h2.1 179 (by omega)]; exact (ez j (by omega)).2]
      unfold fits
      by_cases q : nI (fw j) = how j
      · rw [if_pos q, nm_ok, nI_1, decide_eq_true q, Bool.true_and]
        exact ih (j + 1) f' true E (by omega) (by omega) h2
      · rw [if_neg q, nm_ok, nI_1, decide_eq_false q, Bool.false_and]
        obtain ⟨E', h3, h4⟩ := ih (j + 1) f' false E (by omega) (by omega) h2
        refine ⟨E', ?_, h4⟩
        rw [show (0 : Int32) = bI false from rfl, h3]
        rfl
theorem shl_ok {n : Nat} (hn : n ≤ 5) : (1 : Int32) <<< (nI n &&& 31) = nI (2 ^ n) := by
  rcases (show n = 0 ∨ n = 1 ∨ n = 2 ∨ n = 3 ∨ n = 4 ∨ n = 5 by omega) with e | e | e | e | e | e <;> subst e <;> decide
theorem and_all {n w : Nat} (hn : n ≤ 5) (hw : w < 2 ^ n) : (nI (2 ^ n) - 1) &&& nI w = nI w := by
  have h : ((List.range 6).all fun n => (List.range (2 ^ n)).all fun w => decide ((nI (2 ^ n) - 1) &&& nI w = nI w)) = true := by decide
  have h1 := List.all_eq_true.mp h n (List.mem_range.mpr (by omega))
  exact of_decide_eq_true (List.all_eq_true.mp h1 w (List.mem_range.mpr hw))
theorem who_both {S0 S : Mm} {n : Nat} {ok : Nat → Bool} (hn : n ≤ 5) {x1 : Int32} (hC : gI S (pl S) 0 = nI n) (hpl : pl S ≤ 9) (hM : gI S 165 0 = nI n)
    (hc : ∀ w T, w < 2 ^ n → U157 S T → ∃ E, f_X6_explainsTold T (nI w) = some (bI (ok w), E) ∧ U157 S E)
    (hm : ∀ kk x2 x3 x4 w M, w < 2 ^ n → V63 S M → ∃ E, f_X7_who_50 kk 400 x1 x2 x3 x4 (nI w) 1 0 M = (if ok w = true then kk x1 (x2 + 1) (if x2 = 0 then nI w else x3) (x4 &&& nI w) (nI w + 1) E else kk x1 x2 x3 x4 (nI w + 1) E) ∧ V63 S E) :
    ∀ (r w fu fu' m : Nat) (fi ac am : Int32), w + r = 2 ^ n → r < fu → r < fu' → m ≤ w → (m = 0 → ac = -9 ∧ am = nI (2 ^ n) - 1) → (m ≠ 0 → ac = am) → ∀ T, U157 S T → ∃ res, (∃ E, f_X6_who_23 fu x1 (nI m) fi ac (nI w) T = some (res, E)) ∧ ∀ M, V63 S M → ∃ E, f_X7_who_31 fu' x1 (nI m) fi am (nI w) M = some (res, E) := by
  have h2n : 2 ^ n ≤ 32 := (Nat.pow_le_pow_right (by omega) hn : 2 ^ n ≤ 2 ^ 5)
  intro r
  induction r with
  | zero =>
    intro w fu fu' m fi ac am hw hf hf' hmw h0 h1 T u
    obtain ⟨f1, rfl⟩ : ∃ f1, fu = f1 + 1 := ⟨fu - 1, by omega⟩
    obtain ⟨f2, rfl⟩ : ∃ f2, fu' = f2 + 1 := ⟨fu' - 1, by omega⟩
    have hT : gI T (pl T) 0 = nI n := by
      have : pl T = pl S := by unfold pl; rw [u.2]
      rw [this]; unfold gI; rw [u.1 _ (by omega)]; exact hC
    refine ⟨if x1 = 0 then nI m else if x1 = 1 then fi else ac, ⟨T, ?_⟩, fun M v => ⟨M, ?_⟩⟩
    · rw [f_X6_who_23, hT, shl_ok hn, show w = 2 ^ n by omega, if_pos (nI_le (Nat.le_refl _) (by omega))]
      split
      · rfl
      · split <;> rfl
    · rw [f_X7_who_31, bnd_ok (by decide), show (0 : Int32).toNatClampNeg = 0 from rfl, show gI M 165 0 = nI n by unfold gI; rw [v.1 165 (by omega)]; exact hM, shl_ok hn, show w = 2 ^ n by omega, if_pos (nI_le (Nat.le_refl _) (by omega))]
      split
      · rfl
      · split
        · rfl
        · by_cases hm0 : m = 0
          · rw [hm0, if_pos (show nI 0 = 0 from rfl), (h0 hm0).1]
          · rw [if_neg (show ¬ nI m = 0 by rw [show (0 : Int32) = nI 0 from rfl, nI_eq (by omega) (by omega)]; exact hm0), h1 hm0]
  | succ r ih =>
    intro w fu fu' m fi ac am hw hf hf' hmw h0 h1 T u
    obtain ⟨f1, rfl⟩ : ∃ f1, fu = f1 + 1 := ⟨fu - 1, by omega⟩
    obtain ⟨f2, rfl⟩ : ∃ f2, fu' = f2 + 1 := ⟨fu' - 1, by omega⟩
    have hT : gI T (pl T) 0 = nI n := by
      have : pl T = pl S := by unfold pl; rw [u.2]
      rw [this]; unfold gI; rw [u.1 _ (by omega)]; exact hC
    have hw2 : w < 2 ^ n := by omega
    obtain ⟨E, e1, e2⟩ := hc w T hw2 u
    rw [f_X6_who_23, hT, shl_ok hn, if_neg (nI_ge hw2 (by omega)), e1, bd_ok]
    have hz : nI m = 0 ↔ m = 0 := by rw [show (0 : Int32) = nI 0 from rfl, nI_eq (by omega) (by omega)]
    have mstep : ∀ M, V63 S M → ∃ E, f_X7_who_31 (f2 + 1) x1 (nI m) fi am (nI w) M = (if ok w = true then f_X7_who_31 f2 x1 (nI m + 1) (if nI m = 0 then nI w else fi) (am &&& nI w) (nI w + 1) E else f_X7_who_31 f2 x1 (nI m) fi am (nI w + 1) E) ∧ V63 S E := fun M v => by
      rw [f_X7_who_31, bnd_ok (by decide), show (0 : Int32).toNatClampNeg = 0 from rfl, show gI M 165 0 = nI n by unfold gI; rw [v.1 165 (by omega)]; exact hM, shl_ok hn, if_neg (nI_ge hw2 (by omega))]
      exact hm (f_X7_who_31 f2) (nI m) fi am w M hw2 v
    cases hok : ok w with
    | false =>
      rw [if_pos (show bI false = 0 from rfl), nm_ok, nI_1]
      obtain ⟨res, a1, a2⟩ := ih (w + 1) f1 f2 m fi ac am (by omega) (by omega) (by omega) (by omega) h0 h1 E e2
      refine ⟨res, a1, fun M v => ?_⟩
      obtain ⟨E', m1, m2⟩ := mstep M v
      rw [m1, hok, if_neg (by decide), nI_1]
      exact a2 E' m2
    | true =>
      rw [if_neg (show ¬ bI true = 0 by decide)]
      by_cases hm0 : m = 0
      · obtain ⟨p1, p2⟩ := h0 hm0
        rw [if_pos (hz.2 hm0)]
        unfold f_X6_who_57
        rw [if_pos (hz.2 hm0), nm_ok, nm_ok, nI_1, nI_1]
        obtain ⟨res, a1, a2⟩ := ih (w + 1) f1 f2 (m + 1) (nI w) (nI w) (nI w) (by omega) (by omega) (by omega) (by omega) (fun q => by omega) (fun _ => rfl) E e2
        refine ⟨res, a1, fun M v => ?_⟩
        obtain ⟨E', m1, m2⟩ := mstep M v
        rw [m1, hok, if_pos rfl, nI_1, nI_1, if_pos (hz.2 hm0), p2, and_all hn hw2]
        exact a2 E' m2
      · rw [if_neg (fun q => hm0 (hz.1 q))]
        unfold f_X6_who_57
        rw [if_neg (fun q => hm0 (hz.1 q)), nm_ok, nm_ok, nm_ok, nI_1, nI_1]
        obtain ⟨res, a1, a2⟩ := ih (w + 1) f1 f2 (m + 1) fi (ac &&& nI w) (am &&& nI w) (by omega) (by omega) (by omega) (by omega) (fun q => by omega) (fun _ => by rw [h1 hm0]) E e2
        refine ⟨res, a1, fun M v => ?_⟩
        obtain ⟨E', m1, m2⟩ := mstep M v
        rw [m1, hok, if_pos rfl, nI_1, nI_1, if_neg (fun q => hm0 (hz.1 q))]
        exact a2 E' m2
theorem sm_who : sim_who Inv := fun S h x => by
  obtain ⟨n, hP, hR, hI, hT, hG, hD, hJ⟩ := id h
  have hn := hP.1
  obtain ⟨F, sec, lk, ms, ah, pr, L, b, DC, DM, LC, LM, -⟩ := Dt_of hP hR
  obtain ⟨t, t1, t2, t3, t4⟩ := hG
  by_cases x0 : x < 0
  · refine simS h ⟨-1, by unfold f_X6_who; rw [if_pos x0], ?_⟩
    show f_X7_who S _ = _
    unfold f_X7_who; rw [in_ok, if_pos x0]; rfl
  by_cases x2 : x ≤ 2
  · have hz : ∃ zs : Nat → Nat, ∀ j, j < t → zs j ≤ 9999 ∧ gI S 155 j = nI (zs j) ∧ gI S 178 j = nI (zs j) := ⟨fun j => (gI S 155 j).toNatClampNeg, fun j hj => by
      obtain ⟨⟨z, z1, z2, z3⟩, -⟩ := t4 j hj
      obtain ⟨a1, a2⟩ := of_clamp (by omega) z2
      dsimp only
      exact ⟨by rw [a2]; exact z1, a1, by rw [a2]; exact z3⟩⟩
    obtain ⟨zs, hz⟩ := hz
    have h32 : ∀ w, w < 2 ^ n → w < 32 := fun w hw => pow_n hn hw
    have hpl : pl S ≤ 9 := by rcases hD with ⟨y, -⟩ | ⟨y, -⟩ <;> omega
    have u0 : U157 S S := ⟨fun _ _ => rfl, rfl⟩
    obtain ⟨res, ⟨E, e1⟩, e2⟩ := who_both (S0 := S) (S := S) (n := n) (ok := fun w => fits (fun j => (way L sec F lk ms w (zs j) n 0 false 0).1) (fun j => gI S 156 j) t 0) hn (x1 := x) DC.2.1 hpl DM.1
      (fun w T hw u => ex_c (S := S) (zs := zs) t1 t2 (fun j hj => ⟨(hz j hj).2.1, rfl⟩) (fun j T hj u => go_cv hD DC LC (h32 w hw) (hz j hj).1 u) t 0 400 T (by omega) (by omega) u)
      (fun kk x2 x3 x4 w M hw v => ex_m (S := S) (zs := zs) t1 t3 (fun j hj => ⟨(hz j hj).2.2, (t4 j hj).2.symm⟩) (fun j T hj u => go_mv hn DM (fun s hs => ⟨(DC.2.2.2.2 s hs).2.1, (DC.2.2.2.2 s hs).2.2.2.2.2.2.2.1⟩) LM LC.2 (h32 w hw) (hz j hj).1 u) t 0 400 true M (by omega) (by omega) v)
      (2 ^ n) 0 400 400 0 (-9) (-9) (nI (2 ^ n) - 1) (by omega) (by have := (Nat.pow_le_pow_right (by omega) hn : 2 ^ n ≤ 2 ^ 5); omega) (by have := (Nat.pow_le_pow_right (by omega) hn : 2 ^ n ≤ 2 ^ 5); omega) (by omega) (fun _ => ⟨rfl, rfl⟩) (fun q => absurd rfl q) S u0
    have ec : f_X6_who S x = some (res, E) := by
      unfold f_X6_who
      rw [if_neg x0, if_pos x2]
      exact e1
    have hcc := cc_X6_who ec
    have v : V63 S E := ⟨fun a ha => hcc.2.1 a (by omega) (by omega) (by omega), fun j _ _ => by unfold gI; rw [hcc.2.1 163 (by omega) (by omega) (by omega)]⟩
    obtain ⟨E', m1⟩ := e2 E v
    have em : f_X7_who E x = some (res, E') := by
      unfold f_X7_who
      rw [in_ok, if_neg x0, if_neg (Int32.not_lt.mpr x2), bd_ok, if_neg (by decide), bnd_ok (by decide), nm_ok, show (0 : Int32).toNatClampNeg = 0 from rfl, show gI E 165 0 = nI n by unfold gI; rw [v.1 165 (by omega)]; exact DM.1, shl_ok hn]
      exact m1
    exact ⟨res, E, E', ec, em, Inv_scr h hcc (cm_X7_who em)⟩
  · refine simS h ⟨-1, by unfold f_X6_who; rw [if_neg x0, if_neg x2], ?_⟩
    show f_X7_who S _ = _
    unfold f_X7_who; rw [in_ok, if_neg x0, if_pos (Int32.not_le.mp x2)]; rfl
