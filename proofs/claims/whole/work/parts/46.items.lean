/-! item by item, on both sides -/
def ws_JO (d : Nat) (T M : Mm) (X Y : Option (Int32 × Mm)) : Prop :=
  (∃ E F k' n', k' ≤ 150 ∧ X = some (nI k', E) ∧ Y = f_X7_shop_91 (nI k') F ∧ ws_FC d T E ∧ ws_FM M F ∧ gI F 163 15 = -9 ∧ ws_DR d n' E F) ∨
  (∃ E F s x, s ≤ 150 ∧ X = some (-1, E) ∧ Y = f_X7_shop_91 x F ∧ ws_FC d T E ∧ ws_FM M F ∧ gI E 1 2 = nI s ∧ gI F 163 15 = nI s)
theorem JO_t {d : Nat} {T M E F : Mm} {X Y : Option (Int32 × Mm)} (h1 : ws_FC d T E) (h2 : ws_FM M F) (h : ws_JO d E F X Y) : ws_JO d T M X Y := by
  rcases h with ⟨E1, F1, k', n', a1, a2, a3, a4, a5, a6⟩ | ⟨E1, F1, s, x, a1, a2, a3, a4, a5, a6⟩
  · exact Or.inl ⟨E1, F1, k', n', a1, a2, a3, ws_FCt h1 a4, ws_FMt h2 a5, a6⟩
  · exact Or.inr ⟨E1, F1, s, x, a1, a2, a3, ws_FCt h1 a4, ws_FMt h2 a5, a6⟩
theorem sh_stop {f : Nat} {x : Int32} {M : Mm} (h : ¬ gI M 163 15 = -9) (hf : 0 < f) : f_X7_shop_21 f x M = f_X7_shop_91 x M := by
  obtain ⟨g, rfl⟩ : ∃ g, f = g + 1 := ⟨f - 1, by omega⟩
  rw [f_X7_shop_21, if_neg h]
def tlM (f : Nat) (x1 : Int32) (Y : Option (Unit × Mm)) : Option (Int32 × Mm) := bd Y (fun _ S13 => if (gI S13 163 13) = 2 then (bd (f_X7_due S13 1) (fun _ S22 =>
nm (x1 + 1) (fun v24 =>
f_X7_shop_21 f v24 S22))) else (bd (f_X7_due S13 0) (fun _ S17 =>
nm (x1 + 1) (fun v19 =>
f_X7_shop_21 f v19 S17))))
theorem lead_no {f : Nat} {x : Int32} {M : Mm} {s : Nat} (h9 : gI M 163 15 = -9) (h3 : ¬ gI M 163 13 = 3) (hb : f_X7_mayBe M (gI M 163 13) = some (0, M)) (e : gI M 163 12 = nI s) (hs : s ≤ 150) (hf : 1 < f) : f_X7_shop_21 f x M = f_X7_shop_91 x (sI M 163 15 (nI s)) := by
  obtain ⟨g, rfl⟩ : ∃ g, f = g + 1 := ⟨f - 1, by omega⟩
  have hw : ¬ gI (sI M 163 15 (nI s)) 163 15 = -9 := by rw [gI_sI, if_pos ⟨rfl, rfl⟩]; exact nn9 hs
  rw [f_X7_shop_21, if_pos h9, if_neg h3, nm_ok, hb, bd_ok, due_0 h9, bd_ok, e, if_neg hw, sh_stop hw (by omega)]
theorem lead_yes {f : Nat} {x : Int32} {M F : Mm} {u : Unit} (h9 : gI M 163 15 = -9) (h3 : ¬ gI M 163 13 = 3) (hb : f_X7_mayBe M (gI M 163 13) = some (1, M)) (hr : f_X7_read M = some (u, F)) (hF : gI F 163 15 = -9) : f_X7_shop_21 (f + 1) x M = tlM f x (f_X7_readRow F (gI M 163 13)) := by
  rw [f_X7_shop_21, if_pos h9, if_neg h3, nm_ok, hb, bd_ok, due_1 h9 hr, bd_ok, if_pos hF]
  rfl
theorem after_j {bt : Nat → Nat} {ln d b k r fc fm : Nat} {T M : Mm} {X : Option (Int32 × Mm)} {Y : Option (Unit × Mm)} {tc : Int32 → Mm → Option (Int32 × Mm)} (hd : 3 ≤ d) (hT : TxC bt ln T) (hM : TxM bt ln M) (hbr : ln - b ≤ r) (hf : 0 < fm)
    (t0 : ∀ S, tc 0 S = some (-1, S)) (t1 : ∀ S, tc 1 S = bd (f_X5_readEnd S) (fun r2 S3 => if r2 = 0 then (some ((-1), S3)) else f_X5_readInto_12 d fc (nI (k + 1)) S3))
    (ih : ∀ (a n : Nat) (E F : Mm), a ≤ ln → ln - a ≤ r → TxC bt ln E → TxM bt ln F → gI E 1 3 = nI a → ws_KM bt ln F a → gI F 163 15 = -9 → ws_DR d n E F → ws_JO d E F (f_X5_readInto_12 d fc (nI (k + 1)) E) (f_X7_shop_21 fm (nI (k + 1)) F))
    (h : ws_RO bt ln d b T M X Y) : ws_JO d T M (bd X tc) (tlM fm (nI k) Y) := by
  rcases h with ⟨E, F, b', n', x1, y1, f1, f2, e3, hb1, hb2, kF, h9, hD⟩ | ⟨E, F, s, x1, y1, f1, f2, e2, w, hs⟩
  · refine JO_t f1 f2 ?_
    have hE := TxC_f hd hT f1
    have hF := TxM_f hM f2
    have h150 := hE.1
    obtain ⟨B1, B2, B3, B4, B5, B6⟩ := ws_en_b (bt := bt) hb2
    have C2 := (sk_b (bt := bt) hb2).2.1
    obtain ⟨G, g1, g2, i2, i3, i4, i5⟩ := rt_c (bt := bt) hb2 hE e3
    have q2 : gI F 163 13 = 2 ↔ ws_kd bt ln b' = 3 := by
      rw [kF.2.2.1, show (2 : Int32) = nI 2 from rfl, nI_eq (by have := srt_b (k := ws_kd bt ln b') B5; omega) (by omega), srt_2 B6 B5]
    have qc : f_X5_readEnd E = some (if ws_kd bt ln b' = 3 then 1 else 0, G) := by
      unfold f_X5_readEnd
      rw [g1, bd_ok, i4]
      by_cases h3 : ws_kd bt ln b' = 3
      · rw [if_pos (show nI (ws_kd bt ln b') = 3 from (nk_eq (k := 3) B6 (by omega)).2 h3), if_pos h3]
      · rw [if_neg (show ¬ nI (ws_kd bt ln b') = 3 from fun z => h3 ((nk_eq (k := 3) B6 (by omega)).1 z)), if_neg h3]
    unfold tlM
    rw [x1, y1, bd_ok, bd_ok, t1, qc, bd_ok]
    by_cases h3 : ws_kd bt ln b' = 3
    · obtain ⟨F2, m1, m2, m3⟩ := rt_m (bt := bt) B2 hF kF.1
      rw [if_pos h3, if_neg (by decide), if_pos (q2.2 h3), due_1 h9 m1, bd_ok, nm_ok, nI_1]
      exact JO_t (ws_FCu g2) (ws_FMu m2) (ih (ws_en bt ln b') n' G F2 B2 (by omega) (TxC_k hE g2) (TxM_k hF m2) i3 m3 (by rw [m2.2.2 15 (by omega)]; exact h9) (ws_DRk hD (fun a j q1 q2 => U1_g g2 (by omega)) g2.2.2.2 (fun c j hc => U3_g m2 hc) (m2.2.2 10 (by omega))))
    · rw [if_neg h3, if_pos rfl, if_neg (fun z => h3 (q2.1 z)), due_0 h9, bd_ok, nm_ok, kF.2.1, nI_1]
      have hw : ¬ gI (sI F 163 15 (nI (ws_sk bt ln b'))) 163 15 = -9 := by rw [gI_sI, if_pos ⟨rfl, rfl⟩]; exact nn9 (by omega)
      rw [sh_stop hw hf]
      exact Or.inr ⟨G, _, ws_sk bt ln b', nI (k + 1), by omega, rfl, rfl, ws_FCu g2, ws_FMs (by omega), i2, by rw [gI_sI, if_pos ⟨rfl, rfl⟩]⟩
  · have hw : ¬ gI F 163 15 = -9 := by rw [w]; exact nn9 hs
    refine Or.inr ⟨E, F, s, nI k + 1, hs, by rw [x1, bd_ok, t0], ?_, f1, f2, e2, w⟩
    unfold tlM
    rw [y1, bd_ok, due_no hw, due_no hw, bd_ok, ite_self, nm_ok, sh_stop hw hf]
theorem loop_j {bt : Nat → Nat} {ln d : Nat} (hd : 3 ≤ d) : ∀ (r k fc fm a n : Nat) (T M : Mm), k + r ≤ 150 → r < fc → r < fm → a ≤ ln → ln - a ≤ r → TxC bt ln T → TxM bt ln M → gI T 1 3 = nI a → ws_KM bt ln M a → gI M 163 15 = -9 → ws_DR d n T M → ws_JO d T M (f_X5_readInto_12 d fc (nI k) T) (f_X7_shop_21 fm (nI k) M) := by
  intro r
  induction r with
  | zero =>
    intro k fc fm a n T M hk hfc hfm ha har hT hM e3 kM h9 hD
    obtain ⟨f, rfl⟩ : ∃ f, fc = f + 1 := ⟨fc - 1, by omega⟩
    obtain ⟨g, rfl⟩ : ∃ g, fm = g + 1 := ⟨fm - 1, by omega⟩
    obtain ⟨B1, B2, B3, B4, B5, B6⟩ := ws_en_b (bt := bt) ha
    have h0 : ws_kd bt ln a = 0 := by
      rcases Nat.eq_zero_or_pos (ws_kd bt ln a) with q | q
      · exact q
      · have := B3 (by omega); omega
    obtain ⟨E, g1, g2, i2, i3, i4, i5⟩ := rt_c (bt := bt) ha hT e3
    have hz : gI M 163 13 = 3 := by rw [kM.2.2.1, h0]; rfl
    rw [f_X5_readInto_12, if_neg (show ¬ (150 : Int32) < nI k from nI_nlt (a := 150) (by omega) (by omega)), g1, bd_ok, i4, h0, if_pos nI_0, f_X7_shop_21, if_pos h9, if_pos hz]
    exact Or.inl ⟨E, M, k, n, by omega, rfl, rfl, ws_FCu g2, ws_FM0, h9, ws_DRk hD (fun a j q1 q2 => U1_g g2 (by omega)) g2.2.2.2 (fun _ _ _ => rfl) rfl⟩
  | succ r ih =>
    intro k fc fm a n T M hk hfc hfm ha har hT hM e3 kM h9 hD
    obtain ⟨f, rfl⟩ : ∃ f, fc = f + 1 := ⟨fc - 1, by omega⟩
    obtain ⟨g, rfl⟩ : ∃ g, fm = g + 1 := ⟨fm - 1, by omega⟩
    obtain ⟨B1, B2, B3, B4, B5, B6⟩ := ws_en_b (bt := bt) ha
    have C2 := (sk_b (bt := bt) ha).2.1
    have h150 := hT.1
    obtain ⟨E, g1, g2, i2, i3, i4, i5⟩ := rt_c (bt := bt) ha hT e3
    have hDE : ws_DR d n E M := ws_DRk hD (fun a j q1 q2 => U1_g g2 (by omega)) g2.2.2.2 (fun _ _ _ => rfl) rfl
    rw [f_X5_readInto_12, if_neg (show ¬ (150 : Int32) < nI k from nI_nlt (a := 150) (by omega) (by omega)), g1, bd_ok, i4]
    by_cases h0 : ws_kd bt ln a = 0
    · have hz : gI M 163 13 = 3 := by rw [kM.2.2.1, h0]; rfl
      rw [h0, if_pos nI_0, f_X7_shop_21, if_pos h9, if_pos hz]
      exact Or.inl ⟨E, M, k, n, by omega, rfl, rfl, ws_FCu g2, ws_FM0, h9, hDE⟩
    · rw [if_neg (nI_ne0 (by omega) (by omega))]
      have hsb := srt_b (k := ws_kd bt ln a) B5
      have q3 : ¬ gI M 163 13 = 3 := by
        rw [kM.2.2.1, show (3 : Int32) = nI 3 from rfl, nI_eq (by omega) (by omega), srt_3 B6 B5]
        exact h0
      have ql : ∀ c, 97 ≤ c → c ≤ 122 → (gI M 163 13 = nI c ↔ ws_kd bt ln a = 1 ∧ ws_wt bt ln a = c) := fun c h1 h2 => by
        rw [kM.2.2.1, nI_eq (by omega) (by omega), srt_l B6 B5 h1]
      have al := B3 h0
      obtain ⟨F, m1, m2, m3⟩ := rt_m (bt := bt) B2 hM kM.1
      have hF9 : gI F 163 15 = -9 := by rw [m2.2.2 15 (by omega)]; exact h9
      have hDF : ws_DR d n E F := ws_DRk hDE (fun _ _ _ _ => rfl) rfl (fun c j hc => U3_g m2 hc) (m2.2.2 10 (by omega))
      have hE := TxC_k hT g2
      have hF := TxM_k hM m2
      have ih2 : ∀ (a n : Nat) (E F : Mm), a ≤ ln → ln - a ≤ r → TxC bt ln E → TxM bt ln F → gI E 1 3 = nI a → ws_KM bt ln F a → gI F 163 15 = -9 → ws_DR d n E F → ws_JO d E F (f_X5_readInto_12 d f (nI (k + 1)) E) (f_X7_shop_21 g (nI (k + 1)) F) := fun a n E F => ih (k + 1) f g a n E F (by omega) (by omega) (by omega)
      have go : ∀ (X : Option (Int32 × Mm)) (Y : Option (Unit × Mm)) (tc : Int32 → Mm → Option (Int32 × Mm)), (∀ S, tc 0 S = some (-1, S)) → (∀ S, tc 1 S = bd (f_X5_readEnd S) (fun r2 S3 => if r2 = 0 then (some ((-1), S3)) else f_X5_readInto_12 d f (nI (k + 1)) S3)) → ws_RO bt ln d (ws_en bt ln a) E F X Y → ws_JO d T M (bd X tc) (tlM g (nI k) Y) := fun X Y tc t0 t1 h => JO_t (ws_FCu g2) (ws_FMu m2) (after_j hd hE hF (by omega) (by omega) t0 t1 ih2 h)
      have bad : f_X7_mayBe M (gI M 163 13) = some (0, M) → ws_JO d T M (some (-1, E)) (f_X7_shop_21 (g + 1) (nI k) M) := fun hb => by
        rw [lead_no h9 q3 hb kM.2.1 (by omega) (by omega)]
        exact Or.inr ⟨E, _, ws_sk bt ln a, nI k, by omega, rfl, rfl, ws_FCu g2, ws_FMs (by omega), i2, by rw [gI_sI, if_pos ⟨rfl, rfl⟩]⟩
      have q0 : ∀ S, f_X5_readInto_142 (f_X5_readInto_12 d f) d (nI k) 0 S = some (-1, S) := fun S => by
        unfold f_X5_readInto_142
        rw [if_pos rfl]
      have q1 : ∀ S, f_X5_readInto_142 (f_X5_readInto_12 d f) d (nI k) 1 S = bd (f_X5_readEnd S) (fun r2 S3 => if r2 = 0 then (some ((-1), S3)) else f_X5_readInto_12 d f (nI (k + 1)) S3) := fun S => by
        unfold f_X5_readInto_142
        rw [if_neg (by decide), nI_1]
        rfl
      by_cases h1 : ws_kd bt ln a = 1
      · have i5' := i5 (Or.inl h1)
        have b5 := B5 h1
        have w9 : ∀ c, c ≤ 122 → (nI (ws_wt bt ln a) = nI c ↔ ws_wt bt ln a = c) := fun c hc => nI_eq (by omega) (by omega)
        rw [h1, if_pos (show nI 1 = 1 from rfl), i5']
        by_cases c1 : ws_wt bt ln a = 104
        · rw [if_pos (show nI (ws_wt bt ln a) = 104 from (w9 104 (by omega)).2 c1)]
          have ev : gI M 163 13 = 104 := (ql 104 (by omega) (by omega)).2 ⟨h1, c1⟩
          rw [lead_yes h9 q3 (by rw [ev]; unfold f_X7_mayBe; rw [if_pos rfl]) m1 hF9, ev]
          exact go _ _ _ q0 q1 (row_h hd B2 hE hF i3 m3 hF9 hDF)
        · rw [if_neg (show ¬ nI (ws_wt bt ln a) = 104 from fun z => c1 ((w9 104 (by omega)).1 z))]
          have nv1 : ¬ gI M 163 13 = 104 := fun z => c1 ((ql 104 (by omega) (by omega)).1 z).2
          by_cases c2 : ws_wt bt ln a = 112
          · rw [if_pos (show nI (ws_wt bt ln a) = 112 from (w9 112 (by omega)).2 c2)]
            have ev : gI M 163 13 = 112 := (ql 112 (by omega) (by omega)).2 ⟨h1, c2⟩
            have ep := hDE.2.2.2.2.2.2
            by_cases hp : gI E 1 6 = 0
            · rw [if_pos hp, lead_yes h9 q3 (by rw [ev]; unfold f_X7_mayBe; rw [if_neg (by decide), if_pos rfl, ← ep, if_pos hp]) m1 hF9, ev]
              refine go _ _ _ (fun S => ?_) (fun S => ?_) (row_p hd B2 hE hF i3 m3 hF9 hDF)
              · try dsimp only
                rw [if_pos rfl]
                exact q0 S
              · try dsimp only
                rw [if_neg (by decide)]
                exact q1 S
            · rw [if_neg hp]
              refine Eq.mpr ?_ (bad (by rw [ev]; unfold f_X7_mayBe; rw [if_neg (by decide), if_pos rfl, ← ep, if_neg hp]))
              exact congrArg (fun z => ws_JO d T M z _) (q0 E)
          · rw [if_neg (show ¬ nI (ws_wt bt ln a) = 112 from fun z => c2 ((w9 112 (by omega)).1 z))]
            have nv2 : ¬ gI M 163 13 = 112 := fun z => c2 ((ql 112 (by omega) (by omega)).1 z).2
            by_cases c3 : ws_wt bt ln a = 115
            · rw [if_pos (show nI (ws_wt bt ln a) = 115 from (w9 115 (by omega)).2 c3)]
              have ev : gI M 163 13 = 115 := (ql 115 (by omega) (by omega)).2 ⟨h1, c3⟩
              have hn5 := hDE.1
              rw [hDE.2.1]
              by_cases hn : n < 5
              · have nle : ¬ (5 : Int32) ≤ nI n := nI_ge (b := 5) hn (by decide)
                rw [if_neg nle, lead_yes h9 q3 (by rw [ev]; unfold f_X7_mayBe; rw [if_neg (by decide), if_neg (by decide), if_pos rfl, bnd_ok in12, clamp1, hDE.2.2.1, if_neg nle]) m1 hF9, ev]
                refine go _ _ _ (fun S => ?_) (fun S => ?_) (row_s hd B2 hE hF i3 m3 hF9 hDF hn)
                · try dsimp only
                  rw [if_pos rfl]
                  exact q0 S
                · try dsimp only
                  rw [if_neg (by decide)]
                  exact q1 S
              · have le : (5 : Int32) ≤ nI n := nI_le (a := 5) (by omega) (by omega)
                rw [if_pos le]
                refine Eq.mpr ?_ (bad (by rw [ev]; unfold f_X7_mayBe; rw [if_neg (by decide), if_neg (by decide), if_pos rfl, bnd_ok in12, clamp1, hDE.2.2.1, if_pos le]))
                exact congrArg (fun z => ws_JO d T M z _) (q0 E)
            · rw [if_neg (show ¬ nI (ws_wt bt ln a) = 115 from fun z => c3 ((w9 115 (by omega)).1 z)), q0]
              have nv3 : ¬ gI M 163 13 = 115 := fun z => c3 ((ql 115 (by omega) (by omega)).1 z).2
              exact bad (by unfold f_X7_mayBe; rw [if_neg nv1, if_neg nv2, if_neg nv3])
      · rw [if_neg (show ¬ nI (ws_kd bt ln a) = 1 from fun z => h1 ((nk_eq (k := 1) B6 (by omega)).1 z)), q0]
        have nv : ∀ c, 97 ≤ c → c ≤ 122 → ¬ gI M 163 13 = nI c := fun c l1 l2 z => h1 ((ql c l1 l2).1 z).1
        exact bad (by unfold f_X7_mayBe; rw [if_neg (show ¬ gI M 163 13 = 104 from nv 104 (by omega) (by omega)), if_neg (show ¬ gI M 163 13 = 112 from nv 112 (by omega) (by omega)), if_neg (show ¬ gI M 163 13 = 115 from nv 115 (by omega) (by omega))])
