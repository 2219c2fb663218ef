theorem sm_shop : sim_shop Inv := fun S h => by
  obtain ⟨n0, hP, hR, hI, ⟨ln, l1, l2, l3, l4⟩, hG, hD, hJ⟩ := id h
  have hd' : (pl S = 3 ∧ dr S = 9) ∨ (pl S = 9 ∧ dr S = 3) := hD
  have hd : 3 ≤ dr S := by omega
  have hd2 : dr S + 6 ≤ 15 := by omega
  generalize hbt : (fun j => (gI S 2 j).toNatClampNeg) = bt
  have hb : ∀ j, j < ln → gI S 2 j = nI (bt j) ∧ bt j < 256 ∧ gI S 164 j &&& 255 = nI (bt j) := fun j hj => by
    obtain ⟨b, b1, b2, b3⟩ := l4 j hj
    have e : bt j = b := by rw [← hbt]; dsimp only; rw [b2, nI_clamp (by omega)]
    rw [e]; exact ⟨b2, b1, b3⟩
  have hM : ∀ C : Mm, C.1 163 = S.1 163 → C.1 164 = S.1 164 → TxM bt ln C := fun C q1 q2 => ⟨l1, by unfold gI; rw [q1]; exact l3, fun j hj => ⟨by unfold gI; rw [q2]; exact (hb j hj).2.2, (hb j hj).2.1⟩⟩
  generalize hT0 : sI (sI (sI (sI S (dr S) 0 0) (dr S) 1 50) 1 3 0) 1 6 0 = T
  have fT : ws_FC (dr S) S T := by rw [← hT0]; exact ws_FCt (ws_FCs (by omega) (by omega) hd) (ws_FCt (ws_FCs (by omega) (by omega) hd) (ws_FCt (ws_FC1 (by omega)) (ws_FC1 (by omega))))
  have hT : TxC bt ln T := TxC_f hd ⟨l1, l2, fun j hj => ⟨(hb j hj).1, (hb j hj).2.1⟩⟩ fT
  have gT : ∀ a j, gI T a j = if a = 1 ∧ j = 6 then 0 else if a = 1 ∧ j = 3 then 0 else if a = dr S ∧ j = 1 then 50 else if a = dr S ∧ j = 0 then 0 else gI S a j := fun a j => by rw [← hT0, gI_sI, gI_sI, gI_sI, gI_sI]
  have key : ∀ C, TxM bt ln C → ∃ F, f_X7_shop C = f_X7_shop_21 400 (nI 0) F ∧ ws_FM C F ∧ ws_JO (dr S) T F (f_X5_readInto_12 (dr S) 400 (nI 0) T) (f_X7_shop_21 400 (nI 0) F) := fun C hC => by
    obtain ⟨F, f1, f2, f3, f4, f5, f6, f7, f8⟩ := pre_m hC
    refine ⟨F, f1, f2, loop_j hd ln 0 400 400 0 0 T F (by omega) (by omega) (by omega) (by omega) (by omega) hT (TxM_f hC f2) (by rw [gT, if_neg (by omega), if_pos ⟨rfl, rfl⟩]; rfl) f3 f4 ⟨by omega, ?_, f5, ⟨50, by omega, ?_, f6⟩, fun s hs => by omega, fun s hs _ => f7 s hs, ?_⟩⟩
    · rw [gT, if_neg (by omega), if_neg (by omega), if_neg (by omega), if_pos ⟨rfl, rfl⟩]; rfl
    · rw [gT, if_neg (by omega), if_neg (by omega), if_pos ⟨rfl, rfl⟩]; rfl
    · rw [gT, if_pos ⟨rfl, rfl⟩, f8]
  have pc : f_X6_shop S = bd (f_X5_readInto_12 (dr S) 400 (nI 0) T) (fun r6 S7 =>
      if 0 ≤ r6 then (nm (sP S7 (dr S7)) (fun S12 =>
        nm (sD S12 (pl S7)) (fun S14 =>
        nm (sI S14 1 1 0) (fun S16 =>
        bd (f_X3_open S16 15 (pl S16)) (fun _ S20 =>
        nm (sI S20 0 8 0) (fun S22 =>
        f_X6_shop_78 400 r6 0 S22)))))) else (some (((-10) - (gI S7 1 2)), S7))) := by
    rw [← hT0]
    rfl
  obtain ⟨F0, -, -, j0⟩ := key S (hM S rfl rfl)
  rcases j0 with ⟨E, F1, k, n1, k1, x1, -, c1, -, -, -⟩ | ⟨E, F1, s, x, s1, x1, -, c1, -, e2, -⟩
  · have cE := ws_FCt fT c1
    have eE : E.2 = S.2 := cE.2.1
    have dE : dr E = dr S := by unfold dr; rw [eE]
    have pE : pl E = pl S := by unfold pl; rw [eE]
    obtain ⟨C, o1, o2, o3, o4, o5, o6, o7, o8, o9, o10, o11, o12, o13, o14, o15, o16, o17⟩ := cl_ok (k := nI k) hd hd2 dE pE
    have rC : ∀ a, 1 < a → (a < 15 ∨ 19 < a) → a ≠ 154 → (a < dr S ∨ dr S + 6 ≤ a) → C.1 a = S.1 a := fun a q1 q2 q3 q4 => by rw [o5 a q1 q2 q3, cE.1 a (by omega) q4]
    obtain ⟨F2, y1, y2, j1⟩ := key C (hM C (rC 163 (by omega) (by omega) (by omega) (by omega)) (rC 164 (by omega) (by omega) (by omega) (by omega)))
    rcases j1 with ⟨E', F3, k', n, k1', x1', z1, c1', m1, w9, hDR⟩ | ⟨E', F3, s, x, s1, x1', z1, c1', m1, e2, w⟩
    · have inj : nI k' = nI k ∧ E' = E := by
        rw [x1] at x1'
        have := Option.some.inj x1'
        exact ⟨(congrArg Prod.fst this).symm, (congrArg Prod.snd this).symm⟩
      obtain ⟨ek, rfl⟩ := inj
      obtain ⟨G, t1, t2, t3, t4, t5, t6, t7, t8, t9, t10, t11, t12⟩ := td_ok (S := F3)
      have mC := ws_FMt y2 m1
      obtain ⟨u1, u2, u3, -⟩ := mC
      generalize hQ : sI G 163 2 0 = Q
      have q2 : Q.2 = C.2 := by rw [← hQ]; exact t3.trans u2
      have lowQ : ∀ a j, a < 163 → gI Q a j = gI C a j := fun a j ha => by
        rw [← hQ, gI_sI, if_neg (by omega)]
        unfold gI
        rw [t2 a (by omega), u1 a (by omega)]
      have hiQ : ∀ a j, a ≠ 163 → gI Q a j = gI G a j := fun a j ha => by rw [← hQ, gI_sI, if_neg (by omega)]
      have pQ : pl Q = dr S := by unfold pl; rw [q2]; exact o2
      have dQ : dr Q = pl S := by unfold dr; rw [q2]; exact o3
      obtain ⟨d1, d2, d3, ⟨pr, p0, p1, p2⟩, d5, d6, d7⟩ := hDR
      have lowE : ∀ r j, r < 6 → gI Q (dr S + r) j = gI E' (dr S + r) j := fun r j hr => by
        rw [lowQ _ _ (by omega)]
        unfold gI
        rw [o5 (dr S + r) (by omega) (by omega) (by omega)]
      refine ⟨nI k, C, Q, ?_, ?_, Inv_new (n := n) (d := dr S) ?_ pQ d1 ?_ ?_ ⟨pr, p0, ?_, ?_⟩ (fun s hs => ?_) (fun s hs => ?_) (fun j hj => ⟨?_, ?_, ?_⟩) ⟨?_, ?_, ?_, ?_, ?_⟩ (fun j q1 q2 => ?_) ⟨?_, ?_⟩ (fun i hi => ?_) ?_ ?_ ?_ ?_ ?_⟩
      · rw [pc, x1, bd_ok, if_pos (nI_pos' (by omega))]
        exact o1
      · rw [y1, z1]
        unfold f_X7_shop_91
        rw [if_pos w9, t1, bd_ok, nm_ok, hQ, ek]
      · rw [pQ, dQ]; omega
      · exact (lowE 0 0 (by omega)).trans d2
      · rw [hiQ _ _ (by omega), t9]; exact d3
      · exact (lowE 0 1 (by omega)).trans p1
      · rw [hiQ _ _ (by omega), t10]; exact p2
      · obtain ⟨a1, a2, a3, a4, a5, a6⟩ := t11 s (by omega)
        obtain ⟨v1, v2, v3, v4, v5⟩ := d5 s hs
        rw [lowE 1 s (by omega), lowE 3 s (by omega), lowE 4 s (by omega), lowE 5 s (by omega), hiQ 166 s (by omega), hiQ 168 s (by omega), hiQ 169 s (by omega), hiQ 170 s (by omega), a1, a2, a3, a4]
        exact ⟨v1, v3, v4, v5⟩
      · obtain ⟨a1, a2, a3, a4, a5, a6⟩ := t11 s (by omega)
        obtain ⟨v1, v2, v3, v4, v5⟩ := d5 s hs
        rw [lowQ 18 s (by omega), (o12 s (by omega)).2.1, hiQ 172 _ (by omega), a6]
        exact v2
      · rw [lowQ 17 j (by omega)]; exact (o12 j hj).1
      · rw [hiQ 172 _ (by omega)]; exact (t11 j hj).2.2.2.2.1
      · rw [lowQ 19 j (by omega)]; exact (o12 j hj).2.2
      · rw [lowQ 16 _ (by omega)]; exact o13
      · rw [lowQ 16 _ (by omega)]; exact o14
      · rw [lowQ 16 _ (by omega)]; exact o15
      · rw [lowQ 16 _ (by omega)]; exact o16
      · rw [lowQ 16 _ (by omega)]; exact o17
      · rw [hiQ 172 _ (by omega)]
        by_cases h20 : j = 20
        · rw [h20]; exact t6
        · exact t12 j q1 (by omega)
      · rw [lowQ 15 _ (by omega)]; exact o10
      · rw [lowQ 15 _ (by omega)]; exact o11
      · rw [lowQ 154 _ (by omega), hiQ 173 _ (by omega)]
        by_cases hi0 : i = 0
        · subst hi0; exact ⟨o8, t7⟩
        · rw [show i = 1 by omega]; exact ⟨o9, t8⟩
      · rw [lowQ 1 _ (by omega)]; exact o6
      · rw [← hQ, gI_sI, if_pos ⟨rfl, rfl⟩]
      · rw [lowQ 0 _ (by omega)]; exact o7
      · rw [← hQ, gI_sI, if_neg (by omega)]; exact t5
      · unfold gJ; rw [q2, o4, eE]; exact hJ
    · rw [x1] at x1'
      exact absurd (congrArg Prod.fst (Option.some.inj x1')) (nI_n1 (by omega))
  · have cE := ws_FCt fT c1
    have rE : ∀ a, a ≠ 1 → (a < dr S ∨ dr S + 6 ≤ a) → E.1 a = S.1 a := fun a q1 q2 => cE.1 a q1 q2
    obtain ⟨F2, y1, y2, j1⟩ := key E (hM E (rE 163 (by omega) (by omega)) (rE 164 (by omega) (by omega)))
    rcases j1 with ⟨E', F3, k', n, k1', x1', z1, c1', m1, w9, hDR⟩ | ⟨E', F3, s', x, s1', x1', z1, c1', m1, e2', w⟩
    · rw [x1] at x1'
      exact absurd (congrArg Prod.fst (Option.some.inj x1')).symm (nI_n1 (by omega))
    · have inj : E' = E := by
        rw [x1] at x1'
        exact (congrArg Prod.snd (Option.some.inj x1')).symm
      subst inj
      rw [e2] at e2'
      refine ⟨(-10) - nI s, E', F3, ?_, ?_, Inv_bad h cE (ws_FMt y2 m1)⟩
      · rw [pc, x1, bd_ok, if_neg (by decide), e2]
      · rw [y1, z1]
        unfold f_X7_shop_91
        rw [if_neg (by rw [w]; exact nn9 s1'), w, e2']
theorem sims_all : Sims Inv := ⟨sm_type, sm_clear, sm_shop, sm_step, sm_line, sm_makes, sm_looks, sm_skill, sm_moves, sm_undo, sm_now, sm_mean, sm_lost, sm_paper, sm_bestLooks, sm_bestOrder, sm_few, sm_blame, sm_first, sm_tells, sm_forget, sm_who, sm_mark, sm_keep, sm_back, sm_count, sm_trace⟩
