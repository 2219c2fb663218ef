theorem DtM_keep2 {S T : Mm} {n : Nat} {F sec lk ms ah : Nat → Nat} {pr : Nat} (hn : n ≤ 5) (h : DtM S n F sec lk ms ah pr) (hr : ∀ a, 165 ≤ a → a < 172 → T.1 a = S.1 a) (h2 : ∀ m, m < 10 → gI T 172 m = gI S 172 m) : DtM T n F sec lk ms ah pr := by
  have hg : ∀ a j, 165 ≤ a → a < 172 → gI T a j = gI S a j := fun a j h1 h2 => by unfold gI; rw [hr a h1 h2]
  obtain ⟨h1, h3, h4⟩ := h
  refine ⟨by rw [hg _ _ (by omega) (by omega)]; exact h1, by rw [hg _ _ (by omega) (by omega)]; exact h3, fun s hs => ?_⟩
  rw [h2 (5 + s) (by omega), hg 166 s (by omega) (by omega), hg 168 s (by omega) (by omega), hg 169 s (by omega) (by omega), hg 170 s (by omega) (by omega)]
  exact h4 s hs
/-! what one needle adds: class -/
def p1 (b : Prop) [Decidable b] : Nat := if b then 1 else 0
theorem enter_ok {C : Mm} {n m so d c pr : Nat} {t : Nat → Nat} {v : Nat × Nat × Nat} (hn : n ≤ 5) (g : GoC C n v) (e4 : gI C 16 4 = nI m) (e5 : gI C 16 5 = nI so) (e6 : gI C 16 6 = nI d) (e7 : gI C 16 7 = nI c) (et : ∀ s, s < 5 → gI C 19 s = nI (t s)) : ∃ E, f_X1_enter C 16 (nI pr) = some ((), E) ∧ (∀ b, b ≠ 16 → b ≠ 19 → E.1 b = C.1 b) ∧ E.2 = C.2 ∧ gI E 16 3 = gI C 16 3 ∧ gI E 16 4 = nI (m + 1) ∧ gI E 16 5 = nI (so + if v.1 = 2 then 0 else 1) ∧ gI E 16 6 = nI (d + if v.1 = 1 then 1 else 0) ∧ gI E 16 7 = nI (c + (v.2.1 + if v.1 = 1 then pr else 0)) ∧ ∀ s, s < 5 → gI E 19 s = nI (t s + if v.1 = 2 ∧ s = v.2.2 then 1 else 0) := by
  obtain ⟨g0, g2, g3⟩ := id g
  unfold f_X1_enter
  rw [nm_ok, e4, nI_1, nm_ok]
  rw [show gI (sI C 16 4 (nI (m + 1))) 16 7 = nI c by rw [gI_sI, if_neg (by omega)]; exact e7, show gI (sI C 16 4 (nI (m + 1))) 157 0 = nI v.2.1 by rw [gI_sI, if_neg (by omega)]; exact g0, nI_add]
  generalize hT : sI (sI C 16 4 (nI (m + 1))) 16 7 (nI (c + v.2.1)) = T
  have tg : ∀ a j, ¬ (a = 16 ∧ j = 4) → ¬ (a = 16 ∧ j = 7) → gI T a j = gI C a j := fun a j h1 h2 => by rw [← hT, gI_sI, if_neg h2, gI_sI, if_neg h1]
  have tr : ∀ b, b ≠ 16 → T.1 b = C.1 b := fun b hb => by rw [← hT, sI_ne hb, sI_ne hb]
  have t4 : gI T 16 4 = nI (m + 1) := by rw [← hT, gI_sI, if_neg (by omega), gI_sI, if_pos ⟨rfl, rfl⟩]
  have t7 : gI T 16 7 = nI (c + v.2.1) := by rw [← hT, gI_sI, if_pos ⟨rfl, rfl⟩]
  have t2 : T.2 = C.2 := by rw [← hT]; rfl
  have gT : GoC T n v := ⟨by rw [tg _ _ (by omega) (by omega)]; exact g0, fun q => by rw [tg _ _ (by omega) (by omega)]; exact g2 q, fun q => by rw [tg _ _ (by omega) (by omega), tg _ _ (by omega) (by omega)]; exact g3 q⟩
  rw [fate_ok hn gT, bd_ok]
  by_cases h2 : v.1 = 2
  · obtain ⟨a1, a2⟩ := g2 h2
    rw [h2, if_pos (show nI 2 = 2 from rfl), show gI T 157 2 = nI v.2.2 by rw [tg _ _ (by omega) (by omega)]; exact a1, bnd_ok (inB_nI (by omega) (by decide)), bnd_ok (inB_nI (by omega) (by decide)), nI_clamp (by omega), show gI T (16 + 3) v.2.2 = nI (t v.2.2) by rw [tg _ _ (by omega) (by omega)]; exact et _ (by omega), nI_1, nm_ok]
    refine ⟨_, rfl, fun b h1 h3 => by rw [sI_ne h3]; exact tr b h1, t2, ?_, ?_, ?_, ?_, ?_, fun s hs => ?_⟩
    · rw [gI_sI, if_neg (by omega)]; exact tg _ _ (by omega) (by omega)
    · rw [gI_sI, if_neg (by omega)]; exact t4
    · rw [gI_sI, if_neg (by omega), tg _ _ (by omega) (by omega), if_pos rfl]; exact e5
    · rw [gI_sI, if_neg (by omega), tg _ _ (by omega) (by omega), if_neg (by omega)]; exact e6
    · rw [gI_sI, if_neg (by omega), if_neg (by omega)]; exact t7
    · rw [gI_sI]
      by_cases hv : s = v.2.2
      · rw [if_pos ⟨rfl, hv⟩, if_pos ⟨rfl, hv⟩, hv]
      · rw [if_neg (by omega), if_neg (by omega), tg _ _ (by omega) (by omega)]; exact et s hs
  · obtain ⟨a1, a2, a3⟩ := g3 h2
    rw [if_neg (show ¬ nI v.1 = 2 by rw [show (2 : Int32) = nI 2 from rfl, nI_eq (by omega) (by omega)]; exact h2), show gI T 16 5 = nI so by rw [tg _ _ (by omega) (by omega)]; exact e5, nI_1, nm_ok]
    rw [show gI (sI T 16 5 (nI (so + 1))) 157 1 = nI v.1 by rw [gI_sI, if_neg (by omega), tg _ _ (by omega) (by omega)]; exact a2]
    by_cases h0 : v.1 = 0
    · rw [h0, if_pos (show nI 0 = 0 from rfl)]
      refine ⟨_, rfl, fun b h1 h3 => by rw [sI_ne h1]; exact tr b h1, t2, ?_, ?_, ?_, ?_, ?_, fun s hs => ?_⟩
      · rw [gI_sI, if_neg (by omega)]; exact tg _ _ (by omega) (by omega)
      · rw [gI_sI, if_neg (by omega)]; exact t4
      · rw [gI_sI, if_pos ⟨rfl, rfl⟩, if_neg (by omega)]
      · rw [gI_sI, if_neg (by omega), tg _ _ (by omega) (by omega), if_neg (by omega)]; exact e6
      · rw [gI_sI, if_neg (by omega), if_neg (by omega)]; exact t7
      · rw [gI_sI, if_neg (by omega), tg _ _ (by omega) (by omega), if_neg (by omega)]; exact et s hs
    · have h1 : v.1 = 1 := by omega
      rw [h1, if_neg (show ¬ nI 1 = 0 by decide), nm_ok]
      rw [show gI (sI T 16 5 (nI (so + 1))) 16 6 = nI d by rw [gI_sI, if_neg (by omega), tg _ _ (by omega) (by omega)]; exact e6, nI_1]
      rw [show gI (sI (sI T 16 5 (nI (so + 1))) 16 6 (nI (d + 1))) 16 7 = nI (c + v.2.1) by rw [gI_sI, if_neg (by omega), gI_sI, if_neg (by omega)]; exact t7, nI_add, nm_ok]
      refine ⟨_, rfl, fun b h1 h3 => by rw [sI_ne h1, sI_ne h1, sI_ne h1]; exact tr b h1, t2, ?_, ?_, ?_, ?_, ?_, fun s hs => ?_⟩
      · rw [gI_sI, if_neg (by omega), gI_sI, if_neg (by omega), gI_sI, if_neg (by omega)]; exact tg _ _ (by omega) (by omega)
      · rw [gI_sI, if_neg (by omega), gI_sI, if_neg (by omega), gI_sI, if_neg (by omega)]; exact t4
      · rw [gI_sI, if_neg (by omega), gI_sI, if_neg (by omega), gI_sI, if_pos ⟨rfl, rfl⟩, if_neg (by omega)]
      · rw [gI_sI, if_neg (by omega), gI_sI, if_pos ⟨rfl, rfl⟩, if_pos rfl]
      · rw [gI_sI, if_pos ⟨rfl, rfl⟩, if_pos rfl, Nat.add_assoc]
      · rw [gI_sI, if_neg (by omega), gI_sI, if_neg (by omega), gI_sI, if_neg (by omega), tg _ _ (by omega) (by omega), if_neg (by omega)]; exact et s hs
/-! what one needle adds: model -/
theorem mk114 {M : Mm} {c k : Nat} {x : Int32} (hc : c + k ≤ 9999999) (e : gI M 172 19 = nI c) (e2 : gI M 163 18 = nI k) : ∃ E, f_X7_makes_114 x M = some (x, E) ∧ (∀ a, a ≠ 172 → E.1 a = M.1 a) ∧ E.2 = M.2 ∧ ∀ m, gI E 172 m = if m = 19 then nI (c + k) else gI M 172 m := by
  unfold f_X7_makes_114
  rw [bnd_ok (by decide), bnd_ok (by decide), show (19 : Int32).toNatClampNeg = 19 by decide, e, e2, nI_add, nm_ok, bnd_ok (by decide)]
  rw [show gI (sI M 172 19 (nI (c + k))) 172 19 = nI (c + k) by rw [gI_sI, if_pos ⟨rfl, rfl⟩], if_pos (show nI (c + k) ≤ 9999999 from nI_le (b := 9999999) hc (by omega)), bnd_ok (by decide), bnd_ok (by decide), nm_ok]
  refine ⟨_, rfl, fun a ha => by rw [sI_ne ha, sI_ne ha], rfl, fun m => ?_⟩
  rw [gI_sI, gI_sI]
  by_cases h : m = 19
  · rw [if_pos ⟨rfl, h⟩, if_pos h]
  · rw [if_neg (by omega), if_neg (by omega), if_neg h]
theorem mk73 {M : Mm} {d c pr : Nat} {t : Nat → Nat} {v : Nat × Nat × Nat} (g : GoM M pr v) (hv : v.1 ≤ 2) (htb : v.1 = 2 → v.2.2 < 5) (hc : c + (v.2.1 + if v.1 = 1 then pr else 0) ≤ 9999999) (e13 : gI M 172 13 = nI d) (et : ∀ s, s < 5 → gI M 172 (14 + s) = nI (t s)) (e19 : gI M 172 19 = nI c) : ∃ E, f_X7_makes_73 (nI v.1) M = some (nI v.1, E) ∧ (∀ a, a ≠ 172 → E.1 a = M.1 a) ∧ E.2 = M.2 ∧ ∀ m, gI E 172 m = if m = 19 then nI (c + (v.2.1 + if v.1 = 1 then pr else 0)) else if v.1 = 2 ∧ m = 14 + v.2.2 then nI (t v.2.2 + 1) else if m = 13 then nI (d + if v.1 = 1 then 1 else 0) else gI M 172 m := by
  obtain ⟨g1, g2⟩ := g
  have key : ∃ M1, f_X7_makes_73 (nI v.1) M = f_X7_makes_93 (nI v.1) M1 ∧ (∀ a, a ≠ 172 → M1.1 a = M.1 a) ∧ M1.2 = M.2 ∧ ∀ m, gI M1 172 m = if m = 13 then nI (d + if v.1 = 1 then 1 else 0) else gI M 172 m := by
    unfold f_X7_makes_73
    rw [bnd_ok (by decide), show (13 : Int32).toNatClampNeg = 13 by decide, e13]
    by_cases h1 : v.1 = 1
    · rw [h1, if_pos (show nI 1 = 1 from rfl), bnd_ok (by decide), nm_ok, nI_1]
      refine ⟨_, rfl, fun a ha => by rw [sI_ne ha], rfl, fun m => ?_⟩
      rw [gI_sI]
      by_cases h : m = 13
      · rw [if_pos ⟨rfl, h⟩, if_pos h, if_pos rfl]
      · rw [if_neg (by omega), if_neg h]
    · rw [if_neg (show ¬ nI v.1 = 1 by rw [show (1 : Int32) = nI 1 from rfl, nI_eq (by omega) (by omega)]; exact h1), bnd_ok (by decide), nm_ok, show nI d + 0 = nI (d + 0) from nI_add d 0]
      refine ⟨_, rfl, fun a ha => by rw [sI_ne ha], rfl, fun m => ?_⟩
      rw [gI_sI]
      by_cases h : m = 13
      · rw [if_pos ⟨rfl, h⟩, if_pos h, if_neg h1]
      · rw [if_neg (by omega), if_neg h]
  obtain ⟨M1, k1, k2, k3, k4⟩ := key
  rw [k1]
  unfold f_X7_makes_93
  have m163 : ∀ j, gI M1 163 j = gI M 163 j := fun j => by unfold gI; rw [k2 163 (by omega)]
  by_cases h2 : v.1 = 2
  · have hb := htb h2
    rw [h2, if_pos (show nI 2 = 2 from rfl), m163 19, g2 h2, show (14 : Int32) + nI v.2.2 = nI (14 + v.2.2) from nI_add 14 _, bnd_ok (inB_nI (by omega) (by decide)), bnd_ok (inB_nI (by omega) (by decide)), nI_clamp (by omega), k4, if_neg (by omega), et _ hb, nI_1, nm_ok]
    generalize hM2 : sI M1 172 (14 + v.2.2) (nI (t v.2.2 + 1)) = M2
    have j1 : gI M2 172 19 = nI c := by rw [← hM2, gI_sI, if_neg (by omega), k4, if_neg (by omega)]; exact e19
    have j2 : gI M2 163 18 = nI (v.2.1 + if v.1 = 1 then pr else 0) := by rw [← hM2, gI_sI, if_neg (by omega), m163]; exact g1
    obtain ⟨E, a1, a2, a3, a4⟩ := mk114 (x := nI 2) hc j1 j2
    refine ⟨E, a1, fun a ha => by rw [a2 a ha, ← hM2, sI_ne ha, k2 a ha], by rw [a3, ← hM2]; exact k3, fun m => ?_⟩
    rw [a4, h2]
    by_cases h : m = 19
    · rw [if_pos h, if_pos h]
    · rw [if_neg h, if_neg h, ← hM2, gI_sI]
      by_cases h3 : m = 14 + v.2.2
      · rw [if_pos ⟨rfl, h3⟩, if_pos ⟨rfl, h3⟩]
      · rw [if_neg (by omega), if_neg (by omega), k4, h2]
  · rw [if_neg (show ¬ nI v.1 = 2 by rw [show (2 : Int32) = nI 2 from rfl, nI_eq (by omega) (by omega)]; exact h2)]
    have j1 : gI M1 172 19 = nI c := by rw [k4, if_neg (by omega)]; exact e19
    have j2 : gI M1 163 18 = nI (v.2.1 + if v.1 = 1 then pr else 0) := by rw [m163]; exact g1
    obtain ⟨E, a1, a2, a3, a4⟩ := mk114 (x := nI v.1) hc j1 j2
    refine ⟨E, a1, fun a ha => by rw [a2 a ha, k2 a ha], by rw [a3]; exact k3, fun m => ?_⟩
    rw [a4]
    by_cases h : m = 19
    · rw [if_pos h, if_pos h]
    · rw [if_neg h, if_neg h, if_neg (fun q => h2 q.1), k4]
theorem sum5 {t : Nat → Nat} {k : Nat} (hk : k < 5) : (t 0 + if 0 = k then 1 else 0) + (t 1 + if 1 = k then 1 else 0) + (t 2 + if 2 = k then 1 else 0) + (t 3 + if 3 = k then 1 else 0) + (t 4 + if 4 = k then 1 else 0) = (t 0 + t 1 + t 2 + t 3 + t 4) + 1 := by
  rcases (show k = 0 ∨ k = 1 ∨ k = 2 ∨ k = 3 ∨ k = 4 by omega) with e | e | e | e | e <;> subst e <;> simp <;> omega
theorem sm_makes : sim_makes Inv := fun S h x => by
  obtain ⟨n, hP, hR, hI, hT, hG, hD, hJ⟩ := id h
  have hn := hP.1
  have q := pres hR
  obtain ⟨F, sec, lk, ms, ah, pr, L, b, DC, DM, LC, LM, hb, b1, b2⟩ := Dt_of hP hR
  obtain ⟨-, -, -, ⟨m, so, d, c, t, d1, d2, d3, d4, d5, d6, d7, d8, d9⟩⟩ := id hR.2.1
  rcases draw_cases x with ⟨z, hz, rfl⟩ | hx
  · by_cases hm : m = 9999
    · refine simS h ⟨-2, ?_, ?_⟩
      · unfold f_X6_makes
        rw [cd_yes hz, bd_ok, if_neg (by decide), show gI S 16 4 = nI m from d1, hm, if_neg (by decide)]
      · show f_X7_makes S _ = _
        unfold f_X7_makes
        rw [md_yes hz, bd_ok, if_neg (by decide), bnd_ok (by decide), show (11 : Int32).toNatClampNeg = 11 by decide, ← q 11 (by omega) (by omega), d1, hm, if_pos (by decide)]
    obtain ⟨Sa, a1, a2, a3, a4⟩ := hist_ok hn hR
    have hm2 : m < 9999 := by omega
    have ga : ∀ a j, (a < 15 ∨ (16 ≤ a ∧ a < 21) ∨ 61 ≤ a) → gI Sa a j = gI S a j := fun a j ha => by unfold gI; rw [a2 a ha]
    have pa : pl Sa = pl S := by unfold pl; rw [a3]
    have DC' : DtC Sa n F sec lk ms ah pr := DtC_keep hD DC pa (fun a ha => a2 a (by omega))
    have LC' : LnC Sa n L := ⟨fun i hi => by rw [ga 17 i (by omega)]; exact LC.1 i hi, LC.2⟩
    have hDa : ID Sa := by unfold ID; rw [pa, show dr Sa = dr S by unfold dr; rw [a3]]; exact hD
    obtain ⟨C1, c1, c2, c3⟩ := go_c hDa DC' LC' (w := b) (z := z) (pow_n hn hb) hz
    generalize hv : way L sec F lk ms b z n 0 false 0 = v at c3
    have hw := way_le (L := L) (sec := sec) (F := F) (lk := lk) (ms := ms) (w := b) (z := z) (n := n) (fun i hi => ⟨(DC.2.2.2.2 (L i) (LC.2 i hi)).2.2.2.1, (DC.2.2.2.2 (L i) (LC.2 i hi)).2.2.2.2.2.1⟩) n 0 false 0 (by omega)
    rw [hv] at hw
    have htb : v.1 = 2 → v.2.2 < 5 := fun e => by have := (c3.2.1 e).2; omega
    have hpr : pr ≤ 99 := DC.2.2.2.1
    have hcost : (v.2.1 + if v.1 = 1 then pr else 0) ≤ 744 := by split <;> omega
    have g1 : ∀ a j, (a < 15 ∨ (16 ≤ a ∧ a < 21) ∨ 61 ≤ a) → a ≠ 157 → gI C1 a j = gI S a j := fun a j ha h1 => by rw [← ga a j ha]; unfold gI; rw [c2.1 a h1]
    obtain ⟨C, f1, f2, f3, f4, f5, f6, f7, f8, f9⟩ := enter_ok (pr := pr) (m := m) (so := so) (d := d) (c := c) (t := t) hn c3 (by rw [g1 16 4 (by omega) (by omega)]; exact d1) (by rw [g1 16 5 (by omega) (by omega)]; exact d2) (by rw [g1 16 6 (by omega) (by omega)]; exact d3) (by rw [g1 16 7 (by omega) (by omega)]; exact d4) (fun s hs => by rw [g1 19 s (by omega) (by omega), ← d5 s hs]; exact (cM_t (S := S) (o := 16) hs).symm)
    have gC : GoC C n v := by
      have e : ∀ j, gI C 157 j = gI C1 157 j := fun j => by unfold gI; rw [f2 157 (by omega) (by omega)]
      unfold GoC
      rw [e 0, e 1, e 2]
      exact c3
    have gc : ∀ a j, (a < 15 ∨ a = 17 ∨ a = 18 ∨ a = 20 ∨ 61 ≤ a) → a ≠ 157 → gI C a j = gI S a j := fun a j ha h1 => by rw [← g1 a j (by omega) h1]; unfold gI; rw [f2 a (by omega) (by omega)]
    have e172 : ∀ m, gI C 172 m = gI S 172 m := fun m => gc 172 m (by omega) (by omega)
    obtain ⟨Mb, g, b1', b2', b3', b4'⟩ := a4 C e172
    have gmb : ∀ m, m < 20 ∨ 221 ≤ m → gI Mb 172 m = gI S 172 m := fun m hm => by rw [b2'.2.2]; exact b3' m hm
    have gmr : ∀ a j, (a < 15 ∨ a = 17 ∨ a = 18 ∨ a = 20 ∨ 61 ≤ a) → a ≠ 157 → a ≠ 172 → gI Mb a j = gI S a j := fun a j ha h1 h2 => by rw [← gc a j ha h1]; unfold gI; rw [b2'.1 a h2]
    have DM' : DtM Mb n F sec lk ms ah pr := by
      obtain ⟨y1, y2, y3⟩ := DM
      refine ⟨by rw [gmr _ _ (by omega) (by omega) (by omega)]; exact y1, by rw [gmr _ _ (by omega) (by omega) (by omega)]; exact y2, fun s hs => ?_⟩
      rw [gmb (5 + s) (by omega), gmr 166 _ (by omega) (by omega) (by omega), gmr 168 _ (by omega) (by omega) (by omega), gmr 169 _ (by omega) (by omega) (by omega), gmr 170 _ (by omega) (by omega) (by omega)]
      exact y3 s hs
    obtain ⟨M1, m1, m2, m3⟩ := go_m hn DM' (fun s hs => ⟨(DC.2.2.2.2 s hs).2.1, (DC.2.2.2.2 s hs).2.2.2.2.2.2.2.1⟩) (L := L) (fun i hi => by rw [gmb i (by omega)]; exact LM i hi) LC.2 (w := b) (z := z) (pow_n hn hb) hz
    rw [hv] at m1 m3
    have gm1 : ∀ m, gI M1 172 m = gI Mb 172 m := fun m => by unfold gI; rw [m2.1 172 (by omega)]
    generalize hM2 : sI (sI M1 172 11 (nI (m + 1))) 172 12 (nI (so + if v.1 = 2 then 0 else 1)) = M2
    have gM2 : ∀ k, gI M2 172 k = if k = 12 then nI (so + if v.1 = 2 then 0 else 1) else if k = 11 then nI (m + 1) else gI Mb 172 k := fun k => by
      rw [← hM2, gI_sI, gI_sI, gm1]
      by_cases k1 : k = 12
      · rw [if_pos ⟨rfl, k1⟩, if_pos k1]
      · rw [if_neg (by omega), if_neg k1]
        by_cases k2 : k = 11
        · rw [if_pos ⟨rfl, k2⟩, if_pos k2]
        · rw [if_neg (by omega), if_neg k2]
    have oS : ∀ k, k < 20 → 10 ≤ k → gI Mb 172 k = cM S 16 k := fun k h1 h2 => by rw [gmb k (by omega), q k h1 (Or.inr (Or.inr h2))]
    obtain ⟨E, n1, n2, n3, n4⟩ := mk73 (M := M2) (d := d) (c := c) (pr := pr) (t := t) (v := v) ⟨by rw [← hM2, gI_sI, if_neg (by omega), gI_sI, if_neg (by omega)]; exact m3.1, fun e => by rw [← hM2, gI_sI, if_neg (by omega), gI_sI, if_neg (by omega)]; exact m3.2 e⟩ hw.2 htb (by omega) (by rw [gM2, if_neg (by omega), if_neg (by omega), oS 13 (by omega) (by omega)]; exact d3) (fun s hs => by rw [gM2, if_neg (by omega), if_neg (by omega), oS (14 + s) (by omega) (by omega)]; exact d5 s hs) (by rw [gM2, if_neg (by omega), if_neg (by omega), oS 19 (by omega) (by omega)]; exact d4)
    have gE : ∀ k, gI E 172 k = if k = 19 then nI (c + (v.2.1 + if v.1 = 1 then pr else 0)) else if v.1 = 2 ∧ k = 14 + v.2.2 then nI (t v.2.2 + 1) else if k = 13 then nI (d + if v.1 = 1 then 1 else 0) else if k = 12 then nI (so + if v.1 = 2 then 0 else 1) else if k = 11 then nI (m + 1) else gI Mb 172 k := fun k => by rw [n4 k, gM2 k]
    have rE : ∀ a, a ≠ 163 → a ≠ 172 → E.1 a = C.1 a := fun a h1 h2 => by rw [n2 a h2, ← hM2, sI_ne h2, sI_ne h2, m2.1 a h1, b2'.1 a h2]
    refine ⟨nI v.1, C, E, ?_, ?_, Inv_past hP hI hT hG hD hJ ?_ (fun a ha h1 h2 h3 => ?_) (fun j h1 h2 => ?_) (fun k hk => ?_) ?_⟩
    · unfold f_X6_makes
      rw [cd_yes hz, bd_ok, if_neg (by decide), show gI S 16 4 = nI m from d1, if_pos (show nI m < 9999 from nI_lt (b := 9999) hm2 (by decide)), a1, bd_ok, ga 16 3 (by omega), b1, c1, bd_ok, show gI C1 (pl C1) 1 = nI pr by
        have : pl C1 = pl Sa := by unfold pl; rw [c2.2]
        rw [this, pa, g1 _ _ (by rcases hD with ⟨y, -⟩ | ⟨y, -⟩ <;> omega) (by rcases hD with ⟨y, -⟩ | ⟨y, -⟩ <;> omega)]; exact DC.2.2.1, f1, bd_ok, fate_ok hn gC, bd_ok]
    · unfold f_X7_makes
      rw [md_yes hz, bd_ok, if_neg (by decide), bnd_ok (by decide), show (11 : Int32).toNatClampNeg = 11 by decide, e172, ← q 11 (by omega) (by omega), d1, if_neg (show ¬ nI m = 9999 by rw [show (9999 : Int32) = nI 9999 from rfl, nI_eq (by omega) (by omega)]; exact hm), b1', bd_ok, bnd_ok (by decide), show (10 : Int32).toNatClampNeg = 10 by decide, gmb 10 (by omega), b2, m1, bd_ok, bnd_ok (by decide), bnd_ok (by decide), gm1, oS 11 (by omega) (by omega), d1, nI_1, nm_ok, bnd_ok (by decide), show (12 : Int32).toNatClampNeg = 12 by decide]
      have g12 : gI (sI M1 172 11 (nI (m + 1))) 172 12 = nI so := by rw [gI_sI, if_neg (by omega), gm1, oS 12 (by omega) (by omega)]; exact d2
      by_cases h2 : v.1 = 2
      · rw [h2, if_pos (by decide), bnd_ok (by decide), g12, nm_ok, show nI so + 0 = nI (so + 0) from nI_add so 0]
        rw [h2, if_pos rfl] at hM2
        rw [h2] at n1
        rw [hM2]
        exact n1
      · rw [if_neg (show ¬ 2 ≤ nI v.1 from nI_ge (b := 2) (by omega) (by decide)), bnd_ok (by decide), g12, nm_ok, nI_1]
        rw [if_neg h2] at hM2
        rw [hM2]
        exact n1
    · rw [n3, ← hM2]
      show M1.2 = S.2
      rw [m2.2.2, b2'.2.1, f3, c2.2, a3]
    · rw [rE a h2 h3, f2 a (by omega) (by omega), c2.1 a h1, a2 a (by omega)]
    · have e1 : gI E 163 j = gI M1 163 j := by
        unfold gI
        rw [n2 163 (by omega), ← hM2, sI_ne (by omega), sI_ne (by omega)]
      rw [e1, m2.2.1 j h1 h2, gmr 163 j (by omega) (by omega) (by omega)]
    · rw [gE, if_neg (by omega), if_neg (by omega), if_neg (by omega), if_neg (by omega), if_neg (by omega)]
      exact gmb k (Or.inr hk)
    · have cE : ∀ k, cM E 16 k = cM C 16 k := fun k => cM_keep (fun a h1 h2 => rE a (by omega) (by omega)) k
      have cSa : ∀ k, cM Sa 16 k = cM S 16 k := fun k => cM_keep (fun a h1 h2 => a2 a (by omega)) k
      have low : ∀ k, k < 11 → cM C 16 k = cM Sa 16 k := fun k hk => by
        have r17 : ∀ j, gI C 17 j = gI Sa 17 j := fun j => by unfold gI; rw [f2 17 (by omega) (by omega), c2.1 17 (by omega)]
        have r18 : ∀ j, gI C 18 j = gI Sa 18 j := fun j => by unfold gI; rw [f2 18 (by omega) (by omega), c2.1 18 (by omega)]
        have r163 : gI C 16 3 = gI Sa 16 3 := by rw [f4]; unfold gI; rw [c2.1 16 (by omega)]
        by_cases k1 : k < 5
        · rw [cM_l k1, cM_l k1]; exact r17 k
        · by_cases k2 : k < 10
          · obtain ⟨i, rfl⟩ : ∃ i, k = 5 + i := ⟨k - 5, by omega⟩
            rw [cM_f (by omega), cM_f (by omega)]; exact r18 i
          · obtain rfl : k = 10 := by omega
            exact r163
      have thr : ∀ s, s < 5 → cM E 16 (14 + s) = nI (t s + if v.1 = 2 ∧ s = v.2.2 then 1 else 0) := fun s hs => by rw [cE, cM_t hs]; exact f9 s hs
      refine PR_of (g := fun k => gI E 172 k) (PX_pres hn b4' (fun a ha => ?_) (fun k h1 h2 => ?_) (fun k hk hok => ?_) ?_) (fun k _ => by rw [Nat.zero_add])
      · rw [rE a (by omega) (by omega), f2 a (by omega) (by omega), c2.1 a (by omega)]
      · rw [gE, if_neg (by omega), if_neg (by intro q; have := htb q.1; omega), if_neg (by omega), if_neg (by omega), if_neg (by omega)]
        exact b2'.2.2 k
      · rw [gE]
        by_cases k19 : k = 19
        · subst k19; rw [if_pos rfl, cE]; exact f8
        rw [if_neg k19]
        by_cases k14 : 14 ≤ k
        · obtain ⟨s, rfl⟩ : ∃ s, k = 14 + s := ⟨k - 14, by omega⟩
          rw [thr s (by omega)]
          by_cases ks : v.1 = 2 ∧ s = v.2.2
          · rw [if_pos ks, if_pos ⟨ks.1, by omega⟩, ks.2]
          · rw [if_neg ks, if_neg (fun q => ks ⟨q.1, by omega⟩), if_neg (by omega), if_neg (by omega), if_neg (by omega), oS _ (by omega) (by omega)]
            exact (d5 s (by omega)).symm
        rw [if_neg (fun q => by omega)]
        by_cases k13 : k = 13
        · subst k13; rw [if_pos rfl, cE]; exact f7
        rw [if_neg k13]
        by_cases k12 : k = 12
        · subst k12; rw [if_pos rfl, cE]; exact f6
        rw [if_neg k12]
        by_cases k11 : k = 11
        · subst k11; rw [if_pos rfl, cE]; exact f5
        rw [if_neg k11, cE, low k (by omega), cSa k, gmb k (by omega)]
        exact q k hk hok
      · obtain ⟨⟨L', l1, l2, l3⟩, ⟨F', q2⟩, ⟨bb, q3, q4⟩, -⟩ := hR.2.1
        have o : ∀ k, k < 11 → cM E 16 k = cM S 16 k := fun k hk => by rw [cE, low k hk, cSa]
        refine ⟨⟨L', fun i hi => by rw [o i (by omega)]; exact l1 i hi, l2, l3⟩, ⟨F', fun s hs => by rw [o (5 + s) (by omega)]; exact q2 s hs⟩, ⟨bb, q3, by rw [o 10 (by omega)]; exact q4⟩, ⟨m + 1, _, _, _, fun s => t s + if v.1 = 2 ∧ s = v.2.2 then 1 else 0, (cE 11).trans f5, (cE 12).trans f6, (cE 13).trans f7, (cE 19).trans f8, thr, by omega, ?_, ?_, by omega⟩⟩
        · dsimp only
          by_cases h2 : v.1 = 2
          · have := sum5 (t := t) (htb h2)
            simp only [h2, true_and, if_pos]
            omega
          · simp only [h2, false_and, if_false]
            omega
        · by_cases h1 : v.1 = 1
          · rw [if_pos h1, if_neg (by omega)]; omega
          · rw [if_neg h1]; omega
  · refine simS h ⟨-1, by unfold f_X6_makes; rw [cd_no hx]; rfl, ?_⟩
    show f_X7_makes S _ = _
    unfold f_X7_makes; rw [md_no hx]; rfl
