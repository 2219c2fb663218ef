def DtC (S : Mm) (n : Nat) (F sec lk ms ah : Nat → Nat) (pr : Nat) : Prop := n ≤ 5 ∧ gI S (pl S) 0 = nI n ∧ gI S (pl S) 1 = nI pr ∧ pr ≤ 99 ∧ ∀ s, s < n → gI S 18 s = nI (F s) ∧ F s ≤ 9 ∧ gI S (pl S + 1) s = nI (sec s) ∧ sec s ≤ 99 ∧ gI S (pl S + 3) s = nI (lk s) ∧ lk s ≤ 30 ∧ gI S (pl S + 4) s = nI (ms s) ∧ ms s ≤ 9 ∧ gI S (pl S + 5) s = nI (ah s) ∧ ah s < 32 ∧ ∀ j, j ≤ s → (ah s).testBit j = false
def DtM (M : Mm) (n : Nat) (F sec lk ms ah : Nat → Nat) (pr : Nat) : Prop := gI M 165 0 = nI n ∧ gI M 171 0 = nI pr ∧ ∀ s, s < n → gI M 172 (5 + s) = nI (F s) ∧ gI M 166 s = nI (sec s) ∧ gI M 168 s = nI (lk s) ∧ gI M 169 s = nI (ms s) ∧ gI M 170 s = nI (ah s)
def LnC (S : Mm) (n : Nat) (L : Nat → Nat) : Prop := (∀ i, i < 5 → gI S 17 i = nI (L i) ∧ L i < 5) ∧ (∀ i, i < n → L i < n)
def LnM (S : Mm) (n : Nat) (L : Nat → Nat) : Prop := ∀ i, i < n → gI S 172 i = nI (L i)
theorem of_clamp {x : Int32} {v : Nat} (hv : v < 2 ^ 31) (h : x = nI v) : x = nI x.toNatClampNeg ∧ x.toNatClampNeg = v := by
  have : x.toNatClampNeg = v := by rw [h]; exact nI_clamp hv
  exact ⟨by rw [this]; exact h, this⟩
theorem Dt_of {S : Mm} {n : Nat} (hP : IP n S) (hR : PR n S 15 0) : ∃ (F sec lk ms ah : Nat → Nat) (pr : Nat) (L : Nat → Nat) (b : Nat), DtC S n F sec lk ms ah pr ∧ DtM S n F sec lk ms ah pr ∧ LnC S n L ∧ LnM S n L ∧ b < 2 ^ n ∧ gI S 16 3 = nI b ∧ gI S 172 10 = nI b := by
  obtain ⟨hn, p1, p2, ⟨pr, r0, r1, r2⟩, ps⟩ := hP
  have q := pres hR
  obtain ⟨⟨L, l1, l2, l3⟩, ⟨F, f1⟩, ⟨b, b1, b2⟩, -⟩ := hR.2.1
  refine ⟨F, fun s => (gI S (pl S + 1) s).toNatClampNeg, fun s => (gI S (pl S + 3) s).toNatClampNeg, fun s => (gI S (pl S + 4) s).toNatClampNeg, fun s => (gI S (pl S + 5) s).toNatClampNeg, pr, L, b, ⟨hn, p1, r1, r0, fun s hs => ?_⟩, ⟨p2, r2, fun s hs => ?_⟩, ⟨fun i hi => ?_, l2⟩, fun i hi => ?_, b1, b2, ?_⟩
  · dsimp only
    obtain ⟨⟨x, x0, x1, x2⟩, ⟨y, y0, y1, y2⟩, ⟨z, z0, z1, z2⟩, ⟨w, w0, w3, w1, w2⟩⟩ := ps s hs
    have ef : gI S 18 s = nI (F s) := by rw [← (f1 s hs).1]; exact (cM_f (S := S) (o := 16) (by omega)).symm
    obtain ⟨a1, a2⟩ := of_clamp (by omega) x1
    obtain ⟨a3, a4⟩ := of_clamp (by omega) y1
    obtain ⟨a5, a6⟩ := of_clamp (by omega) z1
    obtain ⟨a7, a8⟩ := of_clamp (by omega) w1
    exact ⟨ef, (f1 s hs).2, a1, by rw [a2]; exact x0, a3, by rw [a4]; exact y0, a5, by rw [a6]; exact z0, a7, by rw [a8]; exact w0, by rw [a8]; exact w3⟩
  · dsimp only
    obtain ⟨⟨x, x0, x1, x2⟩, ⟨y, y0, y1, y2⟩, ⟨z, z0, z1, z2⟩, ⟨w, w0, w3, w1, w2⟩⟩ := ps s hs
    obtain ⟨a1, a2⟩ := of_clamp (by omega) x1
    obtain ⟨a3, a4⟩ := of_clamp (by omega) y1
    obtain ⟨a5, a6⟩ := of_clamp (by omega) z1
    obtain ⟨a7, a8⟩ := of_clamp (by omega) w1
    exact ⟨by rw [← q (5 + s) (by omega) (by omega)]; exact (f1 s hs).1, by rw [a2]; exact x2, by rw [a4]; exact y2, by rw [a6]; exact z2, by rw [a8]; exact w2⟩
  · rw [← (l1 i hi).1]
    exact ⟨(cM_l (S := S) (o := 16) hi).symm, (l1 i hi).2⟩
  · rw [← q i (by omega) (by omega)]; exact (l1 i (by omega)).1
  · rw [← q 10 (by omega) (by omega)]; exact b2
theorem DtC_keep {S T : Mm} {n : Nat} {F sec lk ms ah : Nat → Nat} {pr : Nat} (hD : ID S) (h : DtC S n F sec lk ms ah pr) (hp : pl T = pl S) (hr : ∀ a, a < 15 ∨ a = 18 → T.1 a = S.1 a) : DtC T n F sec lk ms ah pr := by
  have hpl : pl S ≤ 9 := by rcases hD with ⟨h, -⟩ | ⟨h, -⟩ <;> omega
  have hg : ∀ a j, a < 15 ∨ a = 18 → gI T a j = gI S a j := fun a j ha => by unfold gI; rw [hr a ha]
  obtain ⟨h0, h1, h2, h3, h4⟩ := h
  refine ⟨h0, ?_, ?_, h3, fun s hs => ?_⟩
  · rw [hp, hg _ _ (by omega)]; exact h1
  · rw [hp, hg _ _ (by omega)]; exact h2
  · rw [hp, hg 18 s (by omega), hg (pl S + 1) s (by omega), hg (pl S + 3) s (by omega), hg (pl S + 4) s (by omega), hg (pl S + 5) s (by omega)]
    exact h4 s hs
theorem DtM_keep {S T : Mm} {n : Nat} {F sec lk ms ah : Nat → Nat} {pr : Nat} (h : DtM S n F sec lk ms ah pr) (hr : ∀ a, 165 ≤ a → a ≤ 172 → T.1 a = S.1 a) : DtM T n F sec lk ms ah pr := by
  have hg : ∀ a j, 165 ≤ a → a ≤ 172 → gI T a j = gI S a j := fun a j h1 h2 => by unfold gI; rw [hr a h1 h2]
  obtain ⟨h1, h2, h4⟩ := h
  refine ⟨by rw [hg _ _ (by omega) (by omega)]; exact h1, by rw [hg _ _ (by omega) (by omega)]; exact h2, fun s hs => ?_⟩
  rw [hg 172 _ (by omega) (by omega), hg 166 s (by omega) (by omega), hg 168 s (by omega) (by omega), hg 169 s (by omega) (by omega), hg 170 s (by omega) (by omega)]
  exact h4 s hs
/-! draws -/
def dv (z s : Nat) : Nat := (7919 * z + 6151 * s + 1) * (7919 * z + 6151 * s + 1) % 65521 / 8 % 10
theorem q_lN {z s : Nat} (hz : z ≤ 9999) (hs : s ≤ 9) : (7919 : Int64) * (nI z).toInt64 + 6151 * (nI s).toInt64 + 1 = lN (7919 * z + 6151 * s + 1) := by
  rw [nI_l (by omega), nI_l (by omega), show (7919 : Int64) * lN z = lN (7919 * z) from lN_mul 7919 z, show (6151 : Int64) * lN s = lN (6151 * s) from lN_mul 6151 s, lN_add, lN_1]
theorem q_bd {z s : Nat} (hz : z ≤ 9999) (hs : s ≤ 9) : (7919 * z + 6151 * s + 1) * (7919 * z + 6151 * s + 1) < 2 ^ 63 := by
  have h : 7919 * z + 6151 * s + 1 ≤ 80000000 := by omega
  exact Nat.lt_of_le_of_lt (Nat.mul_le_mul h h) (by decide)
theorem draw_c {S : Mm} {z s : Nat} (hz : z ≤ 9999) (hs : s ≤ 9) : f_X2_draw S (nI z) (nI s) = some (nI (dv z s), S) := by
  unfold f_X2_draw
  rw [nm_ok, q_lN hz hs, lN_mul]
  have hb := q_bd hz hs
  unfold dv
  generalize (7919 * z + 6151 * s + 1) * (7919 * z + 6151 * s + 1) = q at hb ⊢
  have e1 : lN q - lN q / 65521 * 65521 = lN (q % 65521) := pk_lRem (b := 65521) hb (by omega) (by omega)
  have h65 : q % 65521 < 65521 := Nat.mod_lt _ (by omega)
  have e2 : lN (q % 65521) / 8 = lN (q % 65521 / 8) := pk_lDiv (b := 8) (by omega) (by omega) (by omega)
  have e3 : lN (q % 65521 / 8) - lN (q % 65521 / 8) / 10 * 10 = lN (q % 65521 / 8 % 10) := pk_lRem (b := 10) (by omega) (by omega) (by omega)
  rw [e1, e2, e3, lN_i]
theorem draw_m {S : Mm} {z s : Nat} (hz : z ≤ 9999) (hs : s ≤ 9) : f_X7_drawOf S (nI z) (nI s) = some (nI (dv z s), S) := by
  unfold f_X7_drawOf
  rw [nm_ok, q_lN hz hs, lN_mul]
  have hb := q_bd hz hs
  unfold dv
  generalize (7919 * z + 6151 * s + 1) * (7919 * z + 6151 * s + 1) = q at hb ⊢
  have e1 : lN q - lN q / 65521 * 65521 = lN (q % 65521) := pk_lRem (b := 65521) hb (by omega) (by omega)
  have h65 : q % 65521 < 65521 := Nat.mod_lt _ (by omega)
  have e2 : nI (q % 65521) / 8 = nI (q % 65521 / 8) := pk_div (d := 8) (by omega) (by omega) (by omega)
  have e3 : nI (q % 65521 / 8) - nI (q % 65521 / 8) / 10 * 10 = nI (q % 65521 / 8 % 10) := pk_rem (d := 10) (by omega) (by omega) (by omega)
  rw [e1, lN_i, e2, e3]
theorem dv_lt (z s : Nat) : dv z s < 10 := Nat.mod_lt _ (by omega)
/-! one needle's way -/
def way (L sec F lk ms : Nat → Nat) (w z : Nat) : Nat → Nat → Bool → Nat → Nat × Nat × Nat
  | 0, _, d, c => (if d then 1 else 0, c, 0)
  | r + 1, i, d, c => if w / 2 ^ (L i) % 2 = 1 then (if (d || decide (dv z (L i) < F (L i))) && decide (ms (L i) ≤ dv z (L i + 5)) then (2, c + sec (L i) + lk (L i), L i) else way L sec F lk ms w z r (i + 1) (d || decide (dv z (L i) < F (L i))) (c + sec (L i) + lk (L i))) else way L sec F lk ms w z r (i + 1) (d || decide (dv z (L i) < F (L i))) (c + sec (L i))
def bI (d : Bool) : Int32 := if d then 1 else 0
def U157 (S T : Mm) : Prop := (∀ a, a ≠ 157 → T.1 a = S.1 a) ∧ T.2 = S.2
theorem U157_s {S T : Mm} {j : Nat} {v : Int32} (h : U157 S T) : U157 S (sI T 157 j v) := ⟨fun a ha => by rw [sI_ne ha]; exact h.1 a ha, h.2⟩
theorem lt_nI {a b : Nat} (ha : a < 2 ^ 31) (hb : b < 2 ^ 31) : nI b ≤ nI a ↔ ¬ a < b := by rw [nI_leI hb ha]; omega
theorem go_cl {S : Mm} {n : Nat} {F sec lk ms ah : Nat → Nat} {pr : Nat} {L : Nat → Nat} (hD : ID S) (D : DtC S n F sec lk ms ah pr) (hL : LnC S n L) {w z : Nat} (hw : w < 32) (hz : z ≤ 9999) : ∀ (r i fu : Nat) (d : Bool) (c : Nat) (T : Mm), i + r = n → r + 2 ≤ fu → U157 S T → gI T 157 0 = nI c → gI T 157 1 = bI d → gI T 157 2 = -1 → ∃ E, f_X2_go_18 (pl S) 16 fu (nI w) (nI z) (nI i) T = some ((), E) ∧ U157 S E ∧ gI E 157 0 = nI (way L sec F lk ms w z r i d c).2.1 ∧ ((way L sec F lk ms w z r i d c).1 = 2 → gI E 157 2 = nI (way L sec F lk ms w z r i d c).2.2 ∧ (way L sec F lk ms w z r i d c).2.2 < n) ∧ ((way L sec F lk ms w z r i d c).1 ≠ 2 → gI E 157 2 = -1 ∧ gI E 157 1 = nI (way L sec F lk ms w z r i d c).1 ∧ (way L sec F lk ms w z r i d c).1 < 2) := by
  have hpl : pl S ≤ 9 := by rcases hD with ⟨h, -⟩ | ⟨h, -⟩ <;> omega
  obtain ⟨hn, d1, -, -, d2⟩ := D
  intro r
  induction r with
  | zero =>
    intro i fu d c T hi hf u e0 e1 e2
    obtain ⟨f', rfl⟩ : ∃ f', fu = f' + 1 := ⟨fu - 1, by omega⟩
    have en : gI T (pl S) 0 = nI n := by unfold gI; rw [u.1 _ (by omega)]; exact d1
    rw [f_X2_go_18, en, show i = n by omega, if_pos (nI_le (Nat.le_refl _) (by omega))]
    refine ⟨T, rfl, u, e0, fun h => ?_, fun _ => ⟨e2, ?_, ?_⟩⟩
    · cases d <;> simp [way] at h
    · rw [e1]; cases d <;> rfl
    · cases d <;> simp [way]
  | succ r ih =>
    intro i fu d c T hi hf u e0 e1 e2
    obtain ⟨f', rfl⟩ : ∃ f', fu = f' + 1 := ⟨fu - 1, by omega⟩
    have hin : i < n := by omega
    have hs := hL.2 i hin
    have hg : ∀ X : Mm, U157 S X → ∀ a j, a ≠ 157 → gI X a j = gI S a j := fun X hX a j ha => by unfold gI; rw [hX.1 a ha]
    obtain ⟨g1, g2, g3, -, g4, -, g5, g6, -⟩ := d2 (L i) hs
    have en : gI T (pl S) 0 = nI n := by rw [hg T u _ _ (by omega)]; exact d1
    have el : gI T 17 i = nI (L i) := by rw [hg T u _ _ (by omega)]; exact (hL.1 i (by omega)).1
    rw [f_X2_go_18, en, if_neg (nI_ge hin (by omega)), e2, if_pos rfl, bnd_ok (inB_nI (by omega) (by decide)), nI_clamp (by omega), el, nm_ok, bnd_ok (inB_nI (by omega) (by decide)), nI_clamp (by omega), e0, hg T u (pl S + 1) _ (by omega), g3, nI_add, nm_ok]
    generalize hT1 : sI T 157 0 (nI (c + sec (L i))) = T1
    have u1 : U157 S T1 := by rw [← hT1]; exact U157_s u
    have t11 : gI T1 157 1 = bI d := by rw [← hT1, gI_sI, if_neg (by omega)]; exact e1
    have t12 : gI T1 157 2 = -1 := by rw [← hT1, gI_sI, if_neg (by omega)]; exact e2
    have t10 : gI T1 157 0 = nI (c + sec (L i)) := by rw [← hT1, gI_sI, if_pos ⟨rfl, rfl⟩]
    -- the fault
    have key : ∀ (d' : Bool) (T2 : Mm), d' = (d || decide (dv z (L i) < F (L i))) → U157 S T2 → gI T2 157 0 = nI (c + sec (L i)) → gI T2 157 1 = bI d' → gI T2 157 2 = -1 → ∃ E, f_X2_go_93 (f_X2_go_18 (pl S) 16 f') (pl S) 16 (nI w) (nI z) (nI i) (nI (L i)) T2 = some ((), E) ∧ U157 S E ∧ gI E 157 0 = nI (way L sec F lk ms w z (r + 1) i d c).2.1 ∧ ((way L sec F lk ms w z (r + 1) i d c).1 = 2 → gI E 157 2 = nI (way L sec F lk ms w z (r + 1) i d c).2.2 ∧ (way L sec F lk ms w z (r + 1) i d c).2.2 < n) ∧ ((way L sec F lk ms w z (r + 1) i d c).1 ≠ 2 → gI E 157 2 = -1 ∧ gI E 157 1 = nI (way L sec F lk ms w z (r + 1) i d c).1 ∧ (way L sec F lk ms w z (r + 1) i d c).1 < 2) := by
      intro d' T2 hd' u2 a0 a1 a2
      unfold f_X2_go_93
      rw [bit_ok hw (by omega)]
      unfold way
      rw [← hd']
      by_cases hb : w / 2 ^ (L i) % 2 = 1
      · rw [if_pos (by rw [hb]; rfl), if_pos hb, bnd_ok (inB_nI (by omega) (by decide)), nI_clamp (by omega), a0, hg T2 u2 (pl S + 3) _ (by omega), g4, nI_add, nm_ok]
        generalize hT3 : sI T2 157 0 (nI (c + sec (L i) + lk (L i))) = T3
        have u3 : U157 S T3 := by rw [← hT3]; exact U157_s u2
        have b1 : gI T3 157 1 = bI d' := by rw [← hT3, gI_sI, if_neg (by omega)]; exact a1
        have b2 : gI T3 157 2 = -1 := by rw [← hT3, gI_sI, if_neg (by omega)]; exact a2
        have b0 : gI T3 157 0 = nI (c + sec (L i) + lk (L i)) := by rw [← hT3, gI_sI, if_pos ⟨rfl, rfl⟩]
        rw [b1]
        cases hdd : d' with
        | false =>
          rw [if_pos (show bI false = 0 from rfl), nm_ok, nI_1, if_neg (by simp)]
          rw [hdd] at b1
          exact ih (i + 1) f' false _ T3 (by omega) (by omega) u3 b0 b1 b2
        | true =>
          rw [if_neg (show ¬ bI true = 0 by decide), show nI (L i) + 5 = nI (L i + 5) from nI_add (L i) 5, draw_c hz (by omega), bd_ok, bnd_ok (inB_nI (by omega) (by decide)), hg T3 u3 (pl S + 4) _ (by omega), g5]
          have hlt := nI_ltI (a := dv z (L i + 5)) (b := ms (L i)) (by have := dv_lt z (L i + 5); omega) (by omega)
          by_cases hm : dv z (L i + 5) < ms (L i)
          · rw [if_pos (hlt.2 hm), nm_ok, nI_1, if_neg (by simp; omega)]
            rw [hdd] at b1
            exact ih (i + 1) f' true _ T3 (by omega) (by omega) u3 b0 b1 b2
          · rw [if_neg (fun q => hm (hlt.1 q)), nm_ok, nm_ok, nI_1, if_pos (by simp; omega)]
            generalize hT4 : sI T3 157 2 (nI (L i)) = T4
            have u4 : U157 S T4 := by rw [← hT4]; exact U157_s u3
            have c2 : gI T4 157 2 = nI (L i) := by rw [← hT4, gI_sI, if_pos ⟨rfl, rfl⟩]
            have c0 : gI T4 157 0 = nI (c + sec (L i) + lk (L i)) := by rw [← hT4, gI_sI, if_neg (by omega)]; exact b0
            obtain ⟨f'', rfl⟩ : ∃ f'', f' = f'' + 1 := ⟨f' - 1, by omega⟩
            refine ⟨T4, ?_, u4, c0, fun _ => ⟨c2, hs⟩, fun h => absurd rfl h⟩
            rw [f_X2_go_18]
            split
            · rfl
            · rw [c2, if_neg (show ¬ nI (L i) = -1 from fun q => absurd (nI_pos (show L i < 2 ^ 31 by omega)) (by rw [q]; decide))]
      · rw [if_neg (by rw [show (1 : Int32) = nI 1 from rfl, nI_eq (by omega) (by omega)]; exact hb), if_neg hb, nm_ok, nI_1]
        exact ih (i + 1) f' d' _ T2 (by omega) (by omega) u2 a0 a1 a2
    rw [t11]
    cases hd : d with
    | true =>
      rw [if_neg (show ¬ bI true = 0 by decide), nm_ok]
      rw [hd] at key
      refine key true _ rfl (U157_s u1) ?_ ?_ ?_
      · rw [gI_sI, if_neg (by omega)]; exact t10
      · rw [gI_sI, if_pos ⟨rfl, rfl⟩]; rfl
      · rw [gI_sI, if_neg (by omega)]; exact t12
    | false =>
      rw [if_pos (show bI false = 0 from rfl), draw_c hz (by omega), bd_ok, bnd_ok (inB_nI (by omega) (by decide)), show gI T1 (16 + 2) (L i) = gI T1 18 (L i) from rfl, hg T1 u1 18 _ (by omega), g1]
      have hlt := lt_nI (a := dv z (L i)) (b := F (L i)) (by have := dv_lt z (L i); omega) (by omega)
      rw [hd] at key
      by_cases hf2 : dv z (L i) < F (L i)
      · rw [if_neg (fun q => hlt.1 q hf2), nm_ok]
        refine key true _ (by simp [hf2]) (U157_s u1) ?_ ?_ ?_
        · rw [gI_sI, if_neg (by omega)]; exact t10
        · rw [gI_sI, if_pos ⟨rfl, rfl⟩]; rfl
        · rw [gI_sI, if_neg (by omega)]; exact t12
      · rw [if_pos (hlt.2 hf2), nm_ok]
        refine key false _ (by simp [hf2]) (U157_s u1) ?_ ?_ ?_
        · rw [gI_sI, if_neg (by omega)]; exact t10
        · rw [gI_sI, if_pos ⟨rfl, rfl⟩]; rfl
        · rw [gI_sI, if_neg (by omega)]; exact t12

def GoC (E : Mm) (n : Nat) (v : Nat × Nat × Nat) : Prop := gI E 157 0 = nI v.2.1 ∧ (v.1 = 2 → gI E 157 2 = nI v.2.2 ∧ v.2.2 < n) ∧ (v.1 ≠ 2 → gI E 157 2 = -1 ∧ gI E 157 1 = nI v.1 ∧ v.1 < 2)
theorem go_c {S : Mm} {n : Nat} {F sec lk ms ah : Nat → Nat} {pr : Nat} {L : Nat → Nat} (hD : ID S) (D : DtC S n F sec lk ms ah pr) (hL : LnC S n L) {w z : Nat} (hw : w < 32) (hz : z ≤ 9999) : ∃ E, f_X2_go S (pl S) 16 (nI w) (nI z) = some ((), E) ∧ U157 S E ∧ GoC E n (way L sec F lk ms w z n 0 false 0) := by
  unfold f_X2_go
  rw [nm_ok, nm_ok, nm_ok]
  obtain ⟨E, h1, h2, h3, h4, h5⟩ := go_cl hD D hL hw hz n 0 400 false 0 (sI (sI (sI S 157 0 0) 157 1 0) 157 2 (-1)) (by omega) (by have := D.1; omega) (U157_s (U157_s (U157_s ⟨fun _ _ => rfl, rfl⟩))) (by rw [gI_sI, if_neg (by omega), gI_sI, if_neg (by omega), gI_sI, if_pos ⟨rfl, rfl⟩]; rfl) (by rw [gI_sI, if_neg (by omega), gI_sI, if_pos ⟨rfl, rfl⟩]; rfl) (by rw [gI_sI, if_pos ⟨rfl, rfl⟩])
  exact ⟨E, h1, h2, h3, h4, h5⟩
theorem nI_n1 {k : Nat} (hk : k < 2 ^ 31) : ¬ nI k = -1 := fun q => absurd (nI_pos hk) (by rw [q]; decide)
theorem fate_ok {E : Mm} {n : Nat} {v : Nat × Nat × Nat} (hn : n ≤ 5) (h : GoC E n v) : f_X2_fate E = some (nI v.1, E) := by
  obtain ⟨-, h2, h3⟩ := h
  unfold f_X2_fate
  by_cases q : v.1 = 2
  · rw [(h2 q).1, if_neg (nI_n1 (by have := (h2 q).2; omega)), q]; rfl
  · obtain ⟨a, b, c⟩ := h3 q
    rw [a, if_pos rfl, b]
    rcases (show v.1 = 0 ∨ v.1 = 1 by omega) with e | e
    · rw [e, if_pos (show nI 0 = 0 from rfl)]; rfl
    · rw [e, if_neg (by decide)]; rfl
theorem way_le {L sec F lk ms : Nat → Nat} {w z n : Nat} (hs : ∀ i, i < n → sec (L i) ≤ 99 ∧ lk (L i) ≤ 30) : ∀ (r i : Nat) (d : Bool) (c : Nat), i + r = n → (way L sec F lk ms w z r i d c).2.1 ≤ c + 129 * r ∧ (way L sec F lk ms w z r i d c).1 ≤ 2 := by
  intro r
  induction r with
  | zero => intro i d c _; refine ⟨?_, ?_⟩ <;> cases d <;> simp [way]
  | succ r ih =>
    intro i d c hi
    obtain ⟨h1, h2⟩ := hs i (by omega)
    unfold way
    by_cases hb : w / 2 ^ (L i) % 2 = 1
    · rw [if_pos hb]
      split
      · refine ⟨?_, Nat.le_refl _⟩
        dsimp only
        omega
      · obtain ⟨a, b⟩ := ih (i + 1) (d || decide (dv z (L i) < F (L i))) (c + sec (L i) + lk (L i)) (by omega)
        exact ⟨by omega, b⟩
    · rw [if_neg hb]
      obtain ⟨a, b⟩ := ih (i + 1) (d || decide (dv z (L i) < F (L i))) (c + sec (L i)) (by omega)
      exact ⟨by omega, b⟩
def U163 (S T : Mm) : Prop := (∀ a, a ≠ 163 → T.1 a = S.1 a) ∧ (∀ j, j ≠ 18 → j ≠ 19 → gI T 163 j = gI S 163 j) ∧ T.2 = S.2
theorem U163_s {S T : Mm} {j : Nat} {v : Int32} (h : U163 S T) (hj : j = 18 ∨ j = 19) : U163 S (sI T 163 j v) := ⟨fun a ha => by rw [sI_ne ha]; exact h.1 a ha, fun i h1 h2 => by rw [gI_sI, if_neg (by omega)]; exact h.2.1 i h1 h2, h.2.2⟩
def GoM (E : Mm) (pr : Nat) (v : Nat × Nat × Nat) : Prop := gI E 163 18 = nI (v.2.1 + if v.1 = 1 then pr else 0) ∧ (v.1 = 2 → gI E 163 19 = nI v.2.2)
theorem go_ml {S : Mm} {n : Nat} {F sec lk ms ah : Nat → Nat} {pr : Nat} {L : Nat → Nat} (hn : n ≤ 5) (D : DtM S n F sec lk ms ah pr) (hF : ∀ s, s < n → F s ≤ 9 ∧ ms s ≤ 9) (hL : LnM S n L) (hL2 : ∀ i, i < n → L i < n) {w z : Nat} (hw : w < 32) (hz : z ≤ 9999) : ∀ (r i fu : Nat) (d : Bool) (c : Nat) (T : Mm), i + r = n → r + 2 ≤ fu → U163 S T → gI T 163 18 = nI c → ∃ E, f_X7_go_16 fu (nI z) (nI w) (bI d) (nI i) T = some (nI (way L sec F lk ms w z r i d c).1, E) ∧ U163 S E ∧ GoM E pr (way L sec F lk ms w z r i d c) := by
  obtain ⟨d1, dp, d2⟩ := D
  intro r
  induction r with
  | zero =>
    intro i fu d c T hi hf u e0
    obtain ⟨f', rfl⟩ : ∃ f', fu = f' + 1 := ⟨fu - 1, by omega⟩
    have en : gI T 165 0 = nI n := by unfold gI; rw [u.1 _ (by omega)]; exact d1
    have ep : gI T 171 0 = nI pr := by unfold gI; rw [u.1 _ (by omega)]; exact dp
    rw [f_X7_go_16, bnd_ok (by decide), show (0 : Int32).toNatClampNeg = 0 from rfl, en, show i = n by omega, if_pos (nI_le (Nat.le_refl _) (by omega))]
    cases d with
    | false =>
      rw [if_pos (show bI false = 0 from rfl), nm_ok, if_pos (show bI false = 0 from rfl)]
      refine ⟨_, rfl, U163_s u (Or.inl rfl), ?_, fun h => by simp [way] at h⟩
      rw [gI_sI, if_pos ⟨rfl, rfl⟩, e0]
      exact nI_add c 0
    | true =>
      rw [if_neg (show ¬ bI true = 0 by decide), bnd_ok (by decide), ep, nm_ok, if_neg (show ¬ bI true = 0 by decide)]
      refine ⟨_, rfl, U163_s u (Or.inl rfl), ?_, fun h => by simp [way] at h⟩
      rw [gI_sI, if_pos ⟨rfl, rfl⟩, e0, nI_add]
      rfl
  | succ r ih =>
    intro i fu d c T hi hf u e0
    obtain ⟨f', rfl⟩ : ∃ f', fu = f' + 1 := ⟨fu - 1, by omega⟩
    have hin : i < n := by omega
    have hs := hL2 i hin
    have hg : ∀ X : Mm, U163 S X → ∀ a j, a ≠ 163 → gI X a j = gI S a j := fun X hX a j ha => by unfold gI; rw [hX.1 a ha]
    obtain ⟨g1, g3, g4, g5, -⟩ := d2 (L i) hs
    obtain ⟨q1, q2⟩ := hF (L i) hs
    have en : gI T 165 0 = nI n := by rw [hg T u _ _ (by omega)]; exact d1
    have el : gI T 172 i = nI (L i) := by rw [hg T u _ _ (by omega)]; exact hL i (by omega)
    rw [f_X7_go_16, bnd_ok (by decide), show (0 : Int32).toNatClampNeg = 0 from rfl, en, if_neg (nI_ge hin (by omega)), show (0 : Int32) + nI i = nI i by rw [show (0 : Int32) = nI 0 from rfl, nI_add, Nat.zero_add], bnd_ok (inB_nI (by omega) (by decide)), nI_clamp (by omega), el, nm_ok, bnd_ok (inB_nI (by omega) (by decide)), nI_clamp (by omega), e0, hg T u 166 _ (by omega), g3, nI_add, nm_ok]
    generalize hT1 : sI T 163 18 (nI (c + sec (L i))) = T1
    have u1 : U163 S T1 := by rw [← hT1]; exact U163_s u (Or.inl rfl)
    have t10 : gI T1 163 18 = nI (c + sec (L i)) := by rw [← hT1, gI_sI, if_pos ⟨rfl, rfl⟩]
    have key : ∀ (d' : Bool), d' = (d || decide (dv z (L i) < F (L i))) → ∃ E, f_X7_go_82 (f_X7_go_16 f') (nI z) (nI w) (bI d') (nI i) (nI (L i)) T1 = some (nI (way L sec F lk ms w z (r + 1) i d c).1, E) ∧ U163 S E ∧ GoM E pr (way L sec F lk ms w z (r + 1) i d c) := by
      intro d' hd'
      unfold f_X7_go_82
      rw [bit_ok hw (by omega)]
      unfold way
      rw [← hd']
      by_cases hb : w / 2 ^ (L i) % 2 = 1
      · rw [if_pos (by rw [hb]; rfl), if_pos hb, bnd_ok (inB_nI (by omega) (by decide)), nI_clamp (by omega), t10, hg T1 u1 168 _ (by omega), g4, nI_add, nm_ok]
        generalize hT3 : sI T1 163 18 (nI (c + sec (L i) + lk (L i))) = T3
        have u3 : U163 S T3 := by rw [← hT3]; exact U163_s u1 (Or.inl rfl)
        have b0 : gI T3 163 18 = nI (c + sec (L i) + lk (L i)) := by rw [← hT3, gI_sI, if_pos ⟨rfl, rfl⟩]
        cases hdd : d' with
        | false =>
          rw [if_pos (show bI false = 0 from rfl), nm_ok, nI_1, if_neg (by simp)]
          exact ih (i + 1) f' false _ T3 (by omega) (by omega) u3 b0
        | true =>
          rw [if_neg (show ¬ bI true = 0 by decide), show nI (L i) + 5 = nI (L i + 5) from nI_add (L i) 5, draw_m hz (by omega), bd_ok, bnd_ok (inB_nI (by omega) (by decide)), hg T3 u3 169 _ (by omega), g5]
          have hlt := nI_ltI (a := dv z (L i + 5)) (b := ms (L i)) (by have := dv_lt z (L i + 5); omega) (by omega)
          by_cases hm : dv z (L i + 5) < ms (L i)
          · rw [if_pos (hlt.2 hm), nm_ok, nI_1, if_neg (by simp; omega)]
            exact ih (i + 1) f' true _ T3 (by omega) (by omega) u3 b0
          · rw [if_neg (fun q => hm (hlt.1 q)), nm_ok, if_pos (by simp; omega)]
            refine ⟨_, rfl, U163_s u3 (Or.inr rfl), ?_, fun _ => ?_⟩
            · rw [gI_sI, if_neg (by omega)]; exact b0
            · rw [gI_sI, if_pos ⟨rfl, rfl⟩]
      · rw [if_neg (by rw [show (1 : Int32) = nI 1 from rfl, nI_eq (by omega) (by omega)]; exact hb), if_neg hb, nm_ok, nI_1]
        exact ih (i + 1) f' d' _ T1 (by omega) (by omega) u1 t10
    cases hd : d with
    | true =>
      rw [if_neg (show ¬ bI true = 0 by decide)]
      rw [hd] at key
      exact key true rfl
    | false =>
      rw [if_pos (show bI false = 0 from rfl), draw_m hz (by omega), bd_ok, show (5 : Int32) + nI (L i) = nI (5 + L i) from nI_add 5 (L i), bnd_ok (inB_nI (by omega) (by decide)), nI_clamp (by omega), hg T1 u1 172 _ (by omega), g1]
      have hlt := lt_nI (a := dv z (L i)) (b := F (L i)) (by have := dv_lt z (L i); omega) (by omega)
      rw [hd] at key
      by_cases hf2 : dv z (L i) < F (L i)
      · rw [if_neg (fun q => hlt.1 q hf2)]
        exact key true (by simp [hf2])
      · rw [if_pos (hlt.2 hf2)]
        exact key false (by simp [hf2])
theorem go_m {S : Mm} {n : Nat} {F sec lk ms ah : Nat → Nat} {pr : Nat} {L : Nat → Nat} (hn : n ≤ 5) (D : DtM S n F sec lk ms ah pr) (hF : ∀ s, s < n → F s ≤ 9 ∧ ms s ≤ 9) (hL : LnM S n L) (hL2 : ∀ i, i < n → L i < n) {w z : Nat} (hw : w < 32) (hz : z ≤ 9999) : ∃ E, f_X7_go S (nI z) (nI w) = some (nI (way L sec F lk ms w z n 0 false 0).1, E) ∧ U163 S E ∧ GoM E pr (way L sec F lk ms w z n 0 false 0) := by
  unfold f_X7_go
  rw [nm_ok, nm_ok]
  exact go_ml hn D hF hL hL2 hw hz n 0 400 false 0 (sI (sI S 163 18 0) 163 19 (-9)) (by omega) (by omega) (U163_s (U163_s ⟨fun _ _ => rfl, fun _ _ _ => rfl, rfl⟩ (Or.inl rfl)) (Or.inr rfl)) (by rw [gI_sI, if_neg (by omega), gI_sI, if_pos ⟨rfl, rfl⟩]; rfl)
