theorem restore_ok {S : Mm} {p N K : Nat} (hp : KK p = 3) (hN : N < 10) (hK : K ≤ 10) (hK0 : K ≠ 0) (e2 : gI S p 2 = nI N) (e3 : gI S p 3 = nI K) : ∃ S', f_X3_restore S p = some (1, S') ∧ (∀ k, k < 20 → cM S' (p + 1) k = cM S (p + 6 + 4 * ((N + 9) % 10)) k) ∧ (∀ b, b ≠ p → (b < p + 1 ∨ p + 5 ≤ b) → S'.1 b = S.1 b) ∧ gI S' p 2 = nI ((N + 9) % 10) ∧ gI S' p 3 = nI (K - 1) ∧ S'.2 = S.2 := by
  have hm : (N + 9) % 10 < 10 := Nat.mod_lt _ (by omega)
  have m1 : nI N + 10 - 1 - (nI N + 10 - 1) / 10 * 10 = nI ((N + 9) % 10) := by
    rw [show nI N + 10 = nI (N + 10) from nI_add N 10, sub1 (by omega), show N + 10 - 1 = N + 9 by omega]
    exact pk_rem (a := N + 9) (d := 10) (by omega) (by omega) (by omega)
  generalize hT : sI S p 2 (nI ((N + 9) % 10)) = T
  have t2 : gI T p 2 = nI ((N + 9) % 10) := by rw [← hT]; simp [gI_sI]
  have t3 : gI T p 3 = nI K := by rw [← hT]; simp [gI_sI, e3]
  have tr : ∀ b, b ≠ p → T.1 b = S.1 b := fun b hb => by rw [← hT, sI_ne hb]
  obtain ⟨S1, h1, h2, h3, h4⟩ := become_ok (S := T) (o := p + 1) (a := p + 5 + 1 + 4 * ((N + 9) % 10)) (kf_3_present hp) (by have := KK_pm hp hm; rw [show p + 5 + 1 + 4 * ((N + 9) % 10) = p + 6 + 4 * ((N + 9) % 10) by omega]; exact this) (by omega)
  have s3 : gI S1 p 3 = nI K := by unfold gI; rw [h3 p (by omega)]; exact t3
  have s2 : gI S1 p 2 = nI ((N + 9) % 10) := by unfold gI; rw [h3 p (by omega)]; exact t2
  refine ⟨sI S1 p 3 (nI (K - 1)), ?_, fun k hk => ?_, fun b hb1 hb2 => ?_, by simp [gI_sI, s2], by simp [gI_sI], ?_⟩
  · unfold f_X3_restore
    rw [e3, if_neg (show ¬ nI K = 0 from nI_ne0 (by omega) (by omega)), e2, m1, hT, nm_ok, t2, bnd_ok (inB_nI hm (by decide)), nI_clamp (by omega), h1, bd_ok, s3, sub1 (by omega), nm_ok]
  · rw [cM_keep (S := S1) (fun b _ _ => by rw [sI_ne (by omega)]) k, h2 k hk, show p + 5 + 1 + 4 * ((N + 9) % 10) = p + 6 + 4 * ((N + 9) % 10) by omega]
    exact cM_keep (fun b _ _ => tr b (by omega)) k
  · rw [sI_ne hb1, h3 b (by omega), tr b hb1]
  · show S1.2 = S.2
    rw [h4, ← hT]; rfl
theorem sm_undo : sim_undo Inv := fun S h => by
  obtain ⟨n, hP, hR, hI, hT, hG, hD, hJ⟩ := id h
  have hn := hP.1
  obtain ⟨r1, w1, K, N, hK, hN, e1, e2, e3, r2⟩ := PX_of hR
  have e20 : gI S 172 20 = nI K := by simpa using e3
  by_cases hK0 : K = 0
  · subst hK0
    refine simS h ⟨-2, by unfold f_X6_undo f_X3_restore; rw [e1]; rfl, ?_⟩
    show f_X7_undo S = _
    unfold f_X7_undo
    rw [bnd_ok i20, cl20, e20]; rfl
  · obtain ⟨Sa, a1, a2, a3, a4, a5, a6⟩ := restore_ok (S := S) (p := 15) k15 hN hK hK0 e2 e1
    have m20 : gI Sa 172 20 = nI K := by unfold gI; rw [a3 172 (by omega) (by omega)]; exact e20
    generalize hTT : sI Sa 172 20 (nI (K - 1)) = T
    have tr : ∀ b, b ≠ 172 → T.1 b = Sa.1 b := fun b hb => by rw [← hTT, sI_ne hb]
    have tg : ∀ m, gI T 172 m = if m = 20 then nI (K - 1) else gI S 172 m := fun m => by
      rw [← hTT, gI_sI]
      have : gI Sa 172 m = gI S 172 m := by unfold gI; rw [a3 172 (by omega) (by omega)]
      rw [this]
      by_cases hm : m = 20 <;> simp [hm]
    obtain ⟨E, b1, b2⟩ := undo26 (S := T) (K := K - 1) (by omega) (by rw [tg, if_pos rfl]) 400 0 T (by omega) (by omega) ⟨fun _ _ => rfl, rfl, fun m => by dsimp only; rw [if_neg (by omega)]⟩
    have eg : ∀ m, gI E 172 m = if m < 20 then gI S 172 (21 + 20 * (K - 1) + m) else if m = 20 then nI (K - 1) else gI S 172 m := fun m => by
      rw [b2.2.2 m]
      dsimp only
      by_cases hm : m < 20
      · rw [if_pos hm, if_pos hm, tg, if_neg (by omega)]
      · rw [if_neg hm, if_neg hm, tg]
    have ec : ∀ b, b ≠ 172 → E.1 b = Sa.1 b := fun b hb => (b2.1 b hb).trans (tr b hb)
    refine ⟨nI (K - 1), Sa, E, ?_, ?_, Inv_past hP hI hT hG hD hJ ?_ (fun b hb _ _ h172 => ?_) (fun i _ _ => ?_) (fun m hm => ?_) ?_⟩
    · unfold f_X6_undo
      rw [a1, bd_ok, if_neg (by decide), a5]
    · unfold f_X7_undo
      rw [bnd_ok i20, cl20, m20, if_neg (show ¬ nI K = 0 from nI_ne0 (by omega) (by omega)), bnd_ok i20, bnd_ok i20, sub1 (by omega), hTT, nm_ok]
      rw [nI_0] at b1
      exact b1
    · rw [b2.2.1, ← hTT]; exact a6
    · rw [ec b h172, a3 b (by omega) (by omega)]
    · unfold gI; rw [ec 163 (by omega), a3 163 (by omega) (by omega)]
    · rw [eg, if_neg (by omega), if_neg (by omega)]
    · have hc0 : ∀ k, k < 20 → cM E 16 k = cM S (15 + 6 + 4 * ((N + 9) % 10)) k := fun k hk => by
        rw [cM_keep (S := Sa) (fun b _ _ => ec b (by omega)) k]; exact a2 k hk
      obtain ⟨q1, q2⟩ := r2 0 (by omega)
      rw [show N + 9 - 0 = N + 9 by omega] at q1 q2
      refine PR_of (g := fun m => gI E 172 m) ⟨fun k hk hok => ?_, Wm_keep hn q2 hc0, K - 1, (N + 9) % 10, by omega, Nat.mod_lt _ (by omega), ?_, ?_, ?_, fun j hj => ?_⟩ (fun m _ => by rw [Nat.zero_add])
      · show cM E 16 k = gI E 172 k
        rw [hc0 k hk, q1 k hk hok, eg, if_pos hk]
        show gI S 172 _ = _
        exact congrArg (gI S 172) (by omega)
      · unfold gI; rw [ec 15 (by omega)]; exact a5
      · unfold gI; rw [ec 15 (by omega)]; exact a4
      · show gI E 172 20 = _
        rw [eg, if_neg (by omega), if_pos rfl]
      · have hm : (N + 9 - (j + 1)) % 10 < 10 := Nat.mod_lt _ (by omega)
        have e : ((N + 9) % 10 + 9 - j) % 10 = (N + 9 - (j + 1)) % 10 := by omega
        rw [e]
        obtain ⟨z1, z2⟩ := r2 (j + 1) (by omega)
        have hk : ∀ k, k < 20 → cM E (15 + 6 + 4 * ((N + 9 - (j + 1)) % 10)) k = cM S (15 + 6 + 4 * ((N + 9 - (j + 1)) % 10)) k := fun k _ => cM_keep (fun b _ _ => by rw [ec b (by omega), a3 b (by omega) (by omega)]) k
        refine ⟨fun k hk1 hok => ?_, Wm_keep hn z2 hk⟩
        rw [hk k hk1, z1 k hk1 hok]
        show gI S 172 _ = gI E 172 _
        rw [eg, if_neg (by omega), if_neg (by omega)]
        exact congrArg (gI S 172) (by omega)
/-! images -/
theorem apart3 {o a : Nat} (ho : KK o = 3) (ha : KK a = 3) (h : o ≠ a) : o + 46 ≤ a ∨ a + 46 ≤ o := by
  have h1 : ∀ {k : Nat}, KK k = 3 → k = 15 ∨ k = 62 ∨ k = 108 := fun h => by simpa using KK_all (P := fun k c => decide (c = 3 → k = 15 ∨ k = 62 ∨ k = 108)) (by decide +kernel) h (by decide)
  rcases h1 ho with rfl | rfl | rfl <;> rcases h1 ha with rfl | rfl | rfl <;> omega
theorem become3_loop {S : Mm} {o a : Nat} (ho : KK o = 3) (ha : KK a = 3) (hap : o + 46 ≤ a ∨ a + 46 ≤ o) : ∀ (fu i : Nat) (T : Mm), i ≤ 10 → 10 - i < fu → (∀ k, k < 20 → cM T (o + 1) k = cM S (a + 1) k) → (∀ j, j < i → ∀ k, k < 20 → cM T (o + 6 + 4 * j) k = cM S (a + 6 + 4 * j) k) → (∀ b, b < o ∨ o + 46 ≤ b → T.1 b = S.1 b) → T.2 = S.2 → ∃ E, f_X3_become_13 o a fu (nI i) T = some ((), E) ∧ (∀ k, k < 20 → cM E (o + 1) k = cM S (a + 1) k) ∧ (∀ j, j < 10 → ∀ k, k < 20 → cM E (o + 6 + 4 * j) k = cM S (a + 6 + 4 * j) k) ∧ (∀ b, b < o ∨ o + 46 ≤ b → E.1 b = S.1 b) ∧ gI E o 2 = gI S a 2 ∧ gI E o 3 = gI S a 3 ∧ E.2 = S.2 := by
  intro fu
  induction fu with
  | zero => intro i T h1 h2; omega
  | succ fu ih =>
    intro i T h1 h2 c0 cj cb c2
    rw [f_X3_become_13]
    have ea : ∀ j, gI T a j = gI S a j := fun j => by unfold gI; rw [cb a (by omega)]
    by_cases hi : i = 10
    · subst hi
      rw [if_pos (by decide), nm_ok, nm_ok]
      refine ⟨_, rfl, fun k hk => ?_, fun j hj k hk => ?_, fun b hb => ?_, ?_, ?_, c2⟩
      · rw [cM_keep (S := T) (fun b _ _ => by rw [sI_ne (by omega), sI_ne (by omega)]) k]; exact c0 k hk
      · rw [cM_keep (S := T) (fun b _ _ => by rw [sI_ne (by omega), sI_ne (by omega)]) k]; exact cj j hj k hk
      · rw [sI_ne (by omega), sI_ne (by omega)]; exact cb b hb
      · rw [gI_sI, if_neg (by omega), gI_sI, if_pos ⟨rfl, rfl⟩, ea]
      · rw [gI_sI, if_pos ⟨rfl, rfl⟩, gI_sI, if_neg (by omega), ea]
    · have hi10 : i < 10 := by omega
      rw [if_neg (show ¬ (10 : Int32) ≤ nI i from nI_ge (b := 10) hi10 (by decide)), bnd_ok (inB_nI hi10 (by decide)), bnd_ok (inB_nI hi10 (by decide)), nI_clamp (by omega)]
      obtain ⟨T1, t1, t2, t3, t4⟩ := become_ok (S := T) (o := o + 5 + 1 + 4 * i) (a := a + 5 + 1 + 4 * i) (by have := KK_pm ho hi10; rw [show o + 5 + 1 + 4 * i = o + 6 + 4 * i by omega]; exact this) (by have := KK_pm ha hi10; rw [show a + 5 + 1 + 4 * i = a + 6 + 4 * i by omega]; exact this) (by omega)
      rw [t1, bd_ok, nm_ok, nI_1]
      refine ih (i + 1) T1 (by omega) (by omega) (fun k hk => ?_) (fun j hj k hk => ?_) (fun b hb => ?_) (t4.trans c2)
      · rw [cM_keep (S := T) (fun b _ _ => t3 b (by omega)) k]; exact c0 k hk
      · by_cases e : j = i
        · subst e
          have := t2 k hk
          rw [show o + 5 + 1 + 4 * j = o + 6 + 4 * j by omega, show a + 5 + 1 + 4 * j = a + 6 + 4 * j by omega] at this
          rw [this]
          exact cM_keep (fun b _ _ => cb b (by omega)) k
        · rw [cM_keep (S := T) (fun b _ _ => t3 b (by omega)) k]; exact cj j (by omega) k hk
      · rw [t3 b (by omega)]; exact cb b hb
theorem become3_ok {S : Mm} {o a : Nat} (ho : KK o = 3) (ha : KK a = 3) (hne : o ≠ a) : ∃ E, f_X3_become S o a = some ((), E) ∧ (∀ k, k < 20 → cM E (o + 1) k = cM S (a + 1) k) ∧ (∀ j, j < 10 → ∀ k, k < 20 → cM E (o + 6 + 4 * j) k = cM S (a + 6 + 4 * j) k) ∧ (∀ b, b < o ∨ o + 46 ≤ b → E.1 b = S.1 b) ∧ gI E o 2 = gI S a 2 ∧ gI E o 3 = gI S a 3 ∧ E.2 = S.2 := by
  have hap := apart3 ho ha hne
  obtain ⟨T, t1, t2, t3, t4⟩ := become_ok (S := S) (kf_3_present ho) (kf_3_present ha) (by omega)
  obtain ⟨E, e1, e2⟩ := become3_loop (S := S) ho ha hap 400 0 T (by omega) (by omega) t2 (fun j hj => absurd hj (by omega)) (fun b hb => t3 b (by omega)) t4
  refine ⟨E, ?_, e2⟩
  unfold f_X3_become
  rw [t1, bd_ok]
  rw [nI_0] at e1
  exact e1
theorem img_cases (x : Int32) : (∃ i, i < 2 ∧ x = nI i) ∨ (x < 0 ∨ (2 : Int32) ≤ x) := by
  rcases pk_ix x (n := 2) (by omega) with h | h | h
  · exact Or.inr (Or.inl h)
  · exact Or.inr (Or.inr h)
  · exact Or.inl h
theorem ci_yes {S : Mm} {i : Nat} (h : i < 2) : f_X6_isImage S (nI i) = some (1, S) ∧ f_X7_in S (nI i) 0 1 = some (1, S) := by
  rcases (show i = 0 ∨ i = 1 by omega) with rfl | rfl
  · exact ⟨rfl, by rw [in_ok]; rfl⟩
  · exact ⟨rfl, by rw [in_ok]; rfl⟩
theorem ci_no {S : Mm} {x : Int32} (h : x < 0 ∨ (2 : Int32) ≤ x) : f_X6_isImage S x = some (0, S) ∧ f_X7_in S x 0 1 = some (0, S) := by
  unfold f_X6_isImage
  rw [in_ok]
  by_cases h0 : x < 0
  · rw [if_pos h0, if_pos h0]; exact ⟨rfl, rfl⟩
  · have h2 := h.resolve_left h0
    have h1 : (1 : Int32) < x := by
      have := Int32.le_iff_toInt_le.mp h2
      rw [Int32.lt_iff_toInt_lt]
      have e1 : (1 : Int32).toInt = 1 := by decide
      have e2 : (2 : Int32).toInt = 2 := by decide
      omega
    rw [if_neg h0, if_pos h2, if_neg h0, if_pos h1]; exact ⟨rfl, rfl⟩
theorem KK_im {i : Nat} (h : i < 2) : KK (62 + 46 * i) = 3 := by
  rcases (show i = 0 ∨ i = 1 by omega) with rfl | rfl <;> decide +kernel
theorem Inv_img {S S2 : Mm} {n : Nat} (hP : IP n S) (hT : IT S) (hG : IG S) (hD : ID S) (hJ : gJ S 0 13 = gJ S 163 0) (hd : S2.2 = S.2) (h1 : ∀ a, (a < 15 ∨ 155 ≤ a) → a ≠ 172 → a ≠ 173 → S2.1 a = S.1 a) (hR : PR n S2 15 0) (hI : II n S2) : Inv S2 := by
  have hp : pl S2 = pl S := by unfold pl; rw [hd]
  have hdr : dr S2 = dr S := by unfold dr; rw [hd]
  have hpl : pl S ≤ 9 ∧ 3 ≤ pl S := by rcases hD with ⟨h, -⟩ | ⟨h, -⟩ <;> omega
  have hg : ∀ a j, (a < 15 ∨ 155 ≤ a) → a ≠ 172 → a ≠ 173 → gI S2 a j = gI S a j := fun a j q1 q2 q3 => by unfold gI; rw [h1 a q1 q2 q3]
  refine ⟨n, IP_keep hP hp (fun a _ _ => h1 a (by omega) (by omega) (by omega)) (hg _ _ (by omega) (by omega) (by omega)) (hg _ _ (by omega) (by omega) (by omega)) (fun s _ => ⟨hg _ _ (by omega) (by omega) (by omega), hg _ _ (by omega) (by omega) (by omega), hg _ _ (by omega) (by omega) (by omega), hg _ _ (by omega) (by omega) (by omega)⟩), hR, hI, IT_keep hT (hg _ _ (by omega) (by omega) (by omega)) (hg _ _ (by omega) (by omega) (by omega)) (h1 _ (by omega) (by omega) (by omega)) (h1 _ (by omega) (by omega) (by omega)), IG_keep hG (hg _ _ (by omega) (by omega) (by omega)) (hg _ _ (by omega) (by omega) (by omega)) (h1 _ (by omega) (by omega) (by omega)) (h1 _ (by omega) (by omega) (by omega)) (h1 _ (by omega) (by omega) (by omega)) (h1 _ (by omega) (by omega) (by omega)), ?_, ?_⟩
  · unfold ID; rw [hp, hdr]; exact hD
  · unfold gJ at *; rw [hd]; exact hJ
theorem sm_keep : sim_keep Inv := fun S h x => by
  obtain ⟨n, hP, hR, hI, hT, hG, hD, hJ⟩ := id h
  have hn := hP.1
  have q11 : gI S 16 4 = gI S 172 11 := by rw [← pres hR 11 (by omega) (by omega), cM_11]
  rcases img_cases x with ⟨i, hi, rfl⟩ | hx
  · obtain ⟨A, a1, a2, a3, a4, a5, a6, a7⟩ := become3_ok (S := S) (o := 62 + 46 * i) (a := 15) (KK_im hi) k15 (by omega)
    generalize hC : sI A 154 i 1 = C
    have hCr : ∀ b, b ≠ 154 → C.1 b = A.1 b := fun b hb => by rw [← hC, sI_ne hb]
    have e172 : ∀ m, gI C 172 m = gI S 172 m := fun m => by unfold gI; rw [hCr 172 (by omega), a4 172 (by omega)]
    obtain ⟨M, b1, b2⟩ := keep13 (S := C) hi 400 0 C (by omega) (by omega) ⟨fun _ _ => rfl, rfl, fun m => by dsimp only; rw [if_neg (by omega)]⟩
    generalize hE : sI M 173 i 1 = E at b1
    have er : ∀ b, b ≠ 172 → b ≠ 173 → E.1 b = C.1 b := fun b h1 h2 => by rw [← hE, sI_ne h2, b2.1 b h1]
    have e17 : ∀ m, gI E 172 m = if 221 * (1 + i) ≤ m ∧ m < 221 * (1 + i) + 221 then gI S 172 (m - 221 * (1 + i)) else gI S 172 m := fun m => by
      rw [← hE, gI_sI, if_neg (by omega), b2.2.2 m]
      dsimp only
      rw [e172, e172]
    have eb : ∀ b, b ≠ 172 → b ≠ 173 → b ≠ 154 → (b < 62 + 46 * i ∨ 62 + 46 * i + 46 ≤ b) → E.1 b = S.1 b := fun b h1 h2 h3 h4 => by rw [er b h1 h2, hCr b h3, a4 b h4]
    refine ⟨gI S 16 4, C, E, ?_, ?_, Inv_img hP hT hG hD hJ ?_ (fun b hb h1 h2 => eb b h1 h2 (by omega) (by omega)) (PR_keep hn hR (fun b _ _ => eb b (by omega) (by omega) (by omega) (by omega)) (fun m _ _ => by rw [e17, if_neg (by omega)])) (fun i2 hi2 => ?_)⟩
    · unfold f_X6_keep
      rw [(ci_yes hi).1, bd_ok, if_neg (by decide), bnd_ok (inB_nI hi (by decide)), nI_clamp (by omega), show 61 + 1 + 46 * i = 62 + 46 * i by omega, a1, bd_ok, bnd_ok (inB_nI hi (by decide)), nm_ok]
      have e1 : sI A 154 i (vp_nar .boolean 1) = C := hC
      rw [e1]
      have : gI C 16 4 = gI S 16 4 := by unfold gI; rw [hCr 16 (by omega), a4 16 (by omega)]
      rw [this]
    · unfold f_X7_keep
      rw [(ci_yes hi).2, bd_ok, if_neg (by decide), show (0 : Int32) = nI 0 from nI_0.symm, b1, e172, q11]
    · rw [← hE]; show M.2 = S.2; rw [b2.2.1, ← hC]; exact a7
    · have k154 : gI E 154 i2 = if i2 = i then 1 else gI S 154 i2 := by
        unfold gI
        rw [er 154 (by omega) (by omega), ← hC]
        show gI (sI A 154 i 1) 154 i2 = _
        rw [gI_sI]
        by_cases e : i2 = i
        · simp [e]
        · rw [if_neg (by omega), if_neg e]; unfold gI; rw [a4 154 (by omega)]
      have k173 : gI E 173 i2 = if i2 = i then 1 else gI S 173 i2 := by
        rw [← hE, gI_sI]
        by_cases e : i2 = i
        · simp [e]
        · rw [if_neg (by omega), if_neg e]; unfold gI; rw [b2.1 173 (by omega), hCr 173 (by omega), a4 173 (by omega)]
      rw [k154, k173]
      by_cases e : i2 = i
      · subst e
        rw [if_pos rfl, if_pos rfl]
        refine ⟨rfl, fun _ => PR_of (g := fun m => gI S 172 (0 + m)) (PX_copy hn (PX_of hR) (fun k hk => ?_) (fun j hj k hk => ?_) ?_ ?_ (fun m _ => rfl)) (fun m hm => ?_)⟩
        · rw [cM_keep (S := A) (fun b _ _ => by rw [er b (by omega) (by omega), hCr b (by omega)]) k]; exact a2 k hk
        · rw [cM_keep (S := A) (fun b _ _ => by rw [er b (by omega) (by omega), hCr b (by omega)]) k]; exact a3 j hj k hk
        · unfold gI; rw [er _ (by omega) (by omega), hCr _ (by omega)]; exact a5
        · unfold gI; rw [er _ (by omega) (by omega), hCr _ (by omega)]; exact a6
        · rw [e17, if_pos (by omega)]
          exact congrArg (gI S 172) (by omega)
      · rw [if_neg e, if_neg e]
        obtain ⟨h1, h2⟩ := hI i2 hi2
        refine ⟨h1, fun hne => PR_keep hn (h2 hne) (fun b _ _ => eb b (by omega) (by omega) (by omega) (by omega)) (fun m _ _ => by rw [e17, if_neg (by omega)])⟩
  · refine simS h ⟨-1, by unfold f_X6_keep; rw [(ci_no hx).1]; rfl, ?_⟩
    show f_X7_keep S _ = _
    unfold f_X7_keep; rw [(ci_no hx).2]; rfl
theorem sm_back : sim_back Inv := fun S h x => by
  obtain ⟨n, hP, hR, hI, hT, hG, hD, hJ⟩ := id h
  have hn := hP.1
  rcases img_cases x with ⟨i, hi, rfl⟩ | hx
  · obtain ⟨k1, k2⟩ := hI i hi
    by_cases hk : gI S 154 i = 0
    · refine simS h ⟨-2, by unfold f_X6_back; rw [(ci_yes hi).1, bd_ok, if_neg (by decide), bnd_ok (inB_nI hi (by decide)), nI_clamp (by omega), if_pos hk], ?_⟩
      show f_X7_back S _ = _
      unfold f_X7_back; rw [(ci_yes hi).2, bd_ok, if_neg (by decide), bnd_ok (inB_nI hi (by decide)), nI_clamp (by omega), ← k1, if_pos hk]
    · have hRi := k2 hk
      obtain ⟨C, a1, a2, a3, a4, a5, a6, a7⟩ := become3_ok (S := S) (o := 15) (a := 62 + 46 * i) k15 (KK_im hi) (by omega)
      have e172 : ∀ m, gI C 172 m = gI S 172 m := fun m => by unfold gI; rw [a4 172 (by omega)]
      obtain ⟨E, b1, b2⟩ := back25 (S := C) hi 400 0 C (by omega) (by omega) ⟨fun _ _ => rfl, rfl, fun m => by dsimp only; rw [if_neg (by omega)]⟩
      have e17 : ∀ m, gI E 172 m = if m < 221 then gI S 172 (221 * (1 + i) + m) else gI S 172 m := fun m => by
        rw [b2.2.2 m]
        dsimp only
        rw [e172, e172]
      have eb : ∀ b, b ≠ 172 → (b < 15 ∨ 61 ≤ b) → E.1 b = S.1 b := fun b h1 h2 => by rw [b2.1 b h1, a4 b (by omega)]
      have k3 : gI C 173 i = gI S 173 i := by unfold gI; rw [a4 173 (by omega)]
      have q11 : gI C 16 4 = gI S 172 (221 * (1 + i) + 11) := by
        have e1 : gI C 16 4 = cM C 16 11 := rfl
        rw [e1, a2 11 (by omega)]
        exact hRi.1 11 (by omega) (by omega)
      refine ⟨gI C 16 4, C, E, ?_, ?_, Inv_img hP hT hG hD hJ ?_ (fun b hb h1 h2 => eb b h1 (by omega)) ?_ (II_keep hn hI (fun b _ _ => eb b (by omega) (by omega)) (fun m _ _ => by rw [e17, if_neg (by omega)]) (fun i2 _ => by unfold gI; rw [eb 173 (by omega) (by omega)]))⟩
      · unfold f_X6_back
        rw [(ci_yes hi).1, bd_ok, if_neg (by decide), bnd_ok (inB_nI hi (by decide)), nI_clamp (by omega), if_neg hk, bnd_ok (inB_nI hi (by decide)), show 61 + 1 + 46 * i = 62 + 46 * i by omega, a1, bd_ok]
      · unfold f_X7_back
        rw [(ci_yes hi).2, bd_ok, if_neg (by decide), bnd_ok (inB_nI hi (by decide)), nI_clamp (by omega), k3, ← k1, if_neg hk, show (0 : Int32) = nI 0 from nI_0.symm, b1, e172, q11]
      · rw [b2.2.1]; exact a7
      · refine PR_of (g := fun m => gI S 172 (221 * (1 + i) + m)) (PX_copy hn (PX_of hRi) (fun k hk => ?_) (fun j hj k hk => ?_) ?_ ?_ (fun m _ => rfl)) (fun m hm => ?_)
        · rw [cM_keep (S := C) (fun b _ _ => b2.1 b (by omega)) k]; exact a2 k hk
        · rw [cM_keep (S := C) (fun b _ _ => b2.1 b (by omega)) k]; exact a3 j hj k hk
        · unfold gI; rw [b2.1 15 (by omega)]; exact a5
        · unfold gI; rw [b2.1 15 (by omega)]; exact a6
        · rw [Nat.zero_add, e17, if_pos hm]
  · refine simS h ⟨-1, by unfold f_X6_back; rw [(ci_no hx).1]; rfl, ?_⟩
    show f_X7_back S _ = _
    unfold f_X7_back; rw [(ci_no hx).2]; rfl
