theorem lit9999 : (9999 : Int32) = nI 9999 := by decide
theorem draw_cases (x : Int32) : (∃ z, z ≤ 9999 ∧ x = nI z) ∨ (x < 0 ∨ (9999 : Int32) < x) := by
  by_cases h0 : x < 0
  · exact Or.inr (Or.inl h0)
  by_cases h1 : (9999 : Int32) < x
  · exact Or.inr (Or.inr h1)
  · exact Or.inl (nI_of2 (n := 9999) (by decide) h0 (Int32.not_lt.mp h1))
theorem nlt9999 {z : Nat} (h : z ≤ 9999) : ¬ (9999 : Int32) < nI z := by rw [lit9999]; exact nI_nlt h (by omega)
theorem cd_yes {S : Mm} {z : Nat} (h : z ≤ 9999) : f_X6_isDraw S (nI z) = some (1, S) := by
  unfold f_X6_isDraw
  rw [if_neg (nI_pos (by omega)), if_neg (nlt9999 h)]
theorem cd_no {S : Mm} {x : Int32} (h : x < 0 ∨ (9999 : Int32) < x) : f_X6_isDraw S x = some (0, S) := by
  unfold f_X6_isDraw
  by_cases h0 : x < 0
  · rw [if_pos h0]
  · rw [if_neg h0, if_pos (h.resolve_left h0)]
theorem md_yes {S : Mm} {z : Nat} (h : z ≤ 9999) : f_X7_isSeed S (nI z) = some (1, S) := by
  unfold f_X7_isSeed
  rw [in_ok, if_neg (nI_pos (by omega)), if_neg (nlt9999 h)]
  rfl
theorem md_no {S : Mm} {x : Int32} (h : x < 0 ∨ (9999 : Int32) < x) : f_X7_isSeed S x = some (0, S) := by
  unfold f_X7_isSeed
  rw [in_ok]
  by_cases h0 : x < 0
  · rw [if_pos h0]; rfl
  · rw [if_neg h0, if_pos (h.resolve_left h0)]; rfl
theorem sm_tells : sim_tells Inv := fun S h x w => by
  obtain ⟨n, hP, hR, hI, hT, ⟨t, t1, t2, t3, t4⟩, hD, hJ⟩ := id h
  rcases draw_cases x with ⟨z, hz, rfl⟩ | hx
  · by_cases w0 : w < 0
    · refine simS h ⟨-1, ?_, ?_⟩
      · unfold f_X6_tells; rw [cd_yes hz, bd_ok, if_neg (by decide), if_pos w0]
      · show f_X7_tells S _ _ = _
        unfold f_X7_tells; rw [md_yes hz, bd_ok, if_neg (by decide), in_ok, if_pos w0]; rfl
    by_cases w2 : w ≤ 2
    · have w3 : ¬ (2 : Int32) < w := Int32.not_lt.mpr w2
      by_cases ht : t = 6
      · subst ht
        refine simS h ⟨-3, ?_, ?_⟩
        · unfold f_X6_tells; rw [cd_yes hz, bd_ok, if_neg (by decide), if_neg w0, if_pos w2, t2, if_neg (by decide)]
        · show f_X7_tells S _ _ = _
          unfold f_X7_tells; rw [md_yes hz, bd_ok, if_neg (by decide), in_ok, if_neg w0, if_neg w3, bd_ok, if_neg (by decide), t3, if_pos (by decide)]
      · have ht2 : t < 6 := by omega
        refine ⟨nI (t + 1), sI (sI (sI S 155 t (nI z)) 156 t w) 0 8 (nI (t + 1)), sI (sI (sI (sI (sI (sI S 155 t (nI z)) 156 t w) 0 8 (nI (t + 1))) 178 t (nI z)) 179 t w) 163 30 (nI (t + 1)), ?_, ?_, Inv_tg h rfl (fun a h0 _ _ h1 h2 h3 _ h4 h5 => by rw [sI_ne h3, sI_ne h5, sI_ne h4, sI_ne h0, sI_ne h2, sI_ne h1]) (IT_keep hT (by simp [gI_sI]) (by simp [gI_sI]) rfl rfl) ⟨t + 1, by omega, by simp [gI_sI], by simp [gI_sI], fun j hj => ?_⟩ hJ⟩
        · unfold f_X6_tells
          rw [cd_yes hz, bd_ok, if_neg (by decide), if_neg w0, if_pos w2, t2, if_pos (show nI t < 6 from nI_lt (b := 6) ht2 (by decide)), bnd_ok (inB_nI ht2 (by decide)), nI_clamp (by omega), nm_ok]
          simp only [gI_sI, show ¬ (0 = 155 ∧ 8 = t) by simp, if_false, t2]
          rw [bnd_ok (inB_nI ht2 (by decide)), nI_clamp (by omega), nm_ok, nm_ok]
          simp only [gI_sI]
          simp [t2, nI_1]
        · unfold f_X7_tells
          rw [md_yes hz, bd_ok, if_neg (by decide), in_ok, if_neg w0, if_neg w3, bd_ok, if_neg (by decide)]
          have e30 : gI (sI (sI (sI S 155 t (nI z)) 156 t w) 0 8 (nI (t + 1))) 163 30 = nI t := by simp [gI_sI, t3]
          rw [e30, if_neg (show ¬ nI t = 6 by rw [show (6 : Int32) = nI 6 by decide, nI_eq (by omega) (by omega)]; omega), bnd_ok (inB_nI ht2 (by decide)), nI_clamp (by omega), nm_ok]
          have e31 : gI (sI (sI (sI (sI S 155 t (nI z)) 156 t w) 0 8 (nI (t + 1))) 178 t (nI z)) 163 30 = nI t := by simp [gI_sI, t3]
          rw [e31, bnd_ok (inB_nI ht2 (by decide)), nI_clamp (by omega), nm_ok, nm_ok]
          simp only [gI_sI]
          simp [t3, nI_1]
        · by_cases hj2 : j = t
          · subst hj2
            exact ⟨⟨z, hz, by simp [gI_sI], by simp [gI_sI]⟩, by simp [gI_sI]⟩
          · obtain ⟨⟨y, y1, y2, y3⟩, y4⟩ := t4 j (by omega)
            exact ⟨⟨y, y1, by simp [gI_sI, hj2, y2], by simp [gI_sI, hj2, y3]⟩, by simp [gI_sI, hj2, y4]⟩
    · have w3 : (2 : Int32) < w := Int32.not_le.mp w2
      refine simS h ⟨-1, ?_, ?_⟩
      · unfold f_X6_tells; rw [cd_yes hz, bd_ok, if_neg (by decide), if_neg w0, if_neg w2]
      · show f_X7_tells S _ _ = _
        unfold f_X7_tells; rw [md_yes hz, bd_ok, if_neg (by decide), in_ok, if_neg w0, if_pos w3]; rfl
  · refine simS h ⟨-1, ?_, ?_⟩
    · unfold f_X6_tells; rw [cd_no hx]; rfl
    · show f_X7_tells S _ _ = _
      unfold f_X7_tells; rw [md_no hx]; rfl
/-! marks -/
theorem in05_no {S : Mm} {w : Int32} (h0 : ¬ w = 0) (h1 : ¬ w = 1) (h2 : ¬ w = 2) (h3 : ¬ w = 3) (h4 : ¬ w = 4) (h5 : ¬ w = 5) : f_X7_in S w 0 5 = some (0, S) := by
  rw [in_ok]
  by_cases a : w < 0
  · rw [if_pos a]
  · by_cases b : (5 : Int32) < w
    · rw [if_neg a, if_pos b]
    · exfalso
      obtain ⟨j, hj, rfl⟩ := nI_of2 (n := 5) (by decide) a (Int32.not_lt.mp b)
      rcases (show j = 0 ∨ j = 1 ∨ j = 2 ∨ j = 3 ∨ j = 4 ∨ j = 5 by omega) with rfl | rfl | rfl | rfl | rfl | rfl
      · exact h0 rfl
      · exact h1 rfl
      · exact h2 rfl
      · exact h3 rfl
      · exact h4 rfl
      · exact h5 rfl
theorem mk_step {S : Mm} {j : Nat} (hj : j < 5) : f_X6_markStep S (nI j) = some (gI S (pl S + 1) j, sJ S 0 13 (gJ S 0 13 + 1)) := by
  unfold f_X6_markStep
  rw [nm_ok, bnd_ok (inB_nI hj (by decide)), nI_clamp (by omega)]
  rfl
theorem mk_sJ {S : Mm} {a b : Int64} : sJ (sJ S 0 13 (gJ S 0 13 + a)) 0 13 (gJ (sJ S 0 13 (gJ S 0 13 + a)) 0 13 + b) = sJ S 0 13 (gJ S 0 13 + (a + b)) := by
  rw [gJ_sJ, if_pos ⟨rfl, rfl⟩, Int64.add_assoc]
  unfold sJ rowJ
  congr 2
  funext x
  by_cases h : x = 0
  · subst h; rw [va_up_self, va_up_self]
    funext i
    by_cases hi : i = 13 <;> simp [vp_updL, va_up, hi]
  · rw [va_up_ne _ _ h, va_up_ne _ _ h]
    exact va_up_ne _ _ h
theorem mk_point {S : Mm} {j : Nat} (hj : j < 5) : f_X6_markPoint S (nI j) = some (gI S (pl S + 1) j + gI S 18 j, sJ S 0 13 (gJ S 0 13 + 11)) := by
  unfold f_X6_markPoint
  rw [nm_ok, mk_step hj, bd_ok, bnd_ok (inB_nI hj (by decide)), nI_clamp (by omega), mk_sJ]
  rfl
theorem mk_eye {S : Mm} {j : Nat} (hj : j < 5) : f_X6_markEye S (nI j) = some (gI S (pl S + 1) j - gI S (pl S + 3) j, sJ S 0 13 (gJ S 0 13 + 101)) := by
  unfold f_X6_markEye
  rw [nm_ok, mk_step hj, bd_ok, bnd_ok (inB_nI hj (by decide)), nI_clamp (by omega), mk_sJ]
  rfl
theorem mk_true {S : Mm} {j : Nat} (hj : j < 5) : f_X6_markTrue S (nI j) = some ((gI S (pl S + 1) j + gI S 18 j) * 2, sJ S 0 13 (gJ S 0 13 + 1011)) := by
  unfold f_X6_markTrue
  rw [nm_ok, mk_point hj, bd_ok, mk_sJ]
  rfl
theorem mk_blue {S : Mm} {j : Nat} (hj : j < 5) : f_X6_markBlue S (nI j) = some (gI S (pl S + 1) j - gI S (pl S + 3) j + gI S 19 j, sJ S 0 13 (gJ S 0 13 + 10101)) := by
  unfold f_X6_markBlue
  rw [nm_ok, mk_eye hj, bd_ok, bnd_ok (inB_nI hj (by decide)), nI_clamp (by omega), mk_sJ]
  rfl
theorem mk_sack {S : Mm} {j : Nat} (hj : j < 5) : f_X6_markSack S (nI j) = some (gI S (pl S + 1) j + gI S 16 4, sJ S 0 13 (gJ S 0 13 + 100001)) := by
  unfold f_X6_markSack
  rw [nm_ok, mk_step hj, bd_ok, mk_sJ]
  rfl
theorem mk_model {S : Mm} {n j : Nat} {w : Int32} (hn : n ≤ 5) (e : gI S 165 0 = nI n) (hj : j < n) (hw : f_X7_in S w 0 5 = some (1, S)) : f_X7_mark S w (nI j) = if w = 0 then some (gI S 166 j, sJ S 163 0 (gJ S 163 0 + 1)) else if w = 1 then some (gI S 166 j + gI S 172 (5 + j), sJ S 163 0 (gJ S 163 0 + 11)) else if w = 2 then some (gI S 166 j - gI S 168 j, sJ S 163 0 (gJ S 163 0 + 101)) else if w = 3 then some (2 * (gI S 166 j + gI S 172 (5 + j)), sJ S 163 0 (gJ S 163 0 + 1011)) else if w = 4 then some (gI S 166 j - gI S 168 j + gI S 172 (14 + j), sJ S 163 0 (gJ S 163 0 + 10101)) else some (gI S 166 j + gI S 172 11, sJ S 163 0 (gJ S 163 0 + 100001)) := by
  have b1 := inB_nI (show j < 10 by omega) (by decide : 10 < 2 ^ 31)
  have b2 := inB_nI (show 5 + j < 663 by omega) (by decide : 663 < 2 ^ 31)
  have b3 := inB_nI (show 14 + j < 663 by omega) (by decide : 663 < 2 ^ 31)
  unfold f_X7_mark
  rw [hw, bd_ok, if_neg (by decide), ms_yes hn e hj, bd_ok, if_neg (by decide), five_nI, ft_nI, cl11]
  simp only [bnd_ok b1, bnd_ok b2, bnd_ok b3, bnd_ok i11, nm_ok, nI_clamp (show j < 2 ^ 31 by omega), nI_clamp (show 5 + j < 2 ^ 31 by omega), nI_clamp (show 14 + j < 2 ^ 31 by omega)]
  rfl
theorem sm_mark : sim_mark Inv := fun S h w x => by
  obtain ⟨n, ⟨hn, p1, p2, -, ps⟩, hR, hI, hT, hG, hD, hJ⟩ := id h
  have q := pres hR
  have key : ∀ d : Int64, Inv (sJ (sJ S 0 13 (gJ S 0 13 + d)) 163 0 (gJ (sJ S 0 13 (gJ S 0 13 + d)) 163 0 + d)) := fun d => Inv_tg h rfl (fun _ _ _ _ _ _ _ _ _ _ => rfl) (IT_keep hT rfl rfl rfl rfl) (IG_keep hG rfl rfl rfl rfl rfl rfl) (by simp [gJ_sJ, hJ])
  rcases stp_cases n hn x with ⟨j, hj, rfl⟩ | hx
  · obtain ⟨⟨x1, -, x2, x3⟩, ⟨y1, -, y2, y3⟩, -, -⟩ := ps j hj
    have hj5 : j < 5 := by omega
    have f1 : gI S 18 j = gI S 172 (5 + j) := by rw [← q (5 + j) (by omega) (by omega), cM_f hj5]
    have f2 : gI S 19 j = gI S 172 (14 + j) := by rw [← q (14 + j) (by omega) (by omega), cM_t hj5]
    have f3 : gI S 16 4 = gI S 172 11 := by rw [← q 11 (by omega) (by omega), cM_11]
    unfold sim_mark at *
    have hc : ∀ (r : Int32) (d : Int64), f_X6_mark S w (nI j) = some (r, sJ S 0 13 (gJ S 0 13 + d)) → f_X7_mark (sJ S 0 13 (gJ S 0 13 + d)) w (nI j) = some (r, sJ (sJ S 0 13 (gJ S 0 13 + d)) 163 0 (gJ (sJ S 0 13 (gJ S 0 13 + d)) 163 0 + d)) → ∃ r S1 S2, f_X6_mark S w (nI j) = some (r, S1) ∧ f_X7_mark S1 w (nI j) = some (r, S2) ∧ Inv S2 := fun r d h1 h2 => ⟨r, _, _, h1, h2, key d⟩
    have cm : ∀ d : Int64, f_X7_in (sJ S 0 13 (gJ S 0 13 + d)) w 0 5 = some (1, sJ S 0 13 (gJ S 0 13 + d)) → _ := fun d hw => mk_model (S := sJ S 0 13 (gJ S 0 13 + d)) hn p2 hj hw
    have cc : f_X6_mark S w (nI j) = if w = 0 then bd (f_X6_markStep S (nI j)) (fun r S => some (r, S)) else if w = 1 then bd (f_X6_markPoint S (nI j)) (fun r S => some (r, S)) else if w = 2 then bd (f_X6_markEye S (nI j)) (fun r S => some (r, S)) else if w = 3 then bd (f_X6_markTrue S (nI j)) (fun r S => some (r, S)) else if w = 4 then bd (f_X6_markBlue S (nI j)) (fun r S => some (r, S)) else if w = 5 then bd (f_X6_markSack S (nI j)) (fun r S => some (r, S)) else some (-1000000, S) := by
      unfold f_X6_mark
      rw [cs_yes hn p1 hj, bd_ok, if_neg (by decide)]
    by_cases c0 : w = 0
    · subst c0
      refine hc (gI S (pl S + 1) j) 1 (by rw [cc, if_pos rfl, mk_step hj5]; rfl) ?_
      rw [cm _ (by rw [in_ok]; rfl), if_pos rfl]
      show some (gI S 166 j, _) = _
      rw [x2, x3]
    by_cases c1 : w = 1
    · subst c1
      refine hc (gI S (pl S + 1) j + gI S 18 j) 11 (by rw [cc, if_neg (by decide), if_pos rfl, mk_point hj5]; rfl) ?_
      rw [cm _ (by rw [in_ok]; rfl), if_neg (by decide), if_pos rfl]
      show some (gI S 166 j + gI S 172 (5 + j), _) = _
      rw [x2, x3, f1]
    by_cases c2 : w = 2
    · subst c2
      refine hc (gI S (pl S + 1) j - gI S (pl S + 3) j) 101 (by rw [cc, if_neg (by decide), if_neg (by decide), if_pos rfl, mk_eye hj5]; rfl) ?_
      rw [cm _ (by rw [in_ok]; rfl), if_neg (by decide), if_neg (by decide), if_pos rfl]
      show some (gI S 166 j - gI S 168 j, _) = _
      rw [x2, x3, y2, y3]
    by_cases c3 : w = 3
    · subst c3
      refine hc ((gI S (pl S + 1) j + gI S 18 j) * 2) 1011 (by rw [cc, if_neg (by decide), if_neg (by decide), if_neg (by decide), if_pos rfl, mk_true hj5]; rfl) ?_
      rw [cm _ (by rw [in_ok]; rfl), if_neg (by decide), if_neg (by decide), if_neg (by decide), if_pos rfl]
      show some (2 * (gI S 166 j + gI S 172 (5 + j)), _) = _
      rw [x2, x3, f1, Int32.mul_comm]
    by_cases c4 : w = 4
    · subst c4
      refine hc (gI S (pl S + 1) j - gI S (pl S + 3) j + gI S 19 j) 10101 (by rw [cc, if_neg (by decide), if_neg (by decide), if_neg (by decide), if_neg (by decide), if_pos rfl, mk_blue hj5]; rfl) ?_
      rw [cm _ (by rw [in_ok]; rfl), if_neg (by decide), if_neg (by decide), if_neg (by decide), if_neg (by decide), if_pos rfl]
      show some (gI S 166 j - gI S 168 j + gI S 172 (14 + j), _) = _
      rw [x2, x3, y2, y3, f2]
    by_cases c5 : w = 5
    · subst c5
      refine hc (gI S (pl S + 1) j + gI S 16 4) 100001 (by rw [cc, if_neg (by decide), if_neg (by decide), if_neg (by decide), if_neg (by decide), if_neg (by decide), if_pos rfl, mk_sack hj5]; rfl) ?_
      rw [cm _ (by rw [in_ok]; rfl), if_neg (by decide), if_neg (by decide), if_neg (by decide), if_neg (by decide), if_neg (by decide)]
      show some (gI S 166 j + gI S 172 11, _) = _
      rw [x2, x3, f3]
    · refine simS h ⟨-1000000, by rw [cc, if_neg c0, if_neg c1, if_neg c2, if_neg c3, if_neg c4, if_neg c5], ?_⟩
      show f_X7_mark S w (nI j) = _
      unfold f_X7_mark
      rw [in05_no c0 c1 c2 c3 c4 c5]
      rfl
  · refine simS h ⟨-1000000, by unfold f_X6_mark; rw [cs_no p1 hx]; rfl, ?_⟩
    show f_X7_mark S w x = _
    unfold f_X7_mark
    rw [in_ok]
    by_cases a : (if w < 0 then (0 : Int32) else if (5 : Int32) < w then 0 else 1) = 0
    · rw [a]; rfl
    · rw [bd_ok, if_neg a, ms_no hn p2 hx]; rfl
