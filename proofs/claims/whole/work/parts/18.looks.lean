def pcn (v : Nat) : Nat := v % 2 + v / 2 % 2 + v / 4 % 2 + v / 8 % 2 + v / 16 % 2
theorem all32 {P : Nat → Bool} (h : (List.range 32).all P = true) {v : Nat} (hv : v < 32) : P v = true := List.all_eq_true.mp h v (List.mem_range.mpr hv)
theorem all325 {P : Nat → Nat → Bool} (h : (List.range 32).all (fun v => (List.range 5).all (P v)) = true) {v j : Nat} (hv : v < 32) (hj : j < 5) : P v j = true := List.all_eq_true.mp (all32 h hv) j (List.mem_range.mpr hj)
theorem bit_ok {v j : Nat} (hv : v < 32) (hj : j < 5) : ((nI v) >>> (nI j &&& 31)) &&& 1 = nI (v / 2 ^ j % 2) := by
  simpa using all325 (P := fun v j => decide (((nI v) >>> (nI j &&& 31)) &&& 1 = nI (v / 2 ^ j % 2))) (by decide +kernel) hv hj
theorem xor_ok {v j : Nat} (hv : v < 32) (hj : j < 5) : (nI v) ^^^ ((1 : Int32) <<< (nI j &&& 31)) = nI (v ^^^ 2 ^ j) := by
  simpa using all325 (P := fun v j => decide ((nI v) ^^^ ((1 : Int32) <<< (nI j &&& 31)) = nI (v ^^^ 2 ^ j))) (by decide +kernel) hv hj
theorem bc_ok {S : Mm} {v : Nat} (hv : v < 32) : f_J6_bitCount_0f7a4 S (nI v) = some (nI (pcn v), S) := by
  have h := all32 (P := fun v => decide ((f_J6_bitCount_0f7a4 (S00) (nI v)).map (fun r => r.1) = some (nI (pcn v)))) (by decide +kernel) hv
  have h2 : (f_J6_bitCount_0f7a4 (S00) (nI v)).map (fun r => r.1) = some (nI (pcn v)) := of_decide_eq_true h
  unfold f_J6_bitCount_0f7a4 nm at h2 ⊢
  simp only [Option.map_some, Option.some.injEq] at h2
  exact congrArg (fun z => some (z, S)) h2
theorem mo_loop {S : Mm} {v : Nat} (hv : v < 32) : ∀ (fu i a : Nat), i ≤ 5 → 5 - i < fu → f_X7_manyOf_4 fu (nI v) (nI a) (nI i) S = some (nI (a + ((List.range (5 - i)).map (fun k => v / 2 ^ (i + k) % 2)).sum), S) := by
  intro fu
  induction fu with
  | zero => intro i a h1 h2; omega
  | succ fu ih =>
    intro i a h1 h2
    rw [f_X7_manyOf_4]
    by_cases hi : i = 5
    · subst hi
      rw [if_pos (by decide)]
      simp
    · have h5 : i < 5 := by omega
      rw [if_neg (show ¬ (5 : Int32) ≤ nI i from nI_ge (b := 5) h5 (by decide)), nm_ok, nm_ok, bit_ok hv h5, nI_add, nI_1, ih (i + 1) _ (by omega) (by omega)]
      congr 3
      rw [show 5 - i = (5 - (i + 1)) + 1 by omega, List.range_succ_eq_map]
      simp [Function.comp_def, Nat.add_assoc, Nat.add_comm 1]
theorem mo_ok {S : Mm} {v : Nat} (hv : v < 32) : f_X7_manyOf S (nI v) = some (nI (pcn v), S) := by
  unfold f_X7_manyOf
  have := mo_loop (S := S) hv 400 0 0 (by omega) (by omega)
  rw [nI_0] at this
  rw [this]
  congr 3
  simp [List.range_succ, pcn, Nat.add_assoc]
theorem isBit_yes {S : Mm} {x : Int32} (h : x = 0 ∨ x = 1) : f_X6_isBit S x = some (1, S) ∧ f_X7_in S x 0 1 = some (1, S) := by
  rcases h with rfl | rfl
  · exact ⟨rfl, by rw [in_ok]; rfl⟩
  · exact ⟨rfl, by rw [in_ok]; rfl⟩
theorem isBit_no {S : Mm} {x : Int32} (h : ¬ (x = 0 ∨ x = 1)) : f_X6_isBit S x = some (0, S) ∧ ∀ T, f_X7_in T x 0 1 = some (0, T) := by
  have h0 : ¬ x = 0 := fun e => h (Or.inl e)
  have h1 : ¬ x = 1 := fun e => h (Or.inr e)
  refine ⟨by unfold f_X6_isBit; rw [if_neg h0, if_neg h1], fun T => ?_⟩
  rw [in_ok]
  by_cases a : x < 0
  · rw [if_pos a]
  · by_cases b : (1 : Int32) < x
    · rw [if_neg a, if_pos b]
    · exfalso
      obtain ⟨j, hj, rfl⟩ := nI_of2 (n := 1) (by decide) a (Int32.not_lt.mp b)
      rcases (show j = 0 ∨ j = 1 by omega) with rfl | rfl
      · exact h0 rfl
      · exact h1 rfl
theorem pow_n {n b : Nat} (hn : n ≤ 5) (h : b < 2 ^ n) : b < 32 := Nat.lt_of_lt_of_le h (Nat.pow_le_pow_right (by omega) hn : 2 ^ n ≤ 2 ^ 5)
theorem sm_looks : sim_looks Inv := fun S h x w => by
  obtain ⟨n, hP, hR, hI, hT, hG, hD, hJ⟩ := id h
  obtain ⟨hn, p1, p2, -, ps⟩ := id hP
  have q10 : gI S 16 3 = gI S 172 10 := by rw [← pres hR 10 (by omega) (by omega), cM_10]
  rcases stp_cases n hn x with ⟨j, hj, rfl⟩ | hx
  · by_cases hw : w = 0 ∨ w = 1
    · by_cases hs : (((gI S 16 3) >>> (nI j &&& 31)) &&& 1) = w
      · refine simS h ⟨-2, by unfold f_X6_looks; rw [cs_yes hn p1 hj, bd_ok, if_neg (by decide), (isBit_yes hw).1, bd_ok, if_neg (by decide), if_pos hs], ?_⟩
        show f_X7_looks S _ _ = _
        unfold f_X7_looks; rw [ms_yes hn p2 hj, bd_ok, if_neg (by decide), (isBit_yes hw).2, bd_ok, if_neg (by decide), bnd_ok i10, cl10, ← q10, if_pos hs]
      · obtain ⟨Sa, a1, a2, a3, a4⟩ := hist_ok hn hR
        have hj5 : j < 5 := by omega
        obtain ⟨-, -, ⟨b, hb1, hb2⟩, -⟩ := hR.2.1
        have hb32 := pow_n hn hb1
        have hv : b ^^^ 2 ^ j < 2 ^ n := Nat.xor_lt_two_pow hb1 (Nat.pow_lt_pow_right (by omega) hj)
        have hv32 := pow_n hn hv
        have el : gI S 16 3 = nI b := hb2
        have ea : gI Sa 16 3 = nI b := by unfold gI; rw [a2 16 (by omega)]; exact el
        generalize hvv : b ^^^ 2 ^ j = v at hv hv32
        have e165 : gI (sI Sa 16 3 (nI v)) 165 0 = nI n := by rw [gI_sI, if_neg (by omega)]; unfold gI; rw [a2 165 (by omega)]; exact p2
        have e172 : ∀ m, gI (sI Sa 16 3 (nI v)) 172 m = gI S 172 m := fun m => by rw [gI_sI, if_neg (by omega)]; unfold gI; rw [a2 172 (by omega)]
        obtain ⟨Mb, g, b1, b2, b3, b4⟩ := a4 (sI Sa 16 3 (nI v)) e172
        have em : gI Mb 172 10 = nI b := by rw [b2.2.2, b3 10 (by omega), ← q10]; exact el
        have cg : ∀ b, b ≠ 172 → (sI Mb 172 10 (nI v)).1 b = (sI Sa 16 3 (nI v)).1 b := fun b h172 => by rw [sI_ne h172, b2.1 b h172]
        have cl : ∀ b, (b < 15 ∨ 61 ≤ b) → b ≠ 172 → (sI Mb 172 10 (nI v)).1 b = S.1 b := fun b hb h172 => by rw [cg b h172, sI_ne (by omega), a2 b (by omega)]
        have cm : ∀ k, cM (sI Mb 172 10 (nI v)) 16 k = if k = 10 then nI v else cM Sa 16 k := fun k => by
          rw [cM_keep (S := sI Sa 16 3 (nI v)) (fun b _ _ => cg b (by omega)) k]
          exact cM_s3 (o := 16)
        have gm : ∀ m, gI (sI Mb 172 10 (nI v)) 172 m = if m = 10 then nI v else g m := fun m => by
          rw [gI_sI, b2.2.2]
          by_cases hm : m = 10 <;> simp [hm]
        refine ⟨nI (pcn v), sI Sa 16 3 (nI v), sI Mb 172 10 (nI v), ?_, ?_, Inv_past hP hI hT hG hD hJ ?_ (fun b hb _ _ h172 => cl b hb h172) (fun i _ _ => ?_) (fun m hm => ?_) ?_⟩
        · unfold f_X6_looks
          rw [cs_yes hn p1 hj, bd_ok, if_neg (by decide), (isBit_yes hw).1, bd_ok, if_neg (by decide), if_neg hs, a1, bd_ok, ea, xor_ok hb32 hj5, hvv, nm_ok]
          have : gI (sI Sa 16 3 (nI v)) 16 3 = nI v := by simp [gI_sI]
          rw [this, bc_ok hv32, bd_ok]
        · unfold f_X7_looks
          rw [ms_yes hn e165 hj, bd_ok, if_neg (by decide), (isBit_yes hw).2, bd_ok, if_neg (by decide), bnd_ok i10, cl10, e172 10, ← q10, if_neg hs, b1, bd_ok, bnd_ok i10, bnd_ok i10, em, xor_ok hb32 hj5, hvv, nm_ok, bnd_ok i10]
          have : gI (sI Mb 172 10 (nI v)) 172 10 = nI v := by simp [gI_sI]
          rw [this, mo_ok hv32, bd_ok]
        · show Mb.2 = S.2
          rw [b2.2.1]; exact a3
        · unfold gI; rw [cl 163 (by omega) (by omega)]
        · rw [gm, if_neg (by omega)]; exact b3 m (Or.inr hm)
        · refine PR_of (g := fun m => gI (sI Mb 172 10 (nI v)) 172 m) (PX_pres hn b4 (fun b hb => ?_) (fun m h1 h2 => ?_) (fun k hk hok => ?_) ?_) (fun m _ => by rw [Nat.zero_add])
          · rw [cg b (by omega), sI_ne (by omega)]
          · rw [gm, if_neg (by omega)]
          · rw [cm, gm]
            by_cases e : k = 10
            · rw [if_pos e, if_pos e]
            · rw [if_neg e, if_neg e]; exact b4.1 k hk hok
          · obtain ⟨⟨L, q1⟩, ⟨F, q2⟩, -, ⟨m, so, d, c, t, d1, d2, d3, d4, d5, d6⟩⟩ := b4.2.1
            exact ⟨⟨L, fun i hi => by rw [cm, if_neg (by omega)]; exact q1.1 i hi, q1.2⟩, ⟨F, fun s hs => by rw [cm, if_neg (by omega)]; exact q2 s hs⟩, ⟨v, hv, by rw [cm, if_pos rfl]⟩, ⟨m, so, d, c, t, by rw [cm, if_neg (by omega)]; exact d1, by rw [cm, if_neg (by omega)]; exact d2, by rw [cm, if_neg (by omega)]; exact d3, by rw [cm, if_neg (by omega)]; exact d4, fun s hs => by rw [cm, if_neg (by omega)]; exact d5 s hs, d6⟩⟩
    · refine simS h ⟨-1, by unfold f_X6_looks; rw [cs_yes hn p1 hj, bd_ok, if_neg (by decide), (isBit_no hw).1]; rfl, ?_⟩
      show f_X7_looks S _ _ = _
      unfold f_X7_looks; rw [ms_yes hn p2 hj, bd_ok, if_neg (by decide), (isBit_no (S := S) hw).2 S]; rfl
  · refine simS h ⟨-1, by unfold f_X6_looks; rw [cs_no p1 hx]; rfl, ?_⟩
    show f_X7_looks S _ _ = _
    unfold f_X7_looks; rw [ms_no hn p2 hx]; rfl
