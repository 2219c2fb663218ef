theorem gI_sI {S : Mm} {a j b i : Nat} {v : Int32} : gI (sI S a j v) b i = if b = a ∧ i = j then v else gI S b i := by
  by_cases h : b = a ∧ i = j
  · obtain ⟨rfl, rfl⟩ := h
    simp [gI, sI, rowI, va_up, upd]
  · rw [if_neg h]
    exact sI_nj h
theorem gJ_sJ {S : Mm} {a j b i : Nat} {v : Int64} : gJ (sJ S a j v) b i = if b = a ∧ i = j then v else gJ S b i := by
  by_cases h : b = a ∧ i = j
  · obtain ⟨rfl, rfl⟩ := h
    simp [gJ, sJ, rowJ, va_up, vp_updL]
  · rw [if_neg h]
    exact sJ_nj h
theorem gJ_sI {S : Mm} {a j b i : Nat} {v : Int32} : gJ (sI S a j v) b i = gJ S b i := rfl
theorem gI_sJ {S : Mm} {a j b i : Nat} {v : Int64} : gI (sJ S a j v) b i = gI S b i := rfl
theorem pl_sI {S : Mm} {a j : Nat} {v : Int32} : pl (sI S a j v) = pl S := rfl
theorem dr_sI {S : Mm} {a j : Nat} {v : Int32} : dr (sI S a j v) = dr S := rfl
theorem pl_sJ {S : Mm} {a j : Nat} {v : Int64} : pl (sJ S a j v) = pl S := rfl
theorem dr_sJ {S : Mm} {a j : Nat} {v : Int64} : dr (sJ S a j v) = dr S := rfl
theorem bd_ok {α β : Type} {a : α} {S : Mm} {k : α → Mm → Option β} : bd (some (a, S)) k = k a S := rfl
theorem bd_of {α β : Type} {x : Option (α × Mm)} {a : α} {S : Mm} {k : α → Mm → Option β} (h : x = some (a, S)) : bd x k = k a S := by rw [h]; rfl
theorem nm_ok {α β : Type} {v : α} {k : α → β} : nm v k = k v := rfl
theorem bnd_ok {α : Type} {b : Bool} {k : Option α} (h : b = true) : bnd b k = k := by rw [h]; rfl
theorem inB_nI {k n : Nat} (h : k < n) (hn : n < 2 ^ 31) : inB (nI k) n = true := by
  have := nI_in h hn
  simpa [inB] using this
theorem inB_of {x : Int32} {n : Nat} (hn : n < 2 ^ 31) (h0 : ¬ x < 0) (h : ¬ nI n ≤ x) : inB x n = true := by
  obtain ⟨j, hj, rfl⟩ := nI_of h0
  refine inB_nI ?_ hn
  rcases Nat.lt_or_ge j n with q | q
  · exact q
  · exact absurd (nI_le q hj) h
theorem in_ok (S : Mm) (x lo hi : Int32) : f_X7_in S x lo hi = some (if x < lo then 0 else if hi < x then 0 else 1, S) := by
  unfold f_X7_in
  by_cases h1 : x < lo
  · simp [h1]
  · by_cases h2 : hi < x
    · simp [h1, h2]
    · simp [h1, h2]
def cM (S : Mm) (o k : Nat) : Int32 := if k < 5 then gI S (o + 1) k else if k < 10 then gI S (o + 2) (k - 5) else if k = 10 then gI S o 3 else if k = 11 then gI S o 4 else if k = 12 then gI S o 5 else if k = 13 then gI S o 6 else if k < 19 then gI S (o + 3) (k - 14) else gI S o 7
def MR (n : Nat) (f g : Nat → Int32) : Prop := ∀ k, k < 20 → (k < n ∨ 5 ≤ k ∧ k < 5 + n ∨ 10 ≤ k) → f k = g k
def Wm (n : Nat) (f : Nat → Int32) : Prop :=
  (∃ L : Nat → Nat, (∀ i, i < 5 → f i = nI (L i) ∧ L i < 5) ∧ (∀ i, i < n → L i < n) ∧ ∀ s, s < n → ∃ i, i < n ∧ L i = s) ∧
  (∃ F : Nat → Nat, ∀ s, s < n → f (5 + s) = nI (F s) ∧ F s ≤ 9) ∧
  (∃ b, b < 2 ^ n ∧ f 10 = nI b) ∧
  (∃ (m so d c : Nat) (t : Nat → Nat), f 11 = nI m ∧ f 12 = nI so ∧ f 13 = nI d ∧ f 19 = nI c ∧ (∀ s, s < 5 → f (14 + s) = nI (t s)) ∧ m ≤ 9999 ∧ m = so + (t 0 + t 1 + t 2 + t 3 + t 4) ∧ d ≤ so ∧ c ≤ 744 * m)
def PR (n : Nat) (S : Mm) (p q : Nat) : Prop := MR n (cM S (p + 1)) (fun k => gI S 172 (q + k)) ∧ Wm n (cM S (p + 1)) ∧ ∃ K N : Nat, K ≤ 10 ∧ N < 10 ∧ gI S p 3 = nI K ∧ gI S p 2 = nI N ∧ gI S 172 (q + 20) = nI K ∧ ∀ j, j < K → MR n (cM S (p + 6 + 4 * ((N + 9 - j) % 10))) (fun k => gI S 172 (q + 21 + 20 * (K - 1 - j) + k)) ∧ Wm n (cM S (p + 6 + 4 * ((N + 9 - j) % 10)))
def IP (n : Nat) (S : Mm) : Prop := n ≤ 5 ∧ gI S (pl S) 0 = nI n ∧ gI S 165 0 = nI n ∧ (∃ pr, pr ≤ 99 ∧ gI S (pl S) 1 = nI pr ∧ gI S 171 0 = nI pr) ∧ ∀ s, s < n →
  (∃ x, x ≤ 99 ∧ gI S (pl S + 1) s = nI x ∧ gI S 166 s = nI x) ∧ (∃ x, x ≤ 30 ∧ gI S (pl S + 3) s = nI x ∧ gI S 168 s = nI x) ∧ (∃ x, x ≤ 9 ∧ gI S (pl S + 4) s = nI x ∧ gI S 169 s = nI x) ∧ (∃ x, x < 32 ∧ (∀ j, j ≤ s → x.testBit j = false) ∧ gI S (pl S + 5) s = nI x ∧ gI S 170 s = nI x)
def II (n : Nat) (S : Mm) : Prop := ∀ i, i < 2 → gI S 154 i = gI S 173 i ∧ (gI S 154 i ≠ 0 → PR n S (62 + 46 * i) (221 * (1 + i)))
def IT (S : Mm) : Prop := ∃ ln, ln ≤ 150 ∧ gI S 1 1 = nI ln ∧ gI S 163 2 = nI ln ∧ ∀ j, j < ln → ∃ b, b < 256 ∧ gI S 2 j = nI b ∧ gI S 164 j &&& 255 = nI b
def IG (S : Mm) : Prop := ∃ t, t ≤ 6 ∧ gI S 0 8 = nI t ∧ gI S 163 30 = nI t ∧ ∀ j, j < t → (∃ z, z ≤ 9999 ∧ gI S 155 j = nI z ∧ gI S 178 j = nI z) ∧ gI S 156 j = gI S 179 j
def ID (S : Mm) : Prop := (pl S = 3 ∧ dr S = 9) ∨ (pl S = 9 ∧ dr S = 3)
def Inv (S : Mm) : Prop := ∃ n, IP n S ∧ PR n S 15 0 ∧ II n S ∧ IT S ∧ IG S ∧ ID S ∧ gJ S 0 13 = gJ S 163 0
/-! what each part reads -/
theorem cM_keep {S T : Mm} {o : Nat} (h : ∀ a, o ≤ a → a < o + 4 → T.1 a = S.1 a) (k : Nat) : cM T o k = cM S o k := by
  unfold cM gI
  rw [h o (by omega) (by omega), h (o + 1) (by omega) (by omega), h (o + 2) (by omega) (by omega), h (o + 3) (by omega) (by omega)]
theorem MR_keep {n : Nat} {f g f' g' : Nat → Int32} (h : MR n f g) (h1 : ∀ k, k < 20 → f' k = f k) (h2 : ∀ k, k < 20 → g' k = g k) : MR n f' g' := fun k hk hn => by rw [h1 k hk, h2 k hk]; exact h k hk hn
theorem Wm_keep {n : Nat} {f f' : Nat → Int32} (hn : n ≤ 5) (h : Wm n f) (h1 : ∀ k, k < 20 → f' k = f k) : Wm n f' := by
  obtain ⟨⟨L, a1, a2⟩, ⟨F, b1⟩, ⟨b, c1, c2⟩, ⟨m, so, d, c, t, d1, d2, d3, d4, d5, d6⟩⟩ := h
  refine ⟨⟨L, fun i hi => by rw [h1 i (by omega)]; exact a1 i hi, a2⟩, ⟨F, fun s hs => by rw [h1 (5 + s) (by omega)]; exact b1 s hs⟩, ⟨b, c1, by rw [h1 10 (by omega)]; exact c2⟩, ⟨m, so, d, c, t, ?_, ?_, ?_, ?_, ?_, d6⟩⟩
  · rw [h1 11 (by omega)]; exact d1
  · rw [h1 12 (by omega)]; exact d2
  · rw [h1 13 (by omega)]; exact d3
  · rw [h1 19 (by omega)]; exact d4
  · intro s hs; rw [h1 (14 + s) (by omega)]; exact d5 s hs
theorem PR_keep {n p q : Nat} {S T : Mm} (hn : n ≤ 5) (h : PR n S p q) (h1 : ∀ a, p ≤ a → a < p + 46 → T.1 a = S.1 a) (h2 : ∀ k, q ≤ k → k < q + 221 → gI T 172 k = gI S 172 k) : PR n T p q := by
  obtain ⟨r1, w1, K, N, hK, hN, e1, e2, e3, r2⟩ := h
  have c0 : ∀ k, k < 20 → cM T (p + 1) k = cM S (p + 1) k := fun k _ => cM_keep (fun a _ _ => h1 a (by omega) (by omega)) k
  refine ⟨MR_keep r1 c0 (fun k hk => h2 _ (by omega) (by omega)), Wm_keep hn w1 c0, K, N, hK, hN, ?_, ?_, ?_, fun j hj => ?_⟩
  · unfold gI; rw [h1 p (by omega) (by omega)]; exact e1
  · unfold gI; rw [h1 p (by omega) (by omega)]; exact e2
  · rw [h2 (q + 20) (by omega) (by omega)]; exact e3
  · have hm : (N + 9 - j) % 10 < 10 := Nat.mod_lt _ (by omega)
    have cj : ∀ k, k < 20 → cM T (p + 6 + 4 * ((N + 9 - j) % 10)) k = cM S (p + 6 + 4 * ((N + 9 - j) % 10)) k := fun k _ => cM_keep (fun a _ _ => h1 a (by omega) (by omega)) k
    exact ⟨MR_keep (r2 j hj).1 cj (fun k hk => h2 _ (by omega) (by omega)), Wm_keep hn (r2 j hj).2 cj⟩
theorem IP_keep {n : Nat} {S T : Mm} (h : IP n S) (hp : pl T = pl S) (h1 : ∀ a, pl S ≤ a → a < pl S + 6 → T.1 a = S.1 a) (h2 : gI T 165 0 = gI S 165 0) (h3 : gI T 171 0 = gI S 171 0) (h4 : ∀ s, s < 5 → gI T 166 s = gI S 166 s ∧ gI T 168 s = gI S 168 s ∧ gI T 169 s = gI S 169 s ∧ gI T 170 s = gI S 170 s) : IP n T := by
  obtain ⟨hn, e1, e2, ⟨pr, p0, p1, p2⟩, hs⟩ := h
  have hr : ∀ d j, d < 6 → gI T (pl S + d) j = gI S (pl S + d) j := fun d j hd => by unfold gI; rw [h1 (pl S + d) (by omega) (by omega)]
  refine ⟨hn, ?_, ?_, ⟨pr, p0, ?_, ?_⟩, fun s h => ?_⟩
  · rw [hp]; exact (hr 0 0 (by omega)).trans e1
  · rw [h2]; exact e2
  · rw [hp]; exact (hr 0 1 (by omega)).trans p1
  · rw [h3]; exact p2
  · obtain ⟨g1, g2, g3, g4⟩ := h4 s (by omega)
    rw [hp, hr 1 s (by omega), hr 3 s (by omega), hr 4 s (by omega), hr 5 s (by omega), g1, g2, g3, g4]
    exact hs s h
theorem II_keep {n : Nat} {S T : Mm} (hn : n ≤ 5) (h : II n S) (h1 : ∀ a, 62 ≤ a → a < 155 → T.1 a = S.1 a) (h2 : ∀ k, 221 ≤ k → k < 663 → gI T 172 k = gI S 172 k) (h3 : ∀ i, i < 2 → gI T 173 i = gI S 173 i) : II n T := fun i hi => by
  obtain ⟨e, r⟩ := h i hi
  have g1 : gI T 154 i = gI S 154 i := by unfold gI; rw [h1 154 (by omega) (by omega)]
  refine ⟨by rw [g1, h3 i hi]; exact e, fun hne => PR_keep hn (r (by rw [← g1]; exact hne)) (fun a h5 h6 => h1 a (by omega) (by omega)) (fun k h5 h6 => h2 k (by omega) (by omega))⟩
theorem IT_keep {S T : Mm} (h : IT S) (h1 : gI T 1 1 = gI S 1 1) (h2 : gI T 163 2 = gI S 163 2) (h3 : T.1 2 = S.1 2) (h4 : T.1 164 = S.1 164) : IT T := by
  obtain ⟨ln, a, b, c, d⟩ := h
  refine ⟨ln, a, by rw [h1]; exact b, by rw [h2]; exact c, fun j hj => ?_⟩
  unfold gI
  rw [h3, h4]
  exact d j hj
theorem IG_keep {S T : Mm} (h : IG S) (h1 : gI T 0 8 = gI S 0 8) (h2 : gI T 163 30 = gI S 163 30) (h3 : T.1 155 = S.1 155) (h4 : T.1 156 = S.1 156) (h5 : T.1 178 = S.1 178) (h6 : T.1 179 = S.1 179) : IG T := by
  obtain ⟨t, a, b, c, d⟩ := h
  refine ⟨t, a, by rw [h1]; exact b, by rw [h2]; exact c, fun j hj => ?_⟩
  unfold gI
  rw [h3, h4, h5, h6]
  exact d j hj
/-- a class step that touches scratch alone, then a model step that touches scratch alone -/
theorem Inv_scr {S S1 S2 : Mm} (h : Inv S) (hc : Cc S S1) (hm : Cm S1 S2) : Inv S2 := by
  obtain ⟨n, hP, hR, hI, hT, hG, hD, hJ⟩ := h
  have hn := hP.1
  have e2 : S2.2.2 = S.2.2 := hm.1.trans hc.1
  have hp : pl S2 = pl S := by unfold pl; rw [e2]
  have hd : dr S2 = dr S := by unfold dr; rw [e2]
  have hI1 : ∀ a, a ≠ 157 → a ≠ 161 → a ≠ 162 → a ≠ 163 → a ≠ 174 → a ≠ 177 → S2.1 a = S.1 a := fun a h1 h2 h3 h4 h5 h6 => (hm.2.1 a h4 h5 h6).trans (hc.2.1 a h1 h2 h3)
  have h163 : ∀ j, j ≠ 18 → j ≠ 19 → gI S2 163 j = gI S 163 j := fun j h1 h2 => by
    have := hm.2.2.1 j h1 h2
    unfold gI
    rw [this, hc.2.1 163 (by decide) (by decide) (by decide)]
  have hg : ∀ a j, a ≠ 157 → a ≠ 161 → a ≠ 162 → a ≠ 163 → a ≠ 174 → a ≠ 177 → gI S2 a j = gI S a j := fun a j h1 h2 h3 h4 h5 h6 => by unfold gI; rw [hI1 a h1 h2 h3 h4 h5 h6]
  have hpl : pl S ≤ 9 := by rcases hD with ⟨h, -⟩ | ⟨h, -⟩ <;> omega
  refine ⟨n, IP_keep hP hp (fun a h1 h2 => hI1 a (by omega) (by omega) (by omega) (by omega) (by omega) (by omega)) (hg _ _ (by decide) (by decide) (by decide) (by decide) (by decide) (by decide)) (hg _ _ (by decide) (by decide) (by decide) (by decide) (by decide) (by decide)) (fun s _ => ⟨hg _ _ (by decide) (by decide) (by decide) (by decide) (by decide) (by decide), hg _ _ (by decide) (by decide) (by decide) (by decide) (by decide) (by decide), hg _ _ (by decide) (by decide) (by decide) (by decide) (by decide) (by decide), hg _ _ (by decide) (by decide) (by decide) (by decide) (by decide) (by decide)⟩), PR_keep hn hR (fun a h1 h2 => hI1 a (by omega) (by omega) (by omega) (by omega) (by omega) (by omega)) (fun k _ _ => hg _ _ (by decide) (by decide) (by decide) (by decide) (by decide) (by decide)), II_keep hn hI (fun a h1 h2 => hI1 a (by omega) (by omega) (by omega) (by omega) (by omega) (by omega)) (fun k _ _ => hg _ _ (by decide) (by decide) (by decide) (by decide) (by decide) (by decide)) (fun i _ => hg _ _ (by decide) (by decide) (by decide) (by decide) (by decide) (by decide)), IT_keep hT (hg _ _ (by decide) (by decide) (by decide) (by decide) (by decide) (by decide)) (h163 2 (by decide) (by decide)) (hI1 _ (by decide) (by decide) (by decide) (by decide) (by decide) (by decide)) (hI1 _ (by decide) (by decide) (by decide) (by decide) (by decide) (by decide)), IG_keep hG (hg _ _ (by decide) (by decide) (by decide) (by decide) (by decide) (by decide)) (h163 30 (by decide) (by decide)) (hI1 _ (by decide) (by decide) (by decide) (by decide) (by decide) (by decide)) (hI1 _ (by decide) (by decide) (by decide) (by decide) (by decide) (by decide)) (hI1 _ (by decide) (by decide) (by decide) (by decide) (by decide) (by decide)) (hI1 _ (by decide) (by decide) (by decide) (by decide) (by decide) (by decide)), ?_, ?_⟩
  · unfold ID; rw [hp, hd]; exact hD
  · have a1 : gJ S2 163 0 = gJ S 163 0 := by
      unfold gJ
      rw [hm.2.2.2.2, hc.2.2 163 (by decide) (by decide) (by decide)]
    have a2 : gJ S2 0 13 = gJ S 0 13 := by
      unfold gJ
      rw [hm.2.2.2.1 0 (by decide) (by decide) (by decide), hc.2.2 0 (by decide) (by decide) (by decide)]
    rw [a1, a2]; exact hJ
