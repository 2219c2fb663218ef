def MS (S M : Mm) (a k g d : Nat) (x y : Nat → Nat) : Prop := M.1 = S.1 ∧ gJ M 163 21 = lN a ∧ gJ M 163 22 = lN k ∧ gJ M 163 23 = lN g ∧ gJ M 163 24 = lN d ∧ ∀ j, j < 5 → gJ M 175 j = lN (x j) ∧ gJ M 176 j = lN (y j)
theorem MS_cast {S M : Mm} {a k g d a' k' g' d' : Nat} {x y x' y' : Nat → Nat} (h : MS S M a k g d x y) (h1 : a = a') (h2 : k = k') (h3 : g = g') (h4 : d = d') (h5 : ∀ j, j < 5 → x j = x' j) (h6 : ∀ j, j < 5 → y j = y' j) : MS S M a' k' g' d' x' y' := by
  subst h1; subst h2; subst h3; subst h4
  obtain ⟨e0, e1, e2, e3, e4, e5⟩ := h
  exact ⟨e0, e1, e2, e3, e4, fun j hj => by rw [← h5 j hj, ← h6 j hj]; exact e5 j hj⟩
theorem MS_g {S M : Mm} {a k g d : Nat} {x y : Nat → Nat} (h : MS S M a k g d x y) (b j : Nat) : gI M b j = gI S b j := by unfold gI; rw [h.1]
theorem beg22 {S : Mm} : ∀ (r i fu : Nat) (M : Mm), i + r = 5 → r < fu → M.1 = S.1 → gJ M 163 21 = lN 1 → gJ M 163 22 = lN 0 → gJ M 163 23 = lN 1 → gJ M 163 24 = lN 0 → (∀ j, j < i → gJ M 175 j = lN 0 ∧ gJ M 176 j = lN 0) → ∃ E, f_X7_begin_22 fu (nI i) M = some ((), E) ∧ MS S E 1 0 1 0 (fun _ => 0) (fun _ => 0) := by
  intro r
  induction r with
  | zero =>
    intro i fu M hi hf e0 e1 e2 e3 e4 e5
    obtain ⟨f', rfl⟩ : ∃ f', fu = f' + 1 := ⟨fu - 1, by omega⟩
    rw [f_X7_begin_22, show i = 5 by omega, if_pos (by decide)]
    exact ⟨M, rfl, e0, e1, e2, e3, e4, fun j hj => e5 j (by omega)⟩
  | succ r ih =>
    intro i fu M hi hf e0 e1 e2 e3 e4 e5
    obtain ⟨f', rfl⟩ : ∃ f', fu = f' + 1 := ⟨fu - 1, by omega⟩
    rw [f_X7_begin_22, if_neg (show ¬ 5 ≤ nI i from nI_ge (b := 5) (by omega) (by decide)), bnd_ok (inB_nI (by omega) (by decide)), nm_ok, bnd_ok (inB_nI (by omega) (by decide)), nm_ok, nm_ok, nI_1, nI_clamp (by omega)]
    refine ih (i + 1) f' _ (by omega) (by omega) e0 ?_ ?_ ?_ ?_ (fun j hj => ⟨?_, ?_⟩)
    · rw [gJ_sJ, if_neg (by omega), gJ_sJ, if_neg (by omega)]; exact e1
    · rw [gJ_sJ, if_neg (by omega), gJ_sJ, if_neg (by omega)]; exact e2
    · rw [gJ_sJ, if_neg (by omega), gJ_sJ, if_neg (by omega)]; exact e3
    · rw [gJ_sJ, if_neg (by omega), gJ_sJ, if_neg (by omega)]; exact e4
    · by_cases e : j = i
      · rw [gJ_sJ, if_neg (by omega), gJ_sJ, if_pos ⟨rfl, e⟩]; rfl
      · rw [gJ_sJ, if_neg (by omega), gJ_sJ, if_neg (by omega)]; exact (e5 j (by omega)).1
    · by_cases e : j = i
      · rw [gJ_sJ, if_pos ⟨rfl, e⟩]; rfl
      · rw [gJ_sJ, if_neg (by omega), gJ_sJ, if_neg (by omega)]; exact (e5 j (by omega)).2
theorem beg_m {S M : Mm} (h : M.1 = S.1) : ∃ E, f_X7_begin M = some ((), E) ∧ MS S E 1 0 1 0 (fun _ => 0) (fun _ => 0) := by
  unfold f_X7_begin
  rw [nm_ok, nm_ok, nm_ok, nm_ok]
  refine beg22 5 0 400 _ (by omega) (by omega) h ?_ ?_ ?_ ?_ (fun j hj => by omega)
  · rw [gJ_sJ, if_neg (by omega), gJ_sJ, if_neg (by omega), gJ_sJ, if_neg (by omega), gJ_sJ, if_pos ⟨rfl, rfl⟩]; rfl
  · rw [gJ_sJ, if_neg (by omega), gJ_sJ, if_neg (by omega), gJ_sJ, if_pos ⟨rfl, rfl⟩]; rfl
  · rw [gJ_sJ, if_neg (by omega), gJ_sJ, if_pos ⟨rfl, rfl⟩]; rfl
  · rw [gJ_sJ, if_pos ⟨rfl, rfl⟩]; rfl
theorem l10 (a : Nat) : lN a * 10 = lN (a * 10) := lN_mul a 10
theorem grow50 {S : Mm} {a k g d : Nat} {x y : Nat → Nat} : ∀ (r i fu : Nat) (M : Mm), i + r = 5 → r < fu → MS S M a k g d (fun j => if j < i then x j * 10 else x j) (fun j => if j < i then y j * 10 else y j) → ∃ E, f_X7_grow_50 fu (nI i) M = some ((), E) ∧ MS S E a k g d (fun j => x j * 10) (fun j => y j * 10) := by
  intro r
  induction r with
  | zero =>
    intro i fu M hi hf h
    obtain ⟨f', rfl⟩ : ∃ f', fu = f' + 1 := ⟨fu - 1, by omega⟩
    rw [f_X7_grow_50, show i = 5 by omega, if_pos (by decide)]
    exact ⟨M, rfl, MS_cast h rfl rfl rfl rfl (fun j hj => if_pos (by omega)) (fun j hj => if_pos (by omega))⟩
  | succ r ih =>
    intro i fu M hi hf h
    obtain ⟨f', rfl⟩ : ∃ f', fu = f' + 1 := ⟨fu - 1, by omega⟩
    obtain ⟨e0, e1, e2, e3, e4, e5⟩ := h
    obtain ⟨q1, q2⟩ := e5 i (by omega)
    dsimp only at q1 q2
    rw [if_neg (by omega)] at q1 q2
    rw [f_X7_grow_50, if_neg (show ¬ 5 ≤ nI i from nI_ge (b := 5) (by omega) (by decide)), bnd_ok (inB_nI (by omega) (by decide)), bnd_ok (inB_nI (by omega) (by decide)), nI_clamp (by omega), q1, l10, nm_ok, bnd_ok (inB_nI (by omega) (by decide)), bnd_ok (inB_nI (by omega) (by decide)), gJ_sJ, if_neg (by omega), q2, l10, nm_ok, nm_ok, nI_1]
    refine ih (i + 1) f' _ (by omega) (by omega) ⟨e0, ?_, ?_, ?_, ?_, fun j hj => ⟨?_, ?_⟩⟩
    · rw [gJ_sJ, if_neg (by omega), gJ_sJ, if_neg (by omega)]; exact e1
    · rw [gJ_sJ, if_neg (by omega), gJ_sJ, if_neg (by omega)]; exact e2
    · rw [gJ_sJ, if_neg (by omega), gJ_sJ, if_neg (by omega)]; exact e3
    · rw [gJ_sJ, if_neg (by omega), gJ_sJ, if_neg (by omega)]; exact e4
    · try dsimp only
      by_cases e : j = i
      · rw [gJ_sJ, if_neg (by omega), gJ_sJ, if_pos ⟨rfl, e⟩, if_pos (by omega), e]
      · rw [gJ_sJ, if_neg (by omega), gJ_sJ, if_neg (by omega), (e5 j hj).1]
        try dsimp only
        by_cases e6 : j < i
        · rw [if_pos e6, if_pos (by omega)]
        · rw [if_neg e6, if_neg (by omega)]
    · try dsimp only
      by_cases e : j = i
      · rw [gJ_sJ, if_pos ⟨rfl, e⟩, if_pos (by omega), e]
      · rw [gJ_sJ, if_neg (by omega), gJ_sJ, if_neg (by omega), (e5 j hj).2]
        try dsimp only
        by_cases e6 : j < i
        · rw [if_pos e6, if_pos (by omega)]
        · rw [if_neg e6, if_neg (by omega)]
theorem grow_m {S M : Mm} {a k g d : Nat} {x y : Nat → Nat} (h : MS S M a k g d x y) : ∃ E, f_X7_grow M = some ((), E) ∧ MS S E (a * 10) (k * 10) (g * 10) (d * 10) (fun j => x j * 10) (fun j => y j * 10) := by
  obtain ⟨e0, e1, e2, e3, e4, e5⟩ := h
  unfold f_X7_grow
  rw [nm_ok, e1, l10, nm_ok, gJ_sJ, if_neg (by omega), e2, l10, nm_ok, gJ_sJ, if_neg (by omega), gJ_sJ, if_neg (by omega), e3, l10, nm_ok, gJ_sJ, if_neg (by omega), gJ_sJ, if_neg (by omega), gJ_sJ, if_neg (by omega), e4, l10]
  refine grow50 5 0 400 _ (by omega) (by omega) ⟨e0, ?_, ?_, ?_, ?_, fun j hj => ?_⟩
  · rw [gJ_sJ, if_neg (by omega), gJ_sJ, if_neg (by omega), gJ_sJ, if_neg (by omega), gJ_sJ, if_pos ⟨rfl, rfl⟩]
  · rw [gJ_sJ, if_neg (by omega), gJ_sJ, if_neg (by omega), gJ_sJ, if_pos ⟨rfl, rfl⟩]
  · rw [gJ_sJ, if_neg (by omega), gJ_sJ, if_pos ⟨rfl, rfl⟩]
  · rw [gJ_sJ, if_pos ⟨rfl, rfl⟩]
  · rw [gJ_sJ, if_neg (by omega), gJ_sJ, if_neg (by omega), gJ_sJ, if_neg (by omega), gJ_sJ, if_neg (by omega), gJ_sJ, if_neg (by omega), gJ_sJ, if_neg (by omega), gJ_sJ, if_neg (by omega), gJ_sJ, if_neg (by omega)]
    dsimp only
    rw [if_neg (by omega), if_neg (by omega)]
    exact e5 j hj
theorem work_m {S M : Mm} {a k g d : Nat} {x y : Nat → Nat} {i s sc f : Nat} (h : MS S M a k g d x y) (hi : i < 5) (hs : s < 5) (hsc : sc ≤ 99) (hf : f ≤ 9) (hg : g * 10 < 2 ^ 63) (r1 : gI S 174 i = nI s) (r2 : gI S 166 s = nI sc) (r3 : gI S 172 (5 + s) = nI f) : ∃ E, f_X7_work M (nI i) = some ((), E) ∧ MS S E (a * 10) ((k + (g + d) * sc) * 10) (g * 10 - g * f) (d * 10 + g * f) (fun j => x j * 10) (fun j => if j = i then y j * 10 + g * f else y j * 10) := by
  have hle : g * f ≤ g * 10 := Nat.mul_le_mul_left g (by omega)
  unfold f_X7_work
  obtain ⟨e0, e1, e2, e3, e4, e5⟩ := id h
  rw [bnd_ok (inB_nI hi (by decide)), nI_clamp (by omega), MS_g h, r1, nm_ok, bnd_ok (inB_nI (by omega) (by decide)), nI_clamp (by omega), MS_g h, r2, nI_l (by omega), e2, e3, e4, lN_add, lN_mul, lN_add, nm_ok]
  have hA : MS S (sJ M 163 22 (lN (k + (g + d) * sc))) a (k + (g + d) * sc) g d x y := ⟨e0, by rw [gJ_sJ, if_neg (by omega)]; exact e1, by rw [gJ_sJ, if_pos ⟨rfl, rfl⟩], by rw [gJ_sJ, if_neg (by omega)]; exact e3, by rw [gJ_sJ, if_neg (by omega)]; exact e4, fun j hj => by rw [gJ_sJ, if_neg (by omega), gJ_sJ, if_neg (by omega)]; exact e5 j hj⟩
  obtain ⟨B, b1, b2⟩ := grow_m hA
  obtain ⟨c0, c1, c2, c3, c4, c5⟩ := id b2
  rw [b1, bd_ok, show (5 : Int32) + nI s = nI (5 + s) from nI_add 5 s, bnd_ok (inB_nI (by omega) (by decide)), nI_clamp (by omega), MS_g b2, r3, nI_l (by omega), c3, show lN (g * 10) / 10 = lN g by rw [Nat.mul_comm g 10]; exact div10 (by omega), lN_mul, nm_ok, lN_sub hle, nm_ok, gJ_sJ, if_neg (by omega), c4, lN_add, nm_ok, bnd_ok (inB_nI hi (by decide)), bnd_ok (inB_nI hi (by decide)), gJ_sJ, if_neg (by omega), gJ_sJ, if_neg (by omega), (c5 i hi).2, lN_add, nm_ok]
  refine ⟨_, rfl, c0, ?_, ?_, ?_, ?_, fun j hj => ⟨?_, ?_⟩⟩
  · rw [gJ_sJ, if_neg (by omega), gJ_sJ, if_neg (by omega), gJ_sJ, if_neg (by omega)]; exact c1
  · rw [gJ_sJ, if_neg (by omega), gJ_sJ, if_neg (by omega), gJ_sJ, if_neg (by omega)]; exact c2
  · rw [gJ_sJ, if_neg (by omega), gJ_sJ, if_neg (by omega), gJ_sJ, if_pos ⟨rfl, rfl⟩]
  · rw [gJ_sJ, if_neg (by omega), gJ_sJ, if_pos ⟨rfl, rfl⟩]
  · rw [gJ_sJ, if_neg (by omega), gJ_sJ, if_neg (by omega), gJ_sJ, if_neg (by omega)]; exact (c5 j hj).1
  · by_cases e : j = i
    · rw [gJ_sJ, if_pos ⟨rfl, e⟩]
      dsimp only
      rw [if_pos e, e]
    · rw [gJ_sJ, if_neg (by omega), gJ_sJ, if_neg (by omega), gJ_sJ, if_neg (by omega)]
      dsimp only
      rw [if_neg e]; exact (c5 j hj).2
theorem look0_m {S M : Mm} {a k g d : Nat} {x y : Nat → Nat} {i s : Nat} (h : MS S M a k g d x y) (hi : i < 5) (r1 : gI S 174 i = nI s) : ∃ E, f_X7_lookAt M (nI i) 0 = some ((), E) ∧ MS S E (a * 10) (k * 10) (g * 10) (d * 10) (fun j => x j * 10) (fun j => y j * 10) := by
  obtain ⟨e0, e1, e2, e3, e4, e5⟩ := id h
  unfold f_X7_lookAt f_X7_lookAt_41
  rw [bnd_ok (inB_nI hi (by decide)), nm_ok, if_pos rfl, nm_ok, e2, show lN k + 0 = lN (k + 0) from lN_add k 0, Nat.add_zero]
  have hA : MS S (sJ M 163 22 (lN k)) a k g d x y := ⟨e0, by rw [gJ_sJ, if_neg (by omega)]; exact e1, by rw [gJ_sJ, if_pos ⟨rfl, rfl⟩], by rw [gJ_sJ, if_neg (by omega)]; exact e3, by rw [gJ_sJ, if_neg (by omega)]; exact e4, fun j hj => by rw [gJ_sJ, if_neg (by omega), gJ_sJ, if_neg (by omega)]; exact e5 j hj⟩
  obtain ⟨B, b1, b2⟩ := grow_m hA
  rw [b1, bd_ok, if_pos rfl]
  exact ⟨B, rfl, b2⟩
theorem look92 {S : Mm} {a k g d : Nat} {x y : Nat → Nat} {i s ms : Nat} (hi : i < 5) (hs : s < 5) (hm : ms ≤ 9) (r2 : gI S 169 s = nI ms) (hy : ∀ j, j ≤ i → y j * 10 < 2 ^ 63) : ∀ (r j fu : Nat) (M : Mm), j + r = i + 1 → r < fu → MS S M a k g d x (fun t => if t < j then y t * ms else y t * 10) → ∃ E, f_X7_lookAt_92 fu (nI i) (nI s) (nI j) M = some ((), E) ∧ MS S E a k g d x (fun t => if t ≤ i then y t * ms else y t * 10) := by
  intro r
  induction r with
  | zero =>
    intro j fu M hj hf h
    obtain ⟨f', rfl⟩ : ∃ f', fu = f' + 1 := ⟨fu - 1, by omega⟩
    rw [f_X7_lookAt_92, if_pos (nI_lt (by omega) (by omega))]
    refine ⟨M, rfl, MS_cast h rfl rfl rfl rfl (fun _ _ => rfl) (fun t ht => ?_)⟩
    try dsimp only
    by_cases e : t ≤ i
    · rw [if_pos e, if_pos (by omega)]
    · rw [if_neg e, if_neg (by omega)]
  | succ r ih =>
    intro j fu M hj hf h
    obtain ⟨f', rfl⟩ : ∃ f', fu = f' + 1 := ⟨fu - 1, by omega⟩
    obtain ⟨e0, e1, e2, e3, e4, e5⟩ := id h
    have q := (e5 j (by omega)).2
    try dsimp only at q
    rw [if_neg (by omega)] at q
    rw [f_X7_lookAt_92, if_neg (nI_nlt (by omega) (by omega)), bnd_ok (inB_nI (by omega) (by decide)), bnd_ok (inB_nI (by omega) (by decide)), bnd_ok (inB_nI (by omega) (by decide)), nI_clamp (by omega), nI_clamp (by omega), q, MS_g h, r2, nI_l (by omega), show lN (y j * 10) / 10 = lN (y j) by rw [Nat.mul_comm (y j) 10]; exact div10 (by have := hy j (by omega); omega), lN_mul, nm_ok, nm_ok, nI_1]
    refine ih (j + 1) f' _ (by omega) (by omega) ⟨e0, by rw [gJ_sJ, if_neg (by omega)]; exact e1, by rw [gJ_sJ, if_neg (by omega)]; exact e2, by rw [gJ_sJ, if_neg (by omega)]; exact e3, by rw [gJ_sJ, if_neg (by omega)]; exact e4, fun t ht => ⟨by rw [gJ_sJ, if_neg (by omega)]; exact (e5 t ht).1, ?_⟩⟩
    try dsimp only
    by_cases e : t = j
    · rw [gJ_sJ, if_pos ⟨rfl, e⟩, if_pos (by omega), e]
    · rw [gJ_sJ, if_neg (by omega), (e5 t ht).2]
      try dsimp only
      by_cases e6 : t < j
      · rw [if_pos e6, if_pos (by omega)]
      · rw [if_neg e6, if_neg (by omega)]
theorem look1_m {S M : Mm} {a k g d : Nat} {x y : Nat → Nat} {i s lk ms : Nat} (h : MS S M a k g d x y) (hi : i < 5) (hs : s < 5) (hl : lk ≤ 30) (hm : ms ≤ 9) (hd : d * 10 < 2 ^ 63) (hy : ∀ j, j ≤ i → y j * 10 < 2 ^ 63) (r1 : gI S 174 i = nI s) (r2 : gI S 168 s = nI lk) (r3 : gI S 169 s = nI ms) : ∃ E, f_X7_lookAt M (nI i) 1 = some ((), E) ∧ MS S E (a * 10) ((k + (g + d) * lk) * 10) (g * 10) (d * ms) (fun j => if j = i then d * (10 - ms) else x j * 10) (fun j => if j ≤ i then y j * ms else y j * 10) := by
  have hle : d * (10 - ms) ≤ d * 10 := Nat.mul_le_mul_left d (by omega)
  have heq : d * 10 - d * (10 - ms) = d * ms := by rw [← Nat.mul_sub, show 10 - (10 - ms) = ms by omega]
  obtain ⟨e0, e1, e2, e3, e4, e5⟩ := id h
  unfold f_X7_lookAt f_X7_lookAt_41
  rw [bnd_ok (inB_nI hi (by decide)), nm_ok, if_neg (by decide), nI_clamp (by omega), MS_g h, r1, bnd_ok (inB_nI (by omega) (by decide)), nI_clamp (by omega), MS_g h, r2, nI_l (by omega), e2, e3, e4, lN_add, lN_mul, lN_add, nm_ok]
  have hA : MS S (sJ M 163 22 (lN (k + (g + d) * lk))) a (k + (g + d) * lk) g d x y := ⟨e0, by rw [gJ_sJ, if_neg (by omega)]; exact e1, by rw [gJ_sJ, if_pos ⟨rfl, rfl⟩], by rw [gJ_sJ, if_neg (by omega)]; exact e3, by rw [gJ_sJ, if_neg (by omega)]; exact e4, fun j hj => by rw [gJ_sJ, if_neg (by omega), gJ_sJ, if_neg (by omega)]; exact e5 j hj⟩
  obtain ⟨B, b1, b2⟩ := grow_m hA
  obtain ⟨c0, c1, c2, c3, c4, c5⟩ := id b2
  rw [b1, bd_ok, if_neg (by decide), bnd_ok (inB_nI (by omega) (by decide)), bnd_ok (inB_nI hi (by decide)), c4, show lN (d * 10) / 10 = lN d by rw [Nat.mul_comm d 10]; exact div10 (by omega), MS_g b2, r3, ten_sub (by omega), nI_l (by omega), lN_mul, nm_ok, bnd_ok (inB_nI hi (by decide)), gJ_sJ, if_neg (by omega), c4, gJ_sJ, if_pos ⟨rfl, rfl⟩, lN_sub hle, heq, nm_ok]
  refine look92 hi hs hm r3 hy (i + 1) 0 400 _ (by omega) (by omega) ⟨c0, ?_, ?_, ?_, ?_, fun j hj => ⟨?_, ?_⟩⟩
  · rw [gJ_sJ, if_neg (by omega), gJ_sJ, if_neg (by omega)]; exact c1
  · rw [gJ_sJ, if_neg (by omega), gJ_sJ, if_neg (by omega)]; exact c2
  · rw [gJ_sJ, if_neg (by omega), gJ_sJ, if_neg (by omega)]; exact c3
  · rw [gJ_sJ, if_pos ⟨rfl, rfl⟩]
  · try dsimp only
    by_cases e : j = i
    · rw [gJ_sJ, if_neg (by omega), gJ_sJ, if_pos ⟨rfl, e⟩, if_pos e]
    · rw [gJ_sJ, if_neg (by omega), gJ_sJ, if_neg (by omega), if_neg e]; exact (c5 j hj).1
  · try dsimp only
    rw [gJ_sJ, if_neg (by omega), gJ_sJ, if_neg (by omega), if_neg (by omega)]; exact (c5 j hj).2
