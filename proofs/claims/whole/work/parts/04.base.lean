abbrev Mm : Type := (Nat → Nat → Int32) × (Nat → Nat → Int64) × Nat × Nat
abbrev Wx : Type := Nat × va_G × (Nat → ClassId)
def gI (S : Mm) (a j : Nat) : Int32 := S.1 a j
def gJ (S : Mm) (a j : Nat) : Int64 := S.2.1 a j
def pl (S : Mm) : Nat := S.2.2.1
def dr (S : Mm) : Nat := S.2.2.2
def rowI (S : Mm) (a : Nat) (f : Nat → Int32) : Mm := (va_up S.1 a f, S.2)
def rowJ (S : Mm) (a : Nat) (f : Nat → Int64) : Mm := (S.1, va_up S.2.1 a f, S.2.2)
def sI (S : Mm) (a j : Nat) (v : Int32) : Mm := rowI S a (upd (S.1 a) j v)
def sJ (S : Mm) (a j : Nat) (v : Int64) : Mm := rowJ S a (vp_updL (S.2.1 a) j v)
def sP (S : Mm) (a : Nat) : Mm := (S.1, S.2.1, a, S.2.2.2)
def sD (S : Mm) (a : Nat) : Mm := (S.1, S.2.1, S.2.2.1, a)
def cpI (S : Mm) (a sp b dp n : Nat) : Mm := rowI S b (va_cpy (S.1 a) (S.1 b) sp dp n)
def nm {α β : Type} (v : α) (k : α → β) : β := k v
def bnd {α : Type} (b : Bool) (k : Option α) : Option α := if b = true then k else none
def bd {α β : Type} (x : Option (α × Mm)) (k : α → Mm → Option β) : Option β := match x with
  | none => none
  | some r => k r.1 r.2
def inB (i : Int32) (n : Nat) : Bool := decide (¬ (i < 0 ∨ n ≤ i.toNatClampNeg))
def nz (x y : Int32) : Bool := decide (¬ y = 0)
theorem bd_some {α β : Type} {x : Option (α × Mm)} {k : α → Mm → Option β} {y : β} (h : bd x k = some y) : ∃ r S, x = some (r, S) ∧ k r S = some y := by
  cases x with
  | none => cases h
  | some q => exact ⟨q.1, q.2, rfl, h⟩
theorem bnd_some {α : Type} {b : Bool} {k : Option α} {y : α} (h : bnd b k = some y) : b = true ∧ k = some y := by
  cases b with
  | false => cases h
  | true => exact ⟨rfl, h⟩
theorem nm_some {α β : Type} {v : α} {k : α → Option β} {y : β} (h : nm v k = some y) : ∃ x, x = v ∧ k x = some y := ⟨v, rfl, h⟩
theorem ifT {c : Prop} [Decidable c] {α : Type} {a b y : α} (hc : c) (h : (if c then a else b) = y) : a = y := by rwa [if_pos hc] at h
theorem ifF {c : Prop} [Decidable c] {α : Type} {a b y : α} (hc : ¬ c) (h : (if c then a else b) = y) : b = y := by rwa [if_neg hc] at h
theorem inB_in {i : Int32} {n : Nat} (h : inB i n = true) : vp_in i n := of_decide_eq_true (p := ¬ (i < 0 ∨ n ≤ i.toNatClampNeg)) h
def NN : Nat := 180
def KKl : List Nat := [6, 5, 9, 4, 9, 9, 9, 9, 9, 4, 9, 9, 9, 9, 9, 3, 1, 9, 9, 9, 12, 1, 9, 9, 9, 1, 9, 9, 9, 1, 9, 9, 9, 1, 9, 9, 9, 1, 9, 9, 9, 1, 9, 9, 9, 1, 9, 9, 9, 1, 9, 9, 9, 1, 9, 9, 9, 1, 9, 9, 9, 13, 3, 1, 9, 9, 9, 12, 1, 9, 9, 9, 1, 9, 9, 9, 1, 9, 9, 9, 1, 9, 9, 9, 1, 9, 9, 9, 1, 9, 9, 9, 1, 9, 9, 9, 1, 9, 9, 9, 1, 9, 9, 9, 1, 9, 9, 9, 3, 1, 9, 9, 9, 12, 1, 9, 9, 9, 1, 9, 9, 9, 1, 9, 9, 9, 1, 9, 9, 9, 1, 9, 9, 9, 1, 9, 9, 9, 1, 9, 9, 9, 1, 9, 9, 9, 1, 9, 9, 9, 1, 9, 9, 9, 11, 9, 9, 2, 0, 10, 10, 9, 9, 7, 8, 9, 9, 9, 9, 9, 9, 9, 9, 11, 9, 10, 10, 9, 9, 9]
def LLl : List Nat := [0, 0, 150, 0, 5, 5, 5, 5, 5, 0, 5, 5, 5, 5, 5, 0, 0, 5, 5, 5, 10, 0, 5, 5, 5, 0, 5, 5, 5, 0, 5, 5, 5, 0, 5, 5, 5, 0, 5, 5, 5, 0, 5, 5, 5, 0, 5, 5, 5, 0, 5, 5, 5, 0, 5, 5, 5, 0, 5, 5, 5, 2, 0, 0, 5, 5, 5, 10, 0, 5, 5, 5, 0, 5, 5, 5, 0, 5, 5, 5, 0, 5, 5, 5, 0, 5, 5, 5, 0, 5, 5, 5, 0, 5, 5, 5, 0, 5, 5, 5, 0, 5, 5, 5, 0, 5, 5, 5, 0, 0, 5, 5, 5, 10, 0, 5, 5, 5, 0, 5, 5, 5, 0, 5, 5, 5, 0, 5, 5, 5, 0, 5, 5, 5, 0, 5, 5, 5, 0, 5, 5, 5, 0, 5, 5, 5, 0, 5, 5, 5, 0, 5, 5, 5, 2, 6, 6, 0, 0, 5, 5, 5, 5, 0, 150, 2, 10, 5, 10, 10, 10, 2, 663, 2, 5, 5, 5, 5, 6, 6]
def KK (k : Nat) : Nat := KKl.getD k 99
def LL (k : Nat) : Nat := LLl.getD k 0
theorem KK_lt {k c : Nat} (h : KK k = c) (hc : c < 99) : k < NN := by
  rcases Nat.lt_or_ge k NN with q | q
  · exact q
  · exfalso
    have : KK k = 99 := by
      unfold KK
      have hl : KKl.length = 180 := by decide +kernel
      rw [List.getD_eq_getElem?_getD, List.getElem?_eq_none (by rw [hl]; exact q)]
      rfl
    omega
theorem KK_all {P : Nat → Nat → Bool} (h : (List.range 180).all (fun k => P k (KK k)) = true) {k c : Nat} (hk : KK k = c) (hc : c < 99) : P k c = true := by
  have := List.all_eq_true.mp h k (List.mem_range.mpr (KK_lt hk hc))
  rwa [hk] at this
def fl0 (X : Wx) (S : Mm) (k : Nat) : List Value := [.long (S.2.1 k 0), .long (S.2.1 k 1), .long (S.2.1 k 2), .ref (X.1 + (k + 1)), .ref (X.1 + (k + 2))]
def fl1 (X : Wx) (S : Mm) (k : Nat) : List Value := [.ref (X.1 + (k + 1)), .ref (X.1 + (k + 2)), .ref (X.1 + (k + 3)), .int (S.1 k 3), .int (S.1 k 4), .int (S.1 k 5), .int (S.1 k 6), .int (S.1 k 7)]
def fl2 (X : Wx) (S : Mm) (k : Nat) : List Value := [.int (S.1 k 0), .int (S.1 k 1), .int (S.1 k 2)]
def fl3 (X : Wx) (S : Mm) (k : Nat) : List Value := [.ref (X.1 + (k + 1)), .ref (X.1 + (k + 5)), .int (S.1 k 2), .int (S.1 k 3)]
def fl4 (X : Wx) (S : Mm) (k : Nat) : List Value := [.int (S.1 k 0), .int (S.1 k 1), .ref (X.1 + (k + 1)), .ref (X.1 + (k + 2)), .ref (X.1 + (k + 3)), .ref (X.1 + (k + 4)), .ref (X.1 + (k + 5))]
def fl5 (X : Wx) (S : Mm) (k : Nat) : List Value := [.ref (X.1 + (k + 1)), .int (S.1 k 1), .int (S.1 k 2), .int (S.1 k 3), .int (S.1 k 4), .int (S.1 k 5), .int (S.1 k 6)]
def fl6 (X : Wx) (S : Mm) (k : Nat) : List Value := [.ref (X.1 + (1)), .ref (X.1 + (pl S)), .ref (X.1 + (dr S)), .ref (X.1 + (15)), .ref (X.1 + (61)), .ref (X.1 + (154)), .ref (X.1 + (155)), .ref (X.1 + (156)), .int (S.1 k 8), .ref (X.1 + (157)), .ref (X.1 + (158)), .ref (X.1 + (161)), .ref (X.1 + (162)), .long (S.2.1 k 13)]
def fl7 (X : Wx) (S : Mm) (k : Nat) : List Value := [.long (S.2.1 k 0), .ref (X.1 + (164)), .int (S.1 k 2), .ref (X.1 + (165)), .ref (X.1 + (166)), .ref (X.1 + (167)), .ref (X.1 + (168)), .ref (X.1 + (169)), .ref (X.1 + (170)), .ref (X.1 + (171)), .int (S.1 k 10), .int (S.1 k 11), .int (S.1 k 12), .int (S.1 k 13), .int (S.1 k 14), .int (S.1 k 15), .ref (X.1 + (172)), .ref (X.1 + (173)), .int (S.1 k 18), .int (S.1 k 19), .ref (X.1 + (174)), .long (S.2.1 k 21), .long (S.2.1 k 22), .long (S.2.1 k 23), .long (S.2.1 k 24), .ref (X.1 + (175)), .ref (X.1 + (176)), .ref (X.1 + (177)), .ref (X.1 + (178)), .ref (X.1 + (179)), .int (S.1 k 30)]
def FF (X : Wx) (S : Mm) (k : Nat) : va_E :=
  if KK k = 0 then .inr (0, fl0 X S k) else if KK k = 1 then .inr (1, fl1 X S k) else if KK k = 2 then .inr (2, fl2 X S k) else if KK k = 3 then .inr (3, fl3 X S k)
  else if KK k = 4 then .inr (4, fl4 X S k) else if KK k = 5 then .inr (5, fl5 X S k) else if KK k = 6 then .inr (6, fl6 X S k) else if KK k = 7 then .inr (7, fl7 X S k)
  else if KK k = 8 then .inl (X.2.2 8, LL k, .inl (S.1 k)) else if KK k = 9 then .inl (X.2.2 9, LL k, .inl (S.1 k)) else if KK k = 10 then .inl (X.2.2 10, LL k, .inr (.inl (S.2.1 k)))
  else if KK k = 11 then .inl (X.2.2 11, LL k, .inl (S.1 k)) else if KK k = 12 then .inl (X.2.2 12, LL k, .inr (.inr (.inr (.inr (fun i => some (X.1 + (k + 1 + 4 * i)))))))
  else .inl (X.2.2 13, LL k, .inr (.inr (.inr (.inr (fun i => some (X.1 + (k + 1 + 46 * i)))))))
theorem FF_0 {X : Wx} {S : Mm} {k : Nat} (h : KK k = 0) : FF X S k = .inr (0, fl0 X S k) := by unfold FF; simp [h]
theorem FF_1 {X : Wx} {S : Mm} {k : Nat} (h : KK k = 1) : FF X S k = .inr (1, fl1 X S k) := by unfold FF; simp [h]
theorem FF_2 {X : Wx} {S : Mm} {k : Nat} (h : KK k = 2) : FF X S k = .inr (2, fl2 X S k) := by unfold FF; simp [h]
theorem FF_3 {X : Wx} {S : Mm} {k : Nat} (h : KK k = 3) : FF X S k = .inr (3, fl3 X S k) := by unfold FF; simp [h]
theorem FF_4 {X : Wx} {S : Mm} {k : Nat} (h : KK k = 4) : FF X S k = .inr (4, fl4 X S k) := by unfold FF; simp [h]
theorem FF_5 {X : Wx} {S : Mm} {k : Nat} (h : KK k = 5) : FF X S k = .inr (5, fl5 X S k) := by unfold FF; simp [h]
theorem FF_6 {X : Wx} {S : Mm} {k : Nat} (h : KK k = 6) : FF X S k = .inr (6, fl6 X S k) := by unfold FF; simp [h]
theorem FF_7 {X : Wx} {S : Mm} {k : Nat} (h : KK k = 7) : FF X S k = .inr (7, fl7 X S k) := by unfold FF; simp [h]
theorem FF_8 {X : Wx} {S : Mm} {k : Nat} (h : KK k = 8) : FF X S k = .inl (X.2.2 8, LL k, .inl (S.1 k)) := by unfold FF; simp [h]
theorem FF_9 {X : Wx} {S : Mm} {k : Nat} (h : KK k = 9) : FF X S k = .inl (X.2.2 9, LL k, .inl (S.1 k)) := by unfold FF; simp [h]
theorem FF_10 {X : Wx} {S : Mm} {k : Nat} (h : KK k = 10) : FF X S k = .inl (X.2.2 10, LL k, .inr (.inl (S.2.1 k))) := by unfold FF; simp [h]
theorem FF_11 {X : Wx} {S : Mm} {k : Nat} (h : KK k = 11) : FF X S k = .inl (X.2.2 11, LL k, .inl (S.1 k)) := by unfold FF; simp [h]
theorem FF_12 {X : Wx} {S : Mm} {k : Nat} (h : KK k = 12) : FF X S k = .inl (X.2.2 12, LL k, .inr (.inr (.inr (.inr (fun i => some (X.1 + (k + 1 + 4 * i))))))) := by unfold FF; simp [h]
theorem FF_13 {X : Wx} {S : Mm} {k : Nat} (h : KK k = 13) : FF X S k = .inl (X.2.2 13, LL k, .inr (.inr (.inr (.inr (fun i => some (X.1 + (k + 1 + 46 * i))))))) := by unfold FF; simp [h]
theorem FF_same {X : Wx} {S T : Mm} {k : Nat} (h1 : S.1 k = T.1 k) (h2 : S.2.1 k = T.2.1 k) (h3 : KK k = 6 → S.2.2 = T.2.2) : FF X S k = FF X T k := by
  by_cases h6 : KK k = 6
  · rw [FF_6 h6, FF_6 h6]; unfold fl6 pl dr; rw [h1, h2, h3 h6]
  · unfold FF fl0 fl1 fl2 fl3 fl4 fl5 fl7; simp only [h1, h2, h6, if_false]
theorem FF_sI_ne {X : Wx} {S : Mm} {a j k : Nat} {v : Int32} (h : k ≠ a) : FF X (sI S a j v) k = FF X S k := FF_same (by simp [sI, rowI, va_up, h]) rfl (fun _ => rfl)
theorem FF_sJ_ne {X : Wx} {S : Mm} {a j k : Nat} {v : Int64} (h : k ≠ a) : FF X (sJ S a j v) k = FF X S k := FF_same rfl (by simp [sJ, rowJ, va_up, h]) (fun _ => rfl)
theorem FF_cp_ne {X : Wx} {S : Mm} {a sp b dp n k : Nat} (h : k ≠ b) : FF X (cpI S a sp b dp n) k = FF X S k := FF_same (by simp [cpI, rowI, va_up, h]) rfl (fun _ => rfl)
theorem KK_6 {k : Nat} (h : KK k = 6) : k = 0 := by
  have := KK_all (P := fun k c => decide (c = 6 → k = 0)) (by decide +kernel) h (by decide)
  simpa using this
/-! worlds as blocks -/
def wlg (b n : Nat) (G : Nat → va_E) : va_W := (List.range n).map (fun k => (b + k, G k))
def wl (X : Wx) (S : Mm) : va_W := wlg X.1 NN (FF X S)
def AA (b : Nat) : Nat → Prop := fun q => b ≤ q
theorem wlg_at {b n k : Nat} {G : Nat → va_E} (h : k < n) : (wlg b n G)[k]? = some (b + k, G k) := by
  unfold wlg
  rw [List.getElem?_map, List.getElem?_range h]
  rfl
theorem wlg_of {b n k : Nat} {G : Nat → va_E} {q : Nat × va_E} (h : (wlg b n G)[k]? = some q) : k < n ∧ q = (b + k, G k) := by
  have hk : k < n := by
    have := (List.getElem?_eq_some_iff.mp h).1
    simpa [wlg] using this
  rw [wlg_at hk] at h
  exact ⟨hk, (Option.some.inj h).symm⟩
theorem wlg_D {b n : Nat} {G : Nat → va_E} : va_D (AA b) (wlg b n G) := by
  refine ⟨fun i j x y hi hj hxy => ?_, fun k q hk => ?_⟩
  · obtain ⟨-, rfl⟩ := wlg_of hi
    obtain ⟨-, rfl⟩ := wlg_of hj
    have : b + i = b + j := hxy
    omega
  · obtain ⟨-, rfl⟩ := wlg_of hk
    exact Nat.le_add_right _ _
theorem wlg_set {b n k : Nat} {G G' : Nat → va_E} {e : va_E} (hk : k < n) (h1 : G' k = e) (h2 : ∀ j, j ≠ k → G' j = G j) : (wlg b n G).set k (b + k, e) = wlg b n G' := by
  apply List.ext_getElem?
  intro j
  by_cases hj : j < n
  · by_cases hjk : j = k
    · subst hjk
      rw [List.getElem?_set_self (by simpa [wlg] using hj), wlg_at hj, h1]
    · rw [List.getElem?_set_ne (Ne.symm hjk), wlg_at hj, wlg_at hj, h2 j hjk]
  · rw [List.getElem?_eq_none (by simp [wlg]; omega), List.getElem?_eq_none (by simp [wlg]; omega)]
def tyl (X : Wx) : List (ClassId × FieldType) := [(X.2.2 8, .byte), (X.2.2 9, .int), (X.2.2 10, .long), (X.2.2 11, .boolean), (X.2.2 12, .object RX1), (X.2.2 13, .object RX3)]
def Wd (X : Wx) (H0 : Heap) (S : Mm) (H : Heap) (locs : List Loc) : Prop := va_P X.2.1 vwCl (wl X S) H ∧ va_S (AA X.1) H0 H locs ∧ KK (pl S) = 4 ∧ KK (dr S) = 4
def Cx (p : Program) (s : State) (m : MethodId) (args : Array Value) (meth : Method) (c : Code) (X : Wx) (cc : ByteArray) (nL : Nat) (own : String) : Prop := p.tables.exec = Jvm.exec ∧ c.code = cc ∧ c.maxLocals = nL ∧ s.vm.findClass own = some m.cls ∧ (∀ w ∈ TB, w.before args s = true) ∧ va_K X.2.1 vwCl (tyl X) s ∧ meth.locks = false
def Pp (X : Wx) (av : List Value) (S : Mm) : Array Value → State → Prop := va_Pc av (fun U => va_P X.2.1 vwCl (wl X S) U.heap ∧ va_K X.2.1 vwCl (tyl X) U ∧ KK (pl S) = 4 ∧ KK (dr S) = 4)
def Qq (X : Wx) (rv : Option Value) (S' : Mm) : Array Value → State → Outcome → State → Prop := fun _ st o t => o = .returned rv ∧ va_P X.2.1 vwCl (wl X S') t.heap ∧ KK (pl S') = 4 ∧ KK (dr S') = 4 ∧ va_F (AA X.1) st t
/-- the contract of a method: with av over the memory S it answers rv and leaves S' -/
def Ct (l : Launch) (X : Wx) (y : MethodName) (cc : ByteArray) (nL : Nat) (ret : Option FieldType) (rm : Room) (av : List Value) (S : Mm) (rv : Option Value) (S' : Mm) : Prop := Met l y (Cond.code y cc nL ret :: TB) rm (Pp X av S) (Qq X rv S') 0 0 (AA X.1)
def Ms (y : MethodName) (cc : ByteArray) (nL : Nat) (ret : Option FieldType) (n : Nat) : Prop := Cond.code y cc nL ret ∈ TB ∧ Cond.initialized y.cls ∈ TB ∧ y.cls ≠ "java/lang/invoke/MethodHandle" ∧ y.cls ≠ "java/lang/invoke/VarHandle" ∧ (parseMethodDescriptor y.desc).map (fun d => d.parameters.length) = some n
def MsV (y : MethodName) (cc : ByteArray) (nL : Nat) (ret : Option FieldType) (n : Nat) : Prop := Ms y cc nL ret n ∧ Cond.instanceMethod y ∈ TB ∧ Cond.selects y.cls y y ∈ TB
def MsS (y : MethodName) (cc : ByteArray) (nL : Nat) (ret : Option FieldType) (n : Nat) : Prop := Ms y cc nL ret n ∧ Cond.static y ∈ TB
theorem good_ws {y : MethodName} {cc : ByteArray} {nL : Nat} {ret : Option FieldType} (h : Cond.code y cc nL ret ∈ TB) : GoodIn TB (Cond.code y cc nL ret :: TB) := fun w hw => by
  rcases List.mem_cons.mp hw with rfl | hw
  · exact ⟨h, Or.inl rfl⟩
  · exact ⟨hw, (tb_good w hw).2⟩
theorem bool_fit {x : Int32} (hz : x = 0 ∨ x = 1) : fits .boolean (.int x) = true := by rcases hz with rfl | rfl <;> rfl
theorem bool_nar {x : Int32} (hz : x = 0 ∨ x = 1) : narrow .boolean (.int x) = .int x := by rcases hz with rfl | rfl <;> rfl
theorem q_native : Cond.native arraycopyName ∈ TB := q2_123
theorem q_acs : Cond.static arraycopyName ∈ TB := q2_122
theorem q_sysinit : Cond.initialized "java/lang/System" ∈ TB := q1_9
section RW
variable {p : Program} {l : Launch} {e : Env} {R : Room} {s : State} {m : MethodId} {args : Array Value} {below : List Frame} {meth : Method} {c : Code} {H : Heap} {locs : List Loc} {cells slots : Nat} {Q : State → Prop}
variable {cc : ByteArray} {pc : Nat} {ls : Array Slot} {rest : List Value} {X : Wx} {H0 : Heap} {S S1 : Mm} {nL : Nat} {own : String}
theorem r_top {x y : Int32} (h : y = x) (k : W p l e R s m args below meth c H locs cells slots Q (F0 m pc ls (.int y :: rest))) : W p l e R s m args below meth c H locs cells slots Q (F0 m pc ls (.int x :: rest)) := h ▸ k
theorem r_topl {x y : Int64} (h : y = x) (k : W p l e R s m args below meth c H locs cells slots Q (F0 m pc ls (.long y :: rest))) : W p l e R s m args below meth c H locs cells slots Q (F0 m pc ls (.long x :: rest)) := h ▸ k
theorem r_get0 (hc : Cx p s m args meth c X cc nL own) (hw : Wd X H0 S H locs) {k index : Nat} (ho : KK k = 0) (j : Nat) (hj : j < 5) {v : Value} (hv : (fl0 X S k)[j]? = some v) (hl : Cond.fieldLink own index (TX0 j).1 (TX0 j).2.1 (TX0 j).2.2.1 ∈ TB) (hdg : decode cc pc = .ok (.getfield index, 3))
    (kk : W p l e R s m args below meth c H locs cells slots Q (F0 m (pc + 3) ls (v :: rest))) : W p l e R s m args below meth c H locs cells slots Q (F0 m pc ls (.ref (X.1 + k) :: rest)) := by
  obtain ⟨hx, hb, -, hown, hts, hK, -⟩ := hc
  have he : (wl X S)[k]? = some (X.1 + k, .inr (0, fl0 X S k)) := by rw [← FF_0 ho]; exact wlg_at (KK_lt ho (by decide))
  exact va_get (T := TX0) (N := 5) hx hb hts inX0 hown hK hw.1 k he rfl j hj (hts _ hl) (fun _ h => h) hv hdg kk
theorem r_put0 (hc : Cx p s m args meth c X cc nL own) (hw : Wd X H0 S H locs) {k index : Nat} (ho : KK k = 0) (j : Nat) (hj : j < 5) {v : Value} (hset : (fl0 X S k).set j v = fl0 X S1 k) (hoth : ∀ a, a ≠ k → FF X S1 a = FF X S a) (hp : KK (pl S1) = 4 ∧ KK (dr S1) = 4) (hl : Cond.fieldLink own index (TX0 j).1 (TX0 j).2.1 (TX0 j).2.2.1 ∈ TB) (hfin : (TX0 j).2.2.2 = false) (hn : narrow (tyX0 j) v = v) (hfit : fits (tyX0 j) v = true) (hdg : decode cc pc = .ok (.putfield index, 3))
    (kk : ∀ (H1 : Heap) (locs1 : List Loc), Wd X H0 S1 H1 locs1 → W p l e R s m args below meth c H1 locs1 cells slots Q (F0 m (pc + 3) ls rest)) : W p l e R s m args below meth c H locs cells slots Q (F0 m pc ls (v :: .ref (X.1 + k) :: rest)) := by
  obtain ⟨hx, hb, -, hown, hts, hK, -⟩ := hc
  have hk := KK_lt ho (by decide)
  have he : (wl X S)[k]? = some (X.1 + k, .inr (0, fl0 X S k)) := by rw [← FF_0 ho]; exact wlg_at hk
  refine va_put (T := TX0) (N := 5) hx hb hts inX0 tyX0 tyX0_ok nmX0 hown hK hw.1 wlg_D hw.2.1 k he rfl j hj (hts _ hl) (fun _ h => h) hfin (tyX0_ok j hj) hn hfit hj hdg (fun H1 locs1 hP _ hS => kk H1 locs1 ⟨?_, hS, hp⟩)
  have hE : (wl X S).set k (X.1 + k, .inr (0, (fl0 X S k).set j v)) = wl X S1 := wlg_set hk (by rw [hset]; exact FF_0 ho) hoth
  rw [hE] at hP
  exact hP
theorem r_put0_0 (hc : Cx p s m args meth c X cc nL own) (hw : Wd X H0 S H locs) {k index : Nat} (ho : KK k = 0) {x : Int64} (e1 : S1 = sJ S k 0 x) (hl : Cond.fieldLink own index (TX0 0).1 (TX0 0).2.1 (TX0 0).2.2.1 ∈ TB) (hdg : decode cc pc = .ok (.putfield index, 3))
    (kk : ∀ (H1 : Heap) (locs1 : List Loc), Wd X H0 S1 H1 locs1 → W p l e R s m args below meth c H1 locs1 cells slots Q (F0 m (pc + 3) ls rest)) : W p l e R s m args below meth c H locs cells slots Q (F0 m pc ls (.long x :: .ref (X.1 + k) :: rest)) := by
  subst e1
  refine r_put0 hc hw ho 0 (by decide) (v := .long x) ?_ (fun a ha => FF_sJ_ne ha) hw.2.2 hl rfl rfl rfl hdg kk
  simp [fl0, sJ, rowI, rowJ, va_up, upd, vp_updL, pl, dr]
theorem r_put0_1 (hc : Cx p s m args meth c X cc nL own) (hw : Wd X H0 S H locs) {k index : Nat} (ho : KK k = 0) {x : Int64} (e1 : S1 = sJ S k 1 x) (hl : Cond.fieldLink own index (TX0 1).1 (TX0 1).2.1 (TX0 1).2.2.1 ∈ TB) (hdg : decode cc pc = .ok (.putfield index, 3))
    (kk : ∀ (H1 : Heap) (locs1 : List Loc), Wd X H0 S1 H1 locs1 → W p l e R s m args below meth c H1 locs1 cells slots Q (F0 m (pc + 3) ls rest)) : W p l e R s m args below meth c H locs cells slots Q (F0 m pc ls (.long x :: .ref (X.1 + k) :: rest)) := by
  subst e1
  refine r_put0 hc hw ho 1 (by decide) (v := .long x) ?_ (fun a ha => FF_sJ_ne ha) hw.2.2 hl rfl rfl rfl hdg kk
  simp [fl0, sJ, rowI, rowJ, va_up, upd, vp_updL, pl, dr]
theorem r_put0_2 (hc : Cx p s m args meth c X cc nL own) (hw : Wd X H0 S H locs) {k index : Nat} (ho : KK k = 0) {x : Int64} (e1 : S1 = sJ S k 2 x) (hl : Cond.fieldLink own index (TX0 2).1 (TX0 2).2.1 (TX0 2).2.2.1 ∈ TB) (hdg : decode cc pc = .ok (.putfield index, 3))
    (kk : ∀ (H1 : Heap) (locs1 : List Loc), Wd X H0 S1 H1 locs1 → W p l e R s m args below meth c H1 locs1 cells slots Q (F0 m (pc + 3) ls rest)) : W p l e R s m args below meth c H locs cells slots Q (F0 m pc ls (.long x :: .ref (X.1 + k) :: rest)) := by
  subst e1
  refine r_put0 hc hw ho 2 (by decide) (v := .long x) ?_ (fun a ha => FF_sJ_ne ha) hw.2.2 hl rfl rfl rfl hdg kk
  simp [fl0, sJ, rowI, rowJ, va_up, upd, vp_updL, pl, dr]
theorem r_get1 (hc : Cx p s m args meth c X cc nL own) (hw : Wd X H0 S H locs) {k index : Nat} (ho : KK k = 1) (j : Nat) (hj : j < 8) {v : Value} (hv : (fl1 X S k)[j]? = some v) (hl : Cond.fieldLink own index (TX1 j).1 (TX1 j).2.1 (TX1 j).2.2.1 ∈ TB) (hdg : decode cc pc = .ok (.getfield index, 3))
    (kk : W p l e R s m args below meth c H locs cells slots Q (F0 m (pc + 3) ls (v :: rest))) : W p l e R s m args below meth c H locs cells slots Q (F0 m pc ls (.ref (X.1 + k) :: rest)) := by
  obtain ⟨hx, hb, -, hown, hts, hK, -⟩ := hc
  have he : (wl X S)[k]? = some (X.1 + k, .inr (1, fl1 X S k)) := by rw [← FF_1 ho]; exact wlg_at (KK_lt ho (by decide))
  exact va_get (T := TX1) (N := 8) hx hb hts inX1 hown hK hw.1 k he rfl j hj (hts _ hl) (fun _ h => h) hv hdg kk
theorem r_put1 (hc : Cx p s m args meth c X cc nL own) (hw : Wd X H0 S H locs) {k index : Nat} (ho : KK k = 1) (j : Nat) (hj : j < 8) {v : Value} (hset : (fl1 X S k).set j v = fl1 X S1 k) (hoth : ∀ a, a ≠ k → FF X S1 a = FF X S a) (hp : KK (pl S1) = 4 ∧ KK (dr S1) = 4) (hl : Cond.fieldLink own index (TX1 j).1 (TX1 j).2.1 (TX1 j).2.2.1 ∈ TB) (hfin : (TX1 j).2.2.2 = false) (hn : narrow (tyX1 j) v = v) (hfit : fits (tyX1 j) v = true) (hdg : decode cc pc = .ok (.putfield index, 3))
    (kk : ∀ (H1 : Heap) (locs1 : List Loc), Wd X H0 S1 H1 locs1 → W p l e R s m args below meth c H1 locs1 cells slots Q (F0 m (pc + 3) ls rest)) : W p l e R s m args below meth c H locs cells slots Q (F0 m pc ls (v :: .ref (X.1 + k) :: rest)) := by
  obtain ⟨hx, hb, -, hown, hts, hK, -⟩ := hc
  have hk := KK_lt ho (by decide)
  have he : (wl X S)[k]? = some (X.1 + k, .inr (1, fl1 X S k)) := by rw [← FF_1 ho]; exact wlg_at hk
  refine va_put (T := TX1) (N := 8) hx hb hts inX1 tyX1 tyX1_ok nmX1 hown hK hw.1 wlg_D hw.2.1 k he rfl j hj (hts _ hl) (fun _ h => h) hfin (tyX1_ok j hj) hn hfit hj hdg (fun H1 locs1 hP _ hS => kk H1 locs1 ⟨?_, hS, hp⟩)
  have hE : (wl X S).set k (X.1 + k, .inr (1, (fl1 X S k).set j v)) = wl X S1 := wlg_set hk (by rw [hset]; exact FF_1 ho) hoth
  rw [hE] at hP
  exact hP
theorem r_put1_3 (hc : Cx p s m args meth c X cc nL own) (hw : Wd X H0 S H locs) {k index : Nat} (ho : KK k = 1) {x : Int32} (e1 : S1 = sI S k 3 x) (hl : Cond.fieldLink own index (TX1 3).1 (TX1 3).2.1 (TX1 3).2.2.1 ∈ TB) (hdg : decode cc pc = .ok (.putfield index, 3))
    (kk : ∀ (H1 : Heap) (locs1 : List Loc), Wd X H0 S1 H1 locs1 → W p l e R s m args below meth c H1 locs1 cells slots Q (F0 m (pc + 3) ls rest)) : W p l e R s m args below meth c H locs cells slots Q (F0 m pc ls (.int x :: .ref (X.1 + k) :: rest)) := by
  subst e1
  refine r_put1 hc hw ho 3 (by decide) (v := .int x) ?_ (fun a ha => FF_sI_ne ha) hw.2.2 hl rfl rfl rfl hdg kk
  simp [fl1, sI, rowI, rowJ, va_up, upd, vp_updL, pl, dr]
theorem r_put1_4 (hc : Cx p s m args meth c X cc nL own) (hw : Wd X H0 S H locs) {k index : Nat} (ho : KK k = 1) {x : Int32} (e1 : S1 = sI S k 4 x) (hl : Cond.fieldLink own index (TX1 4).1 (TX1 4).2.1 (TX1 4).2.2.1 ∈ TB) (hdg : decode cc pc = .ok (.putfield index, 3))
    (kk : ∀ (H1 : Heap) (locs1 : List Loc), Wd X H0 S1 H1 locs1 → W p l e R s m args below meth c H1 locs1 cells slots Q (F0 m (pc + 3) ls rest)) : W p l e R s m args below meth c H locs cells slots Q (F0 m pc ls (.int x :: .ref (X.1 + k) :: rest)) := by
  subst e1
  refine r_put1 hc hw ho 4 (by decide) (v := .int x) ?_ (fun a ha => FF_sI_ne ha) hw.2.2 hl rfl rfl rfl hdg kk
  simp [fl1, sI, rowI, rowJ, va_up, upd, vp_updL, pl, dr]
theorem r_put1_5 (hc : Cx p s m args meth c X cc nL own) (hw : Wd X H0 S H locs) {k index : Nat} (ho : KK k = 1) {x : Int32} (e1 : S1 = sI S k 5 x) (hl : Cond.fieldLink own index (TX1 5).1 (TX1 5).2.1 (TX1 5).2.2.1 ∈ TB) (hdg : decode cc pc = .ok (.putfield index, 3))
    (kk : ∀ (H1 : Heap) (locs1 : List Loc), Wd X H0 S1 H1 locs1 → W p l e R s m args below meth c H1 locs1 cells slots Q (F0 m (pc + 3) ls rest)) : W p l e R s m args below meth c H locs cells slots Q (F0 m pc ls (.int x :: .ref (X.1 + k) :: rest)) := by
  subst e1
  refine r_put1 hc hw ho 5 (by decide) (v := .int x) ?_ (fun a ha => FF_sI_ne ha) hw.2.2 hl rfl rfl rfl hdg kk
  simp [fl1, sI, rowI, rowJ, va_up, upd, vp_updL, pl, dr]
theorem r_put1_6 (hc : Cx p s m args meth c X cc nL own) (hw : Wd X H0 S H locs) {k index : Nat} (ho : KK k = 1) {x : Int32} (e1 : S1 = sI S k 6 x) (hl : Cond.fieldLink own index (TX1 6).1 (TX1 6).2.1 (TX1 6).2.2.1 ∈ TB) (hdg : decode cc pc = .ok (.putfield index, 3))
    (kk : ∀ (H1 : Heap) (locs1 : List Loc), Wd X H0 S1 H1 locs1 → W p l e R s m args below meth c H1 locs1 cells slots Q (F0 m (pc + 3) ls rest)) : W p l e R s m args below meth c H locs cells slots Q (F0 m pc ls (.int x :: .ref (X.1 + k) :: rest)) := by
  subst e1
  refine r_put1 hc hw ho 6 (by decide) (v := .int x) ?_ (fun a ha => FF_sI_ne ha) hw.2.2 hl rfl rfl rfl hdg kk
  simp [fl1, sI, rowI, rowJ, va_up, upd, vp_updL, pl, dr]
theorem r_put1_7 (hc : Cx p s m args meth c X cc nL own) (hw : Wd X H0 S H locs) {k index : Nat} (ho : KK k = 1) {x : Int32} (e1 : S1 = sI S k 7 x) (hl : Cond.fieldLink own index (TX1 7).1 (TX1 7).2.1 (TX1 7).2.2.1 ∈ TB) (hdg : decode cc pc = .ok (.putfield index, 3))
    (kk : ∀ (H1 : Heap) (locs1 : List Loc), Wd X H0 S1 H1 locs1 → W p l e R s m args below meth c H1 locs1 cells slots Q (F0 m (pc + 3) ls rest)) : W p l e R s m args below meth c H locs cells slots Q (F0 m pc ls (.int x :: .ref (X.1 + k) :: rest)) := by
  subst e1
  refine r_put1 hc hw ho 7 (by decide) (v := .int x) ?_ (fun a ha => FF_sI_ne ha) hw.2.2 hl rfl rfl rfl hdg kk
  simp [fl1, sI, rowI, rowJ, va_up, upd, vp_updL, pl, dr]
theorem r_get2 (hc : Cx p s m args meth c X cc nL own) (hw : Wd X H0 S H locs) {k index : Nat} (ho : KK k = 2) (j : Nat) (hj : j < 3) {v : Value} (hv : (fl2 X S k)[j]? = some v) (hl : Cond.fieldLink own index (TX2 j).1 (TX2 j).2.1 (TX2 j).2.2.1 ∈ TB) (hdg : decode cc pc = .ok (.getfield index, 3))
    (kk : W p l e R s m args below meth c H locs cells slots Q (F0 m (pc + 3) ls (v :: rest))) : W p l e R s m args below meth c H locs cells slots Q (F0 m pc ls (.ref (X.1 + k) :: rest)) := by
  obtain ⟨hx, hb, -, hown, hts, hK, -⟩ := hc
  have he : (wl X S)[k]? = some (X.1 + k, .inr (2, fl2 X S k)) := by rw [← FF_2 ho]; exact wlg_at (KK_lt ho (by decide))
  exact va_get (T := TX2) (N := 3) hx hb hts inX2 hown hK hw.1 k he rfl j hj (hts _ hl) (fun _ h => h) hv hdg kk
theorem r_put2 (hc : Cx p s m args meth c X cc nL own) (hw : Wd X H0 S H locs) {k index : Nat} (ho : KK k = 2) (j : Nat) (hj : j < 3) {v : Value} (hset : (fl2 X S k).set j v = fl2 X S1 k) (hoth : ∀ a, a ≠ k → FF X S1 a = FF X S a) (hp : KK (pl S1) = 4 ∧ KK (dr S1) = 4) (hl : Cond.fieldLink own index (TX2 j).1 (TX2 j).2.1 (TX2 j).2.2.1 ∈ TB) (hfin : (TX2 j).2.2.2 = false) (hn : narrow (tyX2 j) v = v) (hfit : fits (tyX2 j) v = true) (hdg : decode cc pc = .ok (.putfield index, 3))
    (kk : ∀ (H1 : Heap) (locs1 : List Loc), Wd X H0 S1 H1 locs1 → W p l e R s m args below meth c H1 locs1 cells slots Q (F0 m (pc + 3) ls rest)) : W p l e R s m args below meth c H locs cells slots Q (F0 m pc ls (v :: .ref (X.1 + k) :: rest)) := by
  obtain ⟨hx, hb, -, hown, hts, hK, -⟩ := hc
  have hk := KK_lt ho (by decide)
  have he : (wl X S)[k]? = some (X.1 + k, .inr (2, fl2 X S k)) := by rw [← FF_2 ho]; exact wlg_at hk
  refine va_put (T := TX2) (N := 3) hx hb hts inX2 tyX2 tyX2_ok nmX2 hown hK hw.1 wlg_D hw.2.1 k he rfl j hj (hts _ hl) (fun _ h => h) hfin (tyX2_ok j hj) hn hfit hj hdg (fun H1 locs1 hP _ hS => kk H1 locs1 ⟨?_, hS, hp⟩)
  have hE : (wl X S).set k (X.1 + k, .inr (2, (fl2 X S k).set j v)) = wl X S1 := wlg_set hk (by rw [hset]; exact FF_2 ho) hoth
  rw [hE] at hP
  exact hP
theorem r_put2_0 (hc : Cx p s m args meth c X cc nL own) (hw : Wd X H0 S H locs) {k index : Nat} (ho : KK k = 2) {x : Int32} (e1 : S1 = sI S k 0 x) (hl : Cond.fieldLink own index (TX2 0).1 (TX2 0).2.1 (TX2 0).2.2.1 ∈ TB) (hdg : decode cc pc = .ok (.putfield index, 3))
    (kk : ∀ (H1 : Heap) (locs1 : List Loc), Wd X H0 S1 H1 locs1 → W p l e R s m args below meth c H1 locs1 cells slots Q (F0 m (pc + 3) ls rest)) : W p l e R s m args below meth c H locs cells slots Q (F0 m pc ls (.int x :: .ref (X.1 + k) :: rest)) := by
  subst e1
  refine r_put2 hc hw ho 0 (by decide) (v := .int x) ?_ (fun a ha => FF_sI_ne ha) hw.2.2 hl rfl rfl rfl hdg kk
  simp [fl2, sI, rowI, rowJ, va_up, upd, vp_updL, pl, dr]
theorem r_put2_1 (hc : Cx p s m args meth c X cc nL own) (hw : Wd X H0 S H locs) {k index : Nat} (ho : KK k = 2) {x : Int32} (e1 : S1 = sI S k 1 x) (hz : x = 0 ∨ x = 1) (hl : Cond.fieldLink own index (TX2 1).1 (TX2 1).2.1 (TX2 1).2.2.1 ∈ TB) (hdg : decode cc pc = .ok (.putfield index, 3))
    (kk : ∀ (H1 : Heap) (locs1 : List Loc), Wd X H0 S1 H1 locs1 → W p l e R s m args below meth c H1 locs1 cells slots Q (F0 m (pc + 3) ls rest)) : W p l e R s m args below meth c H locs cells slots Q (F0 m pc ls (.int x :: .ref (X.1 + k) :: rest)) := by
  subst e1
  refine r_put2 hc hw ho 1 (by decide) (v := .int x) ?_ (fun a ha => FF_sI_ne ha) hw.2.2 hl rfl (bool_nar hz) (bool_fit hz) hdg kk
  simp [fl2, sI, rowI, rowJ, va_up, upd, vp_updL, pl, dr]
theorem r_put2_2 (hc : Cx p s m args meth c X cc nL own) (hw : Wd X H0 S H locs) {k index : Nat} (ho : KK k = 2) {x : Int32} (e1 : S1 = sI S k 2 x) (hl : Cond.fieldLink own index (TX2 2).1 (TX2 2).2.1 (TX2 2).2.2.1 ∈ TB) (hdg : decode cc pc = .ok (.putfield index, 3))
    (kk : ∀ (H1 : Heap) (locs1 : List Loc), Wd X H0 S1 H1 locs1 → W p l e R s m args below meth c H1 locs1 cells slots Q (F0 m (pc + 3) ls rest)) : W p l e R s m args below meth c H locs cells slots Q (F0 m pc ls (.int x :: .ref (X.1 + k) :: rest)) := by
  subst e1
  refine r_put2 hc hw ho 2 (by decide) (v := .int x) ?_ (fun a ha => FF_sI_ne ha) hw.2.2 hl rfl rfl rfl hdg kk
  simp [fl2, sI, rowI, rowJ, va_up, upd, vp_updL, pl, dr]
theorem r_get3 (hc : Cx p s m args meth c X cc nL own) (hw : Wd X H0 S H locs) {k index : Nat} (ho : KK k = 3) (j : Nat) (hj : j < 4) {v : Value} (hv : (fl3 X S k)[j]? = some v) (hl : Cond.fieldLink own index (TX3 j).1 (TX3 j).2.1 (TX3 j).2.2.1 ∈ TB) (hdg : decode cc pc = .ok (.getfield index, 3))
    (kk : W p l e R s m args below meth c H locs cells slots Q (F0 m (pc + 3) ls (v :: rest))) : W p l e R s m args below meth c H locs cells slots Q (F0 m pc ls (.ref (X.1 + k) :: rest)) := by
  obtain ⟨hx, hb, -, hown, hts, hK, -⟩ := hc
  have he : (wl X S)[k]? = some (X.1 + k, .inr (3, fl3 X S k)) := by rw [← FF_3 ho]; exact wlg_at (KK_lt ho (by decide))
  exact va_get (T := TX3) (N := 4) hx hb hts inX3 hown hK hw.1 k he rfl j hj (hts _ hl) (fun _ h => h) hv hdg kk
theorem r_put3 (hc : Cx p s m args meth c X cc nL own) (hw : Wd X H0 S H locs) {k index : Nat} (ho : KK k = 3) (j : Nat) (hj : j < 4) {v : Value} (hset : (fl3 X S k).set j v = fl3 X S1 k) (hoth : ∀ a, a ≠ k → FF X S1 a = FF X S a) (hp : KK (pl S1) = 4 ∧ KK (dr S1) = 4) (hl : Cond.fieldLink own index (TX3 j).1 (TX3 j).2.1 (TX3 j).2.2.1 ∈ TB) (hfin : (TX3 j).2.2.2 = false) (hn : narrow (tyX3 j) v = v) (hfit : fits (tyX3 j) v = true) (hdg : decode cc pc = .ok (.putfield index, 3))
    (kk : ∀ (H1 : Heap) (locs1 : List Loc), Wd X H0 S1 H1 locs1 → W p l e R s m args below meth c H1 locs1 cells slots Q (F0 m (pc + 3) ls rest)) : W p l e R s m args below meth c H locs cells slots Q (F0 m pc ls (v :: .ref (X.1 + k) :: rest)) := by
  obtain ⟨hx, hb, -, hown, hts, hK, -⟩ := hc
  have hk := KK_lt ho (by decide)
  have he : (wl X S)[k]? = some (X.1 + k, .inr (3, fl3 X S k)) := by rw [← FF_3 ho]; exact wlg_at hk
  refine va_put (T := TX3) (N := 4) hx hb hts inX3 tyX3 tyX3_ok nmX3 hown hK hw.1 wlg_D hw.2.1 k he rfl j hj (hts _ hl) (fun _ h => h) hfin (tyX3_ok j hj) hn hfit hj hdg (fun H1 locs1 hP _ hS => kk H1 locs1 ⟨?_, hS, hp⟩)
  have hE : (wl X S).set k (X.1 + k, .inr (3, (fl3 X S k).set j v)) = wl X S1 := wlg_set hk (by rw [hset]; exact FF_3 ho) hoth
  rw [hE] at hP
  exact hP
theorem r_put3_2 (hc : Cx p s m args meth c X cc nL own) (hw : Wd X H0 S H locs) {k index : Nat} (ho : KK k = 3) {x : Int32} (e1 : S1 = sI S k 2 x) (hl : Cond.fieldLink own index (TX3 2).1 (TX3 2).2.1 (TX3 2).2.2.1 ∈ TB) (hdg : decode cc pc = .ok (.putfield index, 3))
    (kk : ∀ (H1 : Heap) (locs1 : List Loc), Wd X H0 S1 H1 locs1 → W p l e R s m args below meth c H1 locs1 cells slots Q (F0 m (pc + 3) ls rest)) : W p l e R s m args below meth c H locs cells slots Q (F0 m pc ls (.int x :: .ref (X.1 + k) :: rest)) := by
  subst e1
  refine r_put3 hc hw ho 2 (by decide) (v := .int x) ?_ (fun a ha => FF_sI_ne ha) hw.2.2 hl rfl rfl rfl hdg kk
  simp [fl3, sI, rowI, rowJ, va_up, upd, vp_updL, pl, dr]
theorem r_put3_3 (hc : Cx p s m args meth c X cc nL own) (hw : Wd X H0 S H locs) {k index : Nat} (ho : KK k = 3) {x : Int32} (e1 : S1 = sI S k 3 x) (hl : Cond.fieldLink own index (TX3 3).1 (TX3 3).2.1 (TX3 3).2.2.1 ∈ TB) (hdg : decode cc pc = .ok (.putfield index, 3))
    (kk : ∀ (H1 : Heap) (locs1 : List Loc), Wd X H0 S1 H1 locs1 → W p l e R s m args below meth c H1 locs1 cells slots Q (F0 m (pc + 3) ls rest)) : W p l e R s m args below meth c H locs cells slots Q (F0 m pc ls (.int x :: .ref (X.1 + k) :: rest)) := by
  subst e1
  refine r_put3 hc hw ho 3 (by decide) (v := .int x) ?_ (fun a ha => FF_sI_ne ha) hw.2.2 hl rfl rfl rfl hdg kk
  simp [fl3, sI, rowI, rowJ, va_up, upd, vp_updL, pl, dr]
theorem r_get4 (hc : Cx p s m args meth c X cc nL own) (hw : Wd X H0 S H locs) {k index : Nat} (ho : KK k = 4) (j : Nat) (hj : j < 7) {v : Value} (hv : (fl4 X S k)[j]? = some v) (hl : Cond.fieldLink own index (TX4 j).1 (TX4 j).2.1 (TX4 j).2.2.1 ∈ TB) (hdg : decode cc pc = .ok (.getfield index, 3))
    (kk : W p l e R s m args below meth c H locs cells slots Q (F0 m (pc + 3) ls (v :: rest))) : W p l e R s m args below meth c H locs cells slots Q (F0 m pc ls (.ref (X.1 + k) :: rest)) := by
  obtain ⟨hx, hb, -, hown, hts, hK, -⟩ := hc
  have he : (wl X S)[k]? = some (X.1 + k, .inr (4, fl4 X S k)) := by rw [← FF_4 ho]; exact wlg_at (KK_lt ho (by decide))
  exact va_get (T := TX4) (N := 7) hx hb hts inX4 hown hK hw.1 k he rfl j hj (hts _ hl) (fun _ h => h) hv hdg kk
theorem r_put4 (hc : Cx p s m args meth c X cc nL own) (hw : Wd X H0 S H locs) {k index : Nat} (ho : KK k = 4) (j : Nat) (hj : j < 7) {v : Value} (hset : (fl4 X S k).set j v = fl4 X S1 k) (hoth : ∀ a, a ≠ k → FF X S1 a = FF X S a) (hp : KK (pl S1) = 4 ∧ KK (dr S1) = 4) (hl : Cond.fieldLink own index (TX4 j).1 (TX4 j).2.1 (TX4 j).2.2.1 ∈ TB) (hfin : (TX4 j).2.2.2 = false) (hn : narrow (tyX4 j) v = v) (hfit : fits (tyX4 j) v = true) (hdg : decode cc pc = .ok (.putfield index, 3))
    (kk : ∀ (H1 : Heap) (locs1 : List Loc), Wd X H0 S1 H1 locs1 → W p l e R s m args below meth c H1 locs1 cells slots Q (F0 m (pc + 3) ls rest)) : W p l e R s m args below meth c H locs cells slots Q (F0 m pc ls (v :: .ref (X.1 + k) :: rest)) := by
  obtain ⟨hx, hb, -, hown, hts, hK, -⟩ := hc
  have hk := KK_lt ho (by decide)
  have he : (wl X S)[k]? = some (X.1 + k, .inr (4, fl4 X S k)) := by rw [← FF_4 ho]; exact wlg_at hk
  refine va_put (T := TX4) (N := 7) hx hb hts inX4 tyX4 tyX4_ok nmX4 hown hK hw.1 wlg_D hw.2.1 k he rfl j hj (hts _ hl) (fun _ h => h) hfin (tyX4_ok j hj) hn hfit hj hdg (fun H1 locs1 hP _ hS => kk H1 locs1 ⟨?_, hS, hp⟩)
  have hE : (wl X S).set k (X.1 + k, .inr (4, (fl4 X S k).set j v)) = wl X S1 := wlg_set hk (by rw [hset]; exact FF_4 ho) hoth
  rw [hE] at hP
  exact hP
theorem r_put4_0 (hc : Cx p s m args meth c X cc nL own) (hw : Wd X H0 S H locs) {k index : Nat} (ho : KK k = 4) {x : Int32} (e1 : S1 = sI S k 0 x) (hl : Cond.fieldLink own index (TX4 0).1 (TX4 0).2.1 (TX4 0).2.2.1 ∈ TB) (hdg : decode cc pc = .ok (.putfield index, 3))
    (kk : ∀ (H1 : Heap) (locs1 : List Loc), Wd X H0 S1 H1 locs1 → W p l e R s m args below meth c H1 locs1 cells slots Q (F0 m (pc + 3) ls rest)) : W p l e R s m args below meth c H locs cells slots Q (F0 m pc ls (.int x :: .ref (X.1 + k) :: rest)) := by
  subst e1
  refine r_put4 hc hw ho 0 (by decide) (v := .int x) ?_ (fun a ha => FF_sI_ne ha) hw.2.2 hl rfl rfl rfl hdg kk
  simp [fl4, sI, rowI, rowJ, va_up, upd, vp_updL, pl, dr]
theorem r_put4_1 (hc : Cx p s m args meth c X cc nL own) (hw : Wd X H0 S H locs) {k index : Nat} (ho : KK k = 4) {x : Int32} (e1 : S1 = sI S k 1 x) (hl : Cond.fieldLink own index (TX4 1).1 (TX4 1).2.1 (TX4 1).2.2.1 ∈ TB) (hdg : decode cc pc = .ok (.putfield index, 3))
    (kk : ∀ (H1 : Heap) (locs1 : List Loc), Wd X H0 S1 H1 locs1 → W p l e R s m args below meth c H1 locs1 cells slots Q (F0 m (pc + 3) ls rest)) : W p l e R s m args below meth c H locs cells slots Q (F0 m pc ls (.int x :: .ref (X.1 + k) :: rest)) := by
  subst e1
  refine r_put4 hc hw ho 1 (by decide) (v := .int x) ?_ (fun a ha => FF_sI_ne ha) hw.2.2 hl rfl rfl rfl hdg kk
  simp [fl4, sI, rowI, rowJ, va_up, upd, vp_updL, pl, dr]
theorem r_get5 (hc : Cx p s m args meth c X cc nL own) (hw : Wd X H0 S H locs) {k index : Nat} (ho : KK k = 5) (j : Nat) (hj : j < 7) {v : Value} (hv : (fl5 X S k)[j]? = some v) (hl : Cond.fieldLink own index (TX5 j).1 (TX5 j).2.1 (TX5 j).2.2.1 ∈ TB) (hdg : decode cc pc = .ok (.getfield index, 3))
    (kk : W p l e R s m args below meth c H locs cells slots Q (F0 m (pc + 3) ls (v :: rest))) : W p l e R s m args below meth c H locs cells slots Q (F0 m pc ls (.ref (X.1 + k) :: rest)) := by
  obtain ⟨hx, hb, -, hown, hts, hK, -⟩ := hc
  have he : (wl X S)[k]? = some (X.1 + k, .inr (5, fl5 X S k)) := by rw [← FF_5 ho]; exact wlg_at (KK_lt ho (by decide))
  exact va_get (T := TX5) (N := 7) hx hb hts inX5 hown hK hw.1 k he rfl j hj (hts _ hl) (fun _ h => h) hv hdg kk
theorem r_put5 (hc : Cx p s m args meth c X cc nL own) (hw : Wd X H0 S H locs) {k index : Nat} (ho : KK k = 5) (j : Nat) (hj : j < 7) {v : Value} (hset : (fl5 X S k).set j v = fl5 X S1 k) (hoth : ∀ a, a ≠ k → FF X S1 a = FF X S a) (hp : KK (pl S1) = 4 ∧ KK (dr S1) = 4) (hl : Cond.fieldLink own index (TX5 j).1 (TX5 j).2.1 (TX5 j).2.2.1 ∈ TB) (hfin : (TX5 j).2.2.2 = false) (hn : narrow (tyX5 j) v = v) (hfit : fits (tyX5 j) v = true) (hdg : decode cc pc = .ok (.putfield index, 3))
    (kk : ∀ (H1 : Heap) (locs1 : List Loc), Wd X H0 S1 H1 locs1 → W p l e R s m args below meth c H1 locs1 cells slots Q (F0 m (pc + 3) ls rest)) : W p l e R s m args below meth c H locs cells slots Q (F0 m pc ls (v :: .ref (X.1 + k) :: rest)) := by
  obtain ⟨hx, hb, -, hown, hts, hK, -⟩ := hc
  have hk := KK_lt ho (by decide)
  have he : (wl X S)[k]? = some (X.1 + k, .inr (5, fl5 X S k)) := by rw [← FF_5 ho]; exact wlg_at hk
  refine va_put (T := TX5) (N := 7) hx hb hts inX5 tyX5 tyX5_ok nmX5 hown hK hw.1 wlg_D hw.2.1 k he rfl j hj (hts _ hl) (fun _ h => h) hfin (tyX5_ok j hj) hn hfit hj hdg (fun H1 locs1 hP _ hS => kk H1 locs1 ⟨?_, hS, hp⟩)
  have hE : (wl X S).set k (X.1 + k, .inr (5, (fl5 X S k).set j v)) = wl X S1 := wlg_set hk (by rw [hset]; exact FF_5 ho) hoth
  rw [hE] at hP
  exact hP
theorem r_put5_1 (hc : Cx p s m args meth c X cc nL own) (hw : Wd X H0 S H locs) {k index : Nat} (ho : KK k = 5) {x : Int32} (e1 : S1 = sI S k 1 x) (hl : Cond.fieldLink own index (TX5 1).1 (TX5 1).2.1 (TX5 1).2.2.1 ∈ TB) (hdg : decode cc pc = .ok (.putfield index, 3))
    (kk : ∀ (H1 : Heap) (locs1 : List Loc), Wd X H0 S1 H1 locs1 → W p l e R s m args below meth c H1 locs1 cells slots Q (F0 m (pc + 3) ls rest)) : W p l e R s m args below meth c H locs cells slots Q (F0 m pc ls (.int x :: .ref (X.1 + k) :: rest)) := by
  subst e1
  refine r_put5 hc hw ho 1 (by decide) (v := .int x) ?_ (fun a ha => FF_sI_ne ha) hw.2.2 hl rfl rfl rfl hdg kk
  simp [fl5, sI, rowI, rowJ, va_up, upd, vp_updL, pl, dr]
theorem r_put5_2 (hc : Cx p s m args meth c X cc nL own) (hw : Wd X H0 S H locs) {k index : Nat} (ho : KK k = 5) {x : Int32} (e1 : S1 = sI S k 2 x) (hl : Cond.fieldLink own index (TX5 2).1 (TX5 2).2.1 (TX5 2).2.2.1 ∈ TB) (hdg : decode cc pc = .ok (.putfield index, 3))
    (kk : ∀ (H1 : Heap) (locs1 : List Loc), Wd X H0 S1 H1 locs1 → W p l e R s m args below meth c H1 locs1 cells slots Q (F0 m (pc + 3) ls rest)) : W p l e R s m args below meth c H locs cells slots Q (F0 m pc ls (.int x :: .ref (X.1 + k) :: rest)) := by
  subst e1
  refine r_put5 hc hw ho 2 (by decide) (v := .int x) ?_ (fun a ha => FF_sI_ne ha) hw.2.2 hl rfl rfl rfl hdg kk
  simp [fl5, sI, rowI, rowJ, va_up, upd, vp_updL, pl, dr]
theorem r_put5_3 (hc : Cx p s m args meth c X cc nL own) (hw : Wd X H0 S H locs) {k index : Nat} (ho : KK k = 5) {x : Int32} (e1 : S1 = sI S k 3 x) (hl : Cond.fieldLink own index (TX5 3).1 (TX5 3).2.1 (TX5 3).2.2.1 ∈ TB) (hdg : decode cc pc = .ok (.putfield index, 3))
    (kk : ∀ (H1 : Heap) (locs1 : List Loc), Wd X H0 S1 H1 locs1 → W p l e R s m args below meth c H1 locs1 cells slots Q (F0 m (pc + 3) ls rest)) : W p l e R s m args below meth c H locs cells slots Q (F0 m pc ls (.int x :: .ref (X.1 + k) :: rest)) := by
  subst e1
  refine r_put5 hc hw ho 3 (by decide) (v := .int x) ?_ (fun a ha => FF_sI_ne ha) hw.2.2 hl rfl rfl rfl hdg kk
  simp [fl5, sI, rowI, rowJ, va_up, upd, vp_updL, pl, dr]
theorem r_put5_4 (hc : Cx p s m args meth c X cc nL own) (hw : Wd X H0 S H locs) {k index : Nat} (ho : KK k = 5) {x : Int32} (e1 : S1 = sI S k 4 x) (hl : Cond.fieldLink own index (TX5 4).1 (TX5 4).2.1 (TX5 4).2.2.1 ∈ TB) (hdg : decode cc pc = .ok (.putfield index, 3))
    (kk : ∀ (H1 : Heap) (locs1 : List Loc), Wd X H0 S1 H1 locs1 → W p l e R s m args below meth c H1 locs1 cells slots Q (F0 m (pc + 3) ls rest)) : W p l e R s m args below meth c H locs cells slots Q (F0 m pc ls (.int x :: .ref (X.1 + k) :: rest)) := by
  subst e1
  refine r_put5 hc hw ho 4 (by decide) (v := .int x) ?_ (fun a ha => FF_sI_ne ha) hw.2.2 hl rfl rfl rfl hdg kk
  simp [fl5, sI, rowI, rowJ, va_up, upd, vp_updL, pl, dr]
theorem r_put5_5 (hc : Cx p s m args meth c X cc nL own) (hw : Wd X H0 S H locs) {k index : Nat} (ho : KK k = 5) {x : Int32} (e1 : S1 = sI S k 5 x) (hl : Cond.fieldLink own index (TX5 5).1 (TX5 5).2.1 (TX5 5).2.2.1 ∈ TB) (hdg : decode cc pc = .ok (.putfield index, 3))
    (kk : ∀ (H1 : Heap) (locs1 : List Loc), Wd X H0 S1 H1 locs1 → W p l e R s m args below meth c H1 locs1 cells slots Q (F0 m (pc + 3) ls rest)) : W p l e R s m args below meth c H locs cells slots Q (F0 m pc ls (.int x :: .ref (X.1 + k) :: rest)) := by
  subst e1
  refine r_put5 hc hw ho 5 (by decide) (v := .int x) ?_ (fun a ha => FF_sI_ne ha) hw.2.2 hl rfl rfl rfl hdg kk
  simp [fl5, sI, rowI, rowJ, va_up, upd, vp_updL, pl, dr]
theorem r_put5_6 (hc : Cx p s m args meth c X cc nL own) (hw : Wd X H0 S H locs) {k index : Nat} (ho : KK k = 5) {x : Int32} (e1 : S1 = sI S k 6 x) (hz : x = 0 ∨ x = 1) (hl : Cond.fieldLink own index (TX5 6).1 (TX5 6).2.1 (TX5 6).2.2.1 ∈ TB) (hdg : decode cc pc = .ok (.putfield index, 3))
    (kk : ∀ (H1 : Heap) (locs1 : List Loc), Wd X H0 S1 H1 locs1 → W p l e R s m args below meth c H1 locs1 cells slots Q (F0 m (pc + 3) ls rest)) : W p l e R s m args below meth c H locs cells slots Q (F0 m pc ls (.int x :: .ref (X.1 + k) :: rest)) := by
  subst e1
  refine r_put5 hc hw ho 6 (by decide) (v := .int x) ?_ (fun a ha => FF_sI_ne ha) hw.2.2 hl rfl (bool_nar hz) (bool_fit hz) hdg kk
  simp [fl5, sI, rowI, rowJ, va_up, upd, vp_updL, pl, dr]
theorem r_get6 (hc : Cx p s m args meth c X cc nL own) (hw : Wd X H0 S H locs) {k index : Nat} (ho : KK k = 6) (j : Nat) (hj : j < 14) {v : Value} (hv : (fl6 X S k)[j]? = some v) (hl : Cond.fieldLink own index (TX6 j).1 (TX6 j).2.1 (TX6 j).2.2.1 ∈ TB) (hdg : decode cc pc = .ok (.getfield index, 3))
    (kk : W p l e R s m args below meth c H locs cells slots Q (F0 m (pc + 3) ls (v :: rest))) : W p l e R s m args below meth c H locs cells slots Q (F0 m pc ls (.ref (X.1 + k) :: rest)) := by
  obtain ⟨hx, hb, -, hown, hts, hK, -⟩ := hc
  have he : (wl X S)[k]? = some (X.1 + k, .inr (6, fl6 X S k)) := by rw [← FF_6 ho]; exact wlg_at (KK_lt ho (by decide))
  exact va_get (T := TX6) (N := 14) hx hb hts inX6 hown hK hw.1 k he rfl j hj (hts _ hl) (fun _ h => h) hv hdg kk
theorem r_put6 (hc : Cx p s m args meth c X cc nL own) (hw : Wd X H0 S H locs) {k index : Nat} (ho : KK k = 6) (j : Nat) (hj : j < 14) {v : Value} (hset : (fl6 X S k).set j v = fl6 X S1 k) (hoth : ∀ a, a ≠ k → FF X S1 a = FF X S a) (hp : KK (pl S1) = 4 ∧ KK (dr S1) = 4) (hl : Cond.fieldLink own index (TX6 j).1 (TX6 j).2.1 (TX6 j).2.2.1 ∈ TB) (hfin : (TX6 j).2.2.2 = false) (hn : narrow (tyX6 j) v = v) (hfit : fits (tyX6 j) v = true) (hdg : decode cc pc = .ok (.putfield index, 3))
    (kk : ∀ (H1 : Heap) (locs1 : List Loc), Wd X H0 S1 H1 locs1 → W p l e R s m args below meth c H1 locs1 cells slots Q (F0 m (pc + 3) ls rest)) : W p l e R s m args below meth c H locs cells slots Q (F0 m pc ls (v :: .ref (X.1 + k) :: rest)) := by
  obtain ⟨hx, hb, -, hown, hts, hK, -⟩ := hc
  have hk := KK_lt ho (by decide)
  have he : (wl X S)[k]? = some (X.1 + k, .inr (6, fl6 X S k)) := by rw [← FF_6 ho]; exact wlg_at hk
  refine va_put (T := TX6) (N := 14) hx hb hts inX6 tyX6 tyX6_ok nmX6 hown hK hw.1 wlg_D hw.2.1 k he rfl j hj (hts _ hl) (fun _ h => h) hfin (tyX6_ok j hj) hn hfit hj hdg (fun H1 locs1 hP _ hS => kk H1 locs1 ⟨?_, hS, hp⟩)
  have hE : (wl X S).set k (X.1 + k, .inr (6, (fl6 X S k).set j v)) = wl X S1 := wlg_set hk (by rw [hset]; exact FF_6 ho) hoth
  rw [hE] at hP
  exact hP
theorem r_put6_8 (hc : Cx p s m args meth c X cc nL own) (hw : Wd X H0 S H locs) {k index : Nat} (ho : KK k = 6) {x : Int32} (e1 : S1 = sI S k 8 x) (hl : Cond.fieldLink own index (TX6 8).1 (TX6 8).2.1 (TX6 8).2.2.1 ∈ TB) (hdg : decode cc pc = .ok (.putfield index, 3))
    (kk : ∀ (H1 : Heap) (locs1 : List Loc), Wd X H0 S1 H1 locs1 → W p l e R s m args below meth c H1 locs1 cells slots Q (F0 m (pc + 3) ls rest)) : W p l e R s m args below meth c H locs cells slots Q (F0 m pc ls (.int x :: .ref (X.1 + k) :: rest)) := by
  subst e1
  refine r_put6 hc hw ho 8 (by decide) (v := .int x) ?_ (fun a ha => FF_sI_ne ha) hw.2.2 hl rfl rfl rfl hdg kk
  simp [fl6, sI, rowI, rowJ, va_up, upd, vp_updL, pl, dr]
theorem r_put6_13 (hc : Cx p s m args meth c X cc nL own) (hw : Wd X H0 S H locs) {k index : Nat} (ho : KK k = 6) {x : Int64} (e1 : S1 = sJ S k 13 x) (hl : Cond.fieldLink own index (TX6 13).1 (TX6 13).2.1 (TX6 13).2.2.1 ∈ TB) (hdg : decode cc pc = .ok (.putfield index, 3))
    (kk : ∀ (H1 : Heap) (locs1 : List Loc), Wd X H0 S1 H1 locs1 → W p l e R s m args below meth c H1 locs1 cells slots Q (F0 m (pc + 3) ls rest)) : W p l e R s m args below meth c H locs cells slots Q (F0 m pc ls (.long x :: .ref (X.1 + k) :: rest)) := by
  subst e1
  refine r_put6 hc hw ho 13 (by decide) (v := .long x) ?_ (fun a ha => FF_sJ_ne ha) hw.2.2 hl rfl rfl rfl hdg kk
  simp [fl6, sJ, rowI, rowJ, va_up, upd, vp_updL, pl, dr]
theorem r_get7 (hc : Cx p s m args meth c X cc nL own) (hw : Wd X H0 S H locs) {k index : Nat} (ho : KK k = 7) (j : Nat) (hj : j < 31) {v : Value} (hv : (fl7 X S k)[j]? = some v) (hl : Cond.fieldLink own index (TX7 j).1 (TX7 j).2.1 (TX7 j).2.2.1 ∈ TB) (hdg : decode cc pc = .ok (.getfield index, 3))
    (kk : W p l e R s m args below meth c H locs cells slots Q (F0 m (pc + 3) ls (v :: rest))) : W p l e R s m args below meth c H locs cells slots Q (F0 m pc ls (.ref (X.1 + k) :: rest)) := by
  obtain ⟨hx, hb, -, hown, hts, hK, -⟩ := hc
  have he : (wl X S)[k]? = some (X.1 + k, .inr (7, fl7 X S k)) := by rw [← FF_7 ho]; exact wlg_at (KK_lt ho (by decide))
  exact va_get (T := TX7) (N := 31) hx hb hts inX7 hown hK hw.1 k he rfl j hj (hts _ hl) (fun _ h => h) hv hdg kk
theorem r_put7 (hc : Cx p s m args meth c X cc nL own) (hw : Wd X H0 S H locs) {k index : Nat} (ho : KK k = 7) (j : Nat) (hj : j < 31) {v : Value} (hset : (fl7 X S k).set j v = fl7 X S1 k) (hoth : ∀ a, a ≠ k → FF X S1 a = FF X S a) (hp : KK (pl S1) = 4 ∧ KK (dr S1) = 4) (hl : Cond.fieldLink own index (TX7 j).1 (TX7 j).2.1 (TX7 j).2.2.1 ∈ TB) (hfin : (TX7 j).2.2.2 = false) (hn : narrow (tyX7 j) v = v) (hfit : fits (tyX7 j) v = true) (hdg : decode cc pc = .ok (.putfield index, 3))
    (kk : ∀ (H1 : Heap) (locs1 : List Loc), Wd X H0 S1 H1 locs1 → W p l e R s m args below meth c H1 locs1 cells slots Q (F0 m (pc + 3) ls rest)) : W p l e R s m args below meth c H locs cells slots Q (F0 m pc ls (v :: .ref (X.1 + k) :: rest)) := by
  obtain ⟨hx, hb, -, hown, hts, hK, -⟩ := hc
  have hk := KK_lt ho (by decide)
  have he : (wl X S)[k]? = some (X.1 + k, .inr (7, fl7 X S k)) := by rw [← FF_7 ho]; exact wlg_at hk
  refine va_put (T := TX7) (N := 31) hx hb hts inX7 tyX7 tyX7_ok nmX7 hown hK hw.1 wlg_D hw.2.1 k he rfl j hj (hts _ hl) (fun _ h => h) hfin (tyX7_ok j hj) hn hfit hj hdg (fun H1 locs1 hP _ hS => kk H1 locs1 ⟨?_, hS, hp⟩)
  have hE : (wl X S).set k (X.1 + k, .inr (7, (fl7 X S k).set j v)) = wl X S1 := wlg_set hk (by rw [hset]; exact FF_7 ho) hoth
  rw [hE] at hP
  exact hP
theorem r_put7_0 (hc : Cx p s m args meth c X cc nL own) (hw : Wd X H0 S H locs) {k index : Nat} (ho : KK k = 7) {x : Int64} (e1 : S1 = sJ S k 0 x) (hl : Cond.fieldLink own index (TX7 0).1 (TX7 0).2.1 (TX7 0).2.2.1 ∈ TB) (hdg : decode cc pc = .ok (.putfield index, 3))
    (kk : ∀ (H1 : Heap) (locs1 : List Loc), Wd X H0 S1 H1 locs1 → W p l e R s m args below meth c H1 locs1 cells slots Q (F0 m (pc + 3) ls rest)) : W p l e R s m args below meth c H locs cells slots Q (F0 m pc ls (.long x :: .ref (X.1 + k) :: rest)) := by
  subst e1
  refine r_put7 hc hw ho 0 (by decide) (v := .long x) ?_ (fun a ha => FF_sJ_ne ha) hw.2.2 hl rfl rfl rfl hdg kk
  simp [fl7, sJ, rowI, rowJ, va_up, upd, vp_updL, pl, dr]
theorem r_put7_2 (hc : Cx p s m args meth c X cc nL own) (hw : Wd X H0 S H locs) {k index : Nat} (ho : KK k = 7) {x : Int32} (e1 : S1 = sI S k 2 x) (hl : Cond.fieldLink own index (TX7 2).1 (TX7 2).2.1 (TX7 2).2.2.1 ∈ TB) (hdg : decode cc pc = .ok (.putfield index, 3))
    (kk : ∀ (H1 : Heap) (locs1 : List Loc), Wd X H0 S1 H1 locs1 → W p l e R s m args below meth c H1 locs1 cells slots Q (F0 m (pc + 3) ls rest)) : W p l e R s m args below meth c H locs cells slots Q (F0 m pc ls (.int x :: .ref (X.1 + k) :: rest)) := by
  subst e1
  refine r_put7 hc hw ho 2 (by decide) (v := .int x) ?_ (fun a ha => FF_sI_ne ha) hw.2.2 hl rfl rfl rfl hdg kk
  simp [fl7, sI, rowI, rowJ, va_up, upd, vp_updL, pl, dr]
theorem r_put7_10 (hc : Cx p s m args meth c X cc nL own) (hw : Wd X H0 S H locs) {k index : Nat} (ho : KK k = 7) {x : Int32} (e1 : S1 = sI S k 10 x) (hz : x = 0 ∨ x = 1) (hl : Cond.fieldLink own index (TX7 10).1 (TX7 10).2.1 (TX7 10).2.2.1 ∈ TB) (hdg : decode cc pc = .ok (.putfield index, 3))
    (kk : ∀ (H1 : Heap) (locs1 : List Loc), Wd X H0 S1 H1 locs1 → W p l e R s m args below meth c H1 locs1 cells slots Q (F0 m (pc + 3) ls rest)) : W p l e R s m args below meth c H locs cells slots Q (F0 m pc ls (.int x :: .ref (X.1 + k) :: rest)) := by
  subst e1
  refine r_put7 hc hw ho 10 (by decide) (v := .int x) ?_ (fun a ha => FF_sI_ne ha) hw.2.2 hl rfl (bool_nar hz) (bool_fit hz) hdg kk
  simp [fl7, sI, rowI, rowJ, va_up, upd, vp_updL, pl, dr]
theorem r_put7_11 (hc : Cx p s m args meth c X cc nL own) (hw : Wd X H0 S H locs) {k index : Nat} (ho : KK k = 7) {x : Int32} (e1 : S1 = sI S k 11 x) (hl : Cond.fieldLink own index (TX7 11).1 (TX7 11).2.1 (TX7 11).2.2.1 ∈ TB) (hdg : decode cc pc = .ok (.putfield index, 3))
    (kk : ∀ (H1 : Heap) (locs1 : List Loc), Wd X H0 S1 H1 locs1 → W p l e R s m args below meth c H1 locs1 cells slots Q (F0 m (pc + 3) ls rest)) : W p l e R s m args below meth c H locs cells slots Q (F0 m pc ls (.int x :: .ref (X.1 + k) :: rest)) := by
  subst e1
  refine r_put7 hc hw ho 11 (by decide) (v := .int x) ?_ (fun a ha => FF_sI_ne ha) hw.2.2 hl rfl rfl rfl hdg kk
  simp [fl7, sI, rowI, rowJ, va_up, upd, vp_updL, pl, dr]
theorem r_put7_12 (hc : Cx p s m args meth c X cc nL own) (hw : Wd X H0 S H locs) {k index : Nat} (ho : KK k = 7) {x : Int32} (e1 : S1 = sI S k 12 x) (hl : Cond.fieldLink own index (TX7 12).1 (TX7 12).2.1 (TX7 12).2.2.1 ∈ TB) (hdg : decode cc pc = .ok (.putfield index, 3))
    (kk : ∀ (H1 : Heap) (locs1 : List Loc), Wd X H0 S1 H1 locs1 → W p l e R s m args below meth c H1 locs1 cells slots Q (F0 m (pc + 3) ls rest)) : W p l e R s m args below meth c H locs cells slots Q (F0 m pc ls (.int x :: .ref (X.1 + k) :: rest)) := by
  subst e1
  refine r_put7 hc hw ho 12 (by decide) (v := .int x) ?_ (fun a ha => FF_sI_ne ha) hw.2.2 hl rfl rfl rfl hdg kk
  simp [fl7, sI, rowI, rowJ, va_up, upd, vp_updL, pl, dr]
theorem r_put7_13 (hc : Cx p s m args meth c X cc nL own) (hw : Wd X H0 S H locs) {k index : Nat} (ho : KK k = 7) {x : Int32} (e1 : S1 = sI S k 13 x) (hl : Cond.fieldLink own index (TX7 13).1 (TX7 13).2.1 (TX7 13).2.2.1 ∈ TB) (hdg : decode cc pc = .ok (.putfield index, 3))
    (kk : ∀ (H1 : Heap) (locs1 : List Loc), Wd X H0 S1 H1 locs1 → W p l e R s m args below meth c H1 locs1 cells slots Q (F0 m (pc + 3) ls rest)) : W p l e R s m args below meth c H locs cells slots Q (F0 m pc ls (.int x :: .ref (X.1 + k) :: rest)) := by
  subst e1
  refine r_put7 hc hw ho 13 (by decide) (v := .int x) ?_ (fun a ha => FF_sI_ne ha) hw.2.2 hl rfl rfl rfl hdg kk
  simp [fl7, sI, rowI, rowJ, va_up, upd, vp_updL, pl, dr]
theorem r_put7_14 (hc : Cx p s m args meth c X cc nL own) (hw : Wd X H0 S H locs) {k index : Nat} (ho : KK k = 7) {x : Int32} (e1 : S1 = sI S k 14 x) (hl : Cond.fieldLink own index (TX7 14).1 (TX7 14).2.1 (TX7 14).2.2.1 ∈ TB) (hdg : decode cc pc = .ok (.putfield index, 3))
    (kk : ∀ (H1 : Heap) (locs1 : List Loc), Wd X H0 S1 H1 locs1 → W p l e R s m args below meth c H1 locs1 cells slots Q (F0 m (pc + 3) ls rest)) : W p l e R s m args below meth c H locs cells slots Q (F0 m pc ls (.int x :: .ref (X.1 + k) :: rest)) := by
  subst e1
  refine r_put7 hc hw ho 14 (by decide) (v := .int x) ?_ (fun a ha => FF_sI_ne ha) hw.2.2 hl rfl rfl rfl hdg kk
  simp [fl7, sI, rowI, rowJ, va_up, upd, vp_updL, pl, dr]
theorem r_put7_15 (hc : Cx p s m args meth c X cc nL own) (hw : Wd X H0 S H locs) {k index : Nat} (ho : KK k = 7) {x : Int32} (e1 : S1 = sI S k 15 x) (hl : Cond.fieldLink own index (TX7 15).1 (TX7 15).2.1 (TX7 15).2.2.1 ∈ TB) (hdg : decode cc pc = .ok (.putfield index, 3))
    (kk : ∀ (H1 : Heap) (locs1 : List Loc), Wd X H0 S1 H1 locs1 → W p l e R s m args below meth c H1 locs1 cells slots Q (F0 m (pc + 3) ls rest)) : W p l e R s m args below meth c H locs cells slots Q (F0 m pc ls (.int x :: .ref (X.1 + k) :: rest)) := by
  subst e1
  refine r_put7 hc hw ho 15 (by decide) (v := .int x) ?_ (fun a ha => FF_sI_ne ha) hw.2.2 hl rfl rfl rfl hdg kk
  simp [fl7, sI, rowI, rowJ, va_up, upd, vp_updL, pl, dr]
theorem r_put7_18 (hc : Cx p s m args meth c X cc nL own) (hw : Wd X H0 S H locs) {k index : Nat} (ho : KK k = 7) {x : Int32} (e1 : S1 = sI S k 18 x) (hl : Cond.fieldLink own index (TX7 18).1 (TX7 18).2.1 (TX7 18).2.2.1 ∈ TB) (hdg : decode cc pc = .ok (.putfield index, 3))
    (kk : ∀ (H1 : Heap) (locs1 : List Loc), Wd X H0 S1 H1 locs1 → W p l e R s m args below meth c H1 locs1 cells slots Q (F0 m (pc + 3) ls rest)) : W p l e R s m args below meth c H locs cells slots Q (F0 m pc ls (.int x :: .ref (X.1 + k) :: rest)) := by
  subst e1
  refine r_put7 hc hw ho 18 (by decide) (v := .int x) ?_ (fun a ha => FF_sI_ne ha) hw.2.2 hl rfl rfl rfl hdg kk
  simp [fl7, sI, rowI, rowJ, va_up, upd, vp_updL, pl, dr]
theorem r_put7_19 (hc : Cx p s m args meth c X cc nL own) (hw : Wd X H0 S H locs) {k index : Nat} (ho : KK k = 7) {x : Int32} (e1 : S1 = sI S k 19 x) (hl : Cond.fieldLink own index (TX7 19).1 (TX7 19).2.1 (TX7 19).2.2.1 ∈ TB) (hdg : decode cc pc = .ok (.putfield index, 3))
    (kk : ∀ (H1 : Heap) (locs1 : List Loc), Wd X H0 S1 H1 locs1 → W p l e R s m args below meth c H1 locs1 cells slots Q (F0 m (pc + 3) ls rest)) : W p l e R s m args below meth c H locs cells slots Q (F0 m pc ls (.int x :: .ref (X.1 + k) :: rest)) := by
  subst e1
  refine r_put7 hc hw ho 19 (by decide) (v := .int x) ?_ (fun a ha => FF_sI_ne ha) hw.2.2 hl rfl rfl rfl hdg kk
  simp [fl7, sI, rowI, rowJ, va_up, upd, vp_updL, pl, dr]
theorem r_put7_21 (hc : Cx p s m args meth c X cc nL own) (hw : Wd X H0 S H locs) {k index : Nat} (ho : KK k = 7) {x : Int64} (e1 : S1 = sJ S k 21 x) (hl : Cond.fieldLink own index (TX7 21).1 (TX7 21).2.1 (TX7 21).2.2.1 ∈ TB) (hdg : decode cc pc = .ok (.putfield index, 3))
    (kk : ∀ (H1 : Heap) (locs1 : List Loc), Wd X H0 S1 H1 locs1 → W p l e R s m args below meth c H1 locs1 cells slots Q (F0 m (pc + 3) ls rest)) : W p l e R s m args below meth c H locs cells slots Q (F0 m pc ls (.long x :: .ref (X.1 + k) :: rest)) := by
  subst e1
  refine r_put7 hc hw ho 21 (by decide) (v := .long x) ?_ (fun a ha => FF_sJ_ne ha) hw.2.2 hl rfl rfl rfl hdg kk
  simp [fl7, sJ, rowI, rowJ, va_up, upd, vp_updL, pl, dr]
theorem r_put7_22 (hc : Cx p s m args meth c X cc nL own) (hw : Wd X H0 S H locs) {k index : Nat} (ho : KK k = 7) {x : Int64} (e1 : S1 = sJ S k 22 x) (hl : Cond.fieldLink own index (TX7 22).1 (TX7 22).2.1 (TX7 22).2.2.1 ∈ TB) (hdg : decode cc pc = .ok (.putfield index, 3))
    (kk : ∀ (H1 : Heap) (locs1 : List Loc), Wd X H0 S1 H1 locs1 → W p l e R s m args below meth c H1 locs1 cells slots Q (F0 m (pc + 3) ls rest)) : W p l e R s m args below meth c H locs cells slots Q (F0 m pc ls (.long x :: .ref (X.1 + k) :: rest)) := by
  subst e1
  refine r_put7 hc hw ho 22 (by decide) (v := .long x) ?_ (fun a ha => FF_sJ_ne ha) hw.2.2 hl rfl rfl rfl hdg kk
  simp [fl7, sJ, rowI, rowJ, va_up, upd, vp_updL, pl, dr]
theorem r_put7_23 (hc : Cx p s m args meth c X cc nL own) (hw : Wd X H0 S H locs) {k index : Nat} (ho : KK k = 7) {x : Int64} (e1 : S1 = sJ S k 23 x) (hl : Cond.fieldLink own index (TX7 23).1 (TX7 23).2.1 (TX7 23).2.2.1 ∈ TB) (hdg : decode cc pc = .ok (.putfield index, 3))
    (kk : ∀ (H1 : Heap) (locs1 : List Loc), Wd X H0 S1 H1 locs1 → W p l e R s m args below meth c H1 locs1 cells slots Q (F0 m (pc + 3) ls rest)) : W p l e R s m args below meth c H locs cells slots Q (F0 m pc ls (.long x :: .ref (X.1 + k) :: rest)) := by
  subst e1
  refine r_put7 hc hw ho 23 (by decide) (v := .long x) ?_ (fun a ha => FF_sJ_ne ha) hw.2.2 hl rfl rfl rfl hdg kk
  simp [fl7, sJ, rowI, rowJ, va_up, upd, vp_updL, pl, dr]
theorem r_put7_24 (hc : Cx p s m args meth c X cc nL own) (hw : Wd X H0 S H locs) {k index : Nat} (ho : KK k = 7) {x : Int64} (e1 : S1 = sJ S k 24 x) (hl : Cond.fieldLink own index (TX7 24).1 (TX7 24).2.1 (TX7 24).2.2.1 ∈ TB) (hdg : decode cc pc = .ok (.putfield index, 3))
    (kk : ∀ (H1 : Heap) (locs1 : List Loc), Wd X H0 S1 H1 locs1 → W p l e R s m args below meth c H1 locs1 cells slots Q (F0 m (pc + 3) ls rest)) : W p l e R s m args below meth c H locs cells slots Q (F0 m pc ls (.long x :: .ref (X.1 + k) :: rest)) := by
  subst e1
  refine r_put7 hc hw ho 24 (by decide) (v := .long x) ?_ (fun a ha => FF_sJ_ne ha) hw.2.2 hl rfl rfl rfl hdg kk
  simp [fl7, sJ, rowI, rowJ, va_up, upd, vp_updL, pl, dr]
theorem r_put7_30 (hc : Cx p s m args meth c X cc nL own) (hw : Wd X H0 S H locs) {k index : Nat} (ho : KK k = 7) {x : Int32} (e1 : S1 = sI S k 30 x) (hl : Cond.fieldLink own index (TX7 30).1 (TX7 30).2.1 (TX7 30).2.2.1 ∈ TB) (hdg : decode cc pc = .ok (.putfield index, 3))
    (kk : ∀ (H1 : Heap) (locs1 : List Loc), Wd X H0 S1 H1 locs1 → W p l e R s m args below meth c H1 locs1 cells slots Q (F0 m (pc + 3) ls rest)) : W p l e R s m args below meth c H locs cells slots Q (F0 m pc ls (.int x :: .ref (X.1 + k) :: rest)) := by
  subst e1
  refine r_put7 hc hw ho 30 (by decide) (v := .int x) ?_ (fun a ha => FF_sI_ne ha) hw.2.2 hl rfl rfl rfl hdg kk
  simp [fl7, sI, rowI, rowJ, va_up, upd, vp_updL, pl, dr]
theorem r_put6_1 (hc : Cx p s m args meth c X cc nL own) (hw : Wd X H0 S H locs) {k index a : Nat} (ho : KK k = 6) (ha : KK a = 4) (e1 : S1 = sP S a) (hl : Cond.fieldLink own index (TX6 1).1 (TX6 1).2.1 (TX6 1).2.2.1 ∈ TB) (hdg : decode cc pc = .ok (.putfield index, 3))
    (kk : ∀ (H1 : Heap) (locs1 : List Loc), Wd X H0 S1 H1 locs1 → W p l e R s m args below meth c H1 locs1 cells slots Q (F0 m (pc + 3) ls rest)) : W p l e R s m args below meth c H locs cells slots Q (F0 m pc ls (.ref (X.1 + a) :: .ref (X.1 + k) :: rest)) := by
  subst e1
  have hk0 := KK_6 ho
  refine r_put6 (S1 := sP S a) hc hw ho 1 (by decide) (v := .ref (X.1 + a)) ?_ (fun q hq => FF_same rfl rfl (fun h => absurd ((KK_6 h).trans hk0.symm) hq)) ⟨ha, hw.2.2.2⟩ hl rfl rfl rfl hdg kk
  simp [fl6, sP, pl, dr]
theorem r_put6_2 (hc : Cx p s m args meth c X cc nL own) (hw : Wd X H0 S H locs) {k index a : Nat} (ho : KK k = 6) (ha : KK a = 4) (e1 : S1 = sD S a) (hl : Cond.fieldLink own index (TX6 2).1 (TX6 2).2.1 (TX6 2).2.2.1 ∈ TB) (hdg : decode cc pc = .ok (.putfield index, 3))
    (kk : ∀ (H1 : Heap) (locs1 : List Loc), Wd X H0 S1 H1 locs1 → W p l e R s m args below meth c H1 locs1 cells slots Q (F0 m (pc + 3) ls rest)) : W p l e R s m args below meth c H locs cells slots Q (F0 m pc ls (.ref (X.1 + a) :: .ref (X.1 + k) :: rest)) := by
  subst e1
  have hk0 := KK_6 ho
  refine r_put6 (S1 := sD S a) hc hw ho 2 (by decide) (v := .ref (X.1 + a)) ?_ (fun q hq => FF_same rfl rfl (fun h => absurd ((KK_6 h).trans hk0.symm) hq)) ⟨hw.2.2.1, ha⟩ hl rfl rfl rfl hdg kk
  simp [fl6, sD, pl, dr]
theorem r_iald (hc : Cx p s m args meth c X cc nL own) (hw : Wd X H0 S H locs) {k : Nat} (ho : KK k = 9) {i : Int32} (hi : inB i (LL k) = true) (hdg : decode cc pc = .ok (.iaload, 1))
    (kk : W p l e R s m args below meth c H locs cells slots Q (F0 m (pc + 1) ls (.int (gI S k i.toNatClampNeg) :: rest))) : W p l e R s m args below meth c H locs cells slots Q (F0 m pc ls (.int i :: .ref (X.1 + k) :: rest)) := by
  obtain ⟨hx, hb, -, hown, hts, hK, -⟩ := hc
  have he := wlg_at (b := X.1) (G := FF X S) (KK_lt ho (by decide))
  rw [FF_9 ho] at he
  exact va_iald hx hb hK hw.1 k 1 he rfl (inB_in hi) hdg kk
theorem r_bald (hc : Cx p s m args meth c X cc nL own) (hw : Wd X H0 S H locs) {k : Nat} (ho : KK k = 8) {i : Int32} (hi : inB i (LL k) = true) (hdg : decode cc pc = .ok (.baload, 1))
    (kk : W p l e R s m args below meth c H locs cells slots Q (F0 m (pc + 1) ls (.int (gI S k i.toNatClampNeg) :: rest))) : W p l e R s m args below meth c H locs cells slots Q (F0 m pc ls (.int i :: .ref (X.1 + k) :: rest)) := by
  obtain ⟨hx, hb, -, hown, hts, hK, -⟩ := hc
  have he := wlg_at (b := X.1) (G := FF X S) (KK_lt ho (by decide))
  rw [FF_8 ho] at he
  exact va_bald hx hb hK hw.1 k 0 he rfl (inB_in hi) hdg kk
theorem r_zald (hc : Cx p s m args meth c X cc nL own) (hw : Wd X H0 S H locs) {k : Nat} (ho : KK k = 11) {i : Int32} (hi : inB i (LL k) = true) (hdg : decode cc pc = .ok (.baload, 1))
    (kk : W p l e R s m args below meth c H locs cells slots Q (F0 m (pc + 1) ls (.int (gI S k i.toNatClampNeg) :: rest))) : W p l e R s m args below meth c H locs cells slots Q (F0 m pc ls (.int i :: .ref (X.1 + k) :: rest)) := by
  obtain ⟨hx, hb, -, hown, hts, hK, -⟩ := hc
  have he := wlg_at (b := X.1) (G := FF X S) (KK_lt ho (by decide))
  rw [FF_11 ho] at he
  exact va_zald hx hb hK hw.1 k 3 he rfl (inB_in hi) hdg kk
theorem r_lald (hc : Cx p s m args meth c X cc nL own) (hw : Wd X H0 S H locs) {k : Nat} (ho : KK k = 10) {i : Int32} (hi : inB i (LL k) = true) (hdg : decode cc pc = .ok (.laload, 1))
    (kk : W p l e R s m args below meth c H locs cells slots Q (F0 m (pc + 1) ls (.long (gJ S k i.toNatClampNeg) :: rest))) : W p l e R s m args below meth c H locs cells slots Q (F0 m pc ls (.int i :: .ref (X.1 + k) :: rest)) := by
  obtain ⟨hx, hb, -, hown, hts, hK, -⟩ := hc
  have he := wlg_at (b := X.1) (G := FF X S) (KK_lt ho (by decide))
  rw [FF_10 ho] at he
  exact va_lald hx hb hK hw.1 k 2 he rfl (inB_in hi) hdg kk
theorem r_iast (hc : Cx p s m args meth c X cc nL own) (hw : Wd X H0 S H locs) {k : Nat} (ho : KK k = 9) {i : Int32} {x : Int32} (hi : inB i (LL k) = true) (e1 : S1 = sI S k i.toNatClampNeg x) (hdg : decode cc pc = .ok (.iastore, 1))
    (kk : ∀ (H1 : Heap) (locs1 : List Loc), Wd X H0 S1 H1 locs1 → W p l e R s m args below meth c H1 locs1 cells slots Q (F0 m (pc + 1) ls rest)) : W p l e R s m args below meth c H locs cells slots Q (F0 m pc ls (.int x :: .int i :: .ref (X.1 + k) :: rest)) := by
  subst e1
  obtain ⟨hx, hb, -, hown, hts, hK, -⟩ := hc
  have hk := KK_lt ho (by decide)
  have he := wlg_at (b := X.1) (G := FF X S) hk
  rw [FF_9 ho] at he
  refine va_iast hx hb hK hw.1 wlg_D hw.2.1 k 1 he rfl (inB_in hi) hdg (fun H1 locs1 hP _ hS => kk H1 locs1 ⟨?_, hS, hw.2.2⟩)
  have hE := wlg_set (b := X.1) (G := FF X S) (G' := FF X (sI S k i.toNatClampNeg x)) hk (FF_9 ho) (fun a ha => FF_sI_ne ha)
  have hE2 : (sI S k i.toNatClampNeg x).1 k = upd (S.1 k) i.toNatClampNeg x := by simp [sI, rowI, rowJ, va_up]
  rw [hE2] at hE
  have hP2 : va_P X.2.1 vwCl ((wlg X.1 NN (FF X S)).set k _) H1 := hP
  rw [hE] at hP2
  exact hP2
theorem r_bast (hc : Cx p s m args meth c X cc nL own) (hw : Wd X H0 S H locs) {k : Nat} (ho : KK k = 8) {i : Int32} {x : Int32} (hi : inB i (LL k) = true) (e1 : S1 = sI S k i.toNatClampNeg (vp_nar .byte x)) (hdg : decode cc pc = .ok (.bastore, 1))
    (kk : ∀ (H1 : Heap) (locs1 : List Loc), Wd X H0 S1 H1 locs1 → W p l e R s m args below meth c H1 locs1 cells slots Q (F0 m (pc + 1) ls rest)) : W p l e R s m args below meth c H locs cells slots Q (F0 m pc ls (.int x :: .int i :: .ref (X.1 + k) :: rest)) := by
  subst e1
  obtain ⟨hx, hb, -, hown, hts, hK, -⟩ := hc
  have hk := KK_lt ho (by decide)
  have he := wlg_at (b := X.1) (G := FF X S) hk
  rw [FF_8 ho] at he
  refine va_bast hx hb hK hw.1 wlg_D hw.2.1 k 0 he rfl (inB_in hi) hdg (fun H1 locs1 hP _ hS => kk H1 locs1 ⟨?_, hS, hw.2.2⟩)
  have hE := wlg_set (b := X.1) (G := FF X S) (G' := FF X (sI S k i.toNatClampNeg (vp_nar .byte x))) hk (FF_8 ho) (fun a ha => FF_sI_ne ha)
  have hE2 : (sI S k i.toNatClampNeg (vp_nar .byte x)).1 k = upd (S.1 k) i.toNatClampNeg (vp_nar .byte x) := by simp [sI, rowI, rowJ, va_up]
  rw [hE2] at hE
  have hP2 : va_P X.2.1 vwCl ((wlg X.1 NN (FF X S)).set k _) H1 := hP
  rw [hE] at hP2
  exact hP2
theorem r_zast (hc : Cx p s m args meth c X cc nL own) (hw : Wd X H0 S H locs) {k : Nat} (ho : KK k = 11) {i : Int32} {x : Int32} (hi : inB i (LL k) = true) (e1 : S1 = sI S k i.toNatClampNeg (vp_nar .boolean x)) (hdg : decode cc pc = .ok (.bastore, 1))
    (kk : ∀ (H1 : Heap) (locs1 : List Loc), Wd X H0 S1 H1 locs1 → W p l e R s m args below meth c H1 locs1 cells slots Q (F0 m (pc + 1) ls rest)) : W p l e R s m args below meth c H locs cells slots Q (F0 m pc ls (.int x :: .int i :: .ref (X.1 + k) :: rest)) := by
  subst e1
  obtain ⟨hx, hb, -, hown, hts, hK, -⟩ := hc
  have hk := KK_lt ho (by decide)
  have he := wlg_at (b := X.1) (G := FF X S) hk
  rw [FF_11 ho] at he
  refine va_zast hx hb hK hw.1 wlg_D hw.2.1 k 3 he rfl (inB_in hi) hdg (fun H1 locs1 hP _ hS => kk H1 locs1 ⟨?_, hS, hw.2.2⟩)
  have hE := wlg_set (b := X.1) (G := FF X S) (G' := FF X (sI S k i.toNatClampNeg (vp_nar .boolean x))) hk (FF_11 ho) (fun a ha => FF_sI_ne ha)
  have hE2 : (sI S k i.toNatClampNeg (vp_nar .boolean x)).1 k = upd (S.1 k) i.toNatClampNeg (vp_nar .boolean x) := by simp [sI, rowI, rowJ, va_up]
  rw [hE2] at hE
  have hP2 : va_P X.2.1 vwCl ((wlg X.1 NN (FF X S)).set k _) H1 := hP
  rw [hE] at hP2
  exact hP2
theorem r_last (hc : Cx p s m args meth c X cc nL own) (hw : Wd X H0 S H locs) {k : Nat} (ho : KK k = 10) {i : Int32} {x : Int64} (hi : inB i (LL k) = true) (e1 : S1 = sJ S k i.toNatClampNeg x) (hdg : decode cc pc = .ok (.lastore, 1))
    (kk : ∀ (H1 : Heap) (locs1 : List Loc), Wd X H0 S1 H1 locs1 → W p l e R s m args below meth c H1 locs1 cells slots Q (F0 m (pc + 1) ls rest)) : W p l e R s m args below meth c H locs cells slots Q (F0 m pc ls (.long x :: .int i :: .ref (X.1 + k) :: rest)) := by
  subst e1
  obtain ⟨hx, hb, -, hown, hts, hK, -⟩ := hc
  have hk := KK_lt ho (by decide)
  have he := wlg_at (b := X.1) (G := FF X S) hk
  rw [FF_10 ho] at he
  refine va_last hx hb hK hw.1 wlg_D hw.2.1 k 2 he rfl (inB_in hi) hdg (fun H1 locs1 hP _ hS => kk H1 locs1 ⟨?_, hS, hw.2.2⟩)
  have hE := wlg_set (b := X.1) (G := FF X S) (G' := FF X (sJ S k i.toNatClampNeg x)) hk (FF_10 ho) (fun a ha => FF_sJ_ne ha)
  have hE2 : (sJ S k i.toNatClampNeg x).2.1 k = vp_updL (S.2.1 k) i.toNatClampNeg x := by simp [sJ, rowI, rowJ, va_up]
  rw [hE2] at hE
  have hP2 : va_P X.2.1 vwCl ((wlg X.1 NN (FF X S)).set k _) H1 := hP
  rw [hE] at hP2
  exact hP2
theorem r_aaldM (hc : Cx p s m args meth c X cc nL own) (hw : Wd X H0 S H locs) {k : Nat} (ho : KK k = 12) {i : Int32} (hi : inB i (LL k) = true) (hdg : decode cc pc = .ok (.aaload, 1))
    (kk : W p l e R s m args below meth c H locs cells slots Q (F0 m (pc + 1) ls (.ref (X.1 + (k + 1 + 4 * i.toNatClampNeg)) :: rest))) : W p l e R s m args below meth c H locs cells slots Q (F0 m pc ls (.int i :: .ref (X.1 + k) :: rest)) := by
  obtain ⟨hx, hb, -, hown, hts, hK, -⟩ := hc
  have he := wlg_at (b := X.1) (G := FF X S) (KK_lt ho (by decide))
  rw [FF_12 ho] at he
  exact va_aldq hx hb hK hw.1 k 4 he rfl (inB_in hi) hdg kk
theorem r_aaldP (hc : Cx p s m args meth c X cc nL own) (hw : Wd X H0 S H locs) {k : Nat} (ho : KK k = 13) {i : Int32} (hi : inB i (LL k) = true) (hdg : decode cc pc = .ok (.aaload, 1))
    (kk : W p l e R s m args below meth c H locs cells slots Q (F0 m (pc + 1) ls (.ref (X.1 + (k + 1 + 46 * i.toNatClampNeg)) :: rest))) : W p l e R s m args below meth c H locs cells slots Q (F0 m pc ls (.int i :: .ref (X.1 + k) :: rest)) := by
  obtain ⟨hx, hb, -, hown, hts, hK, -⟩ := hc
  have he := wlg_at (b := X.1) (G := FF X S) (KK_lt ho (by decide))
  rw [FF_13 ho] at he
  exact va_aldq hx hb hK hw.1 k 5 he rfl (inB_in hi) hdg kk
theorem r_copy (hc : Cx p s m args meth c X cc nL own) (hw : Wd X H0 S H locs) (hls : ls.size = nL) {index k0 k1 : Nat} (h0 : KK k0 = 9) (h1 : KK k1 = 9) {sp dp n : Int32} (hr : decide (¬ sp < 0 ∧ ¬ dp < 0 ∧ ¬ n < 0 ∧ sp.toNatClampNeg + n.toNatClampNeg ≤ LL k0 ∧ dp.toNatClampNeg + n.toNatClampNeg ≤ LL k1) = true) (e1 : S1 = cpI S k0 sp.toNatClampNeg k1 dp.toNatClampNeg n.toNatClampNeg)
    (q1 : Cond.methodLink own index arraycopyName ∈ TB) (hframes : 1 ≤ R.frames) (hlocals : (rest.map fun v => v.category).sum + (nativeFrameWords "java/lang/System" "arraycopy" 5 + 11) ≤ R.locals) (hdg : decode cc pc = .ok (.invokestatic index, 3))
    (kk : ∀ (H1 : Heap) (locs1 : List Loc), Wd X H0 S1 H1 locs1 → W p l e R s m args below meth c H1 locs1 cells slots Q (F0 m (pc + 3) ls rest)) : W p l e R s m args below meth c H locs cells slots Q (F0 m pc ls (.int n :: .int dp :: .ref (X.1 + k1) :: .int sp :: .ref (X.1 + k0) :: rest)) := by
  subst e1
  obtain ⟨hx, hb, hml, hown, hts, hK, -⟩ := hc
  obtain ⟨g1, g2, g3, g4, g5⟩ := of_decide_eq_true hr
  have hk := KK_lt h1 (by decide)
  have he0 := wlg_at (b := X.1) (G := FF X S) (KK_lt h0 (by decide))
  rw [FF_9 h0] at he0
  have he1 := wlg_at (b := X.1) (G := FF X S) hk
  rw [FF_9 h1] at he1
  refine va_copyi hx hb (hml.trans hls.symm) hown (hts _ q1) (hts _ q_native) (hts _ q_acs) (hts _ q_sysinit) hK hw.1 wlg_D hw.2.1 k0 k1 1 1 he0 he1 rfl rfl rfl g1 g2 g3 g4 g5 (fun i hi => rfl) hframes hlocals hdg (fun H1 locs1 hP _ hS => kk H1 locs1 ⟨?_, hS, hw.2.2⟩)
  have hE := wlg_set (b := X.1) (G := FF X S) (G' := FF X (cpI S k0 sp.toNatClampNeg k1 dp.toNatClampNeg n.toNatClampNeg)) hk (FF_9 h1) (fun a ha => FF_cp_ne ha)
  have hE2 : (cpI S k0 sp.toNatClampNeg k1 dp.toNatClampNeg n.toNatClampNeg).1 k1 = va_cpy (S.1 k0) (S.1 k1) sp.toNatClampNeg dp.toNatClampNeg n.toNatClampNeg := by simp [cpI, rowI, va_up]
  rw [hE2] at hE
  have hP2 : va_P X.2.1 vwCl ((wlg X.1 NN (FF X S)).set k1 _) H1 := hP
  rw [hE] at hP2
  exact hP2
theorem r_fin {rv : Option Value} {a : Array Value} {st0 : List Value} (hr : va_Run p l e R s m args below meth c H locs cells slots 0 0 (F0 m pc ls st0) rest (Qq X rv S1 a) (AA X.1)) (hw : Wd X H0 S H locs)
    (kk : ∀ (H1 : Heap) (locs1 : List Loc), Wd X H0 S1 H1 locs1 → W p l e R s m args below meth c H1 locs1 cells slots Q (F0 m (pc + 3) ls (rv.toList ++ rest))) : W p l e R s m args below meth c H locs cells slots Q (F0 m pc ls st0) := by
  intro T hT XX
  obtain ⟨v, st₀, t, T', L, h0, X', hL, e1, e2, ⟨hv, hP, hp, hd, hz, hk⟩, st⟩ := hr T hT XX
  cases hv
  have hS := hw.2.1
  rw [h0] at hz hk
  obtain ⟨t2, a1, b1⟩ := kk T'.heap (locs ++ L) ⟨by rw [e1]; exact hP, ⟨Nat.le_trans hS.1 (by rw [e1]; exact hz), fun q h1 h2 => by rw [e1, hk q (Nat.lt_of_lt_of_le h1 hS.1) h2]; exact hS.2.1 q h1 h2, fun q hq => by
      rcases List.mem_append.mp hq with h | h
      · exact hS.2.2 q h
      · exact hL q h⟩, hp, hd⟩ T' rfl X'
  exact ⟨t2, st t2 a1, b1⟩
theorem Pp_blind {av : List Value} : FrameBlind (Pp X av S) := fun a U g mk q => by
  obtain ⟨q0, qP, qK, qp⟩ := q
  exact ⟨q0, qP, va_K.moved (u := U) (U := U.calling g mk a) (Vm.Alike.refl U.vm) qK, qp⟩
theorem Pp_pre (hc : Cx p s m args meth c X cc nL own) (hw : Wd X H0 S H locs) {As : List Value} : ∀ U : State, U.heap = H → s.WarmedH U.vm → Pp X As S As.toArray U := fun U hU hW => by
  obtain ⟨-, -, -, -, -, hK, -⟩ := hc
  exact ⟨rfl, by rw [hU]; exact hw.1, va_K.moved hW.alike hK, hw.2.2⟩
theorem r_callS (hc : Cx p s m args meth c X cc nL own) (hw : Wd X H0 S H locs) (hls : ls.size = nL) {y : MethodName} {bytes : ByteArray} {maxL n index : Nat} {ret : Option FieldType} {rm : Room} {As st0 : List Value} {rv : Option Value} (hM : Ct l X y bytes maxL ret rm As S rv S1) (hs : MsS y bytes maxL ret n) (q1 : Cond.methodLink own index y ∈ TB) (hn : As.length = n) (hst : st0 = As.reverse ++ rest)
    (hR : rm.cells = 0 ∧ rm.slots = 0 ∧ rm.frames + 1 ≤ R.frames ∧ 8 + (maxL + 11) + rm.locals ≤ R.locals) (hro : (rest.map fun v => v.category).sum ≤ 8) (hf : cells ≤ R.cells ∧ slots ≤ R.slots) (hdg : decode cc pc = .ok (.invokestatic index, 3))
    (kk : ∀ (H1 : Heap) (locs1 : List Loc), Wd X H0 S1 H1 locs1 → W p l e R s m args below meth c H1 locs1 cells slots Q (F0 m (pc + 3) ls (rv.toList ++ rest))) : W p l e R s m args below meth c H locs cells slots Q (F0 m pc ls st0) := by
  have hc0 := hc
  obtain ⟨hx, hb, hml, hown, hts, hK, -⟩ := hc
  obtain ⟨⟨s1, s2, s3, s4, s5⟩, s6⟩ := hs
  exact r_fin (va_runS ⟨hx, hb, hml, hown, hts⟩ hM ⟨callB_of n hts (good_ws s1) rfl hR.1 hR.2.1 (hts _ s2) (hts _ q1) ⟨s3, s4, s5⟩ hR.2.2, hts _ s6⟩ ⟨Pp_blind, Pp_pre hc0 hw⟩ rfl hn hls hst (lv_room hro) hdg ⟨hf.1, hf.2⟩) hw kk
theorem r_callV (hc : Cx p s m args meth c X cc nL own) (hw : Wd X H0 S H locs) (hls : ls.size = nL) {y : MethodName} {bytes : ByteArray} {maxL n index k ci : Nat} {ret : Option FieldType} {rm : Room} {As st0 fs : List Value} {q : vw_C} {rv : Option Value} (hM : Ct l X y bytes maxL ret rm (.ref (X.1 + k) :: As) S rv S1) (hs : MsV y bytes maxL ret n) (hk : k < NN) (hF : FF X S k = .inr (ci, fs)) (hcl : vwCl[ci]? = some q) (hq : q.1 = y.cls) (q1 : Cond.methodLink own index y ∈ TB) (hn : As.length = n) (hst : st0 = As.reverse ++ .ref (X.1 + k) :: rest)
    (hR : rm.cells = 0 ∧ rm.slots = 0 ∧ rm.frames + 1 ≤ R.frames ∧ 8 + (maxL + 11) + rm.locals ≤ R.locals) (hro : (rest.map fun v => v.category).sum ≤ 8) (hf : cells ≤ R.cells ∧ slots ≤ R.slots) (hdg : decode cc pc = .ok (.invokevirtual index, 3))
    (kk : ∀ (H1 : Heap) (locs1 : List Loc), Wd X H0 S1 H1 locs1 → W p l e R s m args below meth c H1 locs1 cells slots Q (F0 m (pc + 3) ls (rv.toList ++ rest))) : W p l e R s m args below meth c H locs cells slots Q (F0 m pc ls st0) := by
  have hc0 := hc
  obtain ⟨hx, hb, hml, hown, hts, hK, -⟩ := hc
  obtain ⟨⟨s1, s2, s3, s4, s5⟩, s6, s7⟩ := hs
  have he := wlg_at (b := X.1) (G := FF X S) hk
  rw [hF] at he
  have hrv := va_recv hK hw.1 hcl he
  rw [hq] at hrv
  exact r_fin (va_runV (C := y.cls) ⟨hx, hb, hml, hown, hts⟩ hM ⟨callB_of n hts (good_ws s1) rfl hR.1 hR.2.1 (hts _ s2) (hts _ q1) ⟨s3, s4, s5⟩ hR.2.2, hts _ s6, hts _ s7⟩ ⟨Pp_blind, hrv, Pp_pre hc0 hw⟩ rfl hn hls hst (lv_room hro) hdg ⟨hf.1, hf.2⟩) hw kk
theorem r_callV0 (hc : Cx p s m args meth c X cc nL own) (hw : Wd X H0 S H locs) (hls : ls.size = nL) {y : MethodName} {bytes : ByteArray} {maxL n index k : Nat} {ret : Option FieldType} {rm : Room} {As st0 : List Value} {rv : Option Value} (ho : KK k = 0) (hM : Ct l X y bytes maxL ret rm (.ref (X.1 + k) :: As) S rv S1) (hs : MsV y bytes maxL ret n) (hq : RX0 = y.cls) (q1 : Cond.methodLink own index y ∈ TB) (hn : As.length = n) (hst : st0 = As.reverse ++ .ref (X.1 + k) :: rest)
    (hR : rm.cells = 0 ∧ rm.slots = 0 ∧ rm.frames + 1 ≤ R.frames ∧ 8 + (maxL + 11) + rm.locals ≤ R.locals) (hro : (rest.map fun v => v.category).sum ≤ 8) (hf : cells ≤ R.cells ∧ slots ≤ R.slots) (hdg : decode cc pc = .ok (.invokevirtual index, 3))
    (kk : ∀ (H1 : Heap) (locs1 : List Loc), Wd X H0 S1 H1 locs1 → W p l e R s m args below meth c H1 locs1 cells slots Q (F0 m (pc + 3) ls (rv.toList ++ rest))) : W p l e R s m args below meth c H locs cells slots Q (F0 m pc ls st0) := r_callV hc hw hls hM hs (KK_lt ho (by decide)) (FF_0 ho) rfl hq q1 hn hst hR hro hf hdg kk
theorem r_callV1 (hc : Cx p s m args meth c X cc nL own) (hw : Wd X H0 S H locs) (hls : ls.size = nL) {y : MethodName} {bytes : ByteArray} {maxL n index k : Nat} {ret : Option FieldType} {rm : Room} {As st0 : List Value} {rv : Option Value} (ho : KK k = 1) (hM : Ct l X y bytes maxL ret rm (.ref (X.1 + k) :: As) S rv S1) (hs : MsV y bytes maxL ret n) (hq : RX1 = y.cls) (q1 : Cond.methodLink own index y ∈ TB) (hn : As.length = n) (hst : st0 = As.reverse ++ .ref (X.1 + k) :: rest)
    (hR : rm.cells = 0 ∧ rm.slots = 0 ∧ rm.frames + 1 ≤ R.frames ∧ 8 + (maxL + 11) + rm.locals ≤ R.locals) (hro : (rest.map fun v => v.category).sum ≤ 8) (hf : cells ≤ R.cells ∧ slots ≤ R.slots) (hdg : decode cc pc = .ok (.invokevirtual index, 3))
    (kk : ∀ (H1 : Heap) (locs1 : List Loc), Wd X H0 S1 H1 locs1 → W p l e R s m args below meth c H1 locs1 cells slots Q (F0 m (pc + 3) ls (rv.toList ++ rest))) : W p l e R s m args below meth c H locs cells slots Q (F0 m pc ls st0) := r_callV hc hw hls hM hs (KK_lt ho (by decide)) (FF_1 ho) rfl hq q1 hn hst hR hro hf hdg kk
theorem r_callV2 (hc : Cx p s m args meth c X cc nL own) (hw : Wd X H0 S H locs) (hls : ls.size = nL) {y : MethodName} {bytes : ByteArray} {maxL n index k : Nat} {ret : Option FieldType} {rm : Room} {As st0 : List Value} {rv : Option Value} (ho : KK k = 2) (hM : Ct l X y bytes maxL ret rm (.ref (X.1 + k) :: As) S rv S1) (hs : MsV y bytes maxL ret n) (hq : RX2 = y.cls) (q1 : Cond.methodLink own index y ∈ TB) (hn : As.length = n) (hst : st0 = As.reverse ++ .ref (X.1 + k) :: rest)
    (hR : rm.cells = 0 ∧ rm.slots = 0 ∧ rm.frames + 1 ≤ R.frames ∧ 8 + (maxL + 11) + rm.locals ≤ R.locals) (hro : (rest.map fun v => v.category).sum ≤ 8) (hf : cells ≤ R.cells ∧ slots ≤ R.slots) (hdg : decode cc pc = .ok (.invokevirtual index, 3))
    (kk : ∀ (H1 : Heap) (locs1 : List Loc), Wd X H0 S1 H1 locs1 → W p l e R s m args below meth c H1 locs1 cells slots Q (F0 m (pc + 3) ls (rv.toList ++ rest))) : W p l e R s m args below meth c H locs cells slots Q (F0 m pc ls st0) := r_callV hc hw hls hM hs (KK_lt ho (by decide)) (FF_2 ho) rfl hq q1 hn hst hR hro hf hdg kk
theorem r_callV3 (hc : Cx p s m args meth c X cc nL own) (hw : Wd X H0 S H locs) (hls : ls.size = nL) {y : MethodName} {bytes : ByteArray} {maxL n index k : Nat} {ret : Option FieldType} {rm : Room} {As st0 : List Value} {rv : Option Value} (ho : KK k = 3) (hM : Ct l X y bytes maxL ret rm (.ref (X.1 + k) :: As) S rv S1) (hs : MsV y bytes maxL ret n) (hq : RX3 = y.cls) (q1 : Cond.methodLink own index y ∈ TB) (hn : As.length = n) (hst : st0 = As.reverse ++ .ref (X.1 + k) :: rest)
    (hR : rm.cells = 0 ∧ rm.slots = 0 ∧ rm.frames + 1 ≤ R.frames ∧ 8 + (maxL + 11) + rm.locals ≤ R.locals) (hro : (rest.map fun v => v.category).sum ≤ 8) (hf : cells ≤ R.cells ∧ slots ≤ R.slots) (hdg : decode cc pc = .ok (.invokevirtual index, 3))
    (kk : ∀ (H1 : Heap) (locs1 : List Loc), Wd X H0 S1 H1 locs1 → W p l e R s m args below meth c H1 locs1 cells slots Q (F0 m (pc + 3) ls (rv.toList ++ rest))) : W p l e R s m args below meth c H locs cells slots Q (F0 m pc ls st0) := r_callV hc hw hls hM hs (KK_lt ho (by decide)) (FF_3 ho) rfl hq q1 hn hst hR hro hf hdg kk
theorem r_callV4 (hc : Cx p s m args meth c X cc nL own) (hw : Wd X H0 S H locs) (hls : ls.size = nL) {y : MethodName} {bytes : ByteArray} {maxL n index k : Nat} {ret : Option FieldType} {rm : Room} {As st0 : List Value} {rv : Option Value} (ho : KK k = 4) (hM : Ct l X y bytes maxL ret rm (.ref (X.1 + k) :: As) S rv S1) (hs : MsV y bytes maxL ret n) (hq : RX4 = y.cls) (q1 : Cond.methodLink own index y ∈ TB) (hn : As.length = n) (hst : st0 = As.reverse ++ .ref (X.1 + k) :: rest)
    (hR : rm.cells = 0 ∧ rm.slots = 0 ∧ rm.frames + 1 ≤ R.frames ∧ 8 + (maxL + 11) + rm.locals ≤ R.locals) (hro : (rest.map fun v => v.category).sum ≤ 8) (hf : cells ≤ R.cells ∧ slots ≤ R.slots) (hdg : decode cc pc = .ok (.invokevirtual index, 3))
    (kk : ∀ (H1 : Heap) (locs1 : List Loc), Wd X H0 S1 H1 locs1 → W p l e R s m args below meth c H1 locs1 cells slots Q (F0 m (pc + 3) ls (rv.toList ++ rest))) : W p l e R s m args below meth c H locs cells slots Q (F0 m pc ls st0) := r_callV hc hw hls hM hs (KK_lt ho (by decide)) (FF_4 ho) rfl hq q1 hn hst hR hro hf hdg kk
theorem r_callV5 (hc : Cx p s m args meth c X cc nL own) (hw : Wd X H0 S H locs) (hls : ls.size = nL) {y : MethodName} {bytes : ByteArray} {maxL n index k : Nat} {ret : Option FieldType} {rm : Room} {As st0 : List Value} {rv : Option Value} (ho : KK k = 5) (hM : Ct l X y bytes maxL ret rm (.ref (X.1 + k) :: As) S rv S1) (hs : MsV y bytes maxL ret n) (hq : RX5 = y.cls) (q1 : Cond.methodLink own index y ∈ TB) (hn : As.length = n) (hst : st0 = As.reverse ++ .ref (X.1 + k) :: rest)
    (hR : rm.cells = 0 ∧ rm.slots = 0 ∧ rm.frames + 1 ≤ R.frames ∧ 8 + (maxL + 11) + rm.locals ≤ R.locals) (hro : (rest.map fun v => v.category).sum ≤ 8) (hf : cells ≤ R.cells ∧ slots ≤ R.slots) (hdg : decode cc pc = .ok (.invokevirtual index, 3))
    (kk : ∀ (H1 : Heap) (locs1 : List Loc), Wd X H0 S1 H1 locs1 → W p l e R s m args below meth c H1 locs1 cells slots Q (F0 m (pc + 3) ls (rv.toList ++ rest))) : W p l e R s m args below meth c H locs cells slots Q (F0 m pc ls st0) := r_callV hc hw hls hM hs (KK_lt ho (by decide)) (FF_5 ho) rfl hq q1 hn hst hR hro hf hdg kk
theorem r_callV6 (hc : Cx p s m args meth c X cc nL own) (hw : Wd X H0 S H locs) (hls : ls.size = nL) {y : MethodName} {bytes : ByteArray} {maxL n index k : Nat} {ret : Option FieldType} {rm : Room} {As st0 : List Value} {rv : Option Value} (ho : KK k = 6) (hM : Ct l X y bytes maxL ret rm (.ref (X.1 + k) :: As) S rv S1) (hs : MsV y bytes maxL ret n) (hq : RX6 = y.cls) (q1 : Cond.methodLink own index y ∈ TB) (hn : As.length = n) (hst : st0 = As.reverse ++ .ref (X.1 + k) :: rest)
    (hR : rm.cells = 0 ∧ rm.slots = 0 ∧ rm.frames + 1 ≤ R.frames ∧ 8 + (maxL + 11) + rm.locals ≤ R.locals) (hro : (rest.map fun v => v.category).sum ≤ 8) (hf : cells ≤ R.cells ∧ slots ≤ R.slots) (hdg : decode cc pc = .ok (.invokevirtual index, 3))
    (kk : ∀ (H1 : Heap) (locs1 : List Loc), Wd X H0 S1 H1 locs1 → W p l e R s m args below meth c H1 locs1 cells slots Q (F0 m (pc + 3) ls (rv.toList ++ rest))) : W p l e R s m args below meth c H locs cells slots Q (F0 m pc ls st0) := r_callV hc hw hls hM hs (KK_lt ho (by decide)) (FF_6 ho) rfl hq q1 hn hst hR hro hf hdg kk
theorem r_callV7 (hc : Cx p s m args meth c X cc nL own) (hw : Wd X H0 S H locs) (hls : ls.size = nL) {y : MethodName} {bytes : ByteArray} {maxL n index k : Nat} {ret : Option FieldType} {rm : Room} {As st0 : List Value} {rv : Option Value} (ho : KK k = 7) (hM : Ct l X y bytes maxL ret rm (.ref (X.1 + k) :: As) S rv S1) (hs : MsV y bytes maxL ret n) (hq : RX7 = y.cls) (q1 : Cond.methodLink own index y ∈ TB) (hn : As.length = n) (hst : st0 = As.reverse ++ .ref (X.1 + k) :: rest)
    (hR : rm.cells = 0 ∧ rm.slots = 0 ∧ rm.frames + 1 ≤ R.frames ∧ 8 + (maxL + 11) + rm.locals ≤ R.locals) (hro : (rest.map fun v => v.category).sum ≤ 8) (hf : cells ≤ R.cells ∧ slots ≤ R.slots) (hdg : decode cc pc = .ok (.invokevirtual index, 3))
    (kk : ∀ (H1 : Heap) (locs1 : List Loc), Wd X H0 S1 H1 locs1 → W p l e R s m args below meth c H1 locs1 cells slots Q (F0 m (pc + 3) ls (rv.toList ++ rest))) : W p l e R s m args below meth c H locs cells slots Q (F0 m pc ls st0) := r_callV hc hw hls hM hs (KK_lt ho (by decide)) (FF_7 ho) rfl hq q1 hn hst hR hro hf hdg kk
theorem r_iret {v : Int32} (hc : Cx p s m args meth c X cc nL own) (hr : meth.sig.returnType = some .int) (hw : Wd X s.heap S H locs) (hdg : decode cc pc = .ok (.ireturn, 1)) : W p l e R s m args below meth c H locs cells slots (MQ below (Qq X (some (.int v)) S) args s cells slots (AA X.1)) (F0 m pc ls [.int v]) := by
  obtain ⟨hx, hb, -, -, -, -, hlk⟩ := hc
  exact W.iret hx hb hr (fun t ht _ => ⟨rfl, by rw [ht]; exact hw.1, hw.2.2.1, hw.2.2.2, hw.2.1.F ht⟩) hw.2.1.2.2 hdg hlk
theorem r_zret {v : Int32} (hc : Cx p s m args meth c X cc nL own) (hr : meth.sig.returnType = some .boolean) (hz : v = 0 ∨ v = 1) (hw : Wd X s.heap S H locs) (hdg : decode cc pc = .ok (.ireturn, 1)) : W p l e R s m args below meth c H locs cells slots (MQ below (Qq X (some (.int v)) S) args s cells slots (AA X.1)) (F0 m pc ls [.int v]) := by
  obtain ⟨hx, hb, -, -, -, -, hlk⟩ := hc
  exact W.zret hx hb hr (bool_nar hz) (fun t ht _ => ⟨rfl, by rw [ht]; exact hw.1, hw.2.2.1, hw.2.2.2, hw.2.1.F ht⟩) hw.2.1.2.2 hdg hlk
theorem r_lret {v : Int64} (hc : Cx p s m args meth c X cc nL own) (hr : meth.sig.returnType = some .long) (hw : Wd X s.heap S H locs) (hdg : decode cc pc = .ok (.lreturn, 1)) : W p l e R s m args below meth c H locs cells slots (MQ below (Qq X (some (.long v)) S) args s cells slots (AA X.1)) (F0 m pc ls [.long v]) := by
  obtain ⟨hx, hb, -, -, -, -, hlk⟩ := hc
  exact W.lret hx hb hr (fun t ht _ => ⟨rfl, by rw [ht]; exact hw.1, hw.2.2.1, hw.2.2.2, hw.2.1.F ht⟩) hw.2.1.2.2 hdg hlk
theorem r_vret (hc : Cx p s m args meth c X cc nL own) (hr : meth.sig.returnType = none) (hw : Wd X s.heap S H locs) (hdg : decode cc pc = .ok (.return_, 1)) : W p l e R s m args below meth c H locs cells slots (MQ below (Qq X none S) args s cells slots (AA X.1)) (F0 m pc ls []) := by
  obtain ⟨hx, hb, -, -, -, -, hlk⟩ := hc
  exact W.vret hx hb hr (fun t ht _ => ⟨rfl, by rw [ht]; exact hw.1, hw.2.2.1, hw.2.2.2, hw.2.1.F ht⟩) hw.2.1.2.2 hdg hlk
end RW
theorem r_entry {l : Launch} {X : Wx} {y : MethodName} {cc : ByteArray} {nL : Nat} {ret : Option FieldType} {rm : Room} {av : List Value} {S : Mm} {rv : Option Value} {S' : Mm} (hy : plainName y.cls = true) (hlen : (lg_sl av).length ≤ nL)
    (body : ∀ (p : Program) (e : Env) (s : State) (m : MethodId) (args : Array Value) (below : List Frame) (meth : Method) (c : Code) (ls : Array Slot), Cx p s m args meth c X cc nL y.cls → meth.sig.returnType = ret → Wd X s.heap S s.heap [] → lv_has ls nL (lv_args 0 av) → W p l e rm s m args below meth c s.heap [] 0 0 (MQ below (Qq X rv S') args s 0 0 (AA X.1)) (F0 m 0 ls [])) : Ct l X y cc nL ret rm av S rv S' := by
  refine Met.ofW (cc := cc) (maxL := nL) (ret := ret) hy rfl ?_
  intro p e s m args below meth c s₁ B hml hv
  obtain ⟨rfl, hP, hK, hp⟩ := hv
  have hts0 := atoms_spec (ws := Cond.code y cc nL ret :: TB) B.pre
  have hts : ∀ w ∈ TB, w.before av.toArray s = true := fun w hw => hts0 w (List.mem_cons_of_mem _ hw)
  have hl := lv_entry av (n := nL) hlen
  rw [lg_entry_eq]
  exact body p e s m _ below meth c _ ⟨B.exec, B.bytes, hml, findClass_of_methodNamed B.named, hts, hK, B.notSynchronized⟩ B.returns ⟨hP, va_S.rf, hp⟩ hl
