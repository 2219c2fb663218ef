theorem k3 : KK 3 = 4 := by decide +kernel
theorem k9 : KK 9 = 4 := by decide +kernel
theorem k62 : KK 62 = 3 := by decide +kernel
theorem k108 : KK 108 = 3 := by decide +kernel
def Nk (U : State) : Prop := va_Nw (.methodLinkNest "NeedleHands" 11 yX5_init "NeedleHands") U ∧ va_Nw (.methodLinkNest "NeedleHands" 18 yX4_init "NeedleHands") U ∧ va_Nw (.methodLinkNest "NeedleHands$Past" 11 yX1_init "NeedleHands") U ∧ va_Nw (.methodLinkNest "NeedleHands" 50 yX2_init "NeedleHands") U ∧ va_Nw (.methodLinkNest "NeedleHands" 57 yX0_init "NeedleHands") U ∧ va_AO RX1 U ∧ va_AO RX3 U
theorem Nk.moved {s U : State} (hW : s.WarmedH U.vm) (h : Nk s) : Nk U := by
  obtain ⟨h0, h1, h2, h3, h4, a1, a2⟩ := h
  exact ⟨h0.warmM hW, h1.warmM hW, h2.warmM hW, h3.warmM hW, h4.warmM hW, a1.moved hW.alike, a2.moved hW.alike⟩
theorem Nk.same {u U : State} (e : u.vm = U.vm) (h : Nk u) : Nk U := by
  obtain ⟨h0, h1, h2, h3, h4, a1, a2⟩ := h
  exact ⟨va_Nw.same rfl e h0, va_Nw.same rfl e h1, va_Nw.same rfl e h2, va_Nw.same rfl e h3, va_Nw.same rfl e h4, a1.moved (by rw [e]; exact Vm.Alike.refl _), a2.moved (by rw [e]; exact Vm.Alike.refl _)⟩
section SZ
variable {p : Program} {l : Launch} {e : Env} {R : Room} {s : State} {m : MethodId} {args : Array Value} {below : List Frame} {meth : Method} {c : Code} {H : Heap} {locs : List Loc} {cells slots : Nat} {Q : State → Prop}
variable {cc : ByteArray} {pc : Nat} {ls : Array Slot} {rest : List Value} {D : va_G} {cl : List vw_C} {A : Nat → Prop} {a : Nat} {tys : List (ClassId × FieldType)} {ws : va_W} {H0 : Heap}
theorem z_put (hexec : p.tables.exec = Jvm.exec) (hb : c.code = cc) {own ref C : String} {T : u_T} {N ci index : Nat} {Ts : List Cond} (hts : ∀ w ∈ Ts, w.before args s = true) (hin : ∀ w ∈ u_ws C T N, w ∈ Ts) (ty0 : Nat → FieldType) (hty : ∀ k, k < N → parseFieldDescriptor (T k).2.2.1 = some (ty0 k)) (hnm : ∀ a, a < N → ∀ b, b < N → a ≠ b → (T a).2.1 ≠ (T b).2.1) (hown : s.vm.findClass own = some m.cls) (hK : va_K D cl tys s) (hP : va_P D cl ws H) (hD : va_D A ws) (hS0 : va_S A H0 H locs) (q0 : Nat) {fs : List Value} (he : ws[q0]? = some (a, .inr (ci, fs))) (hc : cl[ci]? = some (C, T, N)) (k : Nat) (hk : k < N) (hlink : (Cond.fieldLink own index ref (T k).2.1 (T k).2.2.1).before args s = true) (hsame : ∀ x, s.fieldFound? (T k).1 (T k).2.1 (T k).2.2.1 = some x → s.fieldFound? ref (T k).2.1 (T k).2.2.1 = some x) (hfin : (T k).2.2.2 = false) {ty : FieldType} {v : Value} (hd : parseFieldDescriptor (T k).2.2.1 = some ty) (hn : narrow ty v = v) (hfit : fits ty v = true) (hl : k < fs.length)
    (hdg : decode cc pc = .ok (.putfield index, 3)) (kk : ∀ (H1 : Heap) (locs1 : List Loc), H1.size = H.size → va_P D cl (ws.set q0 (a, .inr (ci, fs.set k v))) H1 → va_D A (ws.set q0 (a, .inr (ci, fs.set k v))) → va_S A H0 H1 locs1 → W p l e R s m args below meth c H1 locs1 cells slots Q (F0 m (pc + 3) ls rest)) : W p l e R s m args below meth c H locs cells slots Q (F0 m pc ls (v :: .ref a :: rest)) := by
  have hap := va_apart (own := own) hts hin ty0 hty hnm hK hc
  obtain ⟨r, h1, cell, q1, q2, q3, q4⟩ := hP q0 _ he
  have hr : r = (C, T, N) := Option.some.inj (h1.symm.trans hc)
  subst hr
  obtain ⟨hS, hfc, kC, hkC, hkind⟩ := hK.1 ci _ hc
  obtain ⟨cf, kf, fi, f, hi, hsl⟩ := hS k hk
  have hlay := hts _ (hin _ (u_in_lay hk))
  unfold u_lay at hlay
  rw [if_neg (by rw [hfin]; decide)] at hlay
  have hst := (u_facts hfc hkC (u_lays hts hin hk) hi).1
  have h6 := u_store hfc hkC hkind hlay hi hd hn hfit
  refine W.putK hexec hb (f := f) ⟨hown, hlink, ⟨_, _, _, hsame _ hi⟩, hst⟩ (by rw [q2]; exact h6) q1 q3 (by rw [hsl]; exact k2_hasslot (q4 k hk)) rfl rfl hdg fun H' e1 e2 e3 => ?_
  rw [hsl] at e1 ⊢
  exact kk H' _ e2 (hP.set hD he ⟨_, hc, t_OB.to (V := updV (vp_V fs) k v) ⟨_, e1, q2, q3, t_set q4 hap hk v⟩ (fun j _ => vp_updV_set hl v j)⟩ e3) (hD.set he) (hS0.put e2 e3 (hD.2 q0 _ he))
theorem z_putF (hexec : p.tables.exec = Jvm.exec) (hb : c.code = cc) {own ref C : String} {T : u_T} {N ci index : Nat} {Ts : List Cond} (hts : ∀ w ∈ Ts, w.before args s = true) (hin : ∀ w ∈ u_ws C T N, w ∈ Ts) (ty0 : Nat → FieldType) (hty : ∀ k, k < N → parseFieldDescriptor (T k).2.2.1 = some (ty0 k)) (hnm : ∀ a, a < N → ∀ b, b < N → a ≠ b → (T a).2.1 ≠ (T b).2.1) (hown : s.vm.findClass own = some m.cls) (hK : va_K D cl tys s) (hP : va_P D cl ws H) (hD : va_D A ws) (hS0 : va_S A H0 H locs) (q0 : Nat) {fs : List Value} (he : ws[q0]? = some (a, .inr (ci, fs))) (hc : cl[ci]? = some (C, T, N)) (k : Nat) (hk : k < N) (hlink : (Cond.fieldLink own index ref (T k).2.1 (T k).2.2.1).before args s = true) (hsame : ∀ x, s.fieldFound? (T k).1 (T k).2.1 (T k).2.2.1 = some x → s.fieldFound? ref (T k).2.1 (T k).2.2.1 = some x) (hfin : (T k).2.2.2 = true) (hin2 : meth.name = "<init>") (hdecl : (T k).1 = own) {ty : FieldType} {v : Value} (hd : parseFieldDescriptor (T k).2.2.1 = some ty) (hn : narrow ty v = v) (hfit : fits ty v = true) (hl : k < fs.length)
    (hdg : decode cc pc = .ok (.putfield index, 3)) (kk : ∀ (H1 : Heap) (locs1 : List Loc), H1.size = H.size → va_P D cl (ws.set q0 (a, .inr (ci, fs.set k v))) H1 → va_D A (ws.set q0 (a, .inr (ci, fs.set k v))) → va_S A H0 H1 locs1 → W p l e R s m args below meth c H1 locs1 cells slots Q (F0 m (pc + 3) ls rest)) : W p l e R s m args below meth c H locs cells slots Q (F0 m pc ls (v :: .ref a :: rest)) := by
  have hap := va_apart (own := own) hts hin ty0 hty hnm hK hc
  obtain ⟨r, h1, cell, q1, q2, q3, q4⟩ := hP q0 _ he
  have hr : r = (C, T, N) := Option.some.inj (h1.symm.trans hc)
  subst hr
  obtain ⟨hS, hfc, kC, hkC, hkind⟩ := hK.1 ci _ hc
  obtain ⟨cf, kf, fi, f, hi, hsl⟩ := hS k hk
  have hlay := hts _ (hin _ (u_in_lay hk))
  unfold u_lay at hlay
  rw [if_pos hfin] at hlay
  have hst := (u_facts hfc hkC (u_lays hts hin hk) hi).1
  have hcf : m.cls = cf := by
    obtain ⟨_, _, c', _, _, _, -, -, hf', -, -, -, hown2, -⟩ := Cond.laysFinal_spec hlay
    have e1 : c' = cf := by have := hi.symm.trans hf'; simp at this; exact this.1.symm
    rw [hdecl] at hown2
    rw [← e1]; exact Option.some.inj (hown.symm.trans hown2)
  have h6 := u_fits hfc hkC hkind (Or.inr hlay) hi hd hn hfit
  refine W.putFinK hexec hb hown hlink (hsame _ hi) hst hcf hin2 (by rw [q2]; exact h6) q1 q3 (by rw [hsl]; exact k2_hasslot (q4 k hk)) rfl rfl hdg fun H' e1 e2 e3 => ?_
  rw [hsl] at e1 ⊢
  exact kk H' _ e2 (hP.set hD he ⟨_, hc, t_OB.to (V := updV (vp_V fs) k v) ⟨_, e1, q2, q3, t_set q4 hap hk v⟩ (fun j _ => vp_updV_set hl v j)⟩ e3) (hD.set he) (hS0.put e2 e3 (hD.2 q0 _ he))
theorem z_astq (hexec : p.tables.exec = Jvm.exec) (hb : c.code = cc) (hK : va_K D cl tys s) (hP : va_P D cl ws H) (hD : va_D A ws) (hS : va_S A H0 H locs) (q0 t0 qk ci : Nat) {cA : ClassId} {r : vw_C} {n v : Nat} {vs : List Value} {f : Nat → Option Nat} (ha : ws[q0]? = some (a, .inl (cA, n, .inr (.inr (.inr (.inr f)))))) (ht : tys[t0]? = some (cA, .object r.1)) (hv : ws[qk]? = some (v, .inr (ci, vs))) (hc : cl[ci]? = some r) {i : Int32} (hin : vp_in i n) (hdg : decode cc pc = .ok (.aastore, 1))
    (kk : ∀ (H1 : Heap) (locs1 : List Loc), H1.size = H.size → va_P D cl (ws.set q0 (a, .inl (cA, n, .inr (.inr (.inr (.inr (va_up f i.toNatClampNeg (some v)))))))) H1 → va_D A (ws.set q0 (a, .inl (cA, n, .inr (.inr (.inr (.inr (va_up f i.toNatClampNeg (some v)))))))) → va_S A H0 H1 locs1 → W p l e R s m args below meth c H1 locs1 cells slots Q (F0 m (pc + 1) ls rest)) : W p l e R s m args below meth c H locs cells slots Q (F0 m pc ls (.ref v :: .int i :: .ref a :: rest)) := by
  have hlt : i.toNatClampNeg < n := Nat.not_le.mp fun q => hin (Or.inr q)
  have h0 : ¬ i < 0 := fun q => hin (Or.inl q)
  obtain ⟨r', hr', cellV, g1, g2, g3, -⟩ := hP qk _ hv
  have hcls := (hK.1 ci r hc).2
  obtain ⟨kA, comp, k1, k2, k3, -⟩ := (hK.2 t0 _ ht).2
  have hcomp : comp = D.1 ci := Option.some.inj (k3.symm.trans hcls.1)
  subst hcomp
  obtain ⟨kC, hkC, -⟩ := hcls.2
  refine W.aast hexec hb (hP q0 _ ha) (fun q h => by cases h) (fun h => by cases h) k1 k2 rfl hkC ⟨h0, by show _ < (arrV _ _ _).slots.size; rw [arrV_size]; exact hlt⟩ g1 (fun q h => by rw [g3] at h; cases h) (by rw [g2]; exact hkC) (by rw [g2]; exact va_assign hcls) rfl rfl hdg fun H1 e z oq => ?_
  refine kk H1 _ z (hP.set hD ha ?_ oq) (hD.set ha) (hS.put z oq (hD.2 q0 _ ha))
  show H1[a]? = some (vp_cell _ _)
  rw [e]
  rw [vp_cell_q, vp_cell_q, arrV_store]
  congr 2
  funext q
  by_cases hq : q = i.toNatClampNeg
  · subst hq
    simp [updV, va_up, va_rf]
  · simp [updV, va_up, hq]
end SZ
theorem arrV_cg {cA : ClassId} {n : Nat} {f g : Nat → Value} (h : ∀ j, j < n → f j = g j) : arrV cA n f = arrV cA n g := by
  unfold arrV
  congr 2
  funext j
  exact h j.val j.isLt
def S00 : Mm := (fun a j => if (a = 3 ∨ a = 9) ∧ j = 1 then 50 else if a = 157 ∧ j = 2 then -1 else 0, fun _ _ => 0, 3, 9)
def fin (X : Wx) (G : Nat → va_E) (k : Nat) : Nat → va_E := fun j => if j < k then G j else FF X S00 j
def Wi (X : Wx) (H0 : Heap) (n : Nat) (G : Nat → va_E) (H : Heap) (locs : List Loc) : Prop := H.size = X.1 + n ∧ va_P X.2.1 vwCl (wlg X.1 n G) H ∧ va_S (AA X.1) H0 H locs
def PpI (X : Wx) (av : List Value) (n : Nat) (G : Nat → va_E) : Array Value → State → Prop := va_Pc av (fun U => U.heap.size = X.1 + n ∧ va_P X.2.1 vwCl (wlg X.1 n G) U.heap ∧ va_K X.2.1 vwCl (tyl X) U ∧ Nk U)
def QqI (X : Wx) (n : Nat) (G : Nat → va_E) : Array Value → State → Outcome → State → Prop := fun _ st oc t => oc = .returned none ∧ t.heap.size = X.1 + n ∧ va_P X.2.1 vwCl (wlg X.1 n G) t.heap ∧ va_F (AA X.1) st t
def CtI (l : Launch) (X : Wx) (y : MethodName) (cc : ByteArray) (nL : Nat) (rm : Room) (k : Nat) (n : Nat) (G : Nat → va_E) (n' : Nat) (G' : Nat → va_E) (mc ms : Nat) : Prop := Met l y (Cond.code y cc nL none :: TB) rm (PpI X [.ref (X.1 + k)] n G) (QqI X n' G') mc ms (AA X.1)
def MsI (y : MethodName) (cc : ByteArray) (nL : Nat) : Prop := Ms y cc nL none 0 ∧ Cond.instanceMethod y ∈ TB ∧ y.name = "<init>"
theorem wlg_congr {b n : Nat} {G G' : Nat → va_E} (h : ∀ j, j < n → G j = G' j) : wlg b n G = wlg b n G' := by
  unfold wlg
  exact List.map_congr_left (fun k hk => by rw [h k (List.mem_range.mp hk)])
theorem wlg_push {b n : Nat} {G : Nat → va_E} {e : va_E} : wlg b n G ++ [(b + n, e)] = wlg b (n + 1) (va_up G n e) := by
  have h1 : wlg b (n + 1) (va_up G n e) = wlg b n (va_up G n e) ++ [(b + n, va_up G n e n)] := by unfold wlg; rw [List.range_succ, List.map_append]; rfl
  rw [h1, va_up_self, wlg_congr (G := va_up G n e) (G' := G) (fun j hj => va_up_ne _ _ (Nat.ne_of_lt hj))]
theorem Wi.to {X : Wx} {H0 H : Heap} {n : Nat} {G G' : Nat → va_E} {locs : List Loc} (h : Wi X H0 n G H locs) (e : ∀ j, j < n → G j = G' j) : Wi X H0 n G' H locs := ⟨h.1, by rw [← wlg_congr e]; exact h.2.1, h.2.2⟩
theorem fin_lt {X : Wx} {G : Nat → va_E} {k j : Nat} (h : j < k) : fin X G k j = G j := if_pos h
theorem fin_ge {X : Wx} {G : Nat → va_E} {k j : Nat} (h : k ≤ j) : fin X G k j = FF X S00 j := if_neg (Nat.not_lt.mpr h)
theorem up_fin {X : Wx} {G : Nat → va_E} {k j : Nat} {e : va_E} (h : k < j) : va_up (fin X G k) k e j = FF X S00 j := (va_up_ne _ _ (Nat.ne_of_gt h)).trans (fin_ge (Nat.le_of_lt h))
theorem S00_z {a j : Nat} (h1 : a ≠ 3) (h2 : a ≠ 9) (h3 : a ≠ 157) : S00.1 a j = 0 := by simp [S00, h1, h2, h3]
theorem S00_k {a c : Nat} (h : KK a = c) (h4 : c ≠ 4) (h2 : c ≠ 2) (j : Nat) : S00.1 a j = 0 := S00_z (fun q => by rw [q, show KK 3 = 4 from by decide +kernel] at h; exact h4 h.symm) (fun q => by rw [q, show KK 9 = 4 from by decide +kernel] at h; exact h4 h.symm) (fun q => by rw [q, k157] at h; exact h2 h.symm)
theorem FFz_8 {X : Wx} {a n : Nat} (h : KK a = 8) (hl : LL a = n) : FF X S00 a = .inl (X.2.2 8, n, .inl (fun _ => 0)) := by rw [FF_8 h, hl, show S00.1 a = fun _ => 0 from funext (S00_k h (by decide) (by decide))]
theorem FFz_9 {X : Wx} {a n : Nat} (h : KK a = 9) (hl : LL a = n) : FF X S00 a = .inl (X.2.2 9, n, .inl (fun _ => 0)) := by rw [FF_9 h, hl, show S00.1 a = fun _ => 0 from funext (S00_k h (by decide) (by decide))]
theorem FFz_11 {X : Wx} {a n : Nat} (h : KK a = 11) (hl : LL a = n) : FF X S00 a = .inl (X.2.2 11, n, .inl (fun _ => 0)) := by rw [FF_11 h, hl, show S00.1 a = fun _ => 0 from funext (S00_k h (by decide) (by decide))]
theorem FFz_10 {X : Wx} {a n : Nat} (h : KK a = 10) (hl : LL a = n) : FF X S00 a = .inl (X.2.2 10, n, .inr (.inl (fun _ => 0))) := by rw [FF_10 h, hl]; rfl
section IR
variable {p : Program} {l : Launch} {e : Env} {R : Room} {s : State} {m : MethodId} {args : Array Value} {below : List Frame} {meth : Method} {c : Code} {H : Heap} {locs : List Loc} {cells slots : Nat} {Q : State → Prop}
variable {cc : ByteArray} {pc : Nat} {ls : Array Slot} {rest : List Value} {X : Wx} {H0 : Heap} {n : Nat} {G : Nat → va_E} {nL : Nat} {own : String}
theorem i_new (hc : Cx p s m args meth c X cc nL own) (hw : Wi X H0 n G H locs) {C : String} {T : u_T} {N ci index : Nat} (hci : vwCl[ci]? = some (C, T, N)) (hin : ∀ w ∈ u_ws C T N, w ∈ TB) (ty : Nat → FieldType) (hty : ∀ k, k < N → parseFieldDescriptor (T k).2.2.1 = some (ty k)) (q1 : Cond.classLink own index C ∈ TB) (q2 : Cond.instantiable C N ∈ TB) (q3 : Cond.initialized C ∈ TB) {fs : List Value} (hfs : ∀ j, j < N → defaultValue (ty j) = vp_V fs j) (hcells : cells + 1 ≤ R.cells) (hslots : slots + N ≤ R.slots) (hdg : decode cc pc = .ok (.new index, 3))
    (kk : ∀ (H1 : Heap), Wi X H0 (n + 1) (va_up G n (.inr (ci, fs))) H1 locs → W p l e R s m args below meth c H1 locs (cells + 1) (slots + N) Q (F0 m (pc + 3) ls (.ref (X.1 + n) :: rest))) : W p l e R s m args below meth c H locs cells slots Q (F0 m pc ls rest) := by
  obtain ⟨hx, hb, -, hown, hts, hK, -⟩ := hc
  obtain ⟨hz, hP, hS⟩ := hw
  have hKn := hK.1 ci _ hci
  refine W.newcK hx hb hown (hts _ q1) (hts _ q2) (hts _ q3) rfl hdg hcells hslots hKn.2.1 hz fun H1 kC hkC e1 z1 o1 => kk H1 ⟨z1, ?_, ⟨Nat.le_trans hS.1 (by omega), fun x h1 h2 => (o1 x (by have := hS.1; omega)).trans (hS.2.1 x h1 h2), hS.2.2⟩⟩
  have hk : ∀ (k : Nat) (x : Nat × va_E), (wlg X.1 n G)[k]? = some x → H1[x.1]? = H[x.1]? := fun k x hx => o1 x.1 (by rw [← hz]; exact (hP k x hx).lt)
  rw [← wlg_push]
  refine (hP.kept hk).app (fun k x hx => ?_)
  have hz : k < 1 := (List.getElem?_eq_some_iff.mp hx).1
  rw [show k = 0 by omega] at hx
  cases hx
  exact ⟨_, hci, (u_born ty hts hin hKn hkC e1 hty).to hfs⟩
theorem i_arr9 (hc : Cx p s m args meth c X cc nL own) (hw : Wi X H0 n G H locs) {k : Int32} {N : Nat} (hG : G n = .inl (X.2.2 9, N, .inl (fun _ => 0))) (q1 : Cond.arrayClass .int ∈ TB) (hn : ¬ k < 0) (hN : k.toNatClampNeg = N) (hN2 : N ≤ 1000) (hcells : cells + 1 ≤ R.cells) (hslots : slots + N ≤ R.slots) (hdg : decode cc pc = .ok (.newarray .int, 2))
    (kk : ∀ (H1 : Heap), Wi X H0 (n + 1) G H1 locs → W p l e R s m args below meth c H1 locs (cells + 1) (slots + N) Q (F0 m (pc + 2) ls (.ref (X.1 + n) :: rest))) : W p l e R s m args below meth c H locs cells slots Q (F0 m pc ls (.int k :: rest)) := by
  obtain ⟨hx, hb, -, hown, hts, hK, -⟩ := hc
  obtain ⟨hz, hP, hS⟩ := hw
  refine va_newaK (atype := .int) hx hb (hts _ q1) rfl hdg rfl hn hN (by show N * componentBytes .int ≤ _; simp [componentBytes]; omega) hcells hslots hz fun H1 cA e1 z1 o1 hAr hNm => kk H1 ⟨z1, ?_, ⟨Nat.le_trans hS.1 (by omega), fun x h1 h2 => (o1 x (by have := hS.1; omega)).trans (hS.2.1 x h1 h2), hS.2.2⟩⟩
  have hk : ∀ (k : Nat) (x : Nat × va_E), (wlg X.1 n G)[k]? = some x → H1[x.1]? = H[x.1]? := fun k x hx => o1 x.1 (by rw [← hz]; exact (hP k x hx).lt)
  have hcA : cA = X.2.2 9 := Option.some.inj (hNm.symm.trans (hK.2 1 (X.2.2 9, .int) rfl).2)
  subst hcA
  rw [← wlg_congr (G := va_up G n (G n)) (G' := G) (fun j _ => by by_cases h : j = n <;> simp [va_up, h]), ← wlg_push]
  refine (hP.kept hk).app (fun k x hx => ?_)
  have hz : k < 1 := (List.getElem?_eq_some_iff.mp hx).1
  rw [show k = 0 by omega] at hx
  cases hx
  show va_at _ _ (X.1 + n, G n) H1
  rw [hG]
  exact e1
theorem i_arr10 (hc : Cx p s m args meth c X cc nL own) (hw : Wi X H0 n G H locs) {k : Int32} {N : Nat} (hG : G n = .inl (X.2.2 10, N, .inr (.inl (fun _ => 0)))) (q1 : Cond.arrayClass .long ∈ TB) (hn : ¬ k < 0) (hN : k.toNatClampNeg = N) (hN2 : N ≤ 1000) (hcells : cells + 1 ≤ R.cells) (hslots : slots + N ≤ R.slots) (hdg : decode cc pc = .ok (.newarray .long, 2))
    (kk : ∀ (H1 : Heap), Wi X H0 (n + 1) G H1 locs → W p l e R s m args below meth c H1 locs (cells + 1) (slots + N) Q (F0 m (pc + 2) ls (.ref (X.1 + n) :: rest))) : W p l e R s m args below meth c H locs cells slots Q (F0 m pc ls (.int k :: rest)) := by
  obtain ⟨hx, hb, -, hown, hts, hK, -⟩ := hc
  obtain ⟨hz, hP, hS⟩ := hw
  refine va_newaK (atype := .long) hx hb (hts _ q1) rfl hdg rfl hn hN (by show N * componentBytes .long ≤ _; simp [componentBytes]; omega) hcells hslots hz fun H1 cA e1 z1 o1 hAr hNm => kk H1 ⟨z1, ?_, ⟨Nat.le_trans hS.1 (by omega), fun x h1 h2 => (o1 x (by have := hS.1; omega)).trans (hS.2.1 x h1 h2), hS.2.2⟩⟩
  have hk : ∀ (k : Nat) (x : Nat × va_E), (wlg X.1 n G)[k]? = some x → H1[x.1]? = H[x.1]? := fun k x hx => o1 x.1 (by rw [← hz]; exact (hP k x hx).lt)
  have hcA : cA = X.2.2 10 := Option.some.inj (hNm.symm.trans (hK.2 2 (X.2.2 10, .long) rfl).2)
  subst hcA
  rw [← wlg_congr (G := va_up G n (G n)) (G' := G) (fun j _ => by by_cases h : j = n <;> simp [va_up, h]), ← wlg_push]
  refine (hP.kept hk).app (fun k x hx => ?_)
  have hz : k < 1 := (List.getElem?_eq_some_iff.mp hx).1
  rw [show k = 0 by omega] at hx
  cases hx
  show va_at _ _ (X.1 + n, G n) H1
  rw [hG]
  exact e1
theorem i_arr8 (hc : Cx p s m args meth c X cc nL own) (hw : Wi X H0 n G H locs) {k : Int32} {N : Nat} (hG : G n = .inl (X.2.2 8, N, .inl (fun _ => 0))) (q1 : Cond.arrayClass .byte ∈ TB) (hn : ¬ k < 0) (hN : k.toNatClampNeg = N) (hN2 : N ≤ 1000) (hcells : cells + 1 ≤ R.cells) (hslots : slots + N ≤ R.slots) (hdg : decode cc pc = .ok (.newarray .byte, 2))
    (kk : ∀ (H1 : Heap), Wi X H0 (n + 1) G H1 locs → W p l e R s m args below meth c H1 locs (cells + 1) (slots + N) Q (F0 m (pc + 2) ls (.ref (X.1 + n) :: rest))) : W p l e R s m args below meth c H locs cells slots Q (F0 m pc ls (.int k :: rest)) := by
  obtain ⟨hx, hb, -, hown, hts, hK, -⟩ := hc
  obtain ⟨hz, hP, hS⟩ := hw
  refine va_newaK (atype := .byte) hx hb (hts _ q1) rfl hdg rfl hn hN (by show N * componentBytes .byte ≤ _; simp [componentBytes]; omega) hcells hslots hz fun H1 cA e1 z1 o1 hAr hNm => kk H1 ⟨z1, ?_, ⟨Nat.le_trans hS.1 (by omega), fun x h1 h2 => (o1 x (by have := hS.1; omega)).trans (hS.2.1 x h1 h2), hS.2.2⟩⟩
  have hk : ∀ (k : Nat) (x : Nat × va_E), (wlg X.1 n G)[k]? = some x → H1[x.1]? = H[x.1]? := fun k x hx => o1 x.1 (by rw [← hz]; exact (hP k x hx).lt)
  have hcA : cA = X.2.2 8 := Option.some.inj (hNm.symm.trans (hK.2 0 (X.2.2 8, .byte) rfl).2)
  subst hcA
  rw [← wlg_congr (G := va_up G n (G n)) (G' := G) (fun j _ => by by_cases h : j = n <;> simp [va_up, h]), ← wlg_push]
  refine (hP.kept hk).app (fun k x hx => ?_)
  have hz : k < 1 := (List.getElem?_eq_some_iff.mp hx).1
  rw [show k = 0 by omega] at hx
  cases hx
  show va_at _ _ (X.1 + n, G n) H1
  rw [hG]
  exact e1
theorem i_arr11 (hc : Cx p s m args meth c X cc nL own) (hw : Wi X H0 n G H locs) {k : Int32} {N : Nat} (hG : G n = .inl (X.2.2 11, N, .inl (fun _ => 0))) (q1 : Cond.arrayClass .boolean ∈ TB) (hn : ¬ k < 0) (hN : k.toNatClampNeg = N) (hN2 : N ≤ 1000) (hcells : cells + 1 ≤ R.cells) (hslots : slots + N ≤ R.slots) (hdg : decode cc pc = .ok (.newarray .boolean, 2))
    (kk : ∀ (H1 : Heap), Wi X H0 (n + 1) G H1 locs → W p l e R s m args below meth c H1 locs (cells + 1) (slots + N) Q (F0 m (pc + 2) ls (.ref (X.1 + n) :: rest))) : W p l e R s m args below meth c H locs cells slots Q (F0 m pc ls (.int k :: rest)) := by
  obtain ⟨hx, hb, -, hown, hts, hK, -⟩ := hc
  obtain ⟨hz, hP, hS⟩ := hw
  refine va_newaK (atype := .boolean) hx hb (hts _ q1) rfl hdg rfl hn hN (by show N * componentBytes .boolean ≤ _; simp [componentBytes]; omega) hcells hslots hz fun H1 cA e1 z1 o1 hAr hNm => kk H1 ⟨z1, ?_, ⟨Nat.le_trans hS.1 (by omega), fun x h1 h2 => (o1 x (by have := hS.1; omega)).trans (hS.2.1 x h1 h2), hS.2.2⟩⟩
  have hk : ∀ (k : Nat) (x : Nat × va_E), (wlg X.1 n G)[k]? = some x → H1[x.1]? = H[x.1]? := fun k x hx => o1 x.1 (by rw [← hz]; exact (hP k x hx).lt)
  have hcA : cA = X.2.2 11 := Option.some.inj (hNm.symm.trans (hK.2 3 (X.2.2 11, .boolean) rfl).2)
  subst hcA
  rw [← wlg_congr (G := va_up G n (G n)) (G' := G) (fun j _ => by by_cases h : j = n <;> simp [va_up, h]), ← wlg_push]
  refine (hP.kept hk).app (fun k x hx => ?_)
  have hz : k < 1 := (List.getElem?_eq_some_iff.mp hx).1
  rw [show k = 0 by omega] at hx
  cases hx
  show va_at _ _ (X.1 + n, G n) H1
  rw [hG]
  exact e1
theorem i_anew12 (hc : Cx p s m args meth c X cc nL own) (hw : Wi X H0 n G H locs) {k : Int32} {N index : Nat} {f0 : Nat → Option Nat} (hf0 : ∀ j, j < N → f0 j = none) (hov : va_AO RX1 s) (q1 : Cond.classLink own index RX1 ∈ TB) (hn : ¬ k < 0) (hN : k.toNatClampNeg = N) (hN2 : N ≤ 1000) (hcells : cells + 1 ≤ R.cells) (hslots : slots + N ≤ R.slots) (hdg : decode cc pc = .ok (.anewarray index, 3))
    (kk : ∀ (H1 : Heap), Wi X H0 (n + 1) (va_up G n (.inl (X.2.2 12, N, .inr (.inr (.inr (.inr f0)))))) H1 locs → W p l e R s m args below meth c H1 locs (cells + 1) (slots + N) Q (F0 m (pc + 3) ls (.ref (X.1 + n) :: rest))) : W p l e R s m args below meth c H locs cells slots Q (F0 m pc ls (.int k :: rest)) := by
  obtain ⟨hx, hb, -, hown, hts, hK, -⟩ := hc
  obtain ⟨hz, hP, hS⟩ := hw
  subst hN
  refine W.anew hx hb hown (hts _ q1) (va_AO.use hov) rfl hdg rfl hn (by omega) hcells hslots fun cA kA comp f1 f2 f3 f4 => ?_
  rw [hz]
  generalize hH1 : H.push ({ cls := cA, slots := Array.replicate k.toNatClampNeg .null, vm := .none } : Cell) = H1
  have z1 : H1.size = X.1 + (n + 1) := by rw [← hH1, Array.size_push, hz]; omega
  have e1 : H1[X.1 + n]? = some (arrV cA k.toNatClampNeg (fun _ => .null)) := by rw [← hH1, ← hz, Array.getElem?_push_size, ← arrV_new]
  have o1 : ∀ q : Nat, q < X.1 + n → H1[q]? = H[q]? := fun q hq => by rw [← hH1, Array.getElem?_push, if_neg (by omega)]
  refine kk H1 ⟨z1, ?_, ⟨Nat.le_trans hS.1 (by omega), fun x h1 h2 => (o1 x (by have := hS.1; omega)).trans (hS.2.1 x h1 h2), hS.2.2⟩⟩
  have hk : ∀ (k : Nat) (x : Nat × va_E), (wlg X.1 n G)[k]? = some x → H1[x.1]? = H[x.1]? := fun k x hx => o1 x.1 (by rw [← hz]; exact (hP k x hx).lt)
  obtain ⟨kA2, comp2, g1, g2, g3, g4⟩ := (hK.2 4 (X.2.2 12, .object RX1) rfl).2
  have hcA : cA = X.2.2 12 := Option.some.inj (f1.symm.trans g4)
  subst hcA
  rw [← wlg_push]
  refine (hP.kept hk).app (fun k x hx => ?_)
  have hz : k < 1 := (List.getElem?_eq_some_iff.mp hx).1
  rw [show k = 0 by omega] at hx
  cases hx
  show H1[X.1 + n]? = some (vp_cell _ _)
  rw [vp_cell_q, e1]
  exact congrArg some (arrV_cg (fun j hj => by rw [hf0 j hj]; rfl))
theorem i_anew13 (hc : Cx p s m args meth c X cc nL own) (hw : Wi X H0 n G H locs) {k : Int32} {N index : Nat} {f0 : Nat → Option Nat} (hf0 : ∀ j, j < N → f0 j = none) (hov : va_AO RX3 s) (q1 : Cond.classLink own index RX3 ∈ TB) (hn : ¬ k < 0) (hN : k.toNatClampNeg = N) (hN2 : N ≤ 1000) (hcells : cells + 1 ≤ R.cells) (hslots : slots + N ≤ R.slots) (hdg : decode cc pc = .ok (.anewarray index, 3))
    (kk : ∀ (H1 : Heap), Wi X H0 (n + 1) (va_up G n (.inl (X.2.2 13, N, .inr (.inr (.inr (.inr f0)))))) H1 locs → W p l e R s m args below meth c H1 locs (cells + 1) (slots + N) Q (F0 m (pc + 3) ls (.ref (X.1 + n) :: rest))) : W p l e R s m args below meth c H locs cells slots Q (F0 m pc ls (.int k :: rest)) := by
  obtain ⟨hx, hb, -, hown, hts, hK, -⟩ := hc
  obtain ⟨hz, hP, hS⟩ := hw
  subst hN
  refine W.anew hx hb hown (hts _ q1) (va_AO.use hov) rfl hdg rfl hn (by omega) hcells hslots fun cA kA comp f1 f2 f3 f4 => ?_
  rw [hz]
  generalize hH1 : H.push ({ cls := cA, slots := Array.replicate k.toNatClampNeg .null, vm := .none } : Cell) = H1
  have z1 : H1.size = X.1 + (n + 1) := by rw [← hH1, Array.size_push, hz]; omega
  have e1 : H1[X.1 + n]? = some (arrV cA k.toNatClampNeg (fun _ => .null)) := by rw [← hH1, ← hz, Array.getElem?_push_size, ← arrV_new]
  have o1 : ∀ q : Nat, q < X.1 + n → H1[q]? = H[q]? := fun q hq => by rw [← hH1, Array.getElem?_push, if_neg (by omega)]
  refine kk H1 ⟨z1, ?_, ⟨Nat.le_trans hS.1 (by omega), fun x h1 h2 => (o1 x (by have := hS.1; omega)).trans (hS.2.1 x h1 h2), hS.2.2⟩⟩
  have hk : ∀ (k : Nat) (x : Nat × va_E), (wlg X.1 n G)[k]? = some x → H1[x.1]? = H[x.1]? := fun k x hx => o1 x.1 (by rw [← hz]; exact (hP k x hx).lt)
  obtain ⟨kA2, comp2, g1, g2, g3, g4⟩ := (hK.2 5 (X.2.2 13, .object RX3) rfl).2
  have hcA : cA = X.2.2 13 := Option.some.inj (f1.symm.trans g4)
  subst hcA
  rw [← wlg_push]
  refine (hP.kept hk).app (fun k x hx => ?_)
  have hz : k < 1 := (List.getElem?_eq_some_iff.mp hx).1
  rw [show k = 0 by omega] at hx
  cases hx
  show H1[X.1 + n]? = some (vp_cell _ _)
  rw [vp_cell_q, e1]
  exact congrArg some (arrV_cg (fun j hj => by rw [hf0 j hj]; rfl))
theorem i_putF0 (hc : Cx p s m args meth c X cc nL own) {B : Nat → va_E} {k index : Nat} {fs : List Value} (hw : Wi X H0 n (va_up B k (.inr (0, fs))) H locs) (hk : k < n) (j : Nat) (hj : j < 5) (hjl : j < fs.length) {v : Value} (hl : Cond.fieldLink own index (TX0 j).1 (TX0 j).2.1 (TX0 j).2.2.1 ∈ TB) (hfin : (TX0 j).2.2.2 = true) (hin : meth.name = "<init>") (hdecl : (TX0 j).1 = own) (hn : narrow (tyX0 j) v = v) (hfit : fits (tyX0 j) v = true) (hdg : decode cc pc = .ok (.putfield index, 3))
    (kk : ∀ (H1 : Heap) (locs1 : List Loc), Wi X H0 n (va_up B k (.inr (0, fs.set j v))) H1 locs1 → W p l e R s m args below meth c H1 locs1 cells slots Q (F0 m (pc + 3) ls rest)) : W p l e R s m args below meth c H locs cells slots Q (F0 m pc ls (v :: .ref (X.1 + k) :: rest)) := by
  obtain ⟨hx, hb, -, hown, hts, hK, -⟩ := hc
  obtain ⟨hz, hP, hS⟩ := hw
  have he := wlg_at (b := X.1) (G := va_up B k (.inr (0, fs))) hk
  rw [va_up_self] at he
  have hlt : X.1 + k < H.size := by rw [hz]; omega
  refine z_putF (T := TX0) (N := 5) hx hb hts inX0 tyX0 tyX0_ok nmX0 hown hK hP wlg_D hS k he rfl j hj (hts _ hl) (fun _ h => h) hfin hin hdecl (tyX0_ok j hj) hn hfit hjl hdg (fun H1 locs1 hz1 hP1 _ hS1 => kk H1 locs1 ⟨hz1.trans hz, ?_, hS1⟩)
  · rw [wlg_set (G := va_up B k (.inr (0, fs))) (G' := va_up B k (.inr (0, fs.set j v))) hk (va_up_self _ _ _) (fun a ha => by rw [va_up_ne _ _ ha, va_up_ne _ _ ha])] at hP1
    exact hP1
theorem i_putN0 (hc : Cx p s m args meth c X cc nL own) {B : Nat → va_E} {k index : Nat} {fs : List Value} (hw : Wi X H0 n (va_up B k (.inr (0, fs))) H locs) (hk : k < n) (j : Nat) (hj : j < 5) (hjl : j < fs.length) {v : Value} (hl : Cond.fieldLink own index (TX0 j).1 (TX0 j).2.1 (TX0 j).2.2.1 ∈ TB) (hfin : (TX0 j).2.2.2 = false) (hn : narrow (tyX0 j) v = v) (hfit : fits (tyX0 j) v = true) (hdg : decode cc pc = .ok (.putfield index, 3))
    (kk : ∀ (H1 : Heap) (locs1 : List Loc), Wi X H0 n (va_up B k (.inr (0, fs.set j v))) H1 locs1 → W p l e R s m args below meth c H1 locs1 cells slots Q (F0 m (pc + 3) ls rest)) : W p l e R s m args below meth c H locs cells slots Q (F0 m pc ls (v :: .ref (X.1 + k) :: rest)) := by
  obtain ⟨hx, hb, -, hown, hts, hK, -⟩ := hc
  obtain ⟨hz, hP, hS⟩ := hw
  have he := wlg_at (b := X.1) (G := va_up B k (.inr (0, fs))) hk
  rw [va_up_self] at he
  have hlt : X.1 + k < H.size := by rw [hz]; omega
  refine z_put (T := TX0) (N := 5) hx hb hts inX0 tyX0 tyX0_ok nmX0 hown hK hP wlg_D hS k he rfl j hj (hts _ hl) (fun _ h => h) hfin  (tyX0_ok j hj) hn hfit hjl hdg (fun H1 locs1 hz1 hP1 _ hS1 => kk H1 locs1 ⟨hz1.trans hz, ?_, hS1⟩)
  · rw [wlg_set (G := va_up B k (.inr (0, fs))) (G' := va_up B k (.inr (0, fs.set j v))) hk (va_up_self _ _ _) (fun a ha => by rw [va_up_ne _ _ ha, va_up_ne _ _ ha])] at hP1
    exact hP1
theorem i_putF1 (hc : Cx p s m args meth c X cc nL own) {B : Nat → va_E} {k index : Nat} {fs : List Value} (hw : Wi X H0 n (va_up B k (.inr (1, fs))) H locs) (hk : k < n) (j : Nat) (hj : j < 8) (hjl : j < fs.length) {v : Value} (hl : Cond.fieldLink own index (TX1 j).1 (TX1 j).2.1 (TX1 j).2.2.1 ∈ TB) (hfin : (TX1 j).2.2.2 = true) (hin : meth.name = "<init>") (hdecl : (TX1 j).1 = own) (hn : narrow (tyX1 j) v = v) (hfit : fits (tyX1 j) v = true) (hdg : decode cc pc = .ok (.putfield index, 3))
    (kk : ∀ (H1 : Heap) (locs1 : List Loc), Wi X H0 n (va_up B k (.inr (1, fs.set j v))) H1 locs1 → W p l e R s m args below meth c H1 locs1 cells slots Q (F0 m (pc + 3) ls rest)) : W p l e R s m args below meth c H locs cells slots Q (F0 m pc ls (v :: .ref (X.1 + k) :: rest)) := by
  obtain ⟨hx, hb, -, hown, hts, hK, -⟩ := hc
  obtain ⟨hz, hP, hS⟩ := hw
  have he := wlg_at (b := X.1) (G := va_up B k (.inr (1, fs))) hk
  rw [va_up_self] at he
  have hlt : X.1 + k < H.size := by rw [hz]; omega
  refine z_putF (T := TX1) (N := 8) hx hb hts inX1 tyX1 tyX1_ok nmX1 hown hK hP wlg_D hS k he rfl j hj (hts _ hl) (fun _ h => h) hfin hin hdecl (tyX1_ok j hj) hn hfit hjl hdg (fun H1 locs1 hz1 hP1 _ hS1 => kk H1 locs1 ⟨hz1.trans hz, ?_, hS1⟩)
  · rw [wlg_set (G := va_up B k (.inr (1, fs))) (G' := va_up B k (.inr (1, fs.set j v))) hk (va_up_self _ _ _) (fun a ha => by rw [va_up_ne _ _ ha, va_up_ne _ _ ha])] at hP1
    exact hP1
theorem i_putN1 (hc : Cx p s m args meth c X cc nL own) {B : Nat → va_E} {k index : Nat} {fs : List Value} (hw : Wi X H0 n (va_up B k (.inr (1, fs))) H locs) (hk : k < n) (j : Nat) (hj : j < 8) (hjl : j < fs.length) {v : Value} (hl : Cond.fieldLink own index (TX1 j).1 (TX1 j).2.1 (TX1 j).2.2.1 ∈ TB) (hfin : (TX1 j).2.2.2 = false) (hn : narrow (tyX1 j) v = v) (hfit : fits (tyX1 j) v = true) (hdg : decode cc pc = .ok (.putfield index, 3))
    (kk : ∀ (H1 : Heap) (locs1 : List Loc), Wi X H0 n (va_up B k (.inr (1, fs.set j v))) H1 locs1 → W p l e R s m args below meth c H1 locs1 cells slots Q (F0 m (pc + 3) ls rest)) : W p l e R s m args below meth c H locs cells slots Q (F0 m pc ls (v :: .ref (X.1 + k) :: rest)) := by
  obtain ⟨hx, hb, -, hown, hts, hK, -⟩ := hc
  obtain ⟨hz, hP, hS⟩ := hw
  have he := wlg_at (b := X.1) (G := va_up B k (.inr (1, fs))) hk
  rw [va_up_self] at he
  have hlt : X.1 + k < H.size := by rw [hz]; omega
  refine z_put (T := TX1) (N := 8) hx hb hts inX1 tyX1 tyX1_ok nmX1 hown hK hP wlg_D hS k he rfl j hj (hts _ hl) (fun _ h => h) hfin  (tyX1_ok j hj) hn hfit hjl hdg (fun H1 locs1 hz1 hP1 _ hS1 => kk H1 locs1 ⟨hz1.trans hz, ?_, hS1⟩)
  · rw [wlg_set (G := va_up B k (.inr (1, fs))) (G' := va_up B k (.inr (1, fs.set j v))) hk (va_up_self _ _ _) (fun a ha => by rw [va_up_ne _ _ ha, va_up_ne _ _ ha])] at hP1
    exact hP1
theorem i_putF2 (hc : Cx p s m args meth c X cc nL own) {B : Nat → va_E} {k index : Nat} {fs : List Value} (hw : Wi X H0 n (va_up B k (.inr (2, fs))) H locs) (hk : k < n) (j : Nat) (hj : j < 3) (hjl : j < fs.length) {v : Value} (hl : Cond.fieldLink own index (TX2 j).1 (TX2 j).2.1 (TX2 j).2.2.1 ∈ TB) (hfin : (TX2 j).2.2.2 = true) (hin : meth.name = "<init>") (hdecl : (TX2 j).1 = own) (hn : narrow (tyX2 j) v = v) (hfit : fits (tyX2 j) v = true) (hdg : decode cc pc = .ok (.putfield index, 3))
    (kk : ∀ (H1 : Heap) (locs1 : List Loc), Wi X H0 n (va_up B k (.inr (2, fs.set j v))) H1 locs1 → W p l e R s m args below meth c H1 locs1 cells slots Q (F0 m (pc + 3) ls rest)) : W p l e R s m args below meth c H locs cells slots Q (F0 m pc ls (v :: .ref (X.1 + k) :: rest)) := by
  obtain ⟨hx, hb, -, hown, hts, hK, -⟩ := hc
  obtain ⟨hz, hP, hS⟩ := hw
  have he := wlg_at (b := X.1) (G := va_up B k (.inr (2, fs))) hk
  rw [va_up_self] at he
  have hlt : X.1 + k < H.size := by rw [hz]; omega
  refine z_putF (T := TX2) (N := 3) hx hb hts inX2 tyX2 tyX2_ok nmX2 hown hK hP wlg_D hS k he rfl j hj (hts _ hl) (fun _ h => h) hfin hin hdecl (tyX2_ok j hj) hn hfit hjl hdg (fun H1 locs1 hz1 hP1 _ hS1 => kk H1 locs1 ⟨hz1.trans hz, ?_, hS1⟩)
  · rw [wlg_set (G := va_up B k (.inr (2, fs))) (G' := va_up B k (.inr (2, fs.set j v))) hk (va_up_self _ _ _) (fun a ha => by rw [va_up_ne _ _ ha, va_up_ne _ _ ha])] at hP1
    exact hP1
theorem i_putN2 (hc : Cx p s m args meth c X cc nL own) {B : Nat → va_E} {k index : Nat} {fs : List Value} (hw : Wi X H0 n (va_up B k (.inr (2, fs))) H locs) (hk : k < n) (j : Nat) (hj : j < 3) (hjl : j < fs.length) {v : Value} (hl : Cond.fieldLink own index (TX2 j).1 (TX2 j).2.1 (TX2 j).2.2.1 ∈ TB) (hfin : (TX2 j).2.2.2 = false) (hn : narrow (tyX2 j) v = v) (hfit : fits (tyX2 j) v = true) (hdg : decode cc pc = .ok (.putfield index, 3))
    (kk : ∀ (H1 : Heap) (locs1 : List Loc), Wi X H0 n (va_up B k (.inr (2, fs.set j v))) H1 locs1 → W p l e R s m args below meth c H1 locs1 cells slots Q (F0 m (pc + 3) ls rest)) : W p l e R s m args below meth c H locs cells slots Q (F0 m pc ls (v :: .ref (X.1 + k) :: rest)) := by
  obtain ⟨hx, hb, -, hown, hts, hK, -⟩ := hc
  obtain ⟨hz, hP, hS⟩ := hw
  have he := wlg_at (b := X.1) (G := va_up B k (.inr (2, fs))) hk
  rw [va_up_self] at he
  have hlt : X.1 + k < H.size := by rw [hz]; omega
  refine z_put (T := TX2) (N := 3) hx hb hts inX2 tyX2 tyX2_ok nmX2 hown hK hP wlg_D hS k he rfl j hj (hts _ hl) (fun _ h => h) hfin  (tyX2_ok j hj) hn hfit hjl hdg (fun H1 locs1 hz1 hP1 _ hS1 => kk H1 locs1 ⟨hz1.trans hz, ?_, hS1⟩)
  · rw [wlg_set (G := va_up B k (.inr (2, fs))) (G' := va_up B k (.inr (2, fs.set j v))) hk (va_up_self _ _ _) (fun a ha => by rw [va_up_ne _ _ ha, va_up_ne _ _ ha])] at hP1
    exact hP1
theorem i_putF3 (hc : Cx p s m args meth c X cc nL own) {B : Nat → va_E} {k index : Nat} {fs : List Value} (hw : Wi X H0 n (va_up B k (.inr (3, fs))) H locs) (hk : k < n) (j : Nat) (hj : j < 4) (hjl : j < fs.length) {v : Value} (hl : Cond.fieldLink own index (TX3 j).1 (TX3 j).2.1 (TX3 j).2.2.1 ∈ TB) (hfin : (TX3 j).2.2.2 = true) (hin : meth.name = "<init>") (hdecl : (TX3 j).1 = own) (hn : narrow (tyX3 j) v = v) (hfit : fits (tyX3 j) v = true) (hdg : decode cc pc = .ok (.putfield index, 3))
    (kk : ∀ (H1 : Heap) (locs1 : List Loc), Wi X H0 n (va_up B k (.inr (3, fs.set j v))) H1 locs1 → W p l e R s m args below meth c H1 locs1 cells slots Q (F0 m (pc + 3) ls rest)) : W p l e R s m args below meth c H locs cells slots Q (F0 m pc ls (v :: .ref (X.1 + k) :: rest)) := by
  obtain ⟨hx, hb, -, hown, hts, hK, -⟩ := hc
  obtain ⟨hz, hP, hS⟩ := hw
  have he := wlg_at (b := X.1) (G := va_up B k (.inr (3, fs))) hk
  rw [va_up_self] at he
  have hlt : X.1 + k < H.size := by rw [hz]; omega
  refine z_putF (T := TX3) (N := 4) hx hb hts inX3 tyX3 tyX3_ok nmX3 hown hK hP wlg_D hS k he rfl j hj (hts _ hl) (fun _ h => h) hfin hin hdecl (tyX3_ok j hj) hn hfit hjl hdg (fun H1 locs1 hz1 hP1 _ hS1 => kk H1 locs1 ⟨hz1.trans hz, ?_, hS1⟩)
  · rw [wlg_set (G := va_up B k (.inr (3, fs))) (G' := va_up B k (.inr (3, fs.set j v))) hk (va_up_self _ _ _) (fun a ha => by rw [va_up_ne _ _ ha, va_up_ne _ _ ha])] at hP1
    exact hP1
theorem i_putN3 (hc : Cx p s m args meth c X cc nL own) {B : Nat → va_E} {k index : Nat} {fs : List Value} (hw : Wi X H0 n (va_up B k (.inr (3, fs))) H locs) (hk : k < n) (j : Nat) (hj : j < 4) (hjl : j < fs.length) {v : Value} (hl : Cond.fieldLink own index (TX3 j).1 (TX3 j).2.1 (TX3 j).2.2.1 ∈ TB) (hfin : (TX3 j).2.2.2 = false) (hn : narrow (tyX3 j) v = v) (hfit : fits (tyX3 j) v = true) (hdg : decode cc pc = .ok (.putfield index, 3))
    (kk : ∀ (H1 : Heap) (locs1 : List Loc), Wi X H0 n (va_up B k (.inr (3, fs.set j v))) H1 locs1 → W p l e R s m args below meth c H1 locs1 cells slots Q (F0 m (pc + 3) ls rest)) : W p l e R s m args below meth c H locs cells slots Q (F0 m pc ls (v :: .ref (X.1 + k) :: rest)) := by
  obtain ⟨hx, hb, -, hown, hts, hK, -⟩ := hc
  obtain ⟨hz, hP, hS⟩ := hw
  have he := wlg_at (b := X.1) (G := va_up B k (.inr (3, fs))) hk
  rw [va_up_self] at he
  have hlt : X.1 + k < H.size := by rw [hz]; omega
  refine z_put (T := TX3) (N := 4) hx hb hts inX3 tyX3 tyX3_ok nmX3 hown hK hP wlg_D hS k he rfl j hj (hts _ hl) (fun _ h => h) hfin  (tyX3_ok j hj) hn hfit hjl hdg (fun H1 locs1 hz1 hP1 _ hS1 => kk H1 locs1 ⟨hz1.trans hz, ?_, hS1⟩)
  · rw [wlg_set (G := va_up B k (.inr (3, fs))) (G' := va_up B k (.inr (3, fs.set j v))) hk (va_up_self _ _ _) (fun a ha => by rw [va_up_ne _ _ ha, va_up_ne _ _ ha])] at hP1
    exact hP1
theorem i_putF4 (hc : Cx p s m args meth c X cc nL own) {B : Nat → va_E} {k index : Nat} {fs : List Value} (hw : Wi X H0 n (va_up B k (.inr (4, fs))) H locs) (hk : k < n) (j : Nat) (hj : j < 7) (hjl : j < fs.length) {v : Value} (hl : Cond.fieldLink own index (TX4 j).1 (TX4 j).2.1 (TX4 j).2.2.1 ∈ TB) (hfin : (TX4 j).2.2.2 = true) (hin : meth.name = "<init>") (hdecl : (TX4 j).1 = own) (hn : narrow (tyX4 j) v = v) (hfit : fits (tyX4 j) v = true) (hdg : decode cc pc = .ok (.putfield index, 3))
    (kk : ∀ (H1 : Heap) (locs1 : List Loc), Wi X H0 n (va_up B k (.inr (4, fs.set j v))) H1 locs1 → W p l e R s m args below meth c H1 locs1 cells slots Q (F0 m (pc + 3) ls rest)) : W p l e R s m args below meth c H locs cells slots Q (F0 m pc ls (v :: .ref (X.1 + k) :: rest)) := by
  obtain ⟨hx, hb, -, hown, hts, hK, -⟩ := hc
  obtain ⟨hz, hP, hS⟩ := hw
  have he := wlg_at (b := X.1) (G := va_up B k (.inr (4, fs))) hk
  rw [va_up_self] at he
  have hlt : X.1 + k < H.size := by rw [hz]; omega
  refine z_putF (T := TX4) (N := 7) hx hb hts inX4 tyX4 tyX4_ok nmX4 hown hK hP wlg_D hS k he rfl j hj (hts _ hl) (fun _ h => h) hfin hin hdecl (tyX4_ok j hj) hn hfit hjl hdg (fun H1 locs1 hz1 hP1 _ hS1 => kk H1 locs1 ⟨hz1.trans hz, ?_, hS1⟩)
  · rw [wlg_set (G := va_up B k (.inr (4, fs))) (G' := va_up B k (.inr (4, fs.set j v))) hk (va_up_self _ _ _) (fun a ha => by rw [va_up_ne _ _ ha, va_up_ne _ _ ha])] at hP1
    exact hP1
theorem i_putN4 (hc : Cx p s m args meth c X cc nL own) {B : Nat → va_E} {k index : Nat} {fs : List Value} (hw : Wi X H0 n (va_up B k (.inr (4, fs))) H locs) (hk : k < n) (j : Nat) (hj : j < 7) (hjl : j < fs.length) {v : Value} (hl : Cond.fieldLink own index (TX4 j).1 (TX4 j).2.1 (TX4 j).2.2.1 ∈ TB) (hfin : (TX4 j).2.2.2 = false) (hn : narrow (tyX4 j) v = v) (hfit : fits (tyX4 j) v = true) (hdg : decode cc pc = .ok (.putfield index, 3))
    (kk : ∀ (H1 : Heap) (locs1 : List Loc), Wi X H0 n (va_up B k (.inr (4, fs.set j v))) H1 locs1 → W p l e R s m args below meth c H1 locs1 cells slots Q (F0 m (pc + 3) ls rest)) : W p l e R s m args below meth c H locs cells slots Q (F0 m pc ls (v :: .ref (X.1 + k) :: rest)) := by
  obtain ⟨hx, hb, -, hown, hts, hK, -⟩ := hc
  obtain ⟨hz, hP, hS⟩ := hw
  have he := wlg_at (b := X.1) (G := va_up B k (.inr (4, fs))) hk
  rw [va_up_self] at he
  have hlt : X.1 + k < H.size := by rw [hz]; omega
  refine z_put (T := TX4) (N := 7) hx hb hts inX4 tyX4 tyX4_ok nmX4 hown hK hP wlg_D hS k he rfl j hj (hts _ hl) (fun _ h => h) hfin  (tyX4_ok j hj) hn hfit hjl hdg (fun H1 locs1 hz1 hP1 _ hS1 => kk H1 locs1 ⟨hz1.trans hz, ?_, hS1⟩)
  · rw [wlg_set (G := va_up B k (.inr (4, fs))) (G' := va_up B k (.inr (4, fs.set j v))) hk (va_up_self _ _ _) (fun a ha => by rw [va_up_ne _ _ ha, va_up_ne _ _ ha])] at hP1
    exact hP1
theorem i_putF5 (hc : Cx p s m args meth c X cc nL own) {B : Nat → va_E} {k index : Nat} {fs : List Value} (hw : Wi X H0 n (va_up B k (.inr (5, fs))) H locs) (hk : k < n) (j : Nat) (hj : j < 7) (hjl : j < fs.length) {v : Value} (hl : Cond.fieldLink own index (TX5 j).1 (TX5 j).2.1 (TX5 j).2.2.1 ∈ TB) (hfin : (TX5 j).2.2.2 = true) (hin : meth.name = "<init>") (hdecl : (TX5 j).1 = own) (hn : narrow (tyX5 j) v = v) (hfit : fits (tyX5 j) v = true) (hdg : decode cc pc = .ok (.putfield index, 3))
    (kk : ∀ (H1 : Heap) (locs1 : List Loc), Wi X H0 n (va_up B k (.inr (5, fs.set j v))) H1 locs1 → W p l e R s m args below meth c H1 locs1 cells slots Q (F0 m (pc + 3) ls rest)) : W p l e R s m args below meth c H locs cells slots Q (F0 m pc ls (v :: .ref (X.1 + k) :: rest)) := by
  obtain ⟨hx, hb, -, hown, hts, hK, -⟩ := hc
  obtain ⟨hz, hP, hS⟩ := hw
  have he := wlg_at (b := X.1) (G := va_up B k (.inr (5, fs))) hk
  rw [va_up_self] at he
  have hlt : X.1 + k < H.size := by rw [hz]; omega
  refine z_putF (T := TX5) (N := 7) hx hb hts inX5 tyX5 tyX5_ok nmX5 hown hK hP wlg_D hS k he rfl j hj (hts _ hl) (fun _ h => h) hfin hin hdecl (tyX5_ok j hj) hn hfit hjl hdg (fun H1 locs1 hz1 hP1 _ hS1 => kk H1 locs1 ⟨hz1.trans hz, ?_, hS1⟩)
  · rw [wlg_set (G := va_up B k (.inr (5, fs))) (G' := va_up B k (.inr (5, fs.set j v))) hk (va_up_self _ _ _) (fun a ha => by rw [va_up_ne _ _ ha, va_up_ne _ _ ha])] at hP1
    exact hP1
theorem i_putN5 (hc : Cx p s m args meth c X cc nL own) {B : Nat → va_E} {k index : Nat} {fs : List Value} (hw : Wi X H0 n (va_up B k (.inr (5, fs))) H locs) (hk : k < n) (j : Nat) (hj : j < 7) (hjl : j < fs.length) {v : Value} (hl : Cond.fieldLink own index (TX5 j).1 (TX5 j).2.1 (TX5 j).2.2.1 ∈ TB) (hfin : (TX5 j).2.2.2 = false) (hn : narrow (tyX5 j) v = v) (hfit : fits (tyX5 j) v = true) (hdg : decode cc pc = .ok (.putfield index, 3))
    (kk : ∀ (H1 : Heap) (locs1 : List Loc), Wi X H0 n (va_up B k (.inr (5, fs.set j v))) H1 locs1 → W p l e R s m args below meth c H1 locs1 cells slots Q (F0 m (pc + 3) ls rest)) : W p l e R s m args below meth c H locs cells slots Q (F0 m pc ls (v :: .ref (X.1 + k) :: rest)) := by
  obtain ⟨hx, hb, -, hown, hts, hK, -⟩ := hc
  obtain ⟨hz, hP, hS⟩ := hw
  have he := wlg_at (b := X.1) (G := va_up B k (.inr (5, fs))) hk
  rw [va_up_self] at he
  have hlt : X.1 + k < H.size := by rw [hz]; omega
  refine z_put (T := TX5) (N := 7) hx hb hts inX5 tyX5 tyX5_ok nmX5 hown hK hP wlg_D hS k he rfl j hj (hts _ hl) (fun _ h => h) hfin  (tyX5_ok j hj) hn hfit hjl hdg (fun H1 locs1 hz1 hP1 _ hS1 => kk H1 locs1 ⟨hz1.trans hz, ?_, hS1⟩)
  · rw [wlg_set (G := va_up B k (.inr (5, fs))) (G' := va_up B k (.inr (5, fs.set j v))) hk (va_up_self _ _ _) (fun a ha => by rw [va_up_ne _ _ ha, va_up_ne _ _ ha])] at hP1
    exact hP1
theorem i_putF6 (hc : Cx p s m args meth c X cc nL own) {B : Nat → va_E} {k index : Nat} {fs : List Value} (hw : Wi X H0 n (va_up B k (.inr (6, fs))) H locs) (hk : k < n) (j : Nat) (hj : j < 14) (hjl : j < fs.length) {v : Value} (hl : Cond.fieldLink own index (TX6 j).1 (TX6 j).2.1 (TX6 j).2.2.1 ∈ TB) (hfin : (TX6 j).2.2.2 = true) (hin : meth.name = "<init>") (hdecl : (TX6 j).1 = own) (hn : narrow (tyX6 j) v = v) (hfit : fits (tyX6 j) v = true) (hdg : decode cc pc = .ok (.putfield index, 3))
    (kk : ∀ (H1 : Heap) (locs1 : List Loc), Wi X H0 n (va_up B k (.inr (6, fs.set j v))) H1 locs1 → W p l e R s m args below meth c H1 locs1 cells slots Q (F0 m (pc + 3) ls rest)) : W p l e R s m args below meth c H locs cells slots Q (F0 m pc ls (v :: .ref (X.1 + k) :: rest)) := by
  obtain ⟨hx, hb, -, hown, hts, hK, -⟩ := hc
  obtain ⟨hz, hP, hS⟩ := hw
  have he := wlg_at (b := X.1) (G := va_up B k (.inr (6, fs))) hk
  rw [va_up_self] at he
  have hlt : X.1 + k < H.size := by rw [hz]; omega
  refine z_putF (T := TX6) (N := 14) hx hb hts inX6 tyX6 tyX6_ok nmX6 hown hK hP wlg_D hS k he rfl j hj (hts _ hl) (fun _ h => h) hfin hin hdecl (tyX6_ok j hj) hn hfit hjl hdg (fun H1 locs1 hz1 hP1 _ hS1 => kk H1 locs1 ⟨hz1.trans hz, ?_, hS1⟩)
  · rw [wlg_set (G := va_up B k (.inr (6, fs))) (G' := va_up B k (.inr (6, fs.set j v))) hk (va_up_self _ _ _) (fun a ha => by rw [va_up_ne _ _ ha, va_up_ne _ _ ha])] at hP1
    exact hP1
theorem i_putN6 (hc : Cx p s m args meth c X cc nL own) {B : Nat → va_E} {k index : Nat} {fs : List Value} (hw : Wi X H0 n (va_up B k (.inr (6, fs))) H locs) (hk : k < n) (j : Nat) (hj : j < 14) (hjl : j < fs.length) {v : Value} (hl : Cond.fieldLink own index (TX6 j).1 (TX6 j).2.1 (TX6 j).2.2.1 ∈ TB) (hfin : (TX6 j).2.2.2 = false) (hn : narrow (tyX6 j) v = v) (hfit : fits (tyX6 j) v = true) (hdg : decode cc pc = .ok (.putfield index, 3))
    (kk : ∀ (H1 : Heap) (locs1 : List Loc), Wi X H0 n (va_up B k (.inr (6, fs.set j v))) H1 locs1 → W p l e R s m args below meth c H1 locs1 cells slots Q (F0 m (pc + 3) ls rest)) : W p l e R s m args below meth c H locs cells slots Q (F0 m pc ls (v :: .ref (X.1 + k) :: rest)) := by
  obtain ⟨hx, hb, -, hown, hts, hK, -⟩ := hc
  obtain ⟨hz, hP, hS⟩ := hw
  have he := wlg_at (b := X.1) (G := va_up B k (.inr (6, fs))) hk
  rw [va_up_self] at he
  have hlt : X.1 + k < H.size := by rw [hz]; omega
  refine z_put (T := TX6) (N := 14) hx hb hts inX6 tyX6 tyX6_ok nmX6 hown hK hP wlg_D hS k he rfl j hj (hts _ hl) (fun _ h => h) hfin  (tyX6_ok j hj) hn hfit hjl hdg (fun H1 locs1 hz1 hP1 _ hS1 => kk H1 locs1 ⟨hz1.trans hz, ?_, hS1⟩)
  · rw [wlg_set (G := va_up B k (.inr (6, fs))) (G' := va_up B k (.inr (6, fs.set j v))) hk (va_up_self _ _ _) (fun a ha => by rw [va_up_ne _ _ ha, va_up_ne _ _ ha])] at hP1
    exact hP1
theorem i_putF7 (hc : Cx p s m args meth c X cc nL own) {B : Nat → va_E} {k index : Nat} {fs : List Value} (hw : Wi X H0 n (va_up B k (.inr (7, fs))) H locs) (hk : k < n) (j : Nat) (hj : j < 31) (hjl : j < fs.length) {v : Value} (hl : Cond.fieldLink own index (TX7 j).1 (TX7 j).2.1 (TX7 j).2.2.1 ∈ TB) (hfin : (TX7 j).2.2.2 = true) (hin : meth.name = "<init>") (hdecl : (TX7 j).1 = own) (hn : narrow (tyX7 j) v = v) (hfit : fits (tyX7 j) v = true) (hdg : decode cc pc = .ok (.putfield index, 3))
    (kk : ∀ (H1 : Heap) (locs1 : List Loc), Wi X H0 n (va_up B k (.inr (7, fs.set j v))) H1 locs1 → W p l e R s m args below meth c H1 locs1 cells slots Q (F0 m (pc + 3) ls rest)) : W p l e R s m args below meth c H locs cells slots Q (F0 m pc ls (v :: .ref (X.1 + k) :: rest)) := by
  obtain ⟨hx, hb, -, hown, hts, hK, -⟩ := hc
  obtain ⟨hz, hP, hS⟩ := hw
  have he := wlg_at (b := X.1) (G := va_up B k (.inr (7, fs))) hk
  rw [va_up_self] at he
  have hlt : X.1 + k < H.size := by rw [hz]; omega
  refine z_putF (T := TX7) (N := 31) hx hb hts inX7 tyX7 tyX7_ok nmX7 hown hK hP wlg_D hS k he rfl j hj (hts _ hl) (fun _ h => h) hfin hin hdecl (tyX7_ok j hj) hn hfit hjl hdg (fun H1 locs1 hz1 hP1 _ hS1 => kk H1 locs1 ⟨hz1.trans hz, ?_, hS1⟩)
  · rw [wlg_set (G := va_up B k (.inr (7, fs))) (G' := va_up B k (.inr (7, fs.set j v))) hk (va_up_self _ _ _) (fun a ha => by rw [va_up_ne _ _ ha, va_up_ne _ _ ha])] at hP1
    exact hP1
theorem i_putN7 (hc : Cx p s m args meth c X cc nL own) {B : Nat → va_E} {k index : Nat} {fs : List Value} (hw : Wi X H0 n (va_up B k (.inr (7, fs))) H locs) (hk : k < n) (j : Nat) (hj : j < 31) (hjl : j < fs.length) {v : Value} (hl : Cond.fieldLink own index (TX7 j).1 (TX7 j).2.1 (TX7 j).2.2.1 ∈ TB) (hfin : (TX7 j).2.2.2 = false) (hn : narrow (tyX7 j) v = v) (hfit : fits (tyX7 j) v = true) (hdg : decode cc pc = .ok (.putfield index, 3))
    (kk : ∀ (H1 : Heap) (locs1 : List Loc), Wi X H0 n (va_up B k (.inr (7, fs.set j v))) H1 locs1 → W p l e R s m args below meth c H1 locs1 cells slots Q (F0 m (pc + 3) ls rest)) : W p l e R s m args below meth c H locs cells slots Q (F0 m pc ls (v :: .ref (X.1 + k) :: rest)) := by
  obtain ⟨hx, hb, -, hown, hts, hK, -⟩ := hc
  obtain ⟨hz, hP, hS⟩ := hw
  have he := wlg_at (b := X.1) (G := va_up B k (.inr (7, fs))) hk
  rw [va_up_self] at he
  have hlt : X.1 + k < H.size := by rw [hz]; omega
  refine z_put (T := TX7) (N := 31) hx hb hts inX7 tyX7 tyX7_ok nmX7 hown hK hP wlg_D hS k he rfl j hj (hts _ hl) (fun _ h => h) hfin  (tyX7_ok j hj) hn hfit hjl hdg (fun H1 locs1 hz1 hP1 _ hS1 => kk H1 locs1 ⟨hz1.trans hz, ?_, hS1⟩)
  · rw [wlg_set (G := va_up B k (.inr (7, fs))) (G' := va_up B k (.inr (7, fs.set j v))) hk (va_up_self _ _ _) (fun a ha => by rw [va_up_ne _ _ ha, va_up_ne _ _ ha])] at hP1
    exact hP1
theorem i_aast12 (hc : Cx p s m args meth c X cc nL own) (hw : Wi X H0 n G H locs) {ka kv N : Nat} {f : Nat → Option Nat} {vs : List Value} {i : Int32} (ha : G ka = .inl (X.2.2 12, N, .inr (.inr (.inr (.inr f))))) (hka : ka < n) (hv : G kv = .inr (1, vs)) (hkv : kv < n) (hi : inB i N = true) (hdg : decode cc pc = .ok (.aastore, 1))
    (kk : ∀ (H1 : Heap) (locs1 : List Loc), Wi X H0 n (va_up G ka (.inl (X.2.2 12, N, .inr (.inr (.inr (.inr (va_up f i.toNatClampNeg (some (X.1 + kv))))))))) H1 locs1 → W p l e R s m args below meth c H1 locs1 cells slots Q (F0 m (pc + 1) ls rest)) : W p l e R s m args below meth c H locs cells slots Q (F0 m pc ls (.ref (X.1 + kv) :: .int i :: .ref (X.1 + ka) :: rest)) := by
  obtain ⟨hx, hb, -, hown, hts, hK, -⟩ := hc
  obtain ⟨hz, hP, hS⟩ := hw
  have he := wlg_at (b := X.1) (G := G) hka
  rw [ha] at he
  have hev := wlg_at (b := X.1) (G := G) hkv
  rw [hv] at hev
  refine z_astq (r := (RX1, TX1, 8)) hx hb hK hP wlg_D hS ka 4 kv 1 he rfl hev rfl (inB_in hi) hdg (fun H1 locs1 hz1 hP1 _ hS1 => kk H1 locs1 ⟨hz1.trans hz, ?_, hS1⟩)
  rw [wlg_set (G := G) (G' := va_up G ka (.inl (X.2.2 12, N, .inr (.inr (.inr (.inr (va_up f i.toNatClampNeg (some (X.1 + kv))))))))) hka (va_up_self _ _ _) (fun a ha => va_up_ne _ _ ha)] at hP1
  exact hP1
theorem i_aast13 (hc : Cx p s m args meth c X cc nL own) (hw : Wi X H0 n G H locs) {ka kv N : Nat} {f : Nat → Option Nat} {vs : List Value} {i : Int32} (ha : G ka = .inl (X.2.2 13, N, .inr (.inr (.inr (.inr f))))) (hka : ka < n) (hv : G kv = .inr (3, vs)) (hkv : kv < n) (hi : inB i N = true) (hdg : decode cc pc = .ok (.aastore, 1))
    (kk : ∀ (H1 : Heap) (locs1 : List Loc), Wi X H0 n (va_up G ka (.inl (X.2.2 13, N, .inr (.inr (.inr (.inr (va_up f i.toNatClampNeg (some (X.1 + kv))))))))) H1 locs1 → W p l e R s m args below meth c H1 locs1 cells slots Q (F0 m (pc + 1) ls rest)) : W p l e R s m args below meth c H locs cells slots Q (F0 m pc ls (.ref (X.1 + kv) :: .int i :: .ref (X.1 + ka) :: rest)) := by
  obtain ⟨hx, hb, -, hown, hts, hK, -⟩ := hc
  obtain ⟨hz, hP, hS⟩ := hw
  have he := wlg_at (b := X.1) (G := G) hka
  rw [ha] at he
  have hev := wlg_at (b := X.1) (G := G) hkv
  rw [hv] at hev
  refine z_astq (r := (RX3, TX3, 4)) hx hb hK hP wlg_D hS ka 5 kv 3 he rfl hev rfl (inB_in hi) hdg (fun H1 locs1 hz1 hP1 _ hS1 => kk H1 locs1 ⟨hz1.trans hz, ?_, hS1⟩)
  rw [wlg_set (G := G) (G' := va_up G ka (.inl (X.2.2 13, N, .inr (.inr (.inr (.inr (va_up f i.toNatClampNeg (some (X.1 + kv))))))))) hka (va_up_self _ _ _) (fun a ha => va_up_ne _ _ ha)] at hP1
  exact hP1
theorem i_fin {a : Array Value} {st0 : List Value} {n' mc ms : Nat} {G' : Nat → va_E} (hr : va_Run p l e R s m args below meth c H locs cells slots mc ms (F0 m pc ls st0) rest (QqI X n' G' a) (AA X.1)) (hw : Wi X H0 n G H locs)
    (kk : ∀ (H1 : Heap) (locs1 : List Loc), Wi X H0 n' G' H1 locs1 → W p l e R s m args below meth c H1 locs1 (cells + mc) (slots + ms) Q (F0 m (pc + 3) ls rest)) : W p l e R s m args below meth c H locs cells slots Q (F0 m pc ls st0) := by
  intro T hT XX
  obtain ⟨v, st₀, t, T', L, h0, X', hL, e1, e2, ⟨hv, hsz, hP, hz, hk⟩, st⟩ := hr T hT XX
  cases hv
  have hS := hw.2.2
  rw [h0] at hz hk
  obtain ⟨t2, a1, b1⟩ := kk T'.heap (locs ++ L) ⟨by rw [e1]; exact hsz, by rw [e1]; exact hP, ⟨Nat.le_trans hS.1 (by rw [e1]; exact hz), fun q h1 h2 => by rw [e1, hk q (Nat.lt_of_lt_of_le h1 hS.1) h2]; exact hS.2.1 q h1 h2, fun q hq => by
      rcases List.mem_append.mp hq with h | h
      · exact hS.2.2 q h
      · exact hL q h⟩⟩ T' rfl X'
  exact ⟨t2, st t2 a1, b1⟩
theorem PpI_blind {av : List Value} : FrameBlind (PpI X av n G) := fun a U g mk q => by
  obtain ⟨q0, qz, qP, qK, qN⟩ := q
  exact ⟨q0, qz, qP, va_K.moved (u := U) (U := U.calling g mk a) (Vm.Alike.refl U.vm) qK, Nk.same (u := U) (U := U.calling g mk a) rfl qN⟩
theorem PpI_pre (hc : Cx p s m args meth c X cc nL own) (hN : Nk s) (hw : Wi X H0 n G H locs) {As : List Value} : ∀ U : State, U.heap = H → s.WarmedH U.vm → PpI X As n G As.toArray U := fun U hU hW => by
  obtain ⟨-, -, -, -, -, hK, -⟩ := hc
  exact ⟨rfl, by rw [hU]; exact hw.1, by rw [hU]; exact hw.2.1, va_K.moved hW.alike hK, hN.moved hW⟩
theorem i_call (hc : Cx p s m args meth c X cc nL own) (hN : Nk s) (hw : Wi X H0 n G H locs) (hls : ls.size = nL) {y : MethodName} {bytes : ByteArray} {maxL index k n' mc ms : Nat} {G' : Nat → va_E} {rm : Room} (hM : CtI l X y bytes maxL rm k n G n' G' mc ms) (hs : MsI y bytes maxL) (q1 : Cond.methodLink own index y ∈ TB)
    (hR : rm.cells = mc ∧ rm.slots = ms ∧ rm.frames + 1 ≤ R.frames ∧ 8 + (maxL + 11) + rm.locals ≤ R.locals) (hro : (rest.map fun v => v.category).sum ≤ 8) (hf : cells + mc ≤ R.cells ∧ slots + ms ≤ R.slots) (hdg : decode cc pc = .ok (.invokespecial index, 3))
    (kk : ∀ (H1 : Heap) (locs1 : List Loc), Wi X H0 n' G' H1 locs1 → W p l e R s m args below meth c H1 locs1 (cells + mc) (slots + ms) Q (F0 m (pc + 3) ls rest)) : W p l e R s m args below meth c H locs cells slots Q (F0 m pc ls (.ref (X.1 + k) :: rest)) := by
  have hc0 := hc
  obtain ⟨hx, hb, hml, hown, hts, hK, -⟩ := hc
  obtain ⟨⟨s1, s2, s3, s4, s5⟩, s6, s7⟩ := hs
  exact i_fin (va_runI (As := []) ⟨hx, hb, hml, hown, hts⟩ hM ⟨callB_of 0 hts (good_ws s1) rfl hR.1 hR.2.1 (hts _ s2) (hts _ q1) ⟨s3, s4, s5⟩ hR.2.2, s7, hts _ s6⟩ ⟨PpI_blind, PpI_pre hc0 hN hw⟩ rfl rfl hls rfl (lv_room hro) hdg hf) hw kk
theorem i_callN (hc : Cx p s m args meth c X cc nL own) (hN : Nk s) (hw : Wi X H0 n G H locs) (hls : ls.size = nL) {y : MethodName} {host : String} {bytes : ByteArray} {maxL index k n' mc ms : Nat} {G' : Nat → va_E} {rm : Room} (hM : CtI l X y bytes maxL rm k n G n' G' mc ms) (hs : MsI y bytes maxL) (q1 : va_Nw (.methodLinkNest own index y host) s)
    (hR : rm.cells = mc ∧ rm.slots = ms ∧ rm.frames + 1 ≤ R.frames ∧ 8 + (maxL + 11) + rm.locals ≤ R.locals) (hro : (rest.map fun v => v.category).sum ≤ 8) (hf : cells + mc ≤ R.cells ∧ slots + ms ≤ R.slots) (hdg : decode cc pc = .ok (.invokespecial index, 3))
    (kk : ∀ (H1 : Heap) (locs1 : List Loc), Wi X H0 n' G' H1 locs1 → W p l e R s m args below meth c H1 locs1 (cells + mc) (slots + ms) Q (F0 m (pc + 3) ls rest)) : W p l e R s m args below meth c H locs cells slots Q (F0 m pc ls (.ref (X.1 + k) :: rest)) := by
  have hc0 := hc
  obtain ⟨hx, hb, hml, hown, hts, hK, -⟩ := hc
  obtain ⟨⟨s1, s2, s3, s4, s5⟩, s6, s7⟩ := hs
  exact i_fin (va_runIN (As := []) ⟨hx, hb, hml, hown, hts⟩ hM ⟨va_cnB 0 hts (good_ws s1) rfl hR.1 hR.2.1 q1 (hts _ s2) ⟨s3, s4, s5⟩ hR.2.2, s7, hts _ s6⟩ ⟨PpI_blind, PpI_pre hc0 hN hw⟩ rfl rfl hls rfl (lv_room hro) hdg hf) hw kk
theorem i_ret (hc : Cx p s m args meth c X cc nL own) (hr : meth.sig.returnType = none) (hw : Wi X s.heap n G H locs) (hdg : decode cc pc = .ok (.return_, 1)) : W p l e R s m args below meth c H locs cells slots (MQ below (QqI X n G) args s cells slots (AA X.1)) (F0 m pc ls []) := by
  obtain ⟨hx, hb, -, -, -, -, hlk⟩ := hc
  exact W.vret hx hb hr (fun t ht _ => ⟨rfl, by rw [ht]; exact hw.1, by rw [ht]; exact hw.2.1, hw.2.2.F ht⟩) hw.2.2.2.2 hdg hlk
theorem i_obj (hc : Cx p s m args meth c X cc nL own) (hls : ls.size = nL) {idx a : Nat} (q1 : Cond.methodLink own idx objectInit ∈ TB) (hro : (rest.map fun v => v.category).sum + 12 ≤ R.locals) (hf : 1 ≤ R.frames) (hdg : decode cc pc = .ok (.invokespecial idx, 3))
    (kk : W p l e R s m args below meth c H locs cells slots Q (F0 m (pc + 3) ls rest)) : W p l e R s m args below meth c H locs cells slots Q (F0 m pc ls (.ref a :: rest)) := by
  obtain ⟨hx, hb, hml, hown, hts, -, -⟩ := hc
  exact W.objInit hx hb hown (hts _ q1) (hts _ q1_18) (hts _ q1_19) rfl (hls.trans hml.symm) rfl hdg hf (by show 2 * 0 + _ + 12 ≤ _; omega) kk
end IR
theorem i_entry {l : Launch} {X : Wx} {y : MethodName} {cc : ByteArray} {nL : Nat} {rm : Room} {k n n' mc ms : Nat} {G G' : Nat → va_E} (hy : plainName y.cls = true) (hlen : 1 ≤ nL) (hinit : y.name = "<init>")
    (body : ∀ (p : Program) (e : Env) (s : State) (m : MethodId) (args : Array Value) (below : List Frame) (meth : Method) (c : Code) (ls : Array Slot), Cx p s m args meth c X cc nL y.cls → Nk s → meth.name = "<init>" → meth.sig.returnType = none → Wi X s.heap n G s.heap [] → lv_has ls nL [(0, .ref (X.1 + k))] → W p l e rm s m args below meth c s.heap [] 0 0 (MQ below (QqI X n' G') args s mc ms (AA X.1)) (F0 m 0 ls [])) : CtI l X y cc nL rm k n G n' G' mc ms := by
  refine Met.ofW (cc := cc) (maxL := nL) (ret := none) hy rfl ?_
  intro p e s m args below meth c s₁ B hml hv
  obtain ⟨rfl, hz, hP, hK, hN⟩ := hv
  have hts0 := atoms_spec (ws := Cond.code y cc nL none :: TB) B.pre
  have hts : ∀ w ∈ TB, w.before _ s = true := fun w hw => hts0 w (List.mem_cons_of_mem _ hw)
  have hl := lv_entry [.ref (X.1 + k)] (n := nL) hlen
  rw [lg_entry_eq]
  exact body p e s m _ below meth c _ ⟨B.exec, B.bytes, hml, findClass_of_methodNamed B.named, hts, hK, B.notSynchronized⟩ hN ((name_of_methodNamed B.named B.method).1.trans hinit) B.returns ⟨hz, hP, va_S.rf⟩ hl
theorem up_start {X : Wx} {G : Nat → va_E} {k : Nat} {e : va_E} : ∀ j, j < k + 1 → va_up G k e j = va_up (fin X G k) k e j := fun j hj => by
  by_cases h : j = k
  · subst h; rw [va_up_self, va_up_self]
  · rw [va_up_ne _ _ h, va_up_ne _ _ h, fin_lt (by omega)]
theorem up_done {X : Wx} {G : Nat → va_E} {k : Nat} {e : va_E} (h : FF X S00 k = e) : ∀ j, va_up (fin X G k) k e j = fin X G k j := fun j => by
  by_cases hj : j = k
  · subst hj; rw [va_up_self, fin_ge (Nat.le_refl _), h]
  · rw [va_up_ne _ _ hj]
theorem fin_back {X : Wx} {G : Nat → va_E} {n : Nat} (h : ∀ j, n ≤ j → G j = FF X S00 j) : ∀ j, fin X G n j = G j := fun j => by
  by_cases hj : j < n
  · exact fin_lt hj
  · rw [fin_ge (Nat.not_lt.mp hj), h j (Nat.not_lt.mp hj)]
theorem KK_is4 {k : Nat} (h : KK k = 4) : k = 3 ∨ k = 9 := by simpa using KK_all (P := fun k c => decide (c = 4 → k = 3 ∨ k = 9)) (by decide +kernel) h (by decide)
theorem KK_is2 {k : Nat} (h : KK k = 2) : k = 157 := by simpa using KK_all (P := fun k c => decide (c = 2 → k = 157)) (by decide +kernel) h (by decide)
theorem kf_5_bytes {k : Nat} (h : KK k = 5) : KK (k + 1) = 9 := by simpa using KK_all (P := fun k c => decide (c = 5 → KK (k + 1) = 9)) (by decide +kernel) h (by decide)
theorem lf_5_bytes {k : Nat} (h : KK k = 5) : LL (k + 1) = 150 := by simpa using KK_all (P := fun k c => decide (c = 5 → LL (k + 1) = 150)) (by decide +kernel) h (by decide)
theorem kf_0_lost {k : Nat} (h : KK k = 0) : KK (k + 1) = 10 := by simpa using KK_all (P := fun k c => decide (c = 0 → KK (k + 1) = 10)) (by decide +kernel) h (by decide)
theorem lf_0_lost {k : Nat} (h : KK k = 0) : LL (k + 1) = 5 := by simpa using KK_all (P := fun k c => decide (c = 0 → LL (k + 1) = 5)) (by decide +kernel) h (by decide)
theorem kf_0_share {k : Nat} (h : KK k = 0) : KK (k + 2) = 10 := by simpa using KK_all (P := fun k c => decide (c = 0 → KK (k + 2) = 10)) (by decide +kernel) h (by decide)
theorem lf_0_share {k : Nat} (h : KK k = 0) : LL (k + 2) = 5 := by simpa using KK_all (P := fun k c => decide (c = 0 → LL (k + 2) = 5)) (by decide +kernel) h (by decide)
theorem i_get3 {p : Program} {l : Launch} {e : Env} {R : Room} {s : State} {m : MethodId} {args : Array Value} {below : List Frame} {meth : Method} {c : Code} {H : Heap} {locs : List Loc} {cells slots : Nat} {Q : State → Prop} {cc : ByteArray} {pc : Nat} {ls : Array Slot} {rest : List Value} {X : Wx} {H0 : Heap} {n : Nat} {G : Nat → va_E} {nL : Nat} {own : String} (hc : Cx p s m args meth c X cc nL own) (hw : Wi X H0 n G H locs) {k index : Nat} {fs : List Value} (hG : G k = .inr (3, fs)) (hk : k < n) (j : Nat) (hj : j < 4) {v : Value} (hv : fs[j]? = some v) (hl : Cond.fieldLink own index (TX3 j).1 (TX3 j).2.1 (TX3 j).2.2.1 ∈ TB) (hdg : decode cc pc = .ok (.getfield index, 3))
    (kk : W p l e R s m args below meth c H locs cells slots Q (F0 m (pc + 3) ls (v :: rest))) : W p l e R s m args below meth c H locs cells slots Q (F0 m pc ls (.ref (X.1 + k) :: rest)) := by
  obtain ⟨hx, hb, -, hown, hts, hK, -⟩ := hc
  have he := wlg_at (b := X.1) (G := G) hk
  rw [hG] at he
  exact va_get (T := TX3) (N := 4) hx hb hts inX3 hown hK hw.2.1 k he rfl j hj (hts _ hl) (fun _ h => h) hv hdg kk
theorem up_comm {B : Nat → va_E} {a k : Nat} {e1 e2 : va_E} (h : a ≠ k) : ∀ j, va_up (va_up B k e1) a e2 j = va_up (va_up B a e2) k e1 j := fun j => by
  by_cases h1 : j = k
  · subst h1; rw [va_up_self, va_up_ne _ _ (Ne.symm h), va_up_self]
  · rw [va_up_ne (va_up B a e2) _ h1]
    by_cases h2 : j = a
    · subst h2; rw [va_up_self, va_up_self]
    · rw [va_up_ne _ _ h2, va_up_ne _ _ h1, va_up_ne _ _ h2]
theorem up_mid {B : Nat → va_E} {a k : Nat} {e1 e2 e3 : va_E} (h : a ≠ k) : ∀ j, va_up (va_up (va_up B a e1) k e2) a e3 j = va_up (va_up B a e3) k e2 j := fun j => by
  by_cases h1 : j = k
  · subst h1; rw [va_up_self, va_up_ne _ _ (Ne.symm h), va_up_self]
  · rw [va_up_ne (va_up B a e3) _ h1]
    by_cases h2 : j = a
    · subst h2; rw [va_up_self, va_up_self]
    · rw [va_up_ne _ _ h2, va_up_ne _ _ h1, va_up_ne _ _ h2, va_up_ne _ _ h2]
abbrev rmi_X1 : Room := { frames := 1, cells := 3, slots := 15, locals := 12 }
theorem msi_X1 : MsI yX1_init cX1_init 1 := ⟨⟨q1_112, q1_5, by decide, by decide, by decide⟩, q1_111, rfl⟩
set_option maxRecDepth 20000 in
theorem ci_X1 (l : Launch) (X : Wx) (G : Nat → va_E) {k : Nat} (hk : KK k = 1) : CtI l X yX1_init cX1_init 1 rmi_X1 k (k + 1) (va_up G k (.inr (1, [.null, .null, .null, .int 0, .int 0, .int 0, .int 0, .int 0]))) (k + 4) (fin X G k) 3 15 := by
  refine i_entry (by decide) (by decide) rfl ?_
  intro p e s m args below meth c ls hc hN hin hr hw hl
  have hc : Cx p s m args meth c X cX1_init 1 RX1 := hc
  have hx := hc.1
  have hb := hc.2.1
  have hw : Wi X s.heap (k + 1) (va_up (fin X G k) k (.inr (1, [.null, .null, .null, .int 0, .int 0, .int 0, .int 0, .int 0]))) s.heap [] := hw.to up_start
  refine lv_aload_n hx hb dX1_init_0 rfl (lv_at hl 0 rfl) ?_
  refine i_obj hc hl.1 q1_113 (Nat.le_of_ble_eq_true rfl) (Nat.le_of_ble_eq_true rfl) dX1_init_1 ?_
  refine lv_aload_n hx hb dX1_init_4 rfl (lv_at hl 0 rfl) ?_
  refine lv_iconst (v := 5) hx hb dX1_init_5 (by decide) ?_
  refine i_arr9 hc hw ((up_fin (by omega)).trans (FFz_9 (kf_1_line hk) (lf_1_line hk))) q1_50 (by decide) (by decide) (by decide) (Nat.le_of_ble_eq_true rfl) (Nat.le_of_ble_eq_true rfl) dX1_init_6 (fun H hw => ?_)
  have hw : Wi X s.heap (k + 2) (va_up (fin X G k) k (.inr (1, [.null, .null, .null, .int 0, .int 0, .int 0, .int 0, .int 0]))) H _ := hw
  refine i_putF1 hc hw (by omega) 0 (by decide) (Nat.le_of_ble_eq_true rfl) q1_114 rfl hin rfl rfl rfl dX1_init_8 (fun H locs hw => ?_)
  have hw : Wi X s.heap (k + 2) (va_up (fin X G k) k (.inr (1, [.ref (X.1 + (k + 1)), .null, .null, .int 0, .int 0, .int 0, .int 0, .int 0]))) H locs := hw
  refine lv_aload_n hx hb dX1_init_11 rfl (lv_at hl 0 rfl) ?_
  refine lv_iconst (v := 5) hx hb dX1_init_12 (by decide) ?_
  refine i_arr9 hc hw ((up_fin (by omega)).trans (FFz_9 (kf_1_fault hk) (lf_1_fault hk))) q1_50 (by decide) (by decide) (by decide) (Nat.le_of_ble_eq_true rfl) (Nat.le_of_ble_eq_true rfl) dX1_init_13 (fun H hw => ?_)
  have hw : Wi X s.heap (k + 3) (va_up (fin X G k) k (.inr (1, [.ref (X.1 + (k + 1)), .null, .null, .int 0, .int 0, .int 0, .int 0, .int 0]))) H _ := hw
  refine i_putF1 hc hw (by omega) 1 (by decide) (Nat.le_of_ble_eq_true rfl) q1_118 rfl hin rfl rfl rfl dX1_init_15 (fun H locs hw => ?_)
  have hw : Wi X s.heap (k + 3) (va_up (fin X G k) k (.inr (1, [.ref (X.1 + (k + 1)), .ref (X.1 + (k + 2)), .null, .int 0, .int 0, .int 0, .int 0, .int 0]))) H locs := hw
  refine lv_aload_n hx hb dX1_init_18 rfl (lv_at hl 0 rfl) ?_
  refine lv_iconst (v := 5) hx hb dX1_init_19 (by decide) ?_
  refine i_arr9 hc hw ((up_fin (by omega)).trans (FFz_9 (kf_1_thrown hk) (lf_1_thrown hk))) q1_50 (by decide) (by decide) (by decide) (Nat.le_of_ble_eq_true rfl) (Nat.le_of_ble_eq_true rfl) dX1_init_20 (fun H hw => ?_)
  have hw : Wi X s.heap (k + 4) (va_up (fin X G k) k (.inr (1, [.ref (X.1 + (k + 1)), .ref (X.1 + (k + 2)), .null, .int 0, .int 0, .int 0, .int 0, .int 0]))) H _ := hw
  refine i_putF1 hc hw (by omega) 2 (by decide) (Nat.le_of_ble_eq_true rfl) q1_122 rfl hin rfl rfl rfl dX1_init_22 (fun H locs hw => ?_)
  have hw : Wi X s.heap (k + 4) (va_up (fin X G k) k (.inr (1, [.ref (X.1 + (k + 1)), .ref (X.1 + (k + 2)), .ref (X.1 + (k + 3)), .int 0, .int 0, .int 0, .int 0, .int 0]))) H locs := hw
  have hw : Wi X s.heap (k + 4) (fin X G k) H locs := hw.to (fun j _ => up_done (by rw [FF_1 hk]; simp [fl1, S00_k hk (by decide) (by decide)]) j)
  exact i_ret hc hr hw dX1_init_25
abbrev rmi_X5 : Room := { frames := 1, cells := 1, slots := 150, locals := 12 }
theorem msi_X5 : MsI yX5_init cX5_init 1 := ⟨⟨q1_24, q1_2, by decide, by decide, by decide⟩, q1_23, rfl⟩
set_option maxRecDepth 20000 in
theorem ci_X5 (l : Launch) (X : Wx) (G : Nat → va_E) {k : Nat} (hk : KK k = 5) : CtI l X yX5_init cX5_init 1 rmi_X5 k (k + 1) (va_up G k (.inr (5, [.null, .int 0, .int 0, .int 0, .int 0, .int 0, .int 0]))) (k + 2) (fin X G k) 1 150 := by
  refine i_entry (by decide) (by decide) rfl ?_
  intro p e s m args below meth c ls hc hN hin hr hw hl
  have hc : Cx p s m args meth c X cX5_init 1 RX5 := hc
  have hx := hc.1
  have hb := hc.2.1
  have hw : Wi X s.heap (k + 1) (va_up (fin X G k) k (.inr (5, [.null, .int 0, .int 0, .int 0, .int 0, .int 0, .int 0]))) s.heap [] := hw.to up_start
  refine lv_aload_n hx hb dX5_init_0 rfl (lv_at hl 0 rfl) ?_
  refine i_obj hc hl.1 q1_25 (Nat.le_of_ble_eq_true rfl) (Nat.le_of_ble_eq_true rfl) dX5_init_1 ?_
  refine lv_aload_n hx hb dX5_init_4 rfl (lv_at hl 0 rfl) ?_
  refine lv_sipush (v := 150) hx hb dX5_init_5 (by decide) ?_
  refine i_arr9 hc hw ((up_fin (by omega)).trans (FFz_9 (kf_5_bytes hk) (lf_5_bytes hk))) q1_50 (by decide) (by decide) (by decide) (Nat.le_of_ble_eq_true rfl) (Nat.le_of_ble_eq_true rfl) dX5_init_8 (fun H hw => ?_)
  have hw : Wi X s.heap (k + 2) (va_up (fin X G k) k (.inr (5, [.null, .int 0, .int 0, .int 0, .int 0, .int 0, .int 0]))) H _ := hw
  refine i_putF5 hc hw (by omega) 0 (by decide) (Nat.le_of_ble_eq_true rfl) q1_26 rfl hin rfl rfl rfl dX5_init_10 (fun H locs hw => ?_)
  have hw : Wi X s.heap (k + 2) (va_up (fin X G k) k (.inr (5, [.ref (X.1 + (k + 1)), .int 0, .int 0, .int 0, .int 0, .int 0, .int 0]))) H locs := hw
  have hw : Wi X s.heap (k + 2) (fin X G k) H locs := hw.to (fun j _ => up_done (by rw [FF_5 hk]; simp [fl5, S00_k hk (by decide) (by decide)]) j)
  exact i_ret hc hr hw dX5_init_13
abbrev rmi_X4 : Room := { frames := 1, cells := 5, slots := 25, locals := 12 }
theorem msi_X4 : MsI yX4_init cX4_init 1 := ⟨⟨q1_55, q1_3, by decide, by decide, by decide⟩, q1_54, rfl⟩
set_option maxRecDepth 20000 in
theorem ci_X4 (l : Launch) (X : Wx) (G : Nat → va_E) {k : Nat} (hk : KK k = 4) : CtI l X yX4_init cX4_init 1 rmi_X4 k (k + 1) (va_up G k (.inr (4, [.int 0, .int 0, .null, .null, .null, .null, .null]))) (k + 6) (fin X G k) 5 25 := by
  refine i_entry (by decide) (by decide) rfl ?_
  intro p e s m args below meth c ls hc hN hin hr hw hl
  have hc : Cx p s m args meth c X cX4_init 1 RX4 := hc
  have hx := hc.1
  have hb := hc.2.1
  have hw : Wi X s.heap (k + 1) (va_up (fin X G k) k (.inr (4, [.int 0, .int 0, .null, .null, .null, .null, .null]))) s.heap [] := hw.to up_start
  refine lv_aload_n hx hb dX4_init_0 rfl (lv_at hl 0 rfl) ?_
  refine i_obj hc hl.1 q1_56 (Nat.le_of_ble_eq_true rfl) (Nat.le_of_ble_eq_true rfl) dX4_init_1 ?_
  refine lv_aload_n hx hb dX4_init_4 rfl (lv_at hl 0 rfl) ?_
  refine lv_bipush (v := 50) hx hb dX4_init_5 (by decide) ?_
  refine i_putN4 hc hw (by omega) 1 (by decide) (Nat.le_of_ble_eq_true rfl) q1_62 rfl rfl rfl dX4_init_7 (fun H locs hw => ?_)
  have hw : Wi X s.heap (k + 1) (va_up (fin X G k) k (.inr (4, [.int 0, .int 50, .null, .null, .null, .null, .null]))) H locs := hw
  refine lv_aload_n hx hb dX4_init_10 rfl (lv_at hl 0 rfl) ?_
  refine lv_iconst (v := 5) hx hb dX4_init_11 (by decide) ?_
  refine i_arr9 hc hw ((up_fin (by omega)).trans (FFz_9 (kf_4_seconds hk) (lf_4_seconds hk))) q1_50 (by decide) (by decide) (by decide) (Nat.le_of_ble_eq_true rfl) (Nat.le_of_ble_eq_true rfl) dX4_init_12 (fun H hw => ?_)
  have hw : Wi X s.heap (k + 2) (va_up (fin X G k) k (.inr (4, [.int 0, .int 50, .null, .null, .null, .null, .null]))) H _ := hw
  refine i_putF4 hc hw (by omega) 2 (by decide) (Nat.le_of_ble_eq_true rfl) q1_66 rfl hin rfl rfl rfl dX4_init_14 (fun H locs hw => ?_)
  have hw : Wi X s.heap (k + 2) (va_up (fin X G k) k (.inr (4, [.int 0, .int 50, .ref (X.1 + (k + 1)), .null, .null, .null, .null]))) H locs := hw
  refine lv_aload_n hx hb dX4_init_17 rfl (lv_at hl 0 rfl) ?_
  refine lv_iconst (v := 5) hx hb dX4_init_18 (by decide) ?_
  refine i_arr9 hc hw ((up_fin (by omega)).trans (FFz_9 (kf_4_fault hk) (lf_4_fault hk))) q1_50 (by decide) (by decide) (by decide) (Nat.le_of_ble_eq_true rfl) (Nat.le_of_ble_eq_true rfl) dX4_init_19 (fun H hw => ?_)
  have hw : Wi X s.heap (k + 3) (va_up (fin X G k) k (.inr (4, [.int 0, .int 50, .ref (X.1 + (k + 1)), .null, .null, .null, .null]))) H _ := hw
  refine i_putF4 hc hw (by omega) 3 (by decide) (Nat.le_of_ble_eq_true rfl) q1_71 rfl hin rfl rfl rfl dX4_init_21 (fun H locs hw => ?_)
  have hw : Wi X s.heap (k + 3) (va_up (fin X G k) k (.inr (4, [.int 0, .int 50, .ref (X.1 + (k + 1)), .ref (X.1 + (k + 2)), .null, .null, .null]))) H locs := hw
  refine lv_aload_n hx hb dX4_init_24 rfl (lv_at hl 0 rfl) ?_
  refine lv_iconst (v := 5) hx hb dX4_init_25 (by decide) ?_
  refine i_arr9 hc hw ((up_fin (by omega)).trans (FFz_9 (kf_4_look hk) (lf_4_look hk))) q1_50 (by decide) (by decide) (by decide) (Nat.le_of_ble_eq_true rfl) (Nat.le_of_ble_eq_true rfl) dX4_init_26 (fun H hw => ?_)
  have hw : Wi X s.heap (k + 4) (va_up (fin X G k) k (.inr (4, [.int 0, .int 50, .ref (X.1 + (k + 1)), .ref (X.1 + (k + 2)), .null, .null, .null]))) H _ := hw
  refine i_putF4 hc hw (by omega) 4 (by decide) (Nat.le_of_ble_eq_true rfl) q1_74 rfl hin rfl rfl rfl dX4_init_28 (fun H locs hw => ?_)
  have hw : Wi X s.heap (k + 4) (va_up (fin X G k) k (.inr (4, [.int 0, .int 50, .ref (X.1 + (k + 1)), .ref (X.1 + (k + 2)), .ref (X.1 + (k + 3)), .null, .null]))) H locs := hw
  refine lv_aload_n hx hb dX4_init_31 rfl (lv_at hl 0 rfl) ?_
  refine lv_iconst (v := 5) hx hb dX4_init_32 (by decide) ?_
  refine i_arr9 hc hw ((up_fin (by omega)).trans (FFz_9 (kf_4_miss hk) (lf_4_miss hk))) q1_50 (by decide) (by decide) (by decide) (Nat.le_of_ble_eq_true rfl) (Nat.le_of_ble_eq_true rfl) dX4_init_33 (fun H hw => ?_)
  have hw : Wi X s.heap (k + 5) (va_up (fin X G k) k (.inr (4, [.int 0, .int 50, .ref (X.1 + (k + 1)), .ref (X.1 + (k + 2)), .ref (X.1 + (k + 3)), .null, .null]))) H _ := hw
  refine i_putF4 hc hw (by omega) 5 (by decide) (Nat.le_of_ble_eq_true rfl) q1_79 rfl hin rfl rfl rfl dX4_init_35 (fun H locs hw => ?_)
  have hw : Wi X s.heap (k + 5) (va_up (fin X G k) k (.inr (4, [.int 0, .int 50, .ref (X.1 + (k + 1)), .ref (X.1 + (k + 2)), .ref (X.1 + (k + 3)), .ref (X.1 + (k + 4)), .null]))) H locs := hw
  refine lv_aload_n hx hb dX4_init_38 rfl (lv_at hl 0 rfl) ?_
  refine lv_iconst (v := 5) hx hb dX4_init_39 (by decide) ?_
  refine i_arr9 hc hw ((up_fin (by omega)).trans (FFz_9 (kf_4_ahead hk) (lf_4_ahead hk))) q1_50 (by decide) (by decide) (by decide) (Nat.le_of_ble_eq_true rfl) (Nat.le_of_ble_eq_true rfl) dX4_init_40 (fun H hw => ?_)
  have hw : Wi X s.heap (k + 6) (va_up (fin X G k) k (.inr (4, [.int 0, .int 50, .ref (X.1 + (k + 1)), .ref (X.1 + (k + 2)), .ref (X.1 + (k + 3)), .ref (X.1 + (k + 4)), .null]))) H _ := hw
  refine i_putF4 hc hw (by omega) 6 (by decide) (Nat.le_of_ble_eq_true rfl) q1_84 rfl hin rfl rfl rfl dX4_init_42 (fun H locs hw => ?_)
  have hw : Wi X s.heap (k + 6) (va_up (fin X G k) k (.inr (4, [.int 0, .int 50, .ref (X.1 + (k + 1)), .ref (X.1 + (k + 2)), .ref (X.1 + (k + 3)), .ref (X.1 + (k + 4)), .ref (X.1 + (k + 5))]))) H locs := hw
  have hw : Wi X s.heap (k + 6) (fin X G k) H locs := hw.to (fun j _ => up_done (by rw [FF_4 hk]; rcases KK_is4 hk with rfl | rfl <;> simp [fl4, S00]) j)
  exact i_ret hc hr hw dX4_init_45
abbrev rmi_X2 : Room := { frames := 1, cells := 0, slots := 0, locals := 12 }
theorem msi_X2 : MsI yX2_init cX2_init 1 := ⟨⟨q1_173, q1_6, by decide, by decide, by decide⟩, q1_172, rfl⟩
set_option maxRecDepth 20000 in
theorem ci_X2 (l : Launch) (X : Wx) (G : Nat → va_E) {k : Nat} (hk : KK k = 2) : CtI l X yX2_init cX2_init 1 rmi_X2 k (k + 1) (va_up G k (.inr (2, [.int 0, .int 0, .int 0]))) (k + 1) (fin X G k) 0 0 := by
  refine i_entry (by decide) (by decide) rfl ?_
  intro p e s m args below meth c ls hc hN hin hr hw hl
  have hc : Cx p s m args meth c X cX2_init 1 RX2 := hc
  have hx := hc.1
  have hb := hc.2.1
  have hw : Wi X s.heap (k + 1) (va_up (fin X G k) k (.inr (2, [.int 0, .int 0, .int 0]))) s.heap [] := hw.to up_start
  refine lv_aload_n hx hb dX2_init_0 rfl (lv_at hl 0 rfl) ?_
  refine i_obj hc hl.1 q1_174 (Nat.le_of_ble_eq_true rfl) (Nat.le_of_ble_eq_true rfl) dX2_init_1 ?_
  refine lv_aload_n hx hb dX2_init_4 rfl (lv_at hl 0 rfl) ?_
  refine lv_iconst (v := (-1)) hx hb dX2_init_5 (by decide) ?_
  refine i_putN2 hc hw (by omega) 2 (by decide) (Nat.le_of_ble_eq_true rfl) q1_179 rfl rfl rfl dX2_init_6 (fun H locs hw => ?_)
  have hw : Wi X s.heap (k + 1) (va_up (fin X G k) k (.inr (2, [.int 0, .int 0, .int (-1)]))) H locs := hw
  have hw : Wi X s.heap (k + 1) (fin X G k) H locs := hw.to (fun j _ => up_done (by rw [FF_2 hk]; rw [KK_is2 hk]; simp [fl2, S00]) j)
  exact i_ret hc hr hw dX2_init_9
abbrev rmi_X0 : Room := { frames := 1, cells := 2, slots := 10, locals := 12 }
theorem msi_X0 : MsI yX0_init cX0_init 1 := ⟨⟨q1_193, q1_7, by decide, by decide, by decide⟩, q1_192, rfl⟩
set_option maxRecDepth 20000 in
theorem ci_X0 (l : Launch) (X : Wx) (G : Nat → va_E) {k : Nat} (hk : KK k = 0) : CtI l X yX0_init cX0_init 1 rmi_X0 k (k + 1) (va_up G k (.inr (0, [.long 0, .long 0, .long 0, .null, .null]))) (k + 3) (fin X G k) 2 10 := by
  refine i_entry (by decide) (by decide) rfl ?_
  intro p e s m args below meth c ls hc hN hin hr hw hl
  have hc : Cx p s m args meth c X cX0_init 1 RX0 := hc
  have hx := hc.1
  have hb := hc.2.1
  have hw : Wi X s.heap (k + 1) (va_up (fin X G k) k (.inr (0, [.long 0, .long 0, .long 0, .null, .null]))) s.heap [] := hw.to up_start
  refine lv_aload_n hx hb dX0_init_0 rfl (lv_at hl 0 rfl) ?_
  refine i_obj hc hl.1 q1_194 (Nat.le_of_ble_eq_true rfl) (Nat.le_of_ble_eq_true rfl) dX0_init_1 ?_
  refine lv_aload_n hx hb dX0_init_4 rfl (lv_at hl 0 rfl) ?_
  refine lv_iconst (v := 5) hx hb dX0_init_5 (by decide) ?_
  refine i_arr10 hc hw ((up_fin (by omega)).trans (FFz_10 (kf_0_lost hk) (lf_0_lost hk))) q1_216 (by decide) (by decide) (by decide) (Nat.le_of_ble_eq_true rfl) (Nat.le_of_ble_eq_true rfl) dX0_init_6 (fun H hw => ?_)
  have hw : Wi X s.heap (k + 2) (va_up (fin X G k) k (.inr (0, [.long 0, .long 0, .long 0, .null, .null]))) H _ := hw
  refine i_putF0 hc hw (by omega) 3 (by decide) (Nat.le_of_ble_eq_true rfl) q1_201 rfl hin rfl rfl rfl dX0_init_8 (fun H locs hw => ?_)
  have hw : Wi X s.heap (k + 2) (va_up (fin X G k) k (.inr (0, [.long 0, .long 0, .long 0, .ref (X.1 + (k + 1)), .null]))) H locs := hw
  refine lv_aload_n hx hb dX0_init_11 rfl (lv_at hl 0 rfl) ?_
  refine lv_iconst (v := 5) hx hb dX0_init_12 (by decide) ?_
  refine i_arr10 hc hw ((up_fin (by omega)).trans (FFz_10 (kf_0_share hk) (lf_0_share hk))) q1_216 (by decide) (by decide) (by decide) (Nat.le_of_ble_eq_true rfl) (Nat.le_of_ble_eq_true rfl) dX0_init_13 (fun H hw => ?_)
  have hw : Wi X s.heap (k + 3) (va_up (fin X G k) k (.inr (0, [.long 0, .long 0, .long 0, .ref (X.1 + (k + 1)), .null]))) H _ := hw
  refine i_putF0 hc hw (by omega) 4 (by decide) (Nat.le_of_ble_eq_true rfl) q1_203 rfl hin rfl rfl rfl dX0_init_15 (fun H locs hw => ?_)
  have hw : Wi X s.heap (k + 3) (va_up (fin X G k) k (.inr (0, [.long 0, .long 0, .long 0, .ref (X.1 + (k + 1)), .ref (X.1 + (k + 2))]))) H locs := hw
  have hw : Wi X s.heap (k + 3) (fin X G k) H locs := hw.to (fun j _ => up_done (by rw [FF_0 hk]; simp [fl0, S00]) j)
  exact i_ret hc hr hw dX0_init_18
abbrev rmi_X3 : Room := { frames := 2, cells := 45, slots := 263, locals := 32 }
theorem msi_X3 : MsI yX3_init cX3_init 2 := ⟨⟨q1_106, q1_4, by decide, by decide, by decide⟩, q1_105, rfl⟩
def pAr (X : Wx) (k i : Nat) : va_E := .inl (X.2.2 12, 10, .inr (.inr (.inr (.inr (fun j => if j < i ∨ 10 ≤ j then some (X.1 + (k + 5 + 1 + 4 * j)) else none)))))
def pGG (X : Wx) (G : Nat → va_E) (k i : Nat) : Nat → va_E := va_up (va_up (fin X G k) (k + 5) (pAr X k i)) k (.inr (3, [.ref (X.1 + (k + 1)), .ref (X.1 + (k + 5)), .int 0, .int 0]))
theorem pGG_k {X : Wx} {G : Nat → va_E} {k i : Nat} : pGG X G k i k = .inr (3, [.ref (X.1 + (k + 1)), .ref (X.1 + (k + 5)), .int 0, .int 0]) := va_up_self _ _ _
theorem pGG_5 {X : Wx} {G : Nat → va_E} {k i : Nat} : pGG X G k i (k + 5) = pAr X k i := (va_up_ne _ _ (by omega)).trans (va_up_self _ _ _)
theorem pGG_o {X : Wx} {G : Nat → va_E} {k i j : Nat} (h1 : j ≠ k) (h2 : j ≠ k + 5) : pGG X G k i j = fin X G k j := (va_up_ne _ _ h1).trans (va_up_ne _ _ h2)
theorem pAr_put {X : Wx} {k i : Nat} (hi : i < 10) : (.inl (X.2.2 12, 10, .inr (.inr (.inr (.inr (va_up (fun j => if j < i ∨ 10 ≤ j then some (X.1 + (k + 5 + 1 + 4 * j)) else none) i (some (X.1 + (k + 6 + 4 * i)))))))) : va_E) = pAr X k (i + 1) := by
  unfold pAr
  congr 7
  funext j
  by_cases h : j = i
  · subst h
    rw [va_up_self, if_pos (by omega)]
  · rw [va_up_ne _ _ h]
    by_cases h2 : j < i ∨ 10 ≤ j
    · rw [if_pos h2, if_pos (by omega)]
    · rw [if_neg h2, if_neg (by omega)]
theorem KK_pm {k i : Nat} (h : KK k = 3) (hi : i < 10) : KK (k + 6 + 4 * i) = 1 := by
  have h1 := KK_all (P := fun k c => !(c == 3) || (List.range 10).all (fun j => KK (k + 6 + 4 * j) == 1)) (by decide +kernel) h (by decide)
  have h2 : (List.range 10).all (fun j => KK (k + 6 + 4 * j) == 1) = true := by simpa using h1
  simpa using List.all_eq_true.mp h2 _ (List.mem_range.mpr hi)
theorem nI_10 : (10 : Int32) = nI 10 := by decide
set_option maxRecDepth 20000 in
theorem past_loop {p : Program} {l : Launch} {e : Env} {s : State} {m : MethodId} {args : Array Value} {below : List Frame} {meth : Method} {c : Code} {X : Wx} {G : Nat → va_E} {k : Nat} (hc : Cx p s m args meth c X cX3_init 2 RX3) (hN : Nk s) (hr : meth.sig.returnType = none) (hk : KK k = 3) : ∀ (d i : Nat), i + d = 10 → ∀ (H : Heap) (locs : List Loc) (ls : Array Slot), Wi X s.heap (k + 6 + 4 * i) (pGG X G k i) H locs → lv_has ls 2 [(1, .int (nI i)), (0, .ref (X.1 + k))] → W p l e rmi_X3 s m args below meth c H locs (5 + 4 * i) (33 + 23 * i) (MQ below (QqI X (k + 46) (fin X G k)) args s 45 263 (AA X.1)) (F0 m 26 ls []) := by
  have hx := hc.1
  have hb := hc.2.1
  intro d
  induction d with
  | zero =>
    intro i hi H locs ls hw hl
    obtain rfl : i = 10 := by omega
    refine lv_iload_n hx hb dX3_init_26 rfl (lv_at hl 0 rfl) ?_
    refine lv_bipush (v := 10) hx hb dX3_init_27 (by decide) ?_
    refine lv_icmp_ge (tgt := 51) hx hb dX3_init_29 (by decide) (fun c1 => ?_) (fun c1 => ?_)
    · have hw : Wi X s.heap (k + 46) (fin X G k) H locs := hw.to (fun j _ => by
        by_cases h1 : j = k
        · subst h1
          rw [pGG_k, fin_ge (Nat.le_refl _), FF_3 hk]
          simp [fl3, S00_k hk (by decide) (by decide)]
        · by_cases h2 : j = k + 5
          · subst h2
            rw [pGG_5, fin_ge (by omega), FF_12 (kf_3_earlier hk), lf_3_earlier hk]
            unfold pAr
            congr 7
            funext j
            rw [if_pos (by omega)]
          · exact pGG_o h1 h2)
      exact i_ret hc hr hw dX3_init_51
    · exact absurd (by rw [nI_10]; exact nI_le (Nat.le_refl _) (by decide)) c1
  | succ d ih =>
    intro i hi H locs ls hw hl
    have hi10 : i < 10 := by omega
    refine lv_iload_n hx hb dX3_init_26 rfl (lv_at hl 0 rfl) ?_
    refine lv_bipush (v := 10) hx hb dX3_init_27 (by decide) ?_
    refine lv_icmp_ge (tgt := 51) hx hb dX3_init_29 (by decide) (fun c1 => ?_) (fun c1 => ?_)
    · exact absurd c1 (by rw [nI_10]; exact nI_ge hi10 (by decide))
    · refine lv_aload_n hx hb dX3_init_32 rfl (lv_at hl 1 rfl) ?_
      refine i_get3 hc hw pGG_k (by omega) 1 (by decide) (v := .ref (X.1 + (k + 5))) rfl q1_155 dX3_init_33 ?_
      refine lv_iload_n hx hb dX3_init_36 rfl (lv_at hl 0 rfl) ?_
      refine i_new hc hw (ci := 1) (fs := [.null, .null, .null, .int 0, .int 0, .int 0, .int 0, .int 0]) rfl inX1 tyX1 tyX1_ok q1_108 q1_109 q1_5 (fun j hj => by rcases (show j = 0 ∨ j = 1 ∨ j = 2 ∨ j = 3 ∨ j = 4 ∨ j = 5 ∨ j = 6 ∨ j = 7 by omega) with rfl | rfl | rfl | rfl | rfl | rfl | rfl | rfl <;> rfl) (by show _ ≤ 45; omega) (by show _ ≤ 263; omega) dX3_init_37 (fun H hw => ?_)
      refine lv_dup hx hb dX3_init_40 rfl ?_
      refine i_callN hc hN hw hl.1 (ci_X1 l X (pGG X G k i) (KK_pm hk hi10)) msi_X1 hN.2.2.1 ⟨rfl, rfl, Nat.le_of_ble_eq_true rfl, Nat.le_of_ble_eq_true rfl⟩ (Nat.le_of_ble_eq_true rfl) ⟨by show _ ≤ 45; omega, by show _ ≤ 263; omega⟩ dX3_init_41 (fun H locs hw => ?_)
      have hw : Wi X s.heap (k + 6 + 4 * (i + 1)) (pGG X G k i) H locs := hw.to (fun j _ => fin_back (fun j hj => by rw [pGG_o (by omega) (by omega)]; exact fin_ge (by omega)) j)
      refine i_aast12 hc hw (ka := k + 5) (kv := k + 6 + 4 * i) (N := 10) (f := fun j => if j < i ∨ 10 ≤ j then some (X.1 + (k + 5 + 1 + 4 * j)) else none) (vs := fl1 X S00 (k + 6 + 4 * i)) pGG_5 (by omega) (by rw [pGG_o (by omega) (by omega)]; exact (fin_ge (by omega)).trans (FF_1 (KK_pm hk hi10))) (by omega) (by simpa [inB, nI_clamp (show i < 2 ^ 31 by omega)] using ⟨nI_pos' (show i < 2 ^ 31 by omega), hi10⟩) dX3_init_44 (fun H locs hw => ?_)
      rw [nI_clamp (show i < 2 ^ 31 by omega), pAr_put hi10] at hw
      have hw : Wi X s.heap (k + 6 + 4 * (i + 1)) (pGG X G k (i + 1)) H locs := hw.to (fun j _ => up_mid (by omega) j)
      refine lv_iinc (v := nI (i + 1)) (lv' := [(1, .int (nI (i + 1))), (0, .ref (X.1 + k))]) hx hb dX3_init_45 hl (k := 0) rfl (nI_1 i) (by decide) rfl (fun ls hl => ?_)
      refine lv_goto (tgt := 26) hx hb dX3_init_48 (by decide) ?_
      refine W.widen (k := 5 + 4 * (i + 1)) (n := 33 + 23 * (i + 1)) (by omega) (by omega) ?_
      exact ih (i + 1) (by omega) H locs ls hw hl
set_option maxRecDepth 20000 in
theorem ci_X3 (l : Launch) (X : Wx) (G : Nat → va_E) {k : Nat} (hk : KK k = 3) : CtI l X yX3_init cX3_init 2 rmi_X3 k (k + 1) (va_up G k (.inr (3, [.null, .null, .int 0, .int 0]))) (k + 46) (fin X G k) 45 263 := by
  refine i_entry (by decide) (by decide) rfl ?_
  intro p e s m args below meth c ls hc hN hin hr hw hl
  have hc : Cx p s m args meth c X cX3_init 2 RX3 := hc
  have hx := hc.1
  have hb := hc.2.1
  have hw : Wi X s.heap (k + 1) (va_up (fin X G k) k (.inr (3, [.null, .null, .int 0, .int 0]))) s.heap [] := hw.to up_start
  refine lv_aload_n hx hb dX3_init_0 rfl (lv_at hl 0 rfl) ?_
  refine i_obj hc hl.1 q1_107 (Nat.le_of_ble_eq_true rfl) (Nat.le_of_ble_eq_true rfl) dX3_init_1 ?_
  refine lv_aload_n hx hb dX3_init_4 rfl (lv_at hl 0 rfl) ?_
  refine i_new hc hw (ci := 1) (fs := [.null, .null, .null, .int 0, .int 0, .int 0, .int 0, .int 0]) rfl inX1 tyX1 tyX1_ok q1_108 q1_109 q1_5 (fun j hj => by rcases (show j = 0 ∨ j = 1 ∨ j = 2 ∨ j = 3 ∨ j = 4 ∨ j = 5 ∨ j = 6 ∨ j = 7 by omega) with rfl | rfl | rfl | rfl | rfl | rfl | rfl | rfl <;> rfl) (Nat.le_of_ble_eq_true rfl) (Nat.le_of_ble_eq_true rfl) dX3_init_5 (fun H hw => ?_)
  refine lv_dup hx hb dX3_init_8 rfl ?_
  refine i_callN hc hN hw hl.1 (ci_X1 l X (va_up (fin X G k) k (.inr (3, [.null, .null, .int 0, .int 0]))) (kf_3_present hk)) msi_X1 hN.2.2.1 ⟨rfl, rfl, Nat.le_of_ble_eq_true rfl, Nat.le_of_ble_eq_true rfl⟩ (Nat.le_of_ble_eq_true rfl) ⟨Nat.le_of_ble_eq_true rfl, Nat.le_of_ble_eq_true rfl⟩ dX3_init_9 (fun H locs hw => ?_)
  have hw : Wi X s.heap (k + 5) (va_up (fin X G k) k (.inr (3, [.null, .null, .int 0, .int 0]))) H locs := hw.to (fun j _ => fin_back (fun j hj => up_fin (by omega)) j)
  refine i_putF3 hc hw (by omega) 0 (by decide) (Nat.le_of_ble_eq_true rfl) q1_153 rfl hin rfl rfl rfl dX3_init_12 (fun H locs hw => ?_)
  have hw : Wi X s.heap (k + 5) (va_up (fin X G k) k (.inr (3, [.ref (X.1 + (k + 1)), .null, .int 0, .int 0]))) H locs := hw
  refine lv_aload_n hx hb dX3_init_15 rfl (lv_at hl 0 rfl) ?_
  refine lv_bipush (v := 10) hx hb dX3_init_16 (by decide) ?_
  refine i_anew12 hc hw (f0 := (fun j => if j < 0 ∨ 10 ≤ j then some (X.1 + (k + 5 + 1 + 4 * j)) else none)) (N := 10) (fun j hj => by simp; omega) hN.2.2.2.2.2.1 q1_108 (by decide) (by decide) (by decide) (Nat.le_of_ble_eq_true rfl) (Nat.le_of_ble_eq_true rfl) dX3_init_18 (fun H hw => ?_)
  have hw : Wi X s.heap (k + 6) (va_up (va_up (fin X G k) (k + 5) (.inl (X.2.2 12, 10, .inr (.inr (.inr (.inr (fun j => if j < 0 ∨ 10 ≤ j then some (X.1 + (k + 5 + 1 + 4 * j)) else none))))))) k (.inr (3, [.ref (X.1 + (k + 1)), .null, .int 0, .int 0]))) H _ := hw.to (fun j _ => up_comm (by omega) j)
  refine i_putF3 hc hw (by omega) 1 (by decide) (Nat.le_of_ble_eq_true rfl) q1_155 rfl hin rfl rfl rfl dX3_init_21 (fun H locs hw => ?_)
  have hw : Wi X s.heap (k + 6) (va_up (va_up (fin X G k) (k + 5) (.inl (X.2.2 12, 10, .inr (.inr (.inr (.inr (fun j => if j < 0 ∨ 10 ≤ j then some (X.1 + (k + 5 + 1 + 4 * j)) else none))))))) k (.inr (3, [.ref (X.1 + (k + 1)), .ref (X.1 + (k + 5)), .int 0, .int 0]))) H locs := hw
  refine lv_iconst (v := 0) hx hb dX3_init_24 (by decide) ?_
  refine lv_istore_n (lv' := [(1, .int 0), (0, .ref (X.1 + k))]) hx hb dX3_init_25 rfl hl (by decide) rfl (fun ls hl => ?_)
  exact past_loop hc hN hr hk 10 0 rfl H locs ls hw hl
theorem up_img {X : Wx} {B : Nat → va_E} {e : va_E} : ∀ j, va_up (va_up (fin X B 0) 61 (.inl (X.2.2 13, 2, .inr (.inr (.inr (.inr (va_up (va_up (fun j => if j < 2 then none else some (X.1 + (61 + 1 + 46 * j))) 0 (some (X.1 + 62))) 1 (some (X.1 + 108))))))))) 0 e j = va_up (fin X B 0) 0 e j := fun j => by
  by_cases h0 : j = 0
  · subst h0; rw [va_up_self, va_up_self]
  · rw [va_up_ne _ _ h0, va_up_ne _ _ h0]
    by_cases h1 : j = 61
    · subst h1
      rw [va_up_self, fin_ge (by omega), FF_13 k61, l61]
      congr 7
      funext i
      by_cases i1 : i = 1
      · subst i1; rw [va_up_self]
      · rw [va_up_ne _ _ i1]
        by_cases i0 : i = 0
        · subst i0; rw [va_up_self]
        · rw [va_up_ne _ _ i0, if_neg (by omega)]
    · rw [va_up_ne _ _ h1]
abbrev rmi_X6 : Room := { frames := 3, cells := 162, slots := 1066, locals := 53 }
theorem msi_X6 : MsI yX6_init cX6_init 1 := ⟨⟨q1_16, q1_1, by decide, by decide, by decide⟩, q1_15, rfl⟩
set_option maxRecDepth 20000 in
theorem ci_X6 (l : Launch) (X : Wx) (G : Nat → va_E) : CtI l X yX6_init cX6_init 1 rmi_X6 0 (1) (va_up G 0 (.inr (6, [.null, .null, .null, .null, .null, .null, .null, .null, .int 0, .null, .null, .null, .null, .long 0]))) (163) (fin X G 0) 162 1066 := by
  refine i_entry (by decide) (by decide) rfl ?_
  intro p e s m args below meth c ls hc hN hin hr hw hl
  have hc : Cx p s m args meth c X cX6_init 1 RX6 := hc
  have hx := hc.1
  have hb := hc.2.1
  have hw : Wi X s.heap (1) (va_up (fin X G 0) 0 (.inr (6, [.null, .null, .null, .null, .null, .null, .null, .null, .int 0, .null, .null, .null, .null, .long 0]))) s.heap [] := hw.to up_start
  refine lv_aload_n hx hb dX6_init_0 rfl (lv_at hl 0 rfl) ?_
  refine i_obj hc hl.1 q1_17 (Nat.le_of_ble_eq_true rfl) (Nat.le_of_ble_eq_true rfl) dX6_init_1 ?_
  refine lv_aload_n hx hb dX6_init_4 rfl (lv_at hl 0 rfl) ?_
  refine i_new hc hw (ci := 5) (fs := [.null, .int 0, .int 0, .int 0, .int 0, .int 0, .int 0]) rfl inX5 tyX5 tyX5_ok q1_20 q1_21 q1_2 (fun j hj => by rcases (show j = 0 ∨ j = 1 ∨ j = 2 ∨ j = 3 ∨ j = 4 ∨ j = 5 ∨ j = 6 by omega) with rfl | rfl | rfl | rfl | rfl | rfl | rfl <;> rfl) (Nat.le_of_ble_eq_true rfl) (Nat.le_of_ble_eq_true rfl) dX6_init_5 (fun H hw => ?_)
  refine lv_dup hx hb dX6_init_8 rfl ?_
  refine i_callN hc hN hw hl.1 (ci_X5 l X (va_up (fin X G 0) 0 (.inr (6, [.null, .null, .null, .null, .null, .null, .null, .null, .int 0, .null, .null, .null, .null, .long 0]))) k1) msi_X5 hN.1 ⟨rfl, rfl, Nat.le_of_ble_eq_true rfl, Nat.le_of_ble_eq_true rfl⟩ (Nat.le_of_ble_eq_true rfl) ⟨Nat.le_of_ble_eq_true rfl, Nat.le_of_ble_eq_true rfl⟩ dX6_init_9 (fun H locs hw => ?_)
  have hw : Wi X s.heap (3) (va_up (fin X G 0) 0 (.inr (6, [.null, .null, .null, .null, .null, .null, .null, .null, .int 0, .null, .null, .null, .null, .long 0]))) H locs := hw.to (fun j _ => fin_back (fun j hj => up_fin (by omega)) j)
  refine i_putF6 hc hw (by omega) 0 (by decide) (Nat.le_of_ble_eq_true rfl) q1_217 rfl hin rfl rfl rfl dX6_init_12 (fun H locs hw => ?_)
  have hw : Wi X s.heap (3) (va_up (fin X G 0) 0 (.inr (6, [.ref (X.1 + 1), .null, .null, .null, .null, .null, .null, .null, .int 0, .null, .null, .null, .null, .long 0]))) H locs := hw
  refine lv_aload_n hx hb dX6_init_15 rfl (lv_at hl 0 rfl) ?_
  refine i_new hc hw (ci := 4) (fs := [.int 0, .int 0, .null, .null, .null, .null, .null]) rfl inX4 tyX4 tyX4_ok q1_51 q1_52 q1_3 (fun j hj => by rcases (show j = 0 ∨ j = 1 ∨ j = 2 ∨ j = 3 ∨ j = 4 ∨ j = 5 ∨ j = 6 by omega) with rfl | rfl | rfl | rfl | rfl | rfl | rfl <;> rfl) (Nat.le_of_ble_eq_true rfl) (Nat.le_of_ble_eq_true rfl) dX6_init_16 (fun H hw => ?_)
  refine lv_dup hx hb dX6_init_19 rfl ?_
  refine i_callN hc hN hw hl.1 (ci_X4 l X (va_up (fin X G 0) 0 (.inr (6, [.ref (X.1 + 1), .null, .null, .null, .null, .null, .null, .null, .int 0, .null, .null, .null, .null, .long 0]))) k3) msi_X4 hN.2.1 ⟨rfl, rfl, Nat.le_of_ble_eq_true rfl, Nat.le_of_ble_eq_true rfl⟩ (Nat.le_of_ble_eq_true rfl) ⟨Nat.le_of_ble_eq_true rfl, Nat.le_of_ble_eq_true rfl⟩ dX6_init_20 (fun H locs hw => ?_)
  have hw : Wi X s.heap (9) (va_up (fin X G 0) 0 (.inr (6, [.ref (X.1 + 1), .null, .null, .null, .null, .null, .null, .null, .int 0, .null, .null, .null, .null, .long 0]))) H locs := hw.to (fun j _ => fin_back (fun j hj => up_fin (by omega)) j)
  refine i_putN6 hc hw (by omega) 1 (by decide) (Nat.le_of_ble_eq_true rfl) q1_218 rfl rfl rfl dX6_init_23 (fun H locs hw => ?_)
  have hw : Wi X s.heap (9) (va_up (fin X G 0) 0 (.inr (6, [.ref (X.1 + 1), .ref (X.1 + 3), .null, .null, .null, .null, .null, .null, .int 0, .null, .null, .null, .null, .long 0]))) H locs := hw
  refine lv_aload_n hx hb dX6_init_26 rfl (lv_at hl 0 rfl) ?_
  refine i_new hc hw (ci := 4) (fs := [.int 0, .int 0, .null, .null, .null, .null, .null]) rfl inX4 tyX4 tyX4_ok q1_51 q1_52 q1_3 (fun j hj => by rcases (show j = 0 ∨ j = 1 ∨ j = 2 ∨ j = 3 ∨ j = 4 ∨ j = 5 ∨ j = 6 by omega) with rfl | rfl | rfl | rfl | rfl | rfl | rfl <;> rfl) (Nat.le_of_ble_eq_true rfl) (Nat.le_of_ble_eq_true rfl) dX6_init_27 (fun H hw => ?_)
  refine lv_dup hx hb dX6_init_30 rfl ?_
  refine i_callN hc hN hw hl.1 (ci_X4 l X (va_up (fin X G 0) 0 (.inr (6, [.ref (X.1 + 1), .ref (X.1 + 3), .null, .null, .null, .null, .null, .null, .int 0, .null, .null, .null, .null, .long 0]))) k9) msi_X4 hN.2.1 ⟨rfl, rfl, Nat.le_of_ble_eq_true rfl, Nat.le_of_ble_eq_true rfl⟩ (Nat.le_of_ble_eq_true rfl) ⟨Nat.le_of_ble_eq_true rfl, Nat.le_of_ble_eq_true rfl⟩ dX6_init_31 (fun H locs hw => ?_)
  have hw : Wi X s.heap (15) (va_up (fin X G 0) 0 (.inr (6, [.ref (X.1 + 1), .ref (X.1 + 3), .null, .null, .null, .null, .null, .null, .int 0, .null, .null, .null, .null, .long 0]))) H locs := hw.to (fun j _ => fin_back (fun j hj => up_fin (by omega)) j)
  refine i_putN6 hc hw (by omega) 2 (by decide) (Nat.le_of_ble_eq_true rfl) q1_219 rfl rfl rfl dX6_init_34 (fun H locs hw => ?_)
  have hw : Wi X s.heap (15) (va_up (fin X G 0) 0 (.inr (6, [.ref (X.1 + 1), .ref (X.1 + 3), .ref (X.1 + 9), .null, .null, .null, .null, .null, .int 0, .null, .null, .null, .null, .long 0]))) H locs := hw
  refine lv_aload_n hx hb dX6_init_37 rfl (lv_at hl 0 rfl) ?_
  refine i_new hc hw (ci := 3) (fs := [.null, .null, .int 0, .int 0]) rfl inX3 tyX3 tyX3_ok q1_102 q1_103 q1_4 (fun j hj => by rcases (show j = 0 ∨ j = 1 ∨ j = 2 ∨ j = 3 by omega) with rfl | rfl | rfl | rfl <;> rfl) (Nat.le_of_ble_eq_true rfl) (Nat.le_of_ble_eq_true rfl) dX6_init_38 (fun H hw => ?_)
  refine lv_dup hx hb dX6_init_41 rfl ?_
  refine i_call hc hN hw hl.1 (ci_X3 l X (va_up (fin X G 0) 0 (.inr (6, [.ref (X.1 + 1), .ref (X.1 + 3), .ref (X.1 + 9), .null, .null, .null, .null, .null, .int 0, .null, .null, .null, .null, .long 0]))) k15) msi_X3 q1_104 ⟨rfl, rfl, Nat.le_of_ble_eq_true rfl, Nat.le_of_ble_eq_true rfl⟩ (Nat.le_of_ble_eq_true rfl) ⟨Nat.le_of_ble_eq_true rfl, Nat.le_of_ble_eq_true rfl⟩ dX6_init_42 (fun H locs hw => ?_)
  have hw : Wi X s.heap (61) (va_up (fin X G 0) 0 (.inr (6, [.ref (X.1 + 1), .ref (X.1 + 3), .ref (X.1 + 9), .null, .null, .null, .null, .null, .int 0, .null, .null, .null, .null, .long 0]))) H locs := hw.to (fun j _ => fin_back (fun j hj => up_fin (by omega)) j)
  refine i_putF6 hc hw (by omega) 3 (by decide) (Nat.le_of_ble_eq_true rfl) q1_220 rfl hin rfl rfl rfl dX6_init_45 (fun H locs hw => ?_)
  have hw : Wi X s.heap (61) (va_up (fin X G 0) 0 (.inr (6, [.ref (X.1 + 1), .ref (X.1 + 3), .ref (X.1 + 9), .ref (X.1 + 15), .null, .null, .null, .null, .int 0, .null, .null, .null, .null, .long 0]))) H locs := hw
  refine lv_aload_n hx hb dX6_init_48 rfl (lv_at hl 0 rfl) ?_
  refine lv_iconst (v := 2) hx hb dX6_init_49 (by decide) ?_
  refine i_anew13 hc hw (f0 := (fun j => if j < 2 then none else some (X.1 + (61 + 1 + 46 * j)))) (N := 2) (fun j hj => by simp; omega) hN.2.2.2.2.2.2 q1_102 (by decide) (by decide) (by decide) (Nat.le_of_ble_eq_true rfl) (Nat.le_of_ble_eq_true rfl) dX6_init_50 (fun H hw => ?_)
  have hw : Wi X s.heap (62) (va_up (va_up (fin X G 0) 61 (.inl (X.2.2 13, 2, .inr (.inr (.inr (.inr (fun j => if j < 2 then none else some (X.1 + (61 + 1 + 46 * j))))))))) 0 (.inr (6, [.ref (X.1 + 1), .ref (X.1 + 3), .ref (X.1 + 9), .ref (X.1 + 15), .null, .null, .null, .null, .int 0, .null, .null, .null, .null, .long 0]))) H _ := hw.to (fun j _ => up_comm (by omega) j)
  refine lv_dup hx hb dX6_init_53 rfl ?_
  refine lv_iconst (v := 0) hx hb dX6_init_54 (by decide) ?_
  refine i_new hc hw (ci := 3) (fs := [.null, .null, .int 0, .int 0]) rfl inX3 tyX3 tyX3_ok q1_102 q1_103 q1_4 (fun j hj => by rcases (show j = 0 ∨ j = 1 ∨ j = 2 ∨ j = 3 by omega) with rfl | rfl | rfl | rfl <;> rfl) (Nat.le_of_ble_eq_true rfl) (Nat.le_of_ble_eq_true rfl) dX6_init_55 (fun H hw => ?_)
  refine lv_dup hx hb dX6_init_58 rfl ?_
  refine i_call hc hN hw hl.1 (ci_X3 l X (va_up (va_up (fin X G 0) 61 (.inl (X.2.2 13, 2, .inr (.inr (.inr (.inr (fun j => if j < 2 then none else some (X.1 + (61 + 1 + 46 * j))))))))) 0 (.inr (6, [.ref (X.1 + 1), .ref (X.1 + 3), .ref (X.1 + 9), .ref (X.1 + 15), .null, .null, .null, .null, .int 0, .null, .null, .null, .null, .long 0]))) k62) msi_X3 q1_104 ⟨rfl, rfl, Nat.le_of_ble_eq_true rfl, Nat.le_of_ble_eq_true rfl⟩ (Nat.le_of_ble_eq_true rfl) ⟨Nat.le_of_ble_eq_true rfl, Nat.le_of_ble_eq_true rfl⟩ dX6_init_59 (fun H locs hw => ?_)
  have hw : Wi X s.heap (108) (va_up (va_up (fin X G 0) 61 (.inl (X.2.2 13, 2, .inr (.inr (.inr (.inr (fun j => if j < 2 then none else some (X.1 + (61 + 1 + 46 * j))))))))) 0 (.inr (6, [.ref (X.1 + 1), .ref (X.1 + 3), .ref (X.1 + 9), .ref (X.1 + 15), .null, .null, .null, .null, .int 0, .null, .null, .null, .null, .long 0]))) H locs := hw.to (fun j _ => fin_back (fun j hj => by rw [va_up_ne _ _ (by omega), va_up_ne _ _ (by omega)]; exact fin_ge (by omega)) j)
  refine i_aast13 hc hw (ka := 61) (kv := 62) (N := 2) (f := (fun j => if j < 2 then none else some (X.1 + (61 + 1 + 46 * j)))) (vs := fl3 X S00 62) (by rw [va_up_ne _ _ (by omega), va_up_self]) (by omega) (by rw [va_up_ne _ _ (by omega), va_up_ne _ _ (by omega)]; exact (fin_ge (by omega)).trans (FF_3 k62)) (by omega) (by decide) dX6_init_62 (fun H locs hw => ?_)
  have hw : Wi X s.heap (108) (va_up (va_up (fin X G 0) 61 (.inl (X.2.2 13, 2, .inr (.inr (.inr (.inr (va_up (fun j => if j < 2 then none else some (X.1 + (61 + 1 + 46 * j))) 0 (some (X.1 + 62))))))))) 0 (.inr (6, [.ref (X.1 + 1), .ref (X.1 + 3), .ref (X.1 + 9), .ref (X.1 + 15), .null, .null, .null, .null, .int 0, .null, .null, .null, .null, .long 0]))) H locs := hw.to (fun j _ => up_mid (by omega) j)
  refine lv_dup hx hb dX6_init_63 rfl ?_
  refine lv_iconst (v := 1) hx hb dX6_init_64 (by decide) ?_
  refine i_new hc hw (ci := 3) (fs := [.null, .null, .int 0, .int 0]) rfl inX3 tyX3 tyX3_ok q1_102 q1_103 q1_4 (fun j hj => by rcases (show j = 0 ∨ j = 1 ∨ j = 2 ∨ j = 3 by omega) with rfl | rfl | rfl | rfl <;> rfl) (Nat.le_of_ble_eq_true rfl) (Nat.le_of_ble_eq_true rfl) dX6_init_65 (fun H hw => ?_)
  refine lv_dup hx hb dX6_init_68 rfl ?_
  refine i_call hc hN hw hl.1 (ci_X3 l X (va_up (va_up (fin X G 0) 61 (.inl (X.2.2 13, 2, .inr (.inr (.inr (.inr (va_up (fun j => if j < 2 then none else some (X.1 + (61 + 1 + 46 * j))) 0 (some (X.1 + 62))))))))) 0 (.inr (6, [.ref (X.1 + 1), .ref (X.1 + 3), .ref (X.1 + 9), .ref (X.1 + 15), .null, .null, .null, .null, .int 0, .null, .null, .null, .null, .long 0]))) k108) msi_X3 q1_104 ⟨rfl, rfl, Nat.le_of_ble_eq_true rfl, Nat.le_of_ble_eq_true rfl⟩ (Nat.le_of_ble_eq_true rfl) ⟨Nat.le_of_ble_eq_true rfl, Nat.le_of_ble_eq_true rfl⟩ dX6_init_69 (fun H locs hw => ?_)
  have hw : Wi X s.heap (154) (va_up (va_up (fin X G 0) 61 (.inl (X.2.2 13, 2, .inr (.inr (.inr (.inr (va_up (fun j => if j < 2 then none else some (X.1 + (61 + 1 + 46 * j))) 0 (some (X.1 + 62))))))))) 0 (.inr (6, [.ref (X.1 + 1), .ref (X.1 + 3), .ref (X.1 + 9), .ref (X.1 + 15), .null, .null, .null, .null, .int 0, .null, .null, .null, .null, .long 0]))) H locs := hw.to (fun j _ => fin_back (fun j hj => by rw [va_up_ne _ _ (by omega), va_up_ne _ _ (by omega)]; exact fin_ge (by omega)) j)
  refine i_aast13 hc hw (ka := 61) (kv := 108) (N := 2) (f := (va_up (fun j => if j < 2 then none else some (X.1 + (61 + 1 + 46 * j))) 0 (some (X.1 + 62)))) (vs := fl3 X S00 108) (by rw [va_up_ne _ _ (by omega), va_up_self]) (by omega) (by rw [va_up_ne _ _ (by omega), va_up_ne _ _ (by omega)]; exact (fin_ge (by omega)).trans (FF_3 k108)) (by omega) (by decide) dX6_init_72 (fun H locs hw => ?_)
  have hw : Wi X s.heap (154) (va_up (va_up (fin X G 0) 61 (.inl (X.2.2 13, 2, .inr (.inr (.inr (.inr (va_up (va_up (fun j => if j < 2 then none else some (X.1 + (61 + 1 + 46 * j))) 0 (some (X.1 + 62))) 1 (some (X.1 + 108))))))))) 0 (.inr (6, [.ref (X.1 + 1), .ref (X.1 + 3), .ref (X.1 + 9), .ref (X.1 + 15), .null, .null, .null, .null, .int 0, .null, .null, .null, .null, .long 0]))) H locs := hw.to (fun j _ => up_mid (by omega) j)
  have hw : Wi X s.heap (154) (va_up (fin X G 0) 0 (.inr (6, [.ref (X.1 + 1), .ref (X.1 + 3), .ref (X.1 + 9), .ref (X.1 + 15), .null, .null, .null, .null, .int 0, .null, .null, .null, .null, .long 0]))) H locs := hw.to (fun j _ => up_img j)
  refine i_putF6 hc hw (by omega) 4 (by decide) (Nat.le_of_ble_eq_true rfl) q1_221 rfl hin rfl rfl rfl dX6_init_73 (fun H locs hw => ?_)
  have hw : Wi X s.heap (154) (va_up (fin X G 0) 0 (.inr (6, [.ref (X.1 + 1), .ref (X.1 + 3), .ref (X.1 + 9), .ref (X.1 + 15), .ref (X.1 + 61), .null, .null, .null, .int 0, .null, .null, .null, .null, .long 0]))) H locs := hw
  refine lv_aload_n hx hb dX6_init_76 rfl (lv_at hl 0 rfl) ?_
  refine lv_iconst (v := 2) hx hb dX6_init_77 (by decide) ?_
  refine i_arr11 hc hw ((up_fin (by omega)).trans (FFz_11 k154 l154)) q1_188 (by decide) (by decide) (by decide) (Nat.le_of_ble_eq_true rfl) (Nat.le_of_ble_eq_true rfl) dX6_init_78 (fun H hw => ?_)
  have hw : Wi X s.heap (155) (va_up (fin X G 0) 0 (.inr (6, [.ref (X.1 + 1), .ref (X.1 + 3), .ref (X.1 + 9), .ref (X.1 + 15), .ref (X.1 + 61), .null, .null, .null, .int 0, .null, .null, .null, .null, .long 0]))) H _ := hw
  refine i_putF6 hc hw (by omega) 5 (by decide) (Nat.le_of_ble_eq_true rfl) q1_222 rfl hin rfl rfl rfl dX6_init_80 (fun H locs hw => ?_)
  have hw : Wi X s.heap (155) (va_up (fin X G 0) 0 (.inr (6, [.ref (X.1 + 1), .ref (X.1 + 3), .ref (X.1 + 9), .ref (X.1 + 15), .ref (X.1 + 61), .ref (X.1 + 154), .null, .null, .int 0, .null, .null, .null, .null, .long 0]))) H locs := hw
  refine lv_aload_n hx hb dX6_init_83 rfl (lv_at hl 0 rfl) ?_
  refine lv_bipush (v := 6) hx hb dX6_init_84 (by decide) ?_
  refine i_arr9 hc hw ((up_fin (by omega)).trans (FFz_9 k155 l155)) q1_50 (by decide) (by decide) (by decide) (Nat.le_of_ble_eq_true rfl) (Nat.le_of_ble_eq_true rfl) dX6_init_86 (fun H hw => ?_)
  have hw : Wi X s.heap (156) (va_up (fin X G 0) 0 (.inr (6, [.ref (X.1 + 1), .ref (X.1 + 3), .ref (X.1 + 9), .ref (X.1 + 15), .ref (X.1 + 61), .ref (X.1 + 154), .null, .null, .int 0, .null, .null, .null, .null, .long 0]))) H _ := hw
  refine i_putF6 hc hw (by omega) 6 (by decide) (Nat.le_of_ble_eq_true rfl) q1_223 rfl hin rfl rfl rfl dX6_init_88 (fun H locs hw => ?_)
  have hw : Wi X s.heap (156) (va_up (fin X G 0) 0 (.inr (6, [.ref (X.1 + 1), .ref (X.1 + 3), .ref (X.1 + 9), .ref (X.1 + 15), .ref (X.1 + 61), .ref (X.1 + 154), .ref (X.1 + 155), .null, .int 0, .null, .null, .null, .null, .long 0]))) H locs := hw
  refine lv_aload_n hx hb dX6_init_91 rfl (lv_at hl 0 rfl) ?_
  refine lv_bipush (v := 6) hx hb dX6_init_92 (by decide) ?_
  refine i_arr9 hc hw ((up_fin (by omega)).trans (FFz_9 k156 l156)) q1_50 (by decide) (by decide) (by decide) (Nat.le_of_ble_eq_true rfl) (Nat.le_of_ble_eq_true rfl) dX6_init_94 (fun H hw => ?_)
  have hw : Wi X s.heap (157) (va_up (fin X G 0) 0 (.inr (6, [.ref (X.1 + 1), .ref (X.1 + 3), .ref (X.1 + 9), .ref (X.1 + 15), .ref (X.1 + 61), .ref (X.1 + 154), .ref (X.1 + 155), .null, .int 0, .null, .null, .null, .null, .long 0]))) H _ := hw
  refine i_putF6 hc hw (by omega) 7 (by decide) (Nat.le_of_ble_eq_true rfl) q1_224 rfl hin rfl rfl rfl dX6_init_96 (fun H locs hw => ?_)
  have hw : Wi X s.heap (157) (va_up (fin X G 0) 0 (.inr (6, [.ref (X.1 + 1), .ref (X.1 + 3), .ref (X.1 + 9), .ref (X.1 + 15), .ref (X.1 + 61), .ref (X.1 + 154), .ref (X.1 + 155), .ref (X.1 + 156), .int 0, .null, .null, .null, .null, .long 0]))) H locs := hw
  refine lv_aload_n hx hb dX6_init_99 rfl (lv_at hl 0 rfl) ?_
  refine i_new hc hw (ci := 2) (fs := [.int 0, .int 0, .int 0]) rfl inX2 tyX2 tyX2_ok q1_169 q1_170 q1_6 (fun j hj => by rcases (show j = 0 ∨ j = 1 ∨ j = 2 by omega) with rfl | rfl | rfl <;> rfl) (Nat.le_of_ble_eq_true rfl) (Nat.le_of_ble_eq_true rfl) dX6_init_100 (fun H hw => ?_)
  refine lv_dup hx hb dX6_init_103 rfl ?_
  refine i_callN hc hN hw hl.1 (ci_X2 l X (va_up (fin X G 0) 0 (.inr (6, [.ref (X.1 + 1), .ref (X.1 + 3), .ref (X.1 + 9), .ref (X.1 + 15), .ref (X.1 + 61), .ref (X.1 + 154), .ref (X.1 + 155), .ref (X.1 + 156), .int 0, .null, .null, .null, .null, .long 0]))) k157) msi_X2 hN.2.2.2.1 ⟨rfl, rfl, Nat.le_of_ble_eq_true rfl, Nat.le_of_ble_eq_true rfl⟩ (Nat.le_of_ble_eq_true rfl) ⟨Nat.le_of_ble_eq_true rfl, Nat.le_of_ble_eq_true rfl⟩ dX6_init_104 (fun H locs hw => ?_)
  have hw : Wi X s.heap (158) (va_up (fin X G 0) 0 (.inr (6, [.ref (X.1 + 1), .ref (X.1 + 3), .ref (X.1 + 9), .ref (X.1 + 15), .ref (X.1 + 61), .ref (X.1 + 154), .ref (X.1 + 155), .ref (X.1 + 156), .int 0, .null, .null, .null, .null, .long 0]))) H locs := hw.to (fun j _ => fin_back (fun j hj => up_fin (by omega)) j)
  refine i_putF6 hc hw (by omega) 9 (by decide) (Nat.le_of_ble_eq_true rfl) q1_226 rfl hin rfl rfl rfl dX6_init_107 (fun H locs hw => ?_)
  have hw : Wi X s.heap (158) (va_up (fin X G 0) 0 (.inr (6, [.ref (X.1 + 1), .ref (X.1 + 3), .ref (X.1 + 9), .ref (X.1 + 15), .ref (X.1 + 61), .ref (X.1 + 154), .ref (X.1 + 155), .ref (X.1 + 156), .int 0, .ref (X.1 + 157), .null, .null, .null, .long 0]))) H locs := hw
  refine lv_aload_n hx hb dX6_init_110 rfl (lv_at hl 0 rfl) ?_
  refine i_new hc hw (ci := 0) (fs := [.long 0, .long 0, .long 0, .null, .null]) rfl inX0 tyX0 tyX0_ok q1_189 q1_190 q1_7 (fun j hj => by rcases (show j = 0 ∨ j = 1 ∨ j = 2 ∨ j = 3 ∨ j = 4 by omega) with rfl | rfl | rfl | rfl | rfl <;> rfl) (Nat.le_of_ble_eq_true rfl) (Nat.le_of_ble_eq_true rfl) dX6_init_111 (fun H hw => ?_)
  refine lv_dup hx hb dX6_init_114 rfl ?_
  refine i_callN hc hN hw hl.1 (ci_X0 l X (va_up (fin X G 0) 0 (.inr (6, [.ref (X.1 + 1), .ref (X.1 + 3), .ref (X.1 + 9), .ref (X.1 + 15), .ref (X.1 + 61), .ref (X.1 + 154), .ref (X.1 + 155), .ref (X.1 + 156), .int 0, .ref (X.1 + 157), .null, .null, .null, .long 0]))) k158) msi_X0 hN.2.2.2.2.1 ⟨rfl, rfl, Nat.le_of_ble_eq_true rfl, Nat.le_of_ble_eq_true rfl⟩ (Nat.le_of_ble_eq_true rfl) ⟨Nat.le_of_ble_eq_true rfl, Nat.le_of_ble_eq_true rfl⟩ dX6_init_115 (fun H locs hw => ?_)
  have hw : Wi X s.heap (161) (va_up (fin X G 0) 0 (.inr (6, [.ref (X.1 + 1), .ref (X.1 + 3), .ref (X.1 + 9), .ref (X.1 + 15), .ref (X.1 + 61), .ref (X.1 + 154), .ref (X.1 + 155), .ref (X.1 + 156), .int 0, .ref (X.1 + 157), .null, .null, .null, .long 0]))) H locs := hw.to (fun j _ => fin_back (fun j hj => up_fin (by omega)) j)
  refine i_putF6 hc hw (by omega) 10 (by decide) (Nat.le_of_ble_eq_true rfl) q1_227 rfl hin rfl rfl rfl dX6_init_118 (fun H locs hw => ?_)
  have hw : Wi X s.heap (161) (va_up (fin X G 0) 0 (.inr (6, [.ref (X.1 + 1), .ref (X.1 + 3), .ref (X.1 + 9), .ref (X.1 + 15), .ref (X.1 + 61), .ref (X.1 + 154), .ref (X.1 + 155), .ref (X.1 + 156), .int 0, .ref (X.1 + 157), .ref (X.1 + 158), .null, .null, .long 0]))) H locs := hw
  refine lv_aload_n hx hb dX6_init_121 rfl (lv_at hl 0 rfl) ?_
  refine lv_iconst (v := 5) hx hb dX6_init_122 (by decide) ?_
  refine i_arr9 hc hw ((up_fin (by omega)).trans (FFz_9 k161 l161)) q1_50 (by decide) (by decide) (by decide) (Nat.le_of_ble_eq_true rfl) (Nat.le_of_ble_eq_true rfl) dX6_init_123 (fun H hw => ?_)
  have hw : Wi X s.heap (162) (va_up (fin X G 0) 0 (.inr (6, [.ref (X.1 + 1), .ref (X.1 + 3), .ref (X.1 + 9), .ref (X.1 + 15), .ref (X.1 + 61), .ref (X.1 + 154), .ref (X.1 + 155), .ref (X.1 + 156), .int 0, .ref (X.1 + 157), .ref (X.1 + 158), .null, .null, .long 0]))) H _ := hw
  refine i_putF6 hc hw (by omega) 11 (by decide) (Nat.le_of_ble_eq_true rfl) q1_228 rfl hin rfl rfl rfl dX6_init_125 (fun H locs hw => ?_)
  have hw : Wi X s.heap (162) (va_up (fin X G 0) 0 (.inr (6, [.ref (X.1 + 1), .ref (X.1 + 3), .ref (X.1 + 9), .ref (X.1 + 15), .ref (X.1 + 61), .ref (X.1 + 154), .ref (X.1 + 155), .ref (X.1 + 156), .int 0, .ref (X.1 + 157), .ref (X.1 + 158), .ref (X.1 + 161), .null, .long 0]))) H locs := hw
  refine lv_aload_n hx hb dX6_init_128 rfl (lv_at hl 0 rfl) ?_
  refine lv_iconst (v := 5) hx hb dX6_init_129 (by decide) ?_
  refine i_arr9 hc hw ((up_fin (by omega)).trans (FFz_9 k162 l162)) q1_50 (by decide) (by decide) (by decide) (Nat.le_of_ble_eq_true rfl) (Nat.le_of_ble_eq_true rfl) dX6_init_130 (fun H hw => ?_)
  have hw : Wi X s.heap (163) (va_up (fin X G 0) 0 (.inr (6, [.ref (X.1 + 1), .ref (X.1 + 3), .ref (X.1 + 9), .ref (X.1 + 15), .ref (X.1 + 61), .ref (X.1 + 154), .ref (X.1 + 155), .ref (X.1 + 156), .int 0, .ref (X.1 + 157), .ref (X.1 + 158), .ref (X.1 + 161), .null, .long 0]))) H _ := hw
  refine i_putF6 hc hw (by omega) 12 (by decide) (Nat.le_of_ble_eq_true rfl) q1_229 rfl hin rfl rfl rfl dX6_init_132 (fun H locs hw => ?_)
  have hw : Wi X s.heap (163) (va_up (fin X G 0) 0 (.inr (6, [.ref (X.1 + 1), .ref (X.1 + 3), .ref (X.1 + 9), .ref (X.1 + 15), .ref (X.1 + 61), .ref (X.1 + 154), .ref (X.1 + 155), .ref (X.1 + 156), .int 0, .ref (X.1 + 157), .ref (X.1 + 158), .ref (X.1 + 161), .ref (X.1 + 162), .long 0]))) H locs := hw
  have hw : Wi X s.heap (163) (fin X G 0) H locs := hw.to (fun j _ => up_done (by rw [FF_6 k0]; simp [fl6, S00, pl, dr]) j)
  exact i_ret hc hr hw dX6_init_135
abbrev rmi_X7 : Room := { frames := 1, cells := 16, slots := 896, locals := 21 }
theorem msi_X7 : MsI yX7_init cX7_init 1 := ⟨⟨q3_118, q1_8, by decide, by decide, by decide⟩, q3_117, rfl⟩
theorem model_done {X : Wx} {G : Nat → va_E} (hG : ∀ j, j < 163 → G j = FF X S00 j) : ∀ j, j < 180 → va_up (fin X G 163) 163 (.inr (7, [.long 0, .ref (X.1 + 164), .int 0, .ref (X.1 + 165), .ref (X.1 + 166), .ref (X.1 + 167), .ref (X.1 + 168), .ref (X.1 + 169), .ref (X.1 + 170), .ref (X.1 + 171), .int 0, .int 0, .int 0, .int 0, .int 0, .int 0, .ref (X.1 + 172), .ref (X.1 + 173), .int 0, .int 0, .ref (X.1 + 174), .long 0, .long 0, .long 0, .long 0, .ref (X.1 + 175), .ref (X.1 + 176), .ref (X.1 + 177), .ref (X.1 + 178), .ref (X.1 + 179), .int 0])) j = FF X S00 j := fun j hj => by
  by_cases h : j = 163
  · subst h; rw [va_up_self, FF_7 k163]; simp [fl7, S00]
  · rw [va_up_ne _ _ h]
    by_cases h2 : j < 163
    · rw [fin_lt h2, hG j h2]
    · exact fin_ge (by omega)
theorem wd_of_wi {X : Wx} {H0 H : Heap} {locs : List Loc} (h : Wi X H0 180 (FF X S00) H locs) : Wd X H0 S00 H locs := ⟨h.2.1, h.2.2, by decide +kernel, by decide +kernel⟩
set_option maxRecDepth 20000 in
theorem ci_X7 (l : Launch) (X : Wx) (G : Nat → va_E) (hG : ∀ j, j < 163 → G j = FF X S00 j) {S1 S2 : Mm} {r1 r2 : Unit} (h1 : f_X7_plain S00 = some (r1, S1)) (h2 : f_X7_takeDraft S1 = some (r2, S2)) : Met l yX7_init (Cond.code yX7_init cX7_init 1 none :: TB) rmi_X7 (PpI X [.ref (X.1 + 163)] 164 (va_up G 163 (.inr (7, [.long 0, .null, .int 0, .null, .null, .null, .null, .null, .null, .null, .int 0, .int 0, .int 0, .int 0, .int 0, .int 0, .null, .null, .int 0, .int 0, .null, .long 0, .long 0, .long 0, .long 0, .null, .null, .null, .null, .null, .int 0])))) (Qq X none S2) 16 896 (AA X.1) := by
  refine Met.ofW (cc := cX7_init) (maxL := 1) (ret := none) (by decide) rfl ?_
  intro p e s m args below meth c s₁ B hml hv
  obtain ⟨rfl, hz, hP, hK, hN⟩ := hv
  have hts0 := atoms_spec (ws := Cond.code yX7_init cX7_init 1 none :: TB) B.pre
  have hts : ∀ w ∈ TB, w.before _ s = true := fun w hw => hts0 w (List.mem_cons_of_mem _ hw)
  have hl := lv_entry [.ref (X.1 + 163)] (n := 1) (Nat.le_of_ble_eq_true rfl)
  have hin : meth.name = "<init>" := (name_of_methodNamed B.named B.method).1
  have hr := B.returns
  rw [lg_entry_eq]
  have hc : Cx p s m _ meth c X cX7_init 1 RX7 := ⟨B.exec, B.bytes, hml, findClass_of_methodNamed B.named, hts, hK, B.notSynchronized⟩
  generalize (lg_sl [.ref (X.1 + 163)] ++ List.replicate (1 - (lg_sl [.ref (X.1 + 163)]).length) Slot.unset).toArray = ls at hl ⊢
  have hl : lv_has ls 1 [(0, .ref (X.1 + 163))] := hl
  have hx := hc.1
  have hb := hc.2.1
  have hw : Wi X s.heap 164 (va_up (fin X G 163) 163 (.inr (7, [.long 0, .null, .int 0, .null, .null, .null, .null, .null, .null, .null, .int 0, .int 0, .int 0, .int 0, .int 0, .int 0, .null, .null, .int 0, .int 0, .null, .long 0, .long 0, .long 0, .long 0, .null, .null, .null, .null, .null, .int 0]))) s.heap [] := Wi.to ⟨hz, hP, va_S.rf⟩ up_start
  refine lv_aload_n hx hb dX7_init_0 rfl (lv_at hl 0 rfl) ?_
  refine i_obj hc hl.1 q3_119 (Nat.le_of_ble_eq_true rfl) (Nat.le_of_ble_eq_true rfl) dX7_init_1 ?_
  refine lv_aload_n hx hb dX7_init_4 rfl (lv_at hl 0 rfl) ?_
  refine lv_sipush (v := 150) hx hb dX7_init_5 (by decide) ?_
  refine i_arr8 hc hw ((up_fin (by omega)).trans (FFz_8 k164 l164)) q3_222 (by decide) (by decide) (by decide) (Nat.le_of_ble_eq_true rfl) (Nat.le_of_ble_eq_true rfl) dX7_init_8 (fun H hw => ?_)
  have hw : Wi X s.heap (165) (va_up (fin X G 163) 163 (.inr (7, [.long 0, .null, .int 0, .null, .null, .null, .null, .null, .null, .null, .int 0, .int 0, .int 0, .int 0, .int 0, .int 0, .null, .null, .int 0, .int 0, .null, .long 0, .long 0, .long 0, .long 0, .null, .null, .null, .null, .null, .int 0]))) H _ := hw
  refine i_putF7 hc hw (by omega) 1 (by decide) (Nat.le_of_ble_eq_true rfl) q3_129 rfl hin rfl rfl rfl dX7_init_10 (fun H locs hw => ?_)
  have hw : Wi X s.heap (165) (va_up (fin X G 163) 163 (.inr (7, [.long 0, .ref (X.1 + 164), .int 0, .null, .null, .null, .null, .null, .null, .null, .int 0, .int 0, .int 0, .int 0, .int 0, .int 0, .null, .null, .int 0, .int 0, .null, .long 0, .long 0, .long 0, .long 0, .null, .null, .null, .null, .null, .int 0]))) H locs := hw
  refine lv_aload_n hx hb dX7_init_13 rfl (lv_at hl 0 rfl) ?_
  refine lv_iconst (v := 2) hx hb dX7_init_14 (by decide) ?_
  refine i_arr9 hc hw ((up_fin (by omega)).trans (FFz_9 k165 l165)) q1_50 (by decide) (by decide) (by decide) (Nat.le_of_ble_eq_true rfl) (Nat.le_of_ble_eq_true rfl) dX7_init_15 (fun H hw => ?_)
  have hw : Wi X s.heap (166) (va_up (fin X G 163) 163 (.inr (7, [.long 0, .ref (X.1 + 164), .int 0, .null, .null, .null, .null, .null, .null, .null, .int 0, .int 0, .int 0, .int 0, .int 0, .int 0, .null, .null, .int 0, .int 0, .null, .long 0, .long 0, .long 0, .long 0, .null, .null, .null, .null, .null, .int 0]))) H _ := hw
  refine i_putF7 hc hw (by omega) 3 (by decide) (Nat.le_of_ble_eq_true rfl) q3_131 rfl hin rfl rfl rfl dX7_init_17 (fun H locs hw => ?_)
  have hw : Wi X s.heap (166) (va_up (fin X G 163) 163 (.inr (7, [.long 0, .ref (X.1 + 164), .int 0, .ref (X.1 + 165), .null, .null, .null, .null, .null, .null, .int 0, .int 0, .int 0, .int 0, .int 0, .int 0, .null, .null, .int 0, .int 0, .null, .long 0, .long 0, .long 0, .long 0, .null, .null, .null, .null, .null, .int 0]))) H locs := hw
  refine lv_aload_n hx hb dX7_init_20 rfl (lv_at hl 0 rfl) ?_
  refine lv_bipush (v := 10) hx hb dX7_init_21 (by decide) ?_
  refine i_arr9 hc hw ((up_fin (by omega)).trans (FFz_9 k166 l166)) q1_50 (by decide) (by decide) (by decide) (Nat.le_of_ble_eq_true rfl) (Nat.le_of_ble_eq_true rfl) dX7_init_23 (fun H hw => ?_)
  have hw : Wi X s.heap (167) (va_up (fin X G 163) 163 (.inr (7, [.long 0, .ref (X.1 + 164), .int 0, .ref (X.1 + 165), .null, .null, .null, .null, .null, .null, .int 0, .int 0, .int 0, .int 0, .int 0, .int 0, .null, .null, .int 0, .int 0, .null, .long 0, .long 0, .long 0, .long 0, .null, .null, .null, .null, .null, .int 0]))) H _ := hw
  refine i_putF7 hc hw (by omega) 4 (by decide) (Nat.le_of_ble_eq_true rfl) q3_132 rfl hin rfl rfl rfl dX7_init_25 (fun H locs hw => ?_)
  have hw : Wi X s.heap (167) (va_up (fin X G 163) 163 (.inr (7, [.long 0, .ref (X.1 + 164), .int 0, .ref (X.1 + 165), .ref (X.1 + 166), .null, .null, .null, .null, .null, .int 0, .int 0, .int 0, .int 0, .int 0, .int 0, .null, .null, .int 0, .int 0, .null, .long 0, .long 0, .long 0, .long 0, .null, .null, .null, .null, .null, .int 0]))) H locs := hw
  refine lv_aload_n hx hb dX7_init_28 rfl (lv_at hl 0 rfl) ?_
  refine lv_iconst (v := 5) hx hb dX7_init_29 (by decide) ?_
  refine i_arr9 hc hw ((up_fin (by omega)).trans (FFz_9 k167 l167)) q1_50 (by decide) (by decide) (by decide) (Nat.le_of_ble_eq_true rfl) (Nat.le_of_ble_eq_true rfl) dX7_init_30 (fun H hw => ?_)
  have hw : Wi X s.heap (168) (va_up (fin X G 163) 163 (.inr (7, [.long 0, .ref (X.1 + 164), .int 0, .ref (X.1 + 165), .ref (X.1 + 166), .null, .null, .null, .null, .null, .int 0, .int 0, .int 0, .int 0, .int 0, .int 0, .null, .null, .int 0, .int 0, .null, .long 0, .long 0, .long 0, .long 0, .null, .null, .null, .null, .null, .int 0]))) H _ := hw
  refine i_putF7 hc hw (by omega) 5 (by decide) (Nat.le_of_ble_eq_true rfl) q3_133 rfl hin rfl rfl rfl dX7_init_32 (fun H locs hw => ?_)
  have hw : Wi X s.heap (168) (va_up (fin X G 163) 163 (.inr (7, [.long 0, .ref (X.1 + 164), .int 0, .ref (X.1 + 165), .ref (X.1 + 166), .ref (X.1 + 167), .null, .null, .null, .null, .int 0, .int 0, .int 0, .int 0, .int 0, .int 0, .null, .null, .int 0, .int 0, .null, .long 0, .long 0, .long 0, .long 0, .null, .null, .null, .null, .null, .int 0]))) H locs := hw
  refine lv_aload_n hx hb dX7_init_35 rfl (lv_at hl 0 rfl) ?_
  refine lv_bipush (v := 10) hx hb dX7_init_36 (by decide) ?_
  refine i_arr9 hc hw ((up_fin (by omega)).trans (FFz_9 k168 l168)) q1_50 (by decide) (by decide) (by decide) (Nat.le_of_ble_eq_true rfl) (Nat.le_of_ble_eq_true rfl) dX7_init_38 (fun H hw => ?_)
  have hw : Wi X s.heap (169) (va_up (fin X G 163) 163 (.inr (7, [.long 0, .ref (X.1 + 164), .int 0, .ref (X.1 + 165), .ref (X.1 + 166), .ref (X.1 + 167), .null, .null, .null, .null, .int 0, .int 0, .int 0, .int 0, .int 0, .int 0, .null, .null, .int 0, .int 0, .null, .long 0, .long 0, .long 0, .long 0, .null, .null, .null, .null, .null, .int 0]))) H _ := hw
  refine i_putF7 hc hw (by omega) 6 (by decide) (Nat.le_of_ble_eq_true rfl) q3_134 rfl hin rfl rfl rfl dX7_init_40 (fun H locs hw => ?_)
  have hw : Wi X s.heap (169) (va_up (fin X G 163) 163 (.inr (7, [.long 0, .ref (X.1 + 164), .int 0, .ref (X.1 + 165), .ref (X.1 + 166), .ref (X.1 + 167), .ref (X.1 + 168), .null, .null, .null, .int 0, .int 0, .int 0, .int 0, .int 0, .int 0, .null, .null, .int 0, .int 0, .null, .long 0, .long 0, .long 0, .long 0, .null, .null, .null, .null, .null, .int 0]))) H locs := hw
  refine lv_aload_n hx hb dX7_init_43 rfl (lv_at hl 0 rfl) ?_
  refine lv_bipush (v := 10) hx hb dX7_init_44 (by decide) ?_
  refine i_arr9 hc hw ((up_fin (by omega)).trans (FFz_9 k169 l169)) q1_50 (by decide) (by decide) (by decide) (Nat.le_of_ble_eq_true rfl) (Nat.le_of_ble_eq_true rfl) dX7_init_46 (fun H hw => ?_)
  have hw : Wi X s.heap (170) (va_up (fin X G 163) 163 (.inr (7, [.long 0, .ref (X.1 + 164), .int 0, .ref (X.1 + 165), .ref (X.1 + 166), .ref (X.1 + 167), .ref (X.1 + 168), .null, .null, .null, .int 0, .int 0, .int 0, .int 0, .int 0, .int 0, .null, .null, .int 0, .int 0, .null, .long 0, .long 0, .long 0, .long 0, .null, .null, .null, .null, .null, .int 0]))) H _ := hw
  refine i_putF7 hc hw (by omega) 7 (by decide) (Nat.le_of_ble_eq_true rfl) q3_135 rfl hin rfl rfl rfl dX7_init_48 (fun H locs hw => ?_)
  have hw : Wi X s.heap (170) (va_up (fin X G 163) 163 (.inr (7, [.long 0, .ref (X.1 + 164), .int 0, .ref (X.1 + 165), .ref (X.1 + 166), .ref (X.1 + 167), .ref (X.1 + 168), .ref (X.1 + 169), .null, .null, .int 0, .int 0, .int 0, .int 0, .int 0, .int 0, .null, .null, .int 0, .int 0, .null, .long 0, .long 0, .long 0, .long 0, .null, .null, .null, .null, .null, .int 0]))) H locs := hw
  refine lv_aload_n hx hb dX7_init_51 rfl (lv_at hl 0 rfl) ?_
  refine lv_bipush (v := 10) hx hb dX7_init_52 (by decide) ?_
  refine i_arr9 hc hw ((up_fin (by omega)).trans (FFz_9 k170 l170)) q1_50 (by decide) (by decide) (by decide) (Nat.le_of_ble_eq_true rfl) (Nat.le_of_ble_eq_true rfl) dX7_init_54 (fun H hw => ?_)
  have hw : Wi X s.heap (171) (va_up (fin X G 163) 163 (.inr (7, [.long 0, .ref (X.1 + 164), .int 0, .ref (X.1 + 165), .ref (X.1 + 166), .ref (X.1 + 167), .ref (X.1 + 168), .ref (X.1 + 169), .null, .null, .int 0, .int 0, .int 0, .int 0, .int 0, .int 0, .null, .null, .int 0, .int 0, .null, .long 0, .long 0, .long 0, .long 0, .null, .null, .null, .null, .null, .int 0]))) H _ := hw
  refine i_putF7 hc hw (by omega) 8 (by decide) (Nat.le_of_ble_eq_true rfl) q3_136 rfl hin rfl rfl rfl dX7_init_56 (fun H locs hw => ?_)
  have hw : Wi X s.heap (171) (va_up (fin X G 163) 163 (.inr (7, [.long 0, .ref (X.1 + 164), .int 0, .ref (X.1 + 165), .ref (X.1 + 166), .ref (X.1 + 167), .ref (X.1 + 168), .ref (X.1 + 169), .ref (X.1 + 170), .null, .int 0, .int 0, .int 0, .int 0, .int 0, .int 0, .null, .null, .int 0, .int 0, .null, .long 0, .long 0, .long 0, .long 0, .null, .null, .null, .null, .null, .int 0]))) H locs := hw
  refine lv_aload_n hx hb dX7_init_59 rfl (lv_at hl 0 rfl) ?_
  refine lv_iconst (v := 2) hx hb dX7_init_60 (by decide) ?_
  refine i_arr9 hc hw ((up_fin (by omega)).trans (FFz_9 k171 l171)) q1_50 (by decide) (by decide) (by decide) (Nat.le_of_ble_eq_true rfl) (Nat.le_of_ble_eq_true rfl) dX7_init_61 (fun H hw => ?_)
  have hw : Wi X s.heap (172) (va_up (fin X G 163) 163 (.inr (7, [.long 0, .ref (X.1 + 164), .int 0, .ref (X.1 + 165), .ref (X.1 + 166), .ref (X.1 + 167), .ref (X.1 + 168), .ref (X.1 + 169), .ref (X.1 + 170), .null, .int 0, .int 0, .int 0, .int 0, .int 0, .int 0, .null, .null, .int 0, .int 0, .null, .long 0, .long 0, .long 0, .long 0, .null, .null, .null, .null, .null, .int 0]))) H _ := hw
  refine i_putF7 hc hw (by omega) 9 (by decide) (Nat.le_of_ble_eq_true rfl) q3_137 rfl hin rfl rfl rfl dX7_init_63 (fun H locs hw => ?_)
  have hw : Wi X s.heap (172) (va_up (fin X G 163) 163 (.inr (7, [.long 0, .ref (X.1 + 164), .int 0, .ref (X.1 + 165), .ref (X.1 + 166), .ref (X.1 + 167), .ref (X.1 + 168), .ref (X.1 + 169), .ref (X.1 + 170), .ref (X.1 + 171), .int 0, .int 0, .int 0, .int 0, .int 0, .int 0, .null, .null, .int 0, .int 0, .null, .long 0, .long 0, .long 0, .long 0, .null, .null, .null, .null, .null, .int 0]))) H locs := hw
  refine lv_aload_n hx hb dX7_init_66 rfl (lv_at hl 0 rfl) ?_
  refine lv_sipush (v := 663) hx hb dX7_init_67 (by decide) ?_
  refine i_arr9 hc hw ((up_fin (by omega)).trans (FFz_9 k172 l172)) q1_50 (by decide) (by decide) (by decide) (Nat.le_of_ble_eq_true rfl) (Nat.le_of_ble_eq_true rfl) dX7_init_70 (fun H hw => ?_)
  have hw : Wi X s.heap (173) (va_up (fin X G 163) 163 (.inr (7, [.long 0, .ref (X.1 + 164), .int 0, .ref (X.1 + 165), .ref (X.1 + 166), .ref (X.1 + 167), .ref (X.1 + 168), .ref (X.1 + 169), .ref (X.1 + 170), .ref (X.1 + 171), .int 0, .int 0, .int 0, .int 0, .int 0, .int 0, .null, .null, .int 0, .int 0, .null, .long 0, .long 0, .long 0, .long 0, .null, .null, .null, .null, .null, .int 0]))) H _ := hw
  refine i_putF7 hc hw (by omega) 16 (by decide) (Nat.le_of_ble_eq_true rfl) q3_144 rfl hin rfl rfl rfl dX7_init_72 (fun H locs hw => ?_)
  have hw : Wi X s.heap (173) (va_up (fin X G 163) 163 (.inr (7, [.long 0, .ref (X.1 + 164), .int 0, .ref (X.1 + 165), .ref (X.1 + 166), .ref (X.1 + 167), .ref (X.1 + 168), .ref (X.1 + 169), .ref (X.1 + 170), .ref (X.1 + 171), .int 0, .int 0, .int 0, .int 0, .int 0, .int 0, .ref (X.1 + 172), .null, .int 0, .int 0, .null, .long 0, .long 0, .long 0, .long 0, .null, .null, .null, .null, .null, .int 0]))) H locs := hw
  refine lv_aload_n hx hb dX7_init_75 rfl (lv_at hl 0 rfl) ?_
  refine lv_iconst (v := 2) hx hb dX7_init_76 (by decide) ?_
  refine i_arr11 hc hw ((up_fin (by omega)).trans (FFz_11 k173 l173)) q1_188 (by decide) (by decide) (by decide) (Nat.le_of_ble_eq_true rfl) (Nat.le_of_ble_eq_true rfl) dX7_init_77 (fun H hw => ?_)
  have hw : Wi X s.heap (174) (va_up (fin X G 163) 163 (.inr (7, [.long 0, .ref (X.1 + 164), .int 0, .ref (X.1 + 165), .ref (X.1 + 166), .ref (X.1 + 167), .ref (X.1 + 168), .ref (X.1 + 169), .ref (X.1 + 170), .ref (X.1 + 171), .int 0, .int 0, .int 0, .int 0, .int 0, .int 0, .ref (X.1 + 172), .null, .int 0, .int 0, .null, .long 0, .long 0, .long 0, .long 0, .null, .null, .null, .null, .null, .int 0]))) H _ := hw
  refine i_putF7 hc hw (by omega) 17 (by decide) (Nat.le_of_ble_eq_true rfl) q3_145 rfl hin rfl rfl rfl dX7_init_79 (fun H locs hw => ?_)
  have hw : Wi X s.heap (174) (va_up (fin X G 163) 163 (.inr (7, [.long 0, .ref (X.1 + 164), .int 0, .ref (X.1 + 165), .ref (X.1 + 166), .ref (X.1 + 167), .ref (X.1 + 168), .ref (X.1 + 169), .ref (X.1 + 170), .ref (X.1 + 171), .int 0, .int 0, .int 0, .int 0, .int 0, .int 0, .ref (X.1 + 172), .ref (X.1 + 173), .int 0, .int 0, .null, .long 0, .long 0, .long 0, .long 0, .null, .null, .null, .null, .null, .int 0]))) H locs := hw
  refine lv_aload_n hx hb dX7_init_82 rfl (lv_at hl 0 rfl) ?_
  refine lv_iconst (v := 5) hx hb dX7_init_83 (by decide) ?_
  refine i_arr9 hc hw ((up_fin (by omega)).trans (FFz_9 k174 l174)) q1_50 (by decide) (by decide) (by decide) (Nat.le_of_ble_eq_true rfl) (Nat.le_of_ble_eq_true rfl) dX7_init_84 (fun H hw => ?_)
  have hw : Wi X s.heap (175) (va_up (fin X G 163) 163 (.inr (7, [.long 0, .ref (X.1 + 164), .int 0, .ref (X.1 + 165), .ref (X.1 + 166), .ref (X.1 + 167), .ref (X.1 + 168), .ref (X.1 + 169), .ref (X.1 + 170), .ref (X.1 + 171), .int 0, .int 0, .int 0, .int 0, .int 0, .int 0, .ref (X.1 + 172), .ref (X.1 + 173), .int 0, .int 0, .null, .long 0, .long 0, .long 0, .long 0, .null, .null, .null, .null, .null, .int 0]))) H _ := hw
  refine i_putF7 hc hw (by omega) 20 (by decide) (Nat.le_of_ble_eq_true rfl) q3_148 rfl hin rfl rfl rfl dX7_init_86 (fun H locs hw => ?_)
  have hw : Wi X s.heap (175) (va_up (fin X G 163) 163 (.inr (7, [.long 0, .ref (X.1 + 164), .int 0, .ref (X.1 + 165), .ref (X.1 + 166), .ref (X.1 + 167), .ref (X.1 + 168), .ref (X.1 + 169), .ref (X.1 + 170), .ref (X.1 + 171), .int 0, .int 0, .int 0, .int 0, .int 0, .int 0, .ref (X.1 + 172), .ref (X.1 + 173), .int 0, .int 0, .ref (X.1 + 174), .long 0, .long 0, .long 0, .long 0, .null, .null, .null, .null, .null, .int 0]))) H locs := hw
  refine lv_aload_n hx hb dX7_init_89 rfl (lv_at hl 0 rfl) ?_
  refine lv_iconst (v := 5) hx hb dX7_init_90 (by decide) ?_
  refine i_arr10 hc hw ((up_fin (by omega)).trans (FFz_10 k175 l175)) q1_216 (by decide) (by decide) (by decide) (Nat.le_of_ble_eq_true rfl) (Nat.le_of_ble_eq_true rfl) dX7_init_91 (fun H hw => ?_)
  have hw : Wi X s.heap (176) (va_up (fin X G 163) 163 (.inr (7, [.long 0, .ref (X.1 + 164), .int 0, .ref (X.1 + 165), .ref (X.1 + 166), .ref (X.1 + 167), .ref (X.1 + 168), .ref (X.1 + 169), .ref (X.1 + 170), .ref (X.1 + 171), .int 0, .int 0, .int 0, .int 0, .int 0, .int 0, .ref (X.1 + 172), .ref (X.1 + 173), .int 0, .int 0, .ref (X.1 + 174), .long 0, .long 0, .long 0, .long 0, .null, .null, .null, .null, .null, .int 0]))) H _ := hw
  refine i_putF7 hc hw (by omega) 25 (by decide) (Nat.le_of_ble_eq_true rfl) q3_153 rfl hin rfl rfl rfl dX7_init_93 (fun H locs hw => ?_)
  have hw : Wi X s.heap (176) (va_up (fin X G 163) 163 (.inr (7, [.long 0, .ref (X.1 + 164), .int 0, .ref (X.1 + 165), .ref (X.1 + 166), .ref (X.1 + 167), .ref (X.1 + 168), .ref (X.1 + 169), .ref (X.1 + 170), .ref (X.1 + 171), .int 0, .int 0, .int 0, .int 0, .int 0, .int 0, .ref (X.1 + 172), .ref (X.1 + 173), .int 0, .int 0, .ref (X.1 + 174), .long 0, .long 0, .long 0, .long 0, .ref (X.1 + 175), .null, .null, .null, .null, .int 0]))) H locs := hw
  refine lv_aload_n hx hb dX7_init_96 rfl (lv_at hl 0 rfl) ?_
  refine lv_iconst (v := 5) hx hb dX7_init_97 (by decide) ?_
  refine i_arr10 hc hw ((up_fin (by omega)).trans (FFz_10 k176 l176)) q1_216 (by decide) (by decide) (by decide) (Nat.le_of_ble_eq_true rfl) (Nat.le_of_ble_eq_true rfl) dX7_init_98 (fun H hw => ?_)
  have hw : Wi X s.heap (177) (va_up (fin X G 163) 163 (.inr (7, [.long 0, .ref (X.1 + 164), .int 0, .ref (X.1 + 165), .ref (X.1 + 166), .ref (X.1 + 167), .ref (X.1 + 168), .ref (X.1 + 169), .ref (X.1 + 170), .ref (X.1 + 171), .int 0, .int 0, .int 0, .int 0, .int 0, .int 0, .ref (X.1 + 172), .ref (X.1 + 173), .int 0, .int 0, .ref (X.1 + 174), .long 0, .long 0, .long 0, .long 0, .ref (X.1 + 175), .null, .null, .null, .null, .int 0]))) H _ := hw
  refine i_putF7 hc hw (by omega) 26 (by decide) (Nat.le_of_ble_eq_true rfl) q3_154 rfl hin rfl rfl rfl dX7_init_100 (fun H locs hw => ?_)
  have hw : Wi X s.heap (177) (va_up (fin X G 163) 163 (.inr (7, [.long 0, .ref (X.1 + 164), .int 0, .ref (X.1 + 165), .ref (X.1 + 166), .ref (X.1 + 167), .ref (X.1 + 168), .ref (X.1 + 169), .ref (X.1 + 170), .ref (X.1 + 171), .int 0, .int 0, .int 0, .int 0, .int 0, .int 0, .ref (X.1 + 172), .ref (X.1 + 173), .int 0, .int 0, .ref (X.1 + 174), .long 0, .long 0, .long 0, .long 0, .ref (X.1 + 175), .ref (X.1 + 176), .null, .null, .null, .int 0]))) H locs := hw
  refine lv_aload_n hx hb dX7_init_103 rfl (lv_at hl 0 rfl) ?_
  refine lv_iconst (v := 5) hx hb dX7_init_104 (by decide) ?_
  refine i_arr9 hc hw ((up_fin (by omega)).trans (FFz_9 k177 l177)) q1_50 (by decide) (by decide) (by decide) (Nat.le_of_ble_eq_true rfl) (Nat.le_of_ble_eq_true rfl) dX7_init_105 (fun H hw => ?_)
  have hw : Wi X s.heap (178) (va_up (fin X G 163) 163 (.inr (7, [.long 0, .ref (X.1 + 164), .int 0, .ref (X.1 + 165), .ref (X.1 + 166), .ref (X.1 + 167), .ref (X.1 + 168), .ref (X.1 + 169), .ref (X.1 + 170), .ref (X.1 + 171), .int 0, .int 0, .int 0, .int 0, .int 0, .int 0, .ref (X.1 + 172), .ref (X.1 + 173), .int 0, .int 0, .ref (X.1 + 174), .long 0, .long 0, .long 0, .long 0, .ref (X.1 + 175), .ref (X.1 + 176), .null, .null, .null, .int 0]))) H _ := hw
  refine i_putF7 hc hw (by omega) 27 (by decide) (Nat.le_of_ble_eq_true rfl) q3_155 rfl hin rfl rfl rfl dX7_init_107 (fun H locs hw => ?_)
  have hw : Wi X s.heap (178) (va_up (fin X G 163) 163 (.inr (7, [.long 0, .ref (X.1 + 164), .int 0, .ref (X.1 + 165), .ref (X.1 + 166), .ref (X.1 + 167), .ref (X.1 + 168), .ref (X.1 + 169), .ref (X.1 + 170), .ref (X.1 + 171), .int 0, .int 0, .int 0, .int 0, .int 0, .int 0, .ref (X.1 + 172), .ref (X.1 + 173), .int 0, .int 0, .ref (X.1 + 174), .long 0, .long 0, .long 0, .long 0, .ref (X.1 + 175), .ref (X.1 + 176), .ref (X.1 + 177), .null, .null, .int 0]))) H locs := hw
  refine lv_aload_n hx hb dX7_init_110 rfl (lv_at hl 0 rfl) ?_
  refine lv_bipush (v := 6) hx hb dX7_init_111 (by decide) ?_
  refine i_arr9 hc hw ((up_fin (by omega)).trans (FFz_9 k178 l178)) q1_50 (by decide) (by decide) (by decide) (Nat.le_of_ble_eq_true rfl) (Nat.le_of_ble_eq_true rfl) dX7_init_113 (fun H hw => ?_)
  have hw : Wi X s.heap (179) (va_up (fin X G 163) 163 (.inr (7, [.long 0, .ref (X.1 + 164), .int 0, .ref (X.1 + 165), .ref (X.1 + 166), .ref (X.1 + 167), .ref (X.1 + 168), .ref (X.1 + 169), .ref (X.1 + 170), .ref (X.1 + 171), .int 0, .int 0, .int 0, .int 0, .int 0, .int 0, .ref (X.1 + 172), .ref (X.1 + 173), .int 0, .int 0, .ref (X.1 + 174), .long 0, .long 0, .long 0, .long 0, .ref (X.1 + 175), .ref (X.1 + 176), .ref (X.1 + 177), .null, .null, .int 0]))) H _ := hw
  refine i_putF7 hc hw (by omega) 28 (by decide) (Nat.le_of_ble_eq_true rfl) q3_156 rfl hin rfl rfl rfl dX7_init_115 (fun H locs hw => ?_)
  have hw : Wi X s.heap (179) (va_up (fin X G 163) 163 (.inr (7, [.long 0, .ref (X.1 + 164), .int 0, .ref (X.1 + 165), .ref (X.1 + 166), .ref (X.1 + 167), .ref (X.1 + 168), .ref (X.1 + 169), .ref (X.1 + 170), .ref (X.1 + 171), .int 0, .int 0, .int 0, .int 0, .int 0, .int 0, .ref (X.1 + 172), .ref (X.1 + 173), .int 0, .int 0, .ref (X.1 + 174), .long 0, .long 0, .long 0, .long 0, .ref (X.1 + 175), .ref (X.1 + 176), .ref (X.1 + 177), .ref (X.1 + 178), .null, .int 0]))) H locs := hw
  refine lv_aload_n hx hb dX7_init_118 rfl (lv_at hl 0 rfl) ?_
  refine lv_bipush (v := 6) hx hb dX7_init_119 (by decide) ?_
  refine i_arr9 hc hw ((up_fin (by omega)).trans (FFz_9 k179 l179)) q1_50 (by decide) (by decide) (by decide) (Nat.le_of_ble_eq_true rfl) (Nat.le_of_ble_eq_true rfl) dX7_init_121 (fun H hw => ?_)
  have hw : Wi X s.heap (180) (va_up (fin X G 163) 163 (.inr (7, [.long 0, .ref (X.1 + 164), .int 0, .ref (X.1 + 165), .ref (X.1 + 166), .ref (X.1 + 167), .ref (X.1 + 168), .ref (X.1 + 169), .ref (X.1 + 170), .ref (X.1 + 171), .int 0, .int 0, .int 0, .int 0, .int 0, .int 0, .ref (X.1 + 172), .ref (X.1 + 173), .int 0, .int 0, .ref (X.1 + 174), .long 0, .long 0, .long 0, .long 0, .ref (X.1 + 175), .ref (X.1 + 176), .ref (X.1 + 177), .ref (X.1 + 178), .null, .int 0]))) H _ := hw
  refine i_putF7 hc hw (by omega) 29 (by decide) (Nat.le_of_ble_eq_true rfl) q3_157 rfl hin rfl rfl rfl dX7_init_123 (fun H locs hw => ?_)
  have hw : Wi X s.heap (180) (va_up (fin X G 163) 163 (.inr (7, [.long 0, .ref (X.1 + 164), .int 0, .ref (X.1 + 165), .ref (X.1 + 166), .ref (X.1 + 167), .ref (X.1 + 168), .ref (X.1 + 169), .ref (X.1 + 170), .ref (X.1 + 171), .int 0, .int 0, .int 0, .int 0, .int 0, .int 0, .ref (X.1 + 172), .ref (X.1 + 173), .int 0, .int 0, .ref (X.1 + 174), .long 0, .long 0, .long 0, .long 0, .ref (X.1 + 175), .ref (X.1 + 176), .ref (X.1 + 177), .ref (X.1 + 178), .ref (X.1 + 179), .int 0]))) H locs := hw
  refine lv_aload_n hx hb dX7_init_126 rfl (lv_at hl 0 rfl) ?_
  have hw : Wd X s.heap S00 H locs := wd_of_wi (hw.to (fun j hj => model_done hG j hj))
  refine r_callV7v hc hw hl.1 (As := []) (rest := []) k163 (c_X7_plain l X h1) ms_X7_plain rfl q3_120 rfl rfl ⟨rfl, rfl, Nat.le_of_ble_eq_true rfl, Nat.le_of_ble_eq_true rfl⟩ (Nat.le_of_ble_eq_true rfl) ⟨Nat.le_of_ble_eq_true rfl, Nat.le_of_ble_eq_true rfl⟩ dX7_init_127 (fun H locs hw => ?_)
  refine lv_aload_n hx hb dX7_init_130 rfl (lv_at hl 0 rfl) ?_
  refine r_callV7v hc hw hl.1 (As := []) (rest := []) k163 (c_X7_takeDraft l X h2) ms_X7_takeDraft rfl q3_124 rfl rfl ⟨rfl, rfl, Nat.le_of_ble_eq_true rfl, Nat.le_of_ble_eq_true rfl⟩ (Nat.le_of_ble_eq_true rfl) ⟨Nat.le_of_ble_eq_true rfl, Nat.le_of_ble_eq_true rfl⟩ dX7_init_131 (fun H locs hw => ?_)
  refine W.widen (k := 16) (n := 896) (Nat.le_of_ble_eq_true rfl) (Nat.le_of_ble_eq_true rfl) ?_
  exact r_vret hc hr hw dX7_init_134
