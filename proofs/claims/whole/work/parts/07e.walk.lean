abbrev rm_X6_step : Room := { frames := 1, cells := 0, slots := 0, locals := 23 }
theorem ms_X6_step : MsV yX6_step cX6_step 4 (some .int) 2 := ⟨⟨q2_93, q1_1, by decide, by decide, by decide⟩, q2_91, q2_92⟩
set_option maxRecDepth 20000 in
theorem c_X6_step (l : Launch) (X : Wx) {S S' : Mm} {r : Int32} {x1 : Int32} {x2 : Int32}  (h : f_X6_step S x1 x2 = some (r, S')) : Ct l X yX6_step cX6_step 4 (some .int) rm_X6_step [.ref (X.1 + 0), .int x1, .int x2] S (some (.int r)) S' := by
  refine r_entry (by decide) (Nat.le_of_ble_eq_true rfl) ?_
  intro p e s m args below meth c ls hc hr hw hl
  have hc : Cx p s m args meth c X cX6_step 4 RX6 := hc
  have hl : lv_has ls 4 [(0, .ref (X.1 + 0)), (1, .int x1), (2, .int x2)] := hl
  have hx := hc.1
  have hb := hc.2.1
  unfold f_X6_step at h
  refine lv_aload_n hx hb dX6_step_0 rfl (lv_at hl 0 rfl) ?_
  refine lv_iload_n hx hb dX6_step_1 rfl (lv_at hl 1 rfl) ?_
  obtain ⟨r1, S2, h3, h⟩ := bd_some h
  refine r_callV6i hc hw hl.1 (As := [.int x1]) (rest := []) k0 (c_X6_isStep l X  h3) ms_X6_isStep rfl q2_94 rfl rfl ⟨rfl, rfl, Nat.le_of_ble_eq_true rfl, Nat.le_of_ble_eq_true rfl⟩ (Nat.le_of_ble_eq_true rfl) ⟨Nat.zero_le _, Nat.zero_le _⟩ dX6_step_2 (fun H locs hw => ?_)
  refine lv_if_ne (tgt := 10) hx hb dX6_step_5 (by decide) (fun c4 => ?_) (fun c4 => ?_)
  · have h := ifF c4 h
    refine lv_aload_n hx hb dX6_step_10 rfl (lv_at hl 0 rfl) ?_
    refine r_get6 hc hw k0 3 (by decide) (v := .ref (X.1 + 15)) rfl q1_220 dX6_step_11 ?_
    refine r_get3 hc hw k15 0 (by decide) (v := .ref (X.1 + 16)) rfl q1_154 dX6_step_14 ?_
    refine lv_astore_n (lv' := [(3, .ref (X.1 + 16)), (0, .ref (X.1 + 0)), (1, .int x1), (2, .int x2)]) hx hb dX6_step_17 rfl hl (by decide) rfl (fun ls hl => ?_)
    refine lv_iload_n hx hb dX6_step_18 rfl (lv_at hl 3 rfl) ?_
    by_cases c5 : x2 = 0
    · have h := ifT c5 h
      refine lv_tableIn (off := 45) (tgt := 64) hx hb dX6_step_19 (by rw [c5]; decide) (by rw [c5]; decide) (by rw [c5]; rfl) (by decide) ?_
      refine lv_aload_n hx hb dX6_step_64 rfl (lv_at hl 1 rfl) ?_
      refine r_get6 hc hw k0 1 (by decide) (v := .ref (X.1 + (pl S2))) rfl q1_218 dX6_step_65 ?_
      have kq6 := hw.2.2.1
      refine r_get4 hc hw kq6 2 (by decide) (v := .ref (X.1 + ((pl S2) + 1))) rfl q1_70 dX6_step_68 ?_
      refine lv_iload_n hx hb dX6_step_71 rfl (lv_at hl 2 rfl) ?_
      obtain ⟨b7, h⟩ := bnd_some h
      refine r_iald hc hw (kf_4_seconds kq6) (inL b7 (lf_4_seconds kq6)) dX6_step_72 ?_
      obtain ⟨rfl, rfl⟩ := sm_inj h
      exact r_iret hc hr hw dX6_step_73
    · have h := ifF c5 h
      by_cases c8 : x2 = 1
      · have h := ifT c8 h
        refine lv_tableIn (off := 55) (tgt := 74) hx hb dX6_step_19 (by rw [c8]; decide) (by rw [c8]; decide) (by rw [c8]; rfl) (by decide) ?_
        refine lv_aload_n hx hb dX6_step_74 rfl (lv_at hl 0 rfl) ?_
        refine r_get1 hc hw k16 1 (by decide) (v := .ref (X.1 + 18)) rfl q1_121 dX6_step_75 ?_
        refine lv_iload_n hx hb dX6_step_78 rfl (lv_at hl 2 rfl) ?_
        obtain ⟨b9, h⟩ := bnd_some h
        refine r_iald hc hw k18 (inL b9 l18) dX6_step_79 ?_
        obtain ⟨rfl, rfl⟩ := sm_inj h
        exact r_iret hc hr hw dX6_step_80
      · have h := ifF c8 h
        by_cases c10 : x2 = 2
        · have h := ifT c10 h
          refine lv_tableIn (off := 62) (tgt := 81) hx hb dX6_step_19 (by rw [c10]; decide) (by rw [c10]; decide) (by rw [c10]; rfl) (by decide) ?_
          refine lv_aload_n hx hb dX6_step_81 rfl (lv_at hl 1 rfl) ?_
          refine r_get6 hc hw k0 1 (by decide) (v := .ref (X.1 + (pl S2))) rfl q1_218 dX6_step_82 ?_
          have kq11 := hw.2.2.1
          refine r_get4 hc hw kq11 4 (by decide) (v := .ref (X.1 + ((pl S2) + 3))) rfl q1_78 dX6_step_85 ?_
          refine lv_iload_n hx hb dX6_step_88 rfl (lv_at hl 2 rfl) ?_
          obtain ⟨b12, h⟩ := bnd_some h
          refine r_iald hc hw (kf_4_look kq11) (inL b12 (lf_4_look kq11)) dX6_step_89 ?_
          obtain ⟨rfl, rfl⟩ := sm_inj h
          exact r_iret hc hr hw dX6_step_90
        · have h := ifF c10 h
          by_cases c13 : x2 = 3
          · have h := ifT c13 h
            refine lv_tableIn (off := 72) (tgt := 91) hx hb dX6_step_19 (by rw [c13]; decide) (by rw [c13]; decide) (by rw [c13]; rfl) (by decide) ?_
            refine lv_aload_n hx hb dX6_step_91 rfl (lv_at hl 1 rfl) ?_
            refine r_get6 hc hw k0 1 (by decide) (v := .ref (X.1 + (pl S2))) rfl q1_218 dX6_step_92 ?_
            have kq14 := hw.2.2.1
            refine r_get4 hc hw kq14 5 (by decide) (v := .ref (X.1 + ((pl S2) + 4))) rfl q1_83 dX6_step_95 ?_
            refine lv_iload_n hx hb dX6_step_98 rfl (lv_at hl 2 rfl) ?_
            obtain ⟨b15, h⟩ := bnd_some h
            refine r_iald hc hw (kf_4_miss kq14) (inL b15 (lf_4_miss kq14)) dX6_step_99 ?_
            obtain ⟨rfl, rfl⟩ := sm_inj h
            exact r_iret hc hr hw dX6_step_100
          · have h := ifF c13 h
            by_cases c16 : x2 = 4
            · have h := ifT c16 h
              refine lv_tableIn (off := 82) (tgt := 101) hx hb dX6_step_19 (by rw [c16]; decide) (by rw [c16]; decide) (by rw [c16]; rfl) (by decide) ?_
              refine lv_aload_n hx hb dX6_step_101 rfl (lv_at hl 0 rfl) ?_
              refine r_get1 hc hw k16 3 (by decide) (v := .int (gI S2 16 3)) rfl q1_126 dX6_step_102 ?_
              refine lv_iload_n hx hb dX6_step_105 rfl (lv_at hl 2 rfl) ?_
              refine lv_ishr hx hb dX6_step_106 ?_
              refine lv_iconst (v := 1) hx hb dX6_step_107 (by decide) ?_
              refine lv_iand hx hb dX6_step_108 ?_
              obtain ⟨rfl, rfl⟩ := sm_inj h
              exact r_iret hc hr hw dX6_step_109
            · have h := ifF c16 h
              by_cases c17 : x2 = 5
              · have h := ifT c17 h
                refine lv_tableIn (off := 91) (tgt := 110) hx hb dX6_step_19 (by rw [c17]; decide) (by rw [c17]; decide) (by rw [c17]; rfl) (by decide) ?_
                refine lv_aload_n hx hb dX6_step_110 rfl (lv_at hl 0 rfl) ?_
                refine r_get1 hc hw k16 2 (by decide) (v := .ref (X.1 + 19)) rfl q1_123 dX6_step_111 ?_
                refine lv_iload_n hx hb dX6_step_114 rfl (lv_at hl 2 rfl) ?_
                obtain ⟨b18, h⟩ := bnd_some h
                refine r_iald hc hw k19 (inL b18 l19) dX6_step_115 ?_
                obtain ⟨rfl, rfl⟩ := sm_inj h
                exact r_iret hc hr hw dX6_step_116
              · have h := ifF c17 h
                by_cases c19 : x2 = 6
                · have h := ifT c19 h
                  refine lv_tableIn (off := 98) (tgt := 117) hx hb dX6_step_19 (by rw [c19]; decide) (by rw [c19]; decide) (by rw [c19]; rfl) (by decide) ?_
                  refine lv_aload_n hx hb dX6_step_117 rfl (lv_at hl 0 rfl) ?_
                  refine lv_iload_n hx hb dX6_step_118 rfl (lv_at hl 2 rfl) ?_
                  refine lv_aload_n hx hb dX6_step_119 rfl (lv_at hl 1 rfl) ?_
                  refine r_get6 hc hw k0 1 (by decide) (v := .ref (X.1 + (pl S2))) rfl q1_218 dX6_step_120 ?_
                  have kq20 := hw.2.2.1
                  refine r_get4 hc hw kq20 0 (by decide) (v := .int (gI S2 (pl S2) 0)) rfl q1_61 dX6_step_123 ?_
                  obtain ⟨r21, S22, h23, h⟩ := bd_some h
                  refine r_callV1i hc hw hl.1 (As := [.int x1, .int (gI S2 (pl S2) 0)]) (rest := []) k16 (c_X1_placeOf l X k16 h23) ms_X1_placeOf rfl q2_98 rfl rfl ⟨rfl, rfl, Nat.le_of_ble_eq_true rfl, Nat.le_of_ble_eq_true rfl⟩ (Nat.le_of_ble_eq_true rfl) ⟨Nat.zero_le _, Nat.zero_le _⟩ dX6_step_126 (fun H locs hw => ?_)
                  obtain ⟨rfl, rfl⟩ := sm_inj h
                  exact r_iret hc hr hw dX6_step_129
                · have h := ifF c19 h
                  by_cases c24 : x2 = 7
                  · have h := ifT c24 h
                    refine lv_tableIn (off := 111) (tgt := 130) hx hb dX6_step_19 (by rw [c24]; decide) (by rw [c24]; decide) (by rw [c24]; rfl) (by decide) ?_
                    refine lv_aload_n hx hb dX6_step_130 rfl (lv_at hl 1 rfl) ?_
                    refine r_get6 hc hw k0 1 (by decide) (v := .ref (X.1 + (pl S2))) rfl q1_218 dX6_step_131 ?_
                    have kq25 := hw.2.2.1
                    refine r_get4 hc hw kq25 6 (by decide) (v := .ref (X.1 + ((pl S2) + 5))) rfl q1_86 dX6_step_134 ?_
                    refine lv_iload_n hx hb dX6_step_137 rfl (lv_at hl 2 rfl) ?_
                    obtain ⟨b26, h⟩ := bnd_some h
                    refine r_iald hc hw (kf_4_ahead kq25) (inL b26 (lf_4_ahead kq25)) dX6_step_138 ?_
                    obtain ⟨rfl, rfl⟩ := sm_inj h
                    exact r_iret hc hr hw dX6_step_139
                  · have h := ifF c24 h
                    refine lv_tableOut (tgt := 140) hx hb dX6_step_19 (by have := lv_neT c5 (a := 0) (by decide); have := lv_neT c8 (a := 1) (by decide); have := lv_neT c10 (a := 2) (by decide); have := lv_neT c13 (a := 3) (by decide); have := lv_neT c16 (a := 4) (by decide); have := lv_neT c17 (a := 5) (by decide); have := lv_neT c19 (a := 6) (by decide); have := lv_neT c24 (a := 7) (by decide); omega) (by decide) ?_
                    refine lv_iconst (v := (-1)) hx hb dX6_step_140 (by decide) ?_
                    obtain ⟨rfl, rfl⟩ := sm_inj h
                    exact r_iret hc hr hw dX6_step_141
  · have h := ifT c4 h
    refine lv_iconst (v := (-1)) hx hb dX6_step_8 (by decide) ?_
    obtain ⟨rfl, rfl⟩ := sm_inj h
    exact r_iret hc hr hw dX6_step_9
abbrev rm_X6_tells : Room := { frames := 1, cells := 0, slots := 0, locals := 20 }
theorem ms_X6_tells : MsV yX6_tells cX6_tells 3 (some .int) 2 := ⟨⟨q3_44, q1_1, by decide, by decide, by decide⟩, q3_42, q3_43⟩
set_option maxRecDepth 20000 in
theorem c_X6_tells (l : Launch) (X : Wx) {S S' : Mm} {r : Int32} {x1 : Int32} {x2 : Int32}  (h : f_X6_tells S x1 x2 = some (r, S')) : Ct l X yX6_tells cX6_tells 3 (some .int) rm_X6_tells [.ref (X.1 + 0), .int x1, .int x2] S (some (.int r)) S' := by
  refine r_entry (by decide) (Nat.le_of_ble_eq_true rfl) ?_
  intro p e s m args below meth c ls hc hr hw hl
  have hc : Cx p s m args meth c X cX6_tells 3 RX6 := hc
  have hl : lv_has ls 3 [(0, .ref (X.1 + 0)), (1, .int x1), (2, .int x2)] := hl
  have hx := hc.1
  have hb := hc.2.1
  unfold f_X6_tells at h
  refine lv_iload_n hx hb dX6_tells_0 rfl (lv_at hl 1 rfl) ?_
  obtain ⟨r1, S2, h3, h⟩ := bd_some h
  refine r_callSi hc hw hl.1 (As := [.int x1]) (rest := []) (c_X6_isDraw l X  h3) ms_X6_isDraw q2_110 rfl rfl ⟨rfl, rfl, Nat.le_of_ble_eq_true rfl, Nat.le_of_ble_eq_true rfl⟩ (Nat.le_of_ble_eq_true rfl) ⟨Nat.zero_le _, Nat.zero_le _⟩ dX6_tells_1 (fun H locs hw => ?_)
  refine lv_if_eq (tgt := 16) hx hb dX6_tells_4 (by decide) (fun c4 => ?_) (fun c4 => ?_)
  · have h := ifT c4 h
    refine lv_iconst (v := (-1)) hx hb dX6_tells_16 (by decide) ?_
    obtain ⟨rfl, rfl⟩ := sm_inj h
    exact r_iret hc hr hw dX6_tells_17
  · have h := ifF c4 h
    refine lv_iload_n hx hb dX6_tells_7 rfl (lv_at hl 2 rfl) ?_
    refine lv_if_lt (tgt := 16) hx hb dX6_tells_8 (by decide) (fun c5 => ?_) (fun c5 => ?_)
    · have h := ifT c5 h
      refine lv_iconst (v := (-1)) hx hb dX6_tells_16 (by decide) ?_
      obtain ⟨rfl, rfl⟩ := sm_inj h
      exact r_iret hc hr hw dX6_tells_17
    · have h := ifF c5 h
      refine lv_iload_n hx hb dX6_tells_11 rfl (lv_at hl 2 rfl) ?_
      refine lv_iconst (v := 2) hx hb dX6_tells_12 (by decide) ?_
      refine lv_icmp_le (tgt := 18) hx hb dX6_tells_13 (by decide) (fun c6 => ?_) (fun c6 => ?_)
      · have h := ifT c6 h
        refine lv_aload_n hx hb dX6_tells_18 rfl (lv_at hl 0 rfl) ?_
        refine r_get6 hc hw k0 8 (by decide) (v := .int (gI S2 0 8)) rfl q1_225 dX6_tells_19 ?_
        refine lv_bipush (v := 6) hx hb dX6_tells_22 (by decide) ?_
        refine lv_icmp_lt (tgt := 30) hx hb dX6_tells_24 (by decide) (fun c7 => ?_) (fun c7 => ?_)
        · have h := ifT c7 h
          refine lv_aload_n hx hb dX6_tells_30 rfl (lv_at hl 0 rfl) ?_
          refine r_get6 hc hw k0 6 (by decide) (v := .ref (X.1 + 155)) rfl q1_223 dX6_tells_31 ?_
          refine lv_aload_n hx hb dX6_tells_34 rfl (lv_at hl 0 rfl) ?_
          refine r_get6 hc hw k0 8 (by decide) (v := .int (gI S2 0 8)) rfl q1_225 dX6_tells_35 ?_
          refine lv_iload_n hx hb dX6_tells_38 rfl (lv_at hl 1 rfl) ?_
          obtain ⟨b8, h⟩ := bnd_some h
          obtain ⟨S9, e10, h⟩ := nm_some h
          refine r_iast hc hw k155 (inL b8 l155) e10 dX6_tells_39 (fun H locs hw => ?_)
          refine lv_aload_n hx hb dX6_tells_40 rfl (lv_at hl 0 rfl) ?_
          refine r_get6 hc hw k0 7 (by decide) (v := .ref (X.1 + 156)) rfl q1_224 dX6_tells_41 ?_
          refine lv_aload_n hx hb dX6_tells_44 rfl (lv_at hl 0 rfl) ?_
          refine r_get6 hc hw k0 8 (by decide) (v := .int (gI S9 0 8)) rfl q1_225 dX6_tells_45 ?_
          refine lv_iload_n hx hb dX6_tells_48 rfl (lv_at hl 2 rfl) ?_
          obtain ⟨b11, h⟩ := bnd_some h
          obtain ⟨S12, e13, h⟩ := nm_some h
          refine r_iast hc hw k156 (inL b11 l156) e13 dX6_tells_49 (fun H locs hw => ?_)
          refine lv_aload_n hx hb dX6_tells_50 rfl (lv_at hl 0 rfl) ?_
          refine lv_dup hx hb dX6_tells_51 rfl ?_
          refine r_get6 hc hw k0 8 (by decide) (v := .int (gI S12 0 8)) rfl q1_225 dX6_tells_52 ?_
          refine lv_iconst (v := 1) hx hb dX6_tells_55 (by decide) ?_
          refine lv_iadd hx hb dX6_tells_56 ?_
          obtain ⟨S14, e15, h⟩ := nm_some h
          refine r_put6_8 hc hw k0 e15 q1_225 dX6_tells_57 (fun H locs hw => ?_)
          refine lv_aload_n hx hb dX6_tells_60 rfl (lv_at hl 0 rfl) ?_
          refine r_get6 hc hw k0 8 (by decide) (v := .int (gI S14 0 8)) rfl q1_225 dX6_tells_61 ?_
          obtain ⟨rfl, rfl⟩ := sm_inj h
          exact r_iret hc hr hw dX6_tells_64
        · have h := ifF c7 h
          refine lv_bipush (v := (-3)) hx hb dX6_tells_27 (by decide) ?_
          obtain ⟨rfl, rfl⟩ := sm_inj h
          exact r_iret hc hr hw dX6_tells_29
      · have h := ifF c6 h
        refine lv_iconst (v := (-1)) hx hb dX6_tells_16 (by decide) ?_
        obtain ⟨rfl, rfl⟩ := sm_inj h
        exact r_iret hc hr hw dX6_tells_17
abbrev rm_X6_trace : Room := { frames := 0, cells := 0, slots := 0, locals := 0 }
theorem ms_X6_trace : MsV yX6_trace cX6_trace 1 (some .long) 0 := ⟨⟨q3_113, q1_1, by decide, by decide, by decide⟩, q3_111, q3_112⟩
set_option maxRecDepth 20000 in
theorem c_X6_trace (l : Launch) (X : Wx) {S S' : Mm} {r : Int64}   (h : f_X6_trace S = some (r, S')) : Ct l X yX6_trace cX6_trace 1 (some .long) rm_X6_trace [.ref (X.1 + 0)] S (some (.long r)) S' := by
  refine r_entry (by decide) (Nat.le_of_ble_eq_true rfl) ?_
  intro p e s m args below meth c ls hc hr hw hl
  have hc : Cx p s m args meth c X cX6_trace 1 RX6 := hc
  have hl : lv_has ls 1 [(0, .ref (X.1 + 0))] := hl
  have hx := hc.1
  have hb := hc.2.1
  unfold f_X6_trace at h
  refine lv_aload_n hx hb dX6_trace_0 rfl (lv_at hl 0 rfl) ?_
  refine r_get6 hc hw k0 13 (by decide) (v := .long (gJ S 0 13)) rfl q1_230 dX6_trace_1 ?_
  obtain ⟨rfl, rfl⟩ := sm_inj h
  exact r_lret hc hr hw dX6_trace_4
abbrev rm_X6_type : Room := { frames := 1, cells := 0, slots := 0, locals := 21 }
theorem ms_X6_type : MsV yX6_type cX6_type 2 (some .int) 1 := ⟨⟨q2_23, q1_1, by decide, by decide, by decide⟩, q2_21, q2_22⟩
set_option maxRecDepth 20000 in
theorem c_X6_type (l : Launch) (X : Wx) {S S' : Mm} {r : Int32} {x1 : Int32}  (h : f_X6_type S x1 = some (r, S')) : Ct l X yX6_type cX6_type 2 (some .int) rm_X6_type [.ref (X.1 + 0), .int x1] S (some (.int r)) S' := by
  refine r_entry (by decide) (Nat.le_of_ble_eq_true rfl) ?_
  intro p e s m args below meth c ls hc hr hw hl
  have hc : Cx p s m args meth c X cX6_type 2 RX6 := hc
  have hl : lv_has ls 2 [(0, .ref (X.1 + 0)), (1, .int x1)] := hl
  have hx := hc.1
  have hb := hc.2.1
  unfold f_X6_type at h
  refine lv_iload_n hx hb dX6_type_0 rfl (lv_at hl 1 rfl) ?_
  refine lv_if_lt (tgt := 11) hx hb dX6_type_1 (by decide) (fun c1 => ?_) (fun c1 => ?_)
  · have h := ifT c1 h
    refine lv_iconst (v := (-1)) hx hb dX6_type_11 (by decide) ?_
    obtain ⟨rfl, rfl⟩ := sm_inj h
    exact r_iret hc hr hw dX6_type_12
  · have h := ifF c1 h
    refine lv_iload_n hx hb dX6_type_4 rfl (lv_at hl 1 rfl) ?_
    refine lv_sipush (v := 255) hx hb dX6_type_5 (by decide) ?_
    refine lv_icmp_le (tgt := 13) hx hb dX6_type_8 (by decide) (fun c2 => ?_) (fun c2 => ?_)
    · have h := ifT c2 h
      refine lv_aload_n hx hb dX6_type_13 rfl (lv_at hl 0 rfl) ?_
      refine r_get6 hc hw k0 0 (by decide) (v := .ref (X.1 + 1)) rfl q1_217 dX6_type_14 ?_
      refine lv_iload_n hx hb dX6_type_17 rfl (lv_at hl 1 rfl) ?_
      obtain ⟨r3, S4, h5, h⟩ := bd_some h
      refine r_callV5i hc hw hl.1 (As := [.int x1]) (rest := []) k1 (c_X5_add l X  h5) ms_X5_add rfl q2_24 rfl rfl ⟨rfl, rfl, Nat.le_of_ble_eq_true rfl, Nat.le_of_ble_eq_true rfl⟩ (Nat.le_of_ble_eq_true rfl) ⟨Nat.zero_le _, Nat.zero_le _⟩ dX6_type_18 (fun H locs hw => ?_)
      refine lv_if_eq (tgt := 34) hx hb dX6_type_21 (by decide) (fun c6 => ?_) (fun c6 => ?_)
      · have h := ifT c6 h
        refine lv_bipush (v := (-3)) hx hb dX6_type_34 (by decide) ?_
        obtain ⟨rfl, rfl⟩ := sm_inj h
        exact r_iret hc hr hw dX6_type_36
      · have h := ifF c6 h
        refine lv_aload_n hx hb dX6_type_24 rfl (lv_at hl 0 rfl) ?_
        refine r_get6 hc hw k0 0 (by decide) (v := .ref (X.1 + 1)) rfl q1_217 dX6_type_25 ?_
        refine r_get5 hc hw k1 1 (by decide) (v := .int (gI S4 1 1)) rfl q1_28 dX6_type_28 ?_
        refine lv_goto (tgt := 36) hx hb dX6_type_31 (by decide) ?_
        obtain ⟨rfl, rfl⟩ := sm_inj h
        exact r_iret hc hr hw dX6_type_36
    · have h := ifF c2 h
      refine lv_iconst (v := (-1)) hx hb dX6_type_11 (by decide) ?_
      obtain ⟨rfl, rfl⟩ := sm_inj h
      exact r_iret hc hr hw dX6_type_12
abbrev rm_X6_undo : Room := { frames := 3, cells := 0, slots := 0, locals := 81 }
theorem ms_X6_undo : MsV yX6_undo cX6_undo 1 (some .int) 0 := ⟨⟨q2_176, q1_1, by decide, by decide, by decide⟩, q2_174, q2_175⟩
set_option maxRecDepth 20000 in
theorem c_X6_undo (l : Launch) (X : Wx) {S S' : Mm} {r : Int32}   (h : f_X6_undo S = some (r, S')) : Ct l X yX6_undo cX6_undo 1 (some .int) rm_X6_undo [.ref (X.1 + 0)] S (some (.int r)) S' := by
  refine r_entry (by decide) (Nat.le_of_ble_eq_true rfl) ?_
  intro p e s m args below meth c ls hc hr hw hl
  have hc : Cx p s m args meth c X cX6_undo 1 RX6 := hc
  have hl : lv_has ls 1 [(0, .ref (X.1 + 0))] := hl
  have hx := hc.1
  have hb := hc.2.1
  unfold f_X6_undo at h
  refine lv_aload_n hx hb dX6_undo_0 rfl (lv_at hl 0 rfl) ?_
  refine r_get6 hc hw k0 3 (by decide) (v := .ref (X.1 + 15)) rfl q1_220 dX6_undo_1 ?_
  obtain ⟨r1, S2, h3, h⟩ := bd_some h
  refine r_callV3i hc hw hl.1 (As := []) (rest := []) k15 (c_X3_restore l X k15 h3) ms_X3_restore rfl q2_177 rfl rfl ⟨rfl, rfl, Nat.le_of_ble_eq_true rfl, Nat.le_of_ble_eq_true rfl⟩ (Nat.le_of_ble_eq_true rfl) ⟨Nat.zero_le _, Nat.zero_le _⟩ dX6_undo_4 (fun H locs hw => ?_)
  refine lv_if_eq (tgt := 20) hx hb dX6_undo_7 (by decide) (fun c4 => ?_) (fun c4 => ?_)
  · have h := ifT c4 h
    refine lv_bipush (v := (-2)) hx hb dX6_undo_20 (by decide) ?_
    obtain ⟨rfl, rfl⟩ := sm_inj h
    exact r_iret hc hr hw dX6_undo_22
  · have h := ifF c4 h
    refine lv_aload_n hx hb dX6_undo_10 rfl (lv_at hl 0 rfl) ?_
    refine r_get6 hc hw k0 3 (by decide) (v := .ref (X.1 + 15)) rfl q1_220 dX6_undo_11 ?_
    refine r_get3 hc hw k15 3 (by decide) (v := .int (gI S2 15 3)) rfl q1_158 dX6_undo_14 ?_
    refine lv_goto (tgt := 22) hx hb dX6_undo_17 (by decide) ?_
    obtain ⟨rfl, rfl⟩ := sm_inj h
    exact r_iret hc hr hw dX6_undo_22
abbrev rm_X6_who : Room := { frames := 3, cells := 0, slots := 0, locals := 71 }
theorem ms_X6_who : MsV yX6_who cX6_who 6 (some .int) 1 := ⟨⟨q3_52, q1_1, by decide, by decide, by decide⟩, q3_50, q3_51⟩
set_option maxRecDepth 20000 in
theorem w_X6_who_57 {p : Program} {l : Launch} {e : Env} {s : State} {m : MethodId} {args : Array Value} {below : List Frame} {meth : Method} {c : Code} {X : Wx} {r : Int32} {S' : Mm} (hc : Cx p s m args meth c X cX6_who 6 RX6) (hr : meth.sig.returnType = (some .int))  {kk23 : Int32 → Int32 → Int32 → Int32 → Int32 → Mm → Option (Int32 × Mm)} (hk23 : ∀ (x1 : Int32) (x2 : Int32) (x3 : Int32) (x4 : Int32) (x5 : Int32) (S : Mm) (H : Heap) (locs : List Loc) (ls : Array Slot), Wd X s.heap S H locs → lv_has ls 6 [(0, .ref (X.1 + 0)), (1, .int x1), (2, .int x2), (3, .int x3), (4, .int x4), (5, .int x5)] → kk23 x1 x2 x3 x4 x5 S = some (r, S') → W p l e rm_X6_who s m args below meth c H locs 0 0 (MQ below (Qq X (some (.int r)) S') args s 0 0 (AA X.1)) (F0 m 23 ls [])) : ∀ (x1 : Int32) (x2 : Int32) (x3 : Int32) (x4 : Int32) (x5 : Int32) (S : Mm) (H : Heap) (locs : List Loc) (ls : Array Slot), Wd X s.heap S H locs → lv_has ls 6 [(0, .ref (X.1 + 0)), (1, .int x1), (2, .int x2), (3, .int x3), (4, .int x4), (5, .int x5)] → f_X6_who_57 kk23 x1 x2 x3 x4 x5 S = some (r, S') → W p l e rm_X6_who s m args below meth c H locs 0 0 (MQ below (Qq X (some (.int r)) S') args s 0 0 (AA X.1)) (F0 m 57 ls []) := by
  have hx := hc.1
  have hb := hc.2.1
  intro x1 x2 x3 x4 x5 S H locs ls hw hl h
  unfold f_X6_who_57 at h
  refine lv_iload_n hx hb dX6_who_57 rfl (lv_at hl 2 rfl) ?_
  refine lv_if_ne (tgt := 66) hx hb dX6_who_58 (by decide) (fun c1 => ?_) (fun c1 => ?_)
  · have h := ifF c1 h
    refine lv_iload hx hb dX6_who_66 (lv_at hl 4 rfl) ?_
    refine lv_iload hx hb dX6_who_68 (lv_at hl 5 rfl) ?_
    refine lv_iand hx hb dX6_who_70 ?_
    obtain ⟨v2, e3, h⟩ := nm_some h
    refine r_top e3 ?_
    refine lv_istore (lv' := [(4, .int v2), (0, .ref (X.1 + 0)), (1, .int x1), (2, .int x2), (3, .int x3), (5, .int x5)]) hx hb dX6_who_71 hl (by decide) rfl (fun ls hl => ?_)
    obtain ⟨v4, e5, h⟩ := nm_some h
    refine lv_iinc (v := v4) (lv' := [(2, .int v4), (4, .int v2), (0, .ref (X.1 + 0)), (1, .int x1), (3, .int x3), (5, .int x5)]) hx hb dX6_who_73 hl (k := 3) rfl (by rw [e5]; rfl) (by decide) rfl (fun ls hl => ?_)
    obtain ⟨v6, e7, h⟩ := nm_some h
    refine lv_iinc (v := v6) (lv' := [(5, .int v6), (2, .int v4), (4, .int v2), (0, .ref (X.1 + 0)), (1, .int x1), (3, .int x3)]) hx hb dX6_who_76 hl (k := 5) rfl (by rw [e7]; rfl) (by decide) rfl (fun ls hl => ?_)
    refine lv_goto (tgt := 23) hx hb dX6_who_79 (by decide) ?_
    exact hk23 x1 v4 x3 v2 v6 S _ _ _ hw (lv_sub hl [3, 4, 1, 5, 2, 0] rfl) h
  · have h := ifT c1 h
    refine lv_iload hx hb dX6_who_61 (lv_at hl 5 rfl) ?_
    refine lv_goto (tgt := 71) hx hb dX6_who_63 (by decide) ?_
    refine lv_istore (lv' := [(4, .int x5), (0, .ref (X.1 + 0)), (1, .int x1), (2, .int x2), (3, .int x3), (5, .int x5)]) hx hb dX6_who_71 hl (by decide) rfl (fun ls hl => ?_)
    obtain ⟨v8, e9, h⟩ := nm_some h
    refine lv_iinc (v := v8) (lv' := [(2, .int v8), (4, .int x5), (0, .ref (X.1 + 0)), (1, .int x1), (3, .int x3), (5, .int x5)]) hx hb dX6_who_73 hl (k := 3) rfl (by rw [e9]; rfl) (by decide) rfl (fun ls hl => ?_)
    obtain ⟨v10, e11, h⟩ := nm_some h
    refine lv_iinc (v := v10) (lv' := [(5, .int v10), (2, .int v8), (4, .int x5), (0, .ref (X.1 + 0)), (1, .int x1), (3, .int x3)]) hx hb dX6_who_76 hl (k := 5) rfl (by rw [e11]; rfl) (by decide) rfl (fun ls hl => ?_)
    refine lv_goto (tgt := 23) hx hb dX6_who_79 (by decide) ?_
    exact hk23 x1 v8 x3 x5 v10 S _ _ _ hw (lv_sub hl [3, 4, 1, 5, 2, 0] rfl) h
set_option maxRecDepth 20000 in
theorem w_X6_who_23 {p : Program} {l : Launch} {e : Env} {s : State} {m : MethodId} {args : Array Value} {below : List Frame} {meth : Method} {c : Code} {X : Wx} {r : Int32} {S' : Mm} (hc : Cx p s m args meth c X cX6_who 6 RX6) (hr : meth.sig.returnType = (some .int))   : ∀ (n : Nat), ∀ (x1 : Int32) (x2 : Int32) (x3 : Int32) (x4 : Int32) (x5 : Int32) (S : Mm) (H : Heap) (locs : List Loc) (ls : Array Slot), Wd X s.heap S H locs → lv_has ls 6 [(0, .ref (X.1 + 0)), (1, .int x1), (2, .int x2), (3, .int x3), (4, .int x4), (5, .int x5)] → f_X6_who_23 n x1 x2 x3 x4 x5 S = some (r, S') → W p l e rm_X6_who s m args below meth c H locs 0 0 (MQ below (Qq X (some (.int r)) S') args s 0 0 (AA X.1)) (F0 m 23 ls []) := by
  have hx := hc.1
  have hb := hc.2.1
  intro n
  induction n with
  | zero => intro x1 x2 x3 x4 x5 S H locs ls hw hl h; cases h
  | succ n ih =>
    intro x1 x2 x3 x4 x5 S H locs ls hw hl h
    rw [f_X6_who_23] at h
    refine lv_iload hx hb dX6_who_23 (lv_at hl 5 rfl) ?_
    refine lv_iconst (v := 1) hx hb dX6_who_25 (by decide) ?_
    refine lv_aload_n hx hb dX6_who_26 rfl (lv_at hl 0 rfl) ?_
    refine r_get6 hc hw k0 1 (by decide) (v := .ref (X.1 + (pl S))) rfl q1_218 dX6_who_27 ?_
    have kq1 := hw.2.2.1
    refine r_get4 hc hw kq1 0 (by decide) (v := .int (gI S (pl S) 0)) rfl q1_61 dX6_who_30 ?_
    refine lv_ishl hx hb dX6_who_33 ?_
    refine lv_icmp_ge (tgt := 82) hx hb dX6_who_34 (by decide) (fun c2 => ?_) (fun c2 => ?_)
    · have h := ifT c2 h
      refine lv_iload_n hx hb dX6_who_82 rfl (lv_at hl 1 rfl) ?_
      refine lv_if_ne (tgt := 90) hx hb dX6_who_83 (by decide) (fun c3 => ?_) (fun c3 => ?_)
      · have h := ifF c3 h
        refine lv_iload_n hx hb dX6_who_90 rfl (lv_at hl 1 rfl) ?_
        refine lv_iconst (v := 1) hx hb dX6_who_91 (by decide) ?_
        refine lv_icmp_ne (tgt := 99) hx hb dX6_who_92 (by decide) (fun c4 => ?_) (fun c4 => ?_)
        · have h := ifF c4 h
          refine lv_iload hx hb dX6_who_99 (lv_at hl 4 rfl) ?_
          obtain ⟨rfl, rfl⟩ := sm_inj h
          exact r_iret hc hr hw dX6_who_101
        · have h := ifT c4 h
          refine lv_iload_n hx hb dX6_who_95 rfl (lv_at hl 3 rfl) ?_
          refine lv_goto (tgt := 101) hx hb dX6_who_96 (by decide) ?_
          obtain ⟨rfl, rfl⟩ := sm_inj h
          exact r_iret hc hr hw dX6_who_101
      · have h := ifT c3 h
        refine lv_iload_n hx hb dX6_who_86 rfl (lv_at hl 2 rfl) ?_
        refine lv_goto (tgt := 101) hx hb dX6_who_87 (by decide) ?_
        obtain ⟨rfl, rfl⟩ := sm_inj h
        exact r_iret hc hr hw dX6_who_101
    · have h := ifF c2 h
      refine lv_aload_n hx hb dX6_who_37 rfl (lv_at hl 0 rfl) ?_
      refine lv_iload hx hb dX6_who_38 (lv_at hl 5 rfl) ?_
      obtain ⟨r5, S6, h7, h⟩ := bd_some h
      refine r_callV6i hc hw hl.1 (As := [.int x5]) (rest := []) k0 (c_X6_explainsTold l X  h7) ms_X6_explainsTold rfl q3_53 rfl rfl ⟨rfl, rfl, Nat.le_of_ble_eq_true rfl, Nat.le_of_ble_eq_true rfl⟩ (Nat.le_of_ble_eq_true rfl) ⟨Nat.zero_le _, Nat.zero_le _⟩ dX6_who_40 (fun H locs hw => ?_)
      refine lv_if_eq (tgt := 76) hx hb dX6_who_43 (by decide) (fun c8 => ?_) (fun c8 => ?_)
      · have h := ifT c8 h
        obtain ⟨v9, e10, h⟩ := nm_some h
        refine lv_iinc (v := v9) (lv' := [(5, .int v9), (0, .ref (X.1 + 0)), (1, .int x1), (2, .int x2), (3, .int x3), (4, .int x4)]) hx hb dX6_who_76 hl (k := 5) rfl (by rw [e10]; rfl) (by decide) rfl (fun ls hl => ?_)
        refine lv_goto (tgt := 23) hx hb dX6_who_79 (by decide) ?_
        exact ih x1 x2 x3 x4 v9 S6 _ _ _ hw (lv_sub hl [1, 2, 3, 4, 5, 0] rfl) h
      · have h := ifF c8 h
        refine lv_iload_n hx hb dX6_who_46 rfl (lv_at hl 2 rfl) ?_
        refine lv_if_ne (tgt := 55) hx hb dX6_who_47 (by decide) (fun c11 => ?_) (fun c11 => ?_)
        · have h := ifF c11 h
          refine lv_iload_n hx hb dX6_who_55 rfl (lv_at hl 3 rfl) ?_
          refine lv_istore_n (lv' := [(3, .int x3), (0, .ref (X.1 + 0)), (1, .int x1), (2, .int x2), (4, .int x4), (5, .int x5)]) hx hb dX6_who_56 rfl hl (by decide) rfl (fun ls hl => ?_)
          exact w_X6_who_57 hc hr ih x1 x2 x3 x4 x5 S6 _ _ _ hw (lv_sub hl [1, 2, 3, 0, 4, 5] rfl) h
        · have h := ifT c11 h
          refine lv_iload hx hb dX6_who_50 (lv_at hl 5 rfl) ?_
          refine lv_goto (tgt := 56) hx hb dX6_who_52 (by decide) ?_
          refine lv_istore_n (lv' := [(3, .int x5), (0, .ref (X.1 + 0)), (1, .int x1), (2, .int x2), (4, .int x4), (5, .int x5)]) hx hb dX6_who_56 rfl hl (by decide) rfl (fun ls hl => ?_)
          exact w_X6_who_57 hc hr ih x1 x2 x5 x4 x5 S6 _ _ _ hw (lv_sub hl [1, 2, 3, 0, 4, 5] rfl) h
set_option maxRecDepth 20000 in
theorem c_X6_who (l : Launch) (X : Wx) {S S' : Mm} {r : Int32} {x1 : Int32}  (h : f_X6_who S x1 = some (r, S')) : Ct l X yX6_who cX6_who 6 (some .int) rm_X6_who [.ref (X.1 + 0), .int x1] S (some (.int r)) S' := by
  refine r_entry (by decide) (Nat.le_of_ble_eq_true rfl) ?_
  intro p e s m args below meth c ls hc hr hw hl
  have hc : Cx p s m args meth c X cX6_who 6 RX6 := hc
  have hl : lv_has ls 6 [(0, .ref (X.1 + 0)), (1, .int x1)] := hl
  have hx := hc.1
  have hb := hc.2.1
  unfold f_X6_who at h
  refine lv_iload_n hx hb dX6_who_0 rfl (lv_at hl 1 rfl) ?_
  refine lv_if_lt (tgt := 9) hx hb dX6_who_1 (by decide) (fun c1 => ?_) (fun c1 => ?_)
  · have h := ifT c1 h
    refine lv_iconst (v := (-1)) hx hb dX6_who_9 (by decide) ?_
    obtain ⟨rfl, rfl⟩ := sm_inj h
    exact r_iret hc hr hw dX6_who_10
  · have h := ifF c1 h
    refine lv_iload_n hx hb dX6_who_4 rfl (lv_at hl 1 rfl) ?_
    refine lv_iconst (v := 2) hx hb dX6_who_5 (by decide) ?_
    refine lv_icmp_le (tgt := 11) hx hb dX6_who_6 (by decide) (fun c2 => ?_) (fun c2 => ?_)
    · have h := ifT c2 h
      refine lv_iconst (v := 0) hx hb dX6_who_11 (by decide) ?_
      refine lv_istore_n (lv' := [(2, .int 0), (0, .ref (X.1 + 0)), (1, .int x1)]) hx hb dX6_who_12 rfl hl (by decide) rfl (fun ls hl => ?_)
      refine lv_bipush (v := (-9)) hx hb dX6_who_13 (by decide) ?_
      refine lv_istore_n (lv' := [(3, .int (-9)), (2, .int 0), (0, .ref (X.1 + 0)), (1, .int x1)]) hx hb dX6_who_15 rfl hl (by decide) rfl (fun ls hl => ?_)
      refine lv_bipush (v := (-9)) hx hb dX6_who_16 (by decide) ?_
      refine lv_istore (lv' := [(4, .int (-9)), (3, .int (-9)), (2, .int 0), (0, .ref (X.1 + 0)), (1, .int x1)]) hx hb dX6_who_18 hl (by decide) rfl (fun ls hl => ?_)
      refine lv_iconst (v := 0) hx hb dX6_who_20 (by decide) ?_
      refine lv_istore (lv' := [(5, .int 0), (4, .int (-9)), (3, .int (-9)), (2, .int 0), (0, .ref (X.1 + 0)), (1, .int x1)]) hx hb dX6_who_21 hl (by decide) rfl (fun ls hl => ?_)
      exact w_X6_who_23 hc hr 400 x1 0 ((-9)) ((-9)) 0 S _ _ _ hw (lv_sub hl [4, 5, 3, 2, 1, 0] rfl) h
    · have h := ifF c2 h
      refine lv_iconst (v := (-1)) hx hb dX6_who_9 (by decide) ?_
      obtain ⟨rfl, rfl⟩ := sm_inj h
      exact r_iret hc hr hw dX6_who_10
abbrev rm_X7_in : Room := { frames := 0, cells := 0, slots := 0, locals := 0 }
theorem ms_X7_in : MsS yX7_in cX7_in 3 (some .boolean) 3 := ⟨⟨q3_229, q1_8, by decide, by decide, by decide⟩, q3_228⟩
set_option maxRecDepth 20000 in
theorem c_X7_in (l : Launch) (X : Wx) {S S' : Mm} {r : Int32} {x0 : Int32} {x1 : Int32} {x2 : Int32}  (h : f_X7_in S x0 x1 x2 = some (r, S')) : Ct l X yX7_in cX7_in 3 (some .boolean) rm_X7_in [.int x0, .int x1, .int x2] S (some (.int r)) S' := by
  refine r_entry (by decide) (Nat.le_of_ble_eq_true rfl) ?_
  intro p e s m args below meth c ls hc hr hw hl
  have hc : Cx p s m args meth c X cX7_in 3 RX7 := hc
  have hl : lv_has ls 3 [(0, .int x0), (1, .int x1), (2, .int x2)] := hl
  have hx := hc.1
  have hb := hc.2.1
  unfold f_X7_in at h
  refine lv_iload_n hx hb dX7_in_0 rfl (lv_at hl 0 rfl) ?_
  refine lv_iload_n hx hb dX7_in_1 rfl (lv_at hl 1 rfl) ?_
  refine lv_icmp_lt (tgt := 14) hx hb dX7_in_2 (by decide) (fun c1 => ?_) (fun c1 => ?_)
  · have h := ifT c1 h
    refine lv_iconst (v := 0) hx hb dX7_in_14 (by decide) ?_
    obtain ⟨rfl, rfl⟩ := sm_inj h
    exact r_zret hc hr (Or.inl rfl) hw dX7_in_15
  · have h := ifF c1 h
    refine lv_iload_n hx hb dX7_in_5 rfl (lv_at hl 0 rfl) ?_
    refine lv_iload_n hx hb dX7_in_6 rfl (lv_at hl 2 rfl) ?_
    refine lv_icmp_gt (tgt := 14) hx hb dX7_in_7 (by decide) (fun c2 => ?_) (fun c2 => ?_)
    · have h := ifT c2 h
      refine lv_iconst (v := 0) hx hb dX7_in_14 (by decide) ?_
      obtain ⟨rfl, rfl⟩ := sm_inj h
      exact r_zret hc hr (Or.inl rfl) hw dX7_in_15
    · have h := ifF c2 h
      refine lv_iconst (v := 1) hx hb dX7_in_10 (by decide) ?_
      refine lv_goto (tgt := 15) hx hb dX7_in_11 (by decide) ?_
      obtain ⟨rfl, rfl⟩ := sm_inj h
      exact r_zret hc hr (Or.inr rfl) hw dX7_in_15
abbrev rm_X7_back : Room := { frames := 1, cells := 0, slots := 0, locals := 22 }
theorem ms_X7_back : MsV yX7_back cX7_back 3 (some .int) 1 := ⟨⟨q4_191, q1_8, by decide, by decide, by decide⟩, q4_189, q4_190⟩
set_option maxRecDepth 20000 in
theorem w_X7_back_25 {p : Program} {l : Launch} {e : Env} {s : State} {m : MethodId} {args : Array Value} {below : List Frame} {meth : Method} {c : Code} {X : Wx} {r : Int32} {S' : Mm} (hc : Cx p s m args meth c X cX7_back 3 RX7) (hr : meth.sig.returnType = (some .int))   : ∀ (n : Nat), ∀ (x1 : Int32) (x2 : Int32) (S : Mm) (H : Heap) (locs : List Loc) (ls : Array Slot), Wd X s.heap S H locs → lv_has ls 3 [(0, .ref (X.1 + 163)), (1, .int x1), (2, .int x2)] → f_X7_back_25 n x1 x2 S = some (r, S') → W p l e rm_X7_back s m args below meth c H locs 0 0 (MQ below (Qq X (some (.int r)) S') args s 0 0 (AA X.1)) (F0 m 25 ls []) := by
  have hx := hc.1
  have hb := hc.2.1
  intro n
  induction n with
  | zero => intro x1 x2 S H locs ls hw hl h; cases h
  | succ n ih =>
    intro x1 x2 S H locs ls hw hl h
    rw [f_X7_back_25] at h
    refine lv_iload_n hx hb dX7_back_25 rfl (lv_at hl 2 rfl) ?_
    refine lv_sipush (v := 221) hx hb dX7_back_26 (by decide) ?_
    refine lv_icmp_ge (tgt := 58) hx hb dX7_back_29 (by decide) (fun c1 => ?_) (fun c1 => ?_)
    · have h := ifT c1 h
      refine lv_aload_n hx hb dX7_back_58 rfl (lv_at hl 0 rfl) ?_
      refine r_get7 hc hw k163 16 (by decide) (v := .ref (X.1 + 172)) rfl q3_144 dX7_back_59 ?_
      refine lv_bipush (v := 11) hx hb dX7_back_62 (by decide) ?_
      obtain ⟨b2, h⟩ := bnd_some h
      refine r_iald hc hw k172 (inL b2 l172) dX7_back_64 ?_
      obtain ⟨rfl, rfl⟩ := sm_inj h
      exact r_iret hc hr hw dX7_back_65
    · have h := ifF c1 h
      refine lv_aload_n hx hb dX7_back_32 rfl (lv_at hl 0 rfl) ?_
      refine r_get7 hc hw k163 16 (by decide) (v := .ref (X.1 + 172)) rfl q3_144 dX7_back_33 ?_
      refine lv_iload_n hx hb dX7_back_36 rfl (lv_at hl 2 rfl) ?_
      refine lv_aload_n hx hb dX7_back_37 rfl (lv_at hl 0 rfl) ?_
      refine r_get7 hc hw k163 16 (by decide) (v := .ref (X.1 + 172)) rfl q3_144 dX7_back_38 ?_
      refine lv_sipush (v := 221) hx hb dX7_back_41 (by decide) ?_
      refine lv_iconst (v := 1) hx hb dX7_back_44 (by decide) ?_
      refine lv_iload_n hx hb dX7_back_45 rfl (lv_at hl 1 rfl) ?_
      refine lv_iadd hx hb dX7_back_46 ?_
      refine lv_imul hx hb dX7_back_47 ?_
      refine lv_iload_n hx hb dX7_back_48 rfl (lv_at hl 2 rfl) ?_
      refine lv_iadd hx hb dX7_back_49 ?_
      obtain ⟨b3, h⟩ := bnd_some h
      refine r_iald hc hw k172 (inL b3 l172) dX7_back_50 ?_
      obtain ⟨b4, h⟩ := bnd_some h
      obtain ⟨S5, e6, h⟩ := nm_some h
      refine r_iast hc hw k172 (inL b4 l172) e6 dX7_back_51 (fun H locs hw => ?_)
      obtain ⟨v7, e8, h⟩ := nm_some h
      refine lv_iinc (v := v7) (lv' := [(2, .int v7), (0, .ref (X.1 + 163)), (1, .int x1)]) hx hb dX7_back_52 hl (k := 2) rfl (by rw [e8]; rfl) (by decide) rfl (fun ls hl => ?_)
      refine lv_goto (tgt := 25) hx hb dX7_back_55 (by decide) ?_
      exact ih x1 v7 S5 _ _ _ hw (lv_sub hl [1, 2, 0] rfl) h
set_option maxRecDepth 20000 in
theorem c_X7_back (l : Launch) (X : Wx) {S S' : Mm} {r : Int32} {x1 : Int32}  (h : f_X7_back S x1 = some (r, S')) : Ct l X yX7_back cX7_back 3 (some .int) rm_X7_back [.ref (X.1 + 163), .int x1] S (some (.int r)) S' := by
  refine r_entry (by decide) (Nat.le_of_ble_eq_true rfl) ?_
  intro p e s m args below meth c ls hc hr hw hl
  have hc : Cx p s m args meth c X cX7_back 3 RX7 := hc
  have hl : lv_has ls 3 [(0, .ref (X.1 + 163)), (1, .int x1)] := hl
  have hx := hc.1
  have hb := hc.2.1
  unfold f_X7_back at h
  refine lv_iload_n hx hb dX7_back_0 rfl (lv_at hl 1 rfl) ?_
  refine lv_iconst (v := 0) hx hb dX7_back_1 (by decide) ?_
  refine lv_iconst (v := 1) hx hb dX7_back_2 (by decide) ?_
  obtain ⟨r1, S2, h3, h⟩ := bd_some h
  refine r_callSi hc hw hl.1 (As := [.int x1, .int 0, .int 1]) (rest := []) (c_X7_in l X  h3) ms_X7_in q3_227 rfl rfl ⟨rfl, rfl, Nat.le_of_ble_eq_true rfl, Nat.le_of_ble_eq_true rfl⟩ (Nat.le_of_ble_eq_true rfl) ⟨Nat.zero_le _, Nat.zero_le _⟩ dX7_back_3 (fun H locs hw => ?_)
  refine lv_if_ne (tgt := 11) hx hb dX7_back_6 (by decide) (fun c4 => ?_) (fun c4 => ?_)
  · have h := ifF c4 h
    refine lv_aload_n hx hb dX7_back_11 rfl (lv_at hl 0 rfl) ?_
    refine r_get7 hc hw k163 17 (by decide) (v := .ref (X.1 + 173)) rfl q3_145 dX7_back_12 ?_
    refine lv_iload_n hx hb dX7_back_15 rfl (lv_at hl 1 rfl) ?_
    obtain ⟨b5, h⟩ := bnd_some h
    refine r_zald hc hw k173 (inL b5 l173) dX7_back_16 ?_
    refine lv_if_ne (tgt := 23) hx hb dX7_back_17 (by decide) (fun c6 => ?_) (fun c6 => ?_)
    · have h := ifF c6 h
      refine lv_iconst (v := 0) hx hb dX7_back_23 (by decide) ?_
      refine lv_istore_n (lv' := [(2, .int 0), (0, .ref (X.1 + 163)), (1, .int x1)]) hx hb dX7_back_24 rfl hl (by decide) rfl (fun ls hl => ?_)
      exact w_X7_back_25 hc hr 400 x1 0 S2 _ _ _ hw (lv_sub hl [1, 2, 0] rfl) h
    · have h := ifT c6 h
      refine lv_bipush (v := (-2)) hx hb dX7_back_20 (by decide) ?_
      obtain ⟨rfl, rfl⟩ := sm_inj h
      exact r_iret hc hr hw dX7_back_22
  · have h := ifT c4 h
    refine lv_iconst (v := (-1)) hx hb dX7_back_9 (by decide) ?_
    obtain ⟨rfl, rfl⟩ := sm_inj h
    exact r_iret hc hr hw dX7_back_10
abbrev rm_X7_begin : Room := { frames := 0, cells := 0, slots := 0, locals := 0 }
theorem ms_X7_begin : MsV yX7_begin cX7_begin 2 none 0 := ⟨⟨q4_99, q1_8, by decide, by decide, by decide⟩, q4_98, qs_38⟩
set_option maxRecDepth 20000 in
theorem w_X7_begin_22 {p : Program} {l : Launch} {e : Env} {s : State} {m : MethodId} {args : Array Value} {below : List Frame} {meth : Method} {c : Code} {X : Wx} {r : Unit} {S' : Mm} (hc : Cx p s m args meth c X cX7_begin 2 RX7) (hr : meth.sig.returnType = none)   : ∀ (n : Nat), ∀ (x1 : Int32) (S : Mm) (H : Heap) (locs : List Loc) (ls : Array Slot), Wd X s.heap S H locs → lv_has ls 2 [(0, .ref (X.1 + 163)), (1, .int x1)] → f_X7_begin_22 n x1 S = some (r, S') → W p l e rm_X7_begin s m args below meth c H locs 0 0 (MQ below (Qq X none S') args s 0 0 (AA X.1)) (F0 m 22 ls []) := by
  have hx := hc.1
  have hb := hc.2.1
  intro n
  induction n with
  | zero => intro x1 S H locs ls hw hl h; cases h
  | succ n ih =>
    intro x1 S H locs ls hw hl h
    rw [f_X7_begin_22] at h
    refine lv_iload_n hx hb dX7_begin_22 rfl (lv_at hl 1 rfl) ?_
    refine lv_iconst (v := 5) hx hb dX7_begin_23 (by decide) ?_
    refine lv_icmp_ge (tgt := 47) hx hb dX7_begin_24 (by decide) (fun c1 => ?_) (fun c1 => ?_)
    · have h := ifT c1 h
      obtain ⟨rfl, rfl⟩ := sm_inj h
      exact r_vret hc hr hw dX7_begin_47
    · have h := ifF c1 h
      refine lv_aload_n hx hb dX7_begin_27 rfl (lv_at hl 0 rfl) ?_
      refine r_get7 hc hw k163 25 (by decide) (v := .ref (X.1 + 175)) rfl q3_153 dX7_begin_28 ?_
      refine lv_iload_n hx hb dX7_begin_31 rfl (lv_at hl 1 rfl) ?_
      refine lv_lconst (v := 0) hx hb dX7_begin_32 (by decide) ?_
      obtain ⟨b2, h⟩ := bnd_some h
      obtain ⟨S3, e4, h⟩ := nm_some h
      refine r_last hc hw k175 (inL b2 l175) e4 dX7_begin_33 (fun H locs hw => ?_)
      refine lv_aload_n hx hb dX7_begin_34 rfl (lv_at hl 0 rfl) ?_
      refine r_get7 hc hw k163 26 (by decide) (v := .ref (X.1 + 176)) rfl q3_154 dX7_begin_35 ?_
      refine lv_iload_n hx hb dX7_begin_38 rfl (lv_at hl 1 rfl) ?_
      refine lv_lconst (v := 0) hx hb dX7_begin_39 (by decide) ?_
      obtain ⟨b5, h⟩ := bnd_some h
      obtain ⟨S6, e7, h⟩ := nm_some h
      refine r_last hc hw k176 (inL b5 l176) e7 dX7_begin_40 (fun H locs hw => ?_)
      obtain ⟨v8, e9, h⟩ := nm_some h
      refine lv_iinc (v := v8) (lv' := [(1, .int v8), (0, .ref (X.1 + 163))]) hx hb dX7_begin_41 hl (k := 1) rfl (by rw [e9]; rfl) (by decide) rfl (fun ls hl => ?_)
      refine lv_goto (tgt := 22) hx hb dX7_begin_44 (by decide) ?_
      exact ih v8 S6 _ _ _ hw (lv_sub hl [1, 0] rfl) h
set_option maxRecDepth 20000 in
theorem c_X7_begin (l : Launch) (X : Wx) {S S' : Mm} {r : Unit}   (h : f_X7_begin S = some (r, S')) : Ct l X yX7_begin cX7_begin 2 none rm_X7_begin [.ref (X.1 + 163)] S none S' := by
  refine r_entry (by decide) (Nat.le_of_ble_eq_true rfl) ?_
  intro p e s m args below meth c ls hc hr hw hl
  have hc : Cx p s m args meth c X cX7_begin 2 RX7 := hc
  have hl : lv_has ls 2 [(0, .ref (X.1 + 163))] := hl
  have hx := hc.1
  have hb := hc.2.1
  unfold f_X7_begin at h
  refine lv_aload_n hx hb dX7_begin_0 rfl (lv_at hl 0 rfl) ?_
  refine lv_lconst (v := 1) hx hb dX7_begin_1 (by decide) ?_
  obtain ⟨S1, e2, h⟩ := nm_some h
  refine r_put7_21 hc hw k163 e2 q3_149 dX7_begin_2 (fun H locs hw => ?_)
  refine lv_aload_n hx hb dX7_begin_5 rfl (lv_at hl 0 rfl) ?_
  refine lv_lconst (v := 0) hx hb dX7_begin_6 (by decide) ?_
  obtain ⟨S3, e4, h⟩ := nm_some h
  refine r_put7_22 hc hw k163 e4 q3_150 dX7_begin_7 (fun H locs hw => ?_)
  refine lv_aload_n hx hb dX7_begin_10 rfl (lv_at hl 0 rfl) ?_
  refine lv_lconst (v := 1) hx hb dX7_begin_11 (by decide) ?_
  obtain ⟨S5, e6, h⟩ := nm_some h
  refine r_put7_23 hc hw k163 e6 q3_151 dX7_begin_12 (fun H locs hw => ?_)
  refine lv_aload_n hx hb dX7_begin_15 rfl (lv_at hl 0 rfl) ?_
  refine lv_lconst (v := 0) hx hb dX7_begin_16 (by decide) ?_
  obtain ⟨S7, e8, h⟩ := nm_some h
  refine r_put7_24 hc hw k163 e8 q3_152 dX7_begin_17 (fun H locs hw => ?_)
  refine lv_iconst (v := 0) hx hb dX7_begin_20 (by decide) ?_
  refine lv_istore_n (lv' := [(1, .int 0), (0, .ref (X.1 + 163))]) hx hb dX7_begin_21 rfl hl (by decide) rfl (fun ls hl => ?_)
  exact w_X7_begin_22 hc hr 400 0 S7 _ _ _ hw (lv_sub hl [1, 0] rfl) h
abbrev rm_X7_takeRow : Room := { frames := 0, cells := 0, slots := 0, locals := 0 }
theorem ms_X7_takeRow : MsV yX7_takeRow cX7_takeRow 2 none 0 := ⟨⟨q4_91, q1_8, by decide, by decide, by decide⟩, q4_90, qs_36⟩
set_option maxRecDepth 20000 in
theorem w_X7_takeRow_2 {p : Program} {l : Launch} {e : Env} {s : State} {m : MethodId} {args : Array Value} {below : List Frame} {meth : Method} {c : Code} {X : Wx} {r : Unit} {S' : Mm} (hc : Cx p s m args meth c X cX7_takeRow 2 RX7) (hr : meth.sig.returnType = none)   : ∀ (n : Nat), ∀ (x1 : Int32) (S : Mm) (H : Heap) (locs : List Loc) (ls : Array Slot), Wd X s.heap S H locs → lv_has ls 2 [(0, .ref (X.1 + 163)), (1, .int x1)] → f_X7_takeRow_2 n x1 S = some (r, S') → W p l e rm_X7_takeRow s m args below meth c H locs 0 0 (MQ below (Qq X none S') args s 0 0 (AA X.1)) (F0 m 2 ls []) := by
  have hx := hc.1
  have hb := hc.2.1
  intro n
  induction n with
  | zero => intro x1 S H locs ls hw hl h; cases h
  | succ n ih =>
    intro x1 S H locs ls hw hl h
    rw [f_X7_takeRow_2] at h
    refine lv_iload_n hx hb dX7_takeRow_2 rfl (lv_at hl 1 rfl) ?_
    refine lv_iconst (v := 5) hx hb dX7_takeRow_3 (by decide) ?_
    refine lv_icmp_ge (tgt := 27) hx hb dX7_takeRow_4 (by decide) (fun c1 => ?_) (fun c1 => ?_)
    · have h := ifT c1 h
      obtain ⟨rfl, rfl⟩ := sm_inj h
      exact r_vret hc hr hw dX7_takeRow_27
    · have h := ifF c1 h
      refine lv_aload_n hx hb dX7_takeRow_7 rfl (lv_at hl 0 rfl) ?_
      refine r_get7 hc hw k163 20 (by decide) (v := .ref (X.1 + 174)) rfl q3_148 dX7_takeRow_8 ?_
      refine lv_iload_n hx hb dX7_takeRow_11 rfl (lv_at hl 1 rfl) ?_
      refine lv_aload_n hx hb dX7_takeRow_12 rfl (lv_at hl 0 rfl) ?_
      refine r_get7 hc hw k163 16 (by decide) (v := .ref (X.1 + 172)) rfl q3_144 dX7_takeRow_13 ?_
      refine lv_iconst (v := 0) hx hb dX7_takeRow_16 (by decide) ?_
      refine lv_iload_n hx hb dX7_takeRow_17 rfl (lv_at hl 1 rfl) ?_
      refine lv_iadd hx hb dX7_takeRow_18 ?_
      obtain ⟨b2, h⟩ := bnd_some h
      refine r_iald hc hw k172 (inL b2 l172) dX7_takeRow_19 ?_
      obtain ⟨b3, h⟩ := bnd_some h
      obtain ⟨S4, e5, h⟩ := nm_some h
      refine r_iast hc hw k174 (inL b3 l174) e5 dX7_takeRow_20 (fun H locs hw => ?_)
      obtain ⟨v6, e7, h⟩ := nm_some h
      refine lv_iinc (v := v6) (lv' := [(1, .int v6), (0, .ref (X.1 + 163))]) hx hb dX7_takeRow_21 hl (k := 1) rfl (by rw [e7]; rfl) (by decide) rfl (fun ls hl => ?_)
      refine lv_goto (tgt := 2) hx hb dX7_takeRow_24 (by decide) ?_
      exact ih v6 S4 _ _ _ hw (lv_sub hl [1, 0] rfl) h
set_option maxRecDepth 20000 in
theorem c_X7_takeRow (l : Launch) (X : Wx) {S S' : Mm} {r : Unit}   (h : f_X7_takeRow S = some (r, S')) : Ct l X yX7_takeRow cX7_takeRow 2 none rm_X7_takeRow [.ref (X.1 + 163)] S none S' := by
  refine r_entry (by decide) (Nat.le_of_ble_eq_true rfl) ?_
  intro p e s m args below meth c ls hc hr hw hl
  have hc : Cx p s m args meth c X cX7_takeRow 2 RX7 := hc
  have hl : lv_has ls 2 [(0, .ref (X.1 + 163))] := hl
  have hx := hc.1
  have hb := hc.2.1
  unfold f_X7_takeRow at h
  refine lv_iconst (v := 0) hx hb dX7_takeRow_0 (by decide) ?_
  refine lv_istore_n (lv' := [(1, .int 0), (0, .ref (X.1 + 163))]) hx hb dX7_takeRow_1 rfl hl (by decide) rfl (fun ls hl => ?_)
  exact w_X7_takeRow_2 hc hr 400 0 S _ _ _ hw (lv_sub hl [1, 0] rfl) h
abbrev rm_X7_grow : Room := { frames := 0, cells := 0, slots := 0, locals := 0 }
theorem ms_X7_grow : MsV yX7_grow cX7_grow 2 none 0 := ⟨⟨q4_107, q1_8, by decide, by decide, by decide⟩, q4_106, qs_40⟩
set_option maxRecDepth 20000 in
theorem w_X7_grow_50 {p : Program} {l : Launch} {e : Env} {s : State} {m : MethodId} {args : Array Value} {below : List Frame} {meth : Method} {c : Code} {X : Wx} {r : Unit} {S' : Mm} (hc : Cx p s m args meth c X cX7_grow 2 RX7) (hr : meth.sig.returnType = none)   : ∀ (n : Nat), ∀ (x1 : Int32) (S : Mm) (H : Heap) (locs : List Loc) (ls : Array Slot), Wd X s.heap S H locs → lv_has ls 2 [(0, .ref (X.1 + 163)), (1, .int x1)] → f_X7_grow_50 n x1 S = some (r, S') → W p l e rm_X7_grow s m args below meth c H locs 0 0 (MQ below (Qq X none S') args s 0 0 (AA X.1)) (F0 m 50 ls []) := by
  have hx := hc.1
  have hb := hc.2.1
  intro n
  induction n with
  | zero => intro x1 S H locs ls hw hl h; cases h
  | succ n ih =>
    intro x1 S H locs ls hw hl h
    rw [f_X7_grow_50] at h
    refine lv_iload_n hx hb dX7_grow_50 rfl (lv_at hl 1 rfl) ?_
    refine lv_iconst (v := 5) hx hb dX7_grow_51 (by decide) ?_
    refine lv_icmp_ge (tgt := 85) hx hb dX7_grow_52 (by decide) (fun c1 => ?_) (fun c1 => ?_)
    · have h := ifT c1 h
      obtain ⟨rfl, rfl⟩ := sm_inj h
      exact r_vret hc hr hw dX7_grow_85
    · have h := ifF c1 h
      refine lv_aload_n hx hb dX7_grow_55 rfl (lv_at hl 0 rfl) ?_
      refine r_get7 hc hw k163 25 (by decide) (v := .ref (X.1 + 175)) rfl q3_153 dX7_grow_56 ?_
      refine lv_iload_n hx hb dX7_grow_59 rfl (lv_at hl 1 rfl) ?_
      refine lv_dup2_11 hx hb dX7_grow_60 rfl rfl ?_
      obtain ⟨b2, h⟩ := bnd_some h
      refine r_lald hc hw k175 (inL b2 l175) dX7_grow_61 ?_
      refine lv_ldc2 hx hb hc.2.2.2.1 (hc.2.2.2.2.1 _ q4_108) dX7_grow_62 ?_
      refine lv_lmul hx hb dX7_grow_65 ?_
      obtain ⟨b3, h⟩ := bnd_some h
      obtain ⟨S4, e5, h⟩ := nm_some h
      refine r_last hc hw k175 (inL b3 l175) e5 dX7_grow_66 (fun H locs hw => ?_)
      refine lv_aload_n hx hb dX7_grow_67 rfl (lv_at hl 0 rfl) ?_
      refine r_get7 hc hw k163 26 (by decide) (v := .ref (X.1 + 176)) rfl q3_154 dX7_grow_68 ?_
      refine lv_iload_n hx hb dX7_grow_71 rfl (lv_at hl 1 rfl) ?_
      refine lv_dup2_11 hx hb dX7_grow_72 rfl rfl ?_
      obtain ⟨b6, h⟩ := bnd_some h
      refine r_lald hc hw k176 (inL b6 l176) dX7_grow_73 ?_
      refine lv_ldc2 hx hb hc.2.2.2.1 (hc.2.2.2.2.1 _ q4_108) dX7_grow_74 ?_
      refine lv_lmul hx hb dX7_grow_77 ?_
      obtain ⟨b7, h⟩ := bnd_some h
      obtain ⟨S8, e9, h⟩ := nm_some h
      refine r_last hc hw k176 (inL b7 l176) e9 dX7_grow_78 (fun H locs hw => ?_)
      obtain ⟨v10, e11, h⟩ := nm_some h
      refine lv_iinc (v := v10) (lv' := [(1, .int v10), (0, .ref (X.1 + 163))]) hx hb dX7_grow_79 hl (k := 1) rfl (by rw [e11]; rfl) (by decide) rfl (fun ls hl => ?_)
      refine lv_goto (tgt := 50) hx hb dX7_grow_82 (by decide) ?_
      exact ih v10 S8 _ _ _ hw (lv_sub hl [1, 0] rfl) h
set_option maxRecDepth 20000 in
theorem c_X7_grow (l : Launch) (X : Wx) {S S' : Mm} {r : Unit}   (h : f_X7_grow S = some (r, S')) : Ct l X yX7_grow cX7_grow 2 none rm_X7_grow [.ref (X.1 + 163)] S none S' := by
  refine r_entry (by decide) (Nat.le_of_ble_eq_true rfl) ?_
  intro p e s m args below meth c ls hc hr hw hl
  have hc : Cx p s m args meth c X cX7_grow 2 RX7 := hc
  have hl : lv_has ls 2 [(0, .ref (X.1 + 163))] := hl
  have hx := hc.1
  have hb := hc.2.1
  unfold f_X7_grow at h
  refine lv_aload_n hx hb dX7_grow_0 rfl (lv_at hl 0 rfl) ?_
  refine lv_dup hx hb dX7_grow_1 rfl ?_
  refine r_get7 hc hw k163 21 (by decide) (v := .long (gJ S 163 21)) rfl q3_149 dX7_grow_2 ?_
  refine lv_ldc2 hx hb hc.2.2.2.1 (hc.2.2.2.2.1 _ q4_108) dX7_grow_5 ?_
  refine lv_lmul hx hb dX7_grow_8 ?_
  obtain ⟨S1, e2, h⟩ := nm_some h
  refine r_put7_21 hc hw k163 e2 q3_149 dX7_grow_9 (fun H locs hw => ?_)
  refine lv_aload_n hx hb dX7_grow_12 rfl (lv_at hl 0 rfl) ?_
  refine lv_dup hx hb dX7_grow_13 rfl ?_
  refine r_get7 hc hw k163 22 (by decide) (v := .long (gJ S1 163 22)) rfl q3_150 dX7_grow_14 ?_
  refine lv_ldc2 hx hb hc.2.2.2.1 (hc.2.2.2.2.1 _ q4_108) dX7_grow_17 ?_
  refine lv_lmul hx hb dX7_grow_20 ?_
  obtain ⟨S3, e4, h⟩ := nm_some h
  refine r_put7_22 hc hw k163 e4 q3_150 dX7_grow_21 (fun H locs hw => ?_)
  refine lv_aload_n hx hb dX7_grow_24 rfl (lv_at hl 0 rfl) ?_
  refine lv_dup hx hb dX7_grow_25 rfl ?_
  refine r_get7 hc hw k163 23 (by decide) (v := .long (gJ S3 163 23)) rfl q3_151 dX7_grow_26 ?_
  refine lv_ldc2 hx hb hc.2.2.2.1 (hc.2.2.2.2.1 _ q4_108) dX7_grow_29 ?_
  refine lv_lmul hx hb dX7_grow_32 ?_
  obtain ⟨S5, e6, h⟩ := nm_some h
  refine r_put7_23 hc hw k163 e6 q3_151 dX7_grow_33 (fun H locs hw => ?_)
  refine lv_aload_n hx hb dX7_grow_36 rfl (lv_at hl 0 rfl) ?_
  refine lv_dup hx hb dX7_grow_37 rfl ?_
  refine r_get7 hc hw k163 24 (by decide) (v := .long (gJ S5 163 24)) rfl q3_152 dX7_grow_38 ?_
  refine lv_ldc2 hx hb hc.2.2.2.1 (hc.2.2.2.2.1 _ q4_108) dX7_grow_41 ?_
  refine lv_lmul hx hb dX7_grow_44 ?_
  obtain ⟨S7, e8, h⟩ := nm_some h
  refine r_put7_24 hc hw k163 e8 q3_152 dX7_grow_45 (fun H locs hw => ?_)
  refine lv_iconst (v := 0) hx hb dX7_grow_48 (by decide) ?_
  refine lv_istore_n (lv' := [(1, .int 0), (0, .ref (X.1 + 163))]) hx hb dX7_grow_49 rfl hl (by decide) rfl (fun ls hl => ?_)
  exact w_X7_grow_50 hc hr 400 0 S7 _ _ _ hw (lv_sub hl [1, 0] rfl) h
abbrev rm_X7_work : Room := { frames := 1, cells := 0, slots := 0, locals := 21 }
theorem ms_X7_work : MsV yX7_work cX7_work 5 none 1 := ⟨⟨q4_103, q1_8, by decide, by decide, by decide⟩, q4_102, qs_39⟩
set_option maxRecDepth 20000 in
theorem c_X7_work (l : Launch) (X : Wx) {S S' : Mm} {r : Unit} {x1 : Int32}  (h : f_X7_work S x1 = some (r, S')) : Ct l X yX7_work cX7_work 5 none rm_X7_work [.ref (X.1 + 163), .int x1] S none S' := by
  refine r_entry (by decide) (Nat.le_of_ble_eq_true rfl) ?_
  intro p e s m args below meth c ls hc hr hw hl
  have hc : Cx p s m args meth c X cX7_work 5 RX7 := hc
  have hl : lv_has ls 5 [(0, .ref (X.1 + 163)), (1, .int x1)] := hl
  have hx := hc.1
  have hb := hc.2.1
  unfold f_X7_work at h
  refine lv_aload_n hx hb dX7_work_0 rfl (lv_at hl 0 rfl) ?_
  refine r_get7 hc hw k163 20 (by decide) (v := .ref (X.1 + 174)) rfl q3_148 dX7_work_1 ?_
  refine lv_iload_n hx hb dX7_work_4 rfl (lv_at hl 1 rfl) ?_
  obtain ⟨b1, h⟩ := bnd_some h
  refine r_iald hc hw k174 (inL b1 l174) dX7_work_5 ?_
  obtain ⟨v2, e3, h⟩ := nm_some h
  refine r_top e3 ?_
  refine lv_istore_n (lv' := [(2, .int v2), (0, .ref (X.1 + 163)), (1, .int x1)]) hx hb dX7_work_6 rfl hl (by decide) rfl (fun ls hl => ?_)
  refine lv_aload_n hx hb dX7_work_7 rfl (lv_at hl 1 rfl) ?_
  refine lv_dup hx hb dX7_work_8 rfl ?_
  refine r_get7 hc hw k163 22 (by decide) (v := .long (gJ S 163 22)) rfl q3_150 dX7_work_9 ?_
  refine lv_aload_n hx hb dX7_work_12 rfl (lv_at hl 1 rfl) ?_
  refine r_get7 hc hw k163 23 (by decide) (v := .long (gJ S 163 23)) rfl q3_151 dX7_work_13 ?_
  refine lv_aload_n hx hb dX7_work_16 rfl (lv_at hl 1 rfl) ?_
  refine r_get7 hc hw k163 24 (by decide) (v := .long (gJ S 163 24)) rfl q3_152 dX7_work_17 ?_
  refine lv_ladd hx hb dX7_work_20 ?_
  refine lv_aload_n hx hb dX7_work_21 rfl (lv_at hl 1 rfl) ?_
  refine r_get7 hc hw k163 4 (by decide) (v := .ref (X.1 + 166)) rfl q3_132 dX7_work_22 ?_
  refine lv_iload_n hx hb dX7_work_25 rfl (lv_at hl 0 rfl) ?_
  obtain ⟨b4, h⟩ := bnd_some h
  refine r_iald hc hw k166 (inL b4 l166) dX7_work_26 ?_
  refine lv_i2l hx hb dX7_work_27 rfl ?_
  refine lv_lmul hx hb dX7_work_28 ?_
  refine lv_ladd hx hb dX7_work_29 ?_
  obtain ⟨S5, e6, h⟩ := nm_some h
  refine r_put7_22 hc hw k163 e6 q3_150 dX7_work_30 (fun H locs hw => ?_)
  refine lv_aload_n hx hb dX7_work_33 rfl (lv_at hl 1 rfl) ?_
  obtain ⟨r7, S8, h9, h⟩ := bd_some h
  refine r_callV7v hc hw hl.1 (As := []) (rest := []) k163 (c_X7_grow l X  h9) ms_X7_grow rfl q4_104 rfl rfl ⟨rfl, rfl, Nat.le_of_ble_eq_true rfl, Nat.le_of_ble_eq_true rfl⟩ (Nat.le_of_ble_eq_true rfl) ⟨Nat.zero_le _, Nat.zero_le _⟩ dX7_work_34 (fun H locs hw => ?_)
  refine lv_aload_n hx hb dX7_work_37 rfl (lv_at hl 1 rfl) ?_
  refine r_get7 hc hw k163 23 (by decide) (v := .long (gJ S8 163 23)) rfl q3_151 dX7_work_38 ?_
  refine lv_ldc2 hx hb hc.2.2.2.1 (hc.2.2.2.2.1 _ q4_108) dX7_work_41 ?_
  refine lv_ldiv hx hb dX7_work_44 (by decide) ?_
  refine lv_aload_n hx hb dX7_work_45 rfl (lv_at hl 1 rfl) ?_
  refine r_get7 hc hw k163 16 (by decide) (v := .ref (X.1 + 172)) rfl q3_144 dX7_work_46 ?_
  refine lv_iconst (v := 5) hx hb dX7_work_49 (by decide) ?_
  refine lv_iload_n hx hb dX7_work_50 rfl (lv_at hl 0 rfl) ?_
  refine lv_iadd hx hb dX7_work_51 ?_
  obtain ⟨b10, h⟩ := bnd_some h
  refine r_iald hc hw k172 (inL b10 l172) dX7_work_52 ?_
  refine lv_i2l hx hb dX7_work_53 rfl ?_
  refine lv_lmul hx hb dX7_work_54 ?_
  obtain ⟨v11, e12, h⟩ := nm_some h
  refine r_topl e12 ?_
  refine lv_lstore_n (lv' := [(3, .long v11), (2, .int v2), (0, .ref (X.1 + 163)), (1, .int x1)]) hx hb dX7_work_55 rfl hl (by decide) rfl (fun ls hl => ?_)
  refine lv_aload_n hx hb dX7_work_56 rfl (lv_at hl 2 rfl) ?_
  refine lv_dup hx hb dX7_work_57 rfl ?_
  refine r_get7 hc hw k163 23 (by decide) (v := .long (gJ S8 163 23)) rfl q3_151 dX7_work_58 ?_
  refine lv_lload_n hx hb dX7_work_61 rfl (lv_at hl 0 rfl) ?_
  refine lv_lsub hx hb dX7_work_62 ?_
  obtain ⟨S13, e14, h⟩ := nm_some h
  refine r_put7_23 hc hw k163 e14 q3_151 dX7_work_63 (fun H locs hw => ?_)
  refine lv_aload_n hx hb dX7_work_66 rfl (lv_at hl 2 rfl) ?_
  refine lv_dup hx hb dX7_work_67 rfl ?_
  refine r_get7 hc hw k163 24 (by decide) (v := .long (gJ S13 163 24)) rfl q3_152 dX7_work_68 ?_
  refine lv_lload_n hx hb dX7_work_71 rfl (lv_at hl 0 rfl) ?_
  refine lv_ladd hx hb dX7_work_72 ?_
  obtain ⟨S15, e16, h⟩ := nm_some h
  refine r_put7_24 hc hw k163 e16 q3_152 dX7_work_73 (fun H locs hw => ?_)
  refine lv_aload_n hx hb dX7_work_76 rfl (lv_at hl 2 rfl) ?_
  refine r_get7 hc hw k163 26 (by decide) (v := .ref (X.1 + 176)) rfl q3_154 dX7_work_77 ?_
  refine lv_iload_n hx hb dX7_work_80 rfl (lv_at hl 3 rfl) ?_
  refine lv_dup2_11 hx hb dX7_work_81 rfl rfl ?_
  obtain ⟨b17, h⟩ := bnd_some h
  refine r_lald hc hw k176 (inL b17 l176) dX7_work_82 ?_
  refine lv_lload_n hx hb dX7_work_83 rfl (lv_at hl 0 rfl) ?_
  refine lv_ladd hx hb dX7_work_84 ?_
  obtain ⟨b18, h⟩ := bnd_some h
  obtain ⟨S19, e20, h⟩ := nm_some h
  refine r_last hc hw k176 (inL b18 l176) e20 dX7_work_85 (fun H locs hw => ?_)
  obtain ⟨rfl, rfl⟩ := sm_inj h
  exact r_vret hc hr hw dX7_work_86
abbrev rm_X7_lookAt : Room := { frames := 1, cells := 0, slots := 0, locals := 21 }
theorem ms_X7_lookAt : MsV yX7_lookAt cX7_lookAt 5 none 2 := ⟨⟨q4_112, q1_8, by decide, by decide, by decide⟩, q4_111, qs_41⟩
set_option maxRecDepth 20000 in
theorem w_X7_lookAt_92 {p : Program} {l : Launch} {e : Env} {s : State} {m : MethodId} {args : Array Value} {below : List Frame} {meth : Method} {c : Code} {X : Wx} {r : Unit} {S' : Mm} (hc : Cx p s m args meth c X cX7_lookAt 5 RX7) (hr : meth.sig.returnType = none)   : ∀ (n : Nat), ∀ (x1 : Int32) (x3 : Int32) (x4 : Int32) (S : Mm) (H : Heap) (locs : List Loc) (ls : Array Slot), Wd X s.heap S H locs → lv_has ls 5 [(0, .ref (X.1 + 163)), (1, .int x1), (3, .int x3), (4, .int x4)] → f_X7_lookAt_92 n x1 x3 x4 S = some (r, S') → W p l e rm_X7_lookAt s m args below meth c H locs 0 0 (MQ below (Qq X none S') args s 0 0 (AA X.1)) (F0 m 92 ls []) := by
  have hx := hc.1
  have hb := hc.2.1
  intro n
  induction n with
  | zero => intro x1 x3 x4 S H locs ls hw hl h; cases h
  | succ n ih =>
    intro x1 x3 x4 S H locs ls hw hl h
    rw [f_X7_lookAt_92] at h
    refine lv_iload hx hb dX7_lookAt_92 (lv_at hl 3 rfl) ?_
    refine lv_iload_n hx hb dX7_lookAt_94 rfl (lv_at hl 1 rfl) ?_
    refine lv_icmp_gt (tgt := 130) hx hb dX7_lookAt_95 (by decide) (fun c1 => ?_) (fun c1 => ?_)
    · have h := ifT c1 h
      obtain ⟨rfl, rfl⟩ := sm_inj h
      exact r_vret hc hr hw dX7_lookAt_130
    · have h := ifF c1 h
      refine lv_aload_n hx hb dX7_lookAt_98 rfl (lv_at hl 0 rfl) ?_
      refine r_get7 hc hw k163 26 (by decide) (v := .ref (X.1 + 176)) rfl q3_154 dX7_lookAt_99 ?_
      refine lv_iload hx hb dX7_lookAt_102 (lv_at hl 3 rfl) ?_
      refine lv_aload_n hx hb dX7_lookAt_104 rfl (lv_at hl 0 rfl) ?_
      refine r_get7 hc hw k163 26 (by decide) (v := .ref (X.1 + 176)) rfl q3_154 dX7_lookAt_105 ?_
      refine lv_iload hx hb dX7_lookAt_108 (lv_at hl 3 rfl) ?_
      obtain ⟨b2, h⟩ := bnd_some h
      refine r_lald hc hw k176 (inL b2 l176) dX7_lookAt_110 ?_
      refine lv_ldc2 hx hb hc.2.2.2.1 (hc.2.2.2.2.1 _ q4_108) dX7_lookAt_111 ?_
      refine lv_ldiv hx hb dX7_lookAt_114 (by decide) ?_
      refine lv_aload_n hx hb dX7_lookAt_115 rfl (lv_at hl 0 rfl) ?_
      refine r_get7 hc hw k163 7 (by decide) (v := .ref (X.1 + 169)) rfl q3_135 dX7_lookAt_116 ?_
      refine lv_iload_n hx hb dX7_lookAt_119 rfl (lv_at hl 2 rfl) ?_
      obtain ⟨b3, h⟩ := bnd_some h
      refine r_iald hc hw k169 (inL b3 l169) dX7_lookAt_120 ?_
      refine lv_i2l hx hb dX7_lookAt_121 rfl ?_
      refine lv_lmul hx hb dX7_lookAt_122 ?_
      obtain ⟨b4, h⟩ := bnd_some h
      obtain ⟨S5, e6, h⟩ := nm_some h
      refine r_last hc hw k176 (inL b4 l176) e6 dX7_lookAt_123 (fun H locs hw => ?_)
      obtain ⟨v7, e8, h⟩ := nm_some h
      refine lv_iinc (v := v7) (lv' := [(4, .int v7), (0, .ref (X.1 + 163)), (1, .int x1), (3, .int x3)]) hx hb dX7_lookAt_124 hl (k := 3) rfl (by rw [e8]; rfl) (by decide) rfl (fun ls hl => ?_)
      refine lv_goto (tgt := 92) hx hb dX7_lookAt_127 (by decide) ?_
      exact ih x1 x3 v7 S5 _ _ _ hw (lv_sub hl [1, 2, 3, 0] rfl) h
set_option maxRecDepth 20000 in
theorem w_X7_lookAt_41 {p : Program} {l : Launch} {e : Env} {s : State} {m : MethodId} {args : Array Value} {below : List Frame} {meth : Method} {c : Code} {X : Wx} {r : Unit} {S' : Mm} (hc : Cx p s m args meth c X cX7_lookAt 5 RX7) (hr : meth.sig.returnType = none)   : ∀ (x1 : Int32) (x2 : Int32) (x3 : Int32) (S : Mm) (H : Heap) (locs : List Loc) (ls : Array Slot), Wd X s.heap S H locs → lv_has ls 5 [(0, .ref (X.1 + 163)), (1, .int x1), (2, .int x2), (3, .int x3)] → f_X7_lookAt_41 x1 x2 x3 S = some (r, S') → W p l e rm_X7_lookAt s m args below meth c H locs 0 0 (MQ below (Qq X none S') args s 0 0 (AA X.1)) (F0 m 41 ls []) := by
  have hx := hc.1
  have hb := hc.2.1
  intro x1 x2 x3 S H locs ls hw hl h
  unfold f_X7_lookAt_41 at h
  refine lv_aload_n hx hb dX7_lookAt_41 rfl (lv_at hl 0 rfl) ?_
  obtain ⟨r1, S2, h3, h⟩ := bd_some h
  refine r_callV7v hc hw hl.1 (As := []) (rest := []) k163 (c_X7_grow l X  h3) ms_X7_grow rfl q4_104 rfl rfl ⟨rfl, rfl, Nat.le_of_ble_eq_true rfl, Nat.le_of_ble_eq_true rfl⟩ (Nat.le_of_ble_eq_true rfl) ⟨Nat.zero_le _, Nat.zero_le _⟩ dX7_lookAt_42 (fun H locs hw => ?_)
  refine lv_iload_n hx hb dX7_lookAt_45 rfl (lv_at hl 2 rfl) ?_
  refine lv_if_eq (tgt := 130) hx hb dX7_lookAt_46 (by decide) (fun c4 => ?_) (fun c4 => ?_)
  · have h := ifT c4 h
    obtain ⟨rfl, rfl⟩ := sm_inj h
    exact r_vret hc hr hw dX7_lookAt_130
  · have h := ifF c4 h
    refine lv_aload_n hx hb dX7_lookAt_49 rfl (lv_at hl 0 rfl) ?_
    refine r_get7 hc hw k163 25 (by decide) (v := .ref (X.1 + 175)) rfl q3_153 dX7_lookAt_50 ?_
    refine lv_iload_n hx hb dX7_lookAt_53 rfl (lv_at hl 1 rfl) ?_
    refine lv_aload_n hx hb dX7_lookAt_54 rfl (lv_at hl 0 rfl) ?_
    refine r_get7 hc hw k163 24 (by decide) (v := .long (gJ S2 163 24)) rfl q3_152 dX7_lookAt_55 ?_
    refine lv_ldc2 hx hb hc.2.2.2.1 (hc.2.2.2.2.1 _ q4_108) dX7_lookAt_58 ?_
    refine lv_ldiv hx hb dX7_lookAt_61 (by decide) ?_
    refine lv_bipush (v := 10) hx hb dX7_lookAt_62 (by decide) ?_
    refine lv_aload_n hx hb dX7_lookAt_64 rfl (lv_at hl 0 rfl) ?_
    refine r_get7 hc hw k163 7 (by decide) (v := .ref (X.1 + 169)) rfl q3_135 dX7_lookAt_65 ?_
    refine lv_iload_n hx hb dX7_lookAt_68 rfl (lv_at hl 3 rfl) ?_
    obtain ⟨b5, h⟩ := bnd_some h
    refine r_iald hc hw k169 (inL b5 l169) dX7_lookAt_69 ?_
    refine lv_isub hx hb dX7_lookAt_70 ?_
    refine lv_i2l hx hb dX7_lookAt_71 rfl ?_
    refine lv_lmul hx hb dX7_lookAt_72 ?_
    obtain ⟨b6, h⟩ := bnd_some h
    obtain ⟨S7, e8, h⟩ := nm_some h
    refine r_last hc hw k175 (inL b6 l175) e8 dX7_lookAt_73 (fun H locs hw => ?_)
    refine lv_aload_n hx hb dX7_lookAt_74 rfl (lv_at hl 0 rfl) ?_
    refine lv_dup hx hb dX7_lookAt_75 rfl ?_
    refine r_get7 hc hw k163 24 (by decide) (v := .long (gJ S7 163 24)) rfl q3_152 dX7_lookAt_76 ?_
    refine lv_aload_n hx hb dX7_lookAt_79 rfl (lv_at hl 0 rfl) ?_
    refine r_get7 hc hw k163 25 (by decide) (v := .ref (X.1 + 175)) rfl q3_153 dX7_lookAt_80 ?_
    refine lv_iload_n hx hb dX7_lookAt_83 rfl (lv_at hl 1 rfl) ?_
    obtain ⟨b9, h⟩ := bnd_some h
    refine r_lald hc hw k175 (inL b9 l175) dX7_lookAt_84 ?_
    refine lv_lsub hx hb dX7_lookAt_85 ?_
    obtain ⟨S10, e11, h⟩ := nm_some h
    refine r_put7_24 hc hw k163 e11 q3_152 dX7_lookAt_86 (fun H locs hw => ?_)
    refine lv_iconst (v := 0) hx hb dX7_lookAt_89 (by decide) ?_
    refine lv_istore (lv' := [(4, .int 0), (0, .ref (X.1 + 163)), (1, .int x1), (2, .int x2), (3, .int x3)]) hx hb dX7_lookAt_90 hl (by decide) rfl (fun ls hl => ?_)
    exact w_X7_lookAt_92 hc hr 400 x1 x3 0 S10 _ _ _ hw (lv_sub hl [1, 2, 4, 0] rfl) h
set_option maxRecDepth 20000 in
theorem c_X7_lookAt (l : Launch) (X : Wx) {S S' : Mm} {r : Unit} {x1 : Int32} {x2 : Int32}  (h : f_X7_lookAt S x1 x2 = some (r, S')) : Ct l X yX7_lookAt cX7_lookAt 5 none rm_X7_lookAt [.ref (X.1 + 163), .int x1, .int x2] S none S' := by
  refine r_entry (by decide) (Nat.le_of_ble_eq_true rfl) ?_
  intro p e s m args below meth c ls hc hr hw hl
  have hc : Cx p s m args meth c X cX7_lookAt 5 RX7 := hc
  have hl : lv_has ls 5 [(0, .ref (X.1 + 163)), (1, .int x1), (2, .int x2)] := hl
  have hx := hc.1
  have hb := hc.2.1
  unfold f_X7_lookAt at h
  refine lv_aload_n hx hb dX7_lookAt_0 rfl (lv_at hl 0 rfl) ?_
  refine r_get7 hc hw k163 20 (by decide) (v := .ref (X.1 + 174)) rfl q3_148 dX7_lookAt_1 ?_
  refine lv_iload_n hx hb dX7_lookAt_4 rfl (lv_at hl 1 rfl) ?_
  obtain ⟨b1, h⟩ := bnd_some h
  refine r_iald hc hw k174 (inL b1 l174) dX7_lookAt_5 ?_
  obtain ⟨v2, e3, h⟩ := nm_some h
  refine r_top e3 ?_
  refine lv_istore_n (lv' := [(3, .int v2), (0, .ref (X.1 + 163)), (1, .int x1), (2, .int x2)]) hx hb dX7_lookAt_6 rfl hl (by decide) rfl (fun ls hl => ?_)
  refine lv_aload_n hx hb dX7_lookAt_7 rfl (lv_at hl 1 rfl) ?_
  refine lv_dup hx hb dX7_lookAt_8 rfl ?_
  refine r_get7 hc hw k163 22 (by decide) (v := .long (gJ S 163 22)) rfl q3_150 dX7_lookAt_9 ?_
  refine lv_iload_n hx hb dX7_lookAt_12 rfl (lv_at hl 3 rfl) ?_
  refine lv_if_eq (tgt := 36) hx hb dX7_lookAt_13 (by decide) (fun c4 => ?_) (fun c4 => ?_)
  · have h := ifT c4 h
    refine lv_lconst (v := 0) hx hb dX7_lookAt_36 (by decide) ?_
    refine lv_ladd hx hb dX7_lookAt_37 ?_
    obtain ⟨S5, e6, h⟩ := nm_some h
    refine r_put7_22 hc hw k163 e6 q3_150 dX7_lookAt_38 (fun H locs hw => ?_)
    exact w_X7_lookAt_41 hc hr x1 x2 v2 S5 _ _ _ hw (lv_sub hl [1, 2, 3, 0] rfl) h
  · have h := ifF c4 h
    refine lv_aload_n hx hb dX7_lookAt_16 rfl (lv_at hl 1 rfl) ?_
    refine r_get7 hc hw k163 23 (by decide) (v := .long (gJ S 163 23)) rfl q3_151 dX7_lookAt_17 ?_
    refine lv_aload_n hx hb dX7_lookAt_20 rfl (lv_at hl 1 rfl) ?_
    refine r_get7 hc hw k163 24 (by decide) (v := .long (gJ S 163 24)) rfl q3_152 dX7_lookAt_21 ?_
    refine lv_ladd hx hb dX7_lookAt_24 ?_
    refine lv_aload_n hx hb dX7_lookAt_25 rfl (lv_at hl 1 rfl) ?_
    refine r_get7 hc hw k163 6 (by decide) (v := .ref (X.1 + 168)) rfl q3_134 dX7_lookAt_26 ?_
    refine lv_iload_n hx hb dX7_lookAt_29 rfl (lv_at hl 0 rfl) ?_
    obtain ⟨b7, h⟩ := bnd_some h
    refine r_iald hc hw k168 (inL b7 l168) dX7_lookAt_30 ?_
    refine lv_i2l hx hb dX7_lookAt_31 rfl ?_
    refine lv_lmul hx hb dX7_lookAt_32 ?_
    refine lv_goto (tgt := 37) hx hb dX7_lookAt_33 (by decide) ?_
    refine lv_ladd hx hb dX7_lookAt_37 ?_
    obtain ⟨S8, e9, h⟩ := nm_some h
    refine r_put7_22 hc hw k163 e9 q3_150 dX7_lookAt_38 (fun H locs hw => ?_)
    exact w_X7_lookAt_41 hc hr x1 x2 v2 S8 _ _ _ hw (lv_sub hl [1, 2, 3, 0] rfl) h
abbrev rm_X7_measure : Room := { frames := 2, cells := 0, slots := 0, locals := 45 }
theorem ms_X7_measure : MsV yX7_measure cX7_measure 3 none 1 := ⟨⟨q4_95, q1_8, by decide, by decide, by decide⟩, q4_94, qs_37⟩
set_option maxRecDepth 20000 in
theorem w_X7_measure_6 {p : Program} {l : Launch} {e : Env} {s : State} {m : MethodId} {args : Array Value} {below : List Frame} {meth : Method} {c : Code} {X : Wx} {r : Unit} {S' : Mm} (hc : Cx p s m args meth c X cX7_measure 3 RX7) (hr : meth.sig.returnType = none)   : ∀ (n : Nat), ∀ (x1 : Int32) (x2 : Int32) (S : Mm) (H : Heap) (locs : List Loc) (ls : Array Slot), Wd X s.heap S H locs → lv_has ls 3 [(0, .ref (X.1 + 163)), (1, .int x1), (2, .int x2)] → f_X7_measure_6 n x1 x2 S = some (r, S') → W p l e rm_X7_measure s m args below meth c H locs 0 0 (MQ below (Qq X none S') args s 0 0 (AA X.1)) (F0 m 6 ls []) := by
  have hx := hc.1
  have hb := hc.2.1
  intro n
  induction n with
  | zero => intro x1 x2 S H locs ls hw hl h; cases h
  | succ n ih =>
    intro x1 x2 S H locs ls hw hl h
    rw [f_X7_measure_6] at h
    refine lv_iload_n hx hb dX7_measure_6 rfl (lv_at hl 2 rfl) ?_
    refine lv_aload_n hx hb dX7_measure_7 rfl (lv_at hl 0 rfl) ?_
    refine r_get7 hc hw k163 3 (by decide) (v := .ref (X.1 + 165)) rfl q3_131 dX7_measure_8 ?_
    refine lv_iconst (v := 0) hx hb dX7_measure_11 (by decide) ?_
    obtain ⟨b1, h⟩ := bnd_some h
    refine r_iald hc hw k165 (inL b1 l165) dX7_measure_12 ?_
    refine lv_icmp_ge (tgt := 51) hx hb dX7_measure_13 (by decide) (fun c2 => ?_) (fun c2 => ?_)
    · have h := ifT c2 h
      refine lv_aload_n hx hb dX7_measure_51 rfl (lv_at hl 0 rfl) ?_
      refine lv_dup hx hb dX7_measure_52 rfl ?_
      refine r_get7 hc hw k163 22 (by decide) (v := .long (gJ S 163 22)) rfl q3_150 dX7_measure_53 ?_
      refine lv_aload_n hx hb dX7_measure_56 rfl (lv_at hl 0 rfl) ?_
      refine r_get7 hc hw k163 24 (by decide) (v := .long (gJ S 163 24)) rfl q3_152 dX7_measure_57 ?_
      refine lv_aload_n hx hb dX7_measure_60 rfl (lv_at hl 0 rfl) ?_
      refine r_get7 hc hw k163 9 (by decide) (v := .ref (X.1 + 171)) rfl q3_137 dX7_measure_61 ?_
      refine lv_iconst (v := 0) hx hb dX7_measure_64 (by decide) ?_
      obtain ⟨b3, h⟩ := bnd_some h
      refine r_iald hc hw k171 (inL b3 l171) dX7_measure_65 ?_
      refine lv_i2l hx hb dX7_measure_66 rfl ?_
      refine lv_lmul hx hb dX7_measure_67 ?_
      refine lv_ladd hx hb dX7_measure_68 ?_
      obtain ⟨S4, e5, h⟩ := nm_some h
      refine r_put7_22 hc hw k163 e5 q3_150 dX7_measure_69 (fun H locs hw => ?_)
      obtain ⟨rfl, rfl⟩ := sm_inj h
      exact r_vret hc hr hw dX7_measure_72
    · have h := ifF c2 h
      refine lv_aload_n hx hb dX7_measure_16 rfl (lv_at hl 0 rfl) ?_
      refine lv_iload_n hx hb dX7_measure_17 rfl (lv_at hl 2 rfl) ?_
      obtain ⟨r6, S7, h8, h⟩ := bd_some h
      refine r_callV7v hc hw hl.1 (As := [.int x2]) (rest := []) k163 (c_X7_work l X  h8) ms_X7_work rfl q4_100 rfl rfl ⟨rfl, rfl, Nat.le_of_ble_eq_true rfl, Nat.le_of_ble_eq_true rfl⟩ (Nat.le_of_ble_eq_true rfl) ⟨Nat.zero_le _, Nat.zero_le _⟩ dX7_measure_18 (fun H locs hw => ?_)
      refine lv_aload_n hx hb dX7_measure_21 rfl (lv_at hl 0 rfl) ?_
      refine lv_iload_n hx hb dX7_measure_22 rfl (lv_at hl 2 rfl) ?_
      refine lv_iload_n hx hb dX7_measure_23 rfl (lv_at hl 1 rfl) ?_
      refine lv_aload_n hx hb dX7_measure_24 rfl (lv_at hl 0 rfl) ?_
      refine r_get7 hc hw k163 20 (by decide) (v := .ref (X.1 + 174)) rfl q3_148 dX7_measure_25 ?_
      refine lv_iload_n hx hb dX7_measure_28 rfl (lv_at hl 2 rfl) ?_
      obtain ⟨b9, h⟩ := bnd_some h
      refine r_iald hc hw k174 (inL b9 l174) dX7_measure_29 ?_
      refine lv_ishr hx hb dX7_measure_30 ?_
      refine lv_iconst (v := 1) hx hb dX7_measure_31 (by decide) ?_
      refine lv_iand hx hb dX7_measure_32 ?_
      refine lv_iconst (v := 1) hx hb dX7_measure_33 (by decide) ?_
      refine lv_icmp_ne (tgt := 41) hx hb dX7_measure_34 (by decide) (fun c10 => ?_) (fun c10 => ?_)
      · have h := ifF c10 h
        refine lv_iconst (v := 0) hx hb dX7_measure_41 (by decide) ?_
        obtain ⟨r11, S12, h13, h⟩ := bd_some h
        refine r_callV7v hc hw hl.1 (As := [.int x2, .int 0]) (rest := []) k163 (c_X7_lookAt l X  h13) ms_X7_lookAt rfl q4_109 rfl rfl ⟨rfl, rfl, Nat.le_of_ble_eq_true rfl, Nat.le_of_ble_eq_true rfl⟩ (Nat.le_of_ble_eq_true rfl) ⟨Nat.zero_le _, Nat.zero_le _⟩ dX7_measure_42 (fun H locs hw => ?_)
        obtain ⟨v14, e15, h⟩ := nm_some h
        refine lv_iinc (v := v14) (lv' := [(2, .int v14), (0, .ref (X.1 + 163)), (1, .int x1)]) hx hb dX7_measure_45 hl (k := 2) rfl (by rw [e15]; rfl) (by decide) rfl (fun ls hl => ?_)
        refine lv_goto (tgt := 6) hx hb dX7_measure_48 (by decide) ?_
        exact ih x1 v14 S12 _ _ _ hw (lv_sub hl [1, 2, 0] rfl) h
      · have h := ifT c10 h
        refine lv_iconst (v := 1) hx hb dX7_measure_37 (by decide) ?_
        refine lv_goto (tgt := 42) hx hb dX7_measure_38 (by decide) ?_
        obtain ⟨r16, S17, h18, h⟩ := bd_some h
        refine r_callV7v hc hw hl.1 (As := [.int x2, .int 1]) (rest := []) k163 (c_X7_lookAt l X  h18) ms_X7_lookAt rfl q4_109 rfl rfl ⟨rfl, rfl, Nat.le_of_ble_eq_true rfl, Nat.le_of_ble_eq_true rfl⟩ (Nat.le_of_ble_eq_true rfl) ⟨Nat.zero_le _, Nat.zero_le _⟩ dX7_measure_42 (fun H locs hw => ?_)
        obtain ⟨v19, e20, h⟩ := nm_some h
        refine lv_iinc (v := v19) (lv' := [(2, .int v19), (0, .ref (X.1 + 163)), (1, .int x1)]) hx hb dX7_measure_45 hl (k := 2) rfl (by rw [e20]; rfl) (by decide) rfl (fun ls hl => ?_)
        refine lv_goto (tgt := 6) hx hb dX7_measure_48 (by decide) ?_
        exact ih x1 v19 S17 _ _ _ hw (lv_sub hl [1, 2, 0] rfl) h
set_option maxRecDepth 20000 in
theorem c_X7_measure (l : Launch) (X : Wx) {S S' : Mm} {r : Unit} {x1 : Int32}  (h : f_X7_measure S x1 = some (r, S')) : Ct l X yX7_measure cX7_measure 3 none rm_X7_measure [.ref (X.1 + 163), .int x1] S none S' := by
  refine r_entry (by decide) (Nat.le_of_ble_eq_true rfl) ?_
  intro p e s m args below meth c ls hc hr hw hl
  have hc : Cx p s m args meth c X cX7_measure 3 RX7 := hc
  have hl : lv_has ls 3 [(0, .ref (X.1 + 163)), (1, .int x1)] := hl
  have hx := hc.1
  have hb := hc.2.1
  unfold f_X7_measure at h
  refine lv_aload_n hx hb dX7_measure_0 rfl (lv_at hl 0 rfl) ?_
  obtain ⟨r1, S2, h3, h⟩ := bd_some h
  refine r_callV7v hc hw hl.1 (As := []) (rest := []) k163 (c_X7_begin l X  h3) ms_X7_begin rfl q4_96 rfl rfl ⟨rfl, rfl, Nat.le_of_ble_eq_true rfl, Nat.le_of_ble_eq_true rfl⟩ (Nat.le_of_ble_eq_true rfl) ⟨Nat.zero_le _, Nat.zero_le _⟩ dX7_measure_1 (fun H locs hw => ?_)
  refine lv_iconst (v := 0) hx hb dX7_measure_4 (by decide) ?_
  refine lv_istore_n (lv' := [(2, .int 0), (0, .ref (X.1 + 163)), (1, .int x1)]) hx hb dX7_measure_5 rfl hl (by decide) rfl (fun ls hl => ?_)
  exact w_X7_measure_6 hc hr 400 x1 0 S2 _ _ _ hw (lv_sub hl [1, 2, 0] rfl) h
abbrev rm_X7_bestLooks : Room := { frames := 3, cells := 0, slots := 0, locals := 67 }
theorem ms_X7_bestLooks : MsV yX7_bestLooks cX7_bestLooks 5 (some .int) 0 := ⟨⟨q4_128, q1_8, by decide, by decide, by decide⟩, q4_126, q4_127⟩
set_option maxRecDepth 20000 in
theorem w_X7_bestLooks_13 {p : Program} {l : Launch} {e : Env} {s : State} {m : MethodId} {args : Array Value} {below : List Frame} {meth : Method} {c : Code} {X : Wx} {r : Int32} {S' : Mm} (hc : Cx p s m args meth c X cX7_bestLooks 5 RX7) (hr : meth.sig.returnType = (some .int))   : ∀ (n : Nat), ∀ (x1 : Int32) (x2 : Int64) (x4 : Int32) (S : Mm) (H : Heap) (locs : List Loc) (ls : Array Slot), Wd X s.heap S H locs → lv_has ls 5 [(0, .ref (X.1 + 163)), (1, .int x1), (2, .long x2), (4, .int x4)] → f_X7_bestLooks_13 n x1 x2 x4 S = some (r, S') → W p l e rm_X7_bestLooks s m args below meth c H locs 0 0 (MQ below (Qq X (some (.int r)) S') args s 0 0 (AA X.1)) (F0 m 13 ls []) := by
  have hx := hc.1
  have hb := hc.2.1
  intro n
  induction n with
  | zero => intro x1 x2 x4 S H locs ls hw hl h; cases h
  | succ n ih =>
    intro x1 x2 x4 S H locs ls hw hl h
    rw [f_X7_bestLooks_13] at h
    refine lv_iload hx hb dX7_bestLooks_13 (lv_at hl 3 rfl) ?_
    refine lv_iconst (v := 1) hx hb dX7_bestLooks_15 (by decide) ?_
    refine lv_aload_n hx hb dX7_bestLooks_16 rfl (lv_at hl 0 rfl) ?_
    refine r_get7 hc hw k163 3 (by decide) (v := .ref (X.1 + 165)) rfl q3_131 dX7_bestLooks_17 ?_
    refine lv_iconst (v := 0) hx hb dX7_bestLooks_20 (by decide) ?_
    obtain ⟨b1, h⟩ := bnd_some h
    refine r_iald hc hw k165 (inL b1 l165) dX7_bestLooks_21 ?_
    refine lv_ishl hx hb dX7_bestLooks_22 ?_
    refine lv_icmp_ge (tgt := 61) hx hb dX7_bestLooks_23 (by decide) (fun c2 => ?_) (fun c2 => ?_)
    · have h := ifT c2 h
      refine lv_iload_n hx hb dX7_bestLooks_61 rfl (lv_at hl 1 rfl) ?_
      obtain ⟨rfl, rfl⟩ := sm_inj h
      exact r_iret hc hr hw dX7_bestLooks_62
    · have h := ifF c2 h
      refine lv_aload_n hx hb dX7_bestLooks_26 rfl (lv_at hl 0 rfl) ?_
      refine lv_iload hx hb dX7_bestLooks_27 (lv_at hl 3 rfl) ?_
      obtain ⟨r3, S4, h5, h⟩ := bd_some h
      refine r_callV7v hc hw hl.1 (As := [.int x4]) (rest := []) k163 (c_X7_measure l X  h5) ms_X7_measure rfl q4_92 rfl rfl ⟨rfl, rfl, Nat.le_of_ble_eq_true rfl, Nat.le_of_ble_eq_true rfl⟩ (Nat.le_of_ble_eq_true rfl) ⟨Nat.zero_le _, Nat.zero_le _⟩ dX7_bestLooks_29 (fun H locs hw => ?_)
      refine lv_lload_n hx hb dX7_bestLooks_32 rfl (lv_at hl 2 rfl) ?_
      refine lv_lconst (v := 0) hx hb dX7_bestLooks_33 (by decide) ?_
      refine W.lcmp hx hb dX7_bestLooks_34 ?_
      refine lv_if_lt (tgt := 47) hx hb dX7_bestLooks_35 (by decide) (fun c6 => ?_) (fun c6 => ?_)
      · have h := ifT c6 h
        refine lv_iload hx hb dX7_bestLooks_47 (lv_at hl 3 rfl) ?_
        refine lv_istore_n (lv' := [(1, .int x4), (0, .ref (X.1 + 163)), (2, .long x2), (4, .int x4)]) hx hb dX7_bestLooks_49 rfl hl (by decide) rfl (fun ls hl => ?_)
        refine lv_aload_n hx hb dX7_bestLooks_50 rfl (lv_at hl 1 rfl) ?_
        refine r_get7 hc hw k163 22 (by decide) (v := .long (gJ S4 163 22)) rfl q3_150 dX7_bestLooks_51 ?_
        obtain ⟨v7, e8, h⟩ := nm_some h
        refine r_topl e8 ?_
        refine lv_lstore_n (lv' := [(2, .long v7), (1, .int x4), (0, .ref (X.1 + 163)), (4, .int x4)]) hx hb dX7_bestLooks_54 rfl hl (by decide) rfl (fun ls hl => ?_)
        obtain ⟨v9, e10, h⟩ := nm_some h
        refine lv_iinc (v := v9) (lv' := [(4, .int v9), (2, .long v7), (1, .int x4), (0, .ref (X.1 + 163))]) hx hb dX7_bestLooks_55 hl (k := 3) rfl (by rw [e10]; rfl) (by decide) rfl (fun ls hl => ?_)
        refine lv_goto (tgt := 13) hx hb dX7_bestLooks_58 (by decide) ?_
        exact ih x4 v7 v9 S4 _ _ _ hw (lv_sub hl [3, 2, 1, 0] rfl) h
      · have h := ifF c6 h
        refine lv_aload_n hx hb dX7_bestLooks_38 rfl (lv_at hl 0 rfl) ?_
        refine r_get7 hc hw k163 22 (by decide) (v := .long (gJ S4 163 22)) rfl q3_150 dX7_bestLooks_39 ?_
        refine lv_lload_n hx hb dX7_bestLooks_42 rfl (lv_at hl 2 rfl) ?_
        refine W.lcmp hx hb dX7_bestLooks_43 ?_
        refine lv_if_ge (tgt := 55) hx hb dX7_bestLooks_44 (by decide) (fun c11 => ?_) (fun c11 => ?_)
        · have h := ifT c11 h
          obtain ⟨v12, e13, h⟩ := nm_some h
          refine lv_iinc (v := v12) (lv' := [(4, .int v12), (0, .ref (X.1 + 163)), (1, .int x1), (2, .long x2)]) hx hb dX7_bestLooks_55 hl (k := 3) rfl (by rw [e13]; rfl) (by decide) rfl (fun ls hl => ?_)
          refine lv_goto (tgt := 13) hx hb dX7_bestLooks_58 (by decide) ?_
          exact ih x1 x2 v12 S4 _ _ _ hw (lv_sub hl [1, 2, 3, 0] rfl) h
        · have h := ifF c11 h
          refine lv_iload hx hb dX7_bestLooks_47 (lv_at hl 3 rfl) ?_
          refine lv_istore_n (lv' := [(1, .int x4), (0, .ref (X.1 + 163)), (2, .long x2), (4, .int x4)]) hx hb dX7_bestLooks_49 rfl hl (by decide) rfl (fun ls hl => ?_)
          refine lv_aload_n hx hb dX7_bestLooks_50 rfl (lv_at hl 1 rfl) ?_
          refine r_get7 hc hw k163 22 (by decide) (v := .long (gJ S4 163 22)) rfl q3_150 dX7_bestLooks_51 ?_
          obtain ⟨v14, e15, h⟩ := nm_some h
          refine r_topl e15 ?_
          refine lv_lstore_n (lv' := [(2, .long v14), (1, .int x4), (0, .ref (X.1 + 163)), (4, .int x4)]) hx hb dX7_bestLooks_54 rfl hl (by decide) rfl (fun ls hl => ?_)
          obtain ⟨v16, e17, h⟩ := nm_some h
          refine lv_iinc (v := v16) (lv' := [(4, .int v16), (2, .long v14), (1, .int x4), (0, .ref (X.1 + 163))]) hx hb dX7_bestLooks_55 hl (k := 3) rfl (by rw [e17]; rfl) (by decide) rfl (fun ls hl => ?_)
          refine lv_goto (tgt := 13) hx hb dX7_bestLooks_58 (by decide) ?_
          exact ih x4 v14 v16 S4 _ _ _ hw (lv_sub hl [3, 2, 1, 0] rfl) h
set_option maxRecDepth 20000 in
theorem c_X7_bestLooks (l : Launch) (X : Wx) {S S' : Mm} {r : Int32}   (h : f_X7_bestLooks S = some (r, S')) : Ct l X yX7_bestLooks cX7_bestLooks 5 (some .int) rm_X7_bestLooks [.ref (X.1 + 163)] S (some (.int r)) S' := by
  refine r_entry (by decide) (Nat.le_of_ble_eq_true rfl) ?_
  intro p e s m args below meth c ls hc hr hw hl
  have hc : Cx p s m args meth c X cX7_bestLooks 5 RX7 := hc
  have hl : lv_has ls 5 [(0, .ref (X.1 + 163))] := hl
  have hx := hc.1
  have hb := hc.2.1
  unfold f_X7_bestLooks at h
  refine lv_aload_n hx hb dX7_bestLooks_0 rfl (lv_at hl 0 rfl) ?_
  obtain ⟨r1, S2, h3, h⟩ := bd_some h
  refine r_callV7v hc hw hl.1 (As := []) (rest := []) k163 (c_X7_takeRow l X  h3) ms_X7_takeRow rfl q4_88 rfl rfl ⟨rfl, rfl, Nat.le_of_ble_eq_true rfl, Nat.le_of_ble_eq_true rfl⟩ (Nat.le_of_ble_eq_true rfl) ⟨Nat.zero_le _, Nat.zero_le _⟩ dX7_bestLooks_1 (fun H locs hw => ?_)
  refine lv_iconst (v := 0) hx hb dX7_bestLooks_4 (by decide) ?_
  refine lv_istore_n (lv' := [(1, .int 0), (0, .ref (X.1 + 163))]) hx hb dX7_bestLooks_5 rfl hl (by decide) rfl (fun ls hl => ?_)
  refine lv_ldc2 hx hb hc.2.2.2.1 (hc.2.2.2.2.1 _ q4_87) dX7_bestLooks_6 ?_
  refine lv_lstore_n (lv' := [(2, .long (-1)), (1, .int 0), (0, .ref (X.1 + 163))]) hx hb dX7_bestLooks_9 rfl hl (by decide) rfl (fun ls hl => ?_)
  refine lv_iconst (v := 0) hx hb dX7_bestLooks_10 (by decide) ?_
  refine lv_istore (lv' := [(4, .int 0), (2, .long (-1)), (1, .int 0), (0, .ref (X.1 + 163))]) hx hb dX7_bestLooks_11 hl (by decide) rfl (fun ls hl => ?_)
  exact w_X7_bestLooks_13 hc hr 400 0 ((-1)) 0 S2 _ _ _ hw (lv_sub hl [3, 2, 1, 0] rfl) h
