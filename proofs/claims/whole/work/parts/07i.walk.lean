abbrev rm_X7_step : Room := { frames := 2, cells := 0, slots := 0, locals := 43 }
theorem ms_X7_step : MsV yX7_step cX7_step 3 (some .int) 2 := ⟨⟨q4_25, q1_8, by decide, by decide, by decide⟩, q4_23, q4_24⟩
set_option maxRecDepth 20000 in
theorem c_X7_step (l : Launch) (X : Wx) {S S' : Mm} {r : Int32} {x1 : Int32} {x2 : Int32}  (h : f_X7_step S x1 x2 = some (r, S')) : Ct l X yX7_step cX7_step 3 (some .int) rm_X7_step [.ref (X.1 + 163), .int x1, .int x2] S (some (.int r)) S' := by
  refine r_entry (by decide) (Nat.le_of_ble_eq_true rfl) ?_
  intro p e s m args below meth c ls hc hr hw hl
  have hc : Cx p s m args meth c X cX7_step 3 RX7 := hc
  have hl : lv_has ls 3 [(0, .ref (X.1 + 163)), (1, .int x1), (2, .int x2)] := hl
  have hx := hc.1
  have hb := hc.2.1
  unfold f_X7_step at h
  refine lv_aload_n hx hb dX7_step_0 rfl (lv_at hl 0 rfl) ?_
  refine lv_iload_n hx hb dX7_step_1 rfl (lv_at hl 1 rfl) ?_
  obtain ⟨r1, S2, h3, h⟩ := bd_some h
  refine r_callV7i hc hw hl.1 (As := [.int x1]) (rest := []) k163 (c_X7_isStep l X  h3) ms_X7_isStep rfl q4_26 rfl rfl ⟨rfl, rfl, Nat.le_of_ble_eq_true rfl, Nat.le_of_ble_eq_true rfl⟩ (Nat.le_of_ble_eq_true rfl) ⟨Nat.zero_le _, Nat.zero_le _⟩ dX7_step_2 (fun H locs hw => ?_)
  refine lv_if_ne (tgt := 10) hx hb dX7_step_5 (by decide) (fun c4 => ?_) (fun c4 => ?_)
  · have h := ifF c4 h
    refine lv_iload_n hx hb dX7_step_10 rfl (lv_at hl 2 rfl) ?_
    by_cases c5 : x2 = 0
    · have h := ifT c5 h
      refine lv_tableIn (off := 45) (tgt := 56) hx hb dX7_step_11 (by rw [c5]; decide) (by rw [c5]; decide) (by rw [c5]; rfl) (by decide) ?_
      refine lv_aload_n hx hb dX7_step_56 rfl (lv_at hl 0 rfl) ?_
      refine r_get7 hc hw k163 4 (by decide) (v := .ref (X.1 + 166)) rfl q3_132 dX7_step_57 ?_
      refine lv_iload_n hx hb dX7_step_60 rfl (lv_at hl 1 rfl) ?_
      obtain ⟨b6, h⟩ := bnd_some h
      refine r_iald hc hw k166 (inL b6 l166) dX7_step_61 ?_
      obtain ⟨rfl, rfl⟩ := sm_inj h
      exact r_iret hc hr hw dX7_step_62
    · have h := ifF c5 h
      by_cases c7 : x2 = 1
      · have h := ifT c7 h
        refine lv_tableIn (off := 52) (tgt := 63) hx hb dX7_step_11 (by rw [c7]; decide) (by rw [c7]; decide) (by rw [c7]; rfl) (by decide) ?_
        refine lv_aload_n hx hb dX7_step_63 rfl (lv_at hl 0 rfl) ?_
        refine r_get7 hc hw k163 16 (by decide) (v := .ref (X.1 + 172)) rfl q3_144 dX7_step_64 ?_
        refine lv_iconst (v := 5) hx hb dX7_step_67 (by decide) ?_
        refine lv_iload_n hx hb dX7_step_68 rfl (lv_at hl 1 rfl) ?_
        refine lv_iadd hx hb dX7_step_69 ?_
        obtain ⟨b8, h⟩ := bnd_some h
        refine r_iald hc hw k172 (inL b8 l172) dX7_step_70 ?_
        obtain ⟨rfl, rfl⟩ := sm_inj h
        exact r_iret hc hr hw dX7_step_71
      · have h := ifF c7 h
        by_cases c9 : x2 = 2
        · have h := ifT c9 h
          refine lv_tableIn (off := 61) (tgt := 72) hx hb dX7_step_11 (by rw [c9]; decide) (by rw [c9]; decide) (by rw [c9]; rfl) (by decide) ?_
          refine lv_aload_n hx hb dX7_step_72 rfl (lv_at hl 0 rfl) ?_
          refine r_get7 hc hw k163 6 (by decide) (v := .ref (X.1 + 168)) rfl q3_134 dX7_step_73 ?_
          refine lv_iload_n hx hb dX7_step_76 rfl (lv_at hl 1 rfl) ?_
          obtain ⟨b10, h⟩ := bnd_some h
          refine r_iald hc hw k168 (inL b10 l168) dX7_step_77 ?_
          obtain ⟨rfl, rfl⟩ := sm_inj h
          exact r_iret hc hr hw dX7_step_78
        · have h := ifF c9 h
          by_cases c11 : x2 = 3
          · have h := ifT c11 h
            refine lv_tableIn (off := 68) (tgt := 79) hx hb dX7_step_11 (by rw [c11]; decide) (by rw [c11]; decide) (by rw [c11]; rfl) (by decide) ?_
            refine lv_aload_n hx hb dX7_step_79 rfl (lv_at hl 0 rfl) ?_
            refine r_get7 hc hw k163 7 (by decide) (v := .ref (X.1 + 169)) rfl q3_135 dX7_step_80 ?_
            refine lv_iload_n hx hb dX7_step_83 rfl (lv_at hl 1 rfl) ?_
            obtain ⟨b12, h⟩ := bnd_some h
            refine r_iald hc hw k169 (inL b12 l169) dX7_step_84 ?_
            obtain ⟨rfl, rfl⟩ := sm_inj h
            exact r_iret hc hr hw dX7_step_85
          · have h := ifF c11 h
            by_cases c13 : x2 = 4
            · have h := ifT c13 h
              refine lv_tableIn (off := 75) (tgt := 86) hx hb dX7_step_11 (by rw [c13]; decide) (by rw [c13]; decide) (by rw [c13]; rfl) (by decide) ?_
              refine lv_aload_n hx hb dX7_step_86 rfl (lv_at hl 0 rfl) ?_
              refine r_get7 hc hw k163 16 (by decide) (v := .ref (X.1 + 172)) rfl q3_144 dX7_step_87 ?_
              refine lv_bipush (v := 10) hx hb dX7_step_90 (by decide) ?_
              obtain ⟨b14, h⟩ := bnd_some h
              refine r_iald hc hw k172 (inL b14 l172) dX7_step_92 ?_
              refine lv_iload_n hx hb dX7_step_93 rfl (lv_at hl 1 rfl) ?_
              refine lv_ishr hx hb dX7_step_94 ?_
              refine lv_iconst (v := 1) hx hb dX7_step_95 (by decide) ?_
              refine lv_iand hx hb dX7_step_96 ?_
              obtain ⟨rfl, rfl⟩ := sm_inj h
              exact r_iret hc hr hw dX7_step_97
            · have h := ifF c13 h
              by_cases c15 : x2 = 5
              · have h := ifT c15 h
                refine lv_tableIn (off := 87) (tgt := 98) hx hb dX7_step_11 (by rw [c15]; decide) (by rw [c15]; decide) (by rw [c15]; rfl) (by decide) ?_
                refine lv_aload_n hx hb dX7_step_98 rfl (lv_at hl 0 rfl) ?_
                refine r_get7 hc hw k163 16 (by decide) (v := .ref (X.1 + 172)) rfl q3_144 dX7_step_99 ?_
                refine lv_bipush (v := 14) hx hb dX7_step_102 (by decide) ?_
                refine lv_iload_n hx hb dX7_step_104 rfl (lv_at hl 1 rfl) ?_
                refine lv_iadd hx hb dX7_step_105 ?_
                obtain ⟨b16, h⟩ := bnd_some h
                refine r_iald hc hw k172 (inL b16 l172) dX7_step_106 ?_
                obtain ⟨rfl, rfl⟩ := sm_inj h
                exact r_iret hc hr hw dX7_step_107
              · have h := ifF c15 h
                by_cases c17 : x2 = 6
                · have h := ifT c17 h
                  refine lv_tableIn (off := 97) (tgt := 108) hx hb dX7_step_11 (by rw [c17]; decide) (by rw [c17]; decide) (by rw [c17]; rfl) (by decide) ?_
                  refine lv_aload_n hx hb dX7_step_108 rfl (lv_at hl 0 rfl) ?_
                  refine lv_iload_n hx hb dX7_step_109 rfl (lv_at hl 1 rfl) ?_
                  obtain ⟨r18, S19, h20, h⟩ := bd_some h
                  refine r_callV7i hc hw hl.1 (As := [.int x1]) (rest := []) k163 (c_X7_placeOf l X  h20) ms_X7_placeOf rfl q4_30 rfl rfl ⟨rfl, rfl, Nat.le_of_ble_eq_true rfl, Nat.le_of_ble_eq_true rfl⟩ (Nat.le_of_ble_eq_true rfl) ⟨Nat.zero_le _, Nat.zero_le _⟩ dX7_step_110 (fun H locs hw => ?_)
                  obtain ⟨rfl, rfl⟩ := sm_inj h
                  exact r_iret hc hr hw dX7_step_113
                · have h := ifF c17 h
                  by_cases c21 : x2 = 7
                  · have h := ifT c21 h
                    refine lv_tableIn (off := 103) (tgt := 114) hx hb dX7_step_11 (by rw [c21]; decide) (by rw [c21]; decide) (by rw [c21]; rfl) (by decide) ?_
                    refine lv_aload_n hx hb dX7_step_114 rfl (lv_at hl 0 rfl) ?_
                    refine r_get7 hc hw k163 8 (by decide) (v := .ref (X.1 + 170)) rfl q3_136 dX7_step_115 ?_
                    refine lv_iload_n hx hb dX7_step_118 rfl (lv_at hl 1 rfl) ?_
                    obtain ⟨b22, h⟩ := bnd_some h
                    refine r_iald hc hw k170 (inL b22 l170) dX7_step_119 ?_
                    obtain ⟨rfl, rfl⟩ := sm_inj h
                    exact r_iret hc hr hw dX7_step_120
                  · have h := ifF c21 h
                    refine lv_tableOut (tgt := 121) hx hb dX7_step_11 (by have := lv_neT c5 (a := 0) (by decide); have := lv_neT c7 (a := 1) (by decide); have := lv_neT c9 (a := 2) (by decide); have := lv_neT c11 (a := 3) (by decide); have := lv_neT c13 (a := 4) (by decide); have := lv_neT c15 (a := 5) (by decide); have := lv_neT c17 (a := 6) (by decide); have := lv_neT c21 (a := 7) (by decide); omega) (by decide) ?_
                    refine lv_iconst (v := (-1)) hx hb dX7_step_121 (by decide) ?_
                    obtain ⟨rfl, rfl⟩ := sm_inj h
                    exact r_iret hc hr hw dX7_step_122
  · have h := ifT c4 h
    refine lv_iconst (v := (-1)) hx hb dX7_step_8 (by decide) ?_
    obtain ⟨rfl, rfl⟩ := sm_inj h
    exact r_iret hc hr hw dX7_step_9
abbrev rm_X7_tells : Room := { frames := 2, cells := 0, slots := 0, locals := 42 }
theorem ms_X7_tells : MsV yX7_tells cX7_tells 3 (some .int) 2 := ⟨⟨q4_165, q1_8, by decide, by decide, by decide⟩, q4_163, q4_164⟩
set_option maxRecDepth 20000 in
theorem c_X7_tells (l : Launch) (X : Wx) {S S' : Mm} {r : Int32} {x1 : Int32} {x2 : Int32}  (h : f_X7_tells S x1 x2 = some (r, S')) : Ct l X yX7_tells cX7_tells 3 (some .int) rm_X7_tells [.ref (X.1 + 163), .int x1, .int x2] S (some (.int r)) S' := by
  refine r_entry (by decide) (Nat.le_of_ble_eq_true rfl) ?_
  intro p e s m args below meth c ls hc hr hw hl
  have hc : Cx p s m args meth c X cX7_tells 3 RX7 := hc
  have hl : lv_has ls 3 [(0, .ref (X.1 + 163)), (1, .int x1), (2, .int x2)] := hl
  have hx := hc.1
  have hb := hc.2.1
  unfold f_X7_tells at h
  refine lv_iload_n hx hb dX7_tells_0 rfl (lv_at hl 1 rfl) ?_
  obtain ⟨r1, S2, h3, h⟩ := bd_some h
  refine r_callSi hc hw hl.1 (As := [.int x1]) (rest := []) (c_X7_isSeed l X  h3) ms_X7_isSeed q4_42 rfl rfl ⟨rfl, rfl, Nat.le_of_ble_eq_true rfl, Nat.le_of_ble_eq_true rfl⟩ (Nat.le_of_ble_eq_true rfl) ⟨Nat.zero_le _, Nat.zero_le _⟩ dX7_tells_1 (fun H locs hw => ?_)
  refine lv_if_eq (tgt := 16) hx hb dX7_tells_4 (by decide) (fun c4 => ?_) (fun c4 => ?_)
  · have h := ifT c4 h
    refine lv_iconst (v := (-1)) hx hb dX7_tells_16 (by decide) ?_
    obtain ⟨rfl, rfl⟩ := sm_inj h
    exact r_iret hc hr hw dX7_tells_17
  · have h := ifF c4 h
    refine lv_iload_n hx hb dX7_tells_7 rfl (lv_at hl 2 rfl) ?_
    refine lv_iconst (v := 0) hx hb dX7_tells_8 (by decide) ?_
    refine lv_iconst (v := 2) hx hb dX7_tells_9 (by decide) ?_
    obtain ⟨r5, S6, h7, h⟩ := bd_some h
    refine r_callSi hc hw hl.1 (As := [.int x2, .int 0, .int 2]) (rest := []) (c_X7_in l X  h7) ms_X7_in q3_227 rfl rfl ⟨rfl, rfl, Nat.le_of_ble_eq_true rfl, Nat.le_of_ble_eq_true rfl⟩ (Nat.le_of_ble_eq_true rfl) ⟨Nat.zero_le _, Nat.zero_le _⟩ dX7_tells_10 (fun H locs hw => ?_)
    refine lv_if_ne (tgt := 18) hx hb dX7_tells_13 (by decide) (fun c8 => ?_) (fun c8 => ?_)
    · have h := ifF c8 h
      refine lv_aload_n hx hb dX7_tells_18 rfl (lv_at hl 0 rfl) ?_
      refine r_get7 hc hw k163 30 (by decide) (v := .int (gI S6 163 30)) rfl q3_158 dX7_tells_19 ?_
      refine lv_bipush (v := 6) hx hb dX7_tells_22 (by decide) ?_
      refine lv_icmp_ne (tgt := 30) hx hb dX7_tells_24 (by decide) (fun c9 => ?_) (fun c9 => ?_)
      · have h := ifF c9 h
        refine lv_aload_n hx hb dX7_tells_30 rfl (lv_at hl 0 rfl) ?_
        refine r_get7 hc hw k163 28 (by decide) (v := .ref (X.1 + 178)) rfl q3_156 dX7_tells_31 ?_
        refine lv_aload_n hx hb dX7_tells_34 rfl (lv_at hl 0 rfl) ?_
        refine r_get7 hc hw k163 30 (by decide) (v := .int (gI S6 163 30)) rfl q3_158 dX7_tells_35 ?_
        refine lv_iload_n hx hb dX7_tells_38 rfl (lv_at hl 1 rfl) ?_
        obtain ⟨b10, h⟩ := bnd_some h
        obtain ⟨S11, e12, h⟩ := nm_some h
        refine r_iast hc hw k178 (inL b10 l178) e12 dX7_tells_39 (fun H locs hw => ?_)
        refine lv_aload_n hx hb dX7_tells_40 rfl (lv_at hl 0 rfl) ?_
        refine r_get7 hc hw k163 29 (by decide) (v := .ref (X.1 + 179)) rfl q3_157 dX7_tells_41 ?_
        refine lv_aload_n hx hb dX7_tells_44 rfl (lv_at hl 0 rfl) ?_
        refine r_get7 hc hw k163 30 (by decide) (v := .int (gI S11 163 30)) rfl q3_158 dX7_tells_45 ?_
        refine lv_iload_n hx hb dX7_tells_48 rfl (lv_at hl 2 rfl) ?_
        obtain ⟨b13, h⟩ := bnd_some h
        obtain ⟨S14, e15, h⟩ := nm_some h
        refine r_iast hc hw k179 (inL b13 l179) e15 dX7_tells_49 (fun H locs hw => ?_)
        refine lv_aload_n hx hb dX7_tells_50 rfl (lv_at hl 0 rfl) ?_
        refine lv_dup hx hb dX7_tells_51 rfl ?_
        refine r_get7 hc hw k163 30 (by decide) (v := .int (gI S14 163 30)) rfl q3_158 dX7_tells_52 ?_
        refine lv_iconst (v := 1) hx hb dX7_tells_55 (by decide) ?_
        refine lv_iadd hx hb dX7_tells_56 ?_
        obtain ⟨S16, e17, h⟩ := nm_some h
        refine r_put7_30 hc hw k163 e17 q3_158 dX7_tells_57 (fun H locs hw => ?_)
        refine lv_aload_n hx hb dX7_tells_60 rfl (lv_at hl 0 rfl) ?_
        refine r_get7 hc hw k163 30 (by decide) (v := .int (gI S16 163 30)) rfl q3_158 dX7_tells_61 ?_
        obtain ⟨rfl, rfl⟩ := sm_inj h
        exact r_iret hc hr hw dX7_tells_64
      · have h := ifT c9 h
        refine lv_bipush (v := (-3)) hx hb dX7_tells_27 (by decide) ?_
        obtain ⟨rfl, rfl⟩ := sm_inj h
        exact r_iret hc hr hw dX7_tells_29
    · have h := ifT c8 h
      refine lv_iconst (v := (-1)) hx hb dX7_tells_16 (by decide) ?_
      obtain ⟨rfl, rfl⟩ := sm_inj h
      exact r_iret hc hr hw dX7_tells_17
abbrev rm_X7_trace : Room := { frames := 0, cells := 0, slots := 0, locals := 0 }
theorem ms_X7_trace : MsV yX7_trace cX7_trace 1 (some .long) 0 := ⟨⟨q4_199, q1_8, by decide, by decide, by decide⟩, q4_197, q4_198⟩
set_option maxRecDepth 20000 in
theorem c_X7_trace (l : Launch) (X : Wx) {S S' : Mm} {r : Int64}   (h : f_X7_trace S = some (r, S')) : Ct l X yX7_trace cX7_trace 1 (some .long) rm_X7_trace [.ref (X.1 + 163)] S (some (.long r)) S' := by
  refine r_entry (by decide) (Nat.le_of_ble_eq_true rfl) ?_
  intro p e s m args below meth c ls hc hr hw hl
  have hc : Cx p s m args meth c X cX7_trace 1 RX7 := hc
  have hl : lv_has ls 1 [(0, .ref (X.1 + 163))] := hl
  have hx := hc.1
  have hb := hc.2.1
  unfold f_X7_trace at h
  refine lv_aload_n hx hb dX7_trace_0 rfl (lv_at hl 0 rfl) ?_
  refine r_get7 hc hw k163 0 (by decide) (v := .long (gJ S 163 0)) rfl q3_128 dX7_trace_1 ?_
  obtain ⟨rfl, rfl⟩ := sm_inj h
  exact r_lret hc hr hw dX7_trace_4
abbrev rm_X7_type : Room := { frames := 1, cells := 0, slots := 0, locals := 22 }
theorem ms_X7_type : MsV yX7_type cX7_type 2 (some .int) 1 := ⟨⟨q3_226, q1_8, by decide, by decide, by decide⟩, q3_224, q3_225⟩
set_option maxRecDepth 20000 in
theorem c_X7_type (l : Launch) (X : Wx) {S S' : Mm} {r : Int32} {x1 : Int32}  (h : f_X7_type S x1 = some (r, S')) : Ct l X yX7_type cX7_type 2 (some .int) rm_X7_type [.ref (X.1 + 163), .int x1] S (some (.int r)) S' := by
  refine r_entry (by decide) (Nat.le_of_ble_eq_true rfl) ?_
  intro p e s m args below meth c ls hc hr hw hl
  have hc : Cx p s m args meth c X cX7_type 2 RX7 := hc
  have hl : lv_has ls 2 [(0, .ref (X.1 + 163)), (1, .int x1)] := hl
  have hx := hc.1
  have hb := hc.2.1
  unfold f_X7_type at h
  refine lv_iload_n hx hb dX7_type_0 rfl (lv_at hl 1 rfl) ?_
  refine lv_iconst (v := 0) hx hb dX7_type_1 (by decide) ?_
  refine lv_sipush (v := 255) hx hb dX7_type_2 (by decide) ?_
  obtain ⟨r1, S2, h3, h⟩ := bd_some h
  refine r_callSi hc hw hl.1 (As := [.int x1, .int 0, .int 255]) (rest := []) (c_X7_in l X  h3) ms_X7_in q3_227 rfl rfl ⟨rfl, rfl, Nat.le_of_ble_eq_true rfl, Nat.le_of_ble_eq_true rfl⟩ (Nat.le_of_ble_eq_true rfl) ⟨Nat.zero_le _, Nat.zero_le _⟩ dX7_type_5 (fun H locs hw => ?_)
  refine lv_if_ne (tgt := 13) hx hb dX7_type_8 (by decide) (fun c4 => ?_) (fun c4 => ?_)
  · have h := ifF c4 h
    refine lv_aload_n hx hb dX7_type_13 rfl (lv_at hl 0 rfl) ?_
    refine r_get7 hc hw k163 2 (by decide) (v := .int (gI S2 163 2)) rfl q3_130 dX7_type_14 ?_
    refine lv_sipush (v := 150) hx hb dX7_type_17 (by decide) ?_
    refine lv_icmp_ne (tgt := 26) hx hb dX7_type_20 (by decide) (fun c5 => ?_) (fun c5 => ?_)
    · have h := ifF c5 h
      refine lv_aload_n hx hb dX7_type_26 rfl (lv_at hl 0 rfl) ?_
      refine r_get7 hc hw k163 1 (by decide) (v := .ref (X.1 + 164)) rfl q3_129 dX7_type_27 ?_
      refine lv_aload_n hx hb dX7_type_30 rfl (lv_at hl 0 rfl) ?_
      refine r_get7 hc hw k163 2 (by decide) (v := .int (gI S2 163 2)) rfl q3_130 dX7_type_31 ?_
      refine lv_iload_n hx hb dX7_type_34 rfl (lv_at hl 1 rfl) ?_
      refine lv_i2b hx hb dX7_type_35 rfl ?_
      obtain ⟨b6, h⟩ := bnd_some h
      obtain ⟨S7, e8, h⟩ := nm_some h
      refine r_bast hc hw k164 (inL b6 l164) e8 dX7_type_36 (fun H locs hw => ?_)
      refine lv_aload_n hx hb dX7_type_37 rfl (lv_at hl 0 rfl) ?_
      refine lv_dup hx hb dX7_type_38 rfl ?_
      refine r_get7 hc hw k163 2 (by decide) (v := .int (gI S7 163 2)) rfl q3_130 dX7_type_39 ?_
      refine lv_iconst (v := 1) hx hb dX7_type_42 (by decide) ?_
      refine lv_iadd hx hb dX7_type_43 ?_
      obtain ⟨S9, e10, h⟩ := nm_some h
      refine r_put7_2 hc hw k163 e10 q3_130 dX7_type_44 (fun H locs hw => ?_)
      refine lv_aload_n hx hb dX7_type_47 rfl (lv_at hl 0 rfl) ?_
      refine r_get7 hc hw k163 2 (by decide) (v := .int (gI S9 163 2)) rfl q3_130 dX7_type_48 ?_
      obtain ⟨rfl, rfl⟩ := sm_inj h
      exact r_iret hc hr hw dX7_type_51
    · have h := ifT c5 h
      refine lv_bipush (v := (-3)) hx hb dX7_type_23 (by decide) ?_
      obtain ⟨rfl, rfl⟩ := sm_inj h
      exact r_iret hc hr hw dX7_type_25
  · have h := ifT c4 h
    refine lv_iconst (v := (-1)) hx hb dX7_type_11 (by decide) ?_
    obtain ⟨rfl, rfl⟩ := sm_inj h
    exact r_iret hc hr hw dX7_type_12
abbrev rm_X7_undo : Room := { frames := 0, cells := 0, slots := 0, locals := 0 }
theorem ms_X7_undo : MsV yX7_undo cX7_undo 2 (some .int) 0 := ⟨⟨q4_78, q1_8, by decide, by decide, by decide⟩, q4_76, q4_77⟩
set_option maxRecDepth 20000 in
theorem w_X7_undo_26 {p : Program} {l : Launch} {e : Env} {s : State} {m : MethodId} {args : Array Value} {below : List Frame} {meth : Method} {c : Code} {X : Wx} {r : Int32} {S' : Mm} (hc : Cx p s m args meth c X cX7_undo 2 RX7) (hr : meth.sig.returnType = (some .int))   : ∀ (n : Nat), ∀ (x1 : Int32) (S : Mm) (H : Heap) (locs : List Loc) (ls : Array Slot), Wd X s.heap S H locs → lv_has ls 2 [(0, .ref (X.1 + 163)), (1, .int x1)] → f_X7_undo_26 n x1 S = some (r, S') → W p l e rm_X7_undo s m args below meth c H locs 0 0 (MQ below (Qq X (some (.int r)) S') args s 0 0 (AA X.1)) (F0 m 26 ls []) := by
  have hx := hc.1
  have hb := hc.2.1
  intro n
  induction n with
  | zero => intro x1 S H locs ls hw hl h; cases h
  | succ n ih =>
    intro x1 S H locs ls hw hl h
    rw [f_X7_undo_26] at h
    refine lv_iload_n hx hb dX7_undo_26 rfl (lv_at hl 1 rfl) ?_
    refine lv_bipush (v := 20) hx hb dX7_undo_27 (by decide) ?_
    refine lv_icmp_ge (tgt := 64) hx hb dX7_undo_29 (by decide) (fun c1 => ?_) (fun c1 => ?_)
    · have h := ifT c1 h
      refine lv_aload_n hx hb dX7_undo_64 rfl (lv_at hl 0 rfl) ?_
      refine r_get7 hc hw k163 16 (by decide) (v := .ref (X.1 + 172)) rfl q3_144 dX7_undo_65 ?_
      refine lv_bipush (v := 20) hx hb dX7_undo_68 (by decide) ?_
      obtain ⟨b2, h⟩ := bnd_some h
      refine r_iald hc hw k172 (inL b2 l172) dX7_undo_70 ?_
      obtain ⟨rfl, rfl⟩ := sm_inj h
      exact r_iret hc hr hw dX7_undo_71
    · have h := ifF c1 h
      refine lv_aload_n hx hb dX7_undo_32 rfl (lv_at hl 0 rfl) ?_
      refine r_get7 hc hw k163 16 (by decide) (v := .ref (X.1 + 172)) rfl q3_144 dX7_undo_33 ?_
      refine lv_iload_n hx hb dX7_undo_36 rfl (lv_at hl 1 rfl) ?_
      refine lv_aload_n hx hb dX7_undo_37 rfl (lv_at hl 0 rfl) ?_
      refine r_get7 hc hw k163 16 (by decide) (v := .ref (X.1 + 172)) rfl q3_144 dX7_undo_38 ?_
      refine lv_bipush (v := 21) hx hb dX7_undo_41 (by decide) ?_
      refine lv_bipush (v := 20) hx hb dX7_undo_43 (by decide) ?_
      refine lv_aload_n hx hb dX7_undo_45 rfl (lv_at hl 0 rfl) ?_
      refine r_get7 hc hw k163 16 (by decide) (v := .ref (X.1 + 172)) rfl q3_144 dX7_undo_46 ?_
      refine lv_bipush (v := 20) hx hb dX7_undo_49 (by decide) ?_
      obtain ⟨b3, h⟩ := bnd_some h
      refine r_iald hc hw k172 (inL b3 l172) dX7_undo_51 ?_
      refine lv_imul hx hb dX7_undo_52 ?_
      refine lv_iadd hx hb dX7_undo_53 ?_
      refine lv_iload_n hx hb dX7_undo_54 rfl (lv_at hl 1 rfl) ?_
      refine lv_iadd hx hb dX7_undo_55 ?_
      obtain ⟨b4, h⟩ := bnd_some h
      refine r_iald hc hw k172 (inL b4 l172) dX7_undo_56 ?_
      obtain ⟨b5, h⟩ := bnd_some h
      obtain ⟨S6, e7, h⟩ := nm_some h
      refine r_iast hc hw k172 (inL b5 l172) e7 dX7_undo_57 (fun H locs hw => ?_)
      obtain ⟨v8, e9, h⟩ := nm_some h
      refine lv_iinc (v := v8) (lv' := [(1, .int v8), (0, .ref (X.1 + 163))]) hx hb dX7_undo_58 hl (k := 1) rfl (by rw [e9]; rfl) (by decide) rfl (fun ls hl => ?_)
      refine lv_goto (tgt := 26) hx hb dX7_undo_61 (by decide) ?_
      exact ih v8 S6 _ _ _ hw (lv_sub hl [1, 0] rfl) h
set_option maxRecDepth 20000 in
theorem c_X7_undo (l : Launch) (X : Wx) {S S' : Mm} {r : Int32}   (h : f_X7_undo S = some (r, S')) : Ct l X yX7_undo cX7_undo 2 (some .int) rm_X7_undo [.ref (X.1 + 163)] S (some (.int r)) S' := by
  refine r_entry (by decide) (Nat.le_of_ble_eq_true rfl) ?_
  intro p e s m args below meth c ls hc hr hw hl
  have hc : Cx p s m args meth c X cX7_undo 2 RX7 := hc
  have hl : lv_has ls 2 [(0, .ref (X.1 + 163))] := hl
  have hx := hc.1
  have hb := hc.2.1
  unfold f_X7_undo at h
  refine lv_aload_n hx hb dX7_undo_0 rfl (lv_at hl 0 rfl) ?_
  refine r_get7 hc hw k163 16 (by decide) (v := .ref (X.1 + 172)) rfl q3_144 dX7_undo_1 ?_
  refine lv_bipush (v := 20) hx hb dX7_undo_4 (by decide) ?_
  obtain ⟨b1, h⟩ := bnd_some h
  refine r_iald hc hw k172 (inL b1 l172) dX7_undo_6 ?_
  refine lv_if_ne (tgt := 13) hx hb dX7_undo_7 (by decide) (fun c2 => ?_) (fun c2 => ?_)
  · have h := ifF c2 h
    refine lv_aload_n hx hb dX7_undo_13 rfl (lv_at hl 0 rfl) ?_
    refine r_get7 hc hw k163 16 (by decide) (v := .ref (X.1 + 172)) rfl q3_144 dX7_undo_14 ?_
    refine lv_bipush (v := 20) hx hb dX7_undo_17 (by decide) ?_
    refine lv_dup2_11 hx hb dX7_undo_19 rfl rfl ?_
    obtain ⟨b3, h⟩ := bnd_some h
    refine r_iald hc hw k172 (inL b3 l172) dX7_undo_20 ?_
    refine lv_iconst (v := 1) hx hb dX7_undo_21 (by decide) ?_
    refine lv_isub hx hb dX7_undo_22 ?_
    obtain ⟨b4, h⟩ := bnd_some h
    obtain ⟨S5, e6, h⟩ := nm_some h
    refine r_iast hc hw k172 (inL b4 l172) e6 dX7_undo_23 (fun H locs hw => ?_)
    refine lv_iconst (v := 0) hx hb dX7_undo_24 (by decide) ?_
    refine lv_istore_n (lv' := [(1, .int 0), (0, .ref (X.1 + 163))]) hx hb dX7_undo_25 rfl hl (by decide) rfl (fun ls hl => ?_)
    exact w_X7_undo_26 hc hr 400 0 S5 _ _ _ hw (lv_sub hl [1, 0] rfl) h
  · have h := ifT c2 h
    refine lv_bipush (v := (-2)) hx hb dX7_undo_10 (by decide) ?_
    obtain ⟨rfl, rfl⟩ := sm_inj h
    exact r_iret hc hr hw dX7_undo_12
abbrev rm_X7_who : Room := { frames := 2, cells := 0, slots := 0, locals := 48 }
theorem ms_X7_who : MsV yX7_who cX7_who 8 (some .int) 1 := ⟨⟨q4_173, q1_8, by decide, by decide, by decide⟩, q4_171, q4_172⟩
set_option maxRecDepth 20000 in
theorem w_X7_who_50 {p : Program} {l : Launch} {e : Env} {s : State} {m : MethodId} {args : Array Value} {below : List Frame} {meth : Method} {c : Code} {X : Wx} {r : Int32} {S' : Mm} (hc : Cx p s m args meth c X cX7_who 8 RX7) (hr : meth.sig.returnType = (some .int))  {kk31 : Int32 → Int32 → Int32 → Int32 → Int32 → Mm → Option (Int32 × Mm)} (hk31 : ∀ (x1 : Int32) (x2 : Int32) (x3 : Int32) (x4 : Int32) (x5 : Int32) (S : Mm) (H : Heap) (locs : List Loc) (ls : Array Slot), Wd X s.heap S H locs → lv_has ls 8 [(0, .ref (X.1 + 163)), (1, .int x1), (2, .int x2), (3, .int x3), (4, .int x4), (5, .int x5)] → kk31 x1 x2 x3 x4 x5 S = some (r, S') → W p l e rm_X7_who s m args below meth c H locs 0 0 (MQ below (Qq X (some (.int r)) S') args s 0 0 (AA X.1)) (F0 m 31 ls [])) : ∀ (n : Nat), ∀ (x1 : Int32) (x2 : Int32) (x3 : Int32) (x4 : Int32) (x5 : Int32) (x6 : Int32) (x7 : Int32) (S : Mm) (H : Heap) (locs : List Loc) (ls : Array Slot), Wd X s.heap S H locs → lv_has ls 8 [(0, .ref (X.1 + 163)), (1, .int x1), (2, .int x2), (3, .int x3), (4, .int x4), (5, .int x5), (6, .int x6), (7, .int x7)] → f_X7_who_50 kk31 n x1 x2 x3 x4 x5 x6 x7 S = some (r, S') → W p l e rm_X7_who s m args below meth c H locs 0 0 (MQ below (Qq X (some (.int r)) S') args s 0 0 (AA X.1)) (F0 m 50 ls []) := by
  have hx := hc.1
  have hb := hc.2.1
  intro n
  induction n with
  | zero => intro x1 x2 x3 x4 x5 x6 x7 S H locs ls hw hl h; cases h
  | succ n ih =>
    intro x1 x2 x3 x4 x5 x6 x7 S H locs ls hw hl h
    rw [f_X7_who_50] at h
    refine lv_iload hx hb dX7_who_50 (lv_at hl 7 rfl) ?_
    refine lv_aload_n hx hb dX7_who_52 rfl (lv_at hl 0 rfl) ?_
    refine r_get7 hc hw k163 30 (by decide) (v := .int (gI S 163 30)) rfl q3_158 dX7_who_53 ?_
    refine lv_icmp_ge (tgt := 100) hx hb dX7_who_56 (by decide) (fun c1 => ?_) (fun c1 => ?_)
    · have h := ifT c1 h
      refine lv_iload hx hb dX7_who_100 (lv_at hl 6 rfl) ?_
      refine lv_if_eq (tgt := 126) hx hb dX7_who_102 (by decide) (fun c2 => ?_) (fun c2 => ?_)
      · have h := ifT c2 h
        obtain ⟨v3, e4, h⟩ := nm_some h
        refine lv_iinc (v := v3) (lv' := [(5, .int v3), (0, .ref (X.1 + 163)), (1, .int x1), (2, .int x2), (3, .int x3), (4, .int x4), (6, .int x6), (7, .int x7)]) hx hb dX7_who_126 hl (k := 5) rfl (by rw [e4]; rfl) (by decide) rfl (fun ls hl => ?_)
        refine lv_goto (tgt := 31) hx hb dX7_who_129 (by decide) ?_
        exact hk31 x1 x2 x3 x4 v3 S _ _ _ hw (lv_sub hl [1, 2, 3, 4, 5, 0] rfl) h
      · have h := ifF c2 h
        refine lv_iload_n hx hb dX7_who_105 rfl (lv_at hl 2 rfl) ?_
        refine lv_if_ne (tgt := 114) hx hb dX7_who_106 (by decide) (fun c5 => ?_) (fun c5 => ?_)
        · have h := ifF c5 h
          refine lv_iload_n hx hb dX7_who_114 rfl (lv_at hl 3 rfl) ?_
          refine lv_istore_n (lv' := [(3, .int x3), (0, .ref (X.1 + 163)), (1, .int x1), (2, .int x2), (4, .int x4), (5, .int x5), (6, .int x6), (7, .int x7)]) hx hb dX7_who_115 rfl hl (by decide) rfl (fun ls hl => ?_)
          refine lv_iload hx hb dX7_who_116 (lv_at hl 4 rfl) ?_
          refine lv_iload hx hb dX7_who_118 (lv_at hl 5 rfl) ?_
          refine lv_iand hx hb dX7_who_120 ?_
          obtain ⟨v6, e7, h⟩ := nm_some h
          refine r_top e7 ?_
          refine lv_istore (lv' := [(4, .int v6), (3, .int x3), (0, .ref (X.1 + 163)), (1, .int x1), (2, .int x2), (5, .int x5), (6, .int x6), (7, .int x7)]) hx hb dX7_who_121 hl (by decide) rfl (fun ls hl => ?_)
          obtain ⟨v8, e9, h⟩ := nm_some h
          refine lv_iinc (v := v8) (lv' := [(2, .int v8), (4, .int v6), (3, .int x3), (0, .ref (X.1 + 163)), (1, .int x1), (5, .int x5), (6, .int x6), (7, .int x7)]) hx hb dX7_who_123 hl (k := 4) rfl (by rw [e9]; rfl) (by decide) rfl (fun ls hl => ?_)
          obtain ⟨v10, e11, h⟩ := nm_some h
          refine lv_iinc (v := v10) (lv' := [(5, .int v10), (2, .int v8), (4, .int v6), (3, .int x3), (0, .ref (X.1 + 163)), (1, .int x1), (6, .int x6), (7, .int x7)]) hx hb dX7_who_126 hl (k := 5) rfl (by rw [e11]; rfl) (by decide) rfl (fun ls hl => ?_)
          refine lv_goto (tgt := 31) hx hb dX7_who_129 (by decide) ?_
          exact hk31 x1 v8 x3 v6 v10 S _ _ _ hw (lv_sub hl [4, 5, 1, 3, 2, 0] rfl) h
        · have h := ifT c5 h
          refine lv_iload hx hb dX7_who_109 (lv_at hl 5 rfl) ?_
          refine lv_goto (tgt := 115) hx hb dX7_who_111 (by decide) ?_
          refine lv_istore_n (lv' := [(3, .int x5), (0, .ref (X.1 + 163)), (1, .int x1), (2, .int x2), (4, .int x4), (5, .int x5), (6, .int x6), (7, .int x7)]) hx hb dX7_who_115 rfl hl (by decide) rfl (fun ls hl => ?_)
          refine lv_iload hx hb dX7_who_116 (lv_at hl 4 rfl) ?_
          refine lv_iload hx hb dX7_who_118 (lv_at hl 5 rfl) ?_
          refine lv_iand hx hb dX7_who_120 ?_
          obtain ⟨v12, e13, h⟩ := nm_some h
          refine r_top e13 ?_
          refine lv_istore (lv' := [(4, .int v12), (3, .int x5), (0, .ref (X.1 + 163)), (1, .int x1), (2, .int x2), (5, .int x5), (6, .int x6), (7, .int x7)]) hx hb dX7_who_121 hl (by decide) rfl (fun ls hl => ?_)
          obtain ⟨v14, e15, h⟩ := nm_some h
          refine lv_iinc (v := v14) (lv' := [(2, .int v14), (4, .int v12), (3, .int x5), (0, .ref (X.1 + 163)), (1, .int x1), (5, .int x5), (6, .int x6), (7, .int x7)]) hx hb dX7_who_123 hl (k := 4) rfl (by rw [e15]; rfl) (by decide) rfl (fun ls hl => ?_)
          obtain ⟨v16, e17, h⟩ := nm_some h
          refine lv_iinc (v := v16) (lv' := [(5, .int v16), (2, .int v14), (4, .int v12), (3, .int x5), (0, .ref (X.1 + 163)), (1, .int x1), (6, .int x6), (7, .int x7)]) hx hb dX7_who_126 hl (k := 5) rfl (by rw [e17]; rfl) (by decide) rfl (fun ls hl => ?_)
          refine lv_goto (tgt := 31) hx hb dX7_who_129 (by decide) ?_
          exact hk31 x1 v14 x5 v12 v16 S _ _ _ hw (lv_sub hl [4, 5, 1, 3, 2, 0] rfl) h
    · have h := ifF c1 h
      refine lv_iload hx hb dX7_who_59 (lv_at hl 6 rfl) ?_
      refine lv_if_eq (tgt := 91) hx hb dX7_who_61 (by decide) (fun c18 => ?_) (fun c18 => ?_)
      · have h := ifT c18 h
        refine lv_iconst (v := 0) hx hb dX7_who_91 (by decide) ?_
        refine lv_istore (lv' := [(6, .int 0), (0, .ref (X.1 + 163)), (1, .int x1), (2, .int x2), (3, .int x3), (4, .int x4), (5, .int x5), (7, .int x7)]) hx hb dX7_who_92 hl (by decide) rfl (fun ls hl => ?_)
        obtain ⟨v19, e20, h⟩ := nm_some h
        refine lv_iinc (v := v19) (lv' := [(7, .int v19), (6, .int 0), (0, .ref (X.1 + 163)), (1, .int x1), (2, .int x2), (3, .int x3), (4, .int x4), (5, .int x5)]) hx hb dX7_who_94 hl (k := 7) rfl (by rw [e20]; rfl) (by decide) rfl (fun ls hl => ?_)
        refine lv_goto (tgt := 50) hx hb dX7_who_97 (by decide) ?_
        exact ih x1 x2 x3 x4 x5 0 v19 S _ _ _ hw (lv_sub hl [2, 3, 4, 5, 6, 7, 1, 0] rfl) h
      · have h := ifF c18 h
        refine lv_aload_n hx hb dX7_who_64 rfl (lv_at hl 0 rfl) ?_
        refine lv_aload_n hx hb dX7_who_65 rfl (lv_at hl 0 rfl) ?_
        refine r_get7 hc hw k163 28 (by decide) (v := .ref (X.1 + 178)) rfl q3_156 dX7_who_66 ?_
        refine lv_iload hx hb dX7_who_69 (lv_at hl 7 rfl) ?_
        obtain ⟨b21, h⟩ := bnd_some h
        refine r_iald hc hw k178 (inL b21 l178) dX7_who_71 ?_
        refine lv_iload hx hb dX7_who_72 (lv_at hl 5 rfl) ?_
        obtain ⟨r22, S23, h24, h⟩ := bd_some h
        refine r_callV7i hc hw hl.1 (As := [.int (gI S 178 x7.toNatClampNeg), .int x5]) (rest := []) k163 (c_X7_go l X  h24) ms_X7_go rfl q4_49 rfl rfl ⟨rfl, rfl, Nat.le_of_ble_eq_true rfl, Nat.le_of_ble_eq_true rfl⟩ (Nat.le_of_ble_eq_true rfl) ⟨Nat.zero_le _, Nat.zero_le _⟩ dX7_who_74 (fun H locs hw => ?_)
        refine lv_aload_n hx hb dX7_who_77 rfl (lv_at hl 0 rfl) ?_
        refine r_get7 hc hw k163 29 (by decide) (v := .ref (X.1 + 179)) rfl q3_157 dX7_who_78 ?_
        refine lv_iload hx hb dX7_who_81 (lv_at hl 7 rfl) ?_
        obtain ⟨b25, h⟩ := bnd_some h
        refine r_iald hc hw k179 (inL b25 l179) dX7_who_83 ?_
        refine lv_icmp_ne (tgt := 91) hx hb dX7_who_84 (by decide) (fun c26 => ?_) (fun c26 => ?_)
        · have h := ifF c26 h
          refine lv_iconst (v := 0) hx hb dX7_who_91 (by decide) ?_
          refine lv_istore (lv' := [(6, .int 0), (0, .ref (X.1 + 163)), (1, .int x1), (2, .int x2), (3, .int x3), (4, .int x4), (5, .int x5), (7, .int x7)]) hx hb dX7_who_92 hl (by decide) rfl (fun ls hl => ?_)
          obtain ⟨v27, e28, h⟩ := nm_some h
          refine lv_iinc (v := v27) (lv' := [(7, .int v27), (6, .int 0), (0, .ref (X.1 + 163)), (1, .int x1), (2, .int x2), (3, .int x3), (4, .int x4), (5, .int x5)]) hx hb dX7_who_94 hl (k := 7) rfl (by rw [e28]; rfl) (by decide) rfl (fun ls hl => ?_)
          refine lv_goto (tgt := 50) hx hb dX7_who_97 (by decide) ?_
          exact ih x1 x2 x3 x4 x5 0 v27 S23 _ _ _ hw (lv_sub hl [2, 3, 4, 5, 6, 7, 1, 0] rfl) h
        · have h := ifT c26 h
          refine lv_iconst (v := 1) hx hb dX7_who_87 (by decide) ?_
          refine lv_goto (tgt := 92) hx hb dX7_who_88 (by decide) ?_
          refine lv_istore (lv' := [(6, .int 1), (0, .ref (X.1 + 163)), (1, .int x1), (2, .int x2), (3, .int x3), (4, .int x4), (5, .int x5), (7, .int x7)]) hx hb dX7_who_92 hl (by decide) rfl (fun ls hl => ?_)
          obtain ⟨v29, e30, h⟩ := nm_some h
          refine lv_iinc (v := v29) (lv' := [(7, .int v29), (6, .int 1), (0, .ref (X.1 + 163)), (1, .int x1), (2, .int x2), (3, .int x3), (4, .int x4), (5, .int x5)]) hx hb dX7_who_94 hl (k := 7) rfl (by rw [e30]; rfl) (by decide) rfl (fun ls hl => ?_)
          refine lv_goto (tgt := 50) hx hb dX7_who_97 (by decide) ?_
          exact ih x1 x2 x3 x4 x5 1 v29 S23 _ _ _ hw (lv_sub hl [2, 3, 4, 5, 6, 7, 1, 0] rfl) h
set_option maxRecDepth 20000 in
theorem w_X7_who_31 {p : Program} {l : Launch} {e : Env} {s : State} {m : MethodId} {args : Array Value} {below : List Frame} {meth : Method} {c : Code} {X : Wx} {r : Int32} {S' : Mm} (hc : Cx p s m args meth c X cX7_who 8 RX7) (hr : meth.sig.returnType = (some .int))   : ∀ (n : Nat), ∀ (x1 : Int32) (x2 : Int32) (x3 : Int32) (x4 : Int32) (x5 : Int32) (S : Mm) (H : Heap) (locs : List Loc) (ls : Array Slot), Wd X s.heap S H locs → lv_has ls 8 [(0, .ref (X.1 + 163)), (1, .int x1), (2, .int x2), (3, .int x3), (4, .int x4), (5, .int x5)] → f_X7_who_31 n x1 x2 x3 x4 x5 S = some (r, S') → W p l e rm_X7_who s m args below meth c H locs 0 0 (MQ below (Qq X (some (.int r)) S') args s 0 0 (AA X.1)) (F0 m 31 ls []) := by
  have hx := hc.1
  have hb := hc.2.1
  intro n
  induction n with
  | zero => intro x1 x2 x3 x4 x5 S H locs ls hw hl h; cases h
  | succ n ih =>
    intro x1 x2 x3 x4 x5 S H locs ls hw hl h
    rw [f_X7_who_31] at h
    refine lv_iload hx hb dX7_who_31 (lv_at hl 5 rfl) ?_
    refine lv_iconst (v := 1) hx hb dX7_who_33 (by decide) ?_
    refine lv_aload_n hx hb dX7_who_34 rfl (lv_at hl 0 rfl) ?_
    refine r_get7 hc hw k163 3 (by decide) (v := .ref (X.1 + 165)) rfl q3_131 dX7_who_35 ?_
    refine lv_iconst (v := 0) hx hb dX7_who_38 (by decide) ?_
    obtain ⟨b1, h⟩ := bnd_some h
    refine r_iald hc hw k165 (inL b1 l165) dX7_who_39 ?_
    refine lv_ishl hx hb dX7_who_40 ?_
    refine lv_icmp_ge (tgt := 132) hx hb dX7_who_41 (by decide) (fun c2 => ?_) (fun c2 => ?_)
    · have h := ifT c2 h
      refine lv_iload_n hx hb dX7_who_132 rfl (lv_at hl 1 rfl) ?_
      refine lv_if_ne (tgt := 140) hx hb dX7_who_133 (by decide) (fun c3 => ?_) (fun c3 => ?_)
      · have h := ifF c3 h
        refine lv_iload_n hx hb dX7_who_140 rfl (lv_at hl 1 rfl) ?_
        refine lv_iconst (v := 1) hx hb dX7_who_141 (by decide) ?_
        refine lv_icmp_ne (tgt := 149) hx hb dX7_who_142 (by decide) (fun c4 => ?_) (fun c4 => ?_)
        · have h := ifF c4 h
          refine lv_iload_n hx hb dX7_who_149 rfl (lv_at hl 2 rfl) ?_
          refine lv_if_ne (tgt := 158) hx hb dX7_who_150 (by decide) (fun c5 => ?_) (fun c5 => ?_)
          · have h := ifF c5 h
            refine lv_iload hx hb dX7_who_158 (lv_at hl 4 rfl) ?_
            obtain ⟨rfl, rfl⟩ := sm_inj h
            exact r_iret hc hr hw dX7_who_160
          · have h := ifT c5 h
            refine lv_bipush (v := (-9)) hx hb dX7_who_153 (by decide) ?_
            refine lv_goto (tgt := 160) hx hb dX7_who_155 (by decide) ?_
            obtain ⟨rfl, rfl⟩ := sm_inj h
            exact r_iret hc hr hw dX7_who_160
        · have h := ifT c4 h
          refine lv_iload_n hx hb dX7_who_145 rfl (lv_at hl 3 rfl) ?_
          refine lv_goto (tgt := 160) hx hb dX7_who_146 (by decide) ?_
          obtain ⟨rfl, rfl⟩ := sm_inj h
          exact r_iret hc hr hw dX7_who_160
      · have h := ifT c3 h
        refine lv_iload_n hx hb dX7_who_136 rfl (lv_at hl 2 rfl) ?_
        refine lv_goto (tgt := 160) hx hb dX7_who_137 (by decide) ?_
        obtain ⟨rfl, rfl⟩ := sm_inj h
        exact r_iret hc hr hw dX7_who_160
    · have h := ifF c2 h
      refine lv_iconst (v := 1) hx hb dX7_who_44 (by decide) ?_
      refine lv_istore (lv' := [(6, .int 1), (0, .ref (X.1 + 163)), (1, .int x1), (2, .int x2), (3, .int x3), (4, .int x4), (5, .int x5)]) hx hb dX7_who_45 hl (by decide) rfl (fun ls hl => ?_)
      refine lv_iconst (v := 0) hx hb dX7_who_47 (by decide) ?_
      refine lv_istore (lv' := [(7, .int 0), (6, .int 1), (0, .ref (X.1 + 163)), (1, .int x1), (2, .int x2), (3, .int x3), (4, .int x4), (5, .int x5)]) hx hb dX7_who_48 hl (by decide) rfl (fun ls hl => ?_)
      exact w_X7_who_50 hc hr ih 400 x1 x2 x3 x4 x5 1 0 S _ _ _ hw (lv_sub hl [2, 3, 4, 5, 6, 7, 1, 0] rfl) h
set_option maxRecDepth 20000 in
theorem c_X7_who (l : Launch) (X : Wx) {S S' : Mm} {r : Int32} {x1 : Int32}  (h : f_X7_who S x1 = some (r, S')) : Ct l X yX7_who cX7_who 8 (some .int) rm_X7_who [.ref (X.1 + 163), .int x1] S (some (.int r)) S' := by
  refine r_entry (by decide) (Nat.le_of_ble_eq_true rfl) ?_
  intro p e s m args below meth c ls hc hr hw hl
  have hc : Cx p s m args meth c X cX7_who 8 RX7 := hc
  have hl : lv_has ls 8 [(0, .ref (X.1 + 163)), (1, .int x1)] := hl
  have hx := hc.1
  have hb := hc.2.1
  unfold f_X7_who at h
  refine lv_iload_n hx hb dX7_who_0 rfl (lv_at hl 1 rfl) ?_
  refine lv_iconst (v := 0) hx hb dX7_who_1 (by decide) ?_
  refine lv_iconst (v := 2) hx hb dX7_who_2 (by decide) ?_
  obtain ⟨r1, S2, h3, h⟩ := bd_some h
  refine r_callSi hc hw hl.1 (As := [.int x1, .int 0, .int 2]) (rest := []) (c_X7_in l X  h3) ms_X7_in q3_227 rfl rfl ⟨rfl, rfl, Nat.le_of_ble_eq_true rfl, Nat.le_of_ble_eq_true rfl⟩ (Nat.le_of_ble_eq_true rfl) ⟨Nat.zero_le _, Nat.zero_le _⟩ dX7_who_3 (fun H locs hw => ?_)
  refine lv_if_ne (tgt := 11) hx hb dX7_who_6 (by decide) (fun c4 => ?_) (fun c4 => ?_)
  · have h := ifF c4 h
    refine lv_iconst (v := 0) hx hb dX7_who_11 (by decide) ?_
    refine lv_istore_n (lv' := [(2, .int 0), (0, .ref (X.1 + 163)), (1, .int x1)]) hx hb dX7_who_12 rfl hl (by decide) rfl (fun ls hl => ?_)
    refine lv_bipush (v := (-9)) hx hb dX7_who_13 (by decide) ?_
    refine lv_istore_n (lv' := [(3, .int (-9)), (2, .int 0), (0, .ref (X.1 + 163)), (1, .int x1)]) hx hb dX7_who_15 rfl hl (by decide) rfl (fun ls hl => ?_)
    refine lv_iconst (v := 1) hx hb dX7_who_16 (by decide) ?_
    refine lv_aload_n hx hb dX7_who_17 rfl (lv_at hl 2 rfl) ?_
    refine r_get7 hc hw k163 3 (by decide) (v := .ref (X.1 + 165)) rfl q3_131 dX7_who_18 ?_
    refine lv_iconst (v := 0) hx hb dX7_who_21 (by decide) ?_
    obtain ⟨b5, h⟩ := bnd_some h
    refine r_iald hc hw k165 (inL b5 l165) dX7_who_22 ?_
    refine lv_ishl hx hb dX7_who_23 ?_
    refine lv_iconst (v := 1) hx hb dX7_who_24 (by decide) ?_
    refine lv_isub hx hb dX7_who_25 ?_
    obtain ⟨v6, e7, h⟩ := nm_some h
    refine r_top e7 ?_
    refine lv_istore (lv' := [(4, .int v6), (3, .int (-9)), (2, .int 0), (0, .ref (X.1 + 163)), (1, .int x1)]) hx hb dX7_who_26 hl (by decide) rfl (fun ls hl => ?_)
    refine lv_iconst (v := 0) hx hb dX7_who_28 (by decide) ?_
    refine lv_istore (lv' := [(5, .int 0), (4, .int v6), (3, .int (-9)), (2, .int 0), (0, .ref (X.1 + 163)), (1, .int x1)]) hx hb dX7_who_29 hl (by decide) rfl (fun ls hl => ?_)
    exact w_X7_who_31 hc hr 400 x1 0 ((-9)) v6 0 S2 _ _ _ hw (lv_sub hl [4, 5, 3, 2, 1, 0] rfl) h
  · have h := ifT c4 h
    refine lv_iconst (v := (-1)) hx hb dX7_who_9 (by decide) ?_
    obtain ⟨rfl, rfl⟩ := sm_inj h
    exact r_iret hc hr hw dX7_who_10
