abbrev rm_X7_mayBe : Room := { frames := 0, cells := 0, slots := 0, locals := 0 }
theorem ms_X7_mayBe : MsV yX7_mayBe cX7_mayBe 2 (some .boolean) 1 := ⟨⟨q4_9, q1_8, by decide, by decide, by decide⟩, q4_8, qs_28⟩
set_option maxRecDepth 20000 in
theorem c_X7_mayBe (l : Launch) (X : Wx) {S S' : Mm} {r : Int32} {x1 : Int32}  (h : f_X7_mayBe S x1 = some (r, S')) : Ct l X yX7_mayBe cX7_mayBe 2 (some .boolean) rm_X7_mayBe [.ref (X.1 + 163), .int x1] S (some (.int r)) S' := by
  refine r_entry (by decide) (Nat.le_of_ble_eq_true rfl) ?_
  intro p e s m args below meth c ls hc hr hw hl
  have hc : Cx p s m args meth c X cX7_mayBe 2 RX7 := hc
  have hl : lv_has ls 2 [(0, .ref (X.1 + 163)), (1, .int x1)] := hl
  have hx := hc.1
  have hb := hc.2.1
  unfold f_X7_mayBe at h
  refine lv_iload_n hx hb dX7_mayBe_0 rfl (lv_at hl 1 rfl) ?_
  by_cases c1 : x1 = 104
  · have h := ifT c1 h
    refine lv_lookup (off := 51) (tgt := 52) hx hb dX7_mayBe_1 (by decide) (by rw [c1]; decide) (by decide) ?_
    refine lv_iconst (v := 1) hx hb dX7_mayBe_52 (by decide) ?_
    obtain ⟨rfl, rfl⟩ := sm_inj h
    exact r_zret hc hr (Or.inr rfl) hw dX7_mayBe_53
  · have h := ifF c1 h
    by_cases c2 : x1 = 112
    · have h := ifT c2 h
      refine lv_lookup (off := 53) (tgt := 54) hx hb dX7_mayBe_1 (by decide) (by rw [c2]; decide) (by decide) ?_
      refine lv_aload_n hx hb dX7_mayBe_54 rfl (lv_at hl 0 rfl) ?_
      refine r_get7 hc hw k163 10 (by decide) (v := .int (gI S 163 10)) rfl q3_138 dX7_mayBe_55 ?_
      refine lv_if_ne (tgt := 65) hx hb dX7_mayBe_58 (by decide) (fun c3 => ?_) (fun c3 => ?_)
      · have h := ifF c3 h
        refine lv_iconst (v := 0) hx hb dX7_mayBe_65 (by decide) ?_
        obtain ⟨rfl, rfl⟩ := sm_inj h
        exact r_zret hc hr (Or.inl rfl) hw dX7_mayBe_66
      · have h := ifT c3 h
        refine lv_iconst (v := 1) hx hb dX7_mayBe_61 (by decide) ?_
        refine lv_goto (tgt := 66) hx hb dX7_mayBe_62 (by decide) ?_
        obtain ⟨rfl, rfl⟩ := sm_inj h
        exact r_zret hc hr (Or.inr rfl) hw dX7_mayBe_66
    · have h := ifF c2 h
      by_cases c4 : x1 = 115
      · have h := ifT c4 h
        refine lv_lookup (off := 35) (tgt := 36) hx hb dX7_mayBe_1 (by decide) (by rw [c4]; decide) (by decide) ?_
        refine lv_aload_n hx hb dX7_mayBe_36 rfl (lv_at hl 0 rfl) ?_
        refine r_get7 hc hw k163 3 (by decide) (v := .ref (X.1 + 165)) rfl q3_131 dX7_mayBe_37 ?_
        refine lv_iconst (v := 1) hx hb dX7_mayBe_40 (by decide) ?_
        obtain ⟨b5, h⟩ := bnd_some h
        refine r_iald hc hw k165 (inL b5 l165) dX7_mayBe_41 ?_
        refine lv_iconst (v := 5) hx hb dX7_mayBe_42 (by decide) ?_
        refine lv_icmp_ge (tgt := 50) hx hb dX7_mayBe_43 (by decide) (fun c6 => ?_) (fun c6 => ?_)
        · have h := ifT c6 h
          refine lv_iconst (v := 0) hx hb dX7_mayBe_50 (by decide) ?_
          obtain ⟨rfl, rfl⟩ := sm_inj h
          exact r_zret hc hr (Or.inl rfl) hw dX7_mayBe_51
        · have h := ifF c6 h
          refine lv_iconst (v := 1) hx hb dX7_mayBe_46 (by decide) ?_
          refine lv_goto (tgt := 51) hx hb dX7_mayBe_47 (by decide) ?_
          obtain ⟨rfl, rfl⟩ := sm_inj h
          exact r_zret hc hr (Or.inr rfl) hw dX7_mayBe_51
      · have h := ifF c4 h
        refine lv_lookup (off := 66) (tgt := 67) hx hb dX7_mayBe_1 (by decide) ((lv_osw c1 (by decide)).trans ((lv_osw c2 (by decide)).trans ((lv_osw c4 (by decide)).trans (rfl)))) (by decide) ?_
        refine lv_iconst (v := 0) hx hb dX7_mayBe_67 (by decide) ?_
        obtain ⟨rfl, rfl⟩ := sm_inj h
        exact r_zret hc hr (Or.inl rfl) hw dX7_mayBe_68
abbrev rm_X7_mean : Room := { frames := 3, cells := 0, slots := 0, locals := 67 }
theorem ms_X7_mean : MsV yX7_mean cX7_mean 3 (some .long) 2 := ⟨⟨q4_86, q1_8, by decide, by decide, by decide⟩, q4_84, q4_85⟩
set_option maxRecDepth 20000 in
theorem c_X7_mean (l : Launch) (X : Wx) {S S' : Mm} {r : Int64} {x1 : Int32} {x2 : Int32}  (h : f_X7_mean S x1 x2 = some (r, S')) : Ct l X yX7_mean cX7_mean 3 (some .long) rm_X7_mean [.ref (X.1 + 163), .int x1, .int x2] S (some (.long r)) S' := by
  refine r_entry (by decide) (Nat.le_of_ble_eq_true rfl) ?_
  intro p e s m args below meth c ls hc hr hw hl
  have hc : Cx p s m args meth c X cX7_mean 3 RX7 := hc
  have hl : lv_has ls 3 [(0, .ref (X.1 + 163)), (1, .int x1), (2, .int x2)] := hl
  have hx := hc.1
  have hb := hc.2.1
  unfold f_X7_mean at h
  refine lv_iload_n hx hb dX7_mean_0 rfl (lv_at hl 1 rfl) ?_
  refine lv_iconst (v := 0) hx hb dX7_mean_1 (by decide) ?_
  refine lv_iconst (v := 3) hx hb dX7_mean_2 (by decide) ?_
  obtain ⟨r1, S2, h3, h⟩ := bd_some h
  refine r_callSi hc hw hl.1 (As := [.int x1, .int 0, .int 3]) (rest := []) (c_X7_in l X  h3) ms_X7_in q3_227 rfl rfl ⟨rfl, rfl, Nat.le_of_ble_eq_true rfl, Nat.le_of_ble_eq_true rfl⟩ (Nat.le_of_ble_eq_true rfl) ⟨Nat.zero_le _, Nat.zero_le _⟩ dX7_mean_3 (fun H locs hw => ?_)
  refine lv_if_eq (tgt := 18) hx hb dX7_mean_6 (by decide) (fun c4 => ?_) (fun c4 => ?_)
  · have h := ifT c4 h
    refine lv_ldc2 hx hb hc.2.2.2.1 (hc.2.2.2.2.1 _ q4_87) dX7_mean_18 ?_
    obtain ⟨rfl, rfl⟩ := sm_inj h
    exact r_lret hc hr hw dX7_mean_21
  · have h := ifF c4 h
    refine lv_iload_n hx hb dX7_mean_9 rfl (lv_at hl 2 rfl) ?_
    refine lv_iconst (v := 0) hx hb dX7_mean_10 (by decide) ?_
    refine lv_iconst (v := 1) hx hb dX7_mean_11 (by decide) ?_
    obtain ⟨r5, S6, h7, h⟩ := bd_some h
    refine r_callSi hc hw hl.1 (As := [.int x2, .int 0, .int 1]) (rest := []) (c_X7_in l X  h7) ms_X7_in q3_227 rfl rfl ⟨rfl, rfl, Nat.le_of_ble_eq_true rfl, Nat.le_of_ble_eq_true rfl⟩ (Nat.le_of_ble_eq_true rfl) ⟨Nat.zero_le _, Nat.zero_le _⟩ dX7_mean_12 (fun H locs hw => ?_)
    refine lv_if_ne (tgt := 22) hx hb dX7_mean_15 (by decide) (fun c8 => ?_) (fun c8 => ?_)
    · have h := ifF c8 h
      refine lv_aload_n hx hb dX7_mean_22 rfl (lv_at hl 0 rfl) ?_
      obtain ⟨r9, S10, h11, h⟩ := bd_some h
      refine r_callV7v hc hw hl.1 (As := []) (rest := []) k163 (c_X7_takeRow l X  h11) ms_X7_takeRow rfl q4_88 rfl rfl ⟨rfl, rfl, Nat.le_of_ble_eq_true rfl, Nat.le_of_ble_eq_true rfl⟩ (Nat.le_of_ble_eq_true rfl) ⟨Nat.zero_le _, Nat.zero_le _⟩ dX7_mean_23 (fun H locs hw => ?_)
      refine lv_aload_n hx hb dX7_mean_26 rfl (lv_at hl 0 rfl) ?_
      refine lv_aload_n hx hb dX7_mean_27 rfl (lv_at hl 0 rfl) ?_
      refine r_get7 hc hw k163 16 (by decide) (v := .ref (X.1 + 172)) rfl q3_144 dX7_mean_28 ?_
      refine lv_bipush (v := 10) hx hb dX7_mean_31 (by decide) ?_
      obtain ⟨b12, h⟩ := bnd_some h
      refine r_iald hc hw k172 (inL b12 l172) dX7_mean_33 ?_
      obtain ⟨r13, S14, h15, h⟩ := bd_some h
      refine r_callV7v hc hw hl.1 (As := [.int (gI S10 172 (10 : Int32).toNatClampNeg)]) (rest := []) k163 (c_X7_measure l X  h15) ms_X7_measure rfl q4_92 rfl rfl ⟨rfl, rfl, Nat.le_of_ble_eq_true rfl, Nat.le_of_ble_eq_true rfl⟩ (Nat.le_of_ble_eq_true rfl) ⟨Nat.zero_le _, Nat.zero_le _⟩ dX7_mean_34 (fun H locs hw => ?_)
      refine lv_iload_n hx hb dX7_mean_37 rfl (lv_at hl 1 rfl) ?_
      by_cases c16 : x1 = 0
      · have h := ifT c16 h
        refine lv_tableIn (off := 26) (tgt := 64) hx hb dX7_mean_38 (by rw [c16]; decide) (by rw [c16]; decide) (by rw [c16]; rfl) (by decide) ?_
        refine lv_aload_n hx hb dX7_mean_64 rfl (lv_at hl 0 rfl) ?_
        refine r_get7 hc hw k163 22 (by decide) (v := .long (gJ S14 163 22)) rfl q3_150 dX7_mean_65 ?_
        refine lv_aload_n hx hb dX7_mean_68 rfl (lv_at hl 0 rfl) ?_
        refine r_get7 hc hw k163 21 (by decide) (v := .long (gJ S14 163 21)) rfl q3_149 dX7_mean_69 ?_
        refine lv_iload_n hx hb dX7_mean_72 rfl (lv_at hl 2 rfl) ?_
        obtain ⟨r17, S18, h19, h⟩ := bd_some h
        refine r_callSl hc hw hl.1 (As := [.long (gJ S14 163 22), .long (gJ S14 163 21), .int x2]) (rest := []) (c_X7_part l X  h19) ms_X7_part q4_113 rfl rfl ⟨rfl, rfl, Nat.le_of_ble_eq_true rfl, Nat.le_of_ble_eq_true rfl⟩ (Nat.le_of_ble_eq_true rfl) ⟨Nat.zero_le _, Nat.zero_le _⟩ dX7_mean_73 (fun H locs hw => ?_)
        obtain ⟨rfl, rfl⟩ := sm_inj h
        exact r_lret hc hr hw dX7_mean_76
      · have h := ifF c16 h
        by_cases c20 : x1 = 1
        · have h := ifT c20 h
          refine lv_tableIn (off := 39) (tgt := 77) hx hb dX7_mean_38 (by rw [c20]; decide) (by rw [c20]; decide) (by rw [c20]; rfl) (by decide) ?_
          refine lv_aload_n hx hb dX7_mean_77 rfl (lv_at hl 0 rfl) ?_
          refine r_get7 hc hw k163 23 (by decide) (v := .long (gJ S14 163 23)) rfl q3_151 dX7_mean_78 ?_
          refine lv_aload_n hx hb dX7_mean_81 rfl (lv_at hl 0 rfl) ?_
          refine r_get7 hc hw k163 21 (by decide) (v := .long (gJ S14 163 21)) rfl q3_149 dX7_mean_82 ?_
          refine lv_iload_n hx hb dX7_mean_85 rfl (lv_at hl 2 rfl) ?_
          obtain ⟨r21, S22, h23, h⟩ := bd_some h
          refine r_callSl hc hw hl.1 (As := [.long (gJ S14 163 23), .long (gJ S14 163 21), .int x2]) (rest := []) (c_X7_part l X  h23) ms_X7_part q4_113 rfl rfl ⟨rfl, rfl, Nat.le_of_ble_eq_true rfl, Nat.le_of_ble_eq_true rfl⟩ (Nat.le_of_ble_eq_true rfl) ⟨Nat.zero_le _, Nat.zero_le _⟩ dX7_mean_86 (fun H locs hw => ?_)
          obtain ⟨rfl, rfl⟩ := sm_inj h
          exact r_lret hc hr hw dX7_mean_89
        · have h := ifF c20 h
          by_cases c24 : x1 = 2
          · have h := ifT c24 h
            refine lv_tableIn (off := 52) (tgt := 90) hx hb dX7_mean_38 (by rw [c24]; decide) (by rw [c24]; decide) (by rw [c24]; rfl) (by decide) ?_
            refine lv_aload_n hx hb dX7_mean_90 rfl (lv_at hl 0 rfl) ?_
            refine r_get7 hc hw k163 24 (by decide) (v := .long (gJ S14 163 24)) rfl q3_152 dX7_mean_91 ?_
            refine lv_aload_n hx hb dX7_mean_94 rfl (lv_at hl 0 rfl) ?_
            refine r_get7 hc hw k163 21 (by decide) (v := .long (gJ S14 163 21)) rfl q3_149 dX7_mean_95 ?_
            refine lv_iload_n hx hb dX7_mean_98 rfl (lv_at hl 2 rfl) ?_
            obtain ⟨r25, S26, h27, h⟩ := bd_some h
            refine r_callSl hc hw hl.1 (As := [.long (gJ S14 163 24), .long (gJ S14 163 21), .int x2]) (rest := []) (c_X7_part l X  h27) ms_X7_part q4_113 rfl rfl ⟨rfl, rfl, Nat.le_of_ble_eq_true rfl, Nat.le_of_ble_eq_true rfl⟩ (Nat.le_of_ble_eq_true rfl) ⟨Nat.zero_le _, Nat.zero_le _⟩ dX7_mean_99 (fun H locs hw => ?_)
            obtain ⟨rfl, rfl⟩ := sm_inj h
            exact r_lret hc hr hw dX7_mean_102
          · have h := ifF c24 h
            refine lv_tableOut (tgt := 103) hx hb dX7_mean_38 (by have := lv_neT c16 (a := 0) (by decide); have := lv_neT c20 (a := 1) (by decide); have := lv_neT c24 (a := 2) (by decide); omega) (by decide) ?_
            refine lv_aload_n hx hb dX7_mean_103 rfl (lv_at hl 0 rfl) ?_
            refine r_get7 hc hw k163 23 (by decide) (v := .long (gJ S14 163 23)) rfl q3_151 dX7_mean_104 ?_
            refine lv_lconst (v := 0) hx hb dX7_mean_107 (by decide) ?_
            refine W.lcmp hx hb dX7_mean_108 ?_
            refine lv_if_ne (tgt := 118) hx hb dX7_mean_109 (by decide) (fun c28 => ?_) (fun c28 => ?_)
            · have h := ifF c28 h
              refine lv_aload_n hx hb dX7_mean_118 rfl (lv_at hl 0 rfl) ?_
              refine r_get7 hc hw k163 22 (by decide) (v := .long (gJ S14 163 22)) rfl q3_150 dX7_mean_119 ?_
              refine lv_aload_n hx hb dX7_mean_122 rfl (lv_at hl 0 rfl) ?_
              refine r_get7 hc hw k163 23 (by decide) (v := .long (gJ S14 163 23)) rfl q3_151 dX7_mean_123 ?_
              refine lv_iload_n hx hb dX7_mean_126 rfl (lv_at hl 2 rfl) ?_
              obtain ⟨r29, S30, h31, h⟩ := bd_some h
              refine r_callSl hc hw hl.1 (As := [.long (gJ S14 163 22), .long (gJ S14 163 23), .int x2]) (rest := []) (c_X7_part l X  h31) ms_X7_part q4_113 rfl rfl ⟨rfl, rfl, Nat.le_of_ble_eq_true rfl, Nat.le_of_ble_eq_true rfl⟩ (Nat.le_of_ble_eq_true rfl) ⟨Nat.zero_le _, Nat.zero_le _⟩ dX7_mean_127 (fun H locs hw => ?_)
              obtain ⟨rfl, rfl⟩ := sm_inj h
              exact r_lret hc hr hw dX7_mean_130
            · have h := ifT c28 h
              refine lv_ldc2 hx hb hc.2.2.2.1 (hc.2.2.2.2.1 _ q4_116) dX7_mean_112 ?_
              refine lv_goto (tgt := 130) hx hb dX7_mean_115 (by decide) ?_
              obtain ⟨rfl, rfl⟩ := sm_inj h
              exact r_lret hc hr hw dX7_mean_130
    · have h := ifT c8 h
      refine lv_ldc2 hx hb hc.2.2.2.1 (hc.2.2.2.2.1 _ q4_87) dX7_mean_18 ?_
      obtain ⟨rfl, rfl⟩ := sm_inj h
      exact r_lret hc hr hw dX7_mean_21
abbrev rm_X7_moves : Room := { frames := 1, cells := 0, slots := 0, locals := 22 }
theorem ms_X7_moves : MsV yX7_moves cX7_moves 4 (some .int) 1 := ⟨⟨q4_74, q1_8, by decide, by decide, by decide⟩, q4_72, q4_73⟩
set_option maxRecDepth 20000 in
theorem c_X7_moves (l : Launch) (X : Wx) {S S' : Mm} {r : Int32} {x1 : Int32}  (h : f_X7_moves S x1 = some (r, S')) : Ct l X yX7_moves cX7_moves 4 (some .int) rm_X7_moves [.ref (X.1 + 163), .int x1] S (some (.int r)) S' := by
  refine r_entry (by decide) (Nat.le_of_ble_eq_true rfl) ?_
  intro p e s m args below meth c ls hc hr hw hl
  have hc : Cx p s m args meth c X cX7_moves 4 RX7 := hc
  have hl : lv_has ls 4 [(0, .ref (X.1 + 163)), (1, .int x1)] := hl
  have hx := hc.1
  have hb := hc.2.1
  unfold f_X7_moves at h
  refine lv_iload_n hx hb dX7_moves_0 rfl (lv_at hl 1 rfl) ?_
  refine lv_iconst (v := 1) hx hb dX7_moves_1 (by decide) ?_
  refine lv_aload_n hx hb dX7_moves_2 rfl (lv_at hl 0 rfl) ?_
  refine r_get7 hc hw k163 3 (by decide) (v := .ref (X.1 + 165)) rfl q3_131 dX7_moves_3 ?_
  refine lv_iconst (v := 0) hx hb dX7_moves_6 (by decide) ?_
  obtain ⟨b1, h⟩ := bnd_some h
  refine r_iald hc hw k165 (inL b1 l165) dX7_moves_7 ?_
  refine lv_iconst (v := 1) hx hb dX7_moves_8 (by decide) ?_
  refine lv_isub hx hb dX7_moves_9 ?_
  obtain ⟨r2, S3, h4, h⟩ := bd_some h
  refine r_callSi hc hw hl.1 (As := [.int x1, .int 1, .int ((gI S 165 (0 : Int32).toNatClampNeg) - 1)]) (rest := []) (c_X7_in l X  h4) ms_X7_in q3_227 rfl rfl ⟨rfl, rfl, Nat.le_of_ble_eq_true rfl, Nat.le_of_ble_eq_true rfl⟩ (Nat.le_of_ble_eq_true rfl) ⟨Nat.zero_le _, Nat.zero_le _⟩ dX7_moves_10 (fun H locs hw => ?_)
  refine lv_if_ne (tgt := 18) hx hb dX7_moves_13 (by decide) (fun c5 => ?_) (fun c5 => ?_)
  · have h := ifF c5 h
    refine lv_aload_n hx hb dX7_moves_18 rfl (lv_at hl 0 rfl) ?_
    refine r_get7 hc hw k163 16 (by decide) (v := .ref (X.1 + 172)) rfl q3_144 dX7_moves_19 ?_
    refine lv_iconst (v := 0) hx hb dX7_moves_22 (by decide) ?_
    refine lv_iload_n hx hb dX7_moves_23 rfl (lv_at hl 1 rfl) ?_
    refine lv_iadd hx hb dX7_moves_24 ?_
    obtain ⟨b6, h⟩ := bnd_some h
    refine r_iald hc hw k172 (inL b6 l172) dX7_moves_25 ?_
    obtain ⟨v7, e8, h⟩ := nm_some h
    refine r_top e8 ?_
    refine lv_istore_n (lv' := [(2, .int v7), (0, .ref (X.1 + 163)), (1, .int x1)]) hx hb dX7_moves_26 rfl hl (by decide) rfl (fun ls hl => ?_)
    refine lv_aload_n hx hb dX7_moves_27 rfl (lv_at hl 1 rfl) ?_
    refine r_get7 hc hw k163 16 (by decide) (v := .ref (X.1 + 172)) rfl q3_144 dX7_moves_28 ?_
    refine lv_iconst (v := 0) hx hb dX7_moves_31 (by decide) ?_
    refine lv_iload_n hx hb dX7_moves_32 rfl (lv_at hl 2 rfl) ?_
    refine lv_iadd hx hb dX7_moves_33 ?_
    refine lv_iconst (v := 1) hx hb dX7_moves_34 (by decide) ?_
    refine lv_isub hx hb dX7_moves_35 ?_
    obtain ⟨b9, h⟩ := bnd_some h
    refine r_iald hc hw k172 (inL b9 l172) dX7_moves_36 ?_
    obtain ⟨v10, e11, h⟩ := nm_some h
    refine r_top e11 ?_
    refine lv_istore_n (lv' := [(3, .int v10), (2, .int v7), (0, .ref (X.1 + 163)), (1, .int x1)]) hx hb dX7_moves_37 rfl hl (by decide) rfl (fun ls hl => ?_)
    refine lv_aload_n hx hb dX7_moves_38 rfl (lv_at hl 2 rfl) ?_
    refine r_get7 hc hw k163 8 (by decide) (v := .ref (X.1 + 170)) rfl q3_136 dX7_moves_39 ?_
    refine lv_iload_n hx hb dX7_moves_42 rfl (lv_at hl 0 rfl) ?_
    obtain ⟨b12, h⟩ := bnd_some h
    refine r_iald hc hw k170 (inL b12 l170) dX7_moves_43 ?_
    refine lv_iload_n hx hb dX7_moves_44 rfl (lv_at hl 1 rfl) ?_
    refine lv_ishr hx hb dX7_moves_45 ?_
    refine lv_iconst (v := 1) hx hb dX7_moves_46 (by decide) ?_
    refine lv_iand hx hb dX7_moves_47 ?_
    refine lv_iconst (v := 1) hx hb dX7_moves_48 (by decide) ?_
    refine lv_icmp_ne (tgt := 55) hx hb dX7_moves_49 (by decide) (fun c13 => ?_) (fun c13 => ?_)
    · have h := ifF c13 h
      refine lv_aload_n hx hb dX7_moves_55 rfl (lv_at hl 2 rfl) ?_
      obtain ⟨r14, S15, h16, h⟩ := bd_some h
      refine r_callV7v hc hw hl.1 (As := []) (rest := []) k163 (c_X7_know l X  h16) ms_X7_know rfl q4_45 rfl rfl ⟨rfl, rfl, Nat.le_of_ble_eq_true rfl, Nat.le_of_ble_eq_true rfl⟩ (Nat.le_of_ble_eq_true rfl) ⟨Nat.zero_le _, Nat.zero_le _⟩ dX7_moves_56 (fun H locs hw => ?_)
      refine lv_aload_n hx hb dX7_moves_59 rfl (lv_at hl 2 rfl) ?_
      refine r_get7 hc hw k163 16 (by decide) (v := .ref (X.1 + 172)) rfl q3_144 dX7_moves_60 ?_
      refine lv_iconst (v := 0) hx hb dX7_moves_63 (by decide) ?_
      refine lv_iload_n hx hb dX7_moves_64 rfl (lv_at hl 3 rfl) ?_
      refine lv_iadd hx hb dX7_moves_65 ?_
      refine lv_iload_n hx hb dX7_moves_66 rfl (lv_at hl 0 rfl) ?_
      obtain ⟨b17, h⟩ := bnd_some h
      obtain ⟨S18, e19, h⟩ := nm_some h
      refine r_iast hc hw k172 (inL b17 l172) e19 dX7_moves_67 (fun H locs hw => ?_)
      refine lv_aload_n hx hb dX7_moves_68 rfl (lv_at hl 2 rfl) ?_
      refine r_get7 hc hw k163 16 (by decide) (v := .ref (X.1 + 172)) rfl q3_144 dX7_moves_69 ?_
      refine lv_iconst (v := 0) hx hb dX7_moves_72 (by decide) ?_
      refine lv_iload_n hx hb dX7_moves_73 rfl (lv_at hl 3 rfl) ?_
      refine lv_iadd hx hb dX7_moves_74 ?_
      refine lv_iconst (v := 1) hx hb dX7_moves_75 (by decide) ?_
      refine lv_isub hx hb dX7_moves_76 ?_
      refine lv_iload_n hx hb dX7_moves_77 rfl (lv_at hl 1 rfl) ?_
      obtain ⟨b20, h⟩ := bnd_some h
      obtain ⟨S21, e22, h⟩ := nm_some h
      refine r_iast hc hw k172 (inL b20 l172) e22 dX7_moves_78 (fun H locs hw => ?_)
      refine lv_iload_n hx hb dX7_moves_79 rfl (lv_at hl 0 rfl) ?_
      obtain ⟨rfl, rfl⟩ := sm_inj h
      exact r_iret hc hr hw dX7_moves_80
    · have h := ifT c13 h
      refine lv_bipush (v := (-2)) hx hb dX7_moves_52 (by decide) ?_
      obtain ⟨rfl, rfl⟩ := sm_inj h
      exact r_iret hc hr hw dX7_moves_54
  · have h := ifT c5 h
    refine lv_iconst (v := (-1)) hx hb dX7_moves_16 (by decide) ?_
    obtain ⟨rfl, rfl⟩ := sm_inj h
    exact r_iret hc hr hw dX7_moves_17
abbrev rm_X7_now : Room := { frames := 0, cells := 0, slots := 0, locals := 0 }
theorem ms_X7_now : MsV yX7_now cX7_now 4 (some .int) 1 := ⟨⟨q4_82, q1_8, by decide, by decide, by decide⟩, q4_80, q4_81⟩
set_option maxRecDepth 20000 in
theorem w_X7_now_68 {p : Program} {l : Launch} {e : Env} {s : State} {m : MethodId} {args : Array Value} {below : List Frame} {meth : Method} {c : Code} {X : Wx} {r : Int32} {S' : Mm} (hc : Cx p s m args meth c X cX7_now 4 RX7) (hr : meth.sig.returnType = (some .int))   : ∀ (n : Nat), ∀ (x2 : Int32) (x3 : Int32) (S : Mm) (H : Heap) (locs : List Loc) (ls : Array Slot), Wd X s.heap S H locs → lv_has ls 4 [(0, .ref (X.1 + 163)), (2, .int x2), (3, .int x3)] → f_X7_now_68 n x2 x3 S = some (r, S') → W p l e rm_X7_now s m args below meth c H locs 0 0 (MQ below (Qq X (some (.int r)) S') args s 0 0 (AA X.1)) (F0 m 68 ls []) := by
  have hx := hc.1
  have hb := hc.2.1
  intro n
  induction n with
  | zero => intro x2 x3 S H locs ls hw hl h; cases h
  | succ n ih =>
    intro x2 x3 S H locs ls hw hl h
    rw [f_X7_now_68] at h
    refine lv_iload_n hx hb dX7_now_68 rfl (lv_at hl 2 rfl) ?_
    refine lv_iconst (v := 5) hx hb dX7_now_69 (by decide) ?_
    refine lv_icmp_ge (tgt := 91) hx hb dX7_now_70 (by decide) (fun c1 => ?_) (fun c1 => ?_)
    · have h := ifT c1 h
      refine lv_iload_n hx hb dX7_now_91 rfl (lv_at hl 1 rfl) ?_
      obtain ⟨rfl, rfl⟩ := sm_inj h
      exact r_iret hc hr hw dX7_now_92
    · have h := ifF c1 h
      refine lv_iload_n hx hb dX7_now_73 rfl (lv_at hl 1 rfl) ?_
      refine lv_aload_n hx hb dX7_now_74 rfl (lv_at hl 0 rfl) ?_
      refine r_get7 hc hw k163 16 (by decide) (v := .ref (X.1 + 172)) rfl q3_144 dX7_now_75 ?_
      refine lv_bipush (v := 14) hx hb dX7_now_78 (by decide) ?_
      refine lv_iload_n hx hb dX7_now_80 rfl (lv_at hl 2 rfl) ?_
      refine lv_iadd hx hb dX7_now_81 ?_
      obtain ⟨b2, h⟩ := bnd_some h
      refine r_iald hc hw k172 (inL b2 l172) dX7_now_82 ?_
      refine lv_iadd hx hb dX7_now_83 ?_
      obtain ⟨v3, e4, h⟩ := nm_some h
      refine r_top e4 ?_
      refine lv_istore_n (lv' := [(2, .int v3), (0, .ref (X.1 + 163)), (3, .int x3)]) hx hb dX7_now_84 rfl hl (by decide) rfl (fun ls hl => ?_)
      obtain ⟨v5, e6, h⟩ := nm_some h
      refine lv_iinc (v := v5) (lv' := [(3, .int v5), (2, .int v3), (0, .ref (X.1 + 163))]) hx hb dX7_now_85 hl (k := 2) rfl (by rw [e6]; rfl) (by decide) rfl (fun ls hl => ?_)
      refine lv_goto (tgt := 68) hx hb dX7_now_88 (by decide) ?_
      exact ih v3 v5 S _ _ _ hw (lv_sub hl [2, 1, 0] rfl) h
set_option maxRecDepth 20000 in
theorem c_X7_now (l : Launch) (X : Wx) {S S' : Mm} {r : Int32} {x1 : Int32}  (h : f_X7_now S x1 = some (r, S')) : Ct l X yX7_now cX7_now 4 (some .int) rm_X7_now [.ref (X.1 + 163), .int x1] S (some (.int r)) S' := by
  refine r_entry (by decide) (Nat.le_of_ble_eq_true rfl) ?_
  intro p e s m args below meth c ls hc hr hw hl
  have hc : Cx p s m args meth c X cX7_now 4 RX7 := hc
  have hl : lv_has ls 4 [(0, .ref (X.1 + 163)), (1, .int x1)] := hl
  have hx := hc.1
  have hb := hc.2.1
  unfold f_X7_now at h
  refine lv_iload_n hx hb dX7_now_0 rfl (lv_at hl 1 rfl) ?_
  by_cases c1 : x1 = 0
  · have h := ifT c1 h
    refine lv_tableIn (off := 39) (tgt := 40) hx hb dX7_now_1 (by rw [c1]; decide) (by rw [c1]; decide) (by rw [c1]; rfl) (by decide) ?_
    refine lv_aload_n hx hb dX7_now_40 rfl (lv_at hl 0 rfl) ?_
    refine r_get7 hc hw k163 16 (by decide) (v := .ref (X.1 + 172)) rfl q3_144 dX7_now_41 ?_
    refine lv_bipush (v := 11) hx hb dX7_now_44 (by decide) ?_
    obtain ⟨b2, h⟩ := bnd_some h
    refine r_iald hc hw k172 (inL b2 l172) dX7_now_46 ?_
    obtain ⟨rfl, rfl⟩ := sm_inj h
    exact r_iret hc hr hw dX7_now_47
  · have h := ifF c1 h
    by_cases c3 : x1 = 1
    · have h := ifT c3 h
      refine lv_tableIn (off := 47) (tgt := 48) hx hb dX7_now_1 (by rw [c3]; decide) (by rw [c3]; decide) (by rw [c3]; rfl) (by decide) ?_
      refine lv_aload_n hx hb dX7_now_48 rfl (lv_at hl 0 rfl) ?_
      refine r_get7 hc hw k163 16 (by decide) (v := .ref (X.1 + 172)) rfl q3_144 dX7_now_49 ?_
      refine lv_bipush (v := 12) hx hb dX7_now_52 (by decide) ?_
      obtain ⟨b4, h⟩ := bnd_some h
      refine r_iald hc hw k172 (inL b4 l172) dX7_now_54 ?_
      obtain ⟨rfl, rfl⟩ := sm_inj h
      exact r_iret hc hr hw dX7_now_55
    · have h := ifF c3 h
      by_cases c5 : x1 = 2
      · have h := ifT c5 h
        refine lv_tableIn (off := 55) (tgt := 56) hx hb dX7_now_1 (by rw [c5]; decide) (by rw [c5]; decide) (by rw [c5]; rfl) (by decide) ?_
        refine lv_aload_n hx hb dX7_now_56 rfl (lv_at hl 0 rfl) ?_
        refine r_get7 hc hw k163 16 (by decide) (v := .ref (X.1 + 172)) rfl q3_144 dX7_now_57 ?_
        refine lv_bipush (v := 13) hx hb dX7_now_60 (by decide) ?_
        obtain ⟨b6, h⟩ := bnd_some h
        refine r_iald hc hw k172 (inL b6 l172) dX7_now_62 ?_
        obtain ⟨rfl, rfl⟩ := sm_inj h
        exact r_iret hc hr hw dX7_now_63
      · have h := ifF c5 h
        by_cases c7 : x1 = 3
        · have h := ifT c7 h
          refine lv_tableIn (off := 63) (tgt := 64) hx hb dX7_now_1 (by rw [c7]; decide) (by rw [c7]; decide) (by rw [c7]; rfl) (by decide) ?_
          refine lv_iconst (v := 0) hx hb dX7_now_64 (by decide) ?_
          refine lv_istore_n (lv' := [(2, .int 0), (0, .ref (X.1 + 163)), (1, .int x1)]) hx hb dX7_now_65 rfl hl (by decide) rfl (fun ls hl => ?_)
          refine lv_iconst (v := 0) hx hb dX7_now_66 (by decide) ?_
          refine lv_istore_n (lv' := [(3, .int 0), (2, .int 0), (0, .ref (X.1 + 163)), (1, .int x1)]) hx hb dX7_now_67 rfl hl (by decide) rfl (fun ls hl => ?_)
          exact w_X7_now_68 hc hr 400 0 0 S _ _ _ hw (lv_sub hl [2, 1, 0] rfl) h
        · have h := ifF c7 h
          by_cases c8 : x1 = 4
          · have h := ifT c8 h
            refine lv_tableIn (off := 92) (tgt := 93) hx hb dX7_now_1 (by rw [c8]; decide) (by rw [c8]; decide) (by rw [c8]; rfl) (by decide) ?_
            refine lv_aload_n hx hb dX7_now_93 rfl (lv_at hl 0 rfl) ?_
            refine r_get7 hc hw k163 16 (by decide) (v := .ref (X.1 + 172)) rfl q3_144 dX7_now_94 ?_
            refine lv_bipush (v := 19) hx hb dX7_now_97 (by decide) ?_
            obtain ⟨b9, h⟩ := bnd_some h
            refine r_iald hc hw k172 (inL b9 l172) dX7_now_99 ?_
            obtain ⟨rfl, rfl⟩ := sm_inj h
            exact r_iret hc hr hw dX7_now_100
          · have h := ifF c8 h
            by_cases c10 : x1 = 5
            · have h := ifT c10 h
              refine lv_tableIn (off := 100) (tgt := 101) hx hb dX7_now_1 (by rw [c10]; decide) (by rw [c10]; decide) (by rw [c10]; rfl) (by decide) ?_
              refine lv_aload_n hx hb dX7_now_101 rfl (lv_at hl 0 rfl) ?_
              refine r_get7 hc hw k163 16 (by decide) (v := .ref (X.1 + 172)) rfl q3_144 dX7_now_102 ?_
              refine lv_bipush (v := 10) hx hb dX7_now_105 (by decide) ?_
              obtain ⟨b11, h⟩ := bnd_some h
              refine r_iald hc hw k172 (inL b11 l172) dX7_now_107 ?_
              obtain ⟨rfl, rfl⟩ := sm_inj h
              exact r_iret hc hr hw dX7_now_108
            · have h := ifF c10 h
              refine lv_tableOut (tgt := 109) hx hb dX7_now_1 (by have := lv_neT c1 (a := 0) (by decide); have := lv_neT c3 (a := 1) (by decide); have := lv_neT c5 (a := 2) (by decide); have := lv_neT c7 (a := 3) (by decide); have := lv_neT c8 (a := 4) (by decide); have := lv_neT c10 (a := 5) (by decide); omega) (by decide) ?_
              refine lv_iconst (v := (-1)) hx hb dX7_now_109 (by decide) ?_
              obtain ⟨rfl, rfl⟩ := sm_inj h
              exact r_iret hc hr hw dX7_now_110
abbrev rm_X7_number : Room := { frames := 3, cells := 0, slots := 0, locals := 65 }
theorem ms_X7_number : MsV yX7_number cX7_number 3 (some .int) 2 := ⟨⟨q4_21, q1_8, by decide, by decide, by decide⟩, q4_20, qs_31⟩
set_option maxRecDepth 20000 in
theorem c_X7_number (l : Launch) (X : Wx) {S S' : Mm} {r : Int32} {x1 : Int32} {x2 : Int32}  (h : f_X7_number S x1 x2 = some (r, S')) : Ct l X yX7_number cX7_number 3 (some .int) rm_X7_number [.ref (X.1 + 163), .int x1, .int x2] S (some (.int r)) S' := by
  refine r_entry (by decide) (Nat.le_of_ble_eq_true rfl) ?_
  intro p e s m args below meth c ls hc hr hw hl
  have hc : Cx p s m args meth c X cX7_number 3 RX7 := hc
  have hl : lv_has ls 3 [(0, .ref (X.1 + 163)), (1, .int x1), (2, .int x2)] := hl
  have hx := hc.1
  have hb := hc.2.1
  unfold f_X7_number at h
  refine lv_aload_n hx hb dX7_number_0 rfl (lv_at hl 0 rfl) ?_
  refine lv_aload_n hx hb dX7_number_1 rfl (lv_at hl 0 rfl) ?_
  refine r_get7 hc hw k163 13 (by decide) (v := .int (gI S 163 13)) rfl q3_141 dX7_number_2 ?_
  refine lv_iconst (v := 1) hx hb dX7_number_5 (by decide) ?_
  refine lv_icmp_ne (tgt := 25) hx hb dX7_number_6 (by decide) (fun c1 => ?_) (fun c1 => ?_)
  · have h := ifF c1 h
    refine lv_iconst (v := 0) hx hb dX7_number_25 (by decide) ?_
    obtain ⟨r2, S3, h4, h⟩ := bd_some h
    refine r_callV7i hc hw hl.1 (As := [.int 0]) (rest := []) k163 (c_X7_due l X  h4) ms_X7_due rfl q4_10 rfl rfl ⟨rfl, rfl, Nat.le_of_ble_eq_true rfl, Nat.le_of_ble_eq_true rfl⟩ (Nat.le_of_ble_eq_true rfl) ⟨Nat.zero_le _, Nat.zero_le _⟩ dX7_number_26 (fun H locs hw => ?_)
    obtain ⟨rfl, rfl⟩ := sm_inj h
    exact r_iret hc hr hw dX7_number_29
  · have h := ifT c1 h
    refine lv_aload_n hx hb dX7_number_9 rfl (lv_at hl 0 rfl) ?_
    refine r_get7 hc hw k163 14 (by decide) (v := .int (gI S 163 14)) rfl q3_142 dX7_number_10 ?_
    refine lv_iload_n hx hb dX7_number_13 rfl (lv_at hl 1 rfl) ?_
    refine lv_iload_n hx hb dX7_number_14 rfl (lv_at hl 2 rfl) ?_
    obtain ⟨r5, S6, h7, h⟩ := bd_some h
    refine r_callSi hc hw hl.1 (As := [.int (gI S 163 14), .int x1, .int x2]) (rest := [.ref (X.1 + 163)]) (c_X7_in l X  h7) ms_X7_in q3_227 rfl rfl ⟨rfl, rfl, Nat.le_of_ble_eq_true rfl, Nat.le_of_ble_eq_true rfl⟩ (Nat.le_of_ble_eq_true rfl) ⟨Nat.zero_le _, Nat.zero_le _⟩ dX7_number_15 (fun H locs hw => ?_)
    refine lv_if_eq (tgt := 25) hx hb dX7_number_18 (by decide) (fun c8 => ?_) (fun c8 => ?_)
    · have h := ifT c8 h
      refine lv_iconst (v := 0) hx hb dX7_number_25 (by decide) ?_
      obtain ⟨r9, S10, h11, h⟩ := bd_some h
      refine r_callV7i hc hw hl.1 (As := [.int 0]) (rest := []) k163 (c_X7_due l X  h11) ms_X7_due rfl q4_10 rfl rfl ⟨rfl, rfl, Nat.le_of_ble_eq_true rfl, Nat.le_of_ble_eq_true rfl⟩ (Nat.le_of_ble_eq_true rfl) ⟨Nat.zero_le _, Nat.zero_le _⟩ dX7_number_26 (fun H locs hw => ?_)
      obtain ⟨rfl, rfl⟩ := sm_inj h
      exact r_iret hc hr hw dX7_number_29
    · have h := ifF c8 h
      refine lv_iconst (v := 1) hx hb dX7_number_21 (by decide) ?_
      refine lv_goto (tgt := 26) hx hb dX7_number_22 (by decide) ?_
      obtain ⟨r12, S13, h14, h⟩ := bd_some h
      refine r_callV7i hc hw hl.1 (As := [.int 1]) (rest := []) k163 (c_X7_due l X  h14) ms_X7_due rfl q4_10 rfl rfl ⟨rfl, rfl, Nat.le_of_ble_eq_true rfl, Nat.le_of_ble_eq_true rfl⟩ (Nat.le_of_ble_eq_true rfl) ⟨Nat.zero_le _, Nat.zero_le _⟩ dX7_number_26 (fun H locs hw => ?_)
      obtain ⟨rfl, rfl⟩ := sm_inj h
      exact r_iret hc hr hw dX7_number_29
abbrev rm_X7_paper : Room := { frames := 3, cells := 0, slots := 0, locals := 67 }
theorem ms_X7_paper : MsV yX7_paper cX7_paper 3 (some .long) 2 := ⟨⟨q4_124, q1_8, by decide, by decide, by decide⟩, q4_122, q4_123⟩
set_option maxRecDepth 20000 in
theorem c_X7_paper (l : Launch) (X : Wx) {S S' : Mm} {r : Int64} {x1 : Int32} {x2 : Int32}  (h : f_X7_paper S x1 x2 = some (r, S')) : Ct l X yX7_paper cX7_paper 3 (some .long) rm_X7_paper [.ref (X.1 + 163), .int x1, .int x2] S (some (.long r)) S' := by
  refine r_entry (by decide) (Nat.le_of_ble_eq_true rfl) ?_
  intro p e s m args below meth c ls hc hr hw hl
  have hc : Cx p s m args meth c X cX7_paper 3 RX7 := hc
  have hl : lv_has ls 3 [(0, .ref (X.1 + 163)), (1, .int x1), (2, .int x2)] := hl
  have hx := hc.1
  have hb := hc.2.1
  unfold f_X7_paper at h
  refine lv_iload_n hx hb dX7_paper_0 rfl (lv_at hl 1 rfl) ?_
  refine lv_iconst (v := 1) hx hb dX7_paper_1 (by decide) ?_
  refine lv_bipush (v := 99) hx hb dX7_paper_2 (by decide) ?_
  obtain ⟨r1, S2, h3, h⟩ := bd_some h
  refine r_callSi hc hw hl.1 (As := [.int x1, .int 1, .int 99]) (rest := []) (c_X7_in l X  h3) ms_X7_in q3_227 rfl rfl ⟨rfl, rfl, Nat.le_of_ble_eq_true rfl, Nat.le_of_ble_eq_true rfl⟩ (Nat.le_of_ble_eq_true rfl) ⟨Nat.zero_le _, Nat.zero_le _⟩ dX7_paper_4 (fun H locs hw => ?_)
  refine lv_if_eq (tgt := 19) hx hb dX7_paper_7 (by decide) (fun c4 => ?_) (fun c4 => ?_)
  · have h := ifT c4 h
    refine lv_ldc2 hx hb hc.2.2.2.1 (hc.2.2.2.2.1 _ q4_87) dX7_paper_19 ?_
    obtain ⟨rfl, rfl⟩ := sm_inj h
    exact r_lret hc hr hw dX7_paper_22
  · have h := ifF c4 h
    refine lv_iload_n hx hb dX7_paper_10 rfl (lv_at hl 2 rfl) ?_
    refine lv_iconst (v := 0) hx hb dX7_paper_11 (by decide) ?_
    refine lv_iconst (v := 1) hx hb dX7_paper_12 (by decide) ?_
    obtain ⟨r5, S6, h7, h⟩ := bd_some h
    refine r_callSi hc hw hl.1 (As := [.int x2, .int 0, .int 1]) (rest := []) (c_X7_in l X  h7) ms_X7_in q3_227 rfl rfl ⟨rfl, rfl, Nat.le_of_ble_eq_true rfl, Nat.le_of_ble_eq_true rfl⟩ (Nat.le_of_ble_eq_true rfl) ⟨Nat.zero_le _, Nat.zero_le _⟩ dX7_paper_13 (fun H locs hw => ?_)
    refine lv_if_ne (tgt := 23) hx hb dX7_paper_16 (by decide) (fun c8 => ?_) (fun c8 => ?_)
    · have h := ifF c8 h
      refine lv_aload_n hx hb dX7_paper_23 rfl (lv_at hl 0 rfl) ?_
      obtain ⟨r9, S10, h11, h⟩ := bd_some h
      refine r_callV7v hc hw hl.1 (As := []) (rest := []) k163 (c_X7_takeRow l X  h11) ms_X7_takeRow rfl q4_88 rfl rfl ⟨rfl, rfl, Nat.le_of_ble_eq_true rfl, Nat.le_of_ble_eq_true rfl⟩ (Nat.le_of_ble_eq_true rfl) ⟨Nat.zero_le _, Nat.zero_le _⟩ dX7_paper_24 (fun H locs hw => ?_)
      refine lv_aload_n hx hb dX7_paper_27 rfl (lv_at hl 0 rfl) ?_
      refine lv_aload_n hx hb dX7_paper_28 rfl (lv_at hl 0 rfl) ?_
      refine r_get7 hc hw k163 16 (by decide) (v := .ref (X.1 + 172)) rfl q3_144 dX7_paper_29 ?_
      refine lv_bipush (v := 10) hx hb dX7_paper_32 (by decide) ?_
      obtain ⟨b12, h⟩ := bnd_some h
      refine r_iald hc hw k172 (inL b12 l172) dX7_paper_34 ?_
      obtain ⟨r13, S14, h15, h⟩ := bd_some h
      refine r_callV7v hc hw hl.1 (As := [.int (gI S10 172 (10 : Int32).toNatClampNeg)]) (rest := []) k163 (c_X7_measure l X  h15) ms_X7_measure rfl q4_92 rfl rfl ⟨rfl, rfl, Nat.le_of_ble_eq_true rfl, Nat.le_of_ble_eq_true rfl⟩ (Nat.le_of_ble_eq_true rfl) ⟨Nat.zero_le _, Nat.zero_le _⟩ dX7_paper_35 (fun H locs hw => ?_)
      refine lv_aload_n hx hb dX7_paper_38 rfl (lv_at hl 0 rfl) ?_
      refine r_get7 hc hw k163 23 (by decide) (v := .long (gJ S14 163 23)) rfl q3_151 dX7_paper_39 ?_
      refine lv_aload_n hx hb dX7_paper_42 rfl (lv_at hl 0 rfl) ?_
      refine r_get7 hc hw k163 24 (by decide) (v := .long (gJ S14 163 24)) rfl q3_152 dX7_paper_43 ?_
      refine lv_ladd hx hb dX7_paper_46 ?_
      refine lv_lconst (v := 0) hx hb dX7_paper_47 (by decide) ?_
      refine W.lcmp hx hb dX7_paper_48 ?_
      refine lv_if_ne (tgt := 58) hx hb dX7_paper_49 (by decide) (fun c16 => ?_) (fun c16 => ?_)
      · have h := ifF c16 h
        refine lv_iload_n hx hb dX7_paper_58 rfl (lv_at hl 1 rfl) ?_
        refine lv_i2l hx hb dX7_paper_59 rfl ?_
        refine lv_aload_n hx hb dX7_paper_60 rfl (lv_at hl 0 rfl) ?_
        refine r_get7 hc hw k163 24 (by decide) (v := .long (gJ S14 163 24)) rfl q3_152 dX7_paper_61 ?_
        refine lv_lmul hx hb dX7_paper_64 ?_
        refine lv_aload_n hx hb dX7_paper_65 rfl (lv_at hl 0 rfl) ?_
        refine r_get7 hc hw k163 23 (by decide) (v := .long (gJ S14 163 23)) rfl q3_151 dX7_paper_66 ?_
        refine lv_aload_n hx hb dX7_paper_69 rfl (lv_at hl 0 rfl) ?_
        refine r_get7 hc hw k163 24 (by decide) (v := .long (gJ S14 163 24)) rfl q3_152 dX7_paper_70 ?_
        refine lv_ladd hx hb dX7_paper_73 ?_
        refine lv_iload_n hx hb dX7_paper_74 rfl (lv_at hl 2 rfl) ?_
        obtain ⟨r17, S18, h19, h⟩ := bd_some h
        refine r_callSl hc hw hl.1 (As := [.long (x1.toInt64 * (gJ S14 163 24)), .long ((gJ S14 163 23) + (gJ S14 163 24)), .int x2]) (rest := []) (c_X7_part l X  h19) ms_X7_part q4_113 rfl rfl ⟨rfl, rfl, Nat.le_of_ble_eq_true rfl, Nat.le_of_ble_eq_true rfl⟩ (Nat.le_of_ble_eq_true rfl) ⟨Nat.zero_le _, Nat.zero_le _⟩ dX7_paper_75 (fun H locs hw => ?_)
        obtain ⟨rfl, rfl⟩ := sm_inj h
        exact r_lret hc hr hw dX7_paper_78
      · have h := ifT c16 h
        refine lv_ldc2 hx hb hc.2.2.2.1 (hc.2.2.2.2.1 _ q4_116) dX7_paper_52 ?_
        refine lv_goto (tgt := 78) hx hb dX7_paper_55 (by decide) ?_
        obtain ⟨rfl, rfl⟩ := sm_inj h
        exact r_lret hc hr hw dX7_paper_78
    · have h := ifT c8 h
      refine lv_ldc2 hx hb hc.2.2.2.1 (hc.2.2.2.2.1 _ q4_87) dX7_paper_19 ?_
      obtain ⟨rfl, rfl⟩ := sm_inj h
      exact r_lret hc hr hw dX7_paper_22
abbrev rm_X7_placeOf : Room := { frames := 0, cells := 0, slots := 0, locals := 0 }
theorem ms_X7_placeOf : MsV yX7_placeOf cX7_placeOf 3 (some .int) 1 := ⟨⟨q4_33, q1_8, by decide, by decide, by decide⟩, q4_32, qs_33⟩
set_option maxRecDepth 20000 in
theorem w_X7_placeOf_2 {p : Program} {l : Launch} {e : Env} {s : State} {m : MethodId} {args : Array Value} {below : List Frame} {meth : Method} {c : Code} {X : Wx} {r : Int32} {S' : Mm} (hc : Cx p s m args meth c X cX7_placeOf 3 RX7) (hr : meth.sig.returnType = (some .int))   : ∀ (n : Nat), ∀ (x1 : Int32) (x2 : Int32) (S : Mm) (H : Heap) (locs : List Loc) (ls : Array Slot), Wd X s.heap S H locs → lv_has ls 3 [(0, .ref (X.1 + 163)), (1, .int x1), (2, .int x2)] → f_X7_placeOf_2 n x1 x2 S = some (r, S') → W p l e rm_X7_placeOf s m args below meth c H locs 0 0 (MQ below (Qq X (some (.int r)) S') args s 0 0 (AA X.1)) (F0 m 2 ls []) := by
  have hx := hc.1
  have hb := hc.2.1
  intro n
  induction n with
  | zero => intro x1 x2 S H locs ls hw hl h; cases h
  | succ n ih =>
    intro x1 x2 S H locs ls hw hl h
    rw [f_X7_placeOf_2] at h
    refine lv_iload_n hx hb dX7_placeOf_2 rfl (lv_at hl 2 rfl) ?_
    refine lv_aload_n hx hb dX7_placeOf_3 rfl (lv_at hl 0 rfl) ?_
    refine r_get7 hc hw k163 3 (by decide) (v := .ref (X.1 + 165)) rfl q3_131 dX7_placeOf_4 ?_
    refine lv_iconst (v := 0) hx hb dX7_placeOf_7 (by decide) ?_
    obtain ⟨b1, h⟩ := bnd_some h
    refine r_iald hc hw k165 (inL b1 l165) dX7_placeOf_8 ?_
    refine lv_icmp_ge (tgt := 32) hx hb dX7_placeOf_9 (by decide) (fun c2 => ?_) (fun c2 => ?_)
    · have h := ifT c2 h
      refine lv_bipush (v := (-9)) hx hb dX7_placeOf_32 (by decide) ?_
      obtain ⟨rfl, rfl⟩ := sm_inj h
      exact r_iret hc hr hw dX7_placeOf_34
    · have h := ifF c2 h
      refine lv_aload_n hx hb dX7_placeOf_12 rfl (lv_at hl 0 rfl) ?_
      refine r_get7 hc hw k163 16 (by decide) (v := .ref (X.1 + 172)) rfl q3_144 dX7_placeOf_13 ?_
      refine lv_iconst (v := 0) hx hb dX7_placeOf_16 (by decide) ?_
      refine lv_iload_n hx hb dX7_placeOf_17 rfl (lv_at hl 2 rfl) ?_
      refine lv_iadd hx hb dX7_placeOf_18 ?_
      obtain ⟨b3, h⟩ := bnd_some h
      refine r_iald hc hw k172 (inL b3 l172) dX7_placeOf_19 ?_
      refine lv_iload_n hx hb dX7_placeOf_20 rfl (lv_at hl 1 rfl) ?_
      refine lv_icmp_ne (tgt := 26) hx hb dX7_placeOf_21 (by decide) (fun c4 => ?_) (fun c4 => ?_)
      · have h := ifF c4 h
        obtain ⟨v5, e6, h⟩ := nm_some h
        refine lv_iinc (v := v5) (lv' := [(2, .int v5), (0, .ref (X.1 + 163)), (1, .int x1)]) hx hb dX7_placeOf_26 hl (k := 2) rfl (by rw [e6]; rfl) (by decide) rfl (fun ls hl => ?_)
        refine lv_goto (tgt := 2) hx hb dX7_placeOf_29 (by decide) ?_
        exact ih x1 v5 S _ _ _ hw (lv_sub hl [1, 2, 0] rfl) h
      · have h := ifT c4 h
        refine lv_iload_n hx hb dX7_placeOf_24 rfl (lv_at hl 2 rfl) ?_
        obtain ⟨rfl, rfl⟩ := sm_inj h
        exact r_iret hc hr hw dX7_placeOf_25
set_option maxRecDepth 20000 in
theorem c_X7_placeOf (l : Launch) (X : Wx) {S S' : Mm} {r : Int32} {x1 : Int32}  (h : f_X7_placeOf S x1 = some (r, S')) : Ct l X yX7_placeOf cX7_placeOf 3 (some .int) rm_X7_placeOf [.ref (X.1 + 163), .int x1] S (some (.int r)) S' := by
  refine r_entry (by decide) (Nat.le_of_ble_eq_true rfl) ?_
  intro p e s m args below meth c ls hc hr hw hl
  have hc : Cx p s m args meth c X cX7_placeOf 3 RX7 := hc
  have hl : lv_has ls 3 [(0, .ref (X.1 + 163)), (1, .int x1)] := hl
  have hx := hc.1
  have hb := hc.2.1
  unfold f_X7_placeOf at h
  refine lv_iconst (v := 0) hx hb dX7_placeOf_0 (by decide) ?_
  refine lv_istore_n (lv' := [(2, .int 0), (0, .ref (X.1 + 163)), (1, .int x1)]) hx hb dX7_placeOf_1 rfl hl (by decide) rfl (fun ls hl => ?_)
  exact w_X7_placeOf_2 hc hr 400 x1 0 S _ _ _ hw (lv_sub hl [1, 2, 0] rfl) h
abbrev rm_X7_plain : Room := { frames := 0, cells := 0, slots := 0, locals := 0 }
theorem ms_X7_plain : MsV yX7_plain cX7_plain 2 none 0 := ⟨⟨q3_123, q1_8, by decide, by decide, by decide⟩, q3_122, qs_24⟩
set_option maxRecDepth 20000 in
theorem w_X7_plain_22 {p : Program} {l : Launch} {e : Env} {s : State} {m : MethodId} {args : Array Value} {below : List Frame} {meth : Method} {c : Code} {X : Wx} {r : Unit} {S' : Mm} (hc : Cx p s m args meth c X cX7_plain 2 RX7) (hr : meth.sig.returnType = none)   : ∀ (n : Nat), ∀ (x1 : Int32) (S : Mm) (H : Heap) (locs : List Loc) (ls : Array Slot), Wd X s.heap S H locs → lv_has ls 2 [(0, .ref (X.1 + 163)), (1, .int x1)] → f_X7_plain_22 n x1 S = some (r, S') → W p l e rm_X7_plain s m args below meth c H locs 0 0 (MQ below (Qq X none S') args s 0 0 (AA X.1)) (F0 m 22 ls []) := by
  have hx := hc.1
  have hb := hc.2.1
  intro n
  induction n with
  | zero => intro x1 S H locs ls hw hl h; cases h
  | succ n ih =>
    intro x1 S H locs ls hw hl h
    rw [f_X7_plain_22] at h
    refine lv_iload_n hx hb dX7_plain_22 rfl (lv_at hl 1 rfl) ?_
    refine lv_iconst (v := 5) hx hb dX7_plain_23 (by decide) ?_
    refine lv_icmp_ge (tgt := 42) hx hb dX7_plain_24 (by decide) (fun c1 => ?_) (fun c1 => ?_)
    · have h := ifT c1 h
      obtain ⟨rfl, rfl⟩ := sm_inj h
      exact r_vret hc hr hw dX7_plain_42
    · have h := ifF c1 h
      refine lv_aload_n hx hb dX7_plain_27 rfl (lv_at hl 0 rfl) ?_
      refine r_get7 hc hw k163 8 (by decide) (v := .ref (X.1 + 170)) rfl q3_136 dX7_plain_28 ?_
      refine lv_iconst (v := 5) hx hb dX7_plain_31 (by decide) ?_
      refine lv_iload_n hx hb dX7_plain_32 rfl (lv_at hl 1 rfl) ?_
      refine lv_iadd hx hb dX7_plain_33 ?_
      refine lv_iconst (v := 0) hx hb dX7_plain_34 (by decide) ?_
      obtain ⟨b2, h⟩ := bnd_some h
      obtain ⟨S3, e4, h⟩ := nm_some h
      refine r_iast hc hw k170 (inL b2 l170) e4 dX7_plain_35 (fun H locs hw => ?_)
      obtain ⟨v5, e6, h⟩ := nm_some h
      refine lv_iinc (v := v5) (lv' := [(1, .int v5), (0, .ref (X.1 + 163))]) hx hb dX7_plain_36 hl (k := 1) rfl (by rw [e6]; rfl) (by decide) rfl (fun ls hl => ?_)
      refine lv_goto (tgt := 22) hx hb dX7_plain_39 (by decide) ?_
      exact ih v5 S3 _ _ _ hw (lv_sub hl [1, 0] rfl) h
set_option maxRecDepth 20000 in
theorem c_X7_plain (l : Launch) (X : Wx) {S S' : Mm} {r : Unit}   (h : f_X7_plain S = some (r, S')) : Ct l X yX7_plain cX7_plain 2 none rm_X7_plain [.ref (X.1 + 163)] S none S' := by
  refine r_entry (by decide) (Nat.le_of_ble_eq_true rfl) ?_
  intro p e s m args below meth c ls hc hr hw hl
  have hc : Cx p s m args meth c X cX7_plain 2 RX7 := hc
  have hl : lv_has ls 2 [(0, .ref (X.1 + 163))] := hl
  have hx := hc.1
  have hb := hc.2.1
  unfold f_X7_plain at h
  refine lv_aload_n hx hb dX7_plain_0 rfl (lv_at hl 0 rfl) ?_
  refine r_get7 hc hw k163 3 (by decide) (v := .ref (X.1 + 165)) rfl q3_131 dX7_plain_1 ?_
  refine lv_iconst (v := 1) hx hb dX7_plain_4 (by decide) ?_
  refine lv_iconst (v := 0) hx hb dX7_plain_5 (by decide) ?_
  obtain ⟨b1, h⟩ := bnd_some h
  obtain ⟨S2, e3, h⟩ := nm_some h
  refine r_iast hc hw k165 (inL b1 l165) e3 dX7_plain_6 (fun H locs hw => ?_)
  refine lv_aload_n hx hb dX7_plain_7 rfl (lv_at hl 0 rfl) ?_
  refine r_get7 hc hw k163 9 (by decide) (v := .ref (X.1 + 171)) rfl q3_137 dX7_plain_8 ?_
  refine lv_iconst (v := 1) hx hb dX7_plain_11 (by decide) ?_
  refine lv_bipush (v := 50) hx hb dX7_plain_12 (by decide) ?_
  obtain ⟨b4, h⟩ := bnd_some h
  obtain ⟨S5, e6, h⟩ := nm_some h
  refine r_iast hc hw k171 (inL b4 l171) e6 dX7_plain_14 (fun H locs hw => ?_)
  refine lv_aload_n hx hb dX7_plain_15 rfl (lv_at hl 0 rfl) ?_
  refine lv_iconst (v := 0) hx hb dX7_plain_16 (by decide) ?_
  obtain ⟨S7, e8, h⟩ := nm_some h
  refine r_put7_10 hc hw k163 e8 (Or.inl rfl) q3_138 dX7_plain_17 (fun H locs hw => ?_)
  refine lv_iconst (v := 0) hx hb dX7_plain_20 (by decide) ?_
  refine lv_istore_n (lv' := [(1, .int 0), (0, .ref (X.1 + 163))]) hx hb dX7_plain_21 rfl hl (by decide) rfl (fun ls hl => ?_)
  exact w_X7_plain_22 hc hr 400 0 S7 _ _ _ hw (lv_sub hl [1, 0] rfl) h
abbrev rm_X7_readRow : Room := { frames := 4, cells := 0, slots := 0, locals := 87 }
theorem ms_X7_readRow : MsV yX7_readRow cX7_readRow 5 none 1 := ⟨⟨q4_17, q1_8, by decide, by decide, by decide⟩, q4_16, qs_30⟩
set_option maxRecDepth 20000 in
theorem c_X7_readRow (l : Launch) (X : Wx) {S S' : Mm} {r : Unit} {x1 : Int32}  (h : f_X7_readRow S x1 = some (r, S')) : Ct l X yX7_readRow cX7_readRow 5 none rm_X7_readRow [.ref (X.1 + 163), .int x1] S none S' := by
  refine r_entry (by decide) (Nat.le_of_ble_eq_true rfl) ?_
  intro p e s m args below meth c ls hc hr hw hl
  have hc : Cx p s m args meth c X cX7_readRow 5 RX7 := hc
  have hl : lv_has ls 5 [(0, .ref (X.1 + 163)), (1, .int x1)] := hl
  have hx := hc.1
  have hb := hc.2.1
  unfold f_X7_readRow at h
  refine lv_iload_n hx hb dX7_readRow_0 rfl (lv_at hl 1 rfl) ?_
  by_cases c1 : x1 = 104
  · have h := ifT c1 h
    refine lv_lookup (off := 105) (tgt := 106) hx hb dX7_readRow_1 (by decide) (by rw [c1]; decide) (by decide) ?_
    refine lv_aload_n hx hb dX7_readRow_106 rfl (lv_at hl 0 rfl) ?_
    refine lv_iconst (v := 0) hx hb dX7_readRow_107 (by decide) ?_
    refine lv_aload_n hx hb dX7_readRow_108 rfl (lv_at hl 0 rfl) ?_
    refine r_get7 hc hw k163 3 (by decide) (v := .ref (X.1 + 165)) rfl q3_131 dX7_readRow_109 ?_
    refine lv_iconst (v := 1) hx hb dX7_readRow_112 (by decide) ?_
    obtain ⟨b2, h⟩ := bnd_some h
    refine r_iald hc hw k165 (inL b2 l165) dX7_readRow_113 ?_
    refine lv_iconst (v := 1) hx hb dX7_readRow_114 (by decide) ?_
    refine lv_isub hx hb dX7_readRow_115 ?_
    obtain ⟨r3, S4, h5, h⟩ := bd_some h
    refine r_callV7i hc hw hl.1 (As := [.int 0, .int ((gI S 165 (1 : Int32).toNatClampNeg) - 1)]) (rest := []) k163 (c_X7_number l X  h5) ms_X7_number rfl q4_18 rfl rfl ⟨rfl, rfl, Nat.le_of_ble_eq_true rfl, Nat.le_of_ble_eq_true rfl⟩ (Nat.le_of_ble_eq_true rfl) ⟨Nat.zero_le _, Nat.zero_le _⟩ dX7_readRow_116 (fun H locs hw => ?_)
    refine lv_istore_n (lv' := [(3, .int r3), (0, .ref (X.1 + 163)), (1, .int x1)]) hx hb dX7_readRow_119 rfl hl (by decide) rfl (fun ls hl => ?_)
    refine lv_aload_n hx hb dX7_readRow_120 rfl (lv_at hl 1 rfl) ?_
    refine lv_iload_n hx hb dX7_readRow_121 rfl (lv_at hl 0 rfl) ?_
    refine lv_iconst (v := 1) hx hb dX7_readRow_122 (by decide) ?_
    refine lv_iadd hx hb dX7_readRow_123 ?_
    refine lv_aload_n hx hb dX7_readRow_124 rfl (lv_at hl 1 rfl) ?_
    refine r_get7 hc hw k163 3 (by decide) (v := .ref (X.1 + 165)) rfl q3_131 dX7_readRow_125 ?_
    refine lv_iconst (v := 1) hx hb dX7_readRow_128 (by decide) ?_
    obtain ⟨b6, h⟩ := bnd_some h
    refine r_iald hc hw k165 (inL b6 l165) dX7_readRow_129 ?_
    refine lv_iconst (v := 1) hx hb dX7_readRow_130 (by decide) ?_
    refine lv_isub hx hb dX7_readRow_131 ?_
    obtain ⟨r7, S8, h9, h⟩ := bd_some h
    refine r_callV7i hc hw hl.1 (As := [.int (r3 + 1), .int ((gI S4 165 (1 : Int32).toNatClampNeg) - 1)]) (rest := []) k163 (c_X7_number l X  h9) ms_X7_number rfl q4_18 rfl rfl ⟨rfl, rfl, Nat.le_of_ble_eq_true rfl, Nat.le_of_ble_eq_true rfl⟩ (Nat.le_of_ble_eq_true rfl) ⟨Nat.zero_le _, Nat.zero_le _⟩ dX7_readRow_132 (fun H locs hw => ?_)
    refine lv_istore (lv' := [(4, .int r7), (3, .int r3), (0, .ref (X.1 + 163)), (1, .int x1)]) hx hb dX7_readRow_135 hl (by decide) rfl (fun ls hl => ?_)
    refine lv_aload_n hx hb dX7_readRow_137 rfl (lv_at hl 2 rfl) ?_
    refine r_get7 hc hw k163 15 (by decide) (v := .int (gI S8 163 15)) rfl q3_143 dX7_readRow_138 ?_
    refine lv_bipush (v := (-9)) hx hb dX7_readRow_141 (by decide) ?_
    refine lv_icmp_ne (tgt := 182) hx hb dX7_readRow_143 (by decide) (fun c10 => ?_) (fun c10 => ?_)
    · have h := ifF c10 h
      obtain ⟨rfl, rfl⟩ := sm_inj h
      exact r_vret hc hr hw dX7_readRow_182
    · have h := ifT c10 h
      refine lv_aload_n hx hb dX7_readRow_146 rfl (lv_at hl 2 rfl) ?_
      refine r_get7 hc hw k163 8 (by decide) (v := .ref (X.1 + 170)) rfl q3_136 dX7_readRow_147 ?_
      refine lv_iconst (v := 5) hx hb dX7_readRow_150 (by decide) ?_
      refine lv_iload_n hx hb dX7_readRow_151 rfl (lv_at hl 1 rfl) ?_
      refine lv_iadd hx hb dX7_readRow_152 ?_
      refine lv_dup2_11 hx hb dX7_readRow_153 rfl rfl ?_
      obtain ⟨b11, h⟩ := bnd_some h
      refine r_iald hc hw k170 (inL b11 l170) dX7_readRow_154 ?_
      refine lv_iconst (v := 1) hx hb dX7_readRow_155 (by decide) ?_
      refine lv_iload hx hb dX7_readRow_156 (lv_at hl 0 rfl) ?_
      refine lv_ishl hx hb dX7_readRow_158 ?_
      refine lv_ior hx hb dX7_readRow_159 ?_
      obtain ⟨b12, h⟩ := bnd_some h
      obtain ⟨S13, e14, h⟩ := nm_some h
      refine r_iast hc hw k170 (inL b12 l170) e14 dX7_readRow_160 (fun H locs hw => ?_)
      refine lv_goto (tgt := 182) hx hb dX7_readRow_161 (by decide) ?_
      obtain ⟨rfl, rfl⟩ := sm_inj h
      exact r_vret hc hr hw dX7_readRow_182
  · have h := ifF c1 h
    by_cases c15 : x1 = 115
    · have h := ifT c15 h
      refine lv_lookup (off := 27) (tgt := 28) hx hb dX7_readRow_1 (by decide) (by rw [c15]; decide) (by decide) ?_
      refine lv_aload_n hx hb dX7_readRow_28 rfl (lv_at hl 0 rfl) ?_
      refine r_get7 hc hw k163 3 (by decide) (v := .ref (X.1 + 165)) rfl q3_131 dX7_readRow_29 ?_
      refine lv_iconst (v := 1) hx hb dX7_readRow_32 (by decide) ?_
      obtain ⟨b16, h⟩ := bnd_some h
      refine r_iald hc hw k165 (inL b16 l165) dX7_readRow_33 ?_
      obtain ⟨v17, e18, h⟩ := nm_some h
      refine r_top e18 ?_
      refine lv_istore_n (lv' := [(2, .int v17), (0, .ref (X.1 + 163)), (1, .int x1)]) hx hb dX7_readRow_34 rfl hl (by decide) rfl (fun ls hl => ?_)
      refine lv_aload_n hx hb dX7_readRow_35 rfl (lv_at hl 1 rfl) ?_
      refine r_get7 hc hw k163 4 (by decide) (v := .ref (X.1 + 166)) rfl q3_132 dX7_readRow_36 ?_
      refine lv_iconst (v := 5) hx hb dX7_readRow_39 (by decide) ?_
      refine lv_iload_n hx hb dX7_readRow_40 rfl (lv_at hl 0 rfl) ?_
      refine lv_iadd hx hb dX7_readRow_41 ?_
      refine lv_aload_n hx hb dX7_readRow_42 rfl (lv_at hl 1 rfl) ?_
      refine lv_iconst (v := 1) hx hb dX7_readRow_43 (by decide) ?_
      refine lv_bipush (v := 99) hx hb dX7_readRow_44 (by decide) ?_
      obtain ⟨r19, S20, h21, h⟩ := bd_some h
      refine r_callV7i hc hw hl.1 (As := [.int 1, .int 99]) (rest := [.int (5 + v17), .ref (X.1 + 166)]) k163 (c_X7_number l X  h21) ms_X7_number rfl q4_18 rfl rfl ⟨rfl, rfl, Nat.le_of_ble_eq_true rfl, Nat.le_of_ble_eq_true rfl⟩ (Nat.le_of_ble_eq_true rfl) ⟨Nat.zero_le _, Nat.zero_le _⟩ dX7_readRow_46 (fun H locs hw => ?_)
      obtain ⟨b22, h⟩ := bnd_some h
      obtain ⟨S23, e24, h⟩ := nm_some h
      refine r_iast hc hw k166 (inL b22 l166) e24 dX7_readRow_49 (fun H locs hw => ?_)
      refine lv_aload_n hx hb dX7_readRow_50 rfl (lv_at hl 1 rfl) ?_
      refine r_get7 hc hw k163 5 (by decide) (v := .ref (X.1 + 167)) rfl q3_133 dX7_readRow_51 ?_
      refine lv_iload_n hx hb dX7_readRow_54 rfl (lv_at hl 0 rfl) ?_
      refine lv_aload_n hx hb dX7_readRow_55 rfl (lv_at hl 1 rfl) ?_
      refine lv_iconst (v := 0) hx hb dX7_readRow_56 (by decide) ?_
      refine lv_bipush (v := 9) hx hb dX7_readRow_57 (by decide) ?_
      obtain ⟨r25, S26, h27, h⟩ := bd_some h
      refine r_callV7i hc hw hl.1 (As := [.int 0, .int 9]) (rest := [.int v17, .ref (X.1 + 167)]) k163 (c_X7_number l X  h27) ms_X7_number rfl q4_18 rfl rfl ⟨rfl, rfl, Nat.le_of_ble_eq_true rfl, Nat.le_of_ble_eq_true rfl⟩ (Nat.le_of_ble_eq_true rfl) ⟨Nat.zero_le _, Nat.zero_le _⟩ dX7_readRow_59 (fun H locs hw => ?_)
      obtain ⟨b28, h⟩ := bnd_some h
      obtain ⟨S29, e30, h⟩ := nm_some h
      refine r_iast hc hw k167 (inL b28 l167) e30 dX7_readRow_62 (fun H locs hw => ?_)
      refine lv_aload_n hx hb dX7_readRow_63 rfl (lv_at hl 1 rfl) ?_
      refine r_get7 hc hw k163 6 (by decide) (v := .ref (X.1 + 168)) rfl q3_134 dX7_readRow_64 ?_
      refine lv_iconst (v := 5) hx hb dX7_readRow_67 (by decide) ?_
      refine lv_iload_n hx hb dX7_readRow_68 rfl (lv_at hl 0 rfl) ?_
      refine lv_iadd hx hb dX7_readRow_69 ?_
      refine lv_aload_n hx hb dX7_readRow_70 rfl (lv_at hl 1 rfl) ?_
      refine lv_iconst (v := 1) hx hb dX7_readRow_71 (by decide) ?_
      refine lv_bipush (v := 30) hx hb dX7_readRow_72 (by decide) ?_
      obtain ⟨r31, S32, h33, h⟩ := bd_some h
      refine r_callV7i hc hw hl.1 (As := [.int 1, .int 30]) (rest := [.int (5 + v17), .ref (X.1 + 168)]) k163 (c_X7_number l X  h33) ms_X7_number rfl q4_18 rfl rfl ⟨rfl, rfl, Nat.le_of_ble_eq_true rfl, Nat.le_of_ble_eq_true rfl⟩ (Nat.le_of_ble_eq_true rfl) ⟨Nat.zero_le _, Nat.zero_le _⟩ dX7_readRow_74 (fun H locs hw => ?_)
      obtain ⟨b34, h⟩ := bnd_some h
      obtain ⟨S35, e36, h⟩ := nm_some h
      refine r_iast hc hw k168 (inL b34 l168) e36 dX7_readRow_77 (fun H locs hw => ?_)
      refine lv_aload_n hx hb dX7_readRow_78 rfl (lv_at hl 1 rfl) ?_
      refine r_get7 hc hw k163 7 (by decide) (v := .ref (X.1 + 169)) rfl q3_135 dX7_readRow_79 ?_
      refine lv_iconst (v := 5) hx hb dX7_readRow_82 (by decide) ?_
      refine lv_iload_n hx hb dX7_readRow_83 rfl (lv_at hl 0 rfl) ?_
      refine lv_iadd hx hb dX7_readRow_84 ?_
      refine lv_aload_n hx hb dX7_readRow_85 rfl (lv_at hl 1 rfl) ?_
      refine lv_iconst (v := 0) hx hb dX7_readRow_86 (by decide) ?_
      refine lv_bipush (v := 9) hx hb dX7_readRow_87 (by decide) ?_
      obtain ⟨r37, S38, h39, h⟩ := bd_some h
      refine r_callV7i hc hw hl.1 (As := [.int 0, .int 9]) (rest := [.int (5 + v17), .ref (X.1 + 169)]) k163 (c_X7_number l X  h39) ms_X7_number rfl q4_18 rfl rfl ⟨rfl, rfl, Nat.le_of_ble_eq_true rfl, Nat.le_of_ble_eq_true rfl⟩ (Nat.le_of_ble_eq_true rfl) ⟨Nat.zero_le _, Nat.zero_le _⟩ dX7_readRow_89 (fun H locs hw => ?_)
      obtain ⟨b40, h⟩ := bnd_some h
      obtain ⟨S41, e42, h⟩ := nm_some h
      refine r_iast hc hw k169 (inL b40 l169) e42 dX7_readRow_92 (fun H locs hw => ?_)
      refine lv_aload_n hx hb dX7_readRow_93 rfl (lv_at hl 1 rfl) ?_
      refine r_get7 hc hw k163 3 (by decide) (v := .ref (X.1 + 165)) rfl q3_131 dX7_readRow_94 ?_
      refine lv_iconst (v := 1) hx hb dX7_readRow_97 (by decide) ?_
      refine lv_dup2_11 hx hb dX7_readRow_98 rfl rfl ?_
      obtain ⟨b43, h⟩ := bnd_some h
      refine r_iald hc hw k165 (inL b43 l165) dX7_readRow_99 ?_
      refine lv_iconst (v := 1) hx hb dX7_readRow_100 (by decide) ?_
      refine lv_iadd hx hb dX7_readRow_101 ?_
      obtain ⟨b44, h⟩ := bnd_some h
      obtain ⟨S45, e46, h⟩ := nm_some h
      refine r_iast hc hw k165 (inL b44 l165) e46 dX7_readRow_102 (fun H locs hw => ?_)
      refine lv_goto (tgt := 182) hx hb dX7_readRow_103 (by decide) ?_
      obtain ⟨rfl, rfl⟩ := sm_inj h
      exact r_vret hc hr hw dX7_readRow_182
    · have h := ifF c15 h
      refine lv_lookup (off := 163) (tgt := 164) hx hb dX7_readRow_1 (by decide) ((lv_osw c1 (by decide)).trans ((lv_osw c15 (by decide)).trans (rfl))) (by decide) ?_
      refine lv_aload_n hx hb dX7_readRow_164 rfl (lv_at hl 0 rfl) ?_
      refine r_get7 hc hw k163 9 (by decide) (v := .ref (X.1 + 171)) rfl q3_137 dX7_readRow_165 ?_
      refine lv_iconst (v := 1) hx hb dX7_readRow_168 (by decide) ?_
      refine lv_aload_n hx hb dX7_readRow_169 rfl (lv_at hl 0 rfl) ?_
      refine lv_iconst (v := 0) hx hb dX7_readRow_170 (by decide) ?_
      refine lv_bipush (v := 99) hx hb dX7_readRow_171 (by decide) ?_
      obtain ⟨r47, S48, h49, h⟩ := bd_some h
      refine r_callV7i hc hw hl.1 (As := [.int 0, .int 99]) (rest := [.int 1, .ref (X.1 + 171)]) k163 (c_X7_number l X  h49) ms_X7_number rfl q4_18 rfl rfl ⟨rfl, rfl, Nat.le_of_ble_eq_true rfl, Nat.le_of_ble_eq_true rfl⟩ (Nat.le_of_ble_eq_true rfl) ⟨Nat.zero_le _, Nat.zero_le _⟩ dX7_readRow_173 (fun H locs hw => ?_)
      obtain ⟨b50, h⟩ := bnd_some h
      obtain ⟨S51, e52, h⟩ := nm_some h
      refine r_iast hc hw k171 (inL b50 l171) e52 dX7_readRow_176 (fun H locs hw => ?_)
      refine lv_aload_n hx hb dX7_readRow_177 rfl (lv_at hl 0 rfl) ?_
      refine lv_iconst (v := 1) hx hb dX7_readRow_178 (by decide) ?_
      obtain ⟨S53, e54, h⟩ := nm_some h
      refine r_put7_10 hc hw k163 e54 (Or.inr rfl) q3_138 dX7_readRow_179 (fun H locs hw => ?_)
      obtain ⟨rfl, rfl⟩ := sm_inj h
      exact r_vret hc hr hw dX7_readRow_182
abbrev rm_X7_takeDraft : Room := { frames := 0, cells := 0, slots := 0, locals := 0 }
theorem ms_X7_takeDraft : MsV yX7_takeDraft cX7_takeDraft 2 none 0 := ⟨⟨q3_127, q1_8, by decide, by decide, by decide⟩, q3_126, qs_25⟩
set_option maxRecDepth 20000 in
theorem w_X7_takeDraft_47 {p : Program} {l : Launch} {e : Env} {s : State} {m : MethodId} {args : Array Value} {below : List Frame} {meth : Method} {c : Code} {X : Wx} {r : Unit} {S' : Mm} (hc : Cx p s m args meth c X cX7_takeDraft 2 RX7) (hr : meth.sig.returnType = none)   : ∀ (n : Nat), ∀ (x1 : Int32) (S : Mm) (H : Heap) (locs : List Loc) (ls : Array Slot), Wd X s.heap S H locs → lv_has ls 2 [(0, .ref (X.1 + 163)), (1, .int x1)] → f_X7_takeDraft_47 n x1 S = some (r, S') → W p l e rm_X7_takeDraft s m args below meth c H locs 0 0 (MQ below (Qq X none S') args s 0 0 (AA X.1)) (F0 m 47 ls []) := by
  have hx := hc.1
  have hb := hc.2.1
  intro n
  induction n with
  | zero => intro x1 S H locs ls hw hl h; cases h
  | succ n ih =>
    intro x1 S H locs ls hw hl h
    rw [f_X7_takeDraft_47] at h
    refine lv_iload_n hx hb dX7_takeDraft_47 rfl (lv_at hl 1 rfl) ?_
    refine lv_iconst (v := 5) hx hb dX7_takeDraft_48 (by decide) ?_
    refine lv_icmp_ge (tgt := 137) hx hb dX7_takeDraft_49 (by decide) (fun c1 => ?_) (fun c1 => ?_)
    · have h := ifT c1 h
      refine lv_aload_n hx hb dX7_takeDraft_137 rfl (lv_at hl 0 rfl) ?_
      refine r_get7 hc hw k163 16 (by decide) (v := .ref (X.1 + 172)) rfl q3_144 dX7_takeDraft_138 ?_
      refine lv_bipush (v := 20) hx hb dX7_takeDraft_141 (by decide) ?_
      refine lv_iconst (v := 0) hx hb dX7_takeDraft_143 (by decide) ?_
      obtain ⟨b2, h⟩ := bnd_some h
      obtain ⟨S3, e4, h⟩ := nm_some h
      refine r_iast hc hw k172 (inL b2 l172) e4 dX7_takeDraft_144 (fun H locs hw => ?_)
      refine lv_aload_n hx hb dX7_takeDraft_145 rfl (lv_at hl 0 rfl) ?_
      refine lv_iconst (v := 0) hx hb dX7_takeDraft_146 (by decide) ?_
      obtain ⟨S5, e6, h⟩ := nm_some h
      refine r_put7_30 hc hw k163 e6 q3_158 dX7_takeDraft_147 (fun H locs hw => ?_)
      refine lv_aload_n hx hb dX7_takeDraft_150 rfl (lv_at hl 0 rfl) ?_
      refine r_get7 hc hw k163 17 (by decide) (v := .ref (X.1 + 173)) rfl q3_145 dX7_takeDraft_151 ?_
      refine lv_iconst (v := 0) hx hb dX7_takeDraft_154 (by decide) ?_
      refine lv_iconst (v := 0) hx hb dX7_takeDraft_155 (by decide) ?_
      obtain ⟨b7, h⟩ := bnd_some h
      obtain ⟨S8, e9, h⟩ := nm_some h
      refine r_zast hc hw k173 (inL b7 l173) e9 dX7_takeDraft_156 (fun H locs hw => ?_)
      refine lv_aload_n hx hb dX7_takeDraft_157 rfl (lv_at hl 0 rfl) ?_
      refine r_get7 hc hw k163 17 (by decide) (v := .ref (X.1 + 173)) rfl q3_145 dX7_takeDraft_158 ?_
      refine lv_iconst (v := 1) hx hb dX7_takeDraft_161 (by decide) ?_
      refine lv_iconst (v := 0) hx hb dX7_takeDraft_162 (by decide) ?_
      obtain ⟨b10, h⟩ := bnd_some h
      obtain ⟨S11, e12, h⟩ := nm_some h
      refine r_zast hc hw k173 (inL b10 l173) e12 dX7_takeDraft_163 (fun H locs hw => ?_)
      obtain ⟨rfl, rfl⟩ := sm_inj h
      exact r_vret hc hr hw dX7_takeDraft_164
    · have h := ifF c1 h
      refine lv_aload_n hx hb dX7_takeDraft_52 rfl (lv_at hl 0 rfl) ?_
      refine r_get7 hc hw k163 4 (by decide) (v := .ref (X.1 + 166)) rfl q3_132 dX7_takeDraft_53 ?_
      refine lv_iload_n hx hb dX7_takeDraft_56 rfl (lv_at hl 1 rfl) ?_
      refine lv_aload_n hx hb dX7_takeDraft_57 rfl (lv_at hl 0 rfl) ?_
      refine r_get7 hc hw k163 4 (by decide) (v := .ref (X.1 + 166)) rfl q3_132 dX7_takeDraft_58 ?_
      refine lv_iconst (v := 5) hx hb dX7_takeDraft_61 (by decide) ?_
      refine lv_iload_n hx hb dX7_takeDraft_62 rfl (lv_at hl 1 rfl) ?_
      refine lv_iadd hx hb dX7_takeDraft_63 ?_
      obtain ⟨b13, h⟩ := bnd_some h
      refine r_iald hc hw k166 (inL b13 l166) dX7_takeDraft_64 ?_
      obtain ⟨b14, h⟩ := bnd_some h
      obtain ⟨S15, e16, h⟩ := nm_some h
      refine r_iast hc hw k166 (inL b14 l166) e16 dX7_takeDraft_65 (fun H locs hw => ?_)
      refine lv_aload_n hx hb dX7_takeDraft_66 rfl (lv_at hl 0 rfl) ?_
      refine r_get7 hc hw k163 6 (by decide) (v := .ref (X.1 + 168)) rfl q3_134 dX7_takeDraft_67 ?_
      refine lv_iload_n hx hb dX7_takeDraft_70 rfl (lv_at hl 1 rfl) ?_
      refine lv_aload_n hx hb dX7_takeDraft_71 rfl (lv_at hl 0 rfl) ?_
      refine r_get7 hc hw k163 6 (by decide) (v := .ref (X.1 + 168)) rfl q3_134 dX7_takeDraft_72 ?_
      refine lv_iconst (v := 5) hx hb dX7_takeDraft_75 (by decide) ?_
      refine lv_iload_n hx hb dX7_takeDraft_76 rfl (lv_at hl 1 rfl) ?_
      refine lv_iadd hx hb dX7_takeDraft_77 ?_
      obtain ⟨b17, h⟩ := bnd_some h
      refine r_iald hc hw k168 (inL b17 l168) dX7_takeDraft_78 ?_
      obtain ⟨b18, h⟩ := bnd_some h
      obtain ⟨S19, e20, h⟩ := nm_some h
      refine r_iast hc hw k168 (inL b18 l168) e20 dX7_takeDraft_79 (fun H locs hw => ?_)
      refine lv_aload_n hx hb dX7_takeDraft_80 rfl (lv_at hl 0 rfl) ?_
      refine r_get7 hc hw k163 7 (by decide) (v := .ref (X.1 + 169)) rfl q3_135 dX7_takeDraft_81 ?_
      refine lv_iload_n hx hb dX7_takeDraft_84 rfl (lv_at hl 1 rfl) ?_
      refine lv_aload_n hx hb dX7_takeDraft_85 rfl (lv_at hl 0 rfl) ?_
      refine r_get7 hc hw k163 7 (by decide) (v := .ref (X.1 + 169)) rfl q3_135 dX7_takeDraft_86 ?_
      refine lv_iconst (v := 5) hx hb dX7_takeDraft_89 (by decide) ?_
      refine lv_iload_n hx hb dX7_takeDraft_90 rfl (lv_at hl 1 rfl) ?_
      refine lv_iadd hx hb dX7_takeDraft_91 ?_
      obtain ⟨b21, h⟩ := bnd_some h
      refine r_iald hc hw k169 (inL b21 l169) dX7_takeDraft_92 ?_
      obtain ⟨b22, h⟩ := bnd_some h
      obtain ⟨S23, e24, h⟩ := nm_some h
      refine r_iast hc hw k169 (inL b22 l169) e24 dX7_takeDraft_93 (fun H locs hw => ?_)
      refine lv_aload_n hx hb dX7_takeDraft_94 rfl (lv_at hl 0 rfl) ?_
      refine r_get7 hc hw k163 8 (by decide) (v := .ref (X.1 + 170)) rfl q3_136 dX7_takeDraft_95 ?_
      refine lv_iload_n hx hb dX7_takeDraft_98 rfl (lv_at hl 1 rfl) ?_
      refine lv_aload_n hx hb dX7_takeDraft_99 rfl (lv_at hl 0 rfl) ?_
      refine r_get7 hc hw k163 8 (by decide) (v := .ref (X.1 + 170)) rfl q3_136 dX7_takeDraft_100 ?_
      refine lv_iconst (v := 5) hx hb dX7_takeDraft_103 (by decide) ?_
      refine lv_iload_n hx hb dX7_takeDraft_104 rfl (lv_at hl 1 rfl) ?_
      refine lv_iadd hx hb dX7_takeDraft_105 ?_
      obtain ⟨b25, h⟩ := bnd_some h
      refine r_iald hc hw k170 (inL b25 l170) dX7_takeDraft_106 ?_
      obtain ⟨b26, h⟩ := bnd_some h
      obtain ⟨S27, e28, h⟩ := nm_some h
      refine r_iast hc hw k170 (inL b26 l170) e28 dX7_takeDraft_107 (fun H locs hw => ?_)
      refine lv_aload_n hx hb dX7_takeDraft_108 rfl (lv_at hl 0 rfl) ?_
      refine r_get7 hc hw k163 16 (by decide) (v := .ref (X.1 + 172)) rfl q3_144 dX7_takeDraft_109 ?_
      refine lv_iconst (v := 0) hx hb dX7_takeDraft_112 (by decide) ?_
      refine lv_iload_n hx hb dX7_takeDraft_113 rfl (lv_at hl 1 rfl) ?_
      refine lv_iadd hx hb dX7_takeDraft_114 ?_
      refine lv_iload_n hx hb dX7_takeDraft_115 rfl (lv_at hl 1 rfl) ?_
      obtain ⟨b29, h⟩ := bnd_some h
      obtain ⟨S30, e31, h⟩ := nm_some h
      refine r_iast hc hw k172 (inL b29 l172) e31 dX7_takeDraft_116 (fun H locs hw => ?_)
      refine lv_aload_n hx hb dX7_takeDraft_117 rfl (lv_at hl 0 rfl) ?_
      refine r_get7 hc hw k163 16 (by decide) (v := .ref (X.1 + 172)) rfl q3_144 dX7_takeDraft_118 ?_
      refine lv_iconst (v := 5) hx hb dX7_takeDraft_121 (by decide) ?_
      refine lv_iload_n hx hb dX7_takeDraft_122 rfl (lv_at hl 1 rfl) ?_
      refine lv_iadd hx hb dX7_takeDraft_123 ?_
      refine lv_aload_n hx hb dX7_takeDraft_124 rfl (lv_at hl 0 rfl) ?_
      refine r_get7 hc hw k163 5 (by decide) (v := .ref (X.1 + 167)) rfl q3_133 dX7_takeDraft_125 ?_
      refine lv_iload_n hx hb dX7_takeDraft_128 rfl (lv_at hl 1 rfl) ?_
      obtain ⟨b32, h⟩ := bnd_some h
      refine r_iald hc hw k167 (inL b32 l167) dX7_takeDraft_129 ?_
      obtain ⟨b33, h⟩ := bnd_some h
      obtain ⟨S34, e35, h⟩ := nm_some h
      refine r_iast hc hw k172 (inL b33 l172) e35 dX7_takeDraft_130 (fun H locs hw => ?_)
      obtain ⟨v36, e37, h⟩ := nm_some h
      refine lv_iinc (v := v36) (lv' := [(1, .int v36), (0, .ref (X.1 + 163))]) hx hb dX7_takeDraft_131 hl (k := 1) rfl (by rw [e37]; rfl) (by decide) rfl (fun ls hl => ?_)
      refine lv_goto (tgt := 47) hx hb dX7_takeDraft_134 (by decide) ?_
      exact ih v36 S34 _ _ _ hw (lv_sub hl [1, 0] rfl) h
set_option maxRecDepth 20000 in
theorem w_X7_takeDraft_26 {p : Program} {l : Launch} {e : Env} {s : State} {m : MethodId} {args : Array Value} {below : List Frame} {meth : Method} {c : Code} {X : Wx} {r : Unit} {S' : Mm} (hc : Cx p s m args meth c X cX7_takeDraft 2 RX7) (hr : meth.sig.returnType = none)   : ∀ (n : Nat), ∀ (x1 : Int32) (S : Mm) (H : Heap) (locs : List Loc) (ls : Array Slot), Wd X s.heap S H locs → lv_has ls 2 [(0, .ref (X.1 + 163)), (1, .int x1)] → f_X7_takeDraft_26 n x1 S = some (r, S') → W p l e rm_X7_takeDraft s m args below meth c H locs 0 0 (MQ below (Qq X none S') args s 0 0 (AA X.1)) (F0 m 26 ls []) := by
  have hx := hc.1
  have hb := hc.2.1
  intro n
  induction n with
  | zero => intro x1 S H locs ls hw hl h; cases h
  | succ n ih =>
    intro x1 S H locs ls hw hl h
    rw [f_X7_takeDraft_26] at h
    refine lv_iload_n hx hb dX7_takeDraft_26 rfl (lv_at hl 1 rfl) ?_
    refine lv_bipush (v := 20) hx hb dX7_takeDraft_27 (by decide) ?_
    refine lv_icmp_ge (tgt := 45) hx hb dX7_takeDraft_29 (by decide) (fun c1 => ?_) (fun c1 => ?_)
    · have h := ifT c1 h
      refine lv_iconst (v := 0) hx hb dX7_takeDraft_45 (by decide) ?_
      refine lv_istore_n (lv' := [(1, .int 0), (0, .ref (X.1 + 163))]) hx hb dX7_takeDraft_46 rfl hl (by decide) rfl (fun ls hl => ?_)
      exact w_X7_takeDraft_47 hc hr 400 0 S _ _ _ hw (lv_sub hl [1, 0] rfl) h
    · have h := ifF c1 h
      refine lv_aload_n hx hb dX7_takeDraft_32 rfl (lv_at hl 0 rfl) ?_
      refine r_get7 hc hw k163 16 (by decide) (v := .ref (X.1 + 172)) rfl q3_144 dX7_takeDraft_33 ?_
      refine lv_iload_n hx hb dX7_takeDraft_36 rfl (lv_at hl 1 rfl) ?_
      refine lv_iconst (v := 0) hx hb dX7_takeDraft_37 (by decide) ?_
      obtain ⟨b2, h⟩ := bnd_some h
      obtain ⟨S3, e4, h⟩ := nm_some h
      refine r_iast hc hw k172 (inL b2 l172) e4 dX7_takeDraft_38 (fun H locs hw => ?_)
      obtain ⟨v5, e6, h⟩ := nm_some h
      refine lv_iinc (v := v5) (lv' := [(1, .int v5), (0, .ref (X.1 + 163))]) hx hb dX7_takeDraft_39 hl (k := 1) rfl (by rw [e6]; rfl) (by decide) rfl (fun ls hl => ?_)
      refine lv_goto (tgt := 26) hx hb dX7_takeDraft_42 (by decide) ?_
      exact ih v5 S3 _ _ _ hw (lv_sub hl [1, 0] rfl) h
set_option maxRecDepth 20000 in
theorem c_X7_takeDraft (l : Launch) (X : Wx) {S S' : Mm} {r : Unit}   (h : f_X7_takeDraft S = some (r, S')) : Ct l X yX7_takeDraft cX7_takeDraft 2 none rm_X7_takeDraft [.ref (X.1 + 163)] S none S' := by
  refine r_entry (by decide) (Nat.le_of_ble_eq_true rfl) ?_
  intro p e s m args below meth c ls hc hr hw hl
  have hc : Cx p s m args meth c X cX7_takeDraft 2 RX7 := hc
  have hl : lv_has ls 2 [(0, .ref (X.1 + 163))] := hl
  have hx := hc.1
  have hb := hc.2.1
  unfold f_X7_takeDraft at h
  refine lv_aload_n hx hb dX7_takeDraft_0 rfl (lv_at hl 0 rfl) ?_
  refine r_get7 hc hw k163 3 (by decide) (v := .ref (X.1 + 165)) rfl q3_131 dX7_takeDraft_1 ?_
  refine lv_iconst (v := 0) hx hb dX7_takeDraft_4 (by decide) ?_
  refine lv_aload_n hx hb dX7_takeDraft_5 rfl (lv_at hl 0 rfl) ?_
  refine r_get7 hc hw k163 3 (by decide) (v := .ref (X.1 + 165)) rfl q3_131 dX7_takeDraft_6 ?_
  refine lv_iconst (v := 1) hx hb dX7_takeDraft_9 (by decide) ?_
  obtain ⟨b1, h⟩ := bnd_some h
  refine r_iald hc hw k165 (inL b1 l165) dX7_takeDraft_10 ?_
  obtain ⟨b2, h⟩ := bnd_some h
  obtain ⟨S3, e4, h⟩ := nm_some h
  refine r_iast hc hw k165 (inL b2 l165) e4 dX7_takeDraft_11 (fun H locs hw => ?_)
  refine lv_aload_n hx hb dX7_takeDraft_12 rfl (lv_at hl 0 rfl) ?_
  refine r_get7 hc hw k163 9 (by decide) (v := .ref (X.1 + 171)) rfl q3_137 dX7_takeDraft_13 ?_
  refine lv_iconst (v := 0) hx hb dX7_takeDraft_16 (by decide) ?_
  refine lv_aload_n hx hb dX7_takeDraft_17 rfl (lv_at hl 0 rfl) ?_
  refine r_get7 hc hw k163 9 (by decide) (v := .ref (X.1 + 171)) rfl q3_137 dX7_takeDraft_18 ?_
  refine lv_iconst (v := 1) hx hb dX7_takeDraft_21 (by decide) ?_
  obtain ⟨b5, h⟩ := bnd_some h
  refine r_iald hc hw k171 (inL b5 l171) dX7_takeDraft_22 ?_
  obtain ⟨b6, h⟩ := bnd_some h
  obtain ⟨S7, e8, h⟩ := nm_some h
  refine r_iast hc hw k171 (inL b6 l171) e8 dX7_takeDraft_23 (fun H locs hw => ?_)
  refine lv_iconst (v := 0) hx hb dX7_takeDraft_24 (by decide) ?_
  refine lv_istore_n (lv' := [(1, .int 0), (0, .ref (X.1 + 163))]) hx hb dX7_takeDraft_25 rfl hl (by decide) rfl (fun ls hl => ?_)
  exact w_X7_takeDraft_26 hc hr 400 0 S7 _ _ _ hw (lv_sub hl [1, 0] rfl) h
abbrev rm_X7_shop : Room := { frames := 5, cells := 0, slots := 0, locals := 111 }
theorem ms_X7_shop : MsV yX7_shop cX7_shop 3 (some .int) 0 := ⟨⟨q3_237, q1_8, by decide, by decide, by decide⟩, q3_235, q3_236⟩
set_option maxRecDepth 20000 in
theorem w_X7_shop_91 {p : Program} {l : Launch} {e : Env} {s : State} {m : MethodId} {args : Array Value} {below : List Frame} {meth : Method} {c : Code} {X : Wx} {r : Int32} {S' : Mm} (hc : Cx p s m args meth c X cX7_shop 3 RX7) (hr : meth.sig.returnType = (some .int))   : ∀ (x1 : Int32) (S : Mm) (H : Heap) (locs : List Loc) (ls : Array Slot), Wd X s.heap S H locs → lv_has ls 3 [(0, .ref (X.1 + 163)), (1, .int x1)] → f_X7_shop_91 x1 S = some (r, S') → W p l e rm_X7_shop s m args below meth c H locs 0 0 (MQ below (Qq X (some (.int r)) S') args s 0 0 (AA X.1)) (F0 m 91 ls []) := by
  have hx := hc.1
  have hb := hc.2.1
  intro x1 S H locs ls hw hl h
  unfold f_X7_shop_91 at h
  refine lv_aload_n hx hb dX7_shop_91 rfl (lv_at hl 0 rfl) ?_
  refine r_get7 hc hw k163 15 (by decide) (v := .int (gI S 163 15)) rfl q3_143 dX7_shop_92 ?_
  refine lv_bipush (v := (-9)) hx hb dX7_shop_95 (by decide) ?_
  refine lv_icmp_eq (tgt := 108) hx hb dX7_shop_97 (by decide) (fun c1 => ?_) (fun c1 => ?_)
  · have h := ifT c1 h
    refine lv_aload_n hx hb dX7_shop_108 rfl (lv_at hl 0 rfl) ?_
    obtain ⟨r2, S3, h4, h⟩ := bd_some h
    refine r_callV7v hc hw hl.1 (As := []) (rest := []) k163 (c_X7_takeDraft l X  h4) ms_X7_takeDraft rfl q3_124 rfl rfl ⟨rfl, rfl, Nat.le_of_ble_eq_true rfl, Nat.le_of_ble_eq_true rfl⟩ (Nat.le_of_ble_eq_true rfl) ⟨Nat.zero_le _, Nat.zero_le _⟩ dX7_shop_109 (fun H locs hw => ?_)
    refine lv_aload_n hx hb dX7_shop_112 rfl (lv_at hl 0 rfl) ?_
    refine lv_iconst (v := 0) hx hb dX7_shop_113 (by decide) ?_
    obtain ⟨S5, e6, h⟩ := nm_some h
    refine r_put7_2 hc hw k163 e6 q3_130 dX7_shop_114 (fun H locs hw => ?_)
    refine lv_iload_n hx hb dX7_shop_117 rfl (lv_at hl 1 rfl) ?_
    obtain ⟨rfl, rfl⟩ := sm_inj h
    exact r_iret hc hr hw dX7_shop_118
  · have h := ifF c1 h
    refine lv_bipush (v := (-10)) hx hb dX7_shop_100 (by decide) ?_
    refine lv_aload_n hx hb dX7_shop_102 rfl (lv_at hl 0 rfl) ?_
    refine r_get7 hc hw k163 15 (by decide) (v := .int (gI S 163 15)) rfl q3_143 dX7_shop_103 ?_
    refine lv_isub hx hb dX7_shop_106 ?_
    obtain ⟨rfl, rfl⟩ := sm_inj h
    exact r_iret hc hr hw dX7_shop_107
set_option maxRecDepth 20000 in
theorem w_X7_shop_21 {p : Program} {l : Launch} {e : Env} {s : State} {m : MethodId} {args : Array Value} {below : List Frame} {meth : Method} {c : Code} {X : Wx} {r : Int32} {S' : Mm} (hc : Cx p s m args meth c X cX7_shop 3 RX7) (hr : meth.sig.returnType = (some .int))   : ∀ (n : Nat), ∀ (x1 : Int32) (S : Mm) (H : Heap) (locs : List Loc) (ls : Array Slot), Wd X s.heap S H locs → lv_has ls 3 [(0, .ref (X.1 + 163)), (1, .int x1)] → f_X7_shop_21 n x1 S = some (r, S') → W p l e rm_X7_shop s m args below meth c H locs 0 0 (MQ below (Qq X (some (.int r)) S') args s 0 0 (AA X.1)) (F0 m 21 ls []) := by
  have hx := hc.1
  have hb := hc.2.1
  intro n
  induction n with
  | zero => intro x1 S H locs ls hw hl h; cases h
  | succ n ih =>
    intro x1 S H locs ls hw hl h
    rw [f_X7_shop_21] at h
    refine lv_aload_n hx hb dX7_shop_21 rfl (lv_at hl 0 rfl) ?_
    refine r_get7 hc hw k163 15 (by decide) (v := .int (gI S 163 15)) rfl q3_143 dX7_shop_22 ?_
    refine lv_bipush (v := (-9)) hx hb dX7_shop_25 (by decide) ?_
    refine lv_icmp_ne (tgt := 91) hx hb dX7_shop_27 (by decide) (fun c1 => ?_) (fun c1 => ?_)
    · have h := ifF c1 h
      exact w_X7_shop_91 hc hr x1 S _ _ _ hw (lv_sub hl [0, 1] rfl) h
    · have h := ifT c1 h
      refine lv_aload_n hx hb dX7_shop_30 rfl (lv_at hl 0 rfl) ?_
      refine r_get7 hc hw k163 13 (by decide) (v := .int (gI S 163 13)) rfl q3_141 dX7_shop_31 ?_
      refine lv_iconst (v := 3) hx hb dX7_shop_34 (by decide) ?_
      refine lv_icmp_eq (tgt := 91) hx hb dX7_shop_35 (by decide) (fun c2 => ?_) (fun c2 => ?_)
      · have h := ifT c2 h
        exact w_X7_shop_91 hc hr x1 S _ _ _ hw (lv_sub hl [0, 1] rfl) h
      · have h := ifF c2 h
        refine lv_aload_n hx hb dX7_shop_38 rfl (lv_at hl 0 rfl) ?_
        refine r_get7 hc hw k163 13 (by decide) (v := .int (gI S 163 13)) rfl q3_141 dX7_shop_39 ?_
        obtain ⟨v3, e4, h⟩ := nm_some h
        refine r_top e4 ?_
        refine lv_istore_n (lv' := [(2, .int v3), (0, .ref (X.1 + 163)), (1, .int x1)]) hx hb dX7_shop_42 rfl hl (by decide) rfl (fun ls hl => ?_)
        refine lv_aload_n hx hb dX7_shop_43 rfl (lv_at hl 1 rfl) ?_
        refine lv_aload_n hx hb dX7_shop_44 rfl (lv_at hl 1 rfl) ?_
        refine lv_iload_n hx hb dX7_shop_45 rfl (lv_at hl 0 rfl) ?_
        obtain ⟨r5, S6, h7, h⟩ := bd_some h
        refine r_callV7i hc hw hl.1 (As := [.int v3]) (rest := [.ref (X.1 + 163)]) k163 (c_X7_mayBe l X  h7) ms_X7_mayBe rfl q4_6 rfl rfl ⟨rfl, rfl, Nat.le_of_ble_eq_true rfl, Nat.le_of_ble_eq_true rfl⟩ (Nat.le_of_ble_eq_true rfl) ⟨Nat.zero_le _, Nat.zero_le _⟩ dX7_shop_46 (fun H locs hw => ?_)
        obtain ⟨r8, S9, h10, h⟩ := bd_some h
        refine r_callV7i hc hw hl.1 (As := [.int r5]) (rest := []) k163 (c_X7_due l X  h10) ms_X7_due rfl q4_10 rfl rfl ⟨rfl, rfl, Nat.le_of_ble_eq_true rfl, Nat.le_of_ble_eq_true rfl⟩ (Nat.le_of_ble_eq_true rfl) ⟨Nat.zero_le _, Nat.zero_le _⟩ dX7_shop_49 (fun H locs hw => ?_)
        refine lv_pop hx hb dX7_shop_52 rfl ?_
        refine lv_aload_n hx hb dX7_shop_53 rfl (lv_at hl 1 rfl) ?_
        refine r_get7 hc hw k163 15 (by decide) (v := .int (gI S9 163 15)) rfl q3_143 dX7_shop_54 ?_
        refine lv_bipush (v := (-9)) hx hb dX7_shop_57 (by decide) ?_
        refine lv_icmp_ne (tgt := 88) hx hb dX7_shop_59 (by decide) (fun c11 => ?_) (fun c11 => ?_)
        · have h := ifF c11 h
          refine lv_goto (tgt := 21) hx hb dX7_shop_88 (by decide) ?_
          exact ih x1 S9 _ _ _ hw (lv_sub hl [1, 2] rfl) h
        · have h := ifT c11 h
          refine lv_aload_n hx hb dX7_shop_62 rfl (lv_at hl 1 rfl) ?_
          refine lv_iload_n hx hb dX7_shop_63 rfl (lv_at hl 0 rfl) ?_
          obtain ⟨r12, S13, h14, h⟩ := bd_some h
          refine r_callV7v hc hw hl.1 (As := [.int v3]) (rest := []) k163 (c_X7_readRow l X  h14) ms_X7_readRow rfl q4_14 rfl rfl ⟨rfl, rfl, Nat.le_of_ble_eq_true rfl, Nat.le_of_ble_eq_true rfl⟩ (Nat.le_of_ble_eq_true rfl) ⟨Nat.zero_le _, Nat.zero_le _⟩ dX7_shop_64 (fun H locs hw => ?_)
          refine lv_aload_n hx hb dX7_shop_67 rfl (lv_at hl 1 rfl) ?_
          refine lv_aload_n hx hb dX7_shop_68 rfl (lv_at hl 1 rfl) ?_
          refine r_get7 hc hw k163 13 (by decide) (v := .int (gI S13 163 13)) rfl q3_141 dX7_shop_69 ?_
          refine lv_iconst (v := 2) hx hb dX7_shop_72 (by decide) ?_
          refine lv_icmp_ne (tgt := 80) hx hb dX7_shop_73 (by decide) (fun c15 => ?_) (fun c15 => ?_)
          · have h := ifF c15 h
            refine lv_iconst (v := 0) hx hb dX7_shop_80 (by decide) ?_
            obtain ⟨r16, S17, h18, h⟩ := bd_some h
            refine r_callV7i hc hw hl.1 (As := [.int 0]) (rest := []) k163 (c_X7_due l X  h18) ms_X7_due rfl q4_10 rfl rfl ⟨rfl, rfl, Nat.le_of_ble_eq_true rfl, Nat.le_of_ble_eq_true rfl⟩ (Nat.le_of_ble_eq_true rfl) ⟨Nat.zero_le _, Nat.zero_le _⟩ dX7_shop_81 (fun H locs hw => ?_)
            refine lv_pop hx hb dX7_shop_84 rfl ?_
            obtain ⟨v19, e20, h⟩ := nm_some h
            refine lv_iinc (v := v19) (lv' := [(1, .int v19), (2, .int v3), (0, .ref (X.1 + 163))]) hx hb dX7_shop_85 hl (k := 2) rfl (by rw [e20]; rfl) (by decide) rfl (fun ls hl => ?_)
            refine lv_goto (tgt := 21) hx hb dX7_shop_88 (by decide) ?_
            exact ih v19 S17 _ _ _ hw (lv_sub hl [2, 0] rfl) h
          · have h := ifT c15 h
            refine lv_iconst (v := 1) hx hb dX7_shop_76 (by decide) ?_
            refine lv_goto (tgt := 81) hx hb dX7_shop_77 (by decide) ?_
            obtain ⟨r21, S22, h23, h⟩ := bd_some h
            refine r_callV7i hc hw hl.1 (As := [.int 1]) (rest := []) k163 (c_X7_due l X  h23) ms_X7_due rfl q4_10 rfl rfl ⟨rfl, rfl, Nat.le_of_ble_eq_true rfl, Nat.le_of_ble_eq_true rfl⟩ (Nat.le_of_ble_eq_true rfl) ⟨Nat.zero_le _, Nat.zero_le _⟩ dX7_shop_81 (fun H locs hw => ?_)
            refine lv_pop hx hb dX7_shop_84 rfl ?_
            obtain ⟨v24, e25, h⟩ := nm_some h
            refine lv_iinc (v := v24) (lv' := [(1, .int v24), (2, .int v3), (0, .ref (X.1 + 163))]) hx hb dX7_shop_85 hl (k := 2) rfl (by rw [e25]; rfl) (by decide) rfl (fun ls hl => ?_)
            refine lv_goto (tgt := 21) hx hb dX7_shop_88 (by decide) ?_
            exact ih v24 S22 _ _ _ hw (lv_sub hl [2, 0] rfl) h
set_option maxRecDepth 20000 in
theorem c_X7_shop (l : Launch) (X : Wx) {S S' : Mm} {r : Int32}   (h : f_X7_shop S = some (r, S')) : Ct l X yX7_shop cX7_shop 3 (some .int) rm_X7_shop [.ref (X.1 + 163)] S (some (.int r)) S' := by
  refine r_entry (by decide) (Nat.le_of_ble_eq_true rfl) ?_
  intro p e s m args below meth c ls hc hr hw hl
  have hc : Cx p s m args meth c X cX7_shop 3 RX7 := hc
  have hl : lv_has ls 3 [(0, .ref (X.1 + 163))] := hl
  have hx := hc.1
  have hb := hc.2.1
  unfold f_X7_shop at h
  refine lv_aload_n hx hb dX7_shop_0 rfl (lv_at hl 0 rfl) ?_
  refine lv_iconst (v := 0) hx hb dX7_shop_1 (by decide) ?_
  obtain ⟨S1, e2, h⟩ := nm_some h
  refine r_put7_11 hc hw k163 e2 q3_139 dX7_shop_2 (fun H locs hw => ?_)
  refine lv_aload_n hx hb dX7_shop_5 rfl (lv_at hl 0 rfl) ?_
  refine lv_bipush (v := (-9)) hx hb dX7_shop_6 (by decide) ?_
  obtain ⟨S3, e4, h⟩ := nm_some h
  refine r_put7_15 hc hw k163 e4 q3_143 dX7_shop_8 (fun H locs hw => ?_)
  refine lv_aload_n hx hb dX7_shop_11 rfl (lv_at hl 0 rfl) ?_
  obtain ⟨r5, S6, h7, h⟩ := bd_some h
  refine r_callV7v hc hw hl.1 (As := []) (rest := []) k163 (c_X7_plain l X  h7) ms_X7_plain rfl q3_120 rfl rfl ⟨rfl, rfl, Nat.le_of_ble_eq_true rfl, Nat.le_of_ble_eq_true rfl⟩ (Nat.le_of_ble_eq_true rfl) ⟨Nat.zero_le _, Nat.zero_le _⟩ dX7_shop_12 (fun H locs hw => ?_)
  refine lv_iconst (v := 0) hx hb dX7_shop_15 (by decide) ?_
  refine lv_istore_n (lv' := [(1, .int 0), (0, .ref (X.1 + 163))]) hx hb dX7_shop_16 rfl hl (by decide) rfl (fun ls hl => ?_)
  refine lv_aload_n hx hb dX7_shop_17 rfl (lv_at hl 1 rfl) ?_
  obtain ⟨r8, S9, h10, h⟩ := bd_some h
  refine r_callV7v hc hw hl.1 (As := []) (rest := []) k163 (c_X7_read l X  h10) ms_X7_read rfl q3_238 rfl rfl ⟨rfl, rfl, Nat.le_of_ble_eq_true rfl, Nat.le_of_ble_eq_true rfl⟩ (Nat.le_of_ble_eq_true rfl) ⟨Nat.zero_le _, Nat.zero_le _⟩ dX7_shop_18 (fun H locs hw => ?_)
  exact w_X7_shop_21 hc hr 400 0 S9 _ _ _ hw (lv_sub hl [1, 0] rfl) h
abbrev rm_X7_skill : Room := { frames := 2, cells := 0, slots := 0, locals := 43 }
theorem ms_X7_skill : MsV yX7_skill cX7_skill 4 (some .int) 2 := ⟨⟨q4_70, q1_8, by decide, by decide, by decide⟩, q4_68, q4_69⟩
set_option maxRecDepth 20000 in
theorem c_X7_skill (l : Launch) (X : Wx) {S S' : Mm} {r : Int32} {x1 : Int32} {x2 : Int32}  (h : f_X7_skill S x1 x2 = some (r, S')) : Ct l X yX7_skill cX7_skill 4 (some .int) rm_X7_skill [.ref (X.1 + 163), .int x1, .int x2] S (some (.int r)) S' := by
  refine r_entry (by decide) (Nat.le_of_ble_eq_true rfl) ?_
  intro p e s m args below meth c ls hc hr hw hl
  have hc : Cx p s m args meth c X cX7_skill 4 RX7 := hc
  have hl : lv_has ls 4 [(0, .ref (X.1 + 163)), (1, .int x1), (2, .int x2)] := hl
  have hx := hc.1
  have hb := hc.2.1
  unfold f_X7_skill at h
  refine lv_aload_n hx hb dX7_skill_0 rfl (lv_at hl 0 rfl) ?_
  refine lv_iload_n hx hb dX7_skill_1 rfl (lv_at hl 1 rfl) ?_
  obtain ⟨r1, S2, h3, h⟩ := bd_some h
  refine r_callV7i hc hw hl.1 (As := [.int x1]) (rest := []) k163 (c_X7_isStep l X  h3) ms_X7_isStep rfl q4_26 rfl rfl ⟨rfl, rfl, Nat.le_of_ble_eq_true rfl, Nat.le_of_ble_eq_true rfl⟩ (Nat.le_of_ble_eq_true rfl) ⟨Nat.zero_le _, Nat.zero_le _⟩ dX7_skill_2 (fun H locs hw => ?_)
  refine lv_if_eq (tgt := 18) hx hb dX7_skill_5 (by decide) (fun c4 => ?_) (fun c4 => ?_)
  · have h := ifT c4 h
    refine lv_iconst (v := (-1)) hx hb dX7_skill_18 (by decide) ?_
    obtain ⟨rfl, rfl⟩ := sm_inj h
    exact r_iret hc hr hw dX7_skill_19
  · have h := ifF c4 h
    refine lv_iload_n hx hb dX7_skill_8 rfl (lv_at hl 2 rfl) ?_
    refine lv_iconst (v := 0) hx hb dX7_skill_9 (by decide) ?_
    refine lv_bipush (v := 9) hx hb dX7_skill_10 (by decide) ?_
    obtain ⟨r5, S6, h7, h⟩ := bd_some h
    refine r_callSi hc hw hl.1 (As := [.int x2, .int 0, .int 9]) (rest := []) (c_X7_in l X  h7) ms_X7_in q3_227 rfl rfl ⟨rfl, rfl, Nat.le_of_ble_eq_true rfl, Nat.le_of_ble_eq_true rfl⟩ (Nat.le_of_ble_eq_true rfl) ⟨Nat.zero_le _, Nat.zero_le _⟩ dX7_skill_12 (fun H locs hw => ?_)
    refine lv_if_ne (tgt := 20) hx hb dX7_skill_15 (by decide) (fun c8 => ?_) (fun c8 => ?_)
    · have h := ifF c8 h
      refine lv_aload_n hx hb dX7_skill_20 rfl (lv_at hl 0 rfl) ?_
      obtain ⟨r9, S10, h11, h⟩ := bd_some h
      refine r_callV7v hc hw hl.1 (As := []) (rest := []) k163 (c_X7_know l X  h11) ms_X7_know rfl q4_45 rfl rfl ⟨rfl, rfl, Nat.le_of_ble_eq_true rfl, Nat.le_of_ble_eq_true rfl⟩ (Nat.le_of_ble_eq_true rfl) ⟨Nat.zero_le _, Nat.zero_le _⟩ dX7_skill_21 (fun H locs hw => ?_)
      refine lv_aload_n hx hb dX7_skill_24 rfl (lv_at hl 0 rfl) ?_
      refine r_get7 hc hw k163 16 (by decide) (v := .ref (X.1 + 172)) rfl q3_144 dX7_skill_25 ?_
      refine lv_iconst (v := 5) hx hb dX7_skill_28 (by decide) ?_
      refine lv_iload_n hx hb dX7_skill_29 rfl (lv_at hl 1 rfl) ?_
      refine lv_iadd hx hb dX7_skill_30 ?_
      obtain ⟨b12, h⟩ := bnd_some h
      refine r_iald hc hw k172 (inL b12 l172) dX7_skill_31 ?_
      obtain ⟨v13, e14, h⟩ := nm_some h
      refine r_top e14 ?_
      refine lv_istore_n (lv' := [(3, .int v13), (0, .ref (X.1 + 163)), (1, .int x1), (2, .int x2)]) hx hb dX7_skill_32 rfl hl (by decide) rfl (fun ls hl => ?_)
      refine lv_aload_n hx hb dX7_skill_33 rfl (lv_at hl 1 rfl) ?_
      refine r_get7 hc hw k163 16 (by decide) (v := .ref (X.1 + 172)) rfl q3_144 dX7_skill_34 ?_
      refine lv_iconst (v := 5) hx hb dX7_skill_37 (by decide) ?_
      refine lv_iload_n hx hb dX7_skill_38 rfl (lv_at hl 2 rfl) ?_
      refine lv_iadd hx hb dX7_skill_39 ?_
      refine lv_iload_n hx hb dX7_skill_40 rfl (lv_at hl 3 rfl) ?_
      obtain ⟨b15, h⟩ := bnd_some h
      obtain ⟨S16, e17, h⟩ := nm_some h
      refine r_iast hc hw k172 (inL b15 l172) e17 dX7_skill_41 (fun H locs hw => ?_)
      refine lv_iload_n hx hb dX7_skill_42 rfl (lv_at hl 0 rfl) ?_
      obtain ⟨rfl, rfl⟩ := sm_inj h
      exact r_iret hc hr hw dX7_skill_43
    · have h := ifT c8 h
      refine lv_iconst (v := (-1)) hx hb dX7_skill_18 (by decide) ?_
      obtain ⟨rfl, rfl⟩ := sm_inj h
      exact r_iret hc hr hw dX7_skill_19
