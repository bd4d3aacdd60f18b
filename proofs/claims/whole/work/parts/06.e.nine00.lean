set_option maxRecDepth 100000 in
set_option maxHeartbeats 4000000 in
theorem c_X6_village (l : Launch) (D : va_G) (cy : Nat → ClassId) (ad : Nat → Nat) (A : Nat → Prop) (σ : nG) (c : nCs) (hx_C : gC σ = c) (a1 : Int32) (a2 : Int32) (a3 : Int32) (q : Int32 × nCs) (hf : f_X6_village c a1 a2 a3 = some q) (σ' : nG) (hσ : (sC σ q.2) = σ') : nn_I l yX6_village (nn_ws yX6_village cX6_village 4 (some .int)) (nn_R 2) D cy ad A [.ref (ad (118)), .int (a1), .int (a2), .int (a3)] σ q.1 σ' := by
  refine nn_enterI (plainFor_of_name (by decide +kernel)) (Nat.le_of_ble_eq_true rfl) (lv := [(0, .ref (ad (118))), (1, .int (a1)), (2, .int (a2)), (3, .int (a3))]) rfl ?_
  intro pp ee ss mm bb me co S hr hlk hK hw ls hl
  have hx := S.1
  have hb := S.2.1
  have hw : nn_W D cy ad A ss.heap (sC σ c) ss.heap [] := nn_W.eq (by rw [← hx_C]; rfl) hw
  unfold f_X6_village at hf
  refine lv_iload_n hx hb dX6_village_0 rfl (lv_at hl 1 rfl) ?_
  refine lv_iconst (v := 0) hx hb dX6_village_1 (by decide) ?_
  refine lv_iconst (v := 4) hx hb dX6_village_2 (by decide) ?_
  obtain ⟨q_1, h_2, hf⟩ := nn_bind hf
  refine nn_calliS S (As := [.int (a1), .int ((0 : Int32)), .int ((4 : Int32))]) (rest := []) (c_X6_within l D cy ad A (sC σ c) a1 (0 : Int32) (4 : Int32) q_1 h_2) mv_X6_within tb_1_200 hK hw ⟨Nat.le_of_ble_eq_true rfl, Nat.le_of_ble_eq_true rfl⟩ ⟨Nat.zero_le _, Nat.zero_le _⟩ rfl hl.1 rfl (Nat.le_of_ble_eq_true rfl) dX6_village_3 (fun H locs hw => ?_)
  refine lv_if_eq (tgt := 27) hx hb dX6_village_6 (by decide) (fun c_3 => ?_) (fun c_3 => ?_)
  · rw [if_pos c_3] at hf
    refine lv_iconst (v := -1) hx hb dX6_village_27 (by decide) ?_
    obtain rfl := Option.some.inj hf
    exact nn_iret S hr hlk hw rfl hσ dX6_village_28
  · rw [if_neg c_3] at hf
    refine lv_iload_n hx hb dX6_village_9 rfl (lv_at hl 2 rfl) ?_
    obtain ⟨q_4, h_5, hf⟩ := nn_bind hf
    refine nn_calliS S (As := [.int (a2)]) (rest := []) (c_X6_isMinute l D cy ad A (sC σ c) a2 q_4 h_5) mv_X6_isMinute tb_1_203 hK hw ⟨Nat.le_of_ble_eq_true rfl, Nat.le_of_ble_eq_true rfl⟩ ⟨Nat.zero_le _, Nat.zero_le _⟩ rfl hl.1 rfl (Nat.le_of_ble_eq_true rfl) dX6_village_10 (fun H locs hw => ?_)
    refine lv_if_eq (tgt := 27) hx hb dX6_village_13 (by decide) (fun c_6 => ?_) (fun c_6 => ?_)
    · rw [if_pos c_6] at hf
      refine lv_iconst (v := -1) hx hb dX6_village_27 (by decide) ?_
      obtain rfl := Option.some.inj hf
      exact nn_iret S hr hlk hw rfl hσ dX6_village_28
    · rw [if_neg c_6] at hf
      refine lv_iload_n hx hb dX6_village_16 rfl (lv_at hl 3 rfl) ?_
      refine lv_bipush (v := -9) hx hb dX6_village_17 (by decide) ?_
      refine lv_bipush (v := 9) hx hb dX6_village_19 (by decide) ?_
      obtain ⟨q_7, h_8, hf⟩ := nn_bind hf
      refine nn_calliS S (As := [.int (a3), .int ((-9 : Int32)), .int ((9 : Int32))]) (rest := []) (c_X6_within l D cy ad A (sC σ c) a3 (-9 : Int32) (9 : Int32) q_7 h_8) mv_X6_within tb_1_200 hK hw ⟨Nat.le_of_ble_eq_true rfl, Nat.le_of_ble_eq_true rfl⟩ ⟨Nat.zero_le _, Nat.zero_le _⟩ rfl hl.1 rfl (Nat.le_of_ble_eq_true rfl) dX6_village_21 (fun H locs hw => ?_)
      refine lv_if_ne (tgt := 29) hx hb dX6_village_24 (by decide) (fun c_9 => ?_) (fun c_9 => ?_)
      · rw [if_neg c_9] at hf
        refine lv_aload_n hx hb dX6_village_29 rfl (lv_at hl 0 rfl) ?_
        refine gf_Nn_now S hK hw tb_1_165 dX6_village_30 ?_
        refine gf_Vl_villages S hK hw (v := 0) (by decide) (x := (cV c 0)) rfl tb_1_40 dX6_village_33 ?_
        refine lv_bipush (v := 6) hx hb dX6_village_36 (by decide) ?_
        refine lv_icmp_lt (tgt := 44) hx hb dX6_village_38 (by decide) (fun c_10 => ?_) (fun c_10 => ?_)
        · rw [if_pos c_10] at hf
          refine lv_aload_n hx hb dX6_village_44 rfl (lv_at hl 0 rfl) ?_
          refine gf_Nn_now S hK hw tb_1_165 dX6_village_45 ?_
          refine lv_iload_n hx hb dX6_village_48 rfl (lv_at hl 1 rfl) ?_
          refine lv_iload_n hx hb dX6_village_49 rfl (lv_at hl 2 rfl) ?_
          refine lv_iload_n hx hb dX6_village_50 rfl (lv_at hl 3 rfl) ?_
          refine lv_iconst (v := 0) hx hb dX6_village_51 (by decide) ?_
          obtain ⟨q_11, h_12, hf⟩ := nn_bind hf
          refine nn_callvV S (As := [.int (a1), .int (a2), .int (a3), .int ((0 : Int32))]) (rest := []) (ce_V (k := 0) (v := 0) (by decide) (by decide)) (by omega) rfl rfl (c_X5_build l D cy ad A (sC σ c) 0 (by decide) (cV c 0) rfl a1 a2 a3 (0 : Int32) q_11 h_12 (sC σ (cVs c 0 q_11)) rfl) mv_X5_build tb_1_206 hK hw ⟨Nat.le_of_ble_eq_true rfl, Nat.le_of_ble_eq_true rfl⟩ ⟨Nat.zero_le _, Nat.zero_le _⟩ rfl hl.1 rfl (Nat.le_of_ble_eq_true rfl) dX6_village_52 (fun H locs hw => ?_)
          refine lv_aload_n hx hb dX6_village_55 rfl (lv_at hl 0 rfl) ?_
          refine gf_Nn_history S hK hw tb_1_166 dX6_village_56 ?_
          obtain ⟨q_13, h_14, hf⟩ := nn_bind hf
          refine nn_callvV S (As := []) (rest := []) (ce_H (k := 0) (v := 0) (by decide) (by decide)) (by omega) rfl rfl (c_X1_forget l D cy ad A (sC σ (cVs c 0 q_11)) 0 (by decide) (cVs c 0 q_11) rfl q_13 h_14 (sC σ q_13) rfl) mv_X1_forget tb_1_210 hK hw ⟨Nat.le_of_ble_eq_true rfl, Nat.le_of_ble_eq_true rfl⟩ ⟨Nat.zero_le _, Nat.zero_le _⟩ rfl hl.1 rfl (Nat.le_of_ble_eq_true rfl) dX6_village_59 (fun H locs hw => ?_)
          refine lv_aload_n hx hb dX6_village_62 rfl (lv_at hl 0 rfl) ?_
          refine gf_Nn_now S hK hw tb_1_165 dX6_village_63 ?_
          refine gf_Vl_villages S hK hw (v := 0) (by decide) (x := (cV q_13 0)) rfl tb_1_40 dX6_village_66 ?_
          refine lv_iconst (v := 1) hx hb dX6_village_69 (by decide) ?_
          refine lv_isub hx hb dX6_village_70 ?_
          obtain rfl := Option.some.inj hf
          exact nn_iret S hr hlk hw rfl hσ dX6_village_71
        · rw [if_neg c_10] at hf
          refine lv_bipush (v := -3) hx hb dX6_village_41 (by decide) ?_
          obtain rfl := Option.some.inj hf
          exact nn_iret S hr hlk hw rfl hσ dX6_village_43
      · rw [if_pos c_9] at hf
        refine lv_iconst (v := -1) hx hb dX6_village_27 (by decide) ?_
        obtain rfl := Option.some.inj hf
        exact nn_iret S hr hlk hw rfl hσ dX6_village_28
set_option maxRecDepth 100000 in
set_option maxHeartbeats 4000000 in
theorem c_X6_of (l : Launch) (D : va_G) (cy : Nat → ClassId) (ad : Nat → Nat) (A : Nat → Prop) (σ : nG) (c : nCs) (hx_C : gC σ = c) (a1 : Int32) (a2 : Int32) (q : Int32) (hf : f_X6_of c a1 a2 = some q) : nn_I l yX6_of (nn_ws yX6_of cX6_of 3 (some .int)) (nn_R 3) D cy ad A [.ref (ad (118)), .int (a1), .int (a2)] σ q σ := by
  refine nn_enterI (plainFor_of_name (by decide +kernel)) (Nat.le_of_ble_eq_true rfl) (lv := [(0, .ref (ad (118))), (1, .int (a1)), (2, .int (a2))]) rfl ?_
  intro pp ee ss mm bb me co S hr hlk hK hw ls hl
  have hx := S.1
  have hb := S.2.1
  unfold f_X6_of at hf
  refine lv_aload_n hx hb dX6_of_0 rfl (lv_at hl 0 rfl) ?_
  refine gf_Nn_now S hK hw tb_1_165 dX6_of_1 ?_
  refine lv_iload_n hx hb dX6_of_4 rfl (lv_at hl 1 rfl) ?_
  obtain ⟨q_1, h_2, hf⟩ := nn_bind hf
  refine nn_calliV S (As := [.int (a1)]) (rest := []) (ce_V (k := 0) (v := 0) (by decide) (by decide)) (by omega) rfl rfl (c_X5_has l D cy ad A σ 0 (by decide) (cV c 0) (by rw [← hx_C]; rfl) a1 q_1 h_2) mv_X5_has tb_1_218 hK hw ⟨Nat.le_of_ble_eq_true rfl, Nat.le_of_ble_eq_true rfl⟩ ⟨Nat.zero_le _, Nat.zero_le _⟩ rfl hl.1 rfl (Nat.le_of_ble_eq_true rfl) dX6_of_5 (fun H locs hw => ?_)
  refine lv_if_ne (tgt := 13) hx hb dX6_of_8 (by decide) (fun c_3 => ?_) (fun c_3 => ?_)
  · rw [if_neg c_3] at hf
    refine lv_iload_n hx hb dX6_of_13 rfl (lv_at hl 2 rfl) ?_
    by_cases c_4 : a2 = (0 : Int32)
    · rw [if_pos c_4] at hf
      refine lv_tableIn (tgt := 52) hx hb dX6_of_14 (by rw [c_4]; decide) (by rw [c_4]; decide) (by rw [c_4]; rfl) (by decide) ?_
      refine lv_aload_n hx hb dX6_of_52 rfl (lv_at hl 0 rfl) ?_
      refine gf_Nn_now S hK hw tb_1_165 dX6_of_53 ?_
      refine gf_Vl_kinds S hK hw (v := 0) (by decide) tb_1_28 dX6_of_56 ?_
      refine lv_iload_n hx hb dX6_of_59 rfl (lv_at hl 1 rfl) ?_
      obtain ⟨g_5, hf⟩ := nn_ix_some hf
      refine al_Vl_kinds S hK hw (v := 0) (by decide) (x := (cV c 0)) (by rw [← hx_C]; rfl) g_5 dX6_of_60 ?_
      obtain rfl := Option.some.inj hf
      exact nn_iret S hr hlk hw rfl rfl dX6_of_61
    · rw [if_neg c_4] at hf
      by_cases c_6 : a2 = (1 : Int32)
      · rw [if_pos c_6] at hf
        refine lv_tableIn (tgt := 62) hx hb dX6_of_14 (by rw [c_6]; decide) (by rw [c_6]; decide) (by rw [c_6]; rfl) (by decide) ?_
        refine lv_aload_n hx hb dX6_of_62 rfl (lv_at hl 0 rfl) ?_
        refine gf_Nn_now S hK hw tb_1_165 dX6_of_63 ?_
        refine gf_Vl_minutes S hK hw (v := 0) (by decide) tb_1_30 dX6_of_66 ?_
        refine lv_iload_n hx hb dX6_of_69 rfl (lv_at hl 1 rfl) ?_
        obtain ⟨g_7, hf⟩ := nn_ix_some hf
        refine al_Vl_minutes S hK hw (v := 0) (by decide) (x := (cV c 0)) (by rw [← hx_C]; rfl) g_7 dX6_of_70 ?_
        obtain rfl := Option.some.inj hf
        exact nn_iret S hr hlk hw rfl rfl dX6_of_71
      · rw [if_neg c_6] at hf
        by_cases c_8 : a2 = (2 : Int32)
        · rw [if_pos c_8] at hf
          refine lv_tableIn (tgt := 72) hx hb dX6_of_14 (by rw [c_8]; decide) (by rw [c_8]; decide) (by rw [c_8]; rfl) (by decide) ?_
          refine lv_aload_n hx hb dX6_of_72 rfl (lv_at hl 0 rfl) ?_
          refine gf_Nn_now S hK hw tb_1_165 dX6_of_73 ?_
          refine gf_Vl_drifts S hK hw (v := 0) (by decide) tb_1_34 dX6_of_76 ?_
          refine lv_iload_n hx hb dX6_of_79 rfl (lv_at hl 1 rfl) ?_
          obtain ⟨g_9, hf⟩ := nn_ix_some hf
          refine al_Vl_drifts S hK hw (v := 0) (by decide) (x := (cV c 0)) (by rw [← hx_C]; rfl) g_9 dX6_of_80 ?_
          refine lv_bipush (v := 9) hx hb dX6_of_81 (by decide) ?_
          refine lv_iadd hx hb dX6_of_83 ?_
          obtain rfl := Option.some.inj hf
          exact nn_iret S hr hlk hw rfl rfl dX6_of_84
        · rw [if_neg c_8] at hf
          by_cases c_10 : a2 = (3 : Int32)
          · rw [if_pos c_10] at hf
            refine lv_tableIn (tgt := 85) hx hb dX6_of_14 (by rw [c_10]; decide) (by rw [c_10]; decide) (by rw [c_10]; rfl) (by decide) ?_
            refine lv_aload_n hx hb dX6_of_85 rfl (lv_at hl 0 rfl) ?_
            refine gf_Nn_now S hK hw tb_1_165 dX6_of_86 ?_
            refine gf_Vl_miles S hK hw (v := 0) (by decide) tb_1_37 dX6_of_89 ?_
            refine lv_iload_n hx hb dX6_of_92 rfl (lv_at hl 1 rfl) ?_
            obtain ⟨g_11, hf⟩ := nn_ix_some hf
            refine al_Vl_miles S hK hw (v := 0) (by decide) (x := (cV c 0)) (by rw [← hx_C]; rfl) g_11 dX6_of_93 ?_
            obtain rfl := Option.some.inj hf
            exact nn_iret S hr hlk hw rfl rfl dX6_of_94
          · rw [if_neg c_10] at hf
            by_cases c_12 : a2 = (4 : Int32)
            · rw [if_pos c_12] at hf
              refine lv_tableIn (tgt := 95) hx hb dX6_of_14 (by rw [c_12]; decide) (by rw [c_12]; decide) (by rw [c_12]; rfl) (by decide) ?_
              refine lv_aload_n hx hb dX6_of_95 rfl (lv_at hl 0 rfl) ?_
              refine gf_Nn_now S hK hw tb_1_165 dX6_of_96 ?_
              refine lv_iload_n hx hb dX6_of_99 rfl (lv_at hl 1 rfl) ?_
              obtain ⟨q_13, h_14, hf⟩ := nn_bind hf
              refine nn_calliV S (As := [.int (a1)]) (rest := []) (ce_V (k := 0) (v := 0) (by decide) (by decide)) (by omega) rfl rfl (c_X5_laterBy l D cy ad A σ 0 (by decide) (cV c 0) (by rw [← hx_C]; rfl) a1 q_13 h_14) mv_X5_laterBy tb_1_222 hK hw ⟨Nat.le_of_ble_eq_true rfl, Nat.le_of_ble_eq_true rfl⟩ ⟨Nat.zero_le _, Nat.zero_le _⟩ rfl hl.1 rfl (Nat.le_of_ble_eq_true rfl) dX6_of_100 (fun H locs hw => ?_)
              refine lv_bipush (v := 30) hx hb dX6_of_103 (by decide) ?_
              refine lv_iadd hx hb dX6_of_105 ?_
              obtain rfl := Option.some.inj hf
              exact nn_iret S hr hlk hw rfl rfl dX6_of_106
            · rw [if_neg c_12] at hf
              by_cases c_15 : a2 = (5 : Int32)
              · rw [if_pos c_15] at hf
                refine lv_tableIn (tgt := 107) hx hb dX6_of_14 (by rw [c_15]; decide) (by rw [c_15]; decide) (by rw [c_15]; rfl) (by decide) ?_
                refine lv_aload_n hx hb dX6_of_107 rfl (lv_at hl 0 rfl) ?_
                refine gf_Nn_now S hK hw tb_1_165 dX6_of_108 ?_
                refine lv_iload_n hx hb dX6_of_111 rfl (lv_at hl 1 rfl) ?_
                obtain ⟨q_16, h_17, hf⟩ := nn_bind hf
                refine nn_calliV S (As := [.int (a1)]) (rest := []) (ce_V (k := 0) (v := 0) (by decide) (by decide)) (by omega) rfl rfl (c_X5_ringersWith l D cy ad A σ 0 (by decide) (cV c 0) (by rw [← hx_C]; rfl) a1 q_16 h_17) mv_X5_ringersWith tb_2_4 hK hw ⟨Nat.le_of_ble_eq_true rfl, Nat.le_of_ble_eq_true rfl⟩ ⟨Nat.zero_le _, Nat.zero_le _⟩ rfl hl.1 rfl (Nat.le_of_ble_eq_true rfl) dX6_of_112 (fun H locs hw => ?_)
                obtain rfl := Option.some.inj hf
                exact nn_iret S hr hlk hw rfl rfl dX6_of_115
              · rw [if_neg c_15] at hf
                refine lv_tableOut (tgt := 116) hx hb dX6_of_14 (nn_swout 5 (by decide) (fun k hk => by have h9 : k = 0 ∨ k = 1 ∨ k = 2 ∨ k = 3 ∨ k = 4 ∨ k = 5 := (by omega); rcases h9 with rfl | rfl | rfl | rfl | rfl | rfl <;> assumption)) (by decide) ?_
                refine lv_iconst (v := -1) hx hb dX6_of_116 (by decide) ?_
                obtain rfl := Option.some.inj hf
                exact nn_iret S hr hlk hw rfl rfl dX6_of_117
  · rw [if_pos c_3] at hf
    refine lv_iconst (v := -1) hx hb dX6_of_11 (by decide) ?_
    obtain rfl := Option.some.inj hf
    exact nn_iret S hr hlk hw rfl rfl dX6_of_12
set_option maxRecDepth 100000 in
set_option maxHeartbeats 4000000 in
theorem c_X6_gap (l : Launch) (D : va_G) (cy : Nat → ClassId) (ad : Nat → Nat) (A : Nat → Prop) (σ : nG) (c : nCs) (hx_C : gC σ = c) (a1 : Int32) (a2 : Int32) (q : Int32) (hf : f_X6_gap c a1 a2 = some q) : nn_I l yX6_gap (nn_ws yX6_gap cX6_gap 3 (some .int)) (nn_R 2) D cy ad A [.ref (ad (118)), .int (a1), .int (a2)] σ q σ := by
  refine nn_enterI (plainFor_of_name (by decide +kernel)) (Nat.le_of_ble_eq_true rfl) (lv := [(0, .ref (ad (118))), (1, .int (a1)), (2, .int (a2))]) rfl ?_
  intro pp ee ss mm bb me co S hr hlk hK hw ls hl
  have hx := S.1
  have hb := S.2.1
  unfold f_X6_gap at hf
  refine lv_aload_n hx hb dX6_gap_0 rfl (lv_at hl 0 rfl) ?_
  refine gf_Nn_now S hK hw tb_1_165 dX6_gap_1 ?_
  refine lv_iload_n hx hb dX6_gap_4 rfl (lv_at hl 1 rfl) ?_
  refine lv_iload_n hx hb dX6_gap_5 rfl (lv_at hl 2 rfl) ?_
  obtain ⟨q_1, h_2, hf⟩ := nn_bind hf
  refine nn_calliV S (As := [.int (a1), .int (a2)]) (rest := []) (ce_V (k := 0) (v := 0) (by decide) (by decide)) (by omega) rfl rfl (c_X5_hasBoth l D cy ad A σ 0 (by decide) (cV c 0) (by rw [← hx_C]; rfl) a1 a2 q_1 h_2) mv_X5_hasBoth tb_2_12 hK hw ⟨Nat.le_of_ble_eq_true rfl, Nat.le_of_ble_eq_true rfl⟩ ⟨Nat.zero_le _, Nat.zero_le _⟩ rfl hl.1 rfl (Nat.le_of_ble_eq_true rfl) dX6_gap_6 (fun H locs hw => ?_)
  refine lv_if_eq (tgt := 24) hx hb dX6_gap_9 (by decide) (fun c_3 => ?_) (fun c_3 => ?_)
  · rw [if_pos c_3] at hf
    refine lv_iconst (v := -1) hx hb dX6_gap_24 (by decide) ?_
    obtain rfl := Option.some.inj hf
    exact nn_iret S hr hlk hw rfl rfl dX6_gap_25
  · rw [if_neg c_3] at hf
    refine lv_aload_n hx hb dX6_gap_12 rfl (lv_at hl 0 rfl) ?_
    refine gf_Nn_now S hK hw tb_1_165 dX6_gap_13 ?_
    refine lv_iload_n hx hb dX6_gap_16 rfl (lv_at hl 1 rfl) ?_
    refine lv_iload_n hx hb dX6_gap_17 rfl (lv_at hl 2 rfl) ?_
    obtain ⟨q_4, h_5, hf⟩ := nn_bind hf
    refine nn_calliV S (As := [.int (a1), .int (a2)]) (rest := []) (ce_V (k := 0) (v := 0) (by decide) (by decide)) (by omega) rfl rfl (c_X5_gapBetween l D cy ad A σ 0 (by decide) (cV c 0) (by rw [← hx_C]; rfl) a1 a2 q_4 h_5) mv_X5_gapBetween tb_2_17 hK hw ⟨Nat.le_of_ble_eq_true rfl, Nat.le_of_ble_eq_true rfl⟩ ⟨Nat.zero_le _, Nat.zero_le _⟩ rfl hl.1 rfl (Nat.le_of_ble_eq_true rfl) dX6_gap_18 (fun H locs hw => ?_)
    refine lv_goto (tgt := 25) hx hb dX6_gap_21 (by decide) ?_
    obtain rfl := Option.some.inj hf
    exact nn_iret S hr hlk hw rfl rfl dX6_gap_25
set_option maxRecDepth 100000 in
set_option maxHeartbeats 4000000 in
theorem c_X6_type (l : Launch) (D : va_G) (cy : Nat → ClassId) (ad : Nat → Nat) (A : Nat → Prop) (σ : nG) (c : nCs) (hx_C : gC σ = c) (a1 : Int32) (q : Int32 × nCs) (hf : f_X6_type c a1 = some q) (σ' : nG) (hσ : (sC σ q.2) = σ') : nn_I l yX6_type (nn_ws yX6_type cX6_type 2 (some .int)) (nn_R 1) D cy ad A [.ref (ad (118)), .int (a1)] σ q.1 σ' := by
  refine nn_enterI (plainFor_of_name (by decide +kernel)) (Nat.le_of_ble_eq_true rfl) (lv := [(0, .ref (ad (118))), (1, .int (a1))]) rfl ?_
  intro pp ee ss mm bb me co S hr hlk hK hw ls hl
  have hx := S.1
  have hb := S.2.1
  have hw : nn_W D cy ad A ss.heap (sC σ c) ss.heap [] := nn_W.eq (by rw [← hx_C]; rfl) hw
  unfold f_X6_type at hf
  refine lv_iload_n hx hb dX6_type_0 rfl (lv_at hl 1 rfl) ?_
  refine lv_bipush (v := 32) hx hb dX6_type_1 (by decide) ?_
  refine lv_bipush (v := 126) hx hb dX6_type_3 (by decide) ?_
  obtain ⟨q_1, h_2, hf⟩ := nn_bind hf
  refine nn_calliS S (As := [.int (a1), .int ((32 : Int32)), .int ((126 : Int32))]) (rest := []) (c_X6_within l D cy ad A (sC σ c) a1 (32 : Int32) (126 : Int32) q_1 h_2) mv_X6_within tb_1_200 hK hw ⟨Nat.le_of_ble_eq_true rfl, Nat.le_of_ble_eq_true rfl⟩ ⟨Nat.zero_le _, Nat.zero_le _⟩ rfl hl.1 rfl (Nat.le_of_ble_eq_true rfl) dX6_type_5 (fun H locs hw => ?_)
  refine lv_if_ne (tgt := 13) hx hb dX6_type_8 (by decide) (fun c_3 => ?_) (fun c_3 => ?_)
  · rw [if_neg c_3] at hf
    refine lv_aload_n hx hb dX6_type_13 rfl (lv_at hl 0 rfl) ?_
    refine gf_Nn_tape S hK hw tb_1_173 dX6_type_14 ?_
    refine lv_iload_n hx hb dX6_type_17 rfl (lv_at hl 1 rfl) ?_
    refine lv_i2c (v := (a1.toUInt32 % 65536).toInt32) hx hb dX6_type_18 rfl ?_
    obtain ⟨q_4, h_5, hf⟩ := nn_bind hf
    refine nn_calliV S (As := [.int ((a1.toUInt32 % 65536).toInt32)]) (rest := []) (ce_O (k := 7) (by decide)) (by decide) rfl rfl (c_X4_put l D cy ad A (sC σ c) (g_Cs_ta c) rfl ((a1.toUInt32 % 65536).toInt32) q_4 h_5 (sC σ (s_Cs_ta c q_4.2)) rfl) mv_X4_put tb_2_25 hK hw ⟨Nat.le_of_ble_eq_true rfl, Nat.le_of_ble_eq_true rfl⟩ ⟨Nat.zero_le _, Nat.zero_le _⟩ rfl hl.1 rfl (Nat.le_of_ble_eq_true rfl) dX6_type_19 (fun H locs hw => ?_)
    refine lv_if_eq (tgt := 35) hx hb dX6_type_22 (by decide) (fun c_6 => ?_) (fun c_6 => ?_)
    · rw [if_pos c_6] at hf
      refine lv_bipush (v := -3) hx hb dX6_type_35 (by decide) ?_
      obtain rfl := Option.some.inj hf
      exact nn_iret S hr hlk hw rfl hσ dX6_type_37
    · rw [if_neg c_6] at hf
      refine lv_aload_n hx hb dX6_type_25 rfl (lv_at hl 0 rfl) ?_
      refine gf_Nn_tape S hK hw tb_1_173 dX6_type_26 ?_
      refine gf_Ta_length S hK hw (x := (g_Cs_ta (s_Cs_ta c q_4.2))) rfl tb_1_131 dX6_type_29 ?_
      refine lv_goto (tgt := 37) hx hb dX6_type_32 (by decide) ?_
      obtain rfl := Option.some.inj hf
      exact nn_iret S hr hlk hw rfl hσ dX6_type_37
  · rw [if_pos c_3] at hf
    refine lv_iconst (v := -1) hx hb dX6_type_11 (by decide) ?_
    obtain rfl := Option.some.inj hf
    exact nn_iret S hr hlk hw rfl hσ dX6_type_12
set_option maxRecDepth 100000 in
set_option maxHeartbeats 4000000 in
theorem c_X6_valley (l : Launch) (D : va_G) (cy : Nat → ClassId) (ad : Nat → Nat) (A : Nat → Prop) (σ : nG) (c : nCs) (hx_C : gC σ = c) (q : Int32 × nCs) (hf : f_X6_valley c = some q) (σ' : nG) (hσ : (sC σ q.2) = σ') : nn_I l yX6_valley (nn_ws yX6_valley cX6_valley 2 (some .int)) (nn_R 5) D cy ad A [.ref (ad (118))] σ q.1 σ' := by
  refine nn_enterI (plainFor_of_name (by decide +kernel)) (Nat.le_of_ble_eq_true rfl) (lv := [(0, .ref (ad (118)))]) rfl ?_
  intro pp ee ss mm bb me co S hr hlk hK hw ls hl
  have hx := S.1
  have hb := S.2.1
  have hw : nn_W D cy ad A ss.heap (sC σ c) ss.heap [] := nn_W.eq (by rw [← hx_C]; rfl) hw
  unfold f_X6_valley at hf
  refine lv_aload_n hx hb dX6_valley_0 rfl (lv_at hl 0 rfl) ?_
  refine gf_Nn_trial S hK hw tb_1_170 dX6_valley_1 ?_
  refine lv_aload_n hx hb dX6_valley_4 rfl (lv_at hl 0 rfl) ?_
  refine gf_Nn_now S hK hw tb_1_165 dX6_valley_5 ?_
  obtain ⟨q_1, h_2, hf⟩ := nn_bind hf
  refine nn_callvV S (As := [.ref (ad (0))]) (rest := []) (ce_V (k := 0) (v := 2) (by decide) (by decide)) (by omega) rfl rfl (c_X5_becomeLike l D cy ad A (sC σ c) 2 (by decide) 0 (by decide) (by omega) (cV c 2) rfl (cV c 0) rfl q_1 h_2 (sC σ (cVs c 2 q_1)) rfl) mv_X5_becomeLike tb_2_33 hK hw ⟨Nat.le_of_ble_eq_true rfl, Nat.le_of_ble_eq_true rfl⟩ ⟨Nat.zero_le _, Nat.zero_le _⟩ rfl hl.1 rfl (Nat.le_of_ble_eq_true rfl) dX6_valley_8 (fun H locs hw => ?_)
  refine lv_aload_n hx hb dX6_valley_11 rfl (lv_at hl 0 rfl) ?_
  refine gf_Nn_tape S hK hw tb_1_173 dX6_valley_12 ?_
  refine lv_aload_n hx hb dX6_valley_15 rfl (lv_at hl 0 rfl) ?_
  refine gf_Nn_trial S hK hw tb_1_170 dX6_valley_16 ?_
  obtain ⟨q_3, h_4, hf⟩ := nn_bind hf
  refine nn_calliV S (As := [.ref (ad (12))]) (rest := []) (ce_O (k := 7) (by decide)) (by decide) rfl rfl (c_X4_readInto l D cy ad A (sC σ (cVs c 2 q_1)) 2 (by decide) (g_Cs_ta (cVs c 2 q_1)) rfl (cV (cVs c 2 q_1) 2) rfl q_3 h_4 (sC σ (cVs (s_Cs_ta (cVs c 2 q_1) q_3.2.1) 2 q_3.2.2)) rfl) mv_X4_readInto tb_2_40 hK hw ⟨Nat.le_of_ble_eq_true rfl, Nat.le_of_ble_eq_true rfl⟩ ⟨Nat.zero_le _, Nat.zero_le _⟩ rfl hl.1 rfl (Nat.le_of_ble_eq_true rfl) dX6_valley_19 (fun H locs hw => ?_)
  refine lv_istore_n (lv' := [(1, .int (q_3.1)), (0, .ref (ad (118)))]) hx hb dX6_valley_22 rfl hl (by decide) rfl (fun ls hl => ?_)
  refine lv_aload_n hx hb dX6_valley_23 rfl (lv_at hl 1 rfl) ?_
  refine gf_Nn_tape S hK hw tb_1_173 dX6_valley_24 ?_
  refine lv_iconst (v := 0) hx hb dX6_valley_27 (by decide) ?_
  obtain ⟨c_5, h_6, hf⟩ := nn_bind hf
  replace h_6 := Option.some.inj h_6
  refine pf_Ta_length S hK hw (x := (g_Cs_ta (cVs (s_Cs_ta (cVs c 2 q_1) q_3.2.1) 2 q_3.2.2))) rfl (τ' := (sC σ c_5)) ((rfl : _ = (sC σ (s_Cs_ta (cVs (s_Cs_ta (cVs c 2 q_1) q_3.2.1) 2 q_3.2.2) (s_Ta_length (g_Cs_ta (cVs (s_Cs_ta (cVs c 2 q_1) q_3.2.1) 2 q_3.2.2)) (0 : Int32))))).trans (by rw [h_6])) tb_1_131 dX6_valley_28 (fun H locs hw => ?_)
  refine lv_iload_n hx hb dX6_valley_31 rfl (lv_at hl 0 rfl) ?_
  refine lv_if_eq (tgt := 37) hx hb dX6_valley_32 (by decide) (fun c_7 => ?_) (fun c_7 => ?_)
  · rw [if_pos c_7] at hf
    refine lv_aload_n hx hb dX6_valley_37 rfl (lv_at hl 1 rfl) ?_
    refine gf_Nn_now S hK hw tb_1_165 dX6_valley_38 ?_
    refine lv_aload_n hx hb dX6_valley_41 rfl (lv_at hl 1 rfl) ?_
    refine gf_Nn_trial S hK hw tb_1_170 dX6_valley_42 ?_
    obtain ⟨q_8, h_9, hf⟩ := nn_bind hf
    refine nn_callvV S (As := [.ref (ad (12))]) (rest := []) (ce_V (k := 0) (v := 0) (by decide) (by decide)) (by omega) rfl rfl (c_X5_becomeLike l D cy ad A (sC σ c_5) 0 (by decide) 2 (by decide) (by omega) (cV c_5 0) rfl (cV c_5 2) rfl q_8 h_9 (sC σ (cVs c_5 0 q_8)) rfl) mv_X5_becomeLike tb_2_33 hK hw ⟨Nat.le_of_ble_eq_true rfl, Nat.le_of_ble_eq_true rfl⟩ ⟨Nat.zero_le _, Nat.zero_le _⟩ rfl hl.1 rfl (Nat.le_of_ble_eq_true rfl) dX6_valley_45 (fun H locs hw => ?_)
    refine lv_aload_n hx hb dX6_valley_48 rfl (lv_at hl 1 rfl) ?_
    refine gf_Nn_history S hK hw tb_1_166 dX6_valley_49 ?_
    obtain ⟨q_10, h_11, hf⟩ := nn_bind hf
    refine nn_callvV S (As := []) (rest := []) (ce_H (k := 0) (v := 0) (by decide) (by decide)) (by omega) rfl rfl (c_X1_forget l D cy ad A (sC σ (cVs c_5 0 q_8)) 0 (by decide) (cVs c_5 0 q_8) rfl q_10 h_11 (sC σ q_10) rfl) mv_X1_forget tb_1_210 hK hw ⟨Nat.le_of_ble_eq_true rfl, Nat.le_of_ble_eq_true rfl⟩ ⟨Nat.zero_le _, Nat.zero_le _⟩ rfl hl.1 rfl (Nat.le_of_ble_eq_true rfl) dX6_valley_52 (fun H locs hw => ?_)
    refine lv_aload_n hx hb dX6_valley_55 rfl (lv_at hl 1 rfl) ?_
    refine gf_Nn_now S hK hw tb_1_165 dX6_valley_56 ?_
    refine gf_Vl_villages S hK hw (v := 0) (by decide) (x := (cV q_10 0)) rfl tb_1_40 dX6_valley_59 ?_
    obtain rfl := Option.some.inj hf
    exact nn_iret S hr hlk hw rfl hσ dX6_valley_62
  · rw [if_neg c_7] at hf
    refine lv_iload_n hx hb dX6_valley_35 rfl (lv_at hl 0 rfl) ?_
    obtain rfl := Option.some.inj hf
    exact nn_iret S hr hlk hw rfl hσ dX6_valley_36
set_option maxRecDepth 100000 in
set_option maxHeartbeats 4000000 in
theorem c_X6_count (l : Launch) (D : va_G) (cy : Nat → ClassId) (ad : Nat → Nat) (A : Nat → Prop) (σ : nG) (c : nCs) (hx_C : gC σ = c) (a1 : Int32) (q : Int32) (hf : f_X6_count c a1 = some q) : nn_I l yX6_count (nn_ws yX6_count cX6_count 2 (some .int)) (nn_R 3) D cy ad A [.ref (ad (118)), .int (a1)] σ q σ := by
  refine nn_enterI (plainFor_of_name (by decide +kernel)) (Nat.le_of_ble_eq_true rfl) (lv := [(0, .ref (ad (118))), (1, .int (a1))]) rfl ?_
  intro pp ee ss mm bb me co S hr hlk hK hw ls hl
  have hx := S.1
  have hb := S.2.1
  unfold f_X6_count at hf
  refine lv_iload_n hx hb dX6_count_0 rfl (lv_at hl 1 rfl) ?_
  by_cases c_1 : a1 = (0 : Int32)
  · rw [if_pos c_1] at hf
    refine lv_tableIn (tgt := 44) hx hb dX6_count_1 (by rw [c_1]; decide) (by rw [c_1]; decide) (by rw [c_1]; rfl) (by decide) ?_
    refine lv_aload_n hx hb dX6_count_44 rfl (lv_at hl 0 rfl) ?_
    refine gf_Nn_now S hK hw tb_1_165 dX6_count_45 ?_
    refine gf_Vl_villages S hK hw (v := 0) (by decide) (x := (cV c 0)) (by rw [← hx_C]; rfl) tb_1_40 dX6_count_48 ?_
    obtain rfl := Option.some.inj hf
    exact nn_iret S hr hlk hw rfl rfl dX6_count_51
  · rw [if_neg c_1] at hf
    by_cases c_2 : a1 = (1 : Int32)
    · rw [if_pos c_2] at hf
      refine lv_tableIn (tgt := 52) hx hb dX6_count_1 (by rw [c_2]; decide) (by rw [c_2]; decide) (by rw [c_2]; rfl) (by decide) ?_
      refine lv_aload_n hx hb dX6_count_52 rfl (lv_at hl 0 rfl) ?_
      refine gf_Nn_now S hK hw tb_1_165 dX6_count_53 ?_
      refine gf_Vl_day S hK hw (v := 0) (by decide) (x := (cV c 0)) (by rw [← hx_C]; rfl) tb_1_44 dX6_count_56 ?_
      obtain rfl := Option.some.inj hf
      exact nn_iret S hr hlk hw rfl rfl dX6_count_59
    · rw [if_neg c_2] at hf
      by_cases c_3 : a1 = (2 : Int32)
      · rw [if_pos c_3] at hf
        refine lv_tableIn (tgt := 60) hx hb dX6_count_1 (by rw [c_3]; decide) (by rw [c_3]; decide) (by rw [c_3]; rfl) (by decide) ?_
        refine lv_aload_n hx hb dX6_count_60 rfl (lv_at hl 0 rfl) ?_
        refine gf_Nn_now S hK hw tb_1_165 dX6_count_61 ?_
        obtain ⟨q_4, h_5, hf⟩ := nn_bind hf
        refine nn_calliV S (As := []) (rest := []) (ce_V (k := 0) (v := 0) (by decide) (by decide)) (by omega) rfl rfl (c_X5_leastGap l D cy ad A σ 0 (by decide) (cV c 0) (by rw [← hx_C]; rfl) q_4 h_5) mv_X5_leastGap tb_2_88 hK hw ⟨Nat.le_of_ble_eq_true rfl, Nat.le_of_ble_eq_true rfl⟩ ⟨Nat.zero_le _, Nat.zero_le _⟩ rfl hl.1 rfl (Nat.le_of_ble_eq_true rfl) dX6_count_64 (fun H locs hw => ?_)
        obtain rfl := Option.some.inj hf
        exact nn_iret S hr hlk hw rfl rfl dX6_count_67
      · rw [if_neg c_3] at hf
        by_cases c_6 : a1 = (3 : Int32)
        · rw [if_pos c_6] at hf
          refine lv_tableIn (tgt := 68) hx hb dX6_count_1 (by rw [c_6]; decide) (by rw [c_6]; decide) (by rw [c_6]; rfl) (by decide) ?_
          refine lv_aload_n hx hb dX6_count_68 rfl (lv_at hl 0 rfl) ?_
          refine gf_Nn_now S hK hw tb_1_165 dX6_count_69 ?_
          obtain ⟨q_7, h_8, hf⟩ := nn_bind hf
          refine nn_calliV S (As := []) (rest := []) (ce_V (k := 0) (v := 0) (by decide) (by decide)) (by omega) rfl rfl (c_X5_ringers l D cy ad A σ 0 (by decide) (cV c 0) (by rw [← hx_C]; rfl) q_7 h_8) mv_X5_ringers tb_2_96 hK hw ⟨Nat.le_of_ble_eq_true rfl, Nat.le_of_ble_eq_true rfl⟩ ⟨Nat.zero_le _, Nat.zero_le _⟩ rfl hl.1 rfl (Nat.le_of_ble_eq_true rfl) dX6_count_72 (fun H locs hw => ?_)
          obtain rfl := Option.some.inj hf
          exact nn_iret S hr hlk hw rfl rfl dX6_count_75
        · rw [if_neg c_6] at hf
          by_cases c_9 : a1 = (4 : Int32)
          · rw [if_pos c_9] at hf
            refine lv_tableIn (tgt := 76) hx hb dX6_count_1 (by rw [c_9]; decide) (by rw [c_9]; decide) (by rw [c_9]; rfl) (by decide) ?_
            refine lv_aload_n hx hb dX6_count_76 rfl (lv_at hl 0 rfl) ?_
            refine gf_Nn_now S hK hw tb_1_165 dX6_count_77 ?_
            refine lv_aload_n hx hb dX6_count_80 rfl (lv_at hl 0 rfl) ?_
            refine gf_Nn_now S hK hw tb_1_165 dX6_count_81 ?_
            refine gf_Vl_minutes S hK hw (v := 0) (by decide) tb_1_30 dX6_count_84 ?_
            obtain ⟨q_10, h_11, hf⟩ := nn_bind hf
            refine nn_calliV S (As := [.ref (ad (2))]) (rest := []) (ce_V (k := 0) (v := 0) (by decide) (by decide)) (by omega) rfl rfl (c_X5_sumOf l D cy ad A σ 0 (by decide) 2 (by decide) (g_Vl_minutes (cV c 0)) (by rw [← hx_C]; exact (ce_V (k := 2) (v := 0) (by decide) (by decide))) (cV c 0) (by rw [← hx_C]; rfl) q_10 h_11) mv_X5_sumOf tb_2_101 hK hw ⟨Nat.le_of_ble_eq_true rfl, Nat.le_of_ble_eq_true rfl⟩ ⟨Nat.zero_le _, Nat.zero_le _⟩ rfl hl.1 rfl (Nat.le_of_ble_eq_true rfl) dX6_count_87 (fun H locs hw => ?_)
            obtain rfl := Option.some.inj hf
            exact nn_iret S hr hlk hw rfl rfl dX6_count_90
          · rw [if_neg c_9] at hf
            by_cases c_12 : a1 = (5 : Int32)
            · rw [if_pos c_12] at hf
              refine lv_tableIn (tgt := 91) hx hb dX6_count_1 (by rw [c_12]; decide) (by rw [c_12]; decide) (by rw [c_12]; rfl) (by decide) ?_
              refine lv_aload_n hx hb dX6_count_91 rfl (lv_at hl 0 rfl) ?_
              refine gf_Nn_now S hK hw tb_1_165 dX6_count_92 ?_
              refine lv_aload_n hx hb dX6_count_95 rfl (lv_at hl 0 rfl) ?_
              refine gf_Nn_now S hK hw tb_1_165 dX6_count_96 ?_
              refine gf_Vl_miles S hK hw (v := 0) (by decide) tb_1_37 dX6_count_99 ?_
              obtain ⟨q_13, h_14, hf⟩ := nn_bind hf
              refine nn_calliV S (As := [.ref (ad (4))]) (rest := []) (ce_V (k := 0) (v := 0) (by decide) (by decide)) (by omega) rfl rfl (c_X5_sumOf l D cy ad A σ 0 (by decide) 4 (by decide) (g_Vl_miles (cV c 0)) (by rw [← hx_C]; exact (ce_V (k := 4) (v := 0) (by decide) (by decide))) (cV c 0) (by rw [← hx_C]; rfl) q_13 h_14) mv_X5_sumOf tb_2_101 hK hw ⟨Nat.le_of_ble_eq_true rfl, Nat.le_of_ble_eq_true rfl⟩ ⟨Nat.zero_le _, Nat.zero_le _⟩ rfl hl.1 rfl (Nat.le_of_ble_eq_true rfl) dX6_count_102 (fun H locs hw => ?_)
              obtain rfl := Option.some.inj hf
              exact nn_iret S hr hlk hw rfl rfl dX6_count_105
            · rw [if_neg c_12] at hf
              by_cases c_15 : a1 = (6 : Int32)
              · rw [if_pos c_15] at hf
                refine lv_tableIn (tgt := 106) hx hb dX6_count_1 (by rw [c_15]; decide) (by rw [c_15]; decide) (by rw [c_15]; rfl) (by decide) ?_
                refine lv_aload_n hx hb dX6_count_106 rfl (lv_at hl 0 rfl) ?_
                refine gf_Nn_history S hK hw tb_1_166 dX6_count_107 ?_
                refine gf_Hi_known S hK hw (v := 0) (by decide) (x := (cH c 0)) (by rw [← hx_C]; rfl) tb_1_77 dX6_count_110 ?_
                obtain rfl := Option.some.inj hf
                exact nn_iret S hr hlk hw rfl rfl dX6_count_113
              · rw [if_neg c_15] at hf
                refine lv_tableOut (tgt := 114) hx hb dX6_count_1 (nn_swout 6 (by decide) (fun k hk => by have h9 : k = 0 ∨ k = 1 ∨ k = 2 ∨ k = 3 ∨ k = 4 ∨ k = 5 ∨ k = 6 := (by omega); rcases h9 with rfl | rfl | rfl | rfl | rfl | rfl | rfl <;> assumption)) (by decide) ?_
                refine lv_iconst (v := -1) hx hb dX6_count_114 (by decide) ?_
                obtain rfl := Option.some.inj hf
                exact nn_iret S hr hlk hw rfl rfl dX6_count_115
set_option maxRecDepth 100000 in
set_option maxHeartbeats 4000000 in
theorem c_X6_passDays (l : Launch) (D : va_G) (cy : Nat → ClassId) (ad : Nat → Nat) (A : Nat → Prop) (σ : nG) (c : nCs) (hx_C : gC σ = c) (a1 : Int32) (a2 : Int32) (q : Int32 × nCs) (hf : f_X6_passDays c a1 a2 = some q) (σ' : nG) (hσ : (sC σ q.2) = σ') : nn_I l yX6_passDays (nn_ws yX6_passDays cX6_passDays 4 (some .int)) (nn_R 4) D cy ad A [.ref (ad (118)), .int (a1), .int (a2)] σ q.1 σ' := by
  refine nn_enterI (plainFor_of_name (by decide +kernel)) (Nat.le_of_ble_eq_true rfl) (lv := [(0, .ref (ad (118))), (1, .int (a1)), (2, .int (a2))]) rfl ?_
  intro pp ee ss mm bb me co S hr hlk hK hw ls hl
  have hx := S.1
  have hb := S.2.1
  have hw : nn_W D cy ad A ss.heap (sC σ c) ss.heap [] := nn_W.eq (by rw [← hx_C]; rfl) hw
  unfold f_X6_passDays at hf
  have L32 : ∀ (n : Nat) (c : nCs) (u1 : Int32) (u2 : Int32) (u3 : Int32) (K : nCs → Int32 → Int32 → Int32 → Option (Int32 × nCs)), (∀ (c : nCs) (u1 : Int32) (u2 : Int32) (u3 : Int32), K c u1 u2 u3 = some q → ∀ (H : Heap) (locs : List Loc) (ls : Array Slot), nn_W D cy ad A ss.heap (sC σ c) H locs → lv_has ls 4 [(0, .ref (ad (118))), (1, .int (u1)), (2, .int (u2)), (3, .int (u3))] → W pp l ee (nn_R 4) ss mm ([.ref (ad (118)), .int (a1), .int (a2)] : List Value).toArray bb me co H locs 0 0 (MQ bb (nn_qi D cy ad A q.1 σ') ([.ref (ad (118)), .int (a1), .int (a2)] : List Value).toArray ss 0 0 A) (F0 mm 72 ls [])) → f_X6_passDays_L32 n c u1 u2 u3 K = some q → ∀ (H : Heap) (locs : List Loc) (ls : Array Slot), nn_W D cy ad A ss.heap (sC σ c) H locs → lv_has ls 4 [(0, .ref (ad (118))), (1, .int (u1)), (2, .int (u2)), (3, .int (u3))] → W pp l ee (nn_R 4) ss mm ([.ref (ad (118)), .int (a1), .int (a2)] : List Value).toArray bb me co H locs 0 0 (MQ bb (nn_qi D cy ad A q.1 σ') ([.ref (ad (118)), .int (a1), .int (a2)] : List Value).toArray ss 0 0 A) (F0 mm 32 ls []) := by
    intro n
    induction n with
    | zero => intro c u1 u2 u3 K hKK hf; exact absurd hf (by simp [f_X6_passDays_L32])
    | succ n ih =>
      intro c u1 u2 u3 K hKK hf H locs ls hw hl
      rw [f_X6_passDays_L32] at hf
      refine lv_iload_n hx hb dX6_passDays_32 rfl (lv_at hl 3 rfl) ?_
      refine lv_iload_n hx hb dX6_passDays_33 rfl (lv_at hl 1 rfl) ?_
      refine lv_icmp_ge (tgt := 72) hx hb dX6_passDays_34 (by decide) (fun c_5 => ?_) (fun c_5 => ?_)
      · rw [if_pos c_5] at hf
        exact hKK c u1 u2 u3 hf _ _ _ hw (lv_sub hl [0, 1, 2, 3] rfl)
      · rw [if_neg c_5] at hf
        refine lv_aload_n hx hb dX6_passDays_37 rfl (lv_at hl 0 rfl) ?_
        refine gf_Nn_history S hK hw tb_1_166 dX6_passDays_38 ?_
        refine lv_aload_n hx hb dX6_passDays_41 rfl (lv_at hl 0 rfl) ?_
        refine gf_Nn_now S hK hw tb_1_165 dX6_passDays_42 ?_
        obtain ⟨q_6, h_7, hf⟩ := nn_bind hf
        refine nn_callvV S (As := [.ref (ad (0))]) (rest := []) (ce_H (k := 0) (v := 0) (by decide) (by decide)) (by omega) rfl rfl (c_X1_remember l D cy ad A (sC σ c) 0 (by decide) 0 (by decide) c rfl q_6 h_7 (sC σ q_6) rfl) mv_X1_remember tb_2_113 hK hw ⟨Nat.le_of_ble_eq_true rfl, Nat.le_of_ble_eq_true rfl⟩ ⟨Nat.zero_le _, Nat.zero_le _⟩ rfl hl.1 rfl (Nat.le_of_ble_eq_true rfl) dX6_passDays_45 (fun H locs hw => ?_)
        refine lv_iload_n hx hb dX6_passDays_48 rfl (lv_at hl 2 rfl) ?_
        refine lv_if_eq (tgt := 59) hx hb dX6_passDays_49 (by decide) (fun c_8 => ?_) (fun c_8 => ?_)
        · rw [if_pos c_8] at hf
          refine lv_aload_n hx hb dX6_passDays_59 rfl (lv_at hl 0 rfl) ?_
          refine gf_Nn_now S hK hw tb_1_165 dX6_passDays_60 ?_
          obtain ⟨q_9, h_10, hf⟩ := nn_bind hf
          refine nn_callvV S (As := []) (rest := []) (ce_V (k := 0) (v := 0) (by decide) (by decide)) (by omega) rfl rfl (c_X5_passDay l D cy ad A (sC σ q_6) 0 (by decide) (cV q_6 0) rfl q_9 h_10 (sC σ (cVs q_6 0 q_9)) rfl) mv_X5_passDay tb_2_132 hK hw ⟨Nat.le_of_ble_eq_true rfl, Nat.le_of_ble_eq_true rfl⟩ ⟨Nat.zero_le _, Nat.zero_le _⟩ rfl hl.1 rfl (Nat.le_of_ble_eq_true rfl) dX6_passDays_63 (fun H locs hw => ?_)
          refine lv_iinc (v := u3 + (1 : Int32)) (lv' := [(3, .int (u3 + (1 : Int32))), (0, .ref (ad (118))), (1, .int (u1)), (2, .int (u2))]) hx hb dX6_passDays_66 hl (k := 3) rfl (congrArg (fun z => u3 + z) (by decide)) (by decide) rfl (fun ls hl => ?_)
          refine lv_goto (tgt := 32) hx hb dX6_passDays_69 (by decide) ?_
          exact ih (cVs q_6 0 q_9) u1 u2 (u3 + (1 : Int32)) K hKK hf _ _ _ hw (lv_sub hl [1, 2, 3, 0] rfl)
        · rw [if_neg c_8] at hf
          refine lv_aload_n hx hb dX6_passDays_52 rfl (lv_at hl 0 rfl) ?_
          refine gf_Nn_now S hK hw tb_1_165 dX6_passDays_53 ?_
          obtain ⟨q_11, h_12, hf⟩ := nn_bind hf
          refine nn_callvV S (As := []) (rest := []) (ce_V (k := 0) (v := 0) (by decide) (by decide)) (by omega) rfl rfl (c_X5_drawRinger l D cy ad A (sC σ q_6) 0 (by decide) (cV q_6 0) rfl q_11 h_12 (sC σ (cVs q_6 0 q_11)) rfl) mv_X5_drawRinger tb_2_119 hK hw ⟨Nat.le_of_ble_eq_true rfl, Nat.le_of_ble_eq_true rfl⟩ ⟨Nat.zero_le _, Nat.zero_le _⟩ rfl hl.1 rfl (Nat.le_of_ble_eq_true rfl) dX6_passDays_56 (fun H locs hw => ?_)
          refine lv_aload_n hx hb dX6_passDays_59 rfl (lv_at hl 0 rfl) ?_
          refine gf_Nn_now S hK hw tb_1_165 dX6_passDays_60 ?_
          obtain ⟨q_13, h_14, hf⟩ := nn_bind hf
          refine nn_callvV S (As := []) (rest := []) (ce_V (k := 0) (v := 0) (by decide) (by decide)) (by omega) rfl rfl (c_X5_passDay l D cy ad A (sC σ (cVs q_6 0 q_11)) 0 (by decide) (cV (cVs q_6 0 q_11) 0) rfl q_13 h_14 (sC σ (cVs (cVs q_6 0 q_11) 0 q_13)) rfl) mv_X5_passDay tb_2_132 hK hw ⟨Nat.le_of_ble_eq_true rfl, Nat.le_of_ble_eq_true rfl⟩ ⟨Nat.zero_le _, Nat.zero_le _⟩ rfl hl.1 rfl (Nat.le_of_ble_eq_true rfl) dX6_passDays_63 (fun H locs hw => ?_)
          refine lv_iinc (v := u3 + (1 : Int32)) (lv' := [(3, .int (u3 + (1 : Int32))), (0, .ref (ad (118))), (1, .int (u1)), (2, .int (u2))]) hx hb dX6_passDays_66 hl (k := 3) rfl (congrArg (fun z => u3 + z) (by decide)) (by decide) rfl (fun ls hl => ?_)
          refine lv_goto (tgt := 32) hx hb dX6_passDays_69 (by decide) ?_
          exact ih (cVs (cVs q_6 0 q_11) 0 q_13) u1 u2 (u3 + (1 : Int32)) K hKK hf _ _ _ hw (lv_sub hl [1, 2, 3, 0] rfl)
  refine lv_iload_n hx hb dX6_passDays_0 rfl (lv_at hl 1 rfl) ?_
  refine lv_iconst (v := 1) hx hb dX6_passDays_1 (by decide) ?_
  refine lv_bipush (v := 40) hx hb dX6_passDays_2 (by decide) ?_
  obtain ⟨q_1, h_2, hf⟩ := nn_bind hf
  refine nn_calliS S (As := [.int (a1), .int ((1 : Int32)), .int ((40 : Int32))]) (rest := []) (c_X6_within l D cy ad A (sC σ c) a1 (1 : Int32) (40 : Int32) q_1 h_2) mv_X6_within tb_1_200 hK hw ⟨Nat.le_of_ble_eq_true rfl, Nat.le_of_ble_eq_true rfl⟩ ⟨Nat.zero_le _, Nat.zero_le _⟩ rfl hl.1 rfl (Nat.le_of_ble_eq_true rfl) dX6_passDays_4 (fun H locs hw => ?_)
  refine lv_if_ne (tgt := 12) hx hb dX6_passDays_7 (by decide) (fun c_3 => ?_) (fun c_3 => ?_)
  · rw [if_neg c_3] at hf
    refine lv_aload_n hx hb dX6_passDays_12 rfl (lv_at hl 0 rfl) ?_
    refine gf_Nn_now S hK hw tb_1_165 dX6_passDays_13 ?_
    refine gf_Vl_day S hK hw (v := 0) (by decide) (x := (cV c 0)) rfl tb_1_44 dX6_passDays_16 ?_
    refine lv_iload_n hx hb dX6_passDays_19 rfl (lv_at hl 1 rfl) ?_
    refine lv_iadd hx hb dX6_passDays_20 ?_
    refine lv_sipush (v := 9999) hx hb dX6_passDays_21 (by decide) ?_
    refine lv_icmp_le (tgt := 30) hx hb dX6_passDays_24 (by decide) (fun c_4 => ?_) (fun c_4 => ?_)
    · rw [if_pos c_4] at hf
      refine lv_iconst (v := 0) hx hb dX6_passDays_30 (by decide) ?_
      refine lv_istore_n (lv' := [(3, .int ((0 : Int32))), (0, .ref (ad (118))), (1, .int (a1)), (2, .int (a2))]) hx hb dX6_passDays_31 rfl hl (by decide) rfl (fun ls hl => ?_)
      refine L32 100000 c a1 a2 (0 : Int32) _ (fun c_18 b1_15 b2_16 b3_17 hf H locs ls hw hl => ?_) hf _ _ _ hw (lv_sub hl [1, 2, 3, 0] rfl)
      refine lv_aload_n hx hb dX6_passDays_72 rfl (lv_at hl 0 rfl) ?_
      refine gf_Nn_now S hK hw tb_1_165 dX6_passDays_73 ?_
      obtain ⟨q_19, h_20, hf⟩ := nn_bind hf
      refine nn_calliV S (As := []) (rest := []) (ce_V (k := 0) (v := 0) (by decide) (by decide)) (by omega) rfl rfl (c_X5_leastGap l D cy ad A (sC σ c_18) 0 (by decide) (cV c_18 0) rfl q_19 h_20) mv_X5_leastGap tb_2_88 hK hw ⟨Nat.le_of_ble_eq_true rfl, Nat.le_of_ble_eq_true rfl⟩ ⟨Nat.zero_le _, Nat.zero_le _⟩ rfl hl.1 rfl (Nat.le_of_ble_eq_true rfl) dX6_passDays_76 (fun H locs hw => ?_)
      obtain rfl := Option.some.inj hf
      exact nn_iret S hr hlk hw rfl hσ dX6_passDays_79
    · rw [if_neg c_4] at hf
      refine lv_bipush (v := -3) hx hb dX6_passDays_27 (by decide) ?_
      obtain rfl := Option.some.inj hf
      exact nn_iret S hr hlk hw rfl hσ dX6_passDays_29
  · rw [if_pos c_3] at hf
    refine lv_iconst (v := -1) hx hb dX6_passDays_10 (by decide) ?_
    obtain rfl := Option.some.inj hf
    exact nn_iret S hr hlk hw rfl hσ dX6_passDays_11
set_option maxRecDepth 100000 in
set_option maxHeartbeats 4000000 in
theorem c_X6_days (l : Launch) (D : va_G) (cy : Nat → ClassId) (ad : Nat → Nat) (A : Nat → Prop) (σ : nG) (c : nCs) (hx_C : gC σ = c) (a1 : Int32) (q : Int32 × nCs) (hf : f_X6_days c a1 = some q) (σ' : nG) (hσ : (sC σ q.2) = σ') : nn_I l yX6_days (nn_ws yX6_days cX6_days 2 (some .int)) (nn_R 5) D cy ad A [.ref (ad (118)), .int (a1)] σ q.1 σ' := by
  refine nn_enterI (plainFor_of_name (by decide +kernel)) (Nat.le_of_ble_eq_true rfl) (lv := [(0, .ref (ad (118))), (1, .int (a1))]) rfl ?_
  intro pp ee ss mm bb me co S hr hlk hK hw ls hl
  have hx := S.1
  have hb := S.2.1
  have hw : nn_W D cy ad A ss.heap (sC σ c) ss.heap [] := nn_W.eq (by rw [← hx_C]; rfl) hw
  unfold f_X6_days at hf
  refine lv_aload_n hx hb dX6_days_0 rfl (lv_at hl 0 rfl) ?_
  refine lv_iload_n hx hb dX6_days_1 rfl (lv_at hl 1 rfl) ?_
  refine lv_iconst (v := 0) hx hb dX6_days_2 (by decide) ?_
  obtain ⟨q_1, h_2, hf⟩ := nn_bind hf
  refine nn_calliV S (As := [.int (a1), .int ((0 : Int32))]) (rest := []) (ce_O (k := 0) (by decide)) (by decide) rfl rfl (c_X6_passDays l D cy ad A (sC σ c) c rfl a1 (0 : Int32) q_1 h_2 (sC σ q_1.2) rfl) mv_X6_passDays tb_2_109 hK hw ⟨Nat.le_of_ble_eq_true rfl, Nat.le_of_ble_eq_true rfl⟩ ⟨Nat.zero_le _, Nat.zero_le _⟩ rfl hl.1 rfl (Nat.le_of_ble_eq_true rfl) dX6_days_3 (fun H locs hw => ?_)
  obtain rfl := Option.some.inj hf
  exact nn_iret S hr hlk hw rfl hσ dX6_days_6
set_option maxRecDepth 100000 in
set_option maxHeartbeats 4000000 in
theorem c_X6_set (l : Launch) (D : va_G) (cy : Nat → ClassId) (ad : Nat → Nat) (A : Nat → Prop) (σ : nG) (c : nCs) (hx_C : gC σ = c) (a1 : Int32) (a2 : Int32) (q : Int32 × nCs) (hf : f_X6_set c a1 a2 = some q) (σ' : nG) (hσ : (sC σ q.2) = σ') : nn_I l yX6_set (nn_ws yX6_set cX6_set 4 (some .int)) (nn_R 3) D cy ad A [.ref (ad (118)), .int (a1), .int (a2)] σ q.1 σ' := by
  refine nn_enterI (plainFor_of_name (by decide +kernel)) (Nat.le_of_ble_eq_true rfl) (lv := [(0, .ref (ad (118))), (1, .int (a1)), (2, .int (a2))]) rfl ?_
  intro pp ee ss mm bb me co S hr hlk hK hw ls hl
  have hx := S.1
  have hb := S.2.1
  have hw : nn_W D cy ad A ss.heap (sC σ c) ss.heap [] := nn_W.eq (by rw [← hx_C]; rfl) hw
  unfold f_X6_set at hf
  refine lv_aload_n hx hb dX6_set_0 rfl (lv_at hl 0 rfl) ?_
  refine gf_Nn_now S hK hw tb_1_165 dX6_set_1 ?_
  refine lv_iload_n hx hb dX6_set_4 rfl (lv_at hl 1 rfl) ?_
  obtain ⟨q_1, h_2, hf⟩ := nn_bind hf
  refine nn_calliV S (As := [.int (a1)]) (rest := []) (ce_V (k := 0) (v := 0) (by decide) (by decide)) (by omega) rfl rfl (c_X5_has l D cy ad A (sC σ c) 0 (by decide) (cV c 0) rfl a1 q_1 h_2) mv_X5_has tb_1_218 hK hw ⟨Nat.le_of_ble_eq_true rfl, Nat.le_of_ble_eq_true rfl⟩ ⟨Nat.zero_le _, Nat.zero_le _⟩ rfl hl.1 rfl (Nat.le_of_ble_eq_true rfl) dX6_set_5 (fun H locs hw => ?_)
  refine lv_if_eq (tgt := 18) hx hb dX6_set_8 (by decide) (fun c_3 => ?_) (fun c_3 => ?_)
  · rw [if_pos c_3] at hf
    refine lv_iconst (v := -1) hx hb dX6_set_18 (by decide) ?_
    obtain rfl := Option.some.inj hf
    exact nn_iret S hr hlk hw rfl hσ dX6_set_19
  · rw [if_neg c_3] at hf
    refine lv_iload_n hx hb dX6_set_11 rfl (lv_at hl 2 rfl) ?_
    obtain ⟨q_4, h_5, hf⟩ := nn_bind hf
    refine nn_calliS S (As := [.int (a2)]) (rest := []) (c_X6_isMinute l D cy ad A (sC σ c) a2 q_4 h_5) mv_X6_isMinute tb_1_203 hK hw ⟨Nat.le_of_ble_eq_true rfl, Nat.le_of_ble_eq_true rfl⟩ ⟨Nat.zero_le _, Nat.zero_le _⟩ rfl hl.1 rfl (Nat.le_of_ble_eq_true rfl) dX6_set_12 (fun H locs hw => ?_)
    refine lv_if_ne (tgt := 20) hx hb dX6_set_15 (by decide) (fun c_6 => ?_) (fun c_6 => ?_)
    · rw [if_neg c_6] at hf
      refine lv_aload_n hx hb dX6_set_20 rfl (lv_at hl 0 rfl) ?_
      refine gf_Nn_now S hK hw tb_1_165 dX6_set_21 ?_
      refine gf_Vl_minutes S hK hw (v := 0) (by decide) tb_1_30 dX6_set_24 ?_
      refine lv_iload_n hx hb dX6_set_27 rfl (lv_at hl 1 rfl) ?_
      obtain ⟨g_7, hf⟩ := nn_ix_some hf
      refine al_Vl_minutes S hK hw (v := 0) (by decide) (x := (cV c 0)) rfl g_7 dX6_set_28 ?_
      refine lv_istore_n (lv' := [(3, .int ((g_Vl_minutes (cV c 0)) a1.toNatClampNeg)), (0, .ref (ad (118))), (1, .int (a1)), (2, .int (a2))]) hx hb dX6_set_29 rfl hl (by decide) rfl (fun ls hl => ?_)
      refine lv_iload_n hx hb dX6_set_30 rfl (lv_at hl 0 rfl) ?_
      refine lv_iload_n hx hb dX6_set_31 rfl (lv_at hl 3 rfl) ?_
      refine lv_icmp_ne (tgt := 38) hx hb dX6_set_32 (by decide) (fun c_8 => ?_) (fun c_8 => ?_)
      · rw [if_neg c_8] at hf
        refine lv_aload_n hx hb dX6_set_38 rfl (lv_at hl 1 rfl) ?_
        refine gf_Nn_history S hK hw tb_1_166 dX6_set_39 ?_
        refine lv_aload_n hx hb dX6_set_42 rfl (lv_at hl 1 rfl) ?_
        refine gf_Nn_now S hK hw tb_1_165 dX6_set_43 ?_
        obtain ⟨q_9, h_10, hf⟩ := nn_bind hf
        refine nn_callvV S (As := [.ref (ad (0))]) (rest := []) (ce_H (k := 0) (v := 0) (by decide) (by decide)) (by omega) rfl rfl (c_X1_remember l D cy ad A (sC σ c) 0 (by decide) 0 (by decide) c rfl q_9 h_10 (sC σ q_9) rfl) mv_X1_remember tb_2_113 hK hw ⟨Nat.le_of_ble_eq_true rfl, Nat.le_of_ble_eq_true rfl⟩ ⟨Nat.zero_le _, Nat.zero_le _⟩ rfl hl.1 rfl (Nat.le_of_ble_eq_true rfl) dX6_set_46 (fun H locs hw => ?_)
        refine lv_aload_n hx hb dX6_set_49 rfl (lv_at hl 1 rfl) ?_
        refine gf_Nn_now S hK hw tb_1_165 dX6_set_50 ?_
        refine gf_Vl_minutes S hK hw (v := 0) (by decide) tb_1_30 dX6_set_53 ?_
        refine lv_iload_n hx hb dX6_set_56 rfl (lv_at hl 2 rfl) ?_
        refine lv_iload_n hx hb dX6_set_57 rfl (lv_at hl 3 rfl) ?_
        obtain ⟨g_11, hf⟩ := nn_ix_some hf
        obtain ⟨c_12, h_13, hf⟩ := nn_bind hf
        replace h_13 := Option.some.inj h_13
        refine as_Vl_minutes S hK hw (v := 0) (by decide) (x := (cV q_9 0)) rfl g_11 (τ' := (sC σ c_12)) ((rfl : _ = (sC σ (cVs q_9 0 (s_Vl_minutes (cV q_9 0) (upd (g_Vl_minutes (cV q_9 0)) a1.toNatClampNeg a2))))).trans (by rw [h_13])) dX6_set_58 (fun H locs hw => ?_)
        refine lv_iload_n hx hb dX6_set_59 rfl (lv_at hl 0 rfl) ?_
        obtain rfl := Option.some.inj hf
        exact nn_iret S hr hlk hw rfl hσ dX6_set_60
      · rw [if_pos c_8] at hf
        refine lv_bipush (v := -2) hx hb dX6_set_35 (by decide) ?_
        obtain rfl := Option.some.inj hf
        exact nn_iret S hr hlk hw rfl hσ dX6_set_37
    · rw [if_pos c_6] at hf
      refine lv_iconst (v := -1) hx hb dX6_set_18 (by decide) ?_
      obtain rfl := Option.some.inj hf
      exact nn_iret S hr hlk hw rfl hσ dX6_set_19
set_option maxRecDepth 100000 in
set_option maxHeartbeats 4000000 in
theorem c_X6_move (l : Launch) (D : va_G) (cy : Nat → ClassId) (ad : Nat → Nat) (A : Nat → Prop) (σ : nG) (c : nCs) (hx_C : gC σ = c) (a1 : Int32) (a2 : Int32) (q : Int32 × nCs) (hf : f_X6_move c a1 a2 = some q) (σ' : nG) (hσ : (sC σ q.2) = σ') : nn_I l yX6_move (nn_ws yX6_move cX6_move 4 (some .int)) (nn_R 3) D cy ad A [.ref (ad (118)), .int (a1), .int (a2)] σ q.1 σ' := by
  refine nn_enterI (plainFor_of_name (by decide +kernel)) (Nat.le_of_ble_eq_true rfl) (lv := [(0, .ref (ad (118))), (1, .int (a1)), (2, .int (a2))]) rfl ?_
  intro pp ee ss mm bb me co S hr hlk hK hw ls hl
  have hx := S.1
  have hb := S.2.1
  have hw : nn_W D cy ad A ss.heap (sC σ c) ss.heap [] := nn_W.eq (by rw [← hx_C]; rfl) hw
  unfold f_X6_move at hf
  refine lv_aload_n hx hb dX6_move_0 rfl (lv_at hl 0 rfl) ?_
  refine gf_Nn_now S hK hw tb_1_165 dX6_move_1 ?_
  refine lv_iload_n hx hb dX6_move_4 rfl (lv_at hl 1 rfl) ?_
  obtain ⟨q_1, h_2, hf⟩ := nn_bind hf
  refine nn_calliV S (As := [.int (a1)]) (rest := []) (ce_V (k := 0) (v := 0) (by decide) (by decide)) (by omega) rfl rfl (c_X5_has l D cy ad A (sC σ c) 0 (by decide) (cV c 0) rfl a1 q_1 h_2) mv_X5_has tb_1_218 hK hw ⟨Nat.le_of_ble_eq_true rfl, Nat.le_of_ble_eq_true rfl⟩ ⟨Nat.zero_le _, Nat.zero_le _⟩ rfl hl.1 rfl (Nat.le_of_ble_eq_true rfl) dX6_move_5 (fun H locs hw => ?_)
  refine lv_if_eq (tgt := 21) hx hb dX6_move_8 (by decide) (fun c_3 => ?_) (fun c_3 => ?_)
  · rw [if_pos c_3] at hf
    refine lv_iconst (v := -1) hx hb dX6_move_21 (by decide) ?_
    obtain rfl := Option.some.inj hf
    exact nn_iret S hr hlk hw rfl hσ dX6_move_22
  · rw [if_neg c_3] at hf
    refine lv_iload_n hx hb dX6_move_11 rfl (lv_at hl 2 rfl) ?_
    refine lv_iconst (v := 0) hx hb dX6_move_12 (by decide) ?_
    refine lv_bipush (v := 40) hx hb dX6_move_13 (by decide) ?_
    obtain ⟨q_4, h_5, hf⟩ := nn_bind hf
    refine nn_calliS S (As := [.int (a2), .int ((0 : Int32)), .int ((40 : Int32))]) (rest := []) (c_X6_within l D cy ad A (sC σ c) a2 (0 : Int32) (40 : Int32) q_4 h_5) mv_X6_within tb_1_200 hK hw ⟨Nat.le_of_ble_eq_true rfl, Nat.le_of_ble_eq_true rfl⟩ ⟨Nat.zero_le _, Nat.zero_le _⟩ rfl hl.1 rfl (Nat.le_of_ble_eq_true rfl) dX6_move_15 (fun H locs hw => ?_)
    refine lv_if_ne (tgt := 23) hx hb dX6_move_18 (by decide) (fun c_6 => ?_) (fun c_6 => ?_)
    · rw [if_neg c_6] at hf
      refine lv_aload_n hx hb dX6_move_23 rfl (lv_at hl 0 rfl) ?_
      refine gf_Nn_now S hK hw tb_1_165 dX6_move_24 ?_
      refine gf_Vl_miles S hK hw (v := 0) (by decide) tb_1_37 dX6_move_27 ?_
      refine lv_iload_n hx hb dX6_move_30 rfl (lv_at hl 1 rfl) ?_
      obtain ⟨g_7, hf⟩ := nn_ix_some hf
      refine al_Vl_miles S hK hw (v := 0) (by decide) (x := (cV c 0)) rfl g_7 dX6_move_31 ?_
      refine lv_istore_n (lv' := [(3, .int ((g_Vl_miles (cV c 0)) a1.toNatClampNeg)), (0, .ref (ad (118))), (1, .int (a1)), (2, .int (a2))]) hx hb dX6_move_32 rfl hl (by decide) rfl (fun ls hl => ?_)
      refine lv_iload_n hx hb dX6_move_33 rfl (lv_at hl 0 rfl) ?_
      refine lv_iload_n hx hb dX6_move_34 rfl (lv_at hl 3 rfl) ?_
      refine lv_icmp_ne (tgt := 41) hx hb dX6_move_35 (by decide) (fun c_8 => ?_) (fun c_8 => ?_)
      · rw [if_neg c_8] at hf
        refine lv_aload_n hx hb dX6_move_41 rfl (lv_at hl 1 rfl) ?_
        refine gf_Nn_history S hK hw tb_1_166 dX6_move_42 ?_
        refine lv_aload_n hx hb dX6_move_45 rfl (lv_at hl 1 rfl) ?_
        refine gf_Nn_now S hK hw tb_1_165 dX6_move_46 ?_
        obtain ⟨q_9, h_10, hf⟩ := nn_bind hf
        refine nn_callvV S (As := [.ref (ad (0))]) (rest := []) (ce_H (k := 0) (v := 0) (by decide) (by decide)) (by omega) rfl rfl (c_X1_remember l D cy ad A (sC σ c) 0 (by decide) 0 (by decide) c rfl q_9 h_10 (sC σ q_9) rfl) mv_X1_remember tb_2_113 hK hw ⟨Nat.le_of_ble_eq_true rfl, Nat.le_of_ble_eq_true rfl⟩ ⟨Nat.zero_le _, Nat.zero_le _⟩ rfl hl.1 rfl (Nat.le_of_ble_eq_true rfl) dX6_move_49 (fun H locs hw => ?_)
        refine lv_aload_n hx hb dX6_move_52 rfl (lv_at hl 1 rfl) ?_
        refine gf_Nn_now S hK hw tb_1_165 dX6_move_53 ?_
        refine gf_Vl_miles S hK hw (v := 0) (by decide) tb_1_37 dX6_move_56 ?_
        refine lv_iload_n hx hb dX6_move_59 rfl (lv_at hl 2 rfl) ?_
        refine lv_iload_n hx hb dX6_move_60 rfl (lv_at hl 3 rfl) ?_
        obtain ⟨g_11, hf⟩ := nn_ix_some hf
        obtain ⟨c_12, h_13, hf⟩ := nn_bind hf
        replace h_13 := Option.some.inj h_13
        refine as_Vl_miles S hK hw (v := 0) (by decide) (x := (cV q_9 0)) rfl g_11 (τ' := (sC σ c_12)) ((rfl : _ = (sC σ (cVs q_9 0 (s_Vl_miles (cV q_9 0) (upd (g_Vl_miles (cV q_9 0)) a1.toNatClampNeg a2))))).trans (by rw [h_13])) dX6_move_61 (fun H locs hw => ?_)
        refine lv_iload_n hx hb dX6_move_62 rfl (lv_at hl 0 rfl) ?_
        obtain rfl := Option.some.inj hf
        exact nn_iret S hr hlk hw rfl hσ dX6_move_63
      · rw [if_pos c_8] at hf
        refine lv_bipush (v := -2) hx hb dX6_move_38 (by decide) ?_
        obtain rfl := Option.some.inj hf
        exact nn_iret S hr hlk hw rfl hσ dX6_move_40
    · rw [if_pos c_6] at hf
      refine lv_iconst (v := -1) hx hb dX6_move_21 (by decide) ?_
      obtain rfl := Option.some.inj hf
      exact nn_iret S hr hlk hw rfl hσ dX6_move_22
set_option maxRecDepth 100000 in
set_option maxHeartbeats 4000000 in
theorem c_X6_tune (l : Launch) (D : va_G) (cy : Nat → ClassId) (ad : Nat → Nat) (A : Nat → Prop) (σ : nG) (c : nCs) (hx_C : gC σ = c) (a1 : Int32) (a2 : Int32) (q : Int32 × nCs) (hf : f_X6_tune c a1 a2 = some q) (σ' : nG) (hσ : (sC σ q.2) = σ') : nn_I l yX6_tune (nn_ws yX6_tune cX6_tune 4 (some .int)) (nn_R 3) D cy ad A [.ref (ad (118)), .int (a1), .int (a2)] σ q.1 σ' := by
  refine nn_enterI (plainFor_of_name (by decide +kernel)) (Nat.le_of_ble_eq_true rfl) (lv := [(0, .ref (ad (118))), (1, .int (a1)), (2, .int (a2))]) rfl ?_
  intro pp ee ss mm bb me co S hr hlk hK hw ls hl
  have hx := S.1
  have hb := S.2.1
  have hw : nn_W D cy ad A ss.heap (sC σ c) ss.heap [] := nn_W.eq (by rw [← hx_C]; rfl) hw
  unfold f_X6_tune at hf
  refine lv_aload_n hx hb dX6_tune_0 rfl (lv_at hl 0 rfl) ?_
  refine gf_Nn_now S hK hw tb_1_165 dX6_tune_1 ?_
  refine lv_iload_n hx hb dX6_tune_4 rfl (lv_at hl 1 rfl) ?_
  obtain ⟨q_1, h_2, hf⟩ := nn_bind hf
  refine nn_calliV S (As := [.int (a1)]) (rest := []) (ce_V (k := 0) (v := 0) (by decide) (by decide)) (by omega) rfl rfl (c_X5_has l D cy ad A (sC σ c) 0 (by decide) (cV c 0) rfl a1 q_1 h_2) mv_X5_has tb_1_218 hK hw ⟨Nat.le_of_ble_eq_true rfl, Nat.le_of_ble_eq_true rfl⟩ ⟨Nat.zero_le _, Nat.zero_le _⟩ rfl hl.1 rfl (Nat.le_of_ble_eq_true rfl) dX6_tune_5 (fun H locs hw => ?_)
  refine lv_if_eq (tgt := 21) hx hb dX6_tune_8 (by decide) (fun c_3 => ?_) (fun c_3 => ?_)
  · rw [if_pos c_3] at hf
    refine lv_iconst (v := -1) hx hb dX6_tune_21 (by decide) ?_
    obtain rfl := Option.some.inj hf
    exact nn_iret S hr hlk hw rfl hσ dX6_tune_22
  · rw [if_neg c_3] at hf
    refine lv_iload_n hx hb dX6_tune_11 rfl (lv_at hl 2 rfl) ?_
    refine lv_iconst (v := 0) hx hb dX6_tune_12 (by decide) ?_
    refine lv_bipush (v := 18) hx hb dX6_tune_13 (by decide) ?_
    obtain ⟨q_4, h_5, hf⟩ := nn_bind hf
    refine nn_calliS S (As := [.int (a2), .int ((0 : Int32)), .int ((18 : Int32))]) (rest := []) (c_X6_within l D cy ad A (sC σ c) a2 (0 : Int32) (18 : Int32) q_4 h_5) mv_X6_within tb_1_200 hK hw ⟨Nat.le_of_ble_eq_true rfl, Nat.le_of_ble_eq_true rfl⟩ ⟨Nat.zero_le _, Nat.zero_le _⟩ rfl hl.1 rfl (Nat.le_of_ble_eq_true rfl) dX6_tune_15 (fun H locs hw => ?_)
    refine lv_if_ne (tgt := 23) hx hb dX6_tune_18 (by decide) (fun c_6 => ?_) (fun c_6 => ?_)
    · rw [if_neg c_6] at hf
      refine lv_aload_n hx hb dX6_tune_23 rfl (lv_at hl 0 rfl) ?_
      refine gf_Nn_now S hK hw tb_1_165 dX6_tune_24 ?_
      refine gf_Vl_drifts S hK hw (v := 0) (by decide) tb_1_34 dX6_tune_27 ?_
      refine lv_iload_n hx hb dX6_tune_30 rfl (lv_at hl 1 rfl) ?_
      obtain ⟨g_7, hf⟩ := nn_ix_some hf
      refine al_Vl_drifts S hK hw (v := 0) (by decide) (x := (cV c 0)) rfl g_7 dX6_tune_31 ?_
      refine lv_bipush (v := 9) hx hb dX6_tune_32 (by decide) ?_
      refine lv_iadd hx hb dX6_tune_34 ?_
      refine lv_istore_n (lv' := [(3, .int (((g_Vl_drifts (cV c 0)) a1.toNatClampNeg) + (9 : Int32))), (0, .ref (ad (118))), (1, .int (a1)), (2, .int (a2))]) hx hb dX6_tune_35 rfl hl (by decide) rfl (fun ls hl => ?_)
      refine lv_iload_n hx hb dX6_tune_36 rfl (lv_at hl 0 rfl) ?_
      refine lv_iload_n hx hb dX6_tune_37 rfl (lv_at hl 3 rfl) ?_
      refine lv_icmp_ne (tgt := 44) hx hb dX6_tune_38 (by decide) (fun c_8 => ?_) (fun c_8 => ?_)
      · rw [if_neg c_8] at hf
        refine lv_aload_n hx hb dX6_tune_44 rfl (lv_at hl 1 rfl) ?_
        refine gf_Nn_history S hK hw tb_1_166 dX6_tune_45 ?_
        refine lv_aload_n hx hb dX6_tune_48 rfl (lv_at hl 1 rfl) ?_
        refine gf_Nn_now S hK hw tb_1_165 dX6_tune_49 ?_
        obtain ⟨q_9, h_10, hf⟩ := nn_bind hf
        refine nn_callvV S (As := [.ref (ad (0))]) (rest := []) (ce_H (k := 0) (v := 0) (by decide) (by decide)) (by omega) rfl rfl (c_X1_remember l D cy ad A (sC σ c) 0 (by decide) 0 (by decide) c rfl q_9 h_10 (sC σ q_9) rfl) mv_X1_remember tb_2_113 hK hw ⟨Nat.le_of_ble_eq_true rfl, Nat.le_of_ble_eq_true rfl⟩ ⟨Nat.zero_le _, Nat.zero_le _⟩ rfl hl.1 rfl (Nat.le_of_ble_eq_true rfl) dX6_tune_52 (fun H locs hw => ?_)
        refine lv_aload_n hx hb dX6_tune_55 rfl (lv_at hl 1 rfl) ?_
        refine gf_Nn_now S hK hw tb_1_165 dX6_tune_56 ?_
        refine gf_Vl_drifts S hK hw (v := 0) (by decide) tb_1_34 dX6_tune_59 ?_
        refine lv_iload_n hx hb dX6_tune_62 rfl (lv_at hl 2 rfl) ?_
        refine lv_iload_n hx hb dX6_tune_63 rfl (lv_at hl 3 rfl) ?_
        refine lv_bipush (v := 9) hx hb dX6_tune_64 (by decide) ?_
        refine lv_isub hx hb dX6_tune_66 ?_
        obtain ⟨g_11, hf⟩ := nn_ix_some hf
        obtain ⟨c_12, h_13, hf⟩ := nn_bind hf
        replace h_13 := Option.some.inj h_13
        refine as_Vl_drifts S hK hw (v := 0) (by decide) (x := (cV q_9 0)) rfl g_11 (τ' := (sC σ c_12)) ((rfl : _ = (sC σ (cVs q_9 0 (s_Vl_drifts (cV q_9 0) (upd (g_Vl_drifts (cV q_9 0)) a1.toNatClampNeg (a2 - (9 : Int32))))))).trans (by rw [h_13])) dX6_tune_67 (fun H locs hw => ?_)
        refine lv_iload_n hx hb dX6_tune_68 rfl (lv_at hl 0 rfl) ?_
        obtain rfl := Option.some.inj hf
        exact nn_iret S hr hlk hw rfl hσ dX6_tune_69
      · rw [if_pos c_8] at hf
        refine lv_bipush (v := -2) hx hb dX6_tune_41 (by decide) ?_
        obtain rfl := Option.some.inj hf
        exact nn_iret S hr hlk hw rfl hσ dX6_tune_43
    · rw [if_pos c_6] at hf
      refine lv_iconst (v := -1) hx hb dX6_tune_21 (by decide) ?_
      obtain rfl := Option.some.inj hf
      exact nn_iret S hr hlk hw rfl hσ dX6_tune_22
set_option maxRecDepth 100000 in
set_option maxHeartbeats 4000000 in
theorem c_X6_storm (l : Launch) (D : va_G) (cy : Nat → ClassId) (ad : Nat → Nat) (A : Nat → Prop) (σ : nG) (c : nCs) (hx_C : gC σ = c) (a1 : Int32) (q : Int32 × nCs) (hf : f_X6_storm c a1 = some q) (σ' : nG) (hσ : (sC σ q.2) = σ') : nn_I l yX6_storm (nn_ws yX6_storm cX6_storm 2 (some .int)) (nn_R 5) D cy ad A [.ref (ad (118)), .int (a1)] σ q.1 σ' := by
  refine nn_enterI (plainFor_of_name (by decide +kernel)) (Nat.le_of_ble_eq_true rfl) (lv := [(0, .ref (ad (118))), (1, .int (a1))]) rfl ?_
  intro pp ee ss mm bb me co S hr hlk hK hw ls hl
  have hx := S.1
  have hb := S.2.1
  have hw : nn_W D cy ad A ss.heap (sC σ c) ss.heap [] := nn_W.eq (by rw [← hx_C]; rfl) hw
  unfold f_X6_storm at hf
  refine lv_aload_n hx hb dX6_storm_0 rfl (lv_at hl 0 rfl) ?_
  refine lv_iload_n hx hb dX6_storm_1 rfl (lv_at hl 1 rfl) ?_
  refine lv_iconst (v := 1) hx hb dX6_storm_2 (by decide) ?_
  obtain ⟨q_1, h_2, hf⟩ := nn_bind hf
  refine nn_calliV S (As := [.int (a1), .int ((1 : Int32))]) (rest := []) (ce_O (k := 0) (by decide)) (by decide) rfl rfl (c_X6_passDays l D cy ad A (sC σ c) c rfl a1 (1 : Int32) q_1 h_2 (sC σ q_1.2) rfl) mv_X6_passDays tb_2_109 hK hw ⟨Nat.le_of_ble_eq_true rfl, Nat.le_of_ble_eq_true rfl⟩ ⟨Nat.zero_le _, Nat.zero_le _⟩ rfl hl.1 rfl (Nat.le_of_ble_eq_true rfl) dX6_storm_3 (fun H locs hw => ?_)
  obtain rfl := Option.some.inj hf
  exact nn_iret S hr hlk hw rfl hσ dX6_storm_6
set_option maxRecDepth 100000 in
set_option maxHeartbeats 4000000 in
theorem c_X6_undo (l : Launch) (D : va_G) (cy : Nat → ClassId) (ad : Nat → Nat) (A : Nat → Prop) (σ : nG) (c : nCs) (hx_C : gC σ = c) (q : Int32 × nCs) (hf : f_X6_undo c = some q) (σ' : nG) (hσ : (sC σ q.2) = σ') : nn_I l yX6_undo (nn_ws yX6_undo cX6_undo 1 (some .int)) (nn_R 3) D cy ad A [.ref (ad (118))] σ q.1 σ' := by
  refine nn_enterI (plainFor_of_name (by decide +kernel)) (Nat.le_of_ble_eq_true rfl) (lv := [(0, .ref (ad (118)))]) rfl ?_
  intro pp ee ss mm bb me co S hr hlk hK hw ls hl
  have hx := S.1
  have hb := S.2.1
  have hw : nn_W D cy ad A ss.heap (sC σ c) ss.heap [] := nn_W.eq (by rw [← hx_C]; rfl) hw
  unfold f_X6_undo at hf
  refine lv_aload_n hx hb dX6_undo_0 rfl (lv_at hl 0 rfl) ?_
  refine gf_Nn_history S hK hw tb_1_166 dX6_undo_1 ?_
  refine lv_aload_n hx hb dX6_undo_4 rfl (lv_at hl 0 rfl) ?_
  refine gf_Nn_now S hK hw tb_1_165 dX6_undo_5 ?_
  obtain ⟨q_1, h_2, hf⟩ := nn_bind hf
  refine nn_calliV S (As := [.ref (ad (0))]) (rest := []) (ce_H (k := 0) (v := 0) (by decide) (by decide)) (by omega) rfl rfl (c_X1_takeBack l D cy ad A (sC σ c) 0 (by decide) 0 (by decide) c rfl q_1 h_2 (sC σ q_1.2) rfl) mv_X1_takeBack tb_2_157 hK hw ⟨Nat.le_of_ble_eq_true rfl, Nat.le_of_ble_eq_true rfl⟩ ⟨Nat.zero_le _, Nat.zero_le _⟩ rfl hl.1 rfl (Nat.le_of_ble_eq_true rfl) dX6_undo_8 (fun H locs hw => ?_)
  refine lv_if_eq (tgt := 24) hx hb dX6_undo_11 (by decide) (fun c_3 => ?_) (fun c_3 => ?_)
  · rw [if_pos c_3] at hf
    refine lv_bipush (v := -4) hx hb dX6_undo_24 (by decide) ?_
    obtain rfl := Option.some.inj hf
    exact nn_iret S hr hlk hw rfl hσ dX6_undo_26
  · rw [if_neg c_3] at hf
    refine lv_aload_n hx hb dX6_undo_14 rfl (lv_at hl 0 rfl) ?_
    refine gf_Nn_history S hK hw tb_1_166 dX6_undo_15 ?_
    refine gf_Hi_known S hK hw (v := 0) (by decide) (x := (cH q_1.2 0)) rfl tb_1_77 dX6_undo_18 ?_
    refine lv_goto (tgt := 26) hx hb dX6_undo_21 (by decide) ?_
    obtain rfl := Option.some.inj hf
    exact nn_iret S hr hlk hw rfl hσ dX6_undo_26
set_option maxRecDepth 100000 in
set_option maxHeartbeats 4000000 in
theorem c_X6_seed (l : Launch) (D : va_G) (cy : Nat → ClassId) (ad : Nat → Nat) (A : Nat → Prop) (σ : nG) (c : nCs) (hx_C : gC σ = c) (a1 : Int32) (q : Int32 × nCs) (hf : f_X6_seed c a1 = some q) (σ' : nG) (hσ : (sC σ q.2) = σ') : nn_I l yX6_seed (nn_ws yX6_seed cX6_seed 3 (some .int)) (nn_R 0) D cy ad A [.ref (ad (118)), .int (a1)] σ q.1 σ' := by
  refine nn_enterI (plainFor_of_name (by decide +kernel)) (Nat.le_of_ble_eq_true rfl) (lv := [(0, .ref (ad (118))), (1, .int (a1))]) rfl ?_
  intro pp ee ss mm bb me co S hr hlk hK hw ls hl
  have hx := S.1
  have hb := S.2.1
  have hw : nn_W D cy ad A ss.heap (sC σ c) ss.heap [] := nn_W.eq (by rw [← hx_C]; rfl) hw
  unfold f_X6_seed at hf
  refine lv_iload_n hx hb dX6_seed_0 rfl (lv_at hl 1 rfl) ?_
  refine lv_if_ge (tgt := 6) hx hb dX6_seed_1 (by decide) (fun c_1 => ?_) (fun c_1 => ?_)
  · rw [if_pos c_1] at hf
    refine lv_aload_n hx hb dX6_seed_6 rfl (lv_at hl 0 rfl) ?_
    refine gf_Nn_now S hK hw tb_1_165 dX6_seed_7 ?_
    refine gf_Vl_draw S hK hw (v := 0) (by decide) (x := (cV c 0)) rfl tb_1_46 dX6_seed_10 ?_
    refine lv_istore_n (lv' := [(2, .int (g_Vl_draw (cV c 0))), (0, .ref (ad (118))), (1, .int (a1))]) hx hb dX6_seed_13 rfl hl (by decide) rfl (fun ls hl => ?_)
    refine lv_aload_n hx hb dX6_seed_14 rfl (lv_at hl 1 rfl) ?_
    refine gf_Nn_now S hK hw tb_1_165 dX6_seed_15 ?_
    refine lv_iload_n hx hb dX6_seed_18 rfl (lv_at hl 2 rfl) ?_
    refine pf_Vl_draw S hK hw (v := 0) (by decide) (x := (cV c 0)) rfl (τ' := (sC σ (cVs c 0 (s_Vl_draw (cV c 0) a1)))) rfl tb_1_46 dX6_seed_19 (fun H locs hw => ?_)
    refine lv_iload_n hx hb dX6_seed_22 rfl (lv_at hl 0 rfl) ?_
    obtain rfl := Option.some.inj hf
    exact nn_iret S hr hlk hw rfl hσ dX6_seed_23
  · rw [if_neg c_1] at hf
    refine lv_iconst (v := -1) hx hb dX6_seed_4 (by decide) ?_
    obtain rfl := Option.some.inj hf
    exact nn_iret S hr hlk hw rfl hσ dX6_seed_5
set_option maxRecDepth 100000 in
set_option maxHeartbeats 4000000 in
theorem c_X6_foretell (l : Launch) (D : va_G) (cy : Nat → ClassId) (ad : Nat → Nat) (A : Nat → Prop) (σ : nG) (c : nCs) (hx_C : gC σ = c) (a1 : Int32) (q : nCs) (hf : f_X6_foretell c a1 = some q) (σ' : nG) (hσ : (sC σ q) = σ') : nn_V l yX6_foretell (nn_ws yX6_foretell cX6_foretell 3 none) (nn_R 4) D cy ad A [.ref (ad (118)), .int (a1)] σ σ' := by
  refine nn_enterV (plainFor_of_name (by decide +kernel)) (Nat.le_of_ble_eq_true rfl) (lv := [(0, .ref (ad (118))), (1, .int (a1))]) rfl ?_
  intro pp ee ss mm bb me co S hr hlk hK hw ls hl
  have hx := S.1
  have hb := S.2.1
  have hw : nn_W D cy ad A ss.heap (sC σ c) ss.heap [] := nn_W.eq (by rw [← hx_C]; rfl) hw
  unfold f_X6_foretell at hf
  have L13 : ∀ (n : Nat) (c : nCs) (u1 : Int32) (u2 : Int32) (K : nCs → Int32 → Int32 → Option (nCs)), (∀ (c : nCs) (u1 : Int32) (u2 : Int32), K c u1 u2 = some q → ∀ (H : Heap) (locs : List Loc) (ls : Array Slot), nn_W D cy ad A ss.heap (sC σ c) H locs → lv_has ls 3 [(0, .ref (ad (118))), (1, .int (u1)), (2, .int (u2))] → W pp l ee (nn_R 4) ss mm ([.ref (ad (118)), .int (a1)] : List Value).toArray bb me co H locs 0 0 (MQ bb (nn_qv D cy ad A σ') ([.ref (ad (118)), .int (a1)] : List Value).toArray ss 0 0 A) (F0 mm 31 ls [])) → f_X6_foretell_L13 n c u1 u2 K = some q → ∀ (H : Heap) (locs : List Loc) (ls : Array Slot), nn_W D cy ad A ss.heap (sC σ c) H locs → lv_has ls 3 [(0, .ref (ad (118))), (1, .int (u1)), (2, .int (u2))] → W pp l ee (nn_R 4) ss mm ([.ref (ad (118)), .int (a1)] : List Value).toArray bb me co H locs 0 0 (MQ bb (nn_qv D cy ad A σ') ([.ref (ad (118)), .int (a1)] : List Value).toArray ss 0 0 A) (F0 mm 13 ls []) := by
    intro n
    induction n with
    | zero => intro c u1 u2 K hKK hf; exact absurd hf (by simp [f_X6_foretell_L13])
    | succ n ih =>
      intro c u1 u2 K hKK hf H locs ls hw hl
      rw [f_X6_foretell_L13] at hf
      refine lv_iload_n hx hb dX6_foretell_13 rfl (lv_at hl 2 rfl) ?_
      refine lv_iload_n hx hb dX6_foretell_14 rfl (lv_at hl 1 rfl) ?_
      refine lv_icmp_ge (tgt := 31) hx hb dX6_foretell_15 (by decide) (fun c_3 => ?_) (fun c_3 => ?_)
      · rw [if_pos c_3] at hf
        exact hKK c u1 u2 hf _ _ _ hw (lv_sub hl [0, 1, 2] rfl)
      · rw [if_neg c_3] at hf
        refine lv_aload_n hx hb dX6_foretell_18 rfl (lv_at hl 0 rfl) ?_
        refine gf_Nn_trial S hK hw tb_1_170 dX6_foretell_19 ?_
        obtain ⟨q_4, h_5, hf⟩ := nn_bind hf
        refine nn_callvV S (As := []) (rest := []) (ce_V (k := 0) (v := 2) (by decide) (by decide)) (by omega) rfl rfl (c_X5_passDay l D cy ad A (sC σ c) 2 (by decide) (cV c 2) rfl q_4 h_5 (sC σ (cVs c 2 q_4)) rfl) mv_X5_passDay tb_2_132 hK hw ⟨Nat.le_of_ble_eq_true rfl, Nat.le_of_ble_eq_true rfl⟩ ⟨Nat.zero_le _, Nat.zero_le _⟩ rfl hl.1 rfl (Nat.le_of_ble_eq_true rfl) dX6_foretell_22 (fun H locs hw => ?_)
        refine lv_iinc (v := u2 + (1 : Int32)) (lv' := [(2, .int (u2 + (1 : Int32))), (0, .ref (ad (118))), (1, .int (u1))]) hx hb dX6_foretell_25 hl (k := 2) rfl (congrArg (fun z => u2 + z) (by decide)) (by decide) rfl (fun ls hl => ?_)
        refine lv_goto (tgt := 13) hx hb dX6_foretell_28 (by decide) ?_
        exact ih (cVs c 2 q_4) u1 (u2 + (1 : Int32)) K hKK hf _ _ _ hw (lv_sub hl [1, 2, 0] rfl)
  refine lv_aload_n hx hb dX6_foretell_0 rfl (lv_at hl 0 rfl) ?_
  refine gf_Nn_trial S hK hw tb_1_170 dX6_foretell_1 ?_
  refine lv_aload_n hx hb dX6_foretell_4 rfl (lv_at hl 0 rfl) ?_
  refine gf_Nn_now S hK hw tb_1_165 dX6_foretell_5 ?_
  obtain ⟨q_1, h_2, hf⟩ := nn_bind hf
  refine nn_callvV S (As := [.ref (ad (0))]) (rest := []) (ce_V (k := 0) (v := 2) (by decide) (by decide)) (by omega) rfl rfl (c_X5_becomeLike l D cy ad A (sC σ c) 2 (by decide) 0 (by decide) (by omega) (cV c 2) rfl (cV c 0) rfl q_1 h_2 (sC σ (cVs c 2 q_1)) rfl) mv_X5_becomeLike tb_2_33 hK hw ⟨Nat.le_of_ble_eq_true rfl, Nat.le_of_ble_eq_true rfl⟩ ⟨Nat.zero_le _, Nat.zero_le _⟩ rfl hl.1 rfl (Nat.le_of_ble_eq_true rfl) dX6_foretell_8 (fun H locs hw => ?_)
  refine lv_iconst (v := 0) hx hb dX6_foretell_11 (by decide) ?_
  refine lv_istore_n (lv' := [(2, .int ((0 : Int32))), (0, .ref (ad (118))), (1, .int (a1))]) hx hb dX6_foretell_12 rfl hl (by decide) rfl (fun ls hl => ?_)
  refine L13 100000 (cVs c 2 q_1) a1 (0 : Int32) _ (fun c_8 b1_6 b2_7 hf H locs ls hw hl => ?_) hf _ _ _ hw (lv_sub hl [1, 2, 0] rfl)
  obtain rfl := Option.some.inj hf
  exact nn_vret S hr hlk hw hσ dX6_foretell_31
set_option maxRecDepth 100000 in
set_option maxHeartbeats 4000000 in
theorem c_X6_ahead (l : Launch) (D : va_G) (cy : Nat → ClassId) (ad : Nat → Nat) (A : Nat → Prop) (σ : nG) (c : nCs) (hx_C : gC σ = c) (a1 : Int32) (a2 : Int32) (q : Int32 × nCs) (hf : f_X6_ahead c a1 a2 = some q) (σ' : nG) (hσ : (sC σ q.2) = σ') : nn_I l yX6_ahead (nn_ws yX6_ahead cX6_ahead 3 (some .int)) (nn_R 5) D cy ad A [.ref (ad (118)), .int (a1), .int (a2)] σ q.1 σ' := by
  refine nn_enterI (plainFor_of_name (by decide +kernel)) (Nat.le_of_ble_eq_true rfl) (lv := [(0, .ref (ad (118))), (1, .int (a1)), (2, .int (a2))]) rfl ?_
  intro pp ee ss mm bb me co S hr hlk hK hw ls hl
  have hx := S.1
  have hb := S.2.1
  have hw : nn_W D cy ad A ss.heap (sC σ c) ss.heap [] := nn_W.eq (by rw [← hx_C]; rfl) hw
  unfold f_X6_ahead at hf
  refine lv_aload_n hx hb dX6_ahead_0 rfl (lv_at hl 0 rfl) ?_
  refine gf_Nn_now S hK hw tb_1_165 dX6_ahead_1 ?_
  refine lv_iload_n hx hb dX6_ahead_4 rfl (lv_at hl 1 rfl) ?_
  obtain ⟨q_1, h_2, hf⟩ := nn_bind hf
  refine nn_calliV S (As := [.int (a1)]) (rest := []) (ce_V (k := 0) (v := 0) (by decide) (by decide)) (by omega) rfl rfl (c_X5_has l D cy ad A (sC σ c) 0 (by decide) (cV c 0) rfl a1 q_1 h_2) mv_X5_has tb_1_218 hK hw ⟨Nat.le_of_ble_eq_true rfl, Nat.le_of_ble_eq_true rfl⟩ ⟨Nat.zero_le _, Nat.zero_le _⟩ rfl hl.1 rfl (Nat.le_of_ble_eq_true rfl) dX6_ahead_5 (fun H locs hw => ?_)
  refine lv_if_eq (tgt := 21) hx hb dX6_ahead_8 (by decide) (fun c_3 => ?_) (fun c_3 => ?_)
  · rw [if_pos c_3] at hf
    refine lv_iconst (v := -1) hx hb dX6_ahead_21 (by decide) ?_
    obtain rfl := Option.some.inj hf
    exact nn_iret S hr hlk hw rfl hσ dX6_ahead_22
  · rw [if_neg c_3] at hf
    refine lv_iload_n hx hb dX6_ahead_11 rfl (lv_at hl 2 rfl) ?_
    refine lv_iconst (v := 0) hx hb dX6_ahead_12 (by decide) ?_
    refine lv_bipush (v := 60) hx hb dX6_ahead_13 (by decide) ?_
    obtain ⟨q_4, h_5, hf⟩ := nn_bind hf
    refine nn_calliS S (As := [.int (a2), .int ((0 : Int32)), .int ((60 : Int32))]) (rest := []) (c_X6_within l D cy ad A (sC σ c) a2 (0 : Int32) (60 : Int32) q_4 h_5) mv_X6_within tb_1_200 hK hw ⟨Nat.le_of_ble_eq_true rfl, Nat.le_of_ble_eq_true rfl⟩ ⟨Nat.zero_le _, Nat.zero_le _⟩ rfl hl.1 rfl (Nat.le_of_ble_eq_true rfl) dX6_ahead_15 (fun H locs hw => ?_)
    refine lv_if_ne (tgt := 23) hx hb dX6_ahead_18 (by decide) (fun c_6 => ?_) (fun c_6 => ?_)
    · rw [if_neg c_6] at hf
      refine lv_aload_n hx hb dX6_ahead_23 rfl (lv_at hl 0 rfl) ?_
      refine lv_iload_n hx hb dX6_ahead_24 rfl (lv_at hl 2 rfl) ?_
      obtain ⟨q_7, h_8, hf⟩ := nn_bind hf
      refine nn_callvV S (As := [.int (a2)]) (rest := []) (ce_O (k := 0) (by decide)) (by decide) rfl rfl (c_X6_foretell l D cy ad A (sC σ c) c rfl a2 q_7 h_8 (sC σ q_7) rfl) mv_X6_foretell tb_2_169 hK hw ⟨Nat.le_of_ble_eq_true rfl, Nat.le_of_ble_eq_true rfl⟩ ⟨Nat.zero_le _, Nat.zero_le _⟩ rfl hl.1 rfl (Nat.le_of_ble_eq_true rfl) dX6_ahead_25 (fun H locs hw => ?_)
      refine lv_aload_n hx hb dX6_ahead_28 rfl (lv_at hl 0 rfl) ?_
      refine gf_Nn_trial S hK hw tb_1_170 dX6_ahead_29 ?_
      refine gf_Vl_minutes S hK hw (v := 2) (by decide) tb_1_30 dX6_ahead_32 ?_
      refine lv_iload_n hx hb dX6_ahead_35 rfl (lv_at hl 1 rfl) ?_
      obtain ⟨g_9, hf⟩ := nn_ix_some hf
      refine al_Vl_minutes S hK hw (v := 2) (by decide) (x := (cV q_7 2)) rfl g_9 dX6_ahead_36 ?_
      obtain rfl := Option.some.inj hf
      exact nn_iret S hr hlk hw rfl hσ dX6_ahead_37
    · rw [if_pos c_6] at hf
      refine lv_iconst (v := -1) hx hb dX6_ahead_21 (by decide) ?_
      obtain rfl := Option.some.inj hf
      exact nn_iret S hr hlk hw rfl hσ dX6_ahead_22
set_option maxRecDepth 100000 in
set_option maxHeartbeats 4000000 in
theorem c_X6_near (l : Launch) (D : va_G) (cy : Nat → ClassId) (ad : Nat → Nat) (A : Nat → Prop) (σ : nG) (c : nCs) (hx_C : gC σ = c) (a1 : Int32) (q : Int32 × nCs) (hf : f_X6_near c a1 = some q) (σ' : nG) (hσ : (sC σ q.2) = σ') : nn_I l yX6_near (nn_ws yX6_near cX6_near 2 (some .int)) (nn_R 5) D cy ad A [.ref (ad (118)), .int (a1)] σ q.1 σ' := by
  refine nn_enterI (plainFor_of_name (by decide +kernel)) (Nat.le_of_ble_eq_true rfl) (lv := [(0, .ref (ad (118))), (1, .int (a1))]) rfl ?_
  intro pp ee ss mm bb me co S hr hlk hK hw ls hl
  have hx := S.1
  have hb := S.2.1
  have hw : nn_W D cy ad A ss.heap (sC σ c) ss.heap [] := nn_W.eq (by rw [← hx_C]; rfl) hw
  unfold f_X6_near at hf
  refine lv_iload_n hx hb dX6_near_0 rfl (lv_at hl 1 rfl) ?_
  refine lv_iconst (v := 0) hx hb dX6_near_1 (by decide) ?_
  refine lv_bipush (v := 60) hx hb dX6_near_2 (by decide) ?_
  obtain ⟨q_1, h_2, hf⟩ := nn_bind hf
  refine nn_calliS S (As := [.int (a1), .int ((0 : Int32)), .int ((60 : Int32))]) (rest := []) (c_X6_within l D cy ad A (sC σ c) a1 (0 : Int32) (60 : Int32) q_1 h_2) mv_X6_within tb_1_200 hK hw ⟨Nat.le_of_ble_eq_true rfl, Nat.le_of_ble_eq_true rfl⟩ ⟨Nat.zero_le _, Nat.zero_le _⟩ rfl hl.1 rfl (Nat.le_of_ble_eq_true rfl) dX6_near_4 (fun H locs hw => ?_)
  refine lv_if_ne (tgt := 12) hx hb dX6_near_7 (by decide) (fun c_3 => ?_) (fun c_3 => ?_)
  · rw [if_neg c_3] at hf
    refine lv_aload_n hx hb dX6_near_12 rfl (lv_at hl 0 rfl) ?_
    refine lv_iload_n hx hb dX6_near_13 rfl (lv_at hl 1 rfl) ?_
    obtain ⟨q_4, h_5, hf⟩ := nn_bind hf
    refine nn_callvV S (As := [.int (a1)]) (rest := []) (ce_O (k := 0) (by decide)) (by decide) rfl rfl (c_X6_foretell l D cy ad A (sC σ c) c rfl a1 q_4 h_5 (sC σ q_4) rfl) mv_X6_foretell tb_2_169 hK hw ⟨Nat.le_of_ble_eq_true rfl, Nat.le_of_ble_eq_true rfl⟩ ⟨Nat.zero_le _, Nat.zero_le _⟩ rfl hl.1 rfl (Nat.le_of_ble_eq_true rfl) dX6_near_14 (fun H locs hw => ?_)
    refine lv_aload_n hx hb dX6_near_17 rfl (lv_at hl 0 rfl) ?_
    refine gf_Nn_trial S hK hw tb_1_170 dX6_near_18 ?_
    obtain ⟨q_6, h_7, hf⟩ := nn_bind hf
    refine nn_calliV S (As := []) (rest := []) (ce_V (k := 0) (v := 2) (by decide) (by decide)) (by omega) rfl rfl (c_X5_leastGap l D cy ad A (sC σ q_4) 2 (by decide) (cV q_4 2) rfl q_6 h_7) mv_X5_leastGap tb_2_88 hK hw ⟨Nat.le_of_ble_eq_true rfl, Nat.le_of_ble_eq_true rfl⟩ ⟨Nat.zero_le _, Nat.zero_le _⟩ rfl hl.1 rfl (Nat.le_of_ble_eq_true rfl) dX6_near_21 (fun H locs hw => ?_)
    obtain rfl := Option.some.inj hf
    exact nn_iret S hr hlk hw rfl hσ dX6_near_24
  · rw [if_pos c_3] at hf
    refine lv_iconst (v := -1) hx hb dX6_near_10 (by decide) ?_
    obtain rfl := Option.some.inj hf
    exact nn_iret S hr hlk hw rfl hσ dX6_near_11
set_option maxRecDepth 100000 in
set_option maxHeartbeats 4000000 in
theorem c_X6_meet (l : Launch) (D : va_G) (cy : Nat → ClassId) (ad : Nat → Nat) (A : Nat → Prop) (σ : nG) (c : nCs) (hx_C : gC σ = c) (a1 : Int32) (a2 : Int32) (q : Int32 × nCs) (hf : f_X6_meet c a1 a2 = some q) (σ' : nG) (hσ : (sC σ q.2) = σ') : nn_I l yX6_meet (nn_ws yX6_meet cX6_meet 4 (some .int)) (nn_R 4) D cy ad A [.ref (ad (118)), .int (a1), .int (a2)] σ q.1 σ' := by
  refine nn_enterI (plainFor_of_name (by decide +kernel)) (Nat.le_of_ble_eq_true rfl) (lv := [(0, .ref (ad (118))), (1, .int (a1)), (2, .int (a2))]) rfl ?_
  intro pp ee ss mm bb me co S hr hlk hK hw ls hl
  have hx := S.1
  have hb := S.2.1
  have hw : nn_W D cy ad A ss.heap (sC σ c) ss.heap [] := nn_W.eq (by rw [← hx_C]; rfl) hw
  unfold f_X6_meet at hf
  have L27 : ∀ (n : Nat) (c : nCs) (u1 : Int32) (u2 : Int32) (u3 : Int32) (K : nCs → Int32 → Int32 → Int32 → Option (Int32 × nCs)), (∀ (c : nCs) (u1 : Int32) (u2 : Int32) (u3 : Int32), K c u1 u2 u3 = some q → ∀ (H : Heap) (locs : List Loc) (ls : Array Slot), nn_W D cy ad A ss.heap (sC σ c) H locs → lv_has ls 4 [(0, .ref (ad (118))), (1, .int (u1)), (2, .int (u2)), (3, .int (u3))] → W pp l ee (nn_R 4) ss mm ([.ref (ad (118)), .int (a1), .int (a2)] : List Value).toArray bb me co H locs 0 0 (MQ bb (nn_qi D cy ad A q.1 σ') ([.ref (ad (118)), .int (a1), .int (a2)] : List Value).toArray ss 0 0 A) (F0 mm 60 ls [])) → f_X6_meet_L27 n c u1 u2 u3 K = some q → ∀ (H : Heap) (locs : List Loc) (ls : Array Slot), nn_W D cy ad A ss.heap (sC σ c) H locs → lv_has ls 4 [(0, .ref (ad (118))), (1, .int (u1)), (2, .int (u2)), (3, .int (u3))] → W pp l ee (nn_R 4) ss mm ([.ref (ad (118)), .int (a1), .int (a2)] : List Value).toArray bb me co H locs 0 0 (MQ bb (nn_qi D cy ad A q.1 σ') ([.ref (ad (118)), .int (a1), .int (a2)] : List Value).toArray ss 0 0 A) (F0 mm 27 ls []) := by
    intro n
    induction n with
    | zero => intro c u1 u2 u3 K hKK hf; exact absurd hf (by simp [f_X6_meet_L27])
    | succ n ih =>
      intro c u1 u2 u3 K hKK hf H locs ls hw hl
      rw [f_X6_meet_L27] at hf
      refine lv_iload_n hx hb dX6_meet_27 rfl (lv_at hl 3 rfl) ?_
      refine lv_bipush (v := 60) hx hb dX6_meet_28 (by decide) ?_
      refine lv_icmp_gt (tgt := 60) hx hb dX6_meet_30 (by decide) (fun c_6 => ?_) (fun c_6 => ?_)
      · rw [if_pos c_6] at hf
        exact hKK c u1 u2 u3 hf _ _ _ hw (lv_sub hl [0, 1, 2, 3] rfl)
      · rw [if_neg c_6] at hf
        refine lv_aload_n hx hb dX6_meet_33 rfl (lv_at hl 0 rfl) ?_
        refine gf_Nn_trial S hK hw tb_1_170 dX6_meet_34 ?_
        refine lv_iload_n hx hb dX6_meet_37 rfl (lv_at hl 1 rfl) ?_
        refine lv_iload_n hx hb dX6_meet_38 rfl (lv_at hl 2 rfl) ?_
        obtain ⟨q_7, h_8, hf⟩ := nn_bind hf
        refine nn_calliV S (As := [.int (u1), .int (u2)]) (rest := []) (ce_V (k := 0) (v := 2) (by decide) (by decide)) (by omega) rfl rfl (c_X5_gapBetween l D cy ad A (sC σ c) 2 (by decide) (cV c 2) rfl u1 u2 q_7 h_8) mv_X5_gapBetween tb_2_17 hK hw ⟨Nat.le_of_ble_eq_true rfl, Nat.le_of_ble_eq_true rfl⟩ ⟨Nat.zero_le _, Nat.zero_le _⟩ rfl hl.1 rfl (Nat.le_of_ble_eq_true rfl) dX6_meet_39 (fun H locs hw => ?_)
        refine lv_if_ne (tgt := 47) hx hb dX6_meet_42 (by decide) (fun c_9 => ?_) (fun c_9 => ?_)
        · rw [if_neg c_9] at hf
          refine lv_aload_n hx hb dX6_meet_47 rfl (lv_at hl 0 rfl) ?_
          refine gf_Nn_trial S hK hw tb_1_170 dX6_meet_48 ?_
          obtain ⟨q_10, h_11, hf⟩ := nn_bind hf
          refine nn_callvV S (As := []) (rest := []) (ce_V (k := 0) (v := 2) (by decide) (by decide)) (by omega) rfl rfl (c_X5_passDay l D cy ad A (sC σ c) 2 (by decide) (cV c 2) rfl q_10 h_11 (sC σ (cVs c 2 q_10)) rfl) mv_X5_passDay tb_2_132 hK hw ⟨Nat.le_of_ble_eq_true rfl, Nat.le_of_ble_eq_true rfl⟩ ⟨Nat.zero_le _, Nat.zero_le _⟩ rfl hl.1 rfl (Nat.le_of_ble_eq_true rfl) dX6_meet_51 (fun H locs hw => ?_)
          refine lv_iinc (v := u3 + (1 : Int32)) (lv' := [(3, .int (u3 + (1 : Int32))), (0, .ref (ad (118))), (1, .int (u1)), (2, .int (u2))]) hx hb dX6_meet_54 hl (k := 3) rfl (congrArg (fun z => u3 + z) (by decide)) (by decide) rfl (fun ls hl => ?_)
          refine lv_goto (tgt := 27) hx hb dX6_meet_57 (by decide) ?_
          exact ih (cVs c 2 q_10) u1 u2 (u3 + (1 : Int32)) K hKK hf _ _ _ hw (lv_sub hl [1, 2, 3, 0] rfl)
        · rw [if_pos c_9] at hf
          refine lv_iload_n hx hb dX6_meet_45 rfl (lv_at hl 3 rfl) ?_
          obtain rfl := Option.some.inj hf
          exact nn_iret S hr hlk hw rfl hσ dX6_meet_46
  refine lv_aload_n hx hb dX6_meet_0 rfl (lv_at hl 0 rfl) ?_
  refine gf_Nn_now S hK hw tb_1_165 dX6_meet_1 ?_
  refine lv_iload_n hx hb dX6_meet_4 rfl (lv_at hl 1 rfl) ?_
  refine lv_iload_n hx hb dX6_meet_5 rfl (lv_at hl 2 rfl) ?_
  obtain ⟨q_1, h_2, hf⟩ := nn_bind hf
  refine nn_calliV S (As := [.int (a1), .int (a2)]) (rest := []) (ce_V (k := 0) (v := 0) (by decide) (by decide)) (by omega) rfl rfl (c_X5_hasBoth l D cy ad A (sC σ c) 0 (by decide) (cV c 0) rfl a1 a2 q_1 h_2) mv_X5_hasBoth tb_2_12 hK hw ⟨Nat.le_of_ble_eq_true rfl, Nat.le_of_ble_eq_true rfl⟩ ⟨Nat.zero_le _, Nat.zero_le _⟩ rfl hl.1 rfl (Nat.le_of_ble_eq_true rfl) dX6_meet_6 (fun H locs hw => ?_)
  refine lv_if_ne (tgt := 14) hx hb dX6_meet_9 (by decide) (fun c_3 => ?_) (fun c_3 => ?_)
  · rw [if_neg c_3] at hf
    refine lv_aload_n hx hb dX6_meet_14 rfl (lv_at hl 0 rfl) ?_
    refine gf_Nn_trial S hK hw tb_1_170 dX6_meet_15 ?_
    refine lv_aload_n hx hb dX6_meet_18 rfl (lv_at hl 0 rfl) ?_
    refine gf_Nn_now S hK hw tb_1_165 dX6_meet_19 ?_
    obtain ⟨q_4, h_5, hf⟩ := nn_bind hf
    refine nn_callvV S (As := [.ref (ad (0))]) (rest := []) (ce_V (k := 0) (v := 2) (by decide) (by decide)) (by omega) rfl rfl (c_X5_becomeLike l D cy ad A (sC σ c) 2 (by decide) 0 (by decide) (by omega) (cV c 2) rfl (cV c 0) rfl q_4 h_5 (sC σ (cVs c 2 q_4)) rfl) mv_X5_becomeLike tb_2_33 hK hw ⟨Nat.le_of_ble_eq_true rfl, Nat.le_of_ble_eq_true rfl⟩ ⟨Nat.zero_le _, Nat.zero_le _⟩ rfl hl.1 rfl (Nat.le_of_ble_eq_true rfl) dX6_meet_22 (fun H locs hw => ?_)
    refine lv_iconst (v := 0) hx hb dX6_meet_25 (by decide) ?_
    refine lv_istore_n (lv' := [(3, .int ((0 : Int32))), (0, .ref (ad (118))), (1, .int (a1)), (2, .int (a2))]) hx hb dX6_meet_26 rfl hl (by decide) rfl (fun ls hl => ?_)
    refine L27 100000 (cVs c 2 q_4) a1 a2 (0 : Int32) _ (fun c_15 b1_12 b2_13 b3_14 hf H locs ls hw hl => ?_) hf _ _ _ hw (lv_sub hl [1, 2, 3, 0] rfl)
    refine lv_bipush (v := -4) hx hb dX6_meet_60 (by decide) ?_
    obtain rfl := Option.some.inj hf
    exact nn_iret S hr hlk hw rfl hσ dX6_meet_62
  · rw [if_pos c_3] at hf
    refine lv_iconst (v := -1) hx hb dX6_meet_12 (by decide) ?_
    obtain rfl := Option.some.inj hf
    exact nn_iret S hr hlk hw rfl hσ dX6_meet_13
set_option maxRecDepth 100000 in
set_option maxHeartbeats 4000000 in
theorem c_X6_together (l : Launch) (D : va_G) (cy : Nat → ClassId) (ad : Nat → Nat) (A : Nat → Prop) (σ : nG) (c : nCs) (hx_C : gC σ = c) (a1 : Int32) (q : Int32 × nCs) (hf : f_X6_together c a1 = some q) (σ' : nG) (hσ : (sC σ q.2) = σ') : nn_I l yX6_together (nn_ws yX6_together cX6_together 3 (some .int)) (nn_R 5) D cy ad A [.ref (ad (118)), .int (a1)] σ q.1 σ' := by
  refine nn_enterI (plainFor_of_name (by decide +kernel)) (Nat.le_of_ble_eq_true rfl) (lv := [(0, .ref (ad (118))), (1, .int (a1))]) rfl ?_
  intro pp ee ss mm bb me co S hr hlk hK hw ls hl
  have hx := S.1
  have hb := S.2.1
  have hw : nn_W D cy ad A ss.heap (sC σ c) ss.heap [] := nn_W.eq (by rw [← hx_C]; rfl) hw
  unfold f_X6_together at hf
  refine lv_iload_n hx hb dX6_together_0 rfl (lv_at hl 1 rfl) ?_
  refine lv_iconst (v := 0) hx hb dX6_together_1 (by decide) ?_
  refine lv_iconst (v := 1) hx hb dX6_together_2 (by decide) ?_
  obtain ⟨q_1, h_2, hf⟩ := nn_bind hf
  refine nn_calliS S (As := [.int (a1), .int ((0 : Int32)), .int ((1 : Int32))]) (rest := []) (c_X6_within l D cy ad A (sC σ c) a1 (0 : Int32) (1 : Int32) q_1 h_2) mv_X6_within tb_1_200 hK hw ⟨Nat.le_of_ble_eq_true rfl, Nat.le_of_ble_eq_true rfl⟩ ⟨Nat.zero_le _, Nat.zero_le _⟩ rfl hl.1 rfl (Nat.le_of_ble_eq_true rfl) dX6_together_3 (fun H locs hw => ?_)
  refine lv_if_ne (tgt := 11) hx hb dX6_together_6 (by decide) (fun c_3 => ?_) (fun c_3 => ?_)
  · rw [if_neg c_3] at hf
    refine lv_aload_n hx hb dX6_together_11 rfl (lv_at hl 0 rfl) ?_
    refine gf_Nn_trial S hK hw tb_1_170 dX6_together_12 ?_
    refine lv_aload_n hx hb dX6_together_15 rfl (lv_at hl 0 rfl) ?_
    refine gf_Nn_now S hK hw tb_1_165 dX6_together_16 ?_
    obtain ⟨q_4, h_5, hf⟩ := nn_bind hf
    refine nn_callvV S (As := [.ref (ad (0))]) (rest := []) (ce_V (k := 0) (v := 2) (by decide) (by decide)) (by omega) rfl rfl (c_X5_becomeLike l D cy ad A (sC σ c) 2 (by decide) 0 (by decide) (by omega) (cV c 2) rfl (cV c 0) rfl q_4 h_5 (sC σ (cVs c 2 q_4)) rfl) mv_X5_becomeLike tb_2_33 hK hw ⟨Nat.le_of_ble_eq_true rfl, Nat.le_of_ble_eq_true rfl⟩ ⟨Nat.zero_le _, Nat.zero_le _⟩ rfl hl.1 rfl (Nat.le_of_ble_eq_true rfl) dX6_together_19 (fun H locs hw => ?_)
    refine lv_aload_n hx hb dX6_together_22 rfl (lv_at hl 0 rfl) ?_
    refine gf_Nn_trial S hK hw tb_1_170 dX6_together_23 ?_
    obtain ⟨q_6, h_7, hf⟩ := nn_bind hf
    refine nn_calliV S (As := []) (rest := []) (ce_V (k := 0) (v := 2) (by decide) (by decide)) (by omega) rfl rfl (c_X5_passDaysUntilTogether l D cy ad A (sC σ (cVs c 2 q_4)) 2 (by decide) (cV (cVs c 2 q_4) 2) rfl q_6 h_7 (sC σ (cVs (cVs c 2 q_4) 2 q_6.2)) rfl) mv_X5_passDaysUntilTogether tb_2_185 hK hw ⟨Nat.le_of_ble_eq_true rfl, Nat.le_of_ble_eq_true rfl⟩ ⟨Nat.zero_le _, Nat.zero_le _⟩ rfl hl.1 rfl (Nat.le_of_ble_eq_true rfl) dX6_together_26 (fun H locs hw => ?_)
    refine lv_istore_n (lv' := [(2, .int (q_6.1)), (0, .ref (ad (118))), (1, .int (a1))]) hx hb dX6_together_29 rfl hl (by decide) rfl (fun ls hl => ?_)
    refine lv_iload_n hx hb dX6_together_30 rfl (lv_at hl 0 rfl) ?_
    refine lv_bipush (v := 61) hx hb dX6_together_31 (by decide) ?_
    refine lv_icmp_ne (tgt := 47) hx hb dX6_together_33 (by decide) (fun c_8 => ?_) (fun c_8 => ?_)
    · rw [if_neg c_8] at hf
      refine lv_iload_n hx hb dX6_together_47 rfl (lv_at hl 2 rfl) ?_
      refine lv_if_ne (tgt := 55) hx hb dX6_together_48 (by decide) (fun c_9 => ?_) (fun c_9 => ?_)
      · rw [if_neg c_9] at hf
        refine lv_aload_n hx hb dX6_together_55 rfl (lv_at hl 1 rfl) ?_
        refine gf_Nn_trial S hK hw tb_1_170 dX6_together_56 ?_
        obtain ⟨q_10, h_11, hf⟩ := nn_bind hf
        refine nn_calliV S (As := []) (rest := []) (ce_V (k := 0) (v := 2) (by decide) (by decide)) (by omega) rfl rfl (c_X5_ringers l D cy ad A (sC σ (cVs (cVs c 2 q_4) 2 q_6.2)) 2 (by decide) (cV (cVs (cVs c 2 q_4) 2 q_6.2) 2) rfl q_10 h_11) mv_X5_ringers tb_2_96 hK hw ⟨Nat.le_of_ble_eq_true rfl, Nat.le_of_ble_eq_true rfl⟩ ⟨Nat.zero_le _, Nat.zero_le _⟩ rfl hl.1 rfl (Nat.le_of_ble_eq_true rfl) dX6_together_59 (fun H locs hw => ?_)
        obtain rfl := Option.some.inj hf
        exact nn_iret S hr hlk hw rfl hσ dX6_together_62
      · rw [if_pos c_9] at hf
        refine lv_iload_n hx hb dX6_together_51 rfl (lv_at hl 0 rfl) ?_
        refine lv_goto (tgt := 62) hx hb dX6_together_52 (by decide) ?_
        obtain rfl := Option.some.inj hf
        exact nn_iret S hr hlk hw rfl hσ dX6_together_62
    · rw [if_pos c_8] at hf
      refine lv_iload_n hx hb dX6_together_36 rfl (lv_at hl 2 rfl) ?_
      refine lv_if_ne (tgt := 45) hx hb dX6_together_37 (by decide) (fun c_12 => ?_) (fun c_12 => ?_)
      · rw [if_neg c_12] at hf
        refine lv_iconst (v := 0) hx hb dX6_together_45 (by decide) ?_
        obtain rfl := Option.some.inj hf
        exact nn_iret S hr hlk hw rfl hσ dX6_together_46
      · rw [if_pos c_12] at hf
        refine lv_bipush (v := -4) hx hb dX6_together_40 (by decide) ?_
        refine lv_goto (tgt := 46) hx hb dX6_together_42 (by decide) ?_
        obtain rfl := Option.some.inj hf
        exact nn_iret S hr hlk hw rfl hσ dX6_together_46
  · rw [if_pos c_3] at hf
    refine lv_iconst (v := -1) hx hb dX6_together_9 (by decide) ?_
    obtain rfl := Option.some.inj hf
    exact nn_iret S hr hlk hw rfl hσ dX6_together_10
set_option maxRecDepth 100000 in
set_option maxHeartbeats 4000000 in
theorem c_X6_fix (l : Launch) (D : va_G) (cy : Nat → ClassId) (ad : Nat → Nat) (A : Nat → Prop) (σ : nG) (c : nCs) (hx_C : gC σ = c) (a1 : Int32) (a2 : Int32) (q : Int32 × nCs) (hf : f_X6_fix c a1 a2 = some q) (σ' : nG) (hσ : (sC σ q.2) = σ') : nn_I l yX6_fix (nn_ws yX6_fix cX6_fix 4 (some .int)) (nn_R 62) D cy ad A [.ref (ad (118)), .int (a1), .int (a2)] σ q.1 σ' := by
  refine nn_enterI (plainFor_of_name (by decide +kernel)) (Nat.le_of_ble_eq_true rfl) (lv := [(0, .ref (ad (118))), (1, .int (a1)), (2, .int (a2))]) rfl ?_
  intro pp ee ss mm bb me co S hr hlk hK hw ls hl
  have hx := S.1
  have hb := S.2.1
  have hw : nn_W D cy ad A ss.heap (sC σ c) ss.heap [] := nn_W.eq (by rw [← hx_C]; rfl) hw
  unfold f_X6_fix at hf
  have J28 : ∀ (c : nCs) (u1 : Int32) (u2 : Int32), f_X6_fix_J28 c u1 u2 = some q → ∀ (H : Heap) (locs : List Loc) (ls : Array Slot), nn_W D cy ad A ss.heap (sC σ c) H locs → lv_has ls 4 [(0, .ref (ad (118))), (1, .int (u1)), (2, .int (u2))] → W pp l ee (nn_R 62) ss mm ([.ref (ad (118)), .int (a1), .int (a2)] : List Value).toArray bb me co H locs 0 0 (MQ bb (nn_qi D cy ad A q.1 σ') ([.ref (ad (118)), .int (a1), .int (a2)] : List Value).toArray ss 0 0 A) (F0 mm 28 ls []) := by
    intro c u1 u2 hf H locs ls hw hl
    unfold f_X6_fix_J28 at hf
    refine lv_aload_n hx hb dX6_fix_28 rfl (lv_at hl 0 rfl) ?_
    refine gf_Nn_setter S hK hw tb_1_171 dX6_fix_29 ?_
    refine lv_aload_n hx hb dX6_fix_32 rfl (lv_at hl 0 rfl) ?_
    refine gf_Nn_now S hK hw tb_1_165 dX6_fix_33 ?_
    refine lv_iload_n hx hb dX6_fix_36 rfl (lv_at hl 1 rfl) ?_
    obtain ⟨q_5, h_6, hf⟩ := nn_bind hf
    refine nn_calliV S (As := [.ref (ad (0)), .int (u1)]) (rest := []) (ce_O (k := 1) (by decide)) (by decide) rfl rfl (c_X2_leastTotal l D cy ad A (sC σ c) 0 (by decide) (g_Cs_se c) rfl (cV c 0) rfl u1 q_5 h_6 (sC σ (s_Cs_se c q_5.2)) rfl) mv_X2_leastTotal tb_2_195 hK hw ⟨Nat.le_of_ble_eq_true rfl, Nat.le_of_ble_eq_true rfl⟩ ⟨Nat.zero_le _, Nat.zero_le _⟩ rfl hl.1 rfl (Nat.le_of_ble_eq_true rfl) dX6_fix_37 (fun H locs hw => ?_)
    refine lv_istore_n (lv' := [(3, .int (q_5.1)), (0, .ref (ad (118))), (1, .int (u1)), (2, .int (u2))]) hx hb dX6_fix_40 rfl hl (by decide) rfl (fun ls hl => ?_)
    refine lv_iload_n hx hb dX6_fix_41 rfl (lv_at hl 0 rfl) ?_
    refine lv_bipush (v := -4) hx hb dX6_fix_42 (by decide) ?_
    refine lv_icmp_eq (tgt := 52) hx hb dX6_fix_44 (by decide) (fun c_7 => ?_) (fun c_7 => ?_)
    · rw [if_pos c_7] at hf
      refine lv_iload_n hx hb dX6_fix_52 rfl (lv_at hl 0 rfl) ?_
      obtain rfl := Option.some.inj hf
      exact nn_iret S hr hlk hw rfl hσ dX6_fix_53
    · rw [if_neg c_7] at hf
      refine lv_iload_n hx hb dX6_fix_47 rfl (lv_at hl 3 rfl) ?_
      refine lv_iconst (v := -1) hx hb dX6_fix_48 (by decide) ?_
      refine lv_icmp_ne (tgt := 54) hx hb dX6_fix_49 (by decide) (fun c_8 => ?_) (fun c_8 => ?_)
      · rw [if_neg c_8] at hf
        refine lv_aload_n hx hb dX6_fix_54 rfl (lv_at hl 1 rfl) ?_
        refine gf_Nn_setter S hK hw tb_1_171 dX6_fix_55 ?_
        refine gf_Se_bestShifts S hK hw tb_1_93 dX6_fix_58 ?_
        refine lv_iload_n hx hb dX6_fix_61 rfl (lv_at hl 3 rfl) ?_
        obtain ⟨g_9, hf⟩ := nn_ix_some hf
        refine al_Se_bestShifts S hK hw (x := (g_Cs_se (s_Cs_se c q_5.2))) rfl g_9 dX6_fix_62 ?_
        refine lv_iconst (v := 2) hx hb dX6_fix_63 (by decide) ?_
        refine lv_iadd hx hb dX6_fix_64 ?_
        obtain rfl := Option.some.inj hf
        exact nn_iret S hr hlk hw rfl hσ dX6_fix_65
      · rw [if_pos c_8] at hf
        refine lv_iload_n hx hb dX6_fix_52 rfl (lv_at hl 0 rfl) ?_
        obtain rfl := Option.some.inj hf
        exact nn_iret S hr hlk hw rfl hσ dX6_fix_53
  refine lv_iload_n hx hb dX6_fix_0 rfl (lv_at hl 1 rfl) ?_
  refine lv_iconst (v := 1) hx hb dX6_fix_1 (by decide) ?_
  refine lv_bipush (v := 12) hx hb dX6_fix_2 (by decide) ?_
  obtain ⟨q_1, h_2, hf⟩ := nn_bind hf
  refine nn_calliS S (As := [.int (a1), .int ((1 : Int32)), .int ((12 : Int32))]) (rest := []) (c_X6_within l D cy ad A (sC σ c) a1 (1 : Int32) (12 : Int32) q_1 h_2) mv_X6_within tb_1_200 hK hw ⟨Nat.le_of_ble_eq_true rfl, Nat.le_of_ble_eq_true rfl⟩ ⟨Nat.zero_le _, Nat.zero_le _⟩ rfl hl.1 rfl (Nat.le_of_ble_eq_true rfl) dX6_fix_4 (fun H locs hw => ?_)
  refine lv_if_eq (tgt := 26) hx hb dX6_fix_7 (by decide) (fun c_3 => ?_) (fun c_3 => ?_)
  · rw [if_pos c_3] at hf
    refine lv_iconst (v := -1) hx hb dX6_fix_26 (by decide) ?_
    obtain rfl := Option.some.inj hf
    exact nn_iret S hr hlk hw rfl hσ dX6_fix_27
  · rw [if_neg c_3] at hf
    refine lv_iload_n hx hb dX6_fix_10 rfl (lv_at hl 2 rfl) ?_
    refine lv_iconst (v := -1) hx hb dX6_fix_11 (by decide) ?_
    refine lv_icmp_eq (tgt := 28) hx hb dX6_fix_12 (by decide) (fun c_4 => ?_) (fun c_4 => ?_)
    · rw [if_pos c_4] at hf
      exact J28 c a1 a2 hf _ _ _ hw (lv_sub hl [0, 1, 2] rfl)
    · rw [if_neg c_4] at hf
      refine lv_aload_n hx hb dX6_fix_15 rfl (lv_at hl 0 rfl) ?_
      refine gf_Nn_now S hK hw tb_1_165 dX6_fix_16 ?_
      refine lv_iload_n hx hb dX6_fix_19 rfl (lv_at hl 2 rfl) ?_
      obtain ⟨q_10, h_11, hf⟩ := nn_bind hf
      refine nn_calliV S (As := [.int (a2)]) (rest := []) (ce_V (k := 0) (v := 0) (by decide) (by decide)) (by omega) rfl rfl (c_X5_has l D cy ad A (sC σ c) 0 (by decide) (cV c 0) rfl a2 q_10 h_11) mv_X5_has tb_1_218 hK hw ⟨Nat.le_of_ble_eq_true rfl, Nat.le_of_ble_eq_true rfl⟩ ⟨Nat.zero_le _, Nat.zero_le _⟩ rfl hl.1 rfl (Nat.le_of_ble_eq_true rfl) dX6_fix_20 (fun H locs hw => ?_)
      refine lv_if_ne (tgt := 28) hx hb dX6_fix_23 (by decide) (fun c_12 => ?_) (fun c_12 => ?_)
      · rw [if_neg c_12] at hf
        exact J28 c a1 a2 hf _ _ _ hw (lv_sub hl [0, 1, 2] rfl)
      · rw [if_pos c_12] at hf
        refine lv_iconst (v := -1) hx hb dX6_fix_26 (by decide) ?_
        obtain rfl := Option.some.inj hf
        exact nn_iret S hr hlk hw rfl hσ dX6_fix_27
set_option maxRecDepth 100000 in
set_option maxHeartbeats 4000000 in
theorem c_X6_free (l : Launch) (D : va_G) (cy : Nat → ClassId) (ad : Nat → Nat) (A : Nat → Prop) (σ : nG) (c : nCs) (hx_C : gC σ = c) (a1 : Int32) (a2 : Int32) (q : Int64) (hf : f_X6_free c a1 a2 = some q) : nn_J l yX6_free (nn_ws yX6_free cX6_free 5 (some .long)) (nn_R 4) D cy ad A [.ref (ad (118)), .int (a1), .int (a2)] σ q σ := by
  refine nn_enterJ (plainFor_of_name (by decide +kernel)) (Nat.le_of_ble_eq_true rfl) (lv := [(0, .ref (ad (118))), (1, .int (a1)), (2, .int (a2))]) rfl ?_
  intro pp ee ss mm bb me co S hr hlk hK hw ls hl
  have hx := S.1
  have hb := S.2.1
  unfold f_X6_free at hf
  refine lv_iload_n hx hb dX6_free_0 rfl (lv_at hl 1 rfl) ?_
  refine lv_iconst (v := 1) hx hb dX6_free_1 (by decide) ?_
  refine lv_bipush (v := 30) hx hb dX6_free_2 (by decide) ?_
  obtain ⟨q_1, h_2, hf⟩ := nn_bind hf
  refine nn_calliS S (As := [.int (a1), .int ((1 : Int32)), .int ((30 : Int32))]) (rest := []) (c_X6_within l D cy ad A σ a1 (1 : Int32) (30 : Int32) q_1 h_2) mv_X6_within tb_1_200 hK hw ⟨Nat.le_of_ble_eq_true rfl, Nat.le_of_ble_eq_true rfl⟩ ⟨Nat.zero_le _, Nat.zero_le _⟩ rfl hl.1 rfl (Nat.le_of_ble_eq_true rfl) dX6_free_4 (fun H locs hw => ?_)
  refine lv_if_eq (tgt := 19) hx hb dX6_free_7 (by decide) (fun c_3 => ?_) (fun c_3 => ?_)
  · rw [if_pos c_3] at hf
    refine lv_ldc2 (v := -1) hx hb S.2.2.2.1 (S.2.2.2.2 _ tb_2_221) dX6_free_19 ?_
    obtain rfl := Option.some.inj hf
    exact nn_lret S hr hlk hw rfl rfl dX6_free_22
  · rw [if_neg c_3] at hf
    refine lv_iload_n hx hb dX6_free_10 rfl (lv_at hl 2 rfl) ?_
    refine lv_iconst (v := 0) hx hb dX6_free_11 (by decide) ?_
    refine lv_iconst (v := 2) hx hb dX6_free_12 (by decide) ?_
    obtain ⟨q_4, h_5, hf⟩ := nn_bind hf
    refine nn_calliS S (As := [.int (a2), .int ((0 : Int32)), .int ((2 : Int32))]) (rest := []) (c_X6_within l D cy ad A σ a2 (0 : Int32) (2 : Int32) q_4 h_5) mv_X6_within tb_1_200 hK hw ⟨Nat.le_of_ble_eq_true rfl, Nat.le_of_ble_eq_true rfl⟩ ⟨Nat.zero_le _, Nat.zero_le _⟩ rfl hl.1 rfl (Nat.le_of_ble_eq_true rfl) dX6_free_13 (fun H locs hw => ?_)
    refine lv_if_ne (tgt := 23) hx hb dX6_free_16 (by decide) (fun c_6 => ?_) (fun c_6 => ?_)
    · rw [if_neg c_6] at hf
      refine lv_aload_n hx hb dX6_free_23 rfl (lv_at hl 0 rfl) ?_
      refine gf_Nn_now S hK hw tb_1_165 dX6_free_24 ?_
      refine lv_iload_n hx hb dX6_free_27 rfl (lv_at hl 1 rfl) ?_
      obtain ⟨q_7, h_8, hf⟩ := nn_bind hf
      refine nn_calllV S (As := [.int (a1)]) (rest := []) (ce_V (k := 0) (v := 0) (by decide) (by decide)) (by omega) rfl rfl (c_X5_freeMinutes l D cy ad A σ 0 (by decide) (cV c 0) (by rw [← hx_C]; rfl) a1 q_7 h_8) mv_X5_freeMinutes tb_2_222 hK hw ⟨Nat.le_of_ble_eq_true rfl, Nat.le_of_ble_eq_true rfl⟩ ⟨Nat.zero_le _, Nat.zero_le _⟩ rfl hl.1 rfl (Nat.le_of_ble_eq_true rfl) dX6_free_28 (fun H locs hw => ?_)
      refine lv_lstore_n (lv' := [(3, .long (q_7)), (0, .ref (ad (118))), (1, .int (a1)), (2, .int (a2))]) hx hb dX6_free_31 rfl hl (by decide) rfl (fun ls hl => ?_)
      refine lv_iload_n hx hb dX6_free_32 rfl (lv_at hl 3 rfl) ?_
      refine lv_if_ne (tgt := 38) hx hb dX6_free_33 (by decide) (fun c_9 => ?_) (fun c_9 => ?_)
      · rw [if_neg c_9] at hf
        refine lv_iload_n hx hb dX6_free_38 rfl (lv_at hl 3 rfl) ?_
        refine lv_iconst (v := 1) hx hb dX6_free_39 (by decide) ?_
        refine lv_icmp_ne (tgt := 49) hx hb dX6_free_40 (by decide) (fun c_10 => ?_) (fun c_10 => ?_)
        · rw [if_neg c_10] at hf
          refine lv_lload_n hx hb dX6_free_49 rfl (lv_at hl 0 rfl) ?_
          refine lv_lconst (v := 0) hx hb dX6_free_50 (by decide) ?_
          refine W.lcmp hx hb dX6_free_51 ?_
          refine lv_if_ne (tgt := 61) hx hb dX6_free_52 (by decide) (fun c_11 => ?_) (fun c_11 => ?_)
          · rw [if_neg c_11] at hf
            refine lv_lload_n hx hb dX6_free_61 rfl (lv_at hl 0 rfl) ?_
            obtain ⟨q_12, h_13, hf⟩ := nn_bind hf
            refine nn_calliS S (As := [.long (q_7)]) (rest := []) (c_J13_numberOfTrailingZeros_95d88 l D cy ad A σ q_7 q_12 h_13) mv_J13_numberOfTrailingZeros_95d88 tb_2_236 hK hw ⟨Nat.le_of_ble_eq_true rfl, Nat.le_of_ble_eq_true rfl⟩ ⟨Nat.zero_le _, Nat.zero_le _⟩ rfl hl.1 rfl (Nat.le_of_ble_eq_true rfl) dX6_free_62 (fun H locs hw => ?_)
            refine lv_i2l (v := q_12.toInt64) hx hb dX6_free_65 rfl ?_
            obtain rfl := Option.some.inj hf
            exact nn_lret S hr hlk hw rfl rfl dX6_free_66
          · rw [if_pos c_11] at hf
            refine lv_ldc2 (v := -4) hx hb S.2.2.2.1 (S.2.2.2.2 _ tb_2_235) dX6_free_55 ?_
            refine lv_goto (tgt := 66) hx hb dX6_free_58 (by decide) ?_
            obtain rfl := Option.some.inj hf
            exact nn_lret S hr hlk hw rfl rfl dX6_free_66
        · rw [if_pos c_10] at hf
          refine lv_lload_n hx hb dX6_free_43 rfl (lv_at hl 0 rfl) ?_
          obtain ⟨q_14, h_15, hf⟩ := nn_bind hf
          refine nn_calliS S (As := [.long (q_7)]) (rest := []) (c_J13_bitCount_95d88 l D cy ad A σ q_7 q_14 h_15) mv_J13_bitCount_95d88 tb_2_229 hK hw ⟨Nat.le_of_ble_eq_true rfl, Nat.le_of_ble_eq_true rfl⟩ ⟨Nat.zero_le _, Nat.zero_le _⟩ rfl hl.1 rfl (Nat.le_of_ble_eq_true rfl) dX6_free_44 (fun H locs hw => ?_)
          refine lv_i2l (v := q_14.toInt64) hx hb dX6_free_47 rfl ?_
          obtain rfl := Option.some.inj hf
          exact nn_lret S hr hlk hw rfl rfl dX6_free_48
      · rw [if_pos c_9] at hf
        refine lv_lload_n hx hb dX6_free_36 rfl (lv_at hl 0 rfl) ?_
        obtain rfl := Option.some.inj hf
        exact nn_lret S hr hlk hw rfl rfl dX6_free_37
    · rw [if_pos c_6] at hf
      refine lv_ldc2 (v := -1) hx hb S.2.2.2.1 (S.2.2.2.2 _ tb_2_221) dX6_free_19 ?_
      obtain rfl := Option.some.inj hf
      exact nn_lret S hr hlk hw rfl rfl dX6_free_22
set_option maxRecDepth 100000 in
set_option maxHeartbeats 4000000 in
theorem c_X6_hear (l : Launch) (D : va_G) (cy : Nat → ClassId) (ad : Nat → Nat) (A : Nat → Prop) (σ : nG) (c : nCs) (hx_C : gC σ = c) (a1 : Int32) (a2 : Int32) (a3 : Int32) (a4 : Int32) (q : Int32 × nCs) (hf : f_X6_hear c a1 a2 a3 a4 = some q) (σ' : nG) (hσ : (sC σ q.2) = σ') : nn_I l yX6_hear (nn_ws yX6_hear cX6_hear 6 (some .int)) (nn_R 62) D cy ad A [.ref (ad (118)), .int (a1), .int (a2), .int (a3), .int (a4)] σ q.1 σ' := by
  refine nn_enterI (plainFor_of_name (by decide +kernel)) (Nat.le_of_ble_eq_true rfl) (lv := [(0, .ref (ad (118))), (1, .int (a1)), (2, .int (a2)), (3, .int (a3)), (4, .int (a4))]) rfl ?_
  intro pp ee ss mm bb me co S hr hlk hK hw ls hl
  have hx := S.1
  have hb := S.2.1
  have hw : nn_W D cy ad A ss.heap (sC σ c) ss.heap [] := nn_W.eq (by rw [← hx_C]; rfl) hw
  unfold f_X6_hear at hf
  refine lv_aload_n hx hb dX6_hear_0 rfl (lv_at hl 0 rfl) ?_
  refine gf_Nn_now S hK hw tb_1_165 dX6_hear_1 ?_
  refine lv_iload_n hx hb dX6_hear_4 rfl (lv_at hl 1 rfl) ?_
  obtain ⟨q_1, h_2, hf⟩ := nn_bind hf
  refine nn_calliV S (As := [.int (a1)]) (rest := []) (ce_V (k := 0) (v := 0) (by decide) (by decide)) (by omega) rfl rfl (c_X5_has l D cy ad A (sC σ c) 0 (by decide) (cV c 0) rfl a1 q_1 h_2) mv_X5_has tb_1_218 hK hw ⟨Nat.le_of_ble_eq_true rfl, Nat.le_of_ble_eq_true rfl⟩ ⟨Nat.zero_le _, Nat.zero_le _⟩ rfl hl.1 rfl (Nat.le_of_ble_eq_true rfl) dX6_hear_5 (fun H locs hw => ?_)
  refine lv_if_eq (tgt := 34) hx hb dX6_hear_8 (by decide) (fun c_3 => ?_) (fun c_3 => ?_)
  · rw [if_pos c_3] at hf
    refine lv_iconst (v := -1) hx hb dX6_hear_34 (by decide) ?_
    obtain rfl := Option.some.inj hf
    exact nn_iret S hr hlk hw rfl hσ dX6_hear_35
  · rw [if_neg c_3] at hf
    refine lv_iload_n hx hb dX6_hear_11 rfl (lv_at hl 2 rfl) ?_
    obtain ⟨q_4, h_5, hf⟩ := nn_bind hf
    refine nn_calliS S (As := [.int (a2)]) (rest := []) (c_X6_isMinute l D cy ad A (sC σ c) a2 q_4 h_5) mv_X6_isMinute tb_1_203 hK hw ⟨Nat.le_of_ble_eq_true rfl, Nat.le_of_ble_eq_true rfl⟩ ⟨Nat.zero_le _, Nat.zero_le _⟩ rfl hl.1 rfl (Nat.le_of_ble_eq_true rfl) dX6_hear_12 (fun H locs hw => ?_)
    refine lv_if_eq (tgt := 34) hx hb dX6_hear_15 (by decide) (fun c_6 => ?_) (fun c_6 => ?_)
    · rw [if_pos c_6] at hf
      refine lv_iconst (v := -1) hx hb dX6_hear_34 (by decide) ?_
      obtain rfl := Option.some.inj hf
      exact nn_iret S hr hlk hw rfl hσ dX6_hear_35
    · rw [if_neg c_6] at hf
      refine lv_iload_n hx hb dX6_hear_18 rfl (lv_at hl 3 rfl) ?_
      refine lv_iconst (v := 1) hx hb dX6_hear_19 (by decide) ?_
      refine lv_bipush (v := 9) hx hb dX6_hear_20 (by decide) ?_
      obtain ⟨q_7, h_8, hf⟩ := nn_bind hf
      refine nn_calliS S (As := [.int (a3), .int ((1 : Int32)), .int ((9 : Int32))]) (rest := []) (c_X6_within l D cy ad A (sC σ c) a3 (1 : Int32) (9 : Int32) q_7 h_8) mv_X6_within tb_1_200 hK hw ⟨Nat.le_of_ble_eq_true rfl, Nat.le_of_ble_eq_true rfl⟩ ⟨Nat.zero_le _, Nat.zero_le _⟩ rfl hl.1 rfl (Nat.le_of_ble_eq_true rfl) dX6_hear_22 (fun H locs hw => ?_)
      refine lv_if_eq (tgt := 34) hx hb dX6_hear_25 (by decide) (fun c_9 => ?_) (fun c_9 => ?_)
      · rw [if_pos c_9] at hf
        refine lv_iconst (v := -1) hx hb dX6_hear_34 (by decide) ?_
        obtain rfl := Option.some.inj hf
        exact nn_iret S hr hlk hw rfl hσ dX6_hear_35
      · rw [if_neg c_9] at hf
        refine lv_iload hx hb dX6_hear_28 (lv_at hl 4 rfl) ?_
        refine lv_iconst (v := -1) hx hb dX6_hear_30 (by decide) ?_
        refine lv_icmp_ge (tgt := 36) hx hb dX6_hear_31 (by decide) (fun c_10 => ?_) (fun c_10 => ?_)
        · rw [if_pos c_10] at hf
          refine lv_iload hx hb dX6_hear_36 (lv_at hl 4 rfl) ?_
          refine lv_aload_n hx hb dX6_hear_38 rfl (lv_at hl 0 rfl) ?_
          refine gf_Nn_now S hK hw tb_1_165 dX6_hear_39 ?_
          refine gf_Vl_villages S hK hw (v := 0) (by decide) (x := (cV c 0)) rfl tb_1_40 dX6_hear_42 ?_
          refine lv_icmp_lt (tgt := 51) hx hb dX6_hear_45 (by decide) (fun c_11 => ?_) (fun c_11 => ?_)
          · rw [if_pos c_11] at hf
            refine lv_aload_n hx hb dX6_hear_51 rfl (lv_at hl 0 rfl) ?_
            refine gf_Nn_carrier S hK hw tb_1_172 dX6_hear_52 ?_
            refine lv_aload_n hx hb dX6_hear_55 rfl (lv_at hl 0 rfl) ?_
            refine gf_Nn_now S hK hw tb_1_165 dX6_hear_56 ?_
            refine lv_iload_n hx hb dX6_hear_59 rfl (lv_at hl 1 rfl) ?_
            refine lv_iload_n hx hb dX6_hear_60 rfl (lv_at hl 2 rfl) ?_
            refine lv_iload_n hx hb dX6_hear_61 rfl (lv_at hl 3 rfl) ?_
            obtain ⟨q_12, h_13, hf⟩ := nn_bind hf
            refine nn_calliV S (As := [.ref (ad (0)), .int (a1), .int (a2), .int (a3)]) (rest := []) (ce_O (k := 4) (by decide)) (by decide) rfl rfl (c_X0_soonest l D cy ad A (sC σ c) 0 (by decide) (g_Cs_ca c) rfl (cV c 0) rfl a1 a2 a3 q_12 h_13 (sC σ (s_Cs_ca c q_12.2)) rfl) mv_X0_soonest tb_3_7 hK hw ⟨Nat.le_of_ble_eq_true rfl, Nat.le_of_ble_eq_true rfl⟩ ⟨Nat.zero_le _, Nat.zero_le _⟩ rfl hl.1 rfl (Nat.le_of_ble_eq_true rfl) dX6_hear_62 (fun H locs hw => ?_)
            refine lv_istore (lv' := [(5, .int (q_12.1)), (0, .ref (ad (118))), (1, .int (a1)), (2, .int (a2)), (3, .int (a3)), (4, .int (a4))]) hx hb dX6_hear_65 hl (by decide) rfl (fun ls hl => ?_)
            refine lv_iload hx hb dX6_hear_67 (lv_at hl 5 rfl) ?_
            refine lv_iconst (v := -1) hx hb dX6_hear_69 (by decide) ?_
            refine lv_icmp_ne (tgt := 78) hx hb dX6_hear_70 (by decide) (fun c_14 => ?_) (fun c_14 => ?_)
            · rw [if_neg c_14] at hf
              refine lv_aload_n hx hb dX6_hear_78 rfl (lv_at hl 1 rfl) ?_
              refine gf_Nn_carrier S hK hw tb_1_172 dX6_hear_79 ?_
              refine gf_Ca_bestOrder S hK hw tb_1_111 dX6_hear_82 ?_
              refine lv_iload hx hb dX6_hear_85 (lv_at hl 5 rfl) ?_
              obtain ⟨g_15, hf⟩ := nn_ix_some hf
              refine al_Ca_bestOrder S hK hw (x := (g_Cs_ca (s_Cs_ca c q_12.2))) rfl g_15 dX6_hear_87 ?_
              obtain rfl := Option.some.inj hf
              exact nn_iret S hr hlk hw rfl hσ dX6_hear_88
            · rw [if_pos c_14] at hf
              refine lv_iload hx hb dX6_hear_73 (lv_at hl 0 rfl) ?_
              refine lv_goto (tgt := 88) hx hb dX6_hear_75 (by decide) ?_
              obtain rfl := Option.some.inj hf
              exact nn_iret S hr hlk hw rfl hσ dX6_hear_88
          · rw [if_neg c_11] at hf
            refine lv_bipush (v := -4) hx hb dX6_hear_48 (by decide) ?_
            obtain rfl := Option.some.inj hf
            exact nn_iret S hr hlk hw rfl hσ dX6_hear_50
        · rw [if_neg c_10] at hf
          refine lv_iconst (v := -1) hx hb dX6_hear_34 (by decide) ?_
          obtain rfl := Option.some.inj hf
          exact nn_iret S hr hlk hw rfl hσ dX6_hear_35
set_option maxRecDepth 100000 in
set_option maxHeartbeats 4000000 in
theorem c_X6_again (l : Launch) (D : va_G) (cy : Nat → ClassId) (ad : Nat → Nat) (A : Nat → Prop) (σ : nG) (c : nCs) (hx_C : gC σ = c) (q : Int32 × nCs) (hf : f_X6_again c = some q) (σ' : nG) (hσ : (sC σ q.2) = σ') : nn_I l yX6_again (nn_ws yX6_again cX6_again 2 (some .int)) (nn_R 4) D cy ad A [.ref (ad (118))] σ q.1 σ' := by
  refine nn_enterI (plainFor_of_name (by decide +kernel)) (Nat.le_of_ble_eq_true rfl) (lv := [(0, .ref (ad (118)))]) rfl ?_
  intro pp ee ss mm bb me co S hr hlk hK hw ls hl
  have hx := S.1
  have hb := S.2.1
  have hw : nn_W D cy ad A ss.heap (sC σ c) ss.heap [] := nn_W.eq (by rw [← hx_C]; rfl) hw
  unfold f_X6_again at hf
  have L13 : ∀ (n : Nat) (c : nCs) (u1 : Int32) (K : nCs → Int32 → Option (Int32 × nCs)), (∀ (c : nCs) (u1 : Int32), K c u1 = some q → ∀ (H : Heap) (locs : List Loc) (ls : Array Slot), nn_W D cy ad A ss.heap (sC σ c) H locs → lv_has ls 2 [(0, .ref (ad (118))), (1, .int (u1))] → W pp l ee (nn_R 4) ss mm ([.ref (ad (118))] : List Value).toArray bb me co H locs 0 0 (MQ bb (nn_qi D cy ad A q.1 σ') ([.ref (ad (118))] : List Value).toArray ss 0 0 A) (F0 mm 55 ls [])) → f_X6_again_L13 n c u1 K = some q → ∀ (H : Heap) (locs : List Loc) (ls : Array Slot), nn_W D cy ad A ss.heap (sC σ c) H locs → lv_has ls 2 [(0, .ref (ad (118))), (1, .int (u1))] → W pp l ee (nn_R 4) ss mm ([.ref (ad (118))] : List Value).toArray bb me co H locs 0 0 (MQ bb (nn_qi D cy ad A q.1 σ') ([.ref (ad (118))] : List Value).toArray ss 0 0 A) (F0 mm 13 ls []) := by
    intro n
    induction n with
    | zero => intro c u1 K hKK hf; exact absurd hf (by simp [f_X6_again_L13])
    | succ n ih =>
      intro c u1 K hKK hf H locs ls hw hl
      rw [f_X6_again_L13] at hf
      refine lv_iload_n hx hb dX6_again_13 rfl (lv_at hl 1 rfl) ?_
      refine lv_sipush (v := 240) hx hb dX6_again_14 (by decide) ?_
      refine lv_icmp_gt (tgt := 55) hx hb dX6_again_17 (by decide) (fun c_3 => ?_) (fun c_3 => ?_)
      · rw [if_pos c_3] at hf
        exact hKK c u1 hf _ _ _ hw (lv_sub hl [0, 1] rfl)
      · rw [if_neg c_3] at hf
        refine lv_aload_n hx hb dX6_again_20 rfl (lv_at hl 0 rfl) ?_
        refine gf_Nn_trial S hK hw tb_1_170 dX6_again_21 ?_
        obtain ⟨q_4, h_5, hf⟩ := nn_bind hf
        refine nn_callvV S (As := []) (rest := []) (ce_V (k := 0) (v := 2) (by decide) (by decide)) (by omega) rfl rfl (c_X5_passDay l D cy ad A (sC σ c) 2 (by decide) (cV c 2) rfl q_4 h_5 (sC σ (cVs c 2 q_4)) rfl) mv_X5_passDay tb_2_132 hK hw ⟨Nat.le_of_ble_eq_true rfl, Nat.le_of_ble_eq_true rfl⟩ ⟨Nat.zero_le _, Nat.zero_le _⟩ rfl hl.1 rfl (Nat.le_of_ble_eq_true rfl) dX6_again_24 (fun H locs hw => ?_)
        refine lv_iload_n hx hb dX6_again_27 rfl (lv_at hl 1 rfl) ?_
        refine lv_iconst (v := 2) hx hb dX6_again_28 (by decide) ?_
        refine lv_irem hx hb dX6_again_29 (by decide) ?_
        refine lv_if_ne (tgt := 49) hx hb dX6_again_30 (by decide) (fun c_6 => ?_) (fun c_6 => ?_)
        · rw [if_neg c_6] at hf
          refine lv_iinc (v := u1 + (1 : Int32)) (lv' := [(1, .int (u1 + (1 : Int32))), (0, .ref (ad (118)))]) hx hb dX6_again_49 hl (k := 1) rfl (congrArg (fun z => u1 + z) (by decide)) (by decide) rfl (fun ls hl => ?_)
          refine lv_goto (tgt := 13) hx hb dX6_again_52 (by decide) ?_
          exact ih (cVs c 2 q_4) (u1 + (1 : Int32)) K hKK hf _ _ _ hw (lv_sub hl [1, 0] rfl)
        · rw [if_pos c_6] at hf
          refine lv_aload_n hx hb dX6_again_33 rfl (lv_at hl 0 rfl) ?_
          refine gf_Nn_trial S hK hw tb_1_170 dX6_again_34 ?_
          refine lv_aload_n hx hb dX6_again_37 rfl (lv_at hl 0 rfl) ?_
          refine gf_Nn_now S hK hw tb_1_165 dX6_again_38 ?_
          obtain ⟨q_7, h_8, hf⟩ := nn_bind hf
          refine nn_calliV S (As := [.ref (ad (0))]) (rest := []) (ce_V (k := 0) (v := 2) (by decide) (by decide)) (by omega) rfl rfl (c_X5_ringsLike l D cy ad A (sC σ (cVs c 2 q_4)) 2 (by decide) 0 (by decide) (cV (cVs c 2 q_4) 2) rfl (cV (cVs c 2 q_4) 0) rfl q_7 h_8) mv_X5_ringsLike tb_3_29 hK hw ⟨Nat.le_of_ble_eq_true rfl, Nat.le_of_ble_eq_true rfl⟩ ⟨Nat.zero_le _, Nat.zero_le _⟩ rfl hl.1 rfl (Nat.le_of_ble_eq_true rfl) dX6_again_41 (fun H locs hw => ?_)
          refine lv_if_eq (tgt := 49) hx hb dX6_again_44 (by decide) (fun c_9 => ?_) (fun c_9 => ?_)
          · rw [if_pos c_9] at hf
            refine lv_iinc (v := u1 + (1 : Int32)) (lv' := [(1, .int (u1 + (1 : Int32))), (0, .ref (ad (118)))]) hx hb dX6_again_49 hl (k := 1) rfl (congrArg (fun z => u1 + z) (by decide)) (by decide) rfl (fun ls hl => ?_)
            refine lv_goto (tgt := 13) hx hb dX6_again_52 (by decide) ?_
            exact ih (cVs c 2 q_4) (u1 + (1 : Int32)) K hKK hf _ _ _ hw (lv_sub hl [1, 0] rfl)
          · rw [if_neg c_9] at hf
            refine lv_iload_n hx hb dX6_again_47 rfl (lv_at hl 1 rfl) ?_
            obtain rfl := Option.some.inj hf
            exact nn_iret S hr hlk hw rfl hσ dX6_again_48
  refine lv_aload_n hx hb dX6_again_0 rfl (lv_at hl 0 rfl) ?_
  refine gf_Nn_trial S hK hw tb_1_170 dX6_again_1 ?_
  refine lv_aload_n hx hb dX6_again_4 rfl (lv_at hl 0 rfl) ?_
  refine gf_Nn_now S hK hw tb_1_165 dX6_again_5 ?_
  obtain ⟨q_1, h_2, hf⟩ := nn_bind hf
  refine nn_callvV S (As := [.ref (ad (0))]) (rest := []) (ce_V (k := 0) (v := 2) (by decide) (by decide)) (by omega) rfl rfl (c_X5_becomeLike l D cy ad A (sC σ c) 2 (by decide) 0 (by decide) (by omega) (cV c 2) rfl (cV c 0) rfl q_1 h_2 (sC σ (cVs c 2 q_1)) rfl) mv_X5_becomeLike tb_2_33 hK hw ⟨Nat.le_of_ble_eq_true rfl, Nat.le_of_ble_eq_true rfl⟩ ⟨Nat.zero_le _, Nat.zero_le _⟩ rfl hl.1 rfl (Nat.le_of_ble_eq_true rfl) dX6_again_8 (fun H locs hw => ?_)
  refine lv_iconst (v := 1) hx hb dX6_again_11 (by decide) ?_
  refine lv_istore_n (lv' := [(1, .int ((1 : Int32))), (0, .ref (ad (118)))]) hx hb dX6_again_12 rfl hl (by decide) rfl (fun ls hl => ?_)
  refine L13 100000 (cVs c 2 q_1) (1 : Int32) _ (fun c_11 b1_10 hf H locs ls hw hl => ?_) hf _ _ _ hw (lv_sub hl [1, 0] rfl)
  refine lv_bipush (v := -4) hx hb dX6_again_55 (by decide) ?_
  obtain rfl := Option.some.inj hf
  exact nn_iret S hr hlk hw rfl hσ dX6_again_57
