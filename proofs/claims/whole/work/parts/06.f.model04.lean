set_option maxRecDepth 100000 in
set_option maxHeartbeats 4000000 in
theorem c_X7_film (l : Launch) (D : va_G) (cy : Nat → ClassId) (ad : Nat → Nat) (A : Nat → Prop) (σ : nG) (m : nMd) (hx_M : gM σ = m) (a1 : Int32) (a2 : Int32) (a3 : Int32) (a4 : Int32) (a5 : Int32) (q : Int32 × nMd) (hf : f_X7_film m a1 a2 a3 a4 a5 = some q) (σ' : nG) (hσ : (sM σ q.2) = σ') : nn_I l yX7_film (nn_ws yX7_film cX7_film 8 (some .int)) (nn_R 5) D cy ad A [.ref (ad (136)), .int (a1), .int (a2), .int (a3), .int (a4), .int (a5)] σ q.1 σ' := by
  refine nn_enterI (plainFor_of_name (by decide +kernel)) (Nat.le_of_ble_eq_true rfl) (lv := [(0, .ref (ad (136))), (1, .int (a1)), (2, .int (a2)), (3, .int (a3)), (4, .int (a4)), (5, .int (a5))]) rfl ?_
  intro pp ee ss mm bb me co S hr hlk hK hw ls hl
  have hx := S.1
  have hb := S.2.1
  have hw : nn_W D cy ad A ss.heap (sM σ m) ss.heap [] := nn_W.eq (by rw [← hx_M]; rfl) hw
  unfold f_X7_film at hf
  have L64 : ∀ (n : Nat) (m : nMd) (u1 : Int32) (u2 : Int32) (u3 : Int32) (u5 : Int32) (u7 : Int32) (K : nMd → Int32 → Int32 → Int32 → Int32 → Int32 → Option (Int32 × nMd)), (∀ (m : nMd) (u1 : Int32) (u2 : Int32) (u3 : Int32) (u5 : Int32) (u7 : Int32), K m u1 u2 u3 u5 u7 = some q → ∀ (H : Heap) (locs : List Loc) (ls : Array Slot), nn_W D cy ad A ss.heap (sM σ m) H locs → lv_has ls 8 [(0, .ref (ad (136))), (1, .int (u1)), (2, .int (u2)), (3, .int (u3)), (5, .int (u5)), (7, .int (u7))] → W pp l ee (nn_R 5) ss mm ([.ref (ad (136)), .int (a1), .int (a2), .int (a3), .int (a4), .int (a5)] : List Value).toArray bb me co H locs 0 0 (MQ bb (nn_qi D cy ad A q.1 σ') ([.ref (ad (136)), .int (a1), .int (a2), .int (a3), .int (a4), .int (a5)] : List Value).toArray ss 0 0 A) (F0 mm 101 ls [])) → f_X7_film_L64 n m u1 u2 u3 u5 u7 K = some q → ∀ (H : Heap) (locs : List Loc) (ls : Array Slot), nn_W D cy ad A ss.heap (sM σ m) H locs → lv_has ls 8 [(0, .ref (ad (136))), (1, .int (u1)), (2, .int (u2)), (3, .int (u3)), (5, .int (u5)), (7, .int (u7))] → W pp l ee (nn_R 5) ss mm ([.ref (ad (136)), .int (a1), .int (a2), .int (a3), .int (a4), .int (a5)] : List Value).toArray bb me co H locs 0 0 (MQ bb (nn_qi D cy ad A q.1 σ') ([.ref (ad (136)), .int (a1), .int (a2), .int (a3), .int (a4), .int (a5)] : List Value).toArray ss 0 0 A) (F0 mm 64 ls []) := by
    intro n
    induction n with
    | zero => intro m u1 u2 u3 u5 u7 K hKK hf; exact absurd hf (by simp [f_X7_film_L64])
    | succ n ih =>
      intro m u1 u2 u3 u5 u7 K hKK hf H locs ls hw hl
      rw [f_X7_film_L64] at hf
      refine lv_iload hx hb dX7_film_64 (lv_at hl 5 rfl) ?_
      refine lv_iload_n hx hb dX7_film_66 rfl (lv_at hl 2 rfl) ?_
      refine lv_icmp_ge (tgt := 101) hx hb dX7_film_67 (by decide) (fun c_18 => ?_) (fun c_18 => ?_)
      · rw [if_pos c_18] at hf
        exact hKK m u1 u2 u3 u5 u7 hf _ _ _ hw (lv_sub hl [0, 1, 2, 3, 4, 5] rfl)
      · rw [if_neg c_18] at hf
        refine lv_aload_n hx hb dX7_film_70 rfl (lv_at hl 0 rfl) ?_
        obtain ⟨q_19, h_20, hf⟩ := nn_bind hf
        refine nn_callvV S (As := []) (rest := []) (ce_M (k := 0)) (by decide) rfl rfl (c_X7_goesBy l D cy ad A (sM σ m) m rfl q_19 h_20 (sM σ q_19) rfl) mv_X7_goesBy tb_4_87 hK hw ⟨Nat.le_of_ble_eq_true rfl, Nat.le_of_ble_eq_true rfl⟩ ⟨Nat.zero_le _, Nat.zero_le _⟩ rfl hl.1 rfl (Nat.le_of_ble_eq_true rfl) dX7_film_71 (fun H locs hw => ?_)
        refine lv_aload_n hx hb dX7_film_74 rfl (lv_at hl 0 rfl) ?_
        refine gf_Md_items S hK hw tb_3_164 dX7_film_75 ?_
        refine lv_bipush (v := 24) hx hb dX7_film_78 (by decide) ?_
        refine lv_iload_n hx hb dX7_film_80 rfl (lv_at hl 3 rfl) ?_
        refine lv_imul hx hb dX7_film_81 ?_
        refine lv_iload hx hb dX7_film_82 (lv_at hl 4 rfl) ?_
        refine lv_iadd hx hb dX7_film_84 ?_
        refine lv_iload hx hb dX7_film_85 (lv_at hl 5 rfl) ?_
        refine lv_iadd hx hb dX7_film_87 ?_
        refine lv_aload_n hx hb dX7_film_88 rfl (lv_at hl 0 rfl) ?_
        refine lv_iload_n hx hb dX7_film_89 rfl (lv_at hl 1 rfl) ?_
        obtain ⟨q_21, h_22, hf⟩ := nn_bind hf
        refine nn_calliV S (As := [.int (u1)]) (rest := [.int ((((24 : Int32) * u3) + u5) + u7), .ref (ad (149))]) (ce_M (k := 0)) (by decide) rfl rfl (c_X7_minuteOf l D cy ad A (sM σ q_19) q_19 rfl u1 q_21 h_22) mv_X7_minuteOf tb_4_8 hK hw ⟨Nat.le_of_ble_eq_true rfl, Nat.le_of_ble_eq_true rfl⟩ ⟨Nat.zero_le _, Nat.zero_le _⟩ rfl hl.1 rfl (Nat.le_of_ble_eq_true rfl) dX7_film_90 (fun H locs hw => ?_)
        refine lv_i2l (v := q_21.toInt64) hx hb dX7_film_93 rfl ?_
        obtain ⟨g_23, hf⟩ := nn_ix_some hf
        obtain ⟨m_24, h_25, hf⟩ := nn_bind hf
        replace h_25 := Option.some.inj h_25
        refine as_Md_items S hK hw (x := q_19) rfl g_23 (τ' := (sM σ m_24)) ((rfl : _ = (sM σ (s_Md_items q_19 (vp_updL (g_Md_items q_19) ((((24 : Int32) * u3) + u5) + u7).toNatClampNeg q_21.toInt64)))).trans (by rw [h_25])) dX7_film_94 (fun H locs hw => ?_)
        refine lv_iinc (v := u7 + (1 : Int32)) (lv' := [(7, .int (u7 + (1 : Int32))), (0, .ref (ad (136))), (1, .int (u1)), (2, .int (u2)), (3, .int (u3)), (5, .int (u5))]) hx hb dX7_film_95 hl (k := 5) rfl (congrArg (fun z => u7 + z) (by decide)) (by decide) rfl (fun ls hl => ?_)
        refine lv_goto (tgt := 64) hx hb dX7_film_98 (by decide) ?_
        exact ih m_24 u1 u2 u3 u5 (u7 + (1 : Int32)) K hKK hf _ _ _ hw (lv_sub hl [1, 2, 3, 4, 5, 0] rfl)
  refine lv_aload_n hx hb dX7_film_0 rfl (lv_at hl 0 rfl) ?_
  refine lv_iload_n hx hb dX7_film_1 rfl (lv_at hl 1 rfl) ?_
  obtain ⟨q_1, h_2, hf⟩ := nn_bind hf
  refine nn_calliV S (As := [.int (a1)]) (rest := []) (ce_M (k := 0)) (by decide) rfl rfl (c_X7_isVillage l D cy ad A (sM σ m) m rfl a1 q_1 h_2) mv_X7_isVillage tb_3_232 hK hw ⟨Nat.le_of_ble_eq_true rfl, Nat.le_of_ble_eq_true rfl⟩ ⟨Nat.zero_le _, Nat.zero_le _⟩ rfl hl.1 rfl (Nat.le_of_ble_eq_true rfl) dX7_film_2 (fun H locs hw => ?_)
  refine lv_if_eq (tgt := 35) hx hb dX7_film_5 (by decide) (fun c_3 => ?_) (fun c_3 => ?_)
  · rw [if_pos c_3] at hf
    refine lv_iconst (v := -1) hx hb dX7_film_35 (by decide) ?_
    obtain rfl := Option.some.inj hf
    exact nn_iret S hr hlk hw rfl hσ dX7_film_36
  · rw [if_neg c_3] at hf
    refine lv_iload_n hx hb dX7_film_8 rfl (lv_at hl 2 rfl) ?_
    refine lv_i2l (v := a2.toInt64) hx hb dX7_film_9 rfl ?_
    refine lv_lconst (v := 1) hx hb dX7_film_10 (by decide) ?_
    refine lv_ldc2 (v := 24) hx hb S.2.2.2.1 (S.2.2.2.2 _ tb_4_235) dX7_film_11 ?_
    obtain ⟨q_4, h_5, hf⟩ := nn_bind hf
    refine nn_calliS S (As := [.long (a2.toInt64), .long ((1 : Int64)), .long ((24 : Int64))]) (rest := []) (c_X7_in l D cy ad A (sM σ m) a2.toInt64 (1 : Int64) (24 : Int64) q_4 h_5) mv_X7_in tb_3_214 hK hw ⟨Nat.le_of_ble_eq_true rfl, Nat.le_of_ble_eq_true rfl⟩ ⟨Nat.zero_le _, Nat.zero_le _⟩ rfl hl.1 rfl (Nat.le_of_ble_eq_true rfl) dX7_film_14 (fun H locs hw => ?_)
    refine lv_if_eq (tgt := 35) hx hb dX7_film_17 (by decide) (fun c_6 => ?_) (fun c_6 => ?_)
    · rw [if_pos c_6] at hf
      refine lv_iconst (v := -1) hx hb dX7_film_35 (by decide) ?_
      obtain rfl := Option.some.inj hf
      exact nn_iret S hr hlk hw rfl hσ dX7_film_36
    · rw [if_neg c_6] at hf
      refine lv_iload_n hx hb dX7_film_20 rfl (lv_at hl 3 rfl) ?_
      obtain ⟨q_7, h_8, hf⟩ := nn_bind hf
      refine nn_calliS S (As := [.int (a3)]) (rest := []) (c_X7_isSheet l D cy ad A (sM σ m) a3 q_7 h_8) mv_X7_isSheet tb_4_215 hK hw ⟨Nat.le_of_ble_eq_true rfl, Nat.le_of_ble_eq_true rfl⟩ ⟨Nat.zero_le _, Nat.zero_le _⟩ rfl hl.1 rfl (Nat.le_of_ble_eq_true rfl) dX7_film_21 (fun H locs hw => ?_)
      refine lv_if_eq (tgt := 35) hx hb dX7_film_24 (by decide) (fun c_9 => ?_) (fun c_9 => ?_)
      · rw [if_pos c_9] at hf
        refine lv_iconst (v := -1) hx hb dX7_film_35 (by decide) ?_
        obtain rfl := Option.some.inj hf
        exact nn_iret S hr hlk hw rfl hσ dX7_film_36
      · rw [if_neg c_9] at hf
        refine lv_iload hx hb dX7_film_27 (lv_at hl 4 rfl) ?_
        obtain ⟨q_10, h_11, hf⟩ := nn_bind hf
        refine nn_calliS S (As := [.int (a4)]) (rest := []) (c_X7_isLane l D cy ad A (sM σ m) a4 q_10 h_11) mv_X7_isLane tb_4_219 hK hw ⟨Nat.le_of_ble_eq_true rfl, Nat.le_of_ble_eq_true rfl⟩ ⟨Nat.zero_le _, Nat.zero_le _⟩ rfl hl.1 rfl (Nat.le_of_ble_eq_true rfl) dX7_film_29 (fun H locs hw => ?_)
        refine lv_if_ne (tgt := 37) hx hb dX7_film_32 (by decide) (fun c_12 => ?_) (fun c_12 => ?_)
        · rw [if_neg c_12] at hf
          refine lv_aload_n hx hb dX7_film_37 rfl (lv_at hl 0 rfl) ?_
          refine lv_iload_n hx hb dX7_film_38 rfl (lv_at hl 3 rfl) ?_
          refine lv_iload hx hb dX7_film_39 (lv_at hl 4 rfl) ?_
          refine lv_iload hx hb dX7_film_41 (lv_at hl 5 rfl) ?_
          refine lv_iload_n hx hb dX7_film_43 rfl (lv_at hl 2 rfl) ?_
          obtain ⟨q_13, h_14, hf⟩ := nn_bind hf
          refine nn_calliV S (As := [.int (a3), .int (a4), .int (a5), .int (a2)]) (rest := []) (ce_M (k := 0)) (by decide) rfl rfl (c_X7_why l D cy ad A (sM σ m) m rfl a3 a4 a5 a2 q_13 h_14) mv_X7_why tb_4_223 hK hw ⟨Nat.le_of_ble_eq_true rfl, Nat.le_of_ble_eq_true rfl⟩ ⟨Nat.zero_le _, Nat.zero_le _⟩ rfl hl.1 rfl (Nat.le_of_ble_eq_true rfl) dX7_film_44 (fun H locs hw => ?_)
          refine lv_istore (lv' := [(6, .int (q_13)), (0, .ref (ad (136))), (1, .int (a1)), (2, .int (a2)), (3, .int (a3)), (4, .int (a4)), (5, .int (a5))]) hx hb dX7_film_47 hl (by decide) rfl (fun ls hl => ?_)
          refine lv_iload hx hb dX7_film_49 (lv_at hl 0 rfl) ?_
          refine lv_if_ge (tgt := 57) hx hb dX7_film_51 (by decide) (fun c_15 => ?_) (fun c_15 => ?_)
          · rw [if_pos c_15] at hf
            refine lv_aload_n hx hb dX7_film_57 rfl (lv_at hl 1 rfl) ?_
            obtain ⟨q_16, h_17, hf⟩ := nn_bind hf
            refine nn_callvV S (As := []) (rest := []) (ce_M (k := 0)) (by decide) rfl rfl (c_X7_asides l D cy ad A (sM σ m) m rfl q_16 h_17 (sM σ q_16) rfl) mv_X7_asides tb_4_129 hK hw ⟨Nat.le_of_ble_eq_true rfl, Nat.le_of_ble_eq_true rfl⟩ ⟨Nat.zero_le _, Nat.zero_le _⟩ rfl hl.1 rfl (Nat.le_of_ble_eq_true rfl) dX7_film_58 (fun H locs hw => ?_)
            refine lv_iconst (v := 0) hx hb dX7_film_61 (by decide) ?_
            refine lv_istore (lv' := [(7, .int ((0 : Int32))), (6, .int (q_13)), (0, .ref (ad (136))), (1, .int (a1)), (2, .int (a2)), (3, .int (a3)), (4, .int (a4)), (5, .int (a5))]) hx hb dX7_film_62 hl (by decide) rfl (fun ls hl => ?_)
            refine L64 100000 q_16 a1 a2 a3 a5 (0 : Int32) _ (fun m_31 b1_26 b2_27 b3_28 b5_29 b7_30 hf H locs ls hw hl => ?_) hf _ _ _ hw (lv_sub hl [2, 3, 4, 5, 7, 0] rfl)
            refine lv_aload_n hx hb dX7_film_101 rfl (lv_at hl 0 rfl) ?_
            obtain ⟨q_32, h_33, hf⟩ := nn_bind hf
            refine nn_callvV S (As := []) (rest := []) (ce_M (k := 0)) (by decide) rfl rfl (c_X7_backs l D cy ad A (sM σ m_31) m_31 rfl q_32 h_33 (sM σ q_32) rfl) mv_X7_backs tb_4_137 hK hw ⟨Nat.le_of_ble_eq_true rfl, Nat.le_of_ble_eq_true rfl⟩ ⟨Nat.zero_le _, Nat.zero_le _⟩ rfl hl.1 rfl (Nat.le_of_ble_eq_true rfl) dX7_film_102 (fun H locs hw => ?_)
            refine lv_iload_n hx hb dX7_film_105 rfl (lv_at hl 2 rfl) ?_
            obtain rfl := Option.some.inj hf
            exact nn_iret S hr hlk hw rfl hσ dX7_film_106
          · rw [if_neg c_15] at hf
            refine lv_iload hx hb dX7_film_54 (lv_at hl 0 rfl) ?_
            obtain rfl := Option.some.inj hf
            exact nn_iret S hr hlk hw rfl hσ dX7_film_56
        · rw [if_pos c_12] at hf
          refine lv_iconst (v := -1) hx hb dX7_film_35 (by decide) ?_
          obtain rfl := Option.some.inj hf
          exact nn_iret S hr hlk hw rfl hσ dX7_film_36
set_option maxRecDepth 100000 in
set_option maxHeartbeats 4000000 in
theorem c_X7_sheet (l : Launch) (D : va_G) (cy : Nat → ClassId) (ad : Nat → Nat) (A : Nat → Prop) (σ : nG) (m : nMd) (hx_M : gM σ = m) (a1 : Int32) (a2 : Int32) (a3 : Int32) (q : Int32 × nMd) (hf : f_X7_sheet m a1 a2 a3 = some q) (σ' : nG) (hσ : (sM σ q.2) = σ') : nn_I l yX7_sheet (nn_ws yX7_sheet cX7_sheet 5 (some .int)) (nn_R 2) D cy ad A [.ref (ad (136)), .int (a1), .int (a2), .int (a3)] σ q.1 σ' := by
  refine nn_enterI (plainFor_of_name (by decide +kernel)) (Nat.le_of_ble_eq_true rfl) (lv := [(0, .ref (ad (136))), (1, .int (a1)), (2, .int (a2)), (3, .int (a3))]) rfl ?_
  intro pp ee ss mm bb me co S hr hlk hK hw ls hl
  have hx := S.1
  have hb := S.2.1
  have hw : nn_W D cy ad A ss.heap (sM σ m) ss.heap [] := nn_W.eq (by rw [← hx_M]; rfl) hw
  unfold f_X7_sheet at hf
  have L46 : ∀ (n : Nat) (m : nMd) (u1 : Int32) (u3 : Int32) (u4 : Int32) (K : nMd → Int32 → Int32 → Int32 → Option (Int32 × nMd)), (∀ (m : nMd) (u1 : Int32) (u3 : Int32) (u4 : Int32), K m u1 u3 u4 = some q → ∀ (H : Heap) (locs : List Loc) (ls : Array Slot), nn_W D cy ad A ss.heap (sM σ m) H locs → lv_has ls 5 [(0, .ref (ad (136))), (1, .int (u1)), (3, .int (u3)), (4, .int (u4))] → W pp l ee (nn_R 2) ss mm ([.ref (ad (136)), .int (a1), .int (a2), .int (a3)] : List Value).toArray bb me co H locs 0 0 (MQ bb (nn_qi D cy ad A q.1 σ') ([.ref (ad (136)), .int (a1), .int (a2), .int (a3)] : List Value).toArray ss 0 0 A) (F0 mm 72 ls [])) → f_X7_sheet_L46 n m u1 u3 u4 K = some q → ∀ (H : Heap) (locs : List Loc) (ls : Array Slot), nn_W D cy ad A ss.heap (sM σ m) H locs → lv_has ls 5 [(0, .ref (ad (136))), (1, .int (u1)), (3, .int (u3)), (4, .int (u4))] → W pp l ee (nn_R 2) ss mm ([.ref (ad (136)), .int (a1), .int (a2), .int (a3)] : List Value).toArray bb me co H locs 0 0 (MQ bb (nn_qi D cy ad A q.1 σ') ([.ref (ad (136)), .int (a1), .int (a2), .int (a3)] : List Value).toArray ss 0 0 A) (F0 mm 46 ls []) := by
    intro n
    induction n with
    | zero => intro m u1 u3 u4 K hKK hf; exact absurd hf (by simp [f_X7_sheet_L46])
    | succ n ih =>
      intro m u1 u3 u4 K hKK hf H locs ls hw hl
      rw [f_X7_sheet_L46] at hf
      refine lv_iload hx hb dX7_sheet_46 (lv_at hl 3 rfl) ?_
      refine lv_bipush (v := 24) hx hb dX7_sheet_48 (by decide) ?_
      refine lv_icmp_ge (tgt := 72) hx hb dX7_sheet_50 (by decide) (fun c_13 => ?_) (fun c_13 => ?_)
      · rw [if_pos c_13] at hf
        exact hKK m u1 u3 u4 hf _ _ _ hw (lv_sub hl [0, 1, 2, 3] rfl)
      · rw [if_neg c_13] at hf
        refine lv_aload_n hx hb dX7_sheet_53 rfl (lv_at hl 0 rfl) ?_
        refine gf_Md_items S hK hw tb_3_164 dX7_sheet_54 ?_
        refine lv_bipush (v := 24) hx hb dX7_sheet_57 (by decide) ?_
        refine lv_iload_n hx hb dX7_sheet_59 rfl (lv_at hl 1 rfl) ?_
        refine lv_imul hx hb dX7_sheet_60 ?_
        refine lv_iload hx hb dX7_sheet_61 (lv_at hl 3 rfl) ?_
        refine lv_iadd hx hb dX7_sheet_63 ?_
        refine lv_lconst (v := 0) hx hb dX7_sheet_64 (by decide) ?_
        obtain ⟨g_14, hf⟩ := nn_ix_some hf
        obtain ⟨m_15, h_16, hf⟩ := nn_bind hf
        replace h_16 := Option.some.inj h_16
        refine as_Md_items S hK hw (x := m) rfl g_14 (τ' := (sM σ m_15)) ((rfl : _ = (sM σ (s_Md_items m (vp_updL (g_Md_items m) (((24 : Int32) * u1) + u4).toNatClampNeg (0 : Int64))))).trans (by rw [h_16])) dX7_sheet_65 (fun H locs hw => ?_)
        refine lv_iinc (v := u4 + (1 : Int32)) (lv' := [(4, .int (u4 + (1 : Int32))), (0, .ref (ad (136))), (1, .int (u1)), (3, .int (u3))]) hx hb dX7_sheet_66 hl (k := 3) rfl (congrArg (fun z => u4 + z) (by decide)) (by decide) rfl (fun ls hl => ?_)
        refine lv_goto (tgt := 46) hx hb dX7_sheet_69 (by decide) ?_
        exact ih m_15 u1 u3 (u4 + (1 : Int32)) K hKK hf _ _ _ hw (lv_sub hl [1, 2, 3, 0] rfl)
  refine lv_iload_n hx hb dX7_sheet_0 rfl (lv_at hl 1 rfl) ?_
  obtain ⟨q_1, h_2, hf⟩ := nn_bind hf
  refine nn_calliS S (As := [.int (a1)]) (rest := []) (c_X7_isSheet l D cy ad A (sM σ m) a1 q_1 h_2) mv_X7_isSheet tb_4_215 hK hw ⟨Nat.le_of_ble_eq_true rfl, Nat.le_of_ble_eq_true rfl⟩ ⟨Nat.zero_le _, Nat.zero_le _⟩ rfl hl.1 rfl (Nat.le_of_ble_eq_true rfl) dX7_sheet_1 (fun H locs hw => ?_)
  refine lv_if_eq (tgt := 20) hx hb dX7_sheet_4 (by decide) (fun c_3 => ?_) (fun c_3 => ?_)
  · rw [if_pos c_3] at hf
    refine lv_iconst (v := -1) hx hb dX7_sheet_20 (by decide) ?_
    obtain rfl := Option.some.inj hf
    exact nn_iret S hr hlk hw rfl hσ dX7_sheet_21
  · rw [if_neg c_3] at hf
    refine lv_iload_n hx hb dX7_sheet_7 rfl (lv_at hl 2 rfl) ?_
    obtain ⟨q_4, h_5, hf⟩ := nn_bind hf
    refine nn_calliS S (As := [.int (a2)]) (rest := []) (c_X7_isLane l D cy ad A (sM σ m) a2 q_4 h_5) mv_X7_isLane tb_4_219 hK hw ⟨Nat.le_of_ble_eq_true rfl, Nat.le_of_ble_eq_true rfl⟩ ⟨Nat.zero_le _, Nat.zero_le _⟩ rfl hl.1 rfl (Nat.le_of_ble_eq_true rfl) dX7_sheet_8 (fun H locs hw => ?_)
    refine lv_if_eq (tgt := 20) hx hb dX7_sheet_11 (by decide) (fun c_6 => ?_) (fun c_6 => ?_)
    · rw [if_pos c_6] at hf
      refine lv_iconst (v := -1) hx hb dX7_sheet_20 (by decide) ?_
      obtain rfl := Option.some.inj hf
      exact nn_iret S hr hlk hw rfl hσ dX7_sheet_21
    · rw [if_neg c_6] at hf
      refine lv_iload_n hx hb dX7_sheet_14 rfl (lv_at hl 3 rfl) ?_
      refine lv_bipush (v := 24) hx hb dX7_sheet_15 (by decide) ?_
      refine lv_icmp_le (tgt := 22) hx hb dX7_sheet_17 (by decide) (fun c_7 => ?_) (fun c_7 => ?_)
      · rw [if_pos c_7] at hf
        refine lv_iload_n hx hb dX7_sheet_22 rfl (lv_at hl 3 rfl) ?_
        refine lv_if_ge (tgt := 29) hx hb dX7_sheet_23 (by decide) (fun c_8 => ?_) (fun c_8 => ?_)
        · rw [if_pos c_8] at hf
          refine lv_aload_n hx hb dX7_sheet_29 rfl (lv_at hl 0 rfl) ?_
          refine gf_Md_lanes S hK hw tb_3_162 dX7_sheet_30 ?_
          refine lv_iload_n hx hb dX7_sheet_33 rfl (lv_at hl 1 rfl) ?_
          refine lv_iload_n hx hb dX7_sheet_34 rfl (lv_at hl 2 rfl) ?_
          obtain ⟨g_9, hf⟩ := nn_ix_some hf
          refine as_Md_lanes S hK hw (x := m) rfl g_9 (τ' := (sM σ (s_Md_lanes m (upd (g_Md_lanes m) a1.toNatClampNeg a2)))) rfl dX7_sheet_35 (fun H locs hw => ?_)
          refine lv_aload_n hx hb dX7_sheet_36 rfl (lv_at hl 0 rfl) ?_
          refine gf_Md_sizes S hK hw tb_3_163 dX7_sheet_37 ?_
          refine lv_iload_n hx hb dX7_sheet_40 rfl (lv_at hl 1 rfl) ?_
          refine lv_iload_n hx hb dX7_sheet_41 rfl (lv_at hl 3 rfl) ?_
          obtain ⟨g_10, hf⟩ := nn_ix_some hf
          obtain ⟨m_11, h_12, hf⟩ := nn_bind hf
          replace h_12 := Option.some.inj h_12
          refine as_Md_sizes S hK hw (x := (s_Md_lanes m (upd (g_Md_lanes m) a1.toNatClampNeg a2))) rfl g_10 (τ' := (sM σ m_11)) ((rfl : _ = (sM σ (s_Md_sizes (s_Md_lanes m (upd (g_Md_lanes m) a1.toNatClampNeg a2)) (upd (g_Md_sizes (s_Md_lanes m (upd (g_Md_lanes m) a1.toNatClampNeg a2))) a1.toNatClampNeg a3)))).trans (by rw [h_12])) dX7_sheet_42 (fun H locs hw => ?_)
          refine lv_iconst (v := 0) hx hb dX7_sheet_43 (by decide) ?_
          refine lv_istore (lv' := [(4, .int ((0 : Int32))), (0, .ref (ad (136))), (1, .int (a1)), (2, .int (a2)), (3, .int (a3))]) hx hb dX7_sheet_44 hl (by decide) rfl (fun ls hl => ?_)
          refine L46 100000 m_11 a1 a3 (0 : Int32) _ (fun m_20 b1_17 b3_18 b4_19 hf H locs ls hw hl => ?_) hf _ _ _ hw (lv_sub hl [1, 2, 4, 0] rfl)
          refine lv_iload_n hx hb dX7_sheet_72 rfl (lv_at hl 2 rfl) ?_
          obtain rfl := Option.some.inj hf
          exact nn_iret S hr hlk hw rfl hσ dX7_sheet_73
        · rw [if_neg c_8] at hf
          refine lv_bipush (v := -14) hx hb dX7_sheet_26 (by decide) ?_
          obtain rfl := Option.some.inj hf
          exact nn_iret S hr hlk hw rfl hσ dX7_sheet_28
      · rw [if_neg c_7] at hf
        refine lv_iconst (v := -1) hx hb dX7_sheet_20 (by decide) ?_
        obtain rfl := Option.some.inj hf
        exact nn_iret S hr hlk hw rfl hσ dX7_sheet_21
set_option maxRecDepth 100000 in
set_option maxHeartbeats 4000000 in
theorem c_X7_drop (l : Launch) (D : va_G) (cy : Nat → ClassId) (ad : Nat → Nat) (A : Nat → Prop) (σ : nG) (m : nMd) (hx_M : gM σ = m) (a1 : Int32) (q : Int32 × nMd) (hf : f_X7_drop m a1 = some q) (σ' : nG) (hσ : (sM σ q.2) = σ') : nn_I l yX7_drop (nn_ws yX7_drop cX7_drop 2 (some .int)) (nn_R 2) D cy ad A [.ref (ad (136)), .int (a1)] σ q.1 σ' := by
  refine nn_enterI (plainFor_of_name (by decide +kernel)) (Nat.le_of_ble_eq_true rfl) (lv := [(0, .ref (ad (136))), (1, .int (a1))]) rfl ?_
  intro pp ee ss mm bb me co S hr hlk hK hw ls hl
  have hx := S.1
  have hb := S.2.1
  have hw : nn_W D cy ad A ss.heap (sM σ m) ss.heap [] := nn_W.eq (by rw [← hx_M]; rfl) hw
  unfold f_X7_drop at hf
  refine lv_iload_n hx hb dX7_drop_0 rfl (lv_at hl 1 rfl) ?_
  obtain ⟨q_1, h_2, hf⟩ := nn_bind hf
  refine nn_calliS S (As := [.int (a1)]) (rest := []) (c_X7_isSheet l D cy ad A (sM σ m) a1 q_1 h_2) mv_X7_isSheet tb_4_215 hK hw ⟨Nat.le_of_ble_eq_true rfl, Nat.le_of_ble_eq_true rfl⟩ ⟨Nat.zero_le _, Nat.zero_le _⟩ rfl hl.1 rfl (Nat.le_of_ble_eq_true rfl) dX7_drop_1 (fun H locs hw => ?_)
  refine lv_if_ne (tgt := 9) hx hb dX7_drop_4 (by decide) (fun c_3 => ?_) (fun c_3 => ?_)
  · rw [if_neg c_3] at hf
    refine lv_aload_n hx hb dX7_drop_9 rfl (lv_at hl 0 rfl) ?_
    refine gf_Md_lanes S hK hw tb_3_162 dX7_drop_10 ?_
    refine lv_iload_n hx hb dX7_drop_13 rfl (lv_at hl 1 rfl) ?_
    obtain ⟨g_4, hf⟩ := nn_ix_some hf
    refine al_Md_lanes S hK hw (x := m) rfl g_4 dX7_drop_14 ?_
    refine lv_if_ge (tgt := 21) hx hb dX7_drop_15 (by decide) (fun c_5 => ?_) (fun c_5 => ?_)
    · rw [if_pos c_5] at hf
      refine lv_aload_n hx hb dX7_drop_21 rfl (lv_at hl 0 rfl) ?_
      refine gf_Md_lanes S hK hw tb_3_162 dX7_drop_22 ?_
      refine lv_iload_n hx hb dX7_drop_25 rfl (lv_at hl 1 rfl) ?_
      refine lv_iconst (v := -1) hx hb dX7_drop_26 (by decide) ?_
      obtain ⟨g_6, hf⟩ := nn_ix_some hf
      refine as_Md_lanes S hK hw (x := m) rfl g_6 (τ' := (sM σ (s_Md_lanes m (upd (g_Md_lanes m) a1.toNatClampNeg (-1 : Int32))))) rfl dX7_drop_27 (fun H locs hw => ?_)
      refine lv_aload_n hx hb dX7_drop_28 rfl (lv_at hl 0 rfl) ?_
      refine gf_Md_sizes S hK hw tb_3_163 dX7_drop_29 ?_
      refine lv_iload_n hx hb dX7_drop_32 rfl (lv_at hl 1 rfl) ?_
      obtain ⟨g_7, hf⟩ := nn_ix_some hf
      refine al_Md_sizes S hK hw (x := (s_Md_lanes m (upd (g_Md_lanes m) a1.toNatClampNeg (-1 : Int32)))) rfl g_7 dX7_drop_33 ?_
      obtain rfl := Option.some.inj hf
      exact nn_iret S hr hlk hw rfl hσ dX7_drop_34
    · rw [if_neg c_5] at hf
      refine lv_bipush (v := -11) hx hb dX7_drop_18 (by decide) ?_
      obtain rfl := Option.some.inj hf
      exact nn_iret S hr hlk hw rfl hσ dX7_drop_20
  · rw [if_pos c_3] at hf
    refine lv_iconst (v := -1) hx hb dX7_drop_7 (by decide) ?_
    obtain rfl := Option.some.inj hf
    exact nn_iret S hr hlk hw rfl hσ dX7_drop_8
set_option maxRecDepth 100000 in
set_option maxHeartbeats 4000000 in
theorem c_X7_item (l : Launch) (D : va_G) (cy : Nat → ClassId) (ad : Nat → Nat) (A : Nat → Prop) (σ : nG) (m : nMd) (hx_M : gM σ = m) (a1 : Int32) (a2 : Int32) (a3 : Int32) (a4 : Int64) (q : Int32 × nMd) (hf : f_X7_item m a1 a2 a3 a4 = some q) (σ' : nG) (hσ : (sM σ q.2) = σ') : nn_I l yX7_item (nn_ws yX7_item cX7_item 7 (some .int)) (nn_R 2) D cy ad A [.ref (ad (136)), .int (a1), .int (a2), .int (a3), .long (a4)] σ q.1 σ' := by
  refine nn_enterI (plainFor_of_name (by decide +kernel)) (Nat.le_of_ble_eq_true rfl) (lv := [(0, .ref (ad (136))), (1, .int (a1)), (2, .int (a2)), (3, .int (a3)), (4, .long (a4))]) rfl ?_
  intro pp ee ss mm bb me co S hr hlk hK hw ls hl
  have hx := S.1
  have hb := S.2.1
  have hw : nn_W D cy ad A ss.heap (sM σ m) ss.heap [] := nn_W.eq (by rw [← hx_M]; rfl) hw
  unfold f_X7_item at hf
  refine lv_iload_n hx hb dX7_item_0 rfl (lv_at hl 1 rfl) ?_
  obtain ⟨q_1, h_2, hf⟩ := nn_bind hf
  refine nn_calliS S (As := [.int (a1)]) (rest := []) (c_X7_isSheet l D cy ad A (sM σ m) a1 q_1 h_2) mv_X7_isSheet tb_4_215 hK hw ⟨Nat.le_of_ble_eq_true rfl, Nat.le_of_ble_eq_true rfl⟩ ⟨Nat.zero_le _, Nat.zero_le _⟩ rfl hl.1 rfl (Nat.le_of_ble_eq_true rfl) dX7_item_1 (fun H locs hw => ?_)
  refine lv_if_eq (tgt := 14) hx hb dX7_item_4 (by decide) (fun c_3 => ?_) (fun c_3 => ?_)
  · rw [if_pos c_3] at hf
    refine lv_iconst (v := -1) hx hb dX7_item_14 (by decide) ?_
    obtain rfl := Option.some.inj hf
    exact nn_iret S hr hlk hw rfl hσ dX7_item_15
  · rw [if_neg c_3] at hf
    refine lv_iload_n hx hb dX7_item_7 rfl (lv_at hl 2 rfl) ?_
    obtain ⟨q_4, h_5, hf⟩ := nn_bind hf
    refine nn_calliS S (As := [.int (a2)]) (rest := []) (c_X7_isLane l D cy ad A (sM σ m) a2 q_4 h_5) mv_X7_isLane tb_4_219 hK hw ⟨Nat.le_of_ble_eq_true rfl, Nat.le_of_ble_eq_true rfl⟩ ⟨Nat.zero_le _, Nat.zero_le _⟩ rfl hl.1 rfl (Nat.le_of_ble_eq_true rfl) dX7_item_8 (fun H locs hw => ?_)
    refine lv_if_ne (tgt := 16) hx hb dX7_item_11 (by decide) (fun c_6 => ?_) (fun c_6 => ?_)
    · rw [if_neg c_6] at hf
      refine lv_aload_n hx hb dX7_item_16 rfl (lv_at hl 0 rfl) ?_
      refine lv_iload_n hx hb dX7_item_17 rfl (lv_at hl 1 rfl) ?_
      refine lv_iload_n hx hb dX7_item_18 rfl (lv_at hl 2 rfl) ?_
      refine lv_iload_n hx hb dX7_item_19 rfl (lv_at hl 3 rfl) ?_
      refine lv_iconst (v := 1) hx hb dX7_item_20 (by decide) ?_
      obtain ⟨q_7, h_8, hf⟩ := nn_bind hf
      refine nn_calliV S (As := [.int (a1), .int (a2), .int (a3), .int ((1 : Int32))]) (rest := []) (ce_M (k := 0)) (by decide) rfl rfl (c_X7_why l D cy ad A (sM σ m) m rfl a1 a2 a3 (1 : Int32) q_7 h_8) mv_X7_why tb_4_223 hK hw ⟨Nat.le_of_ble_eq_true rfl, Nat.le_of_ble_eq_true rfl⟩ ⟨Nat.zero_le _, Nat.zero_le _⟩ rfl hl.1 rfl (Nat.le_of_ble_eq_true rfl) dX7_item_21 (fun H locs hw => ?_)
      refine lv_istore (lv' := [(6, .int (q_7)), (0, .ref (ad (136))), (1, .int (a1)), (2, .int (a2)), (3, .int (a3)), (4, .long (a4))]) hx hb dX7_item_24 hl (by decide) rfl (fun ls hl => ?_)
      refine lv_iload hx hb dX7_item_26 (lv_at hl 0 rfl) ?_
      refine lv_if_ge (tgt := 34) hx hb dX7_item_28 (by decide) (fun c_9 => ?_) (fun c_9 => ?_)
      · rw [if_pos c_9] at hf
        refine lv_aload_n hx hb dX7_item_34 rfl (lv_at hl 1 rfl) ?_
        refine gf_Md_items S hK hw tb_3_164 dX7_item_35 ?_
        refine lv_bipush (v := 24) hx hb dX7_item_38 (by decide) ?_
        refine lv_iload_n hx hb dX7_item_40 rfl (lv_at hl 2 rfl) ?_
        refine lv_imul hx hb dX7_item_41 ?_
        refine lv_iload_n hx hb dX7_item_42 rfl (lv_at hl 4 rfl) ?_
        refine lv_iadd hx hb dX7_item_43 ?_
        refine lv_iload_n hx hb dX7_item_44 rfl (lv_at hl 3 rfl) ?_
        refine lv_if_ne (tgt := 56) hx hb dX7_item_45 (by decide) (fun c_10 => ?_) (fun c_10 => ?_)
        · rw [if_neg c_10] at hf
          refine lv_iload_n hx hb dX7_item_56 rfl (lv_at hl 3 rfl) ?_
          refine lv_iconst (v := 1) hx hb dX7_item_57 (by decide) ?_
          refine lv_icmp_ne (tgt := 69) hx hb dX7_item_58 (by decide) (fun c_11 => ?_) (fun c_11 => ?_)
          · rw [if_neg c_11] at hf
            refine lv_iload_n hx hb dX7_item_69 rfl (lv_at hl 3 rfl) ?_
            refine lv_iconst (v := 2) hx hb dX7_item_70 (by decide) ?_
            refine lv_icmp_ne (tgt := 81) hx hb dX7_item_71 (by decide) (fun c_12 => ?_) (fun c_12 => ?_)
            · rw [if_neg c_12] at hf
              refine lv_lload hx hb dX7_item_81 (lv_at hl 5 rfl) ?_
              obtain ⟨g_13, hf⟩ := nn_ix_some hf
              obtain ⟨m_14, h_15, hf⟩ := nn_bind hf
              replace h_15 := Option.some.inj h_15
              refine as_Md_items S hK hw (x := m) rfl g_13 (τ' := (sM σ m_14)) ((rfl : _ = (sM σ (s_Md_items m (vp_updL (g_Md_items m) (((24 : Int32) * a1) + a3).toNatClampNeg a4)))).trans (by rw [h_15])) dX7_item_83 (fun H locs hw => ?_)
              refine lv_iconst (v := 1) hx hb dX7_item_84 (by decide) ?_
              obtain rfl := Option.some.inj hf
              exact nn_iret S hr hlk hw rfl hσ dX7_item_85
            · rw [if_pos c_12] at hf
              refine lv_lload hx hb dX7_item_74 (lv_at hl 5 rfl) ?_
              refine lv_l2i (v := a4.toInt32) hx hb dX7_item_76 rfl ?_
              refine lv_i2l (v := a4.toInt32.toInt64) hx hb dX7_item_77 rfl ?_
              refine lv_goto (tgt := 83) hx hb dX7_item_78 (by decide) ?_
              obtain ⟨g_16, hf⟩ := nn_ix_some hf
              obtain ⟨m_17, h_18, hf⟩ := nn_bind hf
              replace h_18 := Option.some.inj h_18
              refine as_Md_items S hK hw (x := m) rfl g_16 (τ' := (sM σ m_17)) ((rfl : _ = (sM σ (s_Md_items m (vp_updL (g_Md_items m) (((24 : Int32) * a1) + a3).toNatClampNeg a4.toInt32.toInt64)))).trans (by rw [h_18])) dX7_item_83 (fun H locs hw => ?_)
              refine lv_iconst (v := 1) hx hb dX7_item_84 (by decide) ?_
              obtain rfl := Option.some.inj hf
              exact nn_iret S hr hlk hw rfl hσ dX7_item_85
          · rw [if_pos c_11] at hf
            refine lv_lload hx hb dX7_item_61 (lv_at hl 5 rfl) ?_
            refine lv_l2i (v := a4.toInt32) hx hb dX7_item_63 rfl ?_
            refine lv_i2s (v := a4.toInt32.toInt16.toInt32) hx hb dX7_item_64 rfl ?_
            refine lv_i2l (v := a4.toInt32.toInt16.toInt32.toInt64) hx hb dX7_item_65 rfl ?_
            refine lv_goto (tgt := 83) hx hb dX7_item_66 (by decide) ?_
            obtain ⟨g_19, hf⟩ := nn_ix_some hf
            obtain ⟨m_20, h_21, hf⟩ := nn_bind hf
            replace h_21 := Option.some.inj h_21
            refine as_Md_items S hK hw (x := m) rfl g_19 (τ' := (sM σ m_20)) ((rfl : _ = (sM σ (s_Md_items m (vp_updL (g_Md_items m) (((24 : Int32) * a1) + a3).toNatClampNeg a4.toInt32.toInt16.toInt32.toInt64)))).trans (by rw [h_21])) dX7_item_83 (fun H locs hw => ?_)
            refine lv_iconst (v := 1) hx hb dX7_item_84 (by decide) ?_
            obtain rfl := Option.some.inj hf
            exact nn_iret S hr hlk hw rfl hσ dX7_item_85
        · rw [if_pos c_10] at hf
          refine lv_lload hx hb dX7_item_48 (lv_at hl 5 rfl) ?_
          refine lv_l2i (v := a4.toInt32) hx hb dX7_item_50 rfl ?_
          refine lv_i2b (v := a4.toInt32.toInt8.toInt32) hx hb dX7_item_51 rfl ?_
          refine lv_i2l (v := a4.toInt32.toInt8.toInt32.toInt64) hx hb dX7_item_52 rfl ?_
          refine lv_goto (tgt := 83) hx hb dX7_item_53 (by decide) ?_
          obtain ⟨g_22, hf⟩ := nn_ix_some hf
          obtain ⟨m_23, h_24, hf⟩ := nn_bind hf
          replace h_24 := Option.some.inj h_24
          refine as_Md_items S hK hw (x := m) rfl g_22 (τ' := (sM σ m_23)) ((rfl : _ = (sM σ (s_Md_items m (vp_updL (g_Md_items m) (((24 : Int32) * a1) + a3).toNatClampNeg a4.toInt32.toInt8.toInt32.toInt64)))).trans (by rw [h_24])) dX7_item_83 (fun H locs hw => ?_)
          refine lv_iconst (v := 1) hx hb dX7_item_84 (by decide) ?_
          obtain rfl := Option.some.inj hf
          exact nn_iret S hr hlk hw rfl hσ dX7_item_85
      · rw [if_neg c_9] at hf
        refine lv_iload hx hb dX7_item_31 (lv_at hl 0 rfl) ?_
        obtain rfl := Option.some.inj hf
        exact nn_iret S hr hlk hw rfl hσ dX7_item_33
    · rw [if_pos c_6] at hf
      refine lv_iconst (v := -1) hx hb dX7_item_14 (by decide) ?_
      obtain rfl := Option.some.inj hf
      exact nn_iret S hr hlk hw rfl hσ dX7_item_15
set_option maxRecDepth 100000 in
set_option maxHeartbeats 4000000 in
theorem c_X7_copy (l : Launch) (D : va_G) (cy : Nat → ClassId) (ad : Nat → Nat) (A : Nat → Prop) (σ : nG) (m : nMd) (hx_M : gM σ = m) (a1 : Int32) (a2 : Int32) (a3 : Int32) (a4 : Int32) (a5 : Int32) (q : Int32 × nMd) (hf : f_X7_copy m a1 a2 a3 a4 a5 = some q) (σ' : nG) (hσ : (sM σ q.2) = σ') : nn_I l yX7_copy (nn_ws yX7_copy cX7_copy 8 (some .int)) (nn_R 2) D cy ad A [.ref (ad (136)), .int (a1), .int (a2), .int (a3), .int (a4), .int (a5)] σ q.1 σ' := by
  refine nn_enterI (plainFor_of_name (by decide +kernel)) (Nat.le_of_ble_eq_true rfl) (lv := [(0, .ref (ad (136))), (1, .int (a1)), (2, .int (a2)), (3, .int (a3)), (4, .int (a4)), (5, .int (a5))]) rfl ?_
  intro pp ee ss mm bb me co S hr hlk hK hw ls hl
  have hx := S.1
  have hb := S.2.1
  have hw : nn_W D cy ad A ss.heap (sM σ m) ss.heap [] := nn_W.eq (by rw [← hx_M]; rfl) hw
  unfold f_X7_copy at hf
  have L91 : ∀ (n : Nat) (m : nMd) (u1 : Int32) (u2 : Int32) (u3 : Int32) (u4 : Int32) (u5 : Int32) (u7 : Int32) (K : nMd → Int32 → Int32 → Int32 → Int32 → Int32 → Int32 → Option (Int32 × nMd)), (∀ (m : nMd) (u1 : Int32) (u2 : Int32) (u3 : Int32) (u4 : Int32) (u5 : Int32) (u7 : Int32), K m u1 u2 u3 u4 u5 u7 = some q → ∀ (H : Heap) (locs : List Loc) (ls : Array Slot), nn_W D cy ad A ss.heap (sM σ m) H locs → lv_has ls 8 [(0, .ref (ad (136))), (1, .int (u1)), (2, .int (u2)), (3, .int (u3)), (4, .int (u4)), (5, .int (u5)), (7, .int (u7))] → W pp l ee (nn_R 2) ss mm ([.ref (ad (136)), .int (a1), .int (a2), .int (a3), .int (a4), .int (a5)] : List Value).toArray bb me co H locs 0 0 (MQ bb (nn_qi D cy ad A q.1 σ') ([.ref (ad (136)), .int (a1), .int (a2), .int (a3), .int (a4), .int (a5)] : List Value).toArray ss 0 0 A) (F0 mm 125 ls [])) → f_X7_copy_L91 n m u1 u2 u3 u4 u5 u7 K = some q → ∀ (H : Heap) (locs : List Loc) (ls : Array Slot), nn_W D cy ad A ss.heap (sM σ m) H locs → lv_has ls 8 [(0, .ref (ad (136))), (1, .int (u1)), (2, .int (u2)), (3, .int (u3)), (4, .int (u4)), (5, .int (u5)), (7, .int (u7))] → W pp l ee (nn_R 2) ss mm ([.ref (ad (136)), .int (a1), .int (a2), .int (a3), .int (a4), .int (a5)] : List Value).toArray bb me co H locs 0 0 (MQ bb (nn_qi D cy ad A q.1 σ') ([.ref (ad (136)), .int (a1), .int (a2), .int (a3), .int (a4), .int (a5)] : List Value).toArray ss 0 0 A) (F0 mm 91 ls []) := by
    intro n
    induction n with
    | zero => intro m u1 u2 u3 u4 u5 u7 K hKK hf; exact absurd hf (by simp [f_X7_copy_L91])
    | succ n ih =>
      intro m u1 u2 u3 u4 u5 u7 K hKK hf H locs ls hw hl
      rw [f_X7_copy_L91] at hf
      refine lv_iload hx hb dX7_copy_91 (lv_at hl 6 rfl) ?_
      refine lv_iload hx hb dX7_copy_93 (lv_at hl 5 rfl) ?_
      refine lv_icmp_ge (tgt := 125) hx hb dX7_copy_95 (by decide) (fun c_16 => ?_) (fun c_16 => ?_)
      · rw [if_pos c_16] at hf
        exact hKK m u1 u2 u3 u4 u5 u7 hf _ _ _ hw (lv_sub hl [0, 1, 2, 3, 4, 5, 6] rfl)
      · rw [if_neg c_16] at hf
        refine lv_aload_n hx hb dX7_copy_98 rfl (lv_at hl 0 rfl) ?_
        refine gf_Md_moved S hK hw tb_3_165 dX7_copy_99 ?_
        refine lv_iload hx hb dX7_copy_102 (lv_at hl 6 rfl) ?_
        refine lv_aload_n hx hb dX7_copy_104 rfl (lv_at hl 0 rfl) ?_
        refine gf_Md_items S hK hw tb_3_164 dX7_copy_105 ?_
        refine lv_bipush (v := 24) hx hb dX7_copy_108 (by decide) ?_
        refine lv_iload_n hx hb dX7_copy_110 rfl (lv_at hl 1 rfl) ?_
        refine lv_imul hx hb dX7_copy_111 ?_
        refine lv_iload_n hx hb dX7_copy_112 rfl (lv_at hl 2 rfl) ?_
        refine lv_iadd hx hb dX7_copy_113 ?_
        refine lv_iload hx hb dX7_copy_114 (lv_at hl 6 rfl) ?_
        refine lv_iadd hx hb dX7_copy_116 ?_
        obtain ⟨g_17, hf⟩ := nn_ix_some hf
        refine al_Md_items S hK hw (x := m) rfl g_17 dX7_copy_117 ?_
        obtain ⟨g_18, hf⟩ := nn_ix_some hf
        obtain ⟨m_19, h_20, hf⟩ := nn_bind hf
        replace h_20 := Option.some.inj h_20
        refine as_Md_moved S hK hw (x := m) rfl g_18 (τ' := (sM σ m_19)) ((rfl : _ = (sM σ (s_Md_moved m (vp_updL (g_Md_moved m) u7.toNatClampNeg ((g_Md_items m) ((((24 : Int32) * u1) + u2) + u7).toNatClampNeg))))).trans (by rw [h_20])) dX7_copy_118 (fun H locs hw => ?_)
        refine lv_iinc (v := u7 + (1 : Int32)) (lv' := [(7, .int (u7 + (1 : Int32))), (0, .ref (ad (136))), (1, .int (u1)), (2, .int (u2)), (3, .int (u3)), (4, .int (u4)), (5, .int (u5))]) hx hb dX7_copy_119 hl (k := 6) rfl (congrArg (fun z => u7 + z) (by decide)) (by decide) rfl (fun ls hl => ?_)
        refine lv_goto (tgt := 91) hx hb dX7_copy_122 (by decide) ?_
        exact ih m_19 u1 u2 u3 u4 u5 (u7 + (1 : Int32)) K hKK hf _ _ _ hw (lv_sub hl [1, 2, 3, 4, 5, 6, 0] rfl)
  have L128 : ∀ (n : Nat) (m : nMd) (u3 : Int32) (u4 : Int32) (u5 : Int32) (u7 : Int32) (K : nMd → Int32 → Int32 → Int32 → Int32 → Option (Int32 × nMd)), (∀ (m : nMd) (u3 : Int32) (u4 : Int32) (u5 : Int32) (u7 : Int32), K m u3 u4 u5 u7 = some q → ∀ (H : Heap) (locs : List Loc) (ls : Array Slot), nn_W D cy ad A ss.heap (sM σ m) H locs → lv_has ls 8 [(0, .ref (ad (136))), (3, .int (u3)), (4, .int (u4)), (5, .int (u5)), (7, .int (u7))] → W pp l ee (nn_R 2) ss mm ([.ref (ad (136)), .int (a1), .int (a2), .int (a3), .int (a4), .int (a5)] : List Value).toArray bb me co H locs 0 0 (MQ bb (nn_qi D cy ad A q.1 σ') ([.ref (ad (136)), .int (a1), .int (a2), .int (a3), .int (a4), .int (a5)] : List Value).toArray ss 0 0 A) (F0 mm 163 ls [])) → f_X7_copy_L128 n m u3 u4 u5 u7 K = some q → ∀ (H : Heap) (locs : List Loc) (ls : Array Slot), nn_W D cy ad A ss.heap (sM σ m) H locs → lv_has ls 8 [(0, .ref (ad (136))), (3, .int (u3)), (4, .int (u4)), (5, .int (u5)), (7, .int (u7))] → W pp l ee (nn_R 2) ss mm ([.ref (ad (136)), .int (a1), .int (a2), .int (a3), .int (a4), .int (a5)] : List Value).toArray bb me co H locs 0 0 (MQ bb (nn_qi D cy ad A q.1 σ') ([.ref (ad (136)), .int (a1), .int (a2), .int (a3), .int (a4), .int (a5)] : List Value).toArray ss 0 0 A) (F0 mm 128 ls []) := by
    intro n
    induction n with
    | zero => intro m u3 u4 u5 u7 K hKK hf; exact absurd hf (by simp [f_X7_copy_L128])
    | succ n ih =>
      intro m u3 u4 u5 u7 K hKK hf H locs ls hw hl
      rw [f_X7_copy_L128] at hf
      refine lv_iload hx hb dX7_copy_128 (lv_at hl 4 rfl) ?_
      refine lv_iload hx hb dX7_copy_130 (lv_at hl 3 rfl) ?_
      refine lv_icmp_ge (tgt := 163) hx hb dX7_copy_132 (by decide) (fun c_28 => ?_) (fun c_28 => ?_)
      · rw [if_pos c_28] at hf
        exact hKK m u3 u4 u5 u7 hf _ _ _ hw (lv_sub hl [0, 1, 2, 3, 4] rfl)
      · rw [if_neg c_28] at hf
        refine lv_aload_n hx hb dX7_copy_135 rfl (lv_at hl 0 rfl) ?_
        refine gf_Md_items S hK hw tb_3_164 dX7_copy_136 ?_
        refine lv_bipush (v := 24) hx hb dX7_copy_139 (by decide) ?_
        refine lv_iload_n hx hb dX7_copy_141 rfl (lv_at hl 1 rfl) ?_
        refine lv_imul hx hb dX7_copy_142 ?_
        refine lv_iload hx hb dX7_copy_143 (lv_at hl 2 rfl) ?_
        refine lv_iadd hx hb dX7_copy_145 ?_
        refine lv_iload hx hb dX7_copy_146 (lv_at hl 4 rfl) ?_
        refine lv_iadd hx hb dX7_copy_148 ?_
        refine lv_aload_n hx hb dX7_copy_149 rfl (lv_at hl 0 rfl) ?_
        refine gf_Md_moved S hK hw tb_3_165 dX7_copy_150 ?_
        refine lv_iload hx hb dX7_copy_153 (lv_at hl 4 rfl) ?_
        obtain ⟨g_29, hf⟩ := nn_ix_some hf
        refine al_Md_moved S hK hw (x := m) rfl g_29 dX7_copy_155 ?_
        obtain ⟨g_30, hf⟩ := nn_ix_some hf
        obtain ⟨m_31, h_32, hf⟩ := nn_bind hf
        replace h_32 := Option.some.inj h_32
        refine as_Md_items S hK hw (x := m) rfl g_30 (τ' := (sM σ m_31)) ((rfl : _ = (sM σ (s_Md_items m (vp_updL (g_Md_items m) ((((24 : Int32) * u3) + u4) + u7).toNatClampNeg ((g_Md_moved m) u7.toNatClampNeg))))).trans (by rw [h_32])) dX7_copy_156 (fun H locs hw => ?_)
        refine lv_iinc (v := u7 + (1 : Int32)) (lv' := [(7, .int (u7 + (1 : Int32))), (0, .ref (ad (136))), (3, .int (u3)), (4, .int (u4)), (5, .int (u5))]) hx hb dX7_copy_157 hl (k := 4) rfl (congrArg (fun z => u7 + z) (by decide)) (by decide) rfl (fun ls hl => ?_)
        refine lv_goto (tgt := 128) hx hb dX7_copy_160 (by decide) ?_
        exact ih m_31 u3 u4 u5 (u7 + (1 : Int32)) K hKK hf _ _ _ hw (lv_sub hl [1, 2, 3, 4, 0] rfl)
  refine lv_iload_n hx hb dX7_copy_0 rfl (lv_at hl 1 rfl) ?_
  obtain ⟨q_1, h_2, hf⟩ := nn_bind hf
  refine nn_calliS S (As := [.int (a1)]) (rest := []) (c_X7_isSheet l D cy ad A (sM σ m) a1 q_1 h_2) mv_X7_isSheet tb_4_215 hK hw ⟨Nat.le_of_ble_eq_true rfl, Nat.le_of_ble_eq_true rfl⟩ ⟨Nat.zero_le _, Nat.zero_le _⟩ rfl hl.1 rfl (Nat.le_of_ble_eq_true rfl) dX7_copy_1 (fun H locs hw => ?_)
  refine lv_if_eq (tgt := 14) hx hb dX7_copy_4 (by decide) (fun c_3 => ?_) (fun c_3 => ?_)
  · rw [if_pos c_3] at hf
    refine lv_iconst (v := -1) hx hb dX7_copy_14 (by decide) ?_
    obtain rfl := Option.some.inj hf
    exact nn_iret S hr hlk hw rfl hσ dX7_copy_15
  · rw [if_neg c_3] at hf
    refine lv_iload_n hx hb dX7_copy_7 rfl (lv_at hl 3 rfl) ?_
    obtain ⟨q_4, h_5, hf⟩ := nn_bind hf
    refine nn_calliS S (As := [.int (a3)]) (rest := []) (c_X7_isSheet l D cy ad A (sM σ m) a3 q_4 h_5) mv_X7_isSheet tb_4_215 hK hw ⟨Nat.le_of_ble_eq_true rfl, Nat.le_of_ble_eq_true rfl⟩ ⟨Nat.zero_le _, Nat.zero_le _⟩ rfl hl.1 rfl (Nat.le_of_ble_eq_true rfl) dX7_copy_8 (fun H locs hw => ?_)
    refine lv_if_ne (tgt := 16) hx hb dX7_copy_11 (by decide) (fun c_6 => ?_) (fun c_6 => ?_)
    · rw [if_neg c_6] at hf
      refine lv_aload_n hx hb dX7_copy_16 rfl (lv_at hl 0 rfl) ?_
      refine gf_Md_lanes S hK hw tb_3_162 dX7_copy_17 ?_
      refine lv_iload_n hx hb dX7_copy_20 rfl (lv_at hl 1 rfl) ?_
      obtain ⟨g_7, hf⟩ := nn_ix_some hf
      refine al_Md_lanes S hK hw (x := m) rfl g_7 dX7_copy_21 ?_
      refine lv_if_lt (tgt := 34) hx hb dX7_copy_22 (by decide) (fun c_8 => ?_) (fun c_8 => ?_)
      · rw [if_pos c_8] at hf
        refine lv_bipush (v := -11) hx hb dX7_copy_34 (by decide) ?_
        obtain rfl := Option.some.inj hf
        exact nn_iret S hr hlk hw rfl hσ dX7_copy_36
      · rw [if_neg c_8] at hf
        refine lv_aload_n hx hb dX7_copy_25 rfl (lv_at hl 0 rfl) ?_
        refine gf_Md_lanes S hK hw tb_3_162 dX7_copy_26 ?_
        refine lv_iload_n hx hb dX7_copy_29 rfl (lv_at hl 3 rfl) ?_
        obtain ⟨g_9, hf⟩ := nn_ix_some hf
        refine al_Md_lanes S hK hw (x := m) rfl g_9 dX7_copy_30 ?_
        refine lv_if_ge (tgt := 37) hx hb dX7_copy_31 (by decide) (fun c_10 => ?_) (fun c_10 => ?_)
        · rw [if_pos c_10] at hf
          refine lv_aload_n hx hb dX7_copy_37 rfl (lv_at hl 0 rfl) ?_
          refine lv_iload_n hx hb dX7_copy_38 rfl (lv_at hl 3 rfl) ?_
          refine lv_aload_n hx hb dX7_copy_39 rfl (lv_at hl 0 rfl) ?_
          refine gf_Md_lanes S hK hw tb_3_162 dX7_copy_40 ?_
          refine lv_iload_n hx hb dX7_copy_43 rfl (lv_at hl 1 rfl) ?_
          obtain ⟨g_11, hf⟩ := nn_ix_some hf
          refine al_Md_lanes S hK hw (x := m) rfl g_11 dX7_copy_44 ?_
          refine lv_iload hx hb dX7_copy_45 (lv_at hl 4 rfl) ?_
          refine lv_iload hx hb dX7_copy_47 (lv_at hl 5 rfl) ?_
          obtain ⟨q_12, h_13, hf⟩ := nn_bind hf
          refine nn_calliV S (As := [.int (a3), .int ((g_Md_lanes m) a1.toNatClampNeg), .int (a4), .int (a5)]) (rest := []) (ce_M (k := 0)) (by decide) rfl rfl (c_X7_why l D cy ad A (sM σ m) m rfl a3 ((g_Md_lanes m) a1.toNatClampNeg) a4 a5 q_12 h_13) mv_X7_why tb_4_223 hK hw ⟨Nat.le_of_ble_eq_true rfl, Nat.le_of_ble_eq_true rfl⟩ ⟨Nat.zero_le _, Nat.zero_le _⟩ rfl hl.1 rfl (Nat.le_of_ble_eq_true rfl) dX7_copy_49 (fun H locs hw => ?_)
          refine lv_istore (lv' := [(6, .int (q_12)), (0, .ref (ad (136))), (1, .int (a1)), (2, .int (a2)), (3, .int (a3)), (4, .int (a4)), (5, .int (a5))]) hx hb dX7_copy_52 hl (by decide) rfl (fun ls hl => ?_)
          refine lv_iload hx hb dX7_copy_54 (lv_at hl 0 rfl) ?_
          refine lv_if_ne (tgt := 76) hx hb dX7_copy_56 (by decide) (fun c_14 => ?_) (fun c_14 => ?_)
          · rw [if_neg c_14] at hf
            refine lv_iload hx hb dX7_copy_76 (lv_at hl 0 rfl) ?_
            refine lv_istore (lv' := [(6, .int (q_12)), (0, .ref (ad (136))), (1, .int (a1)), (2, .int (a2)), (3, .int (a3)), (4, .int (a4)), (5, .int (a5))]) hx hb dX7_copy_78 hl (by decide) rfl (fun ls hl => ?_)
            refine lv_iload hx hb dX7_copy_80 (lv_at hl 0 rfl) ?_
            refine lv_if_ge (tgt := 88) hx hb dX7_copy_82 (by decide) (fun c_15 => ?_) (fun c_15 => ?_)
            · rw [if_pos c_15] at hf
              refine lv_iconst (v := 0) hx hb dX7_copy_88 (by decide) ?_
              refine lv_istore (lv' := [(7, .int ((0 : Int32))), (6, .int (q_12)), (0, .ref (ad (136))), (1, .int (a1)), (2, .int (a2)), (3, .int (a3)), (4, .int (a4)), (5, .int (a5))]) hx hb dX7_copy_89 hl (by decide) rfl (fun ls hl => ?_)
              refine L91 100000 m a1 a2 a3 a4 a5 (0 : Int32) _ (fun m_27 b1_21 b2_22 b3_23 b4_24 b5_25 b7_26 hf H locs ls hw hl => ?_) hf _ _ _ hw (lv_sub hl [2, 3, 4, 5, 6, 7, 0] rfl)
              refine lv_iconst (v := 0) hx hb dX7_copy_125 (by decide) ?_
              refine lv_istore (lv' := [(7, .int ((0 : Int32))), (0, .ref (ad (136))), (1, .int (b1_21)), (2, .int (b2_22)), (3, .int (b3_23)), (4, .int (b4_24)), (5, .int (b5_25))]) hx hb dX7_copy_126 hl (by decide) rfl (fun ls hl => ?_)
              refine L128 100000 m_27 b3_23 b4_24 b5_25 (0 : Int32) _ (fun m_37 b3_33 b4_34 b5_35 b7_36 hf H locs ls hw hl => ?_) hf _ _ _ hw (lv_sub hl [1, 4, 5, 6, 0] rfl)
              refine lv_iload hx hb dX7_copy_163 (lv_at hl 3 rfl) ?_
              obtain rfl := Option.some.inj hf
              exact nn_iret S hr hlk hw rfl hσ dX7_copy_165
            · rw [if_neg c_15] at hf
              refine lv_iload hx hb dX7_copy_85 (lv_at hl 0 rfl) ?_
              obtain rfl := Option.some.inj hf
              exact nn_iret S hr hlk hw rfl hσ dX7_copy_87
          · rw [if_pos c_14] at hf
            refine lv_aload_n hx hb dX7_copy_59 rfl (lv_at hl 1 rfl) ?_
            refine lv_iload_n hx hb dX7_copy_60 rfl (lv_at hl 2 rfl) ?_
            refine lv_aload_n hx hb dX7_copy_61 rfl (lv_at hl 1 rfl) ?_
            refine gf_Md_lanes S hK hw tb_3_162 dX7_copy_62 ?_
            refine lv_iload_n hx hb dX7_copy_65 rfl (lv_at hl 2 rfl) ?_
            obtain ⟨g_38, hf⟩ := nn_ix_some hf
            refine al_Md_lanes S hK hw (x := m) rfl g_38 dX7_copy_66 ?_
            refine lv_iload_n hx hb dX7_copy_67 rfl (lv_at hl 3 rfl) ?_
            refine lv_iload hx hb dX7_copy_68 (lv_at hl 6 rfl) ?_
            obtain ⟨q_39, h_40, hf⟩ := nn_bind hf
            refine nn_calliV S (As := [.int (a1), .int ((g_Md_lanes m) a1.toNatClampNeg), .int (a2), .int (a5)]) (rest := []) (ce_M (k := 0)) (by decide) rfl rfl (c_X7_why l D cy ad A (sM σ m) m rfl a1 ((g_Md_lanes m) a1.toNatClampNeg) a2 a5 q_39 h_40) mv_X7_why tb_4_223 hK hw ⟨Nat.le_of_ble_eq_true rfl, Nat.le_of_ble_eq_true rfl⟩ ⟨Nat.zero_le _, Nat.zero_le _⟩ rfl hl.1 rfl (Nat.le_of_ble_eq_true rfl) dX7_copy_70 (fun H locs hw => ?_)
            refine lv_goto (tgt := 78) hx hb dX7_copy_73 (by decide) ?_
            refine lv_istore (lv' := [(6, .int (q_39)), (0, .ref (ad (136))), (1, .int (a1)), (2, .int (a2)), (3, .int (a3)), (4, .int (a4)), (5, .int (a5))]) hx hb dX7_copy_78 hl (by decide) rfl (fun ls hl => ?_)
            refine lv_iload hx hb dX7_copy_80 (lv_at hl 0 rfl) ?_
            refine lv_if_ge (tgt := 88) hx hb dX7_copy_82 (by decide) (fun c_41 => ?_) (fun c_41 => ?_)
            · rw [if_pos c_41] at hf
              refine lv_iconst (v := 0) hx hb dX7_copy_88 (by decide) ?_
              refine lv_istore (lv' := [(7, .int ((0 : Int32))), (6, .int (q_39)), (0, .ref (ad (136))), (1, .int (a1)), (2, .int (a2)), (3, .int (a3)), (4, .int (a4)), (5, .int (a5))]) hx hb dX7_copy_89 hl (by decide) rfl (fun ls hl => ?_)
              refine L91 100000 m a1 a2 a3 a4 a5 (0 : Int32) _ (fun m_48 b1_42 b2_43 b3_44 b4_45 b5_46 b7_47 hf H locs ls hw hl => ?_) hf _ _ _ hw (lv_sub hl [2, 3, 4, 5, 6, 7, 0] rfl)
              refine lv_iconst (v := 0) hx hb dX7_copy_125 (by decide) ?_
              refine lv_istore (lv' := [(7, .int ((0 : Int32))), (0, .ref (ad (136))), (1, .int (b1_42)), (2, .int (b2_43)), (3, .int (b3_44)), (4, .int (b4_45)), (5, .int (b5_46))]) hx hb dX7_copy_126 hl (by decide) rfl (fun ls hl => ?_)
              refine L128 100000 m_48 b3_44 b4_45 b5_46 (0 : Int32) _ (fun m_53 b3_49 b4_50 b5_51 b7_52 hf H locs ls hw hl => ?_) hf _ _ _ hw (lv_sub hl [1, 4, 5, 6, 0] rfl)
              refine lv_iload hx hb dX7_copy_163 (lv_at hl 3 rfl) ?_
              obtain rfl := Option.some.inj hf
              exact nn_iret S hr hlk hw rfl hσ dX7_copy_165
            · rw [if_neg c_41] at hf
              refine lv_iload hx hb dX7_copy_85 (lv_at hl 0 rfl) ?_
              obtain rfl := Option.some.inj hf
              exact nn_iret S hr hlk hw rfl hσ dX7_copy_87
        · rw [if_neg c_10] at hf
          refine lv_bipush (v := -11) hx hb dX7_copy_34 (by decide) ?_
          obtain rfl := Option.some.inj hf
          exact nn_iret S hr hlk hw rfl hσ dX7_copy_36
    · rw [if_pos c_6] at hf
      refine lv_iconst (v := -1) hx hb dX7_copy_14 (by decide) ?_
      obtain rfl := Option.some.inj hf
      exact nn_iret S hr hlk hw rfl hσ dX7_copy_15
