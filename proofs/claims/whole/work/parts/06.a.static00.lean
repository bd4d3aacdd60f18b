set_option maxRecDepth 100000 in
set_option maxHeartbeats 4000000 in
theorem c_X6_isIn (l : Launch) (D : va_G) (cy : Nat → ClassId) (ad : Nat → Nat) (A : Nat → Prop) (σ : nG) (a0 : Int32) (a1 : Int32) (q : Int32) (hf : f_X6_isIn a0 a1 = some q) : nn_I l yX6_isIn (nn_ws yX6_isIn cX6_isIn 2 (some .boolean)) (nn_R 0) D cy ad A [.int (a0), .int (a1)] σ q σ := by
  refine nn_enterI (plainFor_of_name (by decide +kernel)) (Nat.le_of_ble_eq_true rfl) (lv := [(0, .int (a0)), (1, .int (a1))]) rfl ?_
  intro pp ee ss mm bb me co S hr hlk hK hw ls hl
  have hx := S.1
  have hb := S.2.1
  unfold f_X6_isIn at hf
  refine lv_iload_n hx hb dX6_isIn_0 rfl (lv_at hl 0 rfl) ?_
  refine lv_iload_n hx hb dX6_isIn_1 rfl (lv_at hl 1 rfl) ?_
  refine lv_ishr hx hb dX6_isIn_2 ?_
  refine lv_iconst (v := 1) hx hb dX6_isIn_3 (by decide) ?_
  refine lv_iand hx hb dX6_isIn_4 ?_
  refine lv_if_eq (tgt := 12) hx hb dX6_isIn_5 (by decide) (fun c_1 => ?_) (fun c_1 => ?_)
  · rw [if_pos c_1] at hf
    refine lv_iconst (v := 0) hx hb dX6_isIn_12 (by decide) ?_
    obtain rfl := Option.some.inj hf
    exact nn_zret S hr hlk hw rfl rfl rfl dX6_isIn_13
  · rw [if_neg c_1] at hf
    refine lv_iconst (v := 1) hx hb dX6_isIn_8 (by decide) ?_
    refine lv_goto (tgt := 13) hx hb dX6_isIn_9 (by decide) ?_
    obtain rfl := Option.some.inj hf
    exact nn_zret S hr hlk hw rfl rfl rfl dX6_isIn_13
set_option maxRecDepth 100000 in
set_option maxHeartbeats 4000000 in
theorem c_J9_abs_0f7a4 (l : Launch) (D : va_G) (cy : Nat → ClassId) (ad : Nat → Nat) (A : Nat → Prop) (σ : nG) (a0 : Int32) (q : Int32) (hf : f_J9_abs_0f7a4 a0 = some q) : nn_I l yJ9_abs_0f7a4 (nn_ws yJ9_abs_0f7a4 cJ9_abs_0f7a4 1 (some .int)) (nn_R 0) D cy ad A [.int (a0)] σ q σ := by
  refine nn_enterI (by decide +kernel) (Nat.le_of_ble_eq_true rfl) (lv := [(0, .int (a0))]) rfl ?_
  intro pp ee ss mm bb me co S hr hlk hK hw ls hl
  have hx := S.1
  have hb := S.2.1
  unfold f_J9_abs_0f7a4 at hf
  refine lv_iload_n hx hb dJ9_abs_0f7a4_0 rfl (lv_at hl 0 rfl) ?_
  refine lv_if_ge (tgt := 9) hx hb dJ9_abs_0f7a4_1 (by decide) (fun c_1 => ?_) (fun c_1 => ?_)
  · rw [if_pos c_1] at hf
    refine lv_iload_n hx hb dJ9_abs_0f7a4_9 rfl (lv_at hl 0 rfl) ?_
    obtain rfl := Option.some.inj hf
    exact nn_iret S hr hlk hw rfl rfl dJ9_abs_0f7a4_10
  · rw [if_neg c_1] at hf
    refine lv_iload_n hx hb dJ9_abs_0f7a4_4 rfl (lv_at hl 0 rfl) ?_
    refine lv_ineg hx hb dJ9_abs_0f7a4_5 ?_
    refine lv_goto (tgt := 10) hx hb dJ9_abs_0f7a4_6 (by decide) ?_
    obtain rfl := Option.some.inj hf
    exact nn_iret S hr hlk hw rfl rfl dJ9_abs_0f7a4_10
set_option maxRecDepth 100000 in
set_option maxHeartbeats 4000000 in
theorem c_J9_floorMod_7cf53 (l : Launch) (D : va_G) (cy : Nat → ClassId) (ad : Nat → Nat) (A : Nat → Prop) (σ : nG) (a0 : Int32) (a1 : Int32) (q : Int32) (hf : f_J9_floorMod_7cf53 a0 a1 = some q) : nn_I l yJ9_floorMod_7cf53 (nn_ws yJ9_floorMod_7cf53 cJ9_floorMod_7cf53 3 (some .int)) (nn_R 0) D cy ad A [.int (a0), .int (a1)] σ q σ := by
  refine nn_enterI (by decide +kernel) (Nat.le_of_ble_eq_true rfl) (lv := [(0, .int (a0)), (1, .int (a1))]) rfl ?_
  intro pp ee ss mm bb me co S hr hlk hK hw ls hl
  have hx := S.1
  have hb := S.2.1
  unfold f_J9_floorMod_7cf53 at hf
  refine lv_iload_n hx hb dJ9_floorMod_7cf53_0 rfl (lv_at hl 0 rfl) ?_
  refine lv_iload_n hx hb dJ9_floorMod_7cf53_1 rfl (lv_at hl 1 rfl) ?_
  obtain ⟨g_1, hf⟩ := nn_nz_some hf
  refine lv_irem hx hb dJ9_floorMod_7cf53_2 g_1 ?_
  refine lv_istore_n (lv' := [(2, .int (a0 - a0 / a1 * a1)), (0, .int (a0)), (1, .int (a1))]) hx hb dJ9_floorMod_7cf53_3 rfl hl (by decide) rfl (fun ls hl => ?_)
  refine lv_iload_n hx hb dJ9_floorMod_7cf53_4 rfl (lv_at hl 1 rfl) ?_
  refine lv_iload_n hx hb dJ9_floorMod_7cf53_5 rfl (lv_at hl 2 rfl) ?_
  refine lv_ixor hx hb dJ9_floorMod_7cf53_6 ?_
  refine lv_if_ge (tgt := 18) hx hb dJ9_floorMod_7cf53_7 (by decide) (fun c_2 => ?_) (fun c_2 => ?_)
  · rw [if_pos c_2] at hf
    refine lv_iload_n hx hb dJ9_floorMod_7cf53_18 rfl (lv_at hl 0 rfl) ?_
    obtain rfl := Option.some.inj hf
    exact nn_iret S hr hlk hw rfl rfl dJ9_floorMod_7cf53_19
  · rw [if_neg c_2] at hf
    refine lv_iload_n hx hb dJ9_floorMod_7cf53_10 rfl (lv_at hl 0 rfl) ?_
    refine lv_if_eq (tgt := 18) hx hb dJ9_floorMod_7cf53_11 (by decide) (fun c_3 => ?_) (fun c_3 => ?_)
    · rw [if_pos c_3] at hf
      refine lv_iload_n hx hb dJ9_floorMod_7cf53_18 rfl (lv_at hl 0 rfl) ?_
      obtain rfl := Option.some.inj hf
      exact nn_iret S hr hlk hw rfl rfl dJ9_floorMod_7cf53_19
    · rw [if_neg c_3] at hf
      refine lv_iload_n hx hb dJ9_floorMod_7cf53_14 rfl (lv_at hl 0 rfl) ?_
      refine lv_iload_n hx hb dJ9_floorMod_7cf53_15 rfl (lv_at hl 2 rfl) ?_
      refine lv_iadd hx hb dJ9_floorMod_7cf53_16 ?_
      obtain rfl := Option.some.inj hf
      exact nn_iret S hr hlk hw rfl rfl dJ9_floorMod_7cf53_17
set_option maxRecDepth 100000 in
set_option maxHeartbeats 4000000 in
theorem c_X6_roundTheHour (l : Launch) (D : va_G) (cy : Nat → ClassId) (ad : Nat → Nat) (A : Nat → Prop) (σ : nG) (a0 : Int32) (q : Int32) (hf : f_X6_roundTheHour a0 = some q) : nn_I l yX6_roundTheHour (nn_ws yX6_roundTheHour cX6_roundTheHour 1 (some .int)) (nn_R 1) D cy ad A [.int (a0)] σ q σ := by
  refine nn_enterI (plainFor_of_name (by decide +kernel)) (Nat.le_of_ble_eq_true rfl) (lv := [(0, .int (a0))]) rfl ?_
  intro pp ee ss mm bb me co S hr hlk hK hw ls hl
  have hx := S.1
  have hb := S.2.1
  unfold f_X6_roundTheHour at hf
  refine lv_iload_n hx hb dX6_roundTheHour_0 rfl (lv_at hl 0 rfl) ?_
  refine lv_bipush (v := 60) hx hb dX6_roundTheHour_1 (by decide) ?_
  obtain ⟨q_1, h_2, hf⟩ := nn_bind hf
  refine nn_calliS S (As := [.int (a0), .int ((60 : Int32))]) (rest := []) (c_J9_floorMod_7cf53 l D cy ad A σ a0 (60 : Int32) q_1 h_2) mv_J9_floorMod_7cf53 tb_2_129 hK hw ⟨Nat.le_of_ble_eq_true rfl, Nat.le_of_ble_eq_true rfl⟩ ⟨Nat.zero_le _, Nat.zero_le _⟩ rfl hl.1 rfl (Nat.le_of_ble_eq_true rfl) dX6_roundTheHour_3 (fun H locs hw => ?_)
  obtain rfl := Option.some.inj hf
  exact nn_iret S hr hlk hw rfl rfl dX6_roundTheHour_6
set_option maxRecDepth 100000 in
set_option maxHeartbeats 4000000 in
theorem c_J9_min_7cf53 (l : Launch) (D : va_G) (cy : Nat → ClassId) (ad : Nat → Nat) (A : Nat → Prop) (σ : nG) (a0 : Int32) (a1 : Int32) (q : Int32) (hf : f_J9_min_7cf53 a0 a1 = some q) : nn_I l yJ9_min_7cf53 (nn_ws yJ9_min_7cf53 cJ9_min_7cf53 2 (some .int)) (nn_R 0) D cy ad A [.int (a0), .int (a1)] σ q σ := by
  refine nn_enterI (by decide +kernel) (Nat.le_of_ble_eq_true rfl) (lv := [(0, .int (a0)), (1, .int (a1))]) rfl ?_
  intro pp ee ss mm bb me co S hr hlk hK hw ls hl
  have hx := S.1
  have hb := S.2.1
  unfold f_J9_min_7cf53 at hf
  refine lv_iload_n hx hb dJ9_min_7cf53_0 rfl (lv_at hl 0 rfl) ?_
  refine lv_iload_n hx hb dJ9_min_7cf53_1 rfl (lv_at hl 1 rfl) ?_
  refine lv_icmp_gt (tgt := 9) hx hb dJ9_min_7cf53_2 (by decide) (fun c_1 => ?_) (fun c_1 => ?_)
  · rw [if_pos c_1] at hf
    refine lv_iload_n hx hb dJ9_min_7cf53_9 rfl (lv_at hl 1 rfl) ?_
    obtain rfl := Option.some.inj hf
    exact nn_iret S hr hlk hw rfl rfl dJ9_min_7cf53_10
  · rw [if_neg c_1] at hf
    refine lv_iload_n hx hb dJ9_min_7cf53_5 rfl (lv_at hl 0 rfl) ?_
    refine lv_goto (tgt := 10) hx hb dJ9_min_7cf53_6 (by decide) ?_
    obtain rfl := Option.some.inj hf
    exact nn_iret S hr hlk hw rfl rfl dJ9_min_7cf53_10
set_option maxRecDepth 100000 in
set_option maxHeartbeats 4000000 in
theorem c_X6_minutesNear (l : Launch) (D : va_G) (cy : Nat → ClassId) (ad : Nat → Nat) (A : Nat → Prop) (σ : nG) (a0 : Int32) (a1 : Int32) (q : Int64) (hf : f_X6_minutesNear a0 a1 = some q) : nn_J l yX6_minutesNear (nn_ws yX6_minutesNear cX6_minutesNear 5 (some .long)) (nn_R 2) D cy ad A [.int (a0), .int (a1)] σ q σ := by
  refine nn_enterJ (plainFor_of_name (by decide +kernel)) (Nat.le_of_ble_eq_true rfl) (lv := [(0, .int (a0)), (1, .int (a1))]) rfl ?_
  intro pp ee ss mm bb me co S hr hlk hK hw ls hl
  have hx := S.1
  have hb := S.2.1
  unfold f_X6_minutesNear at hf
  refine lv_lconst (v := 1) hx hb dX6_minutesNear_0 (by decide) ?_
  refine lv_iconst (v := 2) hx hb dX6_minutesNear_1 (by decide) ?_
  refine lv_iload_n hx hb dX6_minutesNear_2 rfl (lv_at hl 1 rfl) ?_
  refine lv_imul hx hb dX6_minutesNear_3 ?_
  refine lv_iconst (v := 1) hx hb dX6_minutesNear_4 (by decide) ?_
  refine lv_isub hx hb dX6_minutesNear_5 ?_
  refine lv_lshl (v := (1 : Int64) <<< ((((2 : Int32) * a1) - (1 : Int32)).toInt64 &&& 63)) hx hb dX6_minutesNear_6 rfl ?_
  refine lv_lconst (v := 1) hx hb dX6_minutesNear_7 (by decide) ?_
  refine lv_lsub hx hb dX6_minutesNear_8 ?_
  refine lv_lstore_n (lv' := [(2, .long (((1 : Int64) <<< ((((2 : Int32) * a1) - (1 : Int32)).toInt64 &&& 63)) - (1 : Int64))), (0, .int (a0)), (1, .int (a1))]) hx hb dX6_minutesNear_9 rfl hl (by decide) rfl (fun ls hl => ?_)
  refine lv_iload_n hx hb dX6_minutesNear_10 rfl (lv_at hl 1 rfl) ?_
  refine lv_iload_n hx hb dX6_minutesNear_11 rfl (lv_at hl 2 rfl) ?_
  refine lv_isub hx hb dX6_minutesNear_12 ?_
  refine lv_iconst (v := 1) hx hb dX6_minutesNear_13 (by decide) ?_
  refine lv_iadd hx hb dX6_minutesNear_14 ?_
  obtain ⟨q_1, h_2, hf⟩ := nn_bind hf
  refine nn_calliS S (As := [.int ((a0 - a1) + (1 : Int32))]) (rest := []) (c_X6_roundTheHour l D cy ad A σ ((a0 - a1) + (1 : Int32)) q_1 h_2) mv_X6_roundTheHour tb_2_214 hK hw ⟨Nat.le_of_ble_eq_true rfl, Nat.le_of_ble_eq_true rfl⟩ ⟨Nat.zero_le _, Nat.zero_le _⟩ rfl hl.1 rfl (Nat.le_of_ble_eq_true rfl) dX6_minutesNear_15 (fun H locs hw => ?_)
  refine lv_istore (lv' := [(4, .int (q_1)), (2, .long (((1 : Int64) <<< ((((2 : Int32) * a1) - (1 : Int32)).toInt64 &&& 63)) - (1 : Int64))), (0, .int (a0)), (1, .int (a1))]) hx hb dX6_minutesNear_18 hl (by decide) rfl (fun ls hl => ?_)
  refine lv_lload_n hx hb dX6_minutesNear_20 rfl (lv_at hl 1 rfl) ?_
  refine lv_iload hx hb dX6_minutesNear_21 (lv_at hl 0 rfl) ?_
  refine lv_lshl (v := (((1 : Int64) <<< ((((2 : Int32) * a1) - (1 : Int32)).toInt64 &&& 63)) - (1 : Int64)) <<< (q_1.toInt64 &&& 63)) hx hb dX6_minutesNear_23 rfl ?_
  refine lv_lload_n hx hb dX6_minutesNear_24 rfl (lv_at hl 1 rfl) ?_
  refine lv_bipush (v := 60) hx hb dX6_minutesNear_25 (by decide) ?_
  refine lv_iload hx hb dX6_minutesNear_27 (lv_at hl 0 rfl) ?_
  refine lv_isub hx hb dX6_minutesNear_29 ?_
  refine lv_lushr (v := ((((1 : Int64) <<< ((((2 : Int32) * a1) - (1 : Int32)).toInt64 &&& 63)) - (1 : Int64)).toUInt64 >>> (((60 : Int32) - q_1).toInt64.toUInt64 &&& Int64.toUInt64 63)).toInt64) hx hb dX6_minutesNear_30 rfl ?_
  refine lv_lor hx hb dX6_minutesNear_31 ?_
  refine lv_ldc2 (v := 1152921504606846975) hx hb S.2.2.2.1 (S.2.2.2.2 _ tb_2_215) dX6_minutesNear_32 ?_
  refine lv_land hx hb dX6_minutesNear_35 ?_
  obtain rfl := Option.some.inj hf
  exact nn_lret S hr hlk hw rfl rfl dX6_minutesNear_36
set_option maxRecDepth 100000 in
set_option maxHeartbeats 4000000 in
theorem c_X4_isDigit (l : Launch) (D : va_G) (cy : Nat → ClassId) (ad : Nat → Nat) (A : Nat → Prop) (σ : nG) (a0 : Int32) (q : Int32) (hf : f_X4_isDigit a0 = some q) : nn_I l yX4_isDigit (nn_ws yX4_isDigit cX4_isDigit 1 (some .boolean)) (nn_R 0) D cy ad A [.int (a0)] σ q σ := by
  refine nn_enterI (plainFor_of_name (by decide +kernel)) (Nat.le_of_ble_eq_true rfl) (lv := [(0, .int (a0))]) rfl ?_
  intro pp ee ss mm bb me co S hr hlk hK hw ls hl
  have hx := S.1
  have hb := S.2.1
  unfold f_X4_isDigit at hf
  refine lv_iload_n hx hb dX4_isDigit_0 rfl (lv_at hl 0 rfl) ?_
  refine lv_bipush (v := 48) hx hb dX4_isDigit_1 (by decide) ?_
  refine lv_icmp_lt (tgt := 16) hx hb dX4_isDigit_3 (by decide) (fun c_1 => ?_) (fun c_1 => ?_)
  · rw [if_pos c_1] at hf
    refine lv_iconst (v := 0) hx hb dX4_isDigit_16 (by decide) ?_
    obtain rfl := Option.some.inj hf
    exact nn_zret S hr hlk hw rfl rfl rfl dX4_isDigit_17
  · rw [if_neg c_1] at hf
    refine lv_iload_n hx hb dX4_isDigit_6 rfl (lv_at hl 0 rfl) ?_
    refine lv_bipush (v := 57) hx hb dX4_isDigit_7 (by decide) ?_
    refine lv_icmp_gt (tgt := 16) hx hb dX4_isDigit_9 (by decide) (fun c_2 => ?_) (fun c_2 => ?_)
    · rw [if_pos c_2] at hf
      refine lv_iconst (v := 0) hx hb dX4_isDigit_16 (by decide) ?_
      obtain rfl := Option.some.inj hf
      exact nn_zret S hr hlk hw rfl rfl rfl dX4_isDigit_17
    · rw [if_neg c_2] at hf
      refine lv_iconst (v := 1) hx hb dX4_isDigit_12 (by decide) ?_
      refine lv_goto (tgt := 17) hx hb dX4_isDigit_13 (by decide) ?_
      obtain rfl := Option.some.inj hf
      exact nn_zret S hr hlk hw rfl rfl rfl dX4_isDigit_17
set_option maxRecDepth 100000 in
set_option maxHeartbeats 4000000 in
theorem c_X6_shorterWay (l : Launch) (D : va_G) (cy : Nat → ClassId) (ad : Nat → Nat) (A : Nat → Prop) (σ : nG) (a0 : Int32) (a1 : Int32) (q : Int32) (hf : f_X6_shorterWay a0 a1 = some q) : nn_I l yX6_shorterWay (nn_ws yX6_shorterWay cX6_shorterWay 3 (some .int)) (nn_R 0) D cy ad A [.int (a0), .int (a1)] σ q σ := by
  refine nn_enterI (plainFor_of_name (by decide +kernel)) (Nat.le_of_ble_eq_true rfl) (lv := [(0, .int (a0)), (1, .int (a1))]) rfl ?_
  intro pp ee ss mm bb me co S hr hlk hK hw ls hl
  have hx := S.1
  have hb := S.2.1
  unfold f_X6_shorterWay at hf
  refine lv_iload_n hx hb dX6_shorterWay_0 rfl (lv_at hl 0 rfl) ?_
  refine lv_iload_n hx hb dX6_shorterWay_1 rfl (lv_at hl 1 rfl) ?_
  refine lv_icmp_ge (tgt := 11) hx hb dX6_shorterWay_2 (by decide) (fun c_1 => ?_) (fun c_1 => ?_)
  · rw [if_pos c_1] at hf
    refine lv_iload_n hx hb dX6_shorterWay_11 rfl (lv_at hl 0 rfl) ?_
    refine lv_iload_n hx hb dX6_shorterWay_12 rfl (lv_at hl 1 rfl) ?_
    refine lv_isub hx hb dX6_shorterWay_13 ?_
    refine lv_istore_n (lv' := [(2, .int (a0 - a1)), (0, .int (a0)), (1, .int (a1))]) hx hb dX6_shorterWay_14 rfl hl (by decide) rfl (fun ls hl => ?_)
    refine lv_iload_n hx hb dX6_shorterWay_15 rfl (lv_at hl 0 rfl) ?_
    refine lv_bipush (v := 30) hx hb dX6_shorterWay_16 (by decide) ?_
    refine lv_icmp_gt (tgt := 25) hx hb dX6_shorterWay_18 (by decide) (fun c_2 => ?_) (fun c_2 => ?_)
    · rw [if_pos c_2] at hf
      refine lv_bipush (v := 60) hx hb dX6_shorterWay_25 (by decide) ?_
      refine lv_iload_n hx hb dX6_shorterWay_27 rfl (lv_at hl 0 rfl) ?_
      refine lv_isub hx hb dX6_shorterWay_28 ?_
      obtain rfl := Option.some.inj hf
      exact nn_iret S hr hlk hw rfl rfl dX6_shorterWay_29
    · rw [if_neg c_2] at hf
      refine lv_iload_n hx hb dX6_shorterWay_21 rfl (lv_at hl 0 rfl) ?_
      refine lv_goto (tgt := 29) hx hb dX6_shorterWay_22 (by decide) ?_
      obtain rfl := Option.some.inj hf
      exact nn_iret S hr hlk hw rfl rfl dX6_shorterWay_29
  · rw [if_neg c_1] at hf
    refine lv_iload_n hx hb dX6_shorterWay_5 rfl (lv_at hl 1 rfl) ?_
    refine lv_iload_n hx hb dX6_shorterWay_6 rfl (lv_at hl 0 rfl) ?_
    refine lv_isub hx hb dX6_shorterWay_7 ?_
    refine lv_goto (tgt := 14) hx hb dX6_shorterWay_8 (by decide) ?_
    refine lv_istore_n (lv' := [(2, .int (a1 - a0)), (0, .int (a0)), (1, .int (a1))]) hx hb dX6_shorterWay_14 rfl hl (by decide) rfl (fun ls hl => ?_)
    refine lv_iload_n hx hb dX6_shorterWay_15 rfl (lv_at hl 0 rfl) ?_
    refine lv_bipush (v := 30) hx hb dX6_shorterWay_16 (by decide) ?_
    refine lv_icmp_gt (tgt := 25) hx hb dX6_shorterWay_18 (by decide) (fun c_3 => ?_) (fun c_3 => ?_)
    · rw [if_pos c_3] at hf
      refine lv_bipush (v := 60) hx hb dX6_shorterWay_25 (by decide) ?_
      refine lv_iload_n hx hb dX6_shorterWay_27 rfl (lv_at hl 0 rfl) ?_
      refine lv_isub hx hb dX6_shorterWay_28 ?_
      obtain rfl := Option.some.inj hf
      exact nn_iret S hr hlk hw rfl rfl dX6_shorterWay_29
    · rw [if_neg c_3] at hf
      refine lv_iload_n hx hb dX6_shorterWay_21 rfl (lv_at hl 0 rfl) ?_
      refine lv_goto (tgt := 29) hx hb dX6_shorterWay_22 (by decide) ?_
      obtain rfl := Option.some.inj hf
      exact nn_iret S hr hlk hw rfl rfl dX6_shorterWay_29
set_option maxRecDepth 100000 in
set_option maxHeartbeats 4000000 in
theorem c_X6_within (l : Launch) (D : va_G) (cy : Nat → ClassId) (ad : Nat → Nat) (A : Nat → Prop) (σ : nG) (a0 : Int32) (a1 : Int32) (a2 : Int32) (q : Int32) (hf : f_X6_within a0 a1 a2 = some q) : nn_I l yX6_within (nn_ws yX6_within cX6_within 3 (some .boolean)) (nn_R 0) D cy ad A [.int (a0), .int (a1), .int (a2)] σ q σ := by
  refine nn_enterI (plainFor_of_name (by decide +kernel)) (Nat.le_of_ble_eq_true rfl) (lv := [(0, .int (a0)), (1, .int (a1)), (2, .int (a2))]) rfl ?_
  intro pp ee ss mm bb me co S hr hlk hK hw ls hl
  have hx := S.1
  have hb := S.2.1
  unfold f_X6_within at hf
  refine lv_iload_n hx hb dX6_within_0 rfl (lv_at hl 0 rfl) ?_
  refine lv_iload_n hx hb dX6_within_1 rfl (lv_at hl 1 rfl) ?_
  refine lv_icmp_lt (tgt := 14) hx hb dX6_within_2 (by decide) (fun c_1 => ?_) (fun c_1 => ?_)
  · rw [if_pos c_1] at hf
    refine lv_iconst (v := 0) hx hb dX6_within_14 (by decide) ?_
    obtain rfl := Option.some.inj hf
    exact nn_zret S hr hlk hw rfl rfl rfl dX6_within_15
  · rw [if_neg c_1] at hf
    refine lv_iload_n hx hb dX6_within_5 rfl (lv_at hl 0 rfl) ?_
    refine lv_iload_n hx hb dX6_within_6 rfl (lv_at hl 2 rfl) ?_
    refine lv_icmp_gt (tgt := 14) hx hb dX6_within_7 (by decide) (fun c_2 => ?_) (fun c_2 => ?_)
    · rw [if_pos c_2] at hf
      refine lv_iconst (v := 0) hx hb dX6_within_14 (by decide) ?_
      obtain rfl := Option.some.inj hf
      exact nn_zret S hr hlk hw rfl rfl rfl dX6_within_15
    · rw [if_neg c_2] at hf
      refine lv_iconst (v := 1) hx hb dX6_within_10 (by decide) ?_
      refine lv_goto (tgt := 15) hx hb dX6_within_11 (by decide) ?_
      obtain rfl := Option.some.inj hf
      exact nn_zret S hr hlk hw rfl rfl rfl dX6_within_15
set_option maxRecDepth 100000 in
set_option maxHeartbeats 4000000 in
theorem c_X6_isMinute (l : Launch) (D : va_G) (cy : Nat → ClassId) (ad : Nat → Nat) (A : Nat → Prop) (σ : nG) (a0 : Int32) (q : Int32) (hf : f_X6_isMinute a0 = some q) : nn_I l yX6_isMinute (nn_ws yX6_isMinute cX6_isMinute 1 (some .boolean)) (nn_R 1) D cy ad A [.int (a0)] σ q σ := by
  refine nn_enterI (plainFor_of_name (by decide +kernel)) (Nat.le_of_ble_eq_true rfl) (lv := [(0, .int (a0))]) rfl ?_
  intro pp ee ss mm bb me co S hr hlk hK hw ls hl
  have hx := S.1
  have hb := S.2.1
  unfold f_X6_isMinute at hf
  refine lv_iload_n hx hb dX6_isMinute_0 rfl (lv_at hl 0 rfl) ?_
  refine lv_iconst (v := 0) hx hb dX6_isMinute_1 (by decide) ?_
  refine lv_bipush (v := 59) hx hb dX6_isMinute_2 (by decide) ?_
  obtain ⟨q_1, h_2, hf⟩ := nn_bind hf
  refine nn_calliS S (As := [.int (a0), .int ((0 : Int32)), .int ((59 : Int32))]) (rest := []) (c_X6_within l D cy ad A σ a0 (0 : Int32) (59 : Int32) q_1 h_2) mv_X6_within tb_1_200 hK hw ⟨Nat.le_of_ble_eq_true rfl, Nat.le_of_ble_eq_true rfl⟩ ⟨Nat.zero_le _, Nat.zero_le _⟩ rfl hl.1 rfl (Nat.le_of_ble_eq_true rfl) dX6_isMinute_4 (fun H locs hw => ?_)
  obtain ⟨g_3, hf⟩ := nn_bo_some hf
  obtain rfl := Option.some.inj hf
  exact nn_zret S hr hlk hw (by rcases g_3 with h9 | h9 <;> rw [h9] <;> rfl) rfl rfl dX6_isMinute_7
set_option maxRecDepth 100000 in
set_option maxHeartbeats 4000000 in
theorem c_J13_bitCount_95d88 (l : Launch) (D : va_G) (cy : Nat → ClassId) (ad : Nat → Nat) (A : Nat → Prop) (σ : nG) (a0 : Int64) (q : Int32) (hf : f_J13_bitCount_95d88 a0 = some q) : nn_I l yJ13_bitCount_95d88 (nn_ws yJ13_bitCount_95d88 cJ13_bitCount_95d88 2 (some .int)) (nn_R 0) D cy ad A [.long (a0)] σ q σ := by
  refine nn_enterI (plainFor_of_name (by decide +kernel)) (Nat.le_of_ble_eq_true rfl) (lv := [(0, .long (a0))]) rfl ?_
  intro pp ee ss mm bb me co S hr hlk hK hw ls hl
  have hx := S.1
  have hb := S.2.1
  unfold f_J13_bitCount_95d88 at hf
  refine lv_lload_n hx hb dJ13_bitCount_95d88_0 rfl (lv_at hl 0 rfl) ?_
  refine lv_lload_n hx hb dJ13_bitCount_95d88_1 rfl (lv_at hl 0 rfl) ?_
  refine lv_iconst (v := 1) hx hb dJ13_bitCount_95d88_2 (by decide) ?_
  refine lv_lushr (v := (a0.toUInt64 >>> ((1 : Int32).toInt64.toUInt64 &&& Int64.toUInt64 63)).toInt64) hx hb dJ13_bitCount_95d88_3 rfl ?_
  refine lv_ldc2 (v := 6148914691236517205) hx hb S.2.2.2.1 (S.2.2.2.2 _ tb_2_232) dJ13_bitCount_95d88_4 ?_
  refine lv_land hx hb dJ13_bitCount_95d88_7 ?_
  refine lv_lsub hx hb dJ13_bitCount_95d88_8 ?_
  refine lv_lstore_n (lv' := [(0, .long (a0 - (((a0.toUInt64 >>> ((1 : Int32).toInt64.toUInt64 &&& Int64.toUInt64 63)).toInt64) &&& (6148914691236517205 : Int64))))]) hx hb dJ13_bitCount_95d88_9 rfl hl (by decide) rfl (fun ls hl => ?_)
  refine lv_lload_n hx hb dJ13_bitCount_95d88_10 rfl (lv_at hl 0 rfl) ?_
  refine lv_ldc2 (v := 3689348814741910323) hx hb S.2.2.2.1 (S.2.2.2.2 _ tb_2_233) dJ13_bitCount_95d88_11 ?_
  refine lv_land hx hb dJ13_bitCount_95d88_14 ?_
  refine lv_lload_n hx hb dJ13_bitCount_95d88_15 rfl (lv_at hl 0 rfl) ?_
  refine lv_iconst (v := 2) hx hb dJ13_bitCount_95d88_16 (by decide) ?_
  refine lv_lushr (v := ((a0 - (((a0.toUInt64 >>> ((1 : Int32).toInt64.toUInt64 &&& Int64.toUInt64 63)).toInt64) &&& (6148914691236517205 : Int64))).toUInt64 >>> ((2 : Int32).toInt64.toUInt64 &&& Int64.toUInt64 63)).toInt64) hx hb dJ13_bitCount_95d88_17 rfl ?_
  refine lv_ldc2 (v := 3689348814741910323) hx hb S.2.2.2.1 (S.2.2.2.2 _ tb_2_233) dJ13_bitCount_95d88_18 ?_
  refine lv_land hx hb dJ13_bitCount_95d88_21 ?_
  refine lv_ladd hx hb dJ13_bitCount_95d88_22 ?_
  refine lv_lstore_n (lv' := [(0, .long (((a0 - (((a0.toUInt64 >>> ((1 : Int32).toInt64.toUInt64 &&& Int64.toUInt64 63)).toInt64) &&& (6148914691236517205 : Int64))) &&& (3689348814741910323 : Int64)) + ((((a0 - (((a0.toUInt64 >>> ((1 : Int32).toInt64.toUInt64 &&& Int64.toUInt64 63)).toInt64) &&& (6148914691236517205 : Int64))).toUInt64 >>> ((2 : Int32).toInt64.toUInt64 &&& Int64.toUInt64 63)).toInt64) &&& (3689348814741910323 : Int64))))]) hx hb dJ13_bitCount_95d88_23 rfl hl (by decide) rfl (fun ls hl => ?_)
  refine lv_lload_n hx hb dJ13_bitCount_95d88_24 rfl (lv_at hl 0 rfl) ?_
  refine lv_lload_n hx hb dJ13_bitCount_95d88_25 rfl (lv_at hl 0 rfl) ?_
  refine lv_iconst (v := 4) hx hb dJ13_bitCount_95d88_26 (by decide) ?_
  refine lv_lushr (v := ((((a0 - (((a0.toUInt64 >>> ((1 : Int32).toInt64.toUInt64 &&& Int64.toUInt64 63)).toInt64) &&& (6148914691236517205 : Int64))) &&& (3689348814741910323 : Int64)) + ((((a0 - (((a0.toUInt64 >>> ((1 : Int32).toInt64.toUInt64 &&& Int64.toUInt64 63)).toInt64) &&& (6148914691236517205 : Int64))).toUInt64 >>> ((2 : Int32).toInt64.toUInt64 &&& Int64.toUInt64 63)).toInt64) &&& (3689348814741910323 : Int64))).toUInt64 >>> ((4 : Int32).toInt64.toUInt64 &&& Int64.toUInt64 63)).toInt64) hx hb dJ13_bitCount_95d88_27 rfl ?_
  refine lv_ladd hx hb dJ13_bitCount_95d88_28 ?_
  refine lv_ldc2 (v := 1085102592571150095) hx hb S.2.2.2.1 (S.2.2.2.2 _ tb_2_234) dJ13_bitCount_95d88_29 ?_
  refine lv_land hx hb dJ13_bitCount_95d88_32 ?_
  refine lv_lstore_n (lv' := [(0, .long (((((a0 - (((a0.toUInt64 >>> ((1 : Int32).toInt64.toUInt64 &&& Int64.toUInt64 63)).toInt64) &&& (6148914691236517205 : Int64))) &&& (3689348814741910323 : Int64)) + ((((a0 - (((a0.toUInt64 >>> ((1 : Int32).toInt64.toUInt64 &&& Int64.toUInt64 63)).toInt64) &&& (6148914691236517205 : Int64))).toUInt64 >>> ((2 : Int32).toInt64.toUInt64 &&& Int64.toUInt64 63)).toInt64) &&& (3689348814741910323 : Int64))) + (((((a0 - (((a0.toUInt64 >>> ((1 : Int32).toInt64.toUInt64 &&& Int64.toUInt64 63)).toInt64) &&& (6148914691236517205 : Int64))) &&& (3689348814741910323 : Int64)) + ((((a0 - (((a0.toUInt64 >>> ((1 : Int32).toInt64.toUInt64 &&& Int64.toUInt64 63)).toInt64) &&& (6148914691236517205 : Int64))).toUInt64 >>> ((2 : Int32).toInt64.toUInt64 &&& Int64.toUInt64 63)).toInt64) &&& (3689348814741910323 : Int64))).toUInt64 >>> ((4 : Int32).toInt64.toUInt64 &&& Int64.toUInt64 63)).toInt64)) &&& (1085102592571150095 : Int64)))]) hx hb dJ13_bitCount_95d88_33 rfl hl (by decide) rfl (fun ls hl => ?_)
  refine lv_lload_n hx hb dJ13_bitCount_95d88_34 rfl (lv_at hl 0 rfl) ?_
  refine lv_lload_n hx hb dJ13_bitCount_95d88_35 rfl (lv_at hl 0 rfl) ?_
  refine lv_bipush (v := 8) hx hb dJ13_bitCount_95d88_36 (by decide) ?_
  refine lv_lushr (v := ((((((a0 - (((a0.toUInt64 >>> ((1 : Int32).toInt64.toUInt64 &&& Int64.toUInt64 63)).toInt64) &&& (6148914691236517205 : Int64))) &&& (3689348814741910323 : Int64)) + ((((a0 - (((a0.toUInt64 >>> ((1 : Int32).toInt64.toUInt64 &&& Int64.toUInt64 63)).toInt64) &&& (6148914691236517205 : Int64))).toUInt64 >>> ((2 : Int32).toInt64.toUInt64 &&& Int64.toUInt64 63)).toInt64) &&& (3689348814741910323 : Int64))) + (((((a0 - (((a0.toUInt64 >>> ((1 : Int32).toInt64.toUInt64 &&& Int64.toUInt64 63)).toInt64) &&& (6148914691236517205 : Int64))) &&& (3689348814741910323 : Int64)) + ((((a0 - (((a0.toUInt64 >>> ((1 : Int32).toInt64.toUInt64 &&& Int64.toUInt64 63)).toInt64) &&& (6148914691236517205 : Int64))).toUInt64 >>> ((2 : Int32).toInt64.toUInt64 &&& Int64.toUInt64 63)).toInt64) &&& (3689348814741910323 : Int64))).toUInt64 >>> ((4 : Int32).toInt64.toUInt64 &&& Int64.toUInt64 63)).toInt64)) &&& (1085102592571150095 : Int64)).toUInt64 >>> ((8 : Int32).toInt64.toUInt64 &&& Int64.toUInt64 63)).toInt64) hx hb dJ13_bitCount_95d88_38 rfl ?_
  refine lv_ladd hx hb dJ13_bitCount_95d88_39 ?_
  refine lv_lstore_n (lv' := [(0, .long ((((((a0 - (((a0.toUInt64 >>> ((1 : Int32).toInt64.toUInt64 &&& Int64.toUInt64 63)).toInt64) &&& (6148914691236517205 : Int64))) &&& (3689348814741910323 : Int64)) + ((((a0 - (((a0.toUInt64 >>> ((1 : Int32).toInt64.toUInt64 &&& Int64.toUInt64 63)).toInt64) &&& (6148914691236517205 : Int64))).toUInt64 >>> ((2 : Int32).toInt64.toUInt64 &&& Int64.toUInt64 63)).toInt64) &&& (3689348814741910323 : Int64))) + (((((a0 - (((a0.toUInt64 >>> ((1 : Int32).toInt64.toUInt64 &&& Int64.toUInt64 63)).toInt64) &&& (6148914691236517205 : Int64))) &&& (3689348814741910323 : Int64)) + ((((a0 - (((a0.toUInt64 >>> ((1 : Int32).toInt64.toUInt64 &&& Int64.toUInt64 63)).toInt64) &&& (6148914691236517205 : Int64))).toUInt64 >>> ((2 : Int32).toInt64.toUInt64 &&& Int64.toUInt64 63)).toInt64) &&& (3689348814741910323 : Int64))).toUInt64 >>> ((4 : Int32).toInt64.toUInt64 &&& Int64.toUInt64 63)).toInt64)) &&& (1085102592571150095 : Int64)) + (((((((a0 - (((a0.toUInt64 >>> ((1 : Int32).toInt64.toUInt64 &&& Int64.toUInt64 63)).toInt64) &&& (6148914691236517205 : Int64))) &&& (3689348814741910323 : Int64)) + ((((a0 - (((a0.toUInt64 >>> ((1 : Int32).toInt64.toUInt64 &&& Int64.toUInt64 63)).toInt64) &&& (6148914691236517205 : Int64))).toUInt64 >>> ((2 : Int32).toInt64.toUInt64 &&& Int64.toUInt64 63)).toInt64) &&& (3689348814741910323 : Int64))) + (((((a0 - (((a0.toUInt64 >>> ((1 : Int32).toInt64.toUInt64 &&& Int64.toUInt64 63)).toInt64) &&& (6148914691236517205 : Int64))) &&& (3689348814741910323 : Int64)) + ((((a0 - (((a0.toUInt64 >>> ((1 : Int32).toInt64.toUInt64 &&& Int64.toUInt64 63)).toInt64) &&& (6148914691236517205 : Int64))).toUInt64 >>> ((2 : Int32).toInt64.toUInt64 &&& Int64.toUInt64 63)).toInt64) &&& (3689348814741910323 : Int64))).toUInt64 >>> ((4 : Int32).toInt64.toUInt64 &&& Int64.toUInt64 63)).toInt64)) &&& (1085102592571150095 : Int64)).toUInt64 >>> ((8 : Int32).toInt64.toUInt64 &&& Int64.toUInt64 63)).toInt64)))]) hx hb dJ13_bitCount_95d88_40 rfl hl (by decide) rfl (fun ls hl => ?_)
  refine lv_lload_n hx hb dJ13_bitCount_95d88_41 rfl (lv_at hl 0 rfl) ?_
  refine lv_lload_n hx hb dJ13_bitCount_95d88_42 rfl (lv_at hl 0 rfl) ?_
  refine lv_bipush (v := 16) hx hb dJ13_bitCount_95d88_43 (by decide) ?_
  refine lv_lushr (v := (((((((a0 - (((a0.toUInt64 >>> ((1 : Int32).toInt64.toUInt64 &&& Int64.toUInt64 63)).toInt64) &&& (6148914691236517205 : Int64))) &&& (3689348814741910323 : Int64)) + ((((a0 - (((a0.toUInt64 >>> ((1 : Int32).toInt64.toUInt64 &&& Int64.toUInt64 63)).toInt64) &&& (6148914691236517205 : Int64))).toUInt64 >>> ((2 : Int32).toInt64.toUInt64 &&& Int64.toUInt64 63)).toInt64) &&& (3689348814741910323 : Int64))) + (((((a0 - (((a0.toUInt64 >>> ((1 : Int32).toInt64.toUInt64 &&& Int64.toUInt64 63)).toInt64) &&& (6148914691236517205 : Int64))) &&& (3689348814741910323 : Int64)) + ((((a0 - (((a0.toUInt64 >>> ((1 : Int32).toInt64.toUInt64 &&& Int64.toUInt64 63)).toInt64) &&& (6148914691236517205 : Int64))).toUInt64 >>> ((2 : Int32).toInt64.toUInt64 &&& Int64.toUInt64 63)).toInt64) &&& (3689348814741910323 : Int64))).toUInt64 >>> ((4 : Int32).toInt64.toUInt64 &&& Int64.toUInt64 63)).toInt64)) &&& (1085102592571150095 : Int64)) + (((((((a0 - (((a0.toUInt64 >>> ((1 : Int32).toInt64.toUInt64 &&& Int64.toUInt64 63)).toInt64) &&& (6148914691236517205 : Int64))) &&& (3689348814741910323 : Int64)) + ((((a0 - (((a0.toUInt64 >>> ((1 : Int32).toInt64.toUInt64 &&& Int64.toUInt64 63)).toInt64) &&& (6148914691236517205 : Int64))).toUInt64 >>> ((2 : Int32).toInt64.toUInt64 &&& Int64.toUInt64 63)).toInt64) &&& (3689348814741910323 : Int64))) + (((((a0 - (((a0.toUInt64 >>> ((1 : Int32).toInt64.toUInt64 &&& Int64.toUInt64 63)).toInt64) &&& (6148914691236517205 : Int64))) &&& (3689348814741910323 : Int64)) + ((((a0 - (((a0.toUInt64 >>> ((1 : Int32).toInt64.toUInt64 &&& Int64.toUInt64 63)).toInt64) &&& (6148914691236517205 : Int64))).toUInt64 >>> ((2 : Int32).toInt64.toUInt64 &&& Int64.toUInt64 63)).toInt64) &&& (3689348814741910323 : Int64))).toUInt64 >>> ((4 : Int32).toInt64.toUInt64 &&& Int64.toUInt64 63)).toInt64)) &&& (1085102592571150095 : Int64)).toUInt64 >>> ((8 : Int32).toInt64.toUInt64 &&& Int64.toUInt64 63)).toInt64)).toUInt64 >>> ((16 : Int32).toInt64.toUInt64 &&& Int64.toUInt64 63)).toInt64) hx hb dJ13_bitCount_95d88_45 rfl ?_
  refine lv_ladd hx hb dJ13_bitCount_95d88_46 ?_
  refine lv_lstore_n (lv' := [(0, .long (((((((a0 - (((a0.toUInt64 >>> ((1 : Int32).toInt64.toUInt64 &&& Int64.toUInt64 63)).toInt64) &&& (6148914691236517205 : Int64))) &&& (3689348814741910323 : Int64)) + ((((a0 - (((a0.toUInt64 >>> ((1 : Int32).toInt64.toUInt64 &&& Int64.toUInt64 63)).toInt64) &&& (6148914691236517205 : Int64))).toUInt64 >>> ((2 : Int32).toInt64.toUInt64 &&& Int64.toUInt64 63)).toInt64) &&& (3689348814741910323 : Int64))) + (((((a0 - (((a0.toUInt64 >>> ((1 : Int32).toInt64.toUInt64 &&& Int64.toUInt64 63)).toInt64) &&& (6148914691236517205 : Int64))) &&& (3689348814741910323 : Int64)) + ((((a0 - (((a0.toUInt64 >>> ((1 : Int32).toInt64.toUInt64 &&& Int64.toUInt64 63)).toInt64) &&& (6148914691236517205 : Int64))).toUInt64 >>> ((2 : Int32).toInt64.toUInt64 &&& Int64.toUInt64 63)).toInt64) &&& (3689348814741910323 : Int64))).toUInt64 >>> ((4 : Int32).toInt64.toUInt64 &&& Int64.toUInt64 63)).toInt64)) &&& (1085102592571150095 : Int64)) + (((((((a0 - (((a0.toUInt64 >>> ((1 : Int32).toInt64.toUInt64 &&& Int64.toUInt64 63)).toInt64) &&& (6148914691236517205 : Int64))) &&& (3689348814741910323 : Int64)) + ((((a0 - (((a0.toUInt64 >>> ((1 : Int32).toInt64.toUInt64 &&& Int64.toUInt64 63)).toInt64) &&& (6148914691236517205 : Int64))).toUInt64 >>> ((2 : Int32).toInt64.toUInt64 &&& Int64.toUInt64 63)).toInt64) &&& (3689348814741910323 : Int64))) + (((((a0 - (((a0.toUInt64 >>> ((1 : Int32).toInt64.toUInt64 &&& Int64.toUInt64 63)).toInt64) &&& (6148914691236517205 : Int64))) &&& (3689348814741910323 : Int64)) + ((((a0 - (((a0.toUInt64 >>> ((1 : Int32).toInt64.toUInt64 &&& Int64.toUInt64 63)).toInt64) &&& (6148914691236517205 : Int64))).toUInt64 >>> ((2 : Int32).toInt64.toUInt64 &&& Int64.toUInt64 63)).toInt64) &&& (3689348814741910323 : Int64))).toUInt64 >>> ((4 : Int32).toInt64.toUInt64 &&& Int64.toUInt64 63)).toInt64)) &&& (1085102592571150095 : Int64)).toUInt64 >>> ((8 : Int32).toInt64.toUInt64 &&& Int64.toUInt64 63)).toInt64)) + ((((((((a0 - (((a0.toUInt64 >>> ((1 : Int32).toInt64.toUInt64 &&& Int64.toUInt64 63)).toInt64) &&& (6148914691236517205 : Int64))) &&& (3689348814741910323 : Int64)) + ((((a0 - (((a0.toUInt64 >>> ((1 : Int32).toInt64.toUInt64 &&& Int64.toUInt64 63)).toInt64) &&& (6148914691236517205 : Int64))).toUInt64 >>> ((2 : Int32).toInt64.toUInt64 &&& Int64.toUInt64 63)).toInt64) &&& (3689348814741910323 : Int64))) + (((((a0 - (((a0.toUInt64 >>> ((1 : Int32).toInt64.toUInt64 &&& Int64.toUInt64 63)).toInt64) &&& (6148914691236517205 : Int64))) &&& (3689348814741910323 : Int64)) + ((((a0 - (((a0.toUInt64 >>> ((1 : Int32).toInt64.toUInt64 &&& Int64.toUInt64 63)).toInt64) &&& (6148914691236517205 : Int64))).toUInt64 >>> ((2 : Int32).toInt64.toUInt64 &&& Int64.toUInt64 63)).toInt64) &&& (3689348814741910323 : Int64))).toUInt64 >>> ((4 : Int32).toInt64.toUInt64 &&& Int64.toUInt64 63)).toInt64)) &&& (1085102592571150095 : Int64)) + (((((((a0 - (((a0.toUInt64 >>> ((1 : Int32).toInt64.toUInt64 &&& Int64.toUInt64 63)).toInt64) &&& (6148914691236517205 : Int64))) &&& (3689348814741910323 : Int64)) + ((((a0 - (((a0.toUInt64 >>> ((1 : Int32).toInt64.toUInt64 &&& Int64.toUInt64 63)).toInt64) &&& (6148914691236517205 : Int64))).toUInt64 >>> ((2 : Int32).toInt64.toUInt64 &&& Int64.toUInt64 63)).toInt64) &&& (3689348814741910323 : Int64))) + (((((a0 - (((a0.toUInt64 >>> ((1 : Int32).toInt64.toUInt64 &&& Int64.toUInt64 63)).toInt64) &&& (6148914691236517205 : Int64))) &&& (3689348814741910323 : Int64)) + ((((a0 - (((a0.toUInt64 >>> ((1 : Int32).toInt64.toUInt64 &&& Int64.toUInt64 63)).toInt64) &&& (6148914691236517205 : Int64))).toUInt64 >>> ((2 : Int32).toInt64.toUInt64 &&& Int64.toUInt64 63)).toInt64) &&& (3689348814741910323 : Int64))).toUInt64 >>> ((4 : Int32).toInt64.toUInt64 &&& Int64.toUInt64 63)).toInt64)) &&& (1085102592571150095 : Int64)).toUInt64 >>> ((8 : Int32).toInt64.toUInt64 &&& Int64.toUInt64 63)).toInt64)).toUInt64 >>> ((16 : Int32).toInt64.toUInt64 &&& Int64.toUInt64 63)).toInt64)))]) hx hb dJ13_bitCount_95d88_47 rfl hl (by decide) rfl (fun ls hl => ?_)
  refine lv_lload_n hx hb dJ13_bitCount_95d88_48 rfl (lv_at hl 0 rfl) ?_
  refine lv_lload_n hx hb dJ13_bitCount_95d88_49 rfl (lv_at hl 0 rfl) ?_
  refine lv_bipush (v := 32) hx hb dJ13_bitCount_95d88_50 (by decide) ?_
  refine lv_lushr (v := ((((((((a0 - (((a0.toUInt64 >>> ((1 : Int32).toInt64.toUInt64 &&& Int64.toUInt64 63)).toInt64) &&& (6148914691236517205 : Int64))) &&& (3689348814741910323 : Int64)) + ((((a0 - (((a0.toUInt64 >>> ((1 : Int32).toInt64.toUInt64 &&& Int64.toUInt64 63)).toInt64) &&& (6148914691236517205 : Int64))).toUInt64 >>> ((2 : Int32).toInt64.toUInt64 &&& Int64.toUInt64 63)).toInt64) &&& (3689348814741910323 : Int64))) + (((((a0 - (((a0.toUInt64 >>> ((1 : Int32).toInt64.toUInt64 &&& Int64.toUInt64 63)).toInt64) &&& (6148914691236517205 : Int64))) &&& (3689348814741910323 : Int64)) + ((((a0 - (((a0.toUInt64 >>> ((1 : Int32).toInt64.toUInt64 &&& Int64.toUInt64 63)).toInt64) &&& (6148914691236517205 : Int64))).toUInt64 >>> ((2 : Int32).toInt64.toUInt64 &&& Int64.toUInt64 63)).toInt64) &&& (3689348814741910323 : Int64))).toUInt64 >>> ((4 : Int32).toInt64.toUInt64 &&& Int64.toUInt64 63)).toInt64)) &&& (1085102592571150095 : Int64)) + (((((((a0 - (((a0.toUInt64 >>> ((1 : Int32).toInt64.toUInt64 &&& Int64.toUInt64 63)).toInt64) &&& (6148914691236517205 : Int64))) &&& (3689348814741910323 : Int64)) + ((((a0 - (((a0.toUInt64 >>> ((1 : Int32).toInt64.toUInt64 &&& Int64.toUInt64 63)).toInt64) &&& (6148914691236517205 : Int64))).toUInt64 >>> ((2 : Int32).toInt64.toUInt64 &&& Int64.toUInt64 63)).toInt64) &&& (3689348814741910323 : Int64))) + (((((a0 - (((a0.toUInt64 >>> ((1 : Int32).toInt64.toUInt64 &&& Int64.toUInt64 63)).toInt64) &&& (6148914691236517205 : Int64))) &&& (3689348814741910323 : Int64)) + ((((a0 - (((a0.toUInt64 >>> ((1 : Int32).toInt64.toUInt64 &&& Int64.toUInt64 63)).toInt64) &&& (6148914691236517205 : Int64))).toUInt64 >>> ((2 : Int32).toInt64.toUInt64 &&& Int64.toUInt64 63)).toInt64) &&& (3689348814741910323 : Int64))).toUInt64 >>> ((4 : Int32).toInt64.toUInt64 &&& Int64.toUInt64 63)).toInt64)) &&& (1085102592571150095 : Int64)).toUInt64 >>> ((8 : Int32).toInt64.toUInt64 &&& Int64.toUInt64 63)).toInt64)) + ((((((((a0 - (((a0.toUInt64 >>> ((1 : Int32).toInt64.toUInt64 &&& Int64.toUInt64 63)).toInt64) &&& (6148914691236517205 : Int64))) &&& (3689348814741910323 : Int64)) + ((((a0 - (((a0.toUInt64 >>> ((1 : Int32).toInt64.toUInt64 &&& Int64.toUInt64 63)).toInt64) &&& (6148914691236517205 : Int64))).toUInt64 >>> ((2 : Int32).toInt64.toUInt64 &&& Int64.toUInt64 63)).toInt64) &&& (3689348814741910323 : Int64))) + (((((a0 - (((a0.toUInt64 >>> ((1 : Int32).toInt64.toUInt64 &&& Int64.toUInt64 63)).toInt64) &&& (6148914691236517205 : Int64))) &&& (3689348814741910323 : Int64)) + ((((a0 - (((a0.toUInt64 >>> ((1 : Int32).toInt64.toUInt64 &&& Int64.toUInt64 63)).toInt64) &&& (6148914691236517205 : Int64))).toUInt64 >>> ((2 : Int32).toInt64.toUInt64 &&& Int64.toUInt64 63)).toInt64) &&& (3689348814741910323 : Int64))).toUInt64 >>> ((4 : Int32).toInt64.toUInt64 &&& Int64.toUInt64 63)).toInt64)) &&& (1085102592571150095 : Int64)) + (((((((a0 - (((a0.toUInt64 >>> ((1 : Int32).toInt64.toUInt64 &&& Int64.toUInt64 63)).toInt64) &&& (6148914691236517205 : Int64))) &&& (3689348814741910323 : Int64)) + ((((a0 - (((a0.toUInt64 >>> ((1 : Int32).toInt64.toUInt64 &&& Int64.toUInt64 63)).toInt64) &&& (6148914691236517205 : Int64))).toUInt64 >>> ((2 : Int32).toInt64.toUInt64 &&& Int64.toUInt64 63)).toInt64) &&& (3689348814741910323 : Int64))) + (((((a0 - (((a0.toUInt64 >>> ((1 : Int32).toInt64.toUInt64 &&& Int64.toUInt64 63)).toInt64) &&& (6148914691236517205 : Int64))) &&& (3689348814741910323 : Int64)) + ((((a0 - (((a0.toUInt64 >>> ((1 : Int32).toInt64.toUInt64 &&& Int64.toUInt64 63)).toInt64) &&& (6148914691236517205 : Int64))).toUInt64 >>> ((2 : Int32).toInt64.toUInt64 &&& Int64.toUInt64 63)).toInt64) &&& (3689348814741910323 : Int64))).toUInt64 >>> ((4 : Int32).toInt64.toUInt64 &&& Int64.toUInt64 63)).toInt64)) &&& (1085102592571150095 : Int64)).toUInt64 >>> ((8 : Int32).toInt64.toUInt64 &&& Int64.toUInt64 63)).toInt64)).toUInt64 >>> ((16 : Int32).toInt64.toUInt64 &&& Int64.toUInt64 63)).toInt64)).toUInt64 >>> ((32 : Int32).toInt64.toUInt64 &&& Int64.toUInt64 63)).toInt64) hx hb dJ13_bitCount_95d88_52 rfl ?_
  refine lv_ladd hx hb dJ13_bitCount_95d88_53 ?_
  refine lv_lstore_n (lv' := [(0, .long ((((((((a0 - (((a0.toUInt64 >>> ((1 : Int32).toInt64.toUInt64 &&& Int64.toUInt64 63)).toInt64) &&& (6148914691236517205 : Int64))) &&& (3689348814741910323 : Int64)) + ((((a0 - (((a0.toUInt64 >>> ((1 : Int32).toInt64.toUInt64 &&& Int64.toUInt64 63)).toInt64) &&& (6148914691236517205 : Int64))).toUInt64 >>> ((2 : Int32).toInt64.toUInt64 &&& Int64.toUInt64 63)).toInt64) &&& (3689348814741910323 : Int64))) + (((((a0 - (((a0.toUInt64 >>> ((1 : Int32).toInt64.toUInt64 &&& Int64.toUInt64 63)).toInt64) &&& (6148914691236517205 : Int64))) &&& (3689348814741910323 : Int64)) + ((((a0 - (((a0.toUInt64 >>> ((1 : Int32).toInt64.toUInt64 &&& Int64.toUInt64 63)).toInt64) &&& (6148914691236517205 : Int64))).toUInt64 >>> ((2 : Int32).toInt64.toUInt64 &&& Int64.toUInt64 63)).toInt64) &&& (3689348814741910323 : Int64))).toUInt64 >>> ((4 : Int32).toInt64.toUInt64 &&& Int64.toUInt64 63)).toInt64)) &&& (1085102592571150095 : Int64)) + (((((((a0 - (((a0.toUInt64 >>> ((1 : Int32).toInt64.toUInt64 &&& Int64.toUInt64 63)).toInt64) &&& (6148914691236517205 : Int64))) &&& (3689348814741910323 : Int64)) + ((((a0 - (((a0.toUInt64 >>> ((1 : Int32).toInt64.toUInt64 &&& Int64.toUInt64 63)).toInt64) &&& (6148914691236517205 : Int64))).toUInt64 >>> ((2 : Int32).toInt64.toUInt64 &&& Int64.toUInt64 63)).toInt64) &&& (3689348814741910323 : Int64))) + (((((a0 - (((a0.toUInt64 >>> ((1 : Int32).toInt64.toUInt64 &&& Int64.toUInt64 63)).toInt64) &&& (6148914691236517205 : Int64))) &&& (3689348814741910323 : Int64)) + ((((a0 - (((a0.toUInt64 >>> ((1 : Int32).toInt64.toUInt64 &&& Int64.toUInt64 63)).toInt64) &&& (6148914691236517205 : Int64))).toUInt64 >>> ((2 : Int32).toInt64.toUInt64 &&& Int64.toUInt64 63)).toInt64) &&& (3689348814741910323 : Int64))).toUInt64 >>> ((4 : Int32).toInt64.toUInt64 &&& Int64.toUInt64 63)).toInt64)) &&& (1085102592571150095 : Int64)).toUInt64 >>> ((8 : Int32).toInt64.toUInt64 &&& Int64.toUInt64 63)).toInt64)) + ((((((((a0 - (((a0.toUInt64 >>> ((1 : Int32).toInt64.toUInt64 &&& Int64.toUInt64 63)).toInt64) &&& (6148914691236517205 : Int64))) &&& (3689348814741910323 : Int64)) + ((((a0 - (((a0.toUInt64 >>> ((1 : Int32).toInt64.toUInt64 &&& Int64.toUInt64 63)).toInt64) &&& (6148914691236517205 : Int64))).toUInt64 >>> ((2 : Int32).toInt64.toUInt64 &&& Int64.toUInt64 63)).toInt64) &&& (3689348814741910323 : Int64))) + (((((a0 - (((a0.toUInt64 >>> ((1 : Int32).toInt64.toUInt64 &&& Int64.toUInt64 63)).toInt64) &&& (6148914691236517205 : Int64))) &&& (3689348814741910323 : Int64)) + ((((a0 - (((a0.toUInt64 >>> ((1 : Int32).toInt64.toUInt64 &&& Int64.toUInt64 63)).toInt64) &&& (6148914691236517205 : Int64))).toUInt64 >>> ((2 : Int32).toInt64.toUInt64 &&& Int64.toUInt64 63)).toInt64) &&& (3689348814741910323 : Int64))).toUInt64 >>> ((4 : Int32).toInt64.toUInt64 &&& Int64.toUInt64 63)).toInt64)) &&& (1085102592571150095 : Int64)) + (((((((a0 - (((a0.toUInt64 >>> ((1 : Int32).toInt64.toUInt64 &&& Int64.toUInt64 63)).toInt64) &&& (6148914691236517205 : Int64))) &&& (3689348814741910323 : Int64)) + ((((a0 - (((a0.toUInt64 >>> ((1 : Int32).toInt64.toUInt64 &&& Int64.toUInt64 63)).toInt64) &&& (6148914691236517205 : Int64))).toUInt64 >>> ((2 : Int32).toInt64.toUInt64 &&& Int64.toUInt64 63)).toInt64) &&& (3689348814741910323 : Int64))) + (((((a0 - (((a0.toUInt64 >>> ((1 : Int32).toInt64.toUInt64 &&& Int64.toUInt64 63)).toInt64) &&& (6148914691236517205 : Int64))) &&& (3689348814741910323 : Int64)) + ((((a0 - (((a0.toUInt64 >>> ((1 : Int32).toInt64.toUInt64 &&& Int64.toUInt64 63)).toInt64) &&& (6148914691236517205 : Int64))).toUInt64 >>> ((2 : Int32).toInt64.toUInt64 &&& Int64.toUInt64 63)).toInt64) &&& (3689348814741910323 : Int64))).toUInt64 >>> ((4 : Int32).toInt64.toUInt64 &&& Int64.toUInt64 63)).toInt64)) &&& (1085102592571150095 : Int64)).toUInt64 >>> ((8 : Int32).toInt64.toUInt64 &&& Int64.toUInt64 63)).toInt64)).toUInt64 >>> ((16 : Int32).toInt64.toUInt64 &&& Int64.toUInt64 63)).toInt64)) + (((((((((a0 - (((a0.toUInt64 >>> ((1 : Int32).toInt64.toUInt64 &&& Int64.toUInt64 63)).toInt64) &&& (6148914691236517205 : Int64))) &&& (3689348814741910323 : Int64)) + ((((a0 - (((a0.toUInt64 >>> ((1 : Int32).toInt64.toUInt64 &&& Int64.toUInt64 63)).toInt64) &&& (6148914691236517205 : Int64))).toUInt64 >>> ((2 : Int32).toInt64.toUInt64 &&& Int64.toUInt64 63)).toInt64) &&& (3689348814741910323 : Int64))) + (((((a0 - (((a0.toUInt64 >>> ((1 : Int32).toInt64.toUInt64 &&& Int64.toUInt64 63)).toInt64) &&& (6148914691236517205 : Int64))) &&& (3689348814741910323 : Int64)) + ((((a0 - (((a0.toUInt64 >>> ((1 : Int32).toInt64.toUInt64 &&& Int64.toUInt64 63)).toInt64) &&& (6148914691236517205 : Int64))).toUInt64 >>> ((2 : Int32).toInt64.toUInt64 &&& Int64.toUInt64 63)).toInt64) &&& (3689348814741910323 : Int64))).toUInt64 >>> ((4 : Int32).toInt64.toUInt64 &&& Int64.toUInt64 63)).toInt64)) &&& (1085102592571150095 : Int64)) + (((((((a0 - (((a0.toUInt64 >>> ((1 : Int32).toInt64.toUInt64 &&& Int64.toUInt64 63)).toInt64) &&& (6148914691236517205 : Int64))) &&& (3689348814741910323 : Int64)) + ((((a0 - (((a0.toUInt64 >>> ((1 : Int32).toInt64.toUInt64 &&& Int64.toUInt64 63)).toInt64) &&& (6148914691236517205 : Int64))).toUInt64 >>> ((2 : Int32).toInt64.toUInt64 &&& Int64.toUInt64 63)).toInt64) &&& (3689348814741910323 : Int64))) + (((((a0 - (((a0.toUInt64 >>> ((1 : Int32).toInt64.toUInt64 &&& Int64.toUInt64 63)).toInt64) &&& (6148914691236517205 : Int64))) &&& (3689348814741910323 : Int64)) + ((((a0 - (((a0.toUInt64 >>> ((1 : Int32).toInt64.toUInt64 &&& Int64.toUInt64 63)).toInt64) &&& (6148914691236517205 : Int64))).toUInt64 >>> ((2 : Int32).toInt64.toUInt64 &&& Int64.toUInt64 63)).toInt64) &&& (3689348814741910323 : Int64))).toUInt64 >>> ((4 : Int32).toInt64.toUInt64 &&& Int64.toUInt64 63)).toInt64)) &&& (1085102592571150095 : Int64)).toUInt64 >>> ((8 : Int32).toInt64.toUInt64 &&& Int64.toUInt64 63)).toInt64)) + ((((((((a0 - (((a0.toUInt64 >>> ((1 : Int32).toInt64.toUInt64 &&& Int64.toUInt64 63)).toInt64) &&& (6148914691236517205 : Int64))) &&& (3689348814741910323 : Int64)) + ((((a0 - (((a0.toUInt64 >>> ((1 : Int32).toInt64.toUInt64 &&& Int64.toUInt64 63)).toInt64) &&& (6148914691236517205 : Int64))).toUInt64 >>> ((2 : Int32).toInt64.toUInt64 &&& Int64.toUInt64 63)).toInt64) &&& (3689348814741910323 : Int64))) + (((((a0 - (((a0.toUInt64 >>> ((1 : Int32).toInt64.toUInt64 &&& Int64.toUInt64 63)).toInt64) &&& (6148914691236517205 : Int64))) &&& (3689348814741910323 : Int64)) + ((((a0 - (((a0.toUInt64 >>> ((1 : Int32).toInt64.toUInt64 &&& Int64.toUInt64 63)).toInt64) &&& (6148914691236517205 : Int64))).toUInt64 >>> ((2 : Int32).toInt64.toUInt64 &&& Int64.toUInt64 63)).toInt64) &&& (3689348814741910323 : Int64))).toUInt64 >>> ((4 : Int32).toInt64.toUInt64 &&& Int64.toUInt64 63)).toInt64)) &&& (1085102592571150095 : Int64)) + (((((((a0 - (((a0.toUInt64 >>> ((1 : Int32).toInt64.toUInt64 &&& Int64.toUInt64 63)).toInt64) &&& (6148914691236517205 : Int64))) &&& (3689348814741910323 : Int64)) + ((((a0 - (((a0.toUInt64 >>> ((1 : Int32).toInt64.toUInt64 &&& Int64.toUInt64 63)).toInt64) &&& (6148914691236517205 : Int64))).toUInt64 >>> ((2 : Int32).toInt64.toUInt64 &&& Int64.toUInt64 63)).toInt64) &&& (3689348814741910323 : Int64))) + (((((a0 - (((a0.toUInt64 >>> ((1 : Int32).toInt64.toUInt64 &&& Int64.toUInt64 63)).toInt64) &&& (6148914691236517205 : Int64))) &&& (3689348814741910323 : Int64)) + ((((a0 - (((a0.toUInt64 >>> ((1 : Int32).toInt64.toUInt64 &&& Int64.toUInt64 63)).toInt64) &&& (6148914691236517205 : Int64))).toUInt64 >>> ((2 : Int32).toInt64.toUInt64 &&& Int64.toUInt64 63)).toInt64) &&& (3689348814741910323 : Int64))).toUInt64 >>> ((4 : Int32).toInt64.toUInt64 &&& Int64.toUInt64 63)).toInt64)) &&& (1085102592571150095 : Int64)).toUInt64 >>> ((8 : Int32).toInt64.toUInt64 &&& Int64.toUInt64 63)).toInt64)).toUInt64 >>> ((16 : Int32).toInt64.toUInt64 &&& Int64.toUInt64 63)).toInt64)).toUInt64 >>> ((32 : Int32).toInt64.toUInt64 &&& Int64.toUInt64 63)).toInt64)))]) hx hb dJ13_bitCount_95d88_54 rfl hl (by decide) rfl (fun ls hl => ?_)
  refine lv_lload_n hx hb dJ13_bitCount_95d88_55 rfl (lv_at hl 0 rfl) ?_
  refine lv_l2i (v := ((((((((a0 - (((a0.toUInt64 >>> ((1 : Int32).toInt64.toUInt64 &&& Int64.toUInt64 63)).toInt64) &&& (6148914691236517205 : Int64))) &&& (3689348814741910323 : Int64)) + ((((a0 - (((a0.toUInt64 >>> ((1 : Int32).toInt64.toUInt64 &&& Int64.toUInt64 63)).toInt64) &&& (6148914691236517205 : Int64))).toUInt64 >>> ((2 : Int32).toInt64.toUInt64 &&& Int64.toUInt64 63)).toInt64) &&& (3689348814741910323 : Int64))) + (((((a0 - (((a0.toUInt64 >>> ((1 : Int32).toInt64.toUInt64 &&& Int64.toUInt64 63)).toInt64) &&& (6148914691236517205 : Int64))) &&& (3689348814741910323 : Int64)) + ((((a0 - (((a0.toUInt64 >>> ((1 : Int32).toInt64.toUInt64 &&& Int64.toUInt64 63)).toInt64) &&& (6148914691236517205 : Int64))).toUInt64 >>> ((2 : Int32).toInt64.toUInt64 &&& Int64.toUInt64 63)).toInt64) &&& (3689348814741910323 : Int64))).toUInt64 >>> ((4 : Int32).toInt64.toUInt64 &&& Int64.toUInt64 63)).toInt64)) &&& (1085102592571150095 : Int64)) + (((((((a0 - (((a0.toUInt64 >>> ((1 : Int32).toInt64.toUInt64 &&& Int64.toUInt64 63)).toInt64) &&& (6148914691236517205 : Int64))) &&& (3689348814741910323 : Int64)) + ((((a0 - (((a0.toUInt64 >>> ((1 : Int32).toInt64.toUInt64 &&& Int64.toUInt64 63)).toInt64) &&& (6148914691236517205 : Int64))).toUInt64 >>> ((2 : Int32).toInt64.toUInt64 &&& Int64.toUInt64 63)).toInt64) &&& (3689348814741910323 : Int64))) + (((((a0 - (((a0.toUInt64 >>> ((1 : Int32).toInt64.toUInt64 &&& Int64.toUInt64 63)).toInt64) &&& (6148914691236517205 : Int64))) &&& (3689348814741910323 : Int64)) + ((((a0 - (((a0.toUInt64 >>> ((1 : Int32).toInt64.toUInt64 &&& Int64.toUInt64 63)).toInt64) &&& (6148914691236517205 : Int64))).toUInt64 >>> ((2 : Int32).toInt64.toUInt64 &&& Int64.toUInt64 63)).toInt64) &&& (3689348814741910323 : Int64))).toUInt64 >>> ((4 : Int32).toInt64.toUInt64 &&& Int64.toUInt64 63)).toInt64)) &&& (1085102592571150095 : Int64)).toUInt64 >>> ((8 : Int32).toInt64.toUInt64 &&& Int64.toUInt64 63)).toInt64)) + ((((((((a0 - (((a0.toUInt64 >>> ((1 : Int32).toInt64.toUInt64 &&& Int64.toUInt64 63)).toInt64) &&& (6148914691236517205 : Int64))) &&& (3689348814741910323 : Int64)) + ((((a0 - (((a0.toUInt64 >>> ((1 : Int32).toInt64.toUInt64 &&& Int64.toUInt64 63)).toInt64) &&& (6148914691236517205 : Int64))).toUInt64 >>> ((2 : Int32).toInt64.toUInt64 &&& Int64.toUInt64 63)).toInt64) &&& (3689348814741910323 : Int64))) + (((((a0 - (((a0.toUInt64 >>> ((1 : Int32).toInt64.toUInt64 &&& Int64.toUInt64 63)).toInt64) &&& (6148914691236517205 : Int64))) &&& (3689348814741910323 : Int64)) + ((((a0 - (((a0.toUInt64 >>> ((1 : Int32).toInt64.toUInt64 &&& Int64.toUInt64 63)).toInt64) &&& (6148914691236517205 : Int64))).toUInt64 >>> ((2 : Int32).toInt64.toUInt64 &&& Int64.toUInt64 63)).toInt64) &&& (3689348814741910323 : Int64))).toUInt64 >>> ((4 : Int32).toInt64.toUInt64 &&& Int64.toUInt64 63)).toInt64)) &&& (1085102592571150095 : Int64)) + (((((((a0 - (((a0.toUInt64 >>> ((1 : Int32).toInt64.toUInt64 &&& Int64.toUInt64 63)).toInt64) &&& (6148914691236517205 : Int64))) &&& (3689348814741910323 : Int64)) + ((((a0 - (((a0.toUInt64 >>> ((1 : Int32).toInt64.toUInt64 &&& Int64.toUInt64 63)).toInt64) &&& (6148914691236517205 : Int64))).toUInt64 >>> ((2 : Int32).toInt64.toUInt64 &&& Int64.toUInt64 63)).toInt64) &&& (3689348814741910323 : Int64))) + (((((a0 - (((a0.toUInt64 >>> ((1 : Int32).toInt64.toUInt64 &&& Int64.toUInt64 63)).toInt64) &&& (6148914691236517205 : Int64))) &&& (3689348814741910323 : Int64)) + ((((a0 - (((a0.toUInt64 >>> ((1 : Int32).toInt64.toUInt64 &&& Int64.toUInt64 63)).toInt64) &&& (6148914691236517205 : Int64))).toUInt64 >>> ((2 : Int32).toInt64.toUInt64 &&& Int64.toUInt64 63)).toInt64) &&& (3689348814741910323 : Int64))).toUInt64 >>> ((4 : Int32).toInt64.toUInt64 &&& Int64.toUInt64 63)).toInt64)) &&& (1085102592571150095 : Int64)).toUInt64 >>> ((8 : Int32).toInt64.toUInt64 &&& Int64.toUInt64 63)).toInt64)).toUInt64 >>> ((16 : Int32).toInt64.toUInt64 &&& Int64.toUInt64 63)).toInt64)) + (((((((((a0 - (((a0.toUInt64 >>> ((1 : Int32).toInt64.toUInt64 &&& Int64.toUInt64 63)).toInt64) &&& (6148914691236517205 : Int64))) &&& (3689348814741910323 : Int64)) + ((((a0 - (((a0.toUInt64 >>> ((1 : Int32).toInt64.toUInt64 &&& Int64.toUInt64 63)).toInt64) &&& (6148914691236517205 : Int64))).toUInt64 >>> ((2 : Int32).toInt64.toUInt64 &&& Int64.toUInt64 63)).toInt64) &&& (3689348814741910323 : Int64))) + (((((a0 - (((a0.toUInt64 >>> ((1 : Int32).toInt64.toUInt64 &&& Int64.toUInt64 63)).toInt64) &&& (6148914691236517205 : Int64))) &&& (3689348814741910323 : Int64)) + ((((a0 - (((a0.toUInt64 >>> ((1 : Int32).toInt64.toUInt64 &&& Int64.toUInt64 63)).toInt64) &&& (6148914691236517205 : Int64))).toUInt64 >>> ((2 : Int32).toInt64.toUInt64 &&& Int64.toUInt64 63)).toInt64) &&& (3689348814741910323 : Int64))).toUInt64 >>> ((4 : Int32).toInt64.toUInt64 &&& Int64.toUInt64 63)).toInt64)) &&& (1085102592571150095 : Int64)) + (((((((a0 - (((a0.toUInt64 >>> ((1 : Int32).toInt64.toUInt64 &&& Int64.toUInt64 63)).toInt64) &&& (6148914691236517205 : Int64))) &&& (3689348814741910323 : Int64)) + ((((a0 - (((a0.toUInt64 >>> ((1 : Int32).toInt64.toUInt64 &&& Int64.toUInt64 63)).toInt64) &&& (6148914691236517205 : Int64))).toUInt64 >>> ((2 : Int32).toInt64.toUInt64 &&& Int64.toUInt64 63)).toInt64) &&& (3689348814741910323 : Int64))) + (((((a0 - (((a0.toUInt64 >>> ((1 : Int32).toInt64.toUInt64 &&& Int64.toUInt64 63)).toInt64) &&& (6148914691236517205 : Int64))) &&& (3689348814741910323 : Int64)) + ((((a0 - (((a0.toUInt64 >>> ((1 : Int32).toInt64.toUInt64 &&& Int64.toUInt64 63)).toInt64) &&& (6148914691236517205 : Int64))).toUInt64 >>> ((2 : Int32).toInt64.toUInt64 &&& Int64.toUInt64 63)).toInt64) &&& (3689348814741910323 : Int64))).toUInt64 >>> ((4 : Int32).toInt64.toUInt64 &&& Int64.toUInt64 63)).toInt64)) &&& (1085102592571150095 : Int64)).toUInt64 >>> ((8 : Int32).toInt64.toUInt64 &&& Int64.toUInt64 63)).toInt64)) + ((((((((a0 - (((a0.toUInt64 >>> ((1 : Int32).toInt64.toUInt64 &&& Int64.toUInt64 63)).toInt64) &&& (6148914691236517205 : Int64))) &&& (3689348814741910323 : Int64)) + ((((a0 - (((a0.toUInt64 >>> ((1 : Int32).toInt64.toUInt64 &&& Int64.toUInt64 63)).toInt64) &&& (6148914691236517205 : Int64))).toUInt64 >>> ((2 : Int32).toInt64.toUInt64 &&& Int64.toUInt64 63)).toInt64) &&& (3689348814741910323 : Int64))) + (((((a0 - (((a0.toUInt64 >>> ((1 : Int32).toInt64.toUInt64 &&& Int64.toUInt64 63)).toInt64) &&& (6148914691236517205 : Int64))) &&& (3689348814741910323 : Int64)) + ((((a0 - (((a0.toUInt64 >>> ((1 : Int32).toInt64.toUInt64 &&& Int64.toUInt64 63)).toInt64) &&& (6148914691236517205 : Int64))).toUInt64 >>> ((2 : Int32).toInt64.toUInt64 &&& Int64.toUInt64 63)).toInt64) &&& (3689348814741910323 : Int64))).toUInt64 >>> ((4 : Int32).toInt64.toUInt64 &&& Int64.toUInt64 63)).toInt64)) &&& (1085102592571150095 : Int64)) + (((((((a0 - (((a0.toUInt64 >>> ((1 : Int32).toInt64.toUInt64 &&& Int64.toUInt64 63)).toInt64) &&& (6148914691236517205 : Int64))) &&& (3689348814741910323 : Int64)) + ((((a0 - (((a0.toUInt64 >>> ((1 : Int32).toInt64.toUInt64 &&& Int64.toUInt64 63)).toInt64) &&& (6148914691236517205 : Int64))).toUInt64 >>> ((2 : Int32).toInt64.toUInt64 &&& Int64.toUInt64 63)).toInt64) &&& (3689348814741910323 : Int64))) + (((((a0 - (((a0.toUInt64 >>> ((1 : Int32).toInt64.toUInt64 &&& Int64.toUInt64 63)).toInt64) &&& (6148914691236517205 : Int64))) &&& (3689348814741910323 : Int64)) + ((((a0 - (((a0.toUInt64 >>> ((1 : Int32).toInt64.toUInt64 &&& Int64.toUInt64 63)).toInt64) &&& (6148914691236517205 : Int64))).toUInt64 >>> ((2 : Int32).toInt64.toUInt64 &&& Int64.toUInt64 63)).toInt64) &&& (3689348814741910323 : Int64))).toUInt64 >>> ((4 : Int32).toInt64.toUInt64 &&& Int64.toUInt64 63)).toInt64)) &&& (1085102592571150095 : Int64)).toUInt64 >>> ((8 : Int32).toInt64.toUInt64 &&& Int64.toUInt64 63)).toInt64)).toUInt64 >>> ((16 : Int32).toInt64.toUInt64 &&& Int64.toUInt64 63)).toInt64)).toUInt64 >>> ((32 : Int32).toInt64.toUInt64 &&& Int64.toUInt64 63)).toInt64)).toInt32) hx hb dJ13_bitCount_95d88_56 rfl ?_
  refine lv_bipush (v := 127) hx hb dJ13_bitCount_95d88_57 (by decide) ?_
  refine lv_iand hx hb dJ13_bitCount_95d88_59 ?_
  obtain rfl := Option.some.inj hf
  exact nn_iret S hr hlk hw rfl rfl dJ13_bitCount_95d88_60
set_option maxRecDepth 100000 in
set_option maxHeartbeats 4000000 in
theorem c_J6_numberOfTrailingZeros_0f7a4 (l : Launch) (D : va_G) (cy : Nat → ClassId) (ad : Nat → Nat) (A : Nat → Prop) (σ : nG) (a0 : Int32) (q : Int32) (hf : f_J6_numberOfTrailingZeros_0f7a4 a0 = some q) : nn_I l yJ6_numberOfTrailingZeros_0f7a4 (nn_ws yJ6_numberOfTrailingZeros_0f7a4 cJ6_numberOfTrailingZeros_0f7a4 2 (some .int)) (nn_R 0) D cy ad A [.int (a0)] σ q σ := by
  refine nn_enterI (plainFor_of_name (by decide +kernel)) (Nat.le_of_ble_eq_true rfl) (lv := [(0, .int (a0))]) rfl ?_
  intro pp ee ss mm bb me co S hr hlk hK hw ls hl
  have hx := S.1
  have hb := S.2.1
  unfold f_J6_numberOfTrailingZeros_0f7a4 at hf
  have J62 : ∀ (u0 : Int32) (u1 : Int32), f_J6_numberOfTrailingZeros_0f7a4_J62 u0 u1 = some q → ∀ (H : Heap) (locs : List Loc) (ls : Array Slot), nn_W D cy ad A ss.heap σ H locs → lv_has ls 2 [(0, .int (u0)), (1, .int (u1))] → W pp l ee (nn_R 0) ss mm ([.int (a0)] : List Value).toArray bb me co H locs 0 0 (MQ bb (nn_qi D cy ad A q σ) ([.int (a0)] : List Value).toArray ss 0 0 A) (F0 mm 62 ls []) := by
    intro u0 u1 hf H locs ls hw hl
    unfold f_J6_numberOfTrailingZeros_0f7a4_J62 at hf
    refine lv_iload_n hx hb dJ6_numberOfTrailingZeros_0f7a4_62 rfl (lv_at hl 0 rfl) ?_
    refine lv_iconst (v := 4) hx hb dJ6_numberOfTrailingZeros_0f7a4_63 (by decide) ?_
    refine lv_icmp_le (tgt := 74) hx hb dJ6_numberOfTrailingZeros_0f7a4_64 (by decide) (fun c_5 => ?_) (fun c_5 => ?_)
    · rw [if_pos c_5] at hf
      refine lv_iload_n hx hb dJ6_numberOfTrailingZeros_0f7a4_74 rfl (lv_at hl 1 rfl) ?_
      refine lv_iload_n hx hb dJ6_numberOfTrailingZeros_0f7a4_75 rfl (lv_at hl 0 rfl) ?_
      refine lv_iconst (v := 1) hx hb dJ6_numberOfTrailingZeros_0f7a4_76 (by decide) ?_
      refine lv_iushr (v := (u0.toUInt32 >>> ((1 : Int32).toUInt32 &&& Int32.toUInt32 31)).toInt32) hx hb dJ6_numberOfTrailingZeros_0f7a4_77 rfl ?_
      refine lv_iadd hx hb dJ6_numberOfTrailingZeros_0f7a4_78 ?_
      obtain rfl := Option.some.inj hf
      exact nn_iret S hr hlk hw rfl rfl dJ6_numberOfTrailingZeros_0f7a4_79
    · rw [if_neg c_5] at hf
      refine lv_iinc (v := u1 + (2 : Int32)) (lv' := [(1, .int (u1 + (2 : Int32))), (0, .int (u0))]) hx hb dJ6_numberOfTrailingZeros_0f7a4_67 hl (k := 1) rfl (congrArg (fun z => u1 + z) (by decide)) (by decide) rfl (fun ls hl => ?_)
      refine lv_iload_n hx hb dJ6_numberOfTrailingZeros_0f7a4_70 rfl (lv_at hl 1 rfl) ?_
      refine lv_iconst (v := 2) hx hb dJ6_numberOfTrailingZeros_0f7a4_71 (by decide) ?_
      refine lv_iushr (v := (u0.toUInt32 >>> ((2 : Int32).toUInt32 &&& Int32.toUInt32 31)).toInt32) hx hb dJ6_numberOfTrailingZeros_0f7a4_72 rfl ?_
      refine lv_istore_n (lv' := [(0, .int ((u0.toUInt32 >>> ((2 : Int32).toUInt32 &&& Int32.toUInt32 31)).toInt32)), (1, .int (u1 + (2 : Int32)))]) hx hb dJ6_numberOfTrailingZeros_0f7a4_73 rfl hl (by decide) rfl (fun ls hl => ?_)
      refine lv_iload_n hx hb dJ6_numberOfTrailingZeros_0f7a4_74 rfl (lv_at hl 1 rfl) ?_
      refine lv_iload_n hx hb dJ6_numberOfTrailingZeros_0f7a4_75 rfl (lv_at hl 0 rfl) ?_
      refine lv_iconst (v := 1) hx hb dJ6_numberOfTrailingZeros_0f7a4_76 (by decide) ?_
      refine lv_iushr (v := (((u0.toUInt32 >>> ((2 : Int32).toUInt32 &&& Int32.toUInt32 31)).toInt32).toUInt32 >>> ((1 : Int32).toUInt32 &&& Int32.toUInt32 31)).toInt32) hx hb dJ6_numberOfTrailingZeros_0f7a4_77 rfl ?_
      refine lv_iadd hx hb dJ6_numberOfTrailingZeros_0f7a4_78 ?_
      obtain rfl := Option.some.inj hf
      exact nn_iret S hr hlk hw rfl rfl dJ6_numberOfTrailingZeros_0f7a4_79
  have J49 : ∀ (u0 : Int32) (u1 : Int32), f_J6_numberOfTrailingZeros_0f7a4_J49 u0 u1 = some q → ∀ (H : Heap) (locs : List Loc) (ls : Array Slot), nn_W D cy ad A ss.heap σ H locs → lv_has ls 2 [(0, .int (u0)), (1, .int (u1))] → W pp l ee (nn_R 0) ss mm ([.int (a0)] : List Value).toArray bb me co H locs 0 0 (MQ bb (nn_qi D cy ad A q σ) ([.int (a0)] : List Value).toArray ss 0 0 A) (F0 mm 49 ls []) := by
    intro u0 u1 hf H locs ls hw hl
    unfold f_J6_numberOfTrailingZeros_0f7a4_J49 at hf
    refine lv_iload_n hx hb dJ6_numberOfTrailingZeros_0f7a4_49 rfl (lv_at hl 0 rfl) ?_
    refine lv_bipush (v := 16) hx hb dJ6_numberOfTrailingZeros_0f7a4_50 (by decide) ?_
    refine lv_icmp_le (tgt := 62) hx hb dJ6_numberOfTrailingZeros_0f7a4_52 (by decide) (fun c_4 => ?_) (fun c_4 => ?_)
    · rw [if_pos c_4] at hf
      exact J62 u0 u1 hf _ _ _ hw (lv_sub hl [0, 1] rfl)
    · rw [if_neg c_4] at hf
      refine lv_iinc (v := u1 + (4 : Int32)) (lv' := [(1, .int (u1 + (4 : Int32))), (0, .int (u0))]) hx hb dJ6_numberOfTrailingZeros_0f7a4_55 hl (k := 1) rfl (congrArg (fun z => u1 + z) (by decide)) (by decide) rfl (fun ls hl => ?_)
      refine lv_iload_n hx hb dJ6_numberOfTrailingZeros_0f7a4_58 rfl (lv_at hl 1 rfl) ?_
      refine lv_iconst (v := 4) hx hb dJ6_numberOfTrailingZeros_0f7a4_59 (by decide) ?_
      refine lv_iushr (v := (u0.toUInt32 >>> ((4 : Int32).toUInt32 &&& Int32.toUInt32 31)).toInt32) hx hb dJ6_numberOfTrailingZeros_0f7a4_60 rfl ?_
      refine lv_istore_n (lv' := [(0, .int ((u0.toUInt32 >>> ((4 : Int32).toUInt32 &&& Int32.toUInt32 31)).toInt32)), (1, .int (u1 + (4 : Int32)))]) hx hb dJ6_numberOfTrailingZeros_0f7a4_61 rfl hl (by decide) rfl (fun ls hl => ?_)
      exact J62 ((u0.toUInt32 >>> ((4 : Int32).toUInt32 &&& Int32.toUInt32 31)).toInt32) (u1 + (4 : Int32)) hf _ _ _ hw (lv_sub hl [0, 1] rfl)
  have J34 : ∀ (u0 : Int32) (u1 : Int32), f_J6_numberOfTrailingZeros_0f7a4_J34 u0 u1 = some q → ∀ (H : Heap) (locs : List Loc) (ls : Array Slot), nn_W D cy ad A ss.heap σ H locs → lv_has ls 2 [(0, .int (u0)), (1, .int (u1))] → W pp l ee (nn_R 0) ss mm ([.int (a0)] : List Value).toArray bb me co H locs 0 0 (MQ bb (nn_qi D cy ad A q σ) ([.int (a0)] : List Value).toArray ss 0 0 A) (F0 mm 34 ls []) := by
    intro u0 u1 hf H locs ls hw hl
    unfold f_J6_numberOfTrailingZeros_0f7a4_J34 at hf
    refine lv_iload_n hx hb dJ6_numberOfTrailingZeros_0f7a4_34 rfl (lv_at hl 0 rfl) ?_
    refine lv_sipush (v := 256) hx hb dJ6_numberOfTrailingZeros_0f7a4_35 (by decide) ?_
    refine lv_icmp_le (tgt := 49) hx hb dJ6_numberOfTrailingZeros_0f7a4_38 (by decide) (fun c_3 => ?_) (fun c_3 => ?_)
    · rw [if_pos c_3] at hf
      exact J49 u0 u1 hf _ _ _ hw (lv_sub hl [0, 1] rfl)
    · rw [if_neg c_3] at hf
      refine lv_iinc (v := u1 + (8 : Int32)) (lv' := [(1, .int (u1 + (8 : Int32))), (0, .int (u0))]) hx hb dJ6_numberOfTrailingZeros_0f7a4_41 hl (k := 1) rfl (congrArg (fun z => u1 + z) (by decide)) (by decide) rfl (fun ls hl => ?_)
      refine lv_iload_n hx hb dJ6_numberOfTrailingZeros_0f7a4_44 rfl (lv_at hl 1 rfl) ?_
      refine lv_bipush (v := 8) hx hb dJ6_numberOfTrailingZeros_0f7a4_45 (by decide) ?_
      refine lv_iushr (v := (u0.toUInt32 >>> ((8 : Int32).toUInt32 &&& Int32.toUInt32 31)).toInt32) hx hb dJ6_numberOfTrailingZeros_0f7a4_47 rfl ?_
      refine lv_istore_n (lv' := [(0, .int ((u0.toUInt32 >>> ((8 : Int32).toUInt32 &&& Int32.toUInt32 31)).toInt32)), (1, .int (u1 + (8 : Int32)))]) hx hb dJ6_numberOfTrailingZeros_0f7a4_48 rfl hl (by decide) rfl (fun ls hl => ?_)
      exact J49 ((u0.toUInt32 >>> ((8 : Int32).toUInt32 &&& Int32.toUInt32 31)).toInt32) (u1 + (8 : Int32)) hf _ _ _ hw (lv_sub hl [0, 1] rfl)
  refine lv_iload_n hx hb dJ6_numberOfTrailingZeros_0f7a4_0 rfl (lv_at hl 0 rfl) ?_
  refine lv_iconst (v := -1) hx hb dJ6_numberOfTrailingZeros_0f7a4_1 (by decide) ?_
  refine lv_ixor hx hb dJ6_numberOfTrailingZeros_0f7a4_2 ?_
  refine lv_iload_n hx hb dJ6_numberOfTrailingZeros_0f7a4_3 rfl (lv_at hl 0 rfl) ?_
  refine lv_iconst (v := 1) hx hb dJ6_numberOfTrailingZeros_0f7a4_4 (by decide) ?_
  refine lv_isub hx hb dJ6_numberOfTrailingZeros_0f7a4_5 ?_
  refine lv_iand hx hb dJ6_numberOfTrailingZeros_0f7a4_6 ?_
  refine lv_istore_n (lv' := [(0, .int ((a0 ^^^ (-1 : Int32)) &&& (a0 - (1 : Int32))))]) hx hb dJ6_numberOfTrailingZeros_0f7a4_7 rfl hl (by decide) rfl (fun ls hl => ?_)
  refine lv_iload_n hx hb dJ6_numberOfTrailingZeros_0f7a4_8 rfl (lv_at hl 0 rfl) ?_
  refine lv_if_gt (tgt := 17) hx hb dJ6_numberOfTrailingZeros_0f7a4_9 (by decide) (fun c_1 => ?_) (fun c_1 => ?_)
  · rw [if_pos c_1] at hf
    refine lv_iconst (v := 1) hx hb dJ6_numberOfTrailingZeros_0f7a4_17 (by decide) ?_
    refine lv_istore_n (lv' := [(1, .int ((1 : Int32))), (0, .int ((a0 ^^^ (-1 : Int32)) &&& (a0 - (1 : Int32))))]) hx hb dJ6_numberOfTrailingZeros_0f7a4_18 rfl hl (by decide) rfl (fun ls hl => ?_)
    refine lv_iload_n hx hb dJ6_numberOfTrailingZeros_0f7a4_19 rfl (lv_at hl 1 rfl) ?_
    refine lv_ldcw (v := 65536) hx hb S.2.2.2.1 (S.2.2.2.2 _ tb_3_2) dJ6_numberOfTrailingZeros_0f7a4_20 ?_
    refine lv_icmp_le (tgt := 34) hx hb dJ6_numberOfTrailingZeros_0f7a4_23 (by decide) (fun c_2 => ?_) (fun c_2 => ?_)
    · rw [if_pos c_2] at hf
      exact J34 ((a0 ^^^ (-1 : Int32)) &&& (a0 - (1 : Int32))) (1 : Int32) hf _ _ _ hw (lv_sub hl [1, 0] rfl)
    · rw [if_neg c_2] at hf
      refine lv_iinc (v := (1 : Int32) + (16 : Int32)) (lv' := [(1, .int ((1 : Int32) + (16 : Int32))), (0, .int ((a0 ^^^ (-1 : Int32)) &&& (a0 - (1 : Int32))))]) hx hb dJ6_numberOfTrailingZeros_0f7a4_26 hl (k := 0) rfl (congrArg (fun z => (1 : Int32) + z) (by decide)) (by decide) rfl (fun ls hl => ?_)
      refine lv_iload_n hx hb dJ6_numberOfTrailingZeros_0f7a4_29 rfl (lv_at hl 1 rfl) ?_
      refine lv_bipush (v := 16) hx hb dJ6_numberOfTrailingZeros_0f7a4_30 (by decide) ?_
      refine lv_iushr (v := (((a0 ^^^ (-1 : Int32)) &&& (a0 - (1 : Int32))).toUInt32 >>> ((16 : Int32).toUInt32 &&& Int32.toUInt32 31)).toInt32) hx hb dJ6_numberOfTrailingZeros_0f7a4_32 rfl ?_
      refine lv_istore_n (lv' := [(0, .int ((((a0 ^^^ (-1 : Int32)) &&& (a0 - (1 : Int32))).toUInt32 >>> ((16 : Int32).toUInt32 &&& Int32.toUInt32 31)).toInt32)), (1, .int ((1 : Int32) + (16 : Int32)))]) hx hb dJ6_numberOfTrailingZeros_0f7a4_33 rfl hl (by decide) rfl (fun ls hl => ?_)
      exact J34 ((((a0 ^^^ (-1 : Int32)) &&& (a0 - (1 : Int32))).toUInt32 >>> ((16 : Int32).toUInt32 &&& Int32.toUInt32 31)).toInt32) ((1 : Int32) + (16 : Int32)) hf _ _ _ hw (lv_sub hl [0, 1] rfl)
  · rw [if_neg c_1] at hf
    refine lv_iload_n hx hb dJ6_numberOfTrailingZeros_0f7a4_12 rfl (lv_at hl 0 rfl) ?_
    refine lv_bipush (v := 32) hx hb dJ6_numberOfTrailingZeros_0f7a4_13 (by decide) ?_
    refine lv_iand hx hb dJ6_numberOfTrailingZeros_0f7a4_15 ?_
    obtain rfl := Option.some.inj hf
    exact nn_iret S hr hlk hw rfl rfl dJ6_numberOfTrailingZeros_0f7a4_16
set_option maxRecDepth 100000 in
set_option maxHeartbeats 4000000 in
theorem c_J13_numberOfTrailingZeros_95d88 (l : Launch) (D : va_G) (cy : Nat → ClassId) (ad : Nat → Nat) (A : Nat → Prop) (σ : nG) (a0 : Int64) (q : Int32) (hf : f_J13_numberOfTrailingZeros_95d88 a0 = some q) : nn_I l yJ13_numberOfTrailingZeros_95d88 (nn_ws yJ13_numberOfTrailingZeros_95d88 cJ13_numberOfTrailingZeros_95d88 3 (some .int)) (nn_R 1) D cy ad A [.long (a0)] σ q σ := by
  refine nn_enterI (plainFor_of_name (by decide +kernel)) (Nat.le_of_ble_eq_true rfl) (lv := [(0, .long (a0))]) rfl ?_
  intro pp ee ss mm bb me co S hr hlk hK hw ls hl
  have hx := S.1
  have hb := S.2.1
  unfold f_J13_numberOfTrailingZeros_95d88 at hf
  refine lv_lload_n hx hb dJ13_numberOfTrailingZeros_95d88_0 rfl (lv_at hl 0 rfl) ?_
  refine lv_l2i (v := a0.toInt32) hx hb dJ13_numberOfTrailingZeros_95d88_1 rfl ?_
  refine lv_istore_n (lv' := [(2, .int (a0.toInt32)), (0, .long (a0))]) hx hb dJ13_numberOfTrailingZeros_95d88_2 rfl hl (by decide) rfl (fun ls hl => ?_)
  refine lv_iload_n hx hb dJ13_numberOfTrailingZeros_95d88_3 rfl (lv_at hl 0 rfl) ?_
  refine lv_if_ne (tgt := 21) hx hb dJ13_numberOfTrailingZeros_95d88_4 (by decide) (fun c_1 => ?_) (fun c_1 => ?_)
  · rw [if_neg c_1] at hf
    refine lv_iload_n hx hb dJ13_numberOfTrailingZeros_95d88_21 rfl (lv_at hl 0 rfl) ?_
    obtain ⟨q_2, h_3, hf⟩ := nn_bind hf
    refine nn_calliS S (As := [.int (a0.toInt32)]) (rest := []) (c_J6_numberOfTrailingZeros_0f7a4 l D cy ad A σ a0.toInt32 q_2 h_3) mv_J6_numberOfTrailingZeros_0f7a4 tb_2_239 hK hw ⟨Nat.le_of_ble_eq_true rfl, Nat.le_of_ble_eq_true rfl⟩ ⟨Nat.zero_le _, Nat.zero_le _⟩ rfl hl.1 rfl (Nat.le_of_ble_eq_true rfl) dJ13_numberOfTrailingZeros_95d88_22 (fun H locs hw => ?_)
    obtain rfl := Option.some.inj hf
    exact nn_iret S hr hlk hw rfl rfl dJ13_numberOfTrailingZeros_95d88_25
  · rw [if_pos c_1] at hf
    refine lv_bipush (v := 32) hx hb dJ13_numberOfTrailingZeros_95d88_7 (by decide) ?_
    refine lv_lload_n hx hb dJ13_numberOfTrailingZeros_95d88_9 rfl (lv_at hl 1 rfl) ?_
    refine lv_bipush (v := 32) hx hb dJ13_numberOfTrailingZeros_95d88_10 (by decide) ?_
    refine lv_lushr (v := (a0.toUInt64 >>> ((32 : Int32).toInt64.toUInt64 &&& Int64.toUInt64 63)).toInt64) hx hb dJ13_numberOfTrailingZeros_95d88_12 rfl ?_
    refine lv_l2i (v := ((a0.toUInt64 >>> ((32 : Int32).toInt64.toUInt64 &&& Int64.toUInt64 63)).toInt64).toInt32) hx hb dJ13_numberOfTrailingZeros_95d88_13 rfl ?_
    obtain ⟨q_4, h_5, hf⟩ := nn_bind hf
    refine nn_calliS S (As := [.int (((a0.toUInt64 >>> ((32 : Int32).toInt64.toUInt64 &&& Int64.toUInt64 63)).toInt64).toInt32)]) (rest := [.int ((32 : Int32))]) (c_J6_numberOfTrailingZeros_0f7a4 l D cy ad A σ (((a0.toUInt64 >>> ((32 : Int32).toInt64.toUInt64 &&& Int64.toUInt64 63)).toInt64).toInt32) q_4 h_5) mv_J6_numberOfTrailingZeros_0f7a4 tb_2_239 hK hw ⟨Nat.le_of_ble_eq_true rfl, Nat.le_of_ble_eq_true rfl⟩ ⟨Nat.zero_le _, Nat.zero_le _⟩ rfl hl.1 rfl (Nat.le_of_ble_eq_true rfl) dJ13_numberOfTrailingZeros_95d88_14 (fun H locs hw => ?_)
    refine lv_iadd hx hb dJ13_numberOfTrailingZeros_95d88_17 ?_
    refine lv_goto (tgt := 25) hx hb dJ13_numberOfTrailingZeros_95d88_18 (by decide) ?_
    obtain rfl := Option.some.inj hf
    exact nn_iret S hr hlk hw rfl rfl dJ13_numberOfTrailingZeros_95d88_25
set_option maxRecDepth 100000 in
set_option maxHeartbeats 4000000 in
theorem c_X6_greatestDivisor (l : Launch) (D : va_G) (cy : Nat → ClassId) (ad : Nat → Nat) (A : Nat → Prop) (σ : nG) (a0 : Int32) (a1 : Int32) (q : Int32) (hf : f_X6_greatestDivisor a0 a1 = some q) : nn_I l yX6_greatestDivisor (nn_ws yX6_greatestDivisor cX6_greatestDivisor 6 (some .int)) (nn_R 0) D cy ad A [.int (a0), .int (a1)] σ q σ := by
  refine nn_enterI (plainFor_of_name (by decide +kernel)) (Nat.le_of_ble_eq_true rfl) (lv := [(0, .int (a0)), (1, .int (a1))]) rfl ?_
  intro pp ee ss mm bb me co S hr hlk hK hw ls hl
  have hx := S.1
  have hb := S.2.1
  unfold f_X6_greatestDivisor at hf
  have L7 : ∀ (n : Nat) (u2 : Int32) (u3 : Int32) (u4 : Int32) (K : Int32 → Int32 → Int32 → Option (Int32)), (∀ (u2 : Int32) (u3 : Int32) (u4 : Int32), K u2 u3 u4 = some q → ∀ (H : Heap) (locs : List Loc) (ls : Array Slot), nn_W D cy ad A ss.heap σ H locs → lv_has ls 6 [(2, .int (u2)), (3, .int (u3)), (4, .int (u4))] → W pp l ee (nn_R 0) ss mm ([.int (a0), .int (a1)] : List Value).toArray bb me co H locs 0 0 (MQ bb (nn_qi D cy ad A q σ) ([.int (a0), .int (a1)] : List Value).toArray ss 0 0 A) (F0 mm 34 ls [])) → f_X6_greatestDivisor_L7 n u2 u3 u4 K = some q → ∀ (H : Heap) (locs : List Loc) (ls : Array Slot), nn_W D cy ad A ss.heap σ H locs → lv_has ls 6 [(2, .int (u2)), (3, .int (u3)), (4, .int (u4))] → W pp l ee (nn_R 0) ss mm ([.int (a0), .int (a1)] : List Value).toArray bb me co H locs 0 0 (MQ bb (nn_qi D cy ad A q σ) ([.int (a0), .int (a1)] : List Value).toArray ss 0 0 A) (F0 mm 7 ls []) := by
    intro n
    induction n with
    | zero => intro u2 u3 u4 K hKK hf; exact absurd hf (by simp [f_X6_greatestDivisor_L7])
    | succ n ih =>
      intro u2 u3 u4 K hKK hf H locs ls hw hl
      rw [f_X6_greatestDivisor_L7] at hf
      refine lv_iload hx hb dX6_greatestDivisor_7 (lv_at hl 2 rfl) ?_
      refine lv_bipush (v := 64) hx hb dX6_greatestDivisor_9 (by decide) ?_
      refine lv_icmp_ge (tgt := 34) hx hb dX6_greatestDivisor_11 (by decide) (fun c_1 => ?_) (fun c_1 => ?_)
      · rw [if_pos c_1] at hf
        exact hKK u2 u3 u4 hf _ _ _ hw (lv_sub hl [0, 1, 2] rfl)
      · rw [if_neg c_1] at hf
        refine lv_iload_n hx hb dX6_greatestDivisor_14 rfl (lv_at hl 1 rfl) ?_
        refine lv_if_eq (tgt := 34) hx hb dX6_greatestDivisor_15 (by decide) (fun c_2 => ?_) (fun c_2 => ?_)
        · rw [if_pos c_2] at hf
          exact hKK u2 u3 u4 hf _ _ _ hw (lv_sub hl [0, 1, 2] rfl)
        · rw [if_neg c_2] at hf
          refine lv_iload_n hx hb dX6_greatestDivisor_18 rfl (lv_at hl 0 rfl) ?_
          refine lv_iload_n hx hb dX6_greatestDivisor_19 rfl (lv_at hl 1 rfl) ?_
          obtain ⟨g_3, hf⟩ := nn_nz_some hf
          refine lv_irem hx hb dX6_greatestDivisor_20 g_3 ?_
          refine lv_istore (lv' := [(5, .int (u2 - u2 / u3 * u3)), (2, .int (u2)), (3, .int (u3)), (4, .int (u4))]) hx hb dX6_greatestDivisor_21 hl (by decide) rfl (fun ls hl => ?_)
          refine lv_iload_n hx hb dX6_greatestDivisor_23 rfl (lv_at hl 2 rfl) ?_
          refine lv_istore_n (lv' := [(2, .int (u3)), (5, .int (u2 - u2 / u3 * u3)), (3, .int (u3)), (4, .int (u4))]) hx hb dX6_greatestDivisor_24 rfl hl (by decide) rfl (fun ls hl => ?_)
          refine lv_iload hx hb dX6_greatestDivisor_25 (lv_at hl 1 rfl) ?_
          refine lv_istore_n (lv' := [(3, .int (u2 - u2 / u3 * u3)), (2, .int (u3)), (5, .int (u2 - u2 / u3 * u3)), (4, .int (u4))]) hx hb dX6_greatestDivisor_27 rfl hl (by decide) rfl (fun ls hl => ?_)
          refine lv_iinc (v := u4 + (1 : Int32)) (lv' := [(4, .int (u4 + (1 : Int32))), (3, .int (u2 - u2 / u3 * u3)), (2, .int (u3)), (5, .int (u2 - u2 / u3 * u3))]) hx hb dX6_greatestDivisor_28 hl (k := 3) rfl (congrArg (fun z => u4 + z) (by decide)) (by decide) rfl (fun ls hl => ?_)
          refine lv_goto (tgt := 7) hx hb dX6_greatestDivisor_31 (by decide) ?_
          exact ih u3 (u2 - u2 / u3 * u3) (u4 + (1 : Int32)) K hKK hf _ _ _ hw (lv_sub hl [2, 1, 0] rfl)
  refine lv_iload_n hx hb dX6_greatestDivisor_0 rfl (lv_at hl 0 rfl) ?_
  refine lv_istore_n (lv' := [(2, .int (a0)), (0, .int (a0)), (1, .int (a1))]) hx hb dX6_greatestDivisor_1 rfl hl (by decide) rfl (fun ls hl => ?_)
  refine lv_iload_n hx hb dX6_greatestDivisor_2 rfl (lv_at hl 2 rfl) ?_
  refine lv_istore_n (lv' := [(3, .int (a1)), (2, .int (a0)), (0, .int (a0)), (1, .int (a1))]) hx hb dX6_greatestDivisor_3 rfl hl (by decide) rfl (fun ls hl => ?_)
  refine lv_iconst (v := 0) hx hb dX6_greatestDivisor_4 (by decide) ?_
  refine lv_istore (lv' := [(4, .int ((0 : Int32))), (3, .int (a1)), (2, .int (a0)), (0, .int (a0)), (1, .int (a1))]) hx hb dX6_greatestDivisor_5 hl (by decide) rfl (fun ls hl => ?_)
  refine L7 100000 a0 a1 (0 : Int32) _ (fun b2_4 b3_5 b4_6 hf H locs ls hw hl => ?_) hf _ _ _ hw (lv_sub hl [2, 1, 0] rfl)
  refine lv_iload_n hx hb dX6_greatestDivisor_34 rfl (lv_at hl 0 rfl) ?_
  obtain rfl := Option.some.inj hf
  exact nn_iret S hr hlk hw rfl rfl dX6_greatestDivisor_35
set_option maxRecDepth 100000 in
set_option maxHeartbeats 4000000 in
theorem c_J9_max_7cf53 (l : Launch) (D : va_G) (cy : Nat → ClassId) (ad : Nat → Nat) (A : Nat → Prop) (σ : nG) (a0 : Int32) (a1 : Int32) (q : Int32) (hf : f_J9_max_7cf53 a0 a1 = some q) : nn_I l yJ9_max_7cf53 (nn_ws yJ9_max_7cf53 cJ9_max_7cf53 2 (some .int)) (nn_R 0) D cy ad A [.int (a0), .int (a1)] σ q σ := by
  refine nn_enterI (by decide +kernel) (Nat.le_of_ble_eq_true rfl) (lv := [(0, .int (a0)), (1, .int (a1))]) rfl ?_
  intro pp ee ss mm bb me co S hr hlk hK hw ls hl
  have hx := S.1
  have hb := S.2.1
  unfold f_J9_max_7cf53 at hf
  refine lv_iload_n hx hb dJ9_max_7cf53_0 rfl (lv_at hl 0 rfl) ?_
  refine lv_iload_n hx hb dJ9_max_7cf53_1 rfl (lv_at hl 1 rfl) ?_
  refine lv_icmp_lt (tgt := 9) hx hb dJ9_max_7cf53_2 (by decide) (fun c_1 => ?_) (fun c_1 => ?_)
  · rw [if_pos c_1] at hf
    refine lv_iload_n hx hb dJ9_max_7cf53_9 rfl (lv_at hl 1 rfl) ?_
    obtain rfl := Option.some.inj hf
    exact nn_iret S hr hlk hw rfl rfl dJ9_max_7cf53_10
  · rw [if_neg c_1] at hf
    refine lv_iload_n hx hb dJ9_max_7cf53_5 rfl (lv_at hl 0 rfl) ?_
    refine lv_goto (tgt := 10) hx hb dJ9_max_7cf53_6 (by decide) ?_
    obtain rfl := Option.some.inj hf
    exact nn_iret S hr hlk hw rfl rfl dJ9_max_7cf53_10
set_option maxRecDepth 100000 in
set_option maxHeartbeats 4000000 in
theorem c_X6_isSheetAndLane (l : Launch) (D : va_G) (cy : Nat → ClassId) (ad : Nat → Nat) (A : Nat → Prop) (σ : nG) (a0 : Int32) (a1 : Int32) (q : Int32) (hf : f_X6_isSheetAndLane a0 a1 = some q) : nn_I l yX6_isSheetAndLane (nn_ws yX6_isSheetAndLane cX6_isSheetAndLane 2 (some .boolean)) (nn_R 1) D cy ad A [.int (a0), .int (a1)] σ q σ := by
  refine nn_enterI (plainFor_of_name (by decide +kernel)) (Nat.le_of_ble_eq_true rfl) (lv := [(0, .int (a0)), (1, .int (a1))]) rfl ?_
  intro pp ee ss mm bb me co S hr hlk hK hw ls hl
  have hx := S.1
  have hb := S.2.1
  unfold f_X6_isSheetAndLane at hf
  refine lv_iload_n hx hb dX6_isSheetAndLane_0 rfl (lv_at hl 0 rfl) ?_
  refine lv_iconst (v := 0) hx hb dX6_isSheetAndLane_1 (by decide) ?_
  refine lv_iconst (v := 3) hx hb dX6_isSheetAndLane_2 (by decide) ?_
  obtain ⟨q_1, h_2, hf⟩ := nn_bind hf
  refine nn_calliS S (As := [.int (a0), .int ((0 : Int32)), .int ((3 : Int32))]) (rest := []) (c_X6_within l D cy ad A σ a0 (0 : Int32) (3 : Int32) q_1 h_2) mv_X6_within tb_1_200 hK hw ⟨Nat.le_of_ble_eq_true rfl, Nat.le_of_ble_eq_true rfl⟩ ⟨Nat.zero_le _, Nat.zero_le _⟩ rfl hl.1 rfl (Nat.le_of_ble_eq_true rfl) dX6_isSheetAndLane_3 (fun H locs hw => ?_)
  refine lv_if_eq (tgt := 22) hx hb dX6_isSheetAndLane_6 (by decide) (fun c_3 => ?_) (fun c_3 => ?_)
  · rw [if_pos c_3] at hf
    refine lv_iconst (v := 0) hx hb dX6_isSheetAndLane_22 (by decide) ?_
    obtain rfl := Option.some.inj hf
    exact nn_zret S hr hlk hw rfl rfl rfl dX6_isSheetAndLane_23
  · rw [if_neg c_3] at hf
    refine lv_iload_n hx hb dX6_isSheetAndLane_9 rfl (lv_at hl 1 rfl) ?_
    refine lv_iconst (v := 0) hx hb dX6_isSheetAndLane_10 (by decide) ?_
    refine lv_iconst (v := 3) hx hb dX6_isSheetAndLane_11 (by decide) ?_
    obtain ⟨q_4, h_5, hf⟩ := nn_bind hf
    refine nn_calliS S (As := [.int (a1), .int ((0 : Int32)), .int ((3 : Int32))]) (rest := []) (c_X6_within l D cy ad A σ a1 (0 : Int32) (3 : Int32) q_4 h_5) mv_X6_within tb_1_200 hK hw ⟨Nat.le_of_ble_eq_true rfl, Nat.le_of_ble_eq_true rfl⟩ ⟨Nat.zero_le _, Nat.zero_le _⟩ rfl hl.1 rfl (Nat.le_of_ble_eq_true rfl) dX6_isSheetAndLane_12 (fun H locs hw => ?_)
    refine lv_if_eq (tgt := 22) hx hb dX6_isSheetAndLane_15 (by decide) (fun c_6 => ?_) (fun c_6 => ?_)
    · rw [if_pos c_6] at hf
      refine lv_iconst (v := 0) hx hb dX6_isSheetAndLane_22 (by decide) ?_
      obtain rfl := Option.some.inj hf
      exact nn_zret S hr hlk hw rfl rfl rfl dX6_isSheetAndLane_23
    · rw [if_neg c_6] at hf
      refine lv_iconst (v := 1) hx hb dX6_isSheetAndLane_18 (by decide) ?_
      refine lv_goto (tgt := 23) hx hb dX6_isSheetAndLane_19 (by decide) ?_
      obtain rfl := Option.some.inj hf
      exact nn_zret S hr hlk hw rfl rfl rfl dX6_isSheetAndLane_23
set_option maxRecDepth 100000 in
set_option maxHeartbeats 4000000 in
theorem c_X7_in (l : Launch) (D : va_G) (cy : Nat → ClassId) (ad : Nat → Nat) (A : Nat → Prop) (σ : nG) (a0 : Int64) (a2 : Int64) (a4 : Int64) (q : Int32) (hf : f_X7_in a0 a2 a4 = some q) : nn_I l yX7_in (nn_ws yX7_in cX7_in 6 (some .boolean)) (nn_R 0) D cy ad A [.long (a0), .long (a2), .long (a4)] σ q σ := by
  refine nn_enterI (plainFor_of_name (by decide +kernel)) (Nat.le_of_ble_eq_true rfl) (lv := [(0, .long (a0)), (2, .long (a2)), (4, .long (a4))]) rfl ?_
  intro pp ee ss mm bb me co S hr hlk hK hw ls hl
  have hx := S.1
  have hb := S.2.1
  unfold f_X7_in at hf
  refine lv_lload_n hx hb dX7_in_0 rfl (lv_at hl 0 rfl) ?_
  refine lv_lload_n hx hb dX7_in_1 rfl (lv_at hl 1 rfl) ?_
  refine W.lcmp hx hb dX7_in_2 ?_
  refine lv_if_lt (tgt := 17) hx hb dX7_in_3 (by decide) (fun c_1 => ?_) (fun c_1 => ?_)
  · rw [if_pos c_1] at hf
    refine lv_iconst (v := 0) hx hb dX7_in_17 (by decide) ?_
    obtain rfl := Option.some.inj hf
    exact nn_zret S hr hlk hw rfl rfl rfl dX7_in_18
  · rw [if_neg c_1] at hf
    refine lv_lload_n hx hb dX7_in_6 rfl (lv_at hl 0 rfl) ?_
    refine lv_lload hx hb dX7_in_7 (lv_at hl 2 rfl) ?_
    refine W.lcmp hx hb dX7_in_9 ?_
    refine lv_if_gt (tgt := 17) hx hb dX7_in_10 (by decide) (fun c_2 => ?_) (fun c_2 => ?_)
    · rw [if_pos c_2] at hf
      refine lv_iconst (v := 0) hx hb dX7_in_17 (by decide) ?_
      obtain rfl := Option.some.inj hf
      exact nn_zret S hr hlk hw rfl rfl rfl dX7_in_18
    · rw [if_neg c_2] at hf
      refine lv_iconst (v := 1) hx hb dX7_in_13 (by decide) ?_
      refine lv_goto (tgt := 18) hx hb dX7_in_14 (by decide) ?_
      obtain rfl := Option.some.inj hf
      exact nn_zret S hr hlk hw rfl rfl rfl dX7_in_18
set_option maxRecDepth 100000 in
set_option maxHeartbeats 4000000 in
theorem c_X7_round (l : Launch) (D : va_G) (cy : Nat → ClassId) (ad : Nat → Nat) (A : Nat → Prop) (σ : nG) (a0 : Int32) (q : Int32) (hf : f_X7_round a0 = some q) : nn_I l yX7_round (nn_ws yX7_round cX7_round 1 (some .int)) (nn_R 0) D cy ad A [.int (a0)] σ q σ := by
  refine nn_enterI (plainFor_of_name (by decide +kernel)) (Nat.le_of_ble_eq_true rfl) (lv := [(0, .int (a0))]) rfl ?_
  intro pp ee ss mm bb me co S hr hlk hK hw ls hl
  have hx := S.1
  have hb := S.2.1
  unfold f_X7_round at hf
  refine lv_iload_n hx hb dX7_round_0 rfl (lv_at hl 0 rfl) ?_
  refine lv_bipush (v := 60) hx hb dX7_round_1 (by decide) ?_
  refine lv_irem hx hb dX7_round_3 (by decide) ?_
  refine lv_bipush (v := 60) hx hb dX7_round_4 (by decide) ?_
  refine lv_iadd hx hb dX7_round_6 ?_
  refine lv_bipush (v := 60) hx hb dX7_round_7 (by decide) ?_
  refine lv_irem hx hb dX7_round_9 (by decide) ?_
  obtain rfl := Option.some.inj hf
  exact nn_iret S hr hlk hw rfl rfl dX7_round_10
set_option maxRecDepth 100000 in
set_option maxHeartbeats 4000000 in
theorem c_X7_between (l : Launch) (D : va_G) (cy : Nat → ClassId) (ad : Nat → Nat) (A : Nat → Prop) (σ : nG) (a0 : Int32) (a1 : Int32) (q : Int32) (hf : f_X7_between a0 a1 = some q) : nn_I l yX7_between (nn_ws yX7_between cX7_between 3 (some .int)) (nn_R 1) D cy ad A [.int (a0), .int (a1)] σ q σ := by
  refine nn_enterI (plainFor_of_name (by decide +kernel)) (Nat.le_of_ble_eq_true rfl) (lv := [(0, .int (a0)), (1, .int (a1))]) rfl ?_
  intro pp ee ss mm bb me co S hr hlk hK hw ls hl
  have hx := S.1
  have hb := S.2.1
  unfold f_X7_between at hf
  refine lv_iload_n hx hb dX7_between_0 rfl (lv_at hl 0 rfl) ?_
  refine lv_iload_n hx hb dX7_between_1 rfl (lv_at hl 1 rfl) ?_
  refine lv_isub hx hb dX7_between_2 ?_
  obtain ⟨q_1, h_2, hf⟩ := nn_bind hf
  refine nn_calliS S (As := [.int (a0 - a1)]) (rest := []) (c_X7_round l D cy ad A σ (a0 - a1) q_1 h_2) mv_X7_round tb_4_15 hK hw ⟨Nat.le_of_ble_eq_true rfl, Nat.le_of_ble_eq_true rfl⟩ ⟨Nat.zero_le _, Nat.zero_le _⟩ rfl hl.1 rfl (Nat.le_of_ble_eq_true rfl) dX7_between_3 (fun H locs hw => ?_)
  refine lv_istore_n (lv' := [(2, .int (q_1)), (0, .int (a0)), (1, .int (a1))]) hx hb dX7_between_6 rfl hl (by decide) rfl (fun ls hl => ?_)
  refine lv_iload_n hx hb dX7_between_7 rfl (lv_at hl 0 rfl) ?_
  refine lv_bipush (v := 30) hx hb dX7_between_8 (by decide) ?_
  refine lv_icmp_le (tgt := 20) hx hb dX7_between_10 (by decide) (fun c_3 => ?_) (fun c_3 => ?_)
  · rw [if_pos c_3] at hf
    refine lv_iload_n hx hb dX7_between_20 rfl (lv_at hl 0 rfl) ?_
    obtain rfl := Option.some.inj hf
    exact nn_iret S hr hlk hw rfl rfl dX7_between_21
  · rw [if_neg c_3] at hf
    refine lv_bipush (v := 60) hx hb dX7_between_13 (by decide) ?_
    refine lv_iload_n hx hb dX7_between_15 rfl (lv_at hl 0 rfl) ?_
    refine lv_isub hx hb dX7_between_16 ?_
    refine lv_goto (tgt := 21) hx hb dX7_between_17 (by decide) ?_
    obtain rfl := Option.some.inj hf
    exact nn_iret S hr hlk hw rfl rfl dX7_between_21
set_option maxRecDepth 100000 in
set_option maxHeartbeats 4000000 in
theorem c_X7_isSheet (l : Launch) (D : va_G) (cy : Nat → ClassId) (ad : Nat → Nat) (A : Nat → Prop) (σ : nG) (a0 : Int32) (q : Int32) (hf : f_X7_isSheet a0 = some q) : nn_I l yX7_isSheet (nn_ws yX7_isSheet cX7_isSheet 1 (some .boolean)) (nn_R 1) D cy ad A [.int (a0)] σ q σ := by
  refine nn_enterI (plainFor_of_name (by decide +kernel)) (Nat.le_of_ble_eq_true rfl) (lv := [(0, .int (a0))]) rfl ?_
  intro pp ee ss mm bb me co S hr hlk hK hw ls hl
  have hx := S.1
  have hb := S.2.1
  unfold f_X7_isSheet at hf
  refine lv_iload_n hx hb dX7_isSheet_0 rfl (lv_at hl 0 rfl) ?_
  refine lv_i2l (v := a0.toInt64) hx hb dX7_isSheet_1 rfl ?_
  refine lv_lconst (v := 0) hx hb dX7_isSheet_2 (by decide) ?_
  refine lv_ldc2 (v := 3) hx hb S.2.2.2.1 (S.2.2.2.2 _ tb_4_218) dX7_isSheet_3 ?_
  obtain ⟨q_1, h_2, hf⟩ := nn_bind hf
  refine nn_calliS S (As := [.long (a0.toInt64), .long ((0 : Int64)), .long ((3 : Int64))]) (rest := []) (c_X7_in l D cy ad A σ a0.toInt64 (0 : Int64) (3 : Int64) q_1 h_2) mv_X7_in tb_3_214 hK hw ⟨Nat.le_of_ble_eq_true rfl, Nat.le_of_ble_eq_true rfl⟩ ⟨Nat.zero_le _, Nat.zero_le _⟩ rfl hl.1 rfl (Nat.le_of_ble_eq_true rfl) dX7_isSheet_6 (fun H locs hw => ?_)
  obtain ⟨g_3, hf⟩ := nn_bo_some hf
  obtain rfl := Option.some.inj hf
  exact nn_zret S hr hlk hw (by rcases g_3 with h9 | h9 <;> rw [h9] <;> rfl) rfl rfl dX7_isSheet_9
set_option maxRecDepth 100000 in
set_option maxHeartbeats 4000000 in
theorem c_X7_isLane (l : Launch) (D : va_G) (cy : Nat → ClassId) (ad : Nat → Nat) (A : Nat → Prop) (σ : nG) (a0 : Int32) (q : Int32) (hf : f_X7_isLane a0 = some q) : nn_I l yX7_isLane (nn_ws yX7_isLane cX7_isLane 1 (some .boolean)) (nn_R 1) D cy ad A [.int (a0)] σ q σ := by
  refine nn_enterI (plainFor_of_name (by decide +kernel)) (Nat.le_of_ble_eq_true rfl) (lv := [(0, .int (a0))]) rfl ?_
  intro pp ee ss mm bb me co S hr hlk hK hw ls hl
  have hx := S.1
  have hb := S.2.1
  unfold f_X7_isLane at hf
  refine lv_iload_n hx hb dX7_isLane_0 rfl (lv_at hl 0 rfl) ?_
  refine lv_i2l (v := a0.toInt64) hx hb dX7_isLane_1 rfl ?_
  refine lv_lconst (v := 0) hx hb dX7_isLane_2 (by decide) ?_
  refine lv_ldc2 (v := 3) hx hb S.2.2.2.1 (S.2.2.2.2 _ tb_4_218) dX7_isLane_3 ?_
  obtain ⟨q_1, h_2, hf⟩ := nn_bind hf
  refine nn_calliS S (As := [.long (a0.toInt64), .long ((0 : Int64)), .long ((3 : Int64))]) (rest := []) (c_X7_in l D cy ad A σ a0.toInt64 (0 : Int64) (3 : Int64) q_1 h_2) mv_X7_in tb_3_214 hK hw ⟨Nat.le_of_ble_eq_true rfl, Nat.le_of_ble_eq_true rfl⟩ ⟨Nat.zero_le _, Nat.zero_le _⟩ rfl hl.1 rfl (Nat.le_of_ble_eq_true rfl) dX7_isLane_6 (fun H locs hw => ?_)
  obtain ⟨g_3, hf⟩ := nn_bo_some hf
  obtain rfl := Option.some.inj hf
  exact nn_zret S hr hlk hw (by rcases g_3 with h9 | h9 <;> rw [h9] <;> rfl) rfl rfl dX7_isLane_9
