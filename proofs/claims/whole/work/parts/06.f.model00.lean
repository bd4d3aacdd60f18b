set_option maxRecDepth 100000 in
set_option maxHeartbeats 4000000 in
theorem c_X7_isVillage (l : Launch) (D : va_G) (cy : Nat → ClassId) (ad : Nat → Nat) (A : Nat → Prop) (σ : nG) (m : nMd) (hx_M : gM σ = m) (a1 : Int32) (q : Int32) (hf : f_X7_isVillage m a1 = some q) : nn_I l yX7_isVillage (nn_ws yX7_isVillage cX7_isVillage 2 (some .boolean)) (nn_R 1) D cy ad A [.ref (ad (136)), .int (a1)] σ q σ := by
  refine nn_enterI (plainFor_of_name (by decide +kernel)) (Nat.le_of_ble_eq_true rfl) (lv := [(0, .ref (ad (136))), (1, .int (a1))]) rfl ?_
  intro pp ee ss mm bb me co S hr hlk hK hw ls hl
  have hx := S.1
  have hb := S.2.1
  unfold f_X7_isVillage at hf
  refine lv_iload_n hx hb dX7_isVillage_0 rfl (lv_at hl 1 rfl) ?_
  refine lv_i2l (v := a1.toInt64) hx hb dX7_isVillage_1 rfl ?_
  refine lv_lconst (v := 0) hx hb dX7_isVillage_2 (by decide) ?_
  refine lv_aload_n hx hb dX7_isVillage_3 rfl (lv_at hl 0 rfl) ?_
  refine gf_Md_now S hK hw tb_3_145 dX7_isVillage_4 ?_
  refine lv_iconst (v := 0) hx hb dX7_isVillage_7 (by decide) ?_
  refine al_Md_now S hK hw (x := m) hx_M (by decide) dX7_isVillage_8 ?_
  refine lv_iconst (v := 1) hx hb dX7_isVillage_9 (by decide) ?_
  refine lv_isub hx hb dX7_isVillage_10 ?_
  refine lv_i2l (v := (((g_Md_now m) (0 : Int32).toNatClampNeg) - (1 : Int32)).toInt64) hx hb dX7_isVillage_11 rfl ?_
  obtain ⟨q_1, h_2, hf⟩ := nn_bind hf
  refine nn_calliS S (As := [.long (a1.toInt64), .long ((0 : Int64)), .long ((((g_Md_now m) (0 : Int32).toNatClampNeg) - (1 : Int32)).toInt64)]) (rest := []) (c_X7_in l D cy ad A σ a1.toInt64 (0 : Int64) ((((g_Md_now m) (0 : Int32).toNatClampNeg) - (1 : Int32)).toInt64) q_1 h_2) mv_X7_in tb_3_214 hK hw ⟨Nat.le_of_ble_eq_true rfl, Nat.le_of_ble_eq_true rfl⟩ ⟨Nat.zero_le _, Nat.zero_le _⟩ rfl hl.1 rfl (Nat.le_of_ble_eq_true rfl) dX7_isVillage_12 (fun H locs hw => ?_)
  obtain ⟨g_3, hf⟩ := nn_bo_some hf
  obtain rfl := Option.some.inj hf
  exact nn_zret S hr hlk hw (by rcases g_3 with h9 | h9 <;> rw [h9] <;> rfl) rfl rfl dX7_isVillage_15
set_option maxRecDepth 100000 in
set_option maxHeartbeats 4000000 in
theorem c_X7_told (l : Launch) (D : va_G) (cy : Nat → ClassId) (ad : Nat → Nat) (A : Nat → Prop) (σ : nG) (m : nMd) (hx_M : gM σ = m) (a1 : Int32) (a2 : Int32) (q : Int32) (hf : f_X7_told m a1 a2 = some q) : nn_I l yX7_told (nn_ws yX7_told cX7_told 3 (some .int)) (nn_R 0) D cy ad A [.ref (ad (136)), .int (a1), .int (a2)] σ q σ := by
  refine nn_enterI (plainFor_of_name (by decide +kernel)) (Nat.le_of_ble_eq_true rfl) (lv := [(0, .ref (ad (136))), (1, .int (a1)), (2, .int (a2))]) rfl ?_
  intro pp ee ss mm bb me co S hr hlk hK hw ls hl
  have hx := S.1
  have hb := S.2.1
  unfold f_X7_told at hf
  refine lv_aload_n hx hb dX7_told_0 rfl (lv_at hl 0 rfl) ?_
  refine gf_Md_now S hK hw tb_3_145 dX7_told_1 ?_
  refine lv_iconst (v := 3) hx hb dX7_told_4 (by decide) ?_
  refine lv_iconst (v := 4) hx hb dX7_told_5 (by decide) ?_
  refine lv_iload_n hx hb dX7_told_6 rfl (lv_at hl 1 rfl) ?_
  refine lv_imul hx hb dX7_told_7 ?_
  refine lv_iadd hx hb dX7_told_8 ?_
  refine lv_iload_n hx hb dX7_told_9 rfl (lv_at hl 2 rfl) ?_
  refine lv_iadd hx hb dX7_told_10 ?_
  obtain ⟨g_1, hf⟩ := nn_ix_some hf
  refine al_Md_now S hK hw (x := m) hx_M g_1 dX7_told_11 ?_
  obtain rfl := Option.some.inj hf
  exact nn_iret S hr hlk hw rfl rfl dX7_told_12
set_option maxRecDepth 100000 in
set_option maxHeartbeats 4000000 in
theorem c_X7_tells (l : Launch) (D : va_G) (cy : Nat → ClassId) (ad : Nat → Nat) (A : Nat → Prop) (σ : nG) (m : nMd) (hx_M : gM σ = m) (a1 : Int32) (a2 : Int32) (a3 : Int32) (q : nMd) (hf : f_X7_tells m a1 a2 a3 = some q) (σ' : nG) (hσ : (sM σ q) = σ') : nn_V l yX7_tells (nn_ws yX7_tells cX7_tells 4 none) (nn_R 0) D cy ad A [.ref (ad (136)), .int (a1), .int (a2), .int (a3)] σ σ' := by
  refine nn_enterV (plainFor_of_name (by decide +kernel)) (Nat.le_of_ble_eq_true rfl) (lv := [(0, .ref (ad (136))), (1, .int (a1)), (2, .int (a2)), (3, .int (a3))]) rfl ?_
  intro pp ee ss mm bb me co S hr hlk hK hw ls hl
  have hx := S.1
  have hb := S.2.1
  have hw : nn_W D cy ad A ss.heap (sM σ m) ss.heap [] := nn_W.eq (by rw [← hx_M]; rfl) hw
  unfold f_X7_tells at hf
  refine lv_aload_n hx hb dX7_tells_0 rfl (lv_at hl 0 rfl) ?_
  refine gf_Md_now S hK hw tb_3_145 dX7_tells_1 ?_
  refine lv_iconst (v := 3) hx hb dX7_tells_4 (by decide) ?_
  refine lv_iconst (v := 4) hx hb dX7_tells_5 (by decide) ?_
  refine lv_iload_n hx hb dX7_tells_6 rfl (lv_at hl 1 rfl) ?_
  refine lv_imul hx hb dX7_tells_7 ?_
  refine lv_iadd hx hb dX7_tells_8 ?_
  refine lv_iload_n hx hb dX7_tells_9 rfl (lv_at hl 2 rfl) ?_
  refine lv_iadd hx hb dX7_tells_10 ?_
  refine lv_iload_n hx hb dX7_tells_11 rfl (lv_at hl 3 rfl) ?_
  obtain ⟨g_1, hf⟩ := nn_ix_some hf
  obtain ⟨m_2, h_3, hf⟩ := nn_bind hf
  replace h_3 := Option.some.inj h_3
  refine as_Md_now S hK hw (x := m) rfl g_1 (τ' := (sM σ m_2)) ((rfl : _ = (sM σ (s_Md_now m (upd (g_Md_now m) (((3 : Int32) + ((4 : Int32) * a1)) + a2).toNatClampNeg a3)))).trans (by rw [h_3])) dX7_tells_12 (fun H locs hw => ?_)
  obtain rfl := Option.some.inj hf
  exact nn_vret S hr hlk hw hσ dX7_tells_13
set_option maxRecDepth 100000 in
set_option maxHeartbeats 4000000 in
theorem c_X7_minuteOf (l : Launch) (D : va_G) (cy : Nat → ClassId) (ad : Nat → Nat) (A : Nat → Prop) (σ : nG) (m : nMd) (hx_M : gM σ = m) (a1 : Int32) (q : Int32) (hf : f_X7_minuteOf m a1 = some q) : nn_I l yX7_minuteOf (nn_ws yX7_minuteOf cX7_minuteOf 2 (some .int)) (nn_R 1) D cy ad A [.ref (ad (136)), .int (a1)] σ q σ := by
  refine nn_enterI (plainFor_of_name (by decide +kernel)) (Nat.le_of_ble_eq_true rfl) (lv := [(0, .ref (ad (136))), (1, .int (a1))]) rfl ?_
  intro pp ee ss mm bb me co S hr hlk hK hw ls hl
  have hx := S.1
  have hb := S.2.1
  unfold f_X7_minuteOf at hf
  refine lv_aload_n hx hb dX7_minuteOf_0 rfl (lv_at hl 0 rfl) ?_
  refine lv_iload_n hx hb dX7_minuteOf_1 rfl (lv_at hl 1 rfl) ?_
  refine lv_iconst (v := 1) hx hb dX7_minuteOf_2 (by decide) ?_
  obtain ⟨q_1, h_2, hf⟩ := nn_bind hf
  refine nn_calliV S (As := [.int (a1), .int ((1 : Int32))]) (rest := []) (ce_M (k := 0)) (by decide) rfl rfl (c_X7_told l D cy ad A σ m hx_M a1 (1 : Int32) q_1 h_2) mv_X7_told tb_3_236 hK hw ⟨Nat.le_of_ble_eq_true rfl, Nat.le_of_ble_eq_true rfl⟩ ⟨Nat.zero_le _, Nat.zero_le _⟩ rfl hl.1 rfl (Nat.le_of_ble_eq_true rfl) dX7_minuteOf_3 (fun H locs hw => ?_)
  obtain rfl := Option.some.inj hf
  exact nn_iret S hr hlk hw rfl rfl dX7_minuteOf_6
set_option maxRecDepth 100000 in
set_option maxHeartbeats 4000000 in
theorem c_X7_milesBetween (l : Launch) (D : va_G) (cy : Nat → ClassId) (ad : Nat → Nat) (A : Nat → Prop) (σ : nG) (m : nMd) (hx_M : gM σ = m) (a1 : Int32) (a2 : Int32) (q : Int32) (hf : f_X7_milesBetween m a1 a2 = some q) : nn_I l yX7_milesBetween (nn_ws yX7_milesBetween cX7_milesBetween 4 (some .int)) (nn_R 1) D cy ad A [.ref (ad (136)), .int (a1), .int (a2)] σ q σ := by
  refine nn_enterI (plainFor_of_name (by decide +kernel)) (Nat.le_of_ble_eq_true rfl) (lv := [(0, .ref (ad (136))), (1, .int (a1)), (2, .int (a2))]) rfl ?_
  intro pp ee ss mm bb me co S hr hlk hK hw ls hl
  have hx := S.1
  have hb := S.2.1
  unfold f_X7_milesBetween at hf
  refine lv_aload_n hx hb dX7_milesBetween_0 rfl (lv_at hl 0 rfl) ?_
  refine lv_iload_n hx hb dX7_milesBetween_1 rfl (lv_at hl 1 rfl) ?_
  refine lv_iconst (v := 3) hx hb dX7_milesBetween_2 (by decide) ?_
  obtain ⟨q_1, h_2, hf⟩ := nn_bind hf
  refine nn_calliV S (As := [.int (a1), .int ((3 : Int32))]) (rest := []) (ce_M (k := 0)) (by decide) rfl rfl (c_X7_told l D cy ad A σ m hx_M a1 (3 : Int32) q_1 h_2) mv_X7_told tb_3_236 hK hw ⟨Nat.le_of_ble_eq_true rfl, Nat.le_of_ble_eq_true rfl⟩ ⟨Nat.zero_le _, Nat.zero_le _⟩ rfl hl.1 rfl (Nat.le_of_ble_eq_true rfl) dX7_milesBetween_3 (fun H locs hw => ?_)
  refine lv_aload_n hx hb dX7_milesBetween_6 rfl (lv_at hl 0 rfl) ?_
  refine lv_iload_n hx hb dX7_milesBetween_7 rfl (lv_at hl 2 rfl) ?_
  refine lv_iconst (v := 3) hx hb dX7_milesBetween_8 (by decide) ?_
  obtain ⟨q_3, h_4, hf⟩ := nn_bind hf
  refine nn_calliV S (As := [.int (a2), .int ((3 : Int32))]) (rest := [.int (q_1)]) (ce_M (k := 0)) (by decide) rfl rfl (c_X7_told l D cy ad A σ m hx_M a2 (3 : Int32) q_3 h_4) mv_X7_told tb_3_236 hK hw ⟨Nat.le_of_ble_eq_true rfl, Nat.le_of_ble_eq_true rfl⟩ ⟨Nat.zero_le _, Nat.zero_le _⟩ rfl hl.1 rfl (Nat.le_of_ble_eq_true rfl) dX7_milesBetween_9 (fun H locs hw => ?_)
  refine lv_isub hx hb dX7_milesBetween_12 ?_
  refine lv_istore_n (lv' := [(3, .int (q_1 - q_3)), (0, .ref (ad (136))), (1, .int (a1)), (2, .int (a2))]) hx hb dX7_milesBetween_13 rfl hl (by decide) rfl (fun ls hl => ?_)
  refine lv_iload_n hx hb dX7_milesBetween_14 rfl (lv_at hl 0 rfl) ?_
  refine lv_if_ge (tgt := 23) hx hb dX7_milesBetween_15 (by decide) (fun c_5 => ?_) (fun c_5 => ?_)
  · rw [if_pos c_5] at hf
    refine lv_iload_n hx hb dX7_milesBetween_23 rfl (lv_at hl 0 rfl) ?_
    obtain rfl := Option.some.inj hf
    exact nn_iret S hr hlk hw rfl rfl dX7_milesBetween_24
  · rw [if_neg c_5] at hf
    refine lv_iload_n hx hb dX7_milesBetween_18 rfl (lv_at hl 0 rfl) ?_
    refine lv_ineg hx hb dX7_milesBetween_19 ?_
    refine lv_goto (tgt := 24) hx hb dX7_milesBetween_20 (by decide) ?_
    obtain rfl := Option.some.inj hf
    exact nn_iret S hr hlk hw rfl rfl dX7_milesBetween_24
set_option maxRecDepth 100000 in
set_option maxHeartbeats 4000000 in
theorem c_X7_hearsAnother (l : Launch) (D : va_G) (cy : Nat → ClassId) (ad : Nat → Nat) (A : Nat → Prop) (σ : nG) (m : nMd) (hx_M : gM σ = m) (a1 : Int32) (q : Int32) (hf : f_X7_hearsAnother m a1 = some q) : nn_I l yX7_hearsAnother (nn_ws yX7_hearsAnother cX7_hearsAnother 4 (some .boolean)) (nn_R 2) D cy ad A [.ref (ad (136)), .int (a1)] σ q σ := by
  refine nn_enterI (plainFor_of_name (by decide +kernel)) (Nat.le_of_ble_eq_true rfl) (lv := [(0, .ref (ad (136))), (1, .int (a1))]) rfl ?_
  intro pp ee ss mm bb me co S hr hlk hK hw ls hl
  have hx := S.1
  have hb := S.2.1
  unfold f_X7_hearsAnother at hf
  have L4 : ∀ (n : Nat) (u1 : Int32) (u2 : Int32) (u3 : Int32) (K : Int32 → Int32 → Int32 → Option (Int32)), (∀ (u1 : Int32) (u2 : Int32) (u3 : Int32), K u1 u2 u3 = some q → ∀ (H : Heap) (locs : List Loc) (ls : Array Slot), nn_W D cy ad A ss.heap σ H locs → lv_has ls 4 [(0, .ref (ad (136))), (1, .int (u1)), (2, .int (u2)), (3, .int (u3))] → W pp l ee (nn_R 2) ss mm ([.ref (ad (136)), .int (a1)] : List Value).toArray bb me co H locs 0 0 (MQ bb (nn_qi D cy ad A q σ) ([.ref (ad (136)), .int (a1)] : List Value).toArray ss 0 0 A) (F0 mm 52 ls [])) → f_X7_hearsAnother_L4 m n u1 u2 u3 K = some q → ∀ (H : Heap) (locs : List Loc) (ls : Array Slot), nn_W D cy ad A ss.heap σ H locs → lv_has ls 4 [(0, .ref (ad (136))), (1, .int (u1)), (2, .int (u2)), (3, .int (u3))] → W pp l ee (nn_R 2) ss mm ([.ref (ad (136)), .int (a1)] : List Value).toArray bb me co H locs 0 0 (MQ bb (nn_qi D cy ad A q σ) ([.ref (ad (136)), .int (a1)] : List Value).toArray ss 0 0 A) (F0 mm 4 ls []) := by
    intro n
    induction n with
    | zero => intro u1 u2 u3 K hKK hf; exact absurd hf (by simp [f_X7_hearsAnother_L4])
    | succ n ih =>
      intro u1 u2 u3 K hKK hf H locs ls hw hl
      rw [f_X7_hearsAnother_L4] at hf
      refine lv_iload_n hx hb dX7_hearsAnother_4 rfl (lv_at hl 3 rfl) ?_
      refine lv_aload_n hx hb dX7_hearsAnother_5 rfl (lv_at hl 0 rfl) ?_
      refine gf_Md_now S hK hw tb_3_145 dX7_hearsAnother_6 ?_
      refine lv_iconst (v := 0) hx hb dX7_hearsAnother_9 (by decide) ?_
      refine al_Md_now S hK hw (x := m) hx_M (by decide) dX7_hearsAnother_10 ?_
      refine lv_icmp_ge (tgt := 52) hx hb dX7_hearsAnother_11 (by decide) (fun c_1 => ?_) (fun c_1 => ?_)
      · rw [if_pos c_1] at hf
        exact hKK u1 u2 u3 hf _ _ _ hw (lv_sub hl [0, 1, 2, 3] rfl)
      · rw [if_neg c_1] at hf
        refine lv_iload_n hx hb dX7_hearsAnother_14 rfl (lv_at hl 2 rfl) ?_
        refine lv_if_ne (tgt := 40) hx hb dX7_hearsAnother_15 (by decide) (fun c_2 => ?_) (fun c_2 => ?_)
        · rw [if_neg c_2] at hf
          refine lv_iconst (v := 1) hx hb dX7_hearsAnother_40 (by decide) ?_
          refine lv_goto (tgt := 45) hx hb dX7_hearsAnother_41 (by decide) ?_
          refine lv_istore_n (lv' := [(2, .int ((1 : Int32))), (0, .ref (ad (136))), (1, .int (u1)), (3, .int (u3))]) hx hb dX7_hearsAnother_45 rfl hl (by decide) rfl (fun ls hl => ?_)
          refine lv_iinc (v := u3 + (1 : Int32)) (lv' := [(3, .int (u3 + (1 : Int32))), (2, .int ((1 : Int32))), (0, .ref (ad (136))), (1, .int (u1))]) hx hb dX7_hearsAnother_46 hl (k := 3) rfl (congrArg (fun z => u3 + z) (by decide)) (by decide) rfl (fun ls hl => ?_)
          refine lv_goto (tgt := 4) hx hb dX7_hearsAnother_49 (by decide) ?_
          exact ih u1 (1 : Int32) (u3 + (1 : Int32)) K hKK hf _ _ _ hw (lv_sub hl [2, 3, 1, 0] rfl)
        · rw [if_pos c_2] at hf
          refine lv_iload_n hx hb dX7_hearsAnother_18 rfl (lv_at hl 3 rfl) ?_
          refine lv_iload_n hx hb dX7_hearsAnother_19 rfl (lv_at hl 1 rfl) ?_
          refine lv_icmp_eq (tgt := 44) hx hb dX7_hearsAnother_20 (by decide) (fun c_3 => ?_) (fun c_3 => ?_)
          · rw [if_pos c_3] at hf
            refine lv_iconst (v := 0) hx hb dX7_hearsAnother_44 (by decide) ?_
            refine lv_istore_n (lv' := [(2, .int ((0 : Int32))), (0, .ref (ad (136))), (1, .int (u1)), (3, .int (u3))]) hx hb dX7_hearsAnother_45 rfl hl (by decide) rfl (fun ls hl => ?_)
            refine lv_iinc (v := u3 + (1 : Int32)) (lv' := [(3, .int (u3 + (1 : Int32))), (2, .int ((0 : Int32))), (0, .ref (ad (136))), (1, .int (u1))]) hx hb dX7_hearsAnother_46 hl (k := 3) rfl (congrArg (fun z => u3 + z) (by decide)) (by decide) rfl (fun ls hl => ?_)
            refine lv_goto (tgt := 4) hx hb dX7_hearsAnother_49 (by decide) ?_
            exact ih u1 (0 : Int32) (u3 + (1 : Int32)) K hKK hf _ _ _ hw (lv_sub hl [2, 3, 1, 0] rfl)
          · rw [if_neg c_3] at hf
            refine lv_aload_n hx hb dX7_hearsAnother_23 rfl (lv_at hl 0 rfl) ?_
            refine lv_iload_n hx hb dX7_hearsAnother_24 rfl (lv_at hl 3 rfl) ?_
            obtain ⟨q_4, h_5, hf⟩ := nn_bind hf
            refine nn_calliV S (As := [.int (u3)]) (rest := []) (ce_M (k := 0)) (by decide) rfl rfl (c_X7_minuteOf l D cy ad A σ m hx_M u3 q_4 h_5) mv_X7_minuteOf tb_4_8 hK hw ⟨Nat.le_of_ble_eq_true rfl, Nat.le_of_ble_eq_true rfl⟩ ⟨Nat.zero_le _, Nat.zero_le _⟩ rfl hl.1 rfl (Nat.le_of_ble_eq_true rfl) dX7_hearsAnother_25 (fun H locs hw => ?_)
            refine lv_aload_n hx hb dX7_hearsAnother_28 rfl (lv_at hl 0 rfl) ?_
            refine lv_iload_n hx hb dX7_hearsAnother_29 rfl (lv_at hl 1 rfl) ?_
            obtain ⟨q_6, h_7, hf⟩ := nn_bind hf
            refine nn_calliV S (As := [.int (u1)]) (rest := [.int (q_4)]) (ce_M (k := 0)) (by decide) rfl rfl (c_X7_minuteOf l D cy ad A σ m hx_M u1 q_6 h_7) mv_X7_minuteOf tb_4_8 hK hw ⟨Nat.le_of_ble_eq_true rfl, Nat.le_of_ble_eq_true rfl⟩ ⟨Nat.zero_le _, Nat.zero_le _⟩ rfl hl.1 rfl (Nat.le_of_ble_eq_true rfl) dX7_hearsAnother_30 (fun H locs hw => ?_)
            obtain ⟨q_8, h_9, hf⟩ := nn_bind hf
            refine nn_calliS S (As := [.int (q_4), .int (q_6)]) (rest := []) (c_X7_between l D cy ad A σ q_4 q_6 q_8 h_9) mv_X7_between tb_4_12 hK hw ⟨Nat.le_of_ble_eq_true rfl, Nat.le_of_ble_eq_true rfl⟩ ⟨Nat.zero_le _, Nat.zero_le _⟩ rfl hl.1 rfl (Nat.le_of_ble_eq_true rfl) dX7_hearsAnother_33 (fun H locs hw => ?_)
            refine lv_iconst (v := 3) hx hb dX7_hearsAnother_36 (by decide) ?_
            refine lv_icmp_gt (tgt := 44) hx hb dX7_hearsAnother_37 (by decide) (fun c_10 => ?_) (fun c_10 => ?_)
            · rw [if_pos c_10] at hf
              refine lv_iconst (v := 0) hx hb dX7_hearsAnother_44 (by decide) ?_
              refine lv_istore_n (lv' := [(2, .int ((0 : Int32))), (0, .ref (ad (136))), (1, .int (u1)), (3, .int (u3))]) hx hb dX7_hearsAnother_45 rfl hl (by decide) rfl (fun ls hl => ?_)
              refine lv_iinc (v := u3 + (1 : Int32)) (lv' := [(3, .int (u3 + (1 : Int32))), (2, .int ((0 : Int32))), (0, .ref (ad (136))), (1, .int (u1))]) hx hb dX7_hearsAnother_46 hl (k := 3) rfl (congrArg (fun z => u3 + z) (by decide)) (by decide) rfl (fun ls hl => ?_)
              refine lv_goto (tgt := 4) hx hb dX7_hearsAnother_49 (by decide) ?_
              exact ih u1 (0 : Int32) (u3 + (1 : Int32)) K hKK hf _ _ _ hw (lv_sub hl [2, 3, 1, 0] rfl)
            · rw [if_neg c_10] at hf
              refine lv_iconst (v := 1) hx hb dX7_hearsAnother_40 (by decide) ?_
              refine lv_goto (tgt := 45) hx hb dX7_hearsAnother_41 (by decide) ?_
              refine lv_istore_n (lv' := [(2, .int ((1 : Int32))), (0, .ref (ad (136))), (1, .int (u1)), (3, .int (u3))]) hx hb dX7_hearsAnother_45 rfl hl (by decide) rfl (fun ls hl => ?_)
              refine lv_iinc (v := u3 + (1 : Int32)) (lv' := [(3, .int (u3 + (1 : Int32))), (2, .int ((1 : Int32))), (0, .ref (ad (136))), (1, .int (u1))]) hx hb dX7_hearsAnother_46 hl (k := 3) rfl (congrArg (fun z => u3 + z) (by decide)) (by decide) rfl (fun ls hl => ?_)
              refine lv_goto (tgt := 4) hx hb dX7_hearsAnother_49 (by decide) ?_
              exact ih u1 (1 : Int32) (u3 + (1 : Int32)) K hKK hf _ _ _ hw (lv_sub hl [2, 3, 1, 0] rfl)
  refine lv_iconst (v := 0) hx hb dX7_hearsAnother_0 (by decide) ?_
  refine lv_istore_n (lv' := [(2, .int ((0 : Int32))), (0, .ref (ad (136))), (1, .int (a1))]) hx hb dX7_hearsAnother_1 rfl hl (by decide) rfl (fun ls hl => ?_)
  refine lv_iconst (v := 0) hx hb dX7_hearsAnother_2 (by decide) ?_
  refine lv_istore_n (lv' := [(3, .int ((0 : Int32))), (2, .int ((0 : Int32))), (0, .ref (ad (136))), (1, .int (a1))]) hx hb dX7_hearsAnother_3 rfl hl (by decide) rfl (fun ls hl => ?_)
  refine L4 100000 a1 (0 : Int32) (0 : Int32) _ (fun b1_11 b2_12 b3_13 hf H locs ls hw hl => ?_) hf _ _ _ hw (lv_sub hl [2, 3, 1, 0] rfl)
  refine lv_iload_n hx hb dX7_hearsAnother_52 rfl (lv_at hl 2 rfl) ?_
  obtain ⟨g_14, hf⟩ := nn_bo_some hf
  obtain rfl := Option.some.inj hf
  exact nn_zret S hr hlk hw (by rcases g_14 with h9 | h9 <;> rw [h9] <;> rfl) rfl rfl dX7_hearsAnother_53
set_option maxRecDepth 100000 in
set_option maxHeartbeats 4000000 in
theorem c_X7_laterBy (l : Launch) (D : va_G) (cy : Nat → ClassId) (ad : Nat → Nat) (A : Nat → Prop) (σ : nG) (m : nMd) (hx_M : gM σ = m) (a1 : Int32) (q : Int32) (hf : f_X7_laterBy m a1 = some q) : nn_I l yX7_laterBy (nn_ws yX7_laterBy cX7_laterBy 5 (some .int)) (nn_R 3) D cy ad A [.ref (ad (136)), .int (a1)] σ q σ := by
  refine nn_enterI (plainFor_of_name (by decide +kernel)) (Nat.le_of_ble_eq_true rfl) (lv := [(0, .ref (ad (136))), (1, .int (a1))]) rfl ?_
  intro pp ee ss mm bb me co S hr hlk hK hw ls hl
  have hx := S.1
  have hb := S.2.1
  unfold f_X7_laterBy at hf
  have J104 : ∀ (u1 : Int32) (u3 : Int32) (s0 : Int32), f_X7_laterBy_J104 m u1 u3 s0 = some q → ∀ (H : Heap) (locs : List Loc) (ls : Array Slot), nn_W D cy ad A ss.heap σ H locs → lv_has ls 5 [(0, .ref (ad (136))), (1, .int (u1)), (3, .int (u3))] → W pp l ee (nn_R 3) ss mm ([.ref (ad (136)), .int (a1)] : List Value).toArray bb me co H locs 0 0 (MQ bb (nn_qi D cy ad A q σ) ([.ref (ad (136)), .int (a1)] : List Value).toArray ss 0 0 A) (F0 mm 104 ls [.int (s0)]) := by
    intro u1 u3 s0 hf H locs ls hw hl
    unfold f_X7_laterBy_J104 at hf
    refine lv_istore (lv' := [(4, .int (s0)), (0, .ref (ad (136))), (1, .int (u1)), (3, .int (u3))]) hx hb dX7_laterBy_104 hl (by decide) rfl (fun ls hl => ?_)
    refine lv_iload_n hx hb dX7_laterBy_106 rfl (lv_at hl 3 rfl) ?_
    refine lv_iload hx hb dX7_laterBy_107 (lv_at hl 0 rfl) ?_
    refine lv_iload_n hx hb dX7_laterBy_109 rfl (lv_at hl 2 rfl) ?_
    refine lv_icmp_eq (tgt := 129) hx hb dX7_laterBy_110 (by decide) (fun c_14 => ?_) (fun c_14 => ?_)
    · rw [if_pos c_14] at hf
      refine lv_iconst (v := 0) hx hb dX7_laterBy_129 (by decide) ?_
      refine lv_iadd hx hb dX7_laterBy_130 ?_
      obtain rfl := Option.some.inj hf
      exact nn_iret S hr hlk hw rfl rfl dX7_laterBy_131
    · rw [if_neg c_14] at hf
      refine lv_aload_n hx hb dX7_laterBy_113 rfl (lv_at hl 1 rfl) ?_
      refine lv_iload hx hb dX7_laterBy_114 (lv_at hl 0 rfl) ?_
      refine lv_iload_n hx hb dX7_laterBy_116 rfl (lv_at hl 2 rfl) ?_
      obtain ⟨q_15, h_16, hf⟩ := nn_bind hf
      refine nn_calliV S (As := [.int (s0), .int (u1)]) (rest := [.int (u3)]) (ce_M (k := 0)) (by decide) rfl rfl (c_X7_milesBetween l D cy ad A σ m hx_M s0 u1 q_15 h_16) mv_X7_milesBetween tb_4_18 hK hw ⟨Nat.le_of_ble_eq_true rfl, Nat.le_of_ble_eq_true rfl⟩ ⟨Nat.zero_le _, Nat.zero_le _⟩ rfl hl.1 rfl (Nat.le_of_ble_eq_true rfl) dX7_laterBy_117 (fun H locs hw => ?_)
      refine lv_bipush (v := 10) hx hb dX7_laterBy_120 (by decide) ?_
      refine lv_icmp_gt (tgt := 129) hx hb dX7_laterBy_122 (by decide) (fun c_17 => ?_) (fun c_17 => ?_)
      · rw [if_pos c_17] at hf
        refine lv_iconst (v := 0) hx hb dX7_laterBy_129 (by decide) ?_
        refine lv_iadd hx hb dX7_laterBy_130 ?_
        obtain rfl := Option.some.inj hf
        exact nn_iret S hr hlk hw rfl rfl dX7_laterBy_131
      · rw [if_neg c_17] at hf
        refine lv_iconst (v := 1) hx hb dX7_laterBy_125 (by decide) ?_
        refine lv_goto (tgt := 130) hx hb dX7_laterBy_126 (by decide) ?_
        refine lv_iadd hx hb dX7_laterBy_130 ?_
        obtain rfl := Option.some.inj hf
        exact nn_iret S hr hlk hw rfl rfl dX7_laterBy_131
  have J20 : ∀ (u1 : Int32) (u2 : Int32) (s0 : Int32), f_X7_laterBy_J20 m u1 u2 s0 = some q → ∀ (H : Heap) (locs : List Loc) (ls : Array Slot), nn_W D cy ad A ss.heap σ H locs → lv_has ls 5 [(0, .ref (ad (136))), (1, .int (u1)), (2, .int (u2))] → W pp l ee (nn_R 3) ss mm ([.ref (ad (136)), .int (a1)] : List Value).toArray bb me co H locs 0 0 (MQ bb (nn_qi D cy ad A q σ) ([.ref (ad (136)), .int (a1)] : List Value).toArray ss 0 0 A) (F0 mm 20 ls [.int (s0)]) := by
    intro u1 u2 s0 hf H locs ls hw hl
    unfold f_X7_laterBy_J20 at hf
    refine lv_istore_n (lv' := [(3, .int (s0)), (0, .ref (ad (136))), (1, .int (u1)), (2, .int (u2))]) hx hb dX7_laterBy_20 rfl hl (by decide) rfl (fun ls hl => ?_)
    refine lv_aload_n hx hb dX7_laterBy_21 rfl (lv_at hl 1 rfl) ?_
    refine lv_iload_n hx hb dX7_laterBy_22 rfl (lv_at hl 2 rfl) ?_
    refine lv_iconst (v := 0) hx hb dX7_laterBy_23 (by decide) ?_
    obtain ⟨q_6, h_7, hf⟩ := nn_bind hf
    refine nn_calliV S (As := [.int (u1), .int ((0 : Int32))]) (rest := []) (ce_M (k := 0)) (by decide) rfl rfl (c_X7_told l D cy ad A σ m hx_M u1 (0 : Int32) q_6 h_7) mv_X7_told tb_3_236 hK hw ⟨Nat.le_of_ble_eq_true rfl, Nat.le_of_ble_eq_true rfl⟩ ⟨Nat.zero_le _, Nat.zero_le _⟩ rfl hl.1 rfl (Nat.le_of_ble_eq_true rfl) dX7_laterBy_24 (fun H locs hw => ?_)
    by_cases c_8 : q_6 = (0 : Int32)
    · rw [if_pos c_8] at hf
      refine lv_tableIn (tgt := 56) hx hb dX7_laterBy_27 (by rw [c_8]; decide) (by rw [c_8]; decide) (by rw [c_8]; rfl) (by decide) ?_
      refine lv_iload_n hx hb dX7_laterBy_56 rfl (lv_at hl 3 rfl) ?_
      obtain rfl := Option.some.inj hf
      exact nn_iret S hr hlk hw rfl rfl dX7_laterBy_57
    · rw [if_neg c_8] at hf
      by_cases c_9 : q_6 = (1 : Int32)
      · rw [if_pos c_9] at hf
        refine lv_tableIn (tgt := 58) hx hb dX7_laterBy_27 (by rw [c_9]; decide) (by rw [c_9]; decide) (by rw [c_9]; rfl) (by decide) ?_
        refine lv_iload_n hx hb dX7_laterBy_58 rfl (lv_at hl 3 rfl) ?_
        refine lv_iconst (v := 2) hx hb dX7_laterBy_59 (by decide) ?_
        refine lv_idiv hx hb dX7_laterBy_60 (by decide) ?_
        obtain rfl := Option.some.inj hf
        exact nn_iret S hr hlk hw rfl rfl dX7_laterBy_61
      · rw [if_neg c_9] at hf
        by_cases c_10 : q_6 = (2 : Int32)
        · rw [if_pos c_10] at hf
          refine lv_tableIn (tgt := 62) hx hb dX7_laterBy_27 (by rw [c_10]; decide) (by rw [c_10]; decide) (by rw [c_10]; rfl) (by decide) ?_
          refine lv_iload_n hx hb dX7_laterBy_62 rfl (lv_at hl 0 rfl) ?_
          obtain rfl := Option.some.inj hf
          exact nn_iret S hr hlk hw rfl rfl dX7_laterBy_63
        · rw [if_neg c_10] at hf
          by_cases c_11 : q_6 = (3 : Int32)
          · rw [if_pos c_11] at hf
            refine lv_tableIn (tgt := 64) hx hb dX7_laterBy_27 (by rw [c_11]; decide) (by rw [c_11]; decide) (by rw [c_11]; rfl) (by decide) ?_
            refine lv_aload_n hx hb dX7_laterBy_64 rfl (lv_at hl 1 rfl) ?_
            refine gf_Md_now S hK hw tb_3_145 dX7_laterBy_65 ?_
            refine lv_iconst (v := 1) hx hb dX7_laterBy_68 (by decide) ?_
            refine al_Md_now S hK hw (x := m) hx_M (by decide) dX7_laterBy_69 ?_
            refine lv_iconst (v := 2) hx hb dX7_laterBy_70 (by decide) ?_
            refine lv_irem hx hb dX7_laterBy_71 (by decide) ?_
            refine lv_if_ne (tgt := 81) hx hb dX7_laterBy_72 (by decide) (fun c_12 => ?_) (fun c_12 => ?_)
            · rw [if_neg c_12] at hf
              refine lv_iload_n hx hb dX7_laterBy_81 rfl (lv_at hl 3 rfl) ?_
              refine lv_iconst (v := 2) hx hb dX7_laterBy_82 (by decide) ?_
              refine lv_idiv hx hb dX7_laterBy_83 (by decide) ?_
              refine lv_ineg hx hb dX7_laterBy_84 ?_
              obtain rfl := Option.some.inj hf
              exact nn_iret S hr hlk hw rfl rfl dX7_laterBy_85
            · rw [if_pos c_12] at hf
              refine lv_iload_n hx hb dX7_laterBy_75 rfl (lv_at hl 3 rfl) ?_
              refine lv_iconst (v := 2) hx hb dX7_laterBy_76 (by decide) ?_
              refine lv_idiv hx hb dX7_laterBy_77 (by decide) ?_
              refine lv_goto (tgt := 85) hx hb dX7_laterBy_78 (by decide) ?_
              obtain rfl := Option.some.inj hf
              exact nn_iret S hr hlk hw rfl rfl dX7_laterBy_85
          · rw [if_neg c_11] at hf
            refine lv_tableOut (tgt := 86) hx hb dX7_laterBy_27 (nn_swout 3 (by decide) (fun k hk => by have h9 : k = 0 ∨ k = 1 ∨ k = 2 ∨ k = 3 := (by omega); rcases h9 with rfl | rfl | rfl | rfl <;> assumption)) (by decide) ?_
            refine lv_iload_n hx hb dX7_laterBy_86 rfl (lv_at hl 2 rfl) ?_
            refine lv_if_ne (tgt := 101) hx hb dX7_laterBy_87 (by decide) (fun c_13 => ?_) (fun c_13 => ?_)
            · rw [if_neg c_13] at hf
              refine lv_iload_n hx hb dX7_laterBy_101 rfl (lv_at hl 2 rfl) ?_
              refine lv_iconst (v := 1) hx hb dX7_laterBy_102 (by decide) ?_
              refine lv_isub hx hb dX7_laterBy_103 ?_
              exact J104 u1 s0 (u1 - (1 : Int32)) hf _ _ _ hw (lv_sub hl [1, 2, 0] rfl)
            · rw [if_pos c_13] at hf
              refine lv_aload_n hx hb dX7_laterBy_90 rfl (lv_at hl 1 rfl) ?_
              refine gf_Md_now S hK hw tb_3_145 dX7_laterBy_91 ?_
              refine lv_iconst (v := 0) hx hb dX7_laterBy_94 (by decide) ?_
              refine al_Md_now S hK hw (x := m) hx_M (by decide) dX7_laterBy_95 ?_
              refine lv_iconst (v := 1) hx hb dX7_laterBy_96 (by decide) ?_
              refine lv_isub hx hb dX7_laterBy_97 ?_
              refine lv_goto (tgt := 104) hx hb dX7_laterBy_98 (by decide) ?_
              exact J104 u1 s0 (((g_Md_now m) (0 : Int32).toNatClampNeg) - (1 : Int32)) hf _ _ _ hw (lv_sub hl [1, 2, 0] rfl)
  refine lv_aload_n hx hb dX7_laterBy_0 rfl (lv_at hl 0 rfl) ?_
  refine lv_iload_n hx hb dX7_laterBy_1 rfl (lv_at hl 1 rfl) ?_
  refine lv_iconst (v := 2) hx hb dX7_laterBy_2 (by decide) ?_
  obtain ⟨q_1, h_2, hf⟩ := nn_bind hf
  refine nn_calliV S (As := [.int (a1), .int ((2 : Int32))]) (rest := []) (ce_M (k := 0)) (by decide) rfl rfl (c_X7_told l D cy ad A σ m hx_M a1 (2 : Int32) q_1 h_2) mv_X7_told tb_3_236 hK hw ⟨Nat.le_of_ble_eq_true rfl, Nat.le_of_ble_eq_true rfl⟩ ⟨Nat.zero_le _, Nat.zero_le _⟩ rfl hl.1 rfl (Nat.le_of_ble_eq_true rfl) dX7_laterBy_3 (fun H locs hw => ?_)
  refine lv_istore_n (lv' := [(2, .int (q_1)), (0, .ref (ad (136))), (1, .int (a1))]) hx hb dX7_laterBy_6 rfl hl (by decide) rfl (fun ls hl => ?_)
  refine lv_aload_n hx hb dX7_laterBy_7 rfl (lv_at hl 1 rfl) ?_
  refine lv_iload_n hx hb dX7_laterBy_8 rfl (lv_at hl 2 rfl) ?_
  obtain ⟨q_3, h_4, hf⟩ := nn_bind hf
  refine nn_calliV S (As := [.int (a1)]) (rest := []) (ce_M (k := 0)) (by decide) rfl rfl (c_X7_hearsAnother l D cy ad A σ m hx_M a1 q_3 h_4) mv_X7_hearsAnother tb_4_4 hK hw ⟨Nat.le_of_ble_eq_true rfl, Nat.le_of_ble_eq_true rfl⟩ ⟨Nat.zero_le _, Nat.zero_le _⟩ rfl hl.1 rfl (Nat.le_of_ble_eq_true rfl) dX7_laterBy_9 (fun H locs hw => ?_)
  refine lv_if_eq (tgt := 19) hx hb dX7_laterBy_12 (by decide) (fun c_5 => ?_) (fun c_5 => ?_)
  · rw [if_pos c_5] at hf
    refine lv_iload_n hx hb dX7_laterBy_19 rfl (lv_at hl 0 rfl) ?_
    exact J20 a1 q_1 q_1 hf _ _ _ hw (lv_sub hl [1, 2, 0] rfl)
  · rw [if_neg c_5] at hf
    refine lv_iconst (v := 0) hx hb dX7_laterBy_15 (by decide) ?_
    refine lv_goto (tgt := 20) hx hb dX7_laterBy_16 (by decide) ?_
    exact J20 a1 q_1 (0 : Int32) hf _ _ _ hw (lv_sub hl [1, 2, 0] rfl)
set_option maxRecDepth 100000 in
set_option maxHeartbeats 4000000 in
theorem c_X7_goesBy (l : Launch) (D : va_G) (cy : Nat → ClassId) (ad : Nat → Nat) (A : Nat → Prop) (σ : nG) (m : nMd) (hx_M : gM σ = m) (q : nMd) (hf : f_X7_goesBy m = some q) (σ' : nG) (hσ : (sM σ q) = σ') : nn_V l yX7_goesBy (nn_ws yX7_goesBy cX7_goesBy 2 none) (nn_R 4) D cy ad A [.ref (ad (136))] σ σ' := by
  refine nn_enterV (plainFor_of_name (by decide +kernel)) (Nat.le_of_ble_eq_true rfl) (lv := [(0, .ref (ad (136)))]) rfl ?_
  intro pp ee ss mm bb me co S hr hlk hK hw ls hl
  have hx := S.1
  have hb := S.2.1
  have hw : nn_W D cy ad A ss.heap (sM σ m) ss.heap [] := nn_W.eq (by rw [← hx_M]; rfl) hw
  unfold f_X7_goesBy at hf
  have L2 : ∀ (n : Nat) (m : nMd) (u1 : Int32) (K : nMd → Int32 → Option (nMd)), (∀ (m : nMd) (u1 : Int32), K m u1 = some q → ∀ (H : Heap) (locs : List Loc) (ls : Array Slot), nn_W D cy ad A ss.heap (sM σ m) H locs → lv_has ls 2 [(0, .ref (ad (136))), (1, .int (u1))] → W pp l ee (nn_R 4) ss mm ([.ref (ad (136))] : List Value).toArray bb me co H locs 0 0 (MQ bb (nn_qv D cy ad A σ') ([.ref (ad (136))] : List Value).toArray ss 0 0 A) (F0 mm 29 ls [])) → f_X7_goesBy_L2 n m u1 K = some q → ∀ (H : Heap) (locs : List Loc) (ls : Array Slot), nn_W D cy ad A ss.heap (sM σ m) H locs → lv_has ls 2 [(0, .ref (ad (136))), (1, .int (u1))] → W pp l ee (nn_R 4) ss mm ([.ref (ad (136))] : List Value).toArray bb me co H locs 0 0 (MQ bb (nn_qv D cy ad A σ') ([.ref (ad (136))] : List Value).toArray ss 0 0 A) (F0 mm 2 ls []) := by
    intro n
    induction n with
    | zero => intro m u1 K hKK hf; exact absurd hf (by simp [f_X7_goesBy_L2])
    | succ n ih =>
      intro m u1 K hKK hf H locs ls hw hl
      rw [f_X7_goesBy_L2] at hf
      refine lv_iload_n hx hb dX7_goesBy_2 rfl (lv_at hl 1 rfl) ?_
      refine lv_aload_n hx hb dX7_goesBy_3 rfl (lv_at hl 0 rfl) ?_
      refine gf_Md_now S hK hw tb_3_145 dX7_goesBy_4 ?_
      refine lv_iconst (v := 0) hx hb dX7_goesBy_7 (by decide) ?_
      refine al_Md_now S hK hw (x := m) rfl (by decide) dX7_goesBy_8 ?_
      refine lv_icmp_ge (tgt := 29) hx hb dX7_goesBy_9 (by decide) (fun c_1 => ?_) (fun c_1 => ?_)
      · rw [if_pos c_1] at hf
        exact hKK m u1 hf _ _ _ hw (lv_sub hl [0, 1] rfl)
      · rw [if_neg c_1] at hf
        refine lv_aload_n hx hb dX7_goesBy_12 rfl (lv_at hl 0 rfl) ?_
        refine gf_Md_later S hK hw tb_3_146 dX7_goesBy_13 ?_
        refine lv_iload_n hx hb dX7_goesBy_16 rfl (lv_at hl 1 rfl) ?_
        refine lv_aload_n hx hb dX7_goesBy_17 rfl (lv_at hl 0 rfl) ?_
        refine lv_iload_n hx hb dX7_goesBy_18 rfl (lv_at hl 1 rfl) ?_
        obtain ⟨q_2, h_3, hf⟩ := nn_bind hf
        refine nn_calliV S (As := [.int (u1)]) (rest := [.int (u1), .ref (ad (138))]) (ce_M (k := 0)) (by decide) rfl rfl (c_X7_laterBy l D cy ad A (sM σ m) m rfl u1 q_2 h_3) mv_X7_laterBy tb_4_0 hK hw ⟨Nat.le_of_ble_eq_true rfl, Nat.le_of_ble_eq_true rfl⟩ ⟨Nat.zero_le _, Nat.zero_le _⟩ rfl hl.1 rfl (Nat.le_of_ble_eq_true rfl) dX7_goesBy_19 (fun H locs hw => ?_)
        obtain ⟨g_4, hf⟩ := nn_ix_some hf
        refine as_Md_later S hK hw (x := m) rfl g_4 (τ' := (sM σ (s_Md_later m (upd (g_Md_later m) u1.toNatClampNeg q_2)))) rfl dX7_goesBy_22 (fun H locs hw => ?_)
        refine lv_iinc (v := u1 + (1 : Int32)) (lv' := [(1, .int (u1 + (1 : Int32))), (0, .ref (ad (136)))]) hx hb dX7_goesBy_23 hl (k := 1) rfl (congrArg (fun z => u1 + z) (by decide)) (by decide) rfl (fun ls hl => ?_)
        refine lv_goto (tgt := 2) hx hb dX7_goesBy_26 (by decide) ?_
        exact ih (s_Md_later m (upd (g_Md_later m) u1.toNatClampNeg q_2)) (u1 + (1 : Int32)) K hKK hf _ _ _ hw (lv_sub hl [1, 0] rfl)
  have L31 : ∀ (n : Nat) (m : nMd) (u1 : Int32) (K : nMd → Int32 → Option (nMd)), (∀ (m : nMd) (u1 : Int32), K m u1 = some q → ∀ (H : Heap) (locs : List Loc) (ls : Array Slot), nn_W D cy ad A ss.heap (sM σ m) H locs → lv_has ls 2 [(0, .ref (ad (136))), (1, .int (u1))] → W pp l ee (nn_R 4) ss mm ([.ref (ad (136))] : List Value).toArray bb me co H locs 0 0 (MQ bb (nn_qv D cy ad A σ') ([.ref (ad (136))] : List Value).toArray ss 0 0 A) (F0 mm 68 ls [])) → f_X7_goesBy_L31 n m u1 K = some q → ∀ (H : Heap) (locs : List Loc) (ls : Array Slot), nn_W D cy ad A ss.heap (sM σ m) H locs → lv_has ls 2 [(0, .ref (ad (136))), (1, .int (u1))] → W pp l ee (nn_R 4) ss mm ([.ref (ad (136))] : List Value).toArray bb me co H locs 0 0 (MQ bb (nn_qv D cy ad A σ') ([.ref (ad (136))] : List Value).toArray ss 0 0 A) (F0 mm 31 ls []) := by
    intro n
    induction n with
    | zero => intro m u1 K hKK hf; exact absurd hf (by simp [f_X7_goesBy_L31])
    | succ n ih =>
      intro m u1 K hKK hf H locs ls hw hl
      rw [f_X7_goesBy_L31] at hf
      refine lv_iload_n hx hb dX7_goesBy_31 rfl (lv_at hl 1 rfl) ?_
      refine lv_aload_n hx hb dX7_goesBy_32 rfl (lv_at hl 0 rfl) ?_
      refine gf_Md_now S hK hw tb_3_145 dX7_goesBy_33 ?_
      refine lv_iconst (v := 0) hx hb dX7_goesBy_36 (by decide) ?_
      refine al_Md_now S hK hw (x := m) rfl (by decide) dX7_goesBy_37 ?_
      refine lv_icmp_ge (tgt := 68) hx hb dX7_goesBy_38 (by decide) (fun c_7 => ?_) (fun c_7 => ?_)
      · rw [if_pos c_7] at hf
        exact hKK m u1 hf _ _ _ hw (lv_sub hl [0, 1] rfl)
      · rw [if_neg c_7] at hf
        refine lv_aload_n hx hb dX7_goesBy_41 rfl (lv_at hl 0 rfl) ?_
        refine lv_iload_n hx hb dX7_goesBy_42 rfl (lv_at hl 1 rfl) ?_
        refine lv_iconst (v := 1) hx hb dX7_goesBy_43 (by decide) ?_
        refine lv_aload_n hx hb dX7_goesBy_44 rfl (lv_at hl 0 rfl) ?_
        refine lv_iload_n hx hb dX7_goesBy_45 rfl (lv_at hl 1 rfl) ?_
        obtain ⟨q_8, h_9, hf⟩ := nn_bind hf
        refine nn_calliV S (As := [.int (u1)]) (rest := [.int ((1 : Int32)), .int (u1), .ref (ad (136))]) (ce_M (k := 0)) (by decide) rfl rfl (c_X7_minuteOf l D cy ad A (sM σ m) m rfl u1 q_8 h_9) mv_X7_minuteOf tb_4_8 hK hw ⟨Nat.le_of_ble_eq_true rfl, Nat.le_of_ble_eq_true rfl⟩ ⟨Nat.zero_le _, Nat.zero_le _⟩ rfl hl.1 rfl (Nat.le_of_ble_eq_true rfl) dX7_goesBy_46 (fun H locs hw => ?_)
        refine lv_aload_n hx hb dX7_goesBy_49 rfl (lv_at hl 0 rfl) ?_
        refine gf_Md_later S hK hw tb_3_146 dX7_goesBy_50 ?_
        refine lv_iload_n hx hb dX7_goesBy_53 rfl (lv_at hl 1 rfl) ?_
        obtain ⟨g_10, hf⟩ := nn_ix_some hf
        refine al_Md_later S hK hw (x := m) rfl g_10 dX7_goesBy_54 ?_
        refine lv_iadd hx hb dX7_goesBy_55 ?_
        obtain ⟨q_11, h_12, hf⟩ := nn_bind hf
        refine nn_calliS S (As := [.int (q_8 + ((g_Md_later m) u1.toNatClampNeg))]) (rest := [.int ((1 : Int32)), .int (u1), .ref (ad (136))]) (c_X7_round l D cy ad A (sM σ m) (q_8 + ((g_Md_later m) u1.toNatClampNeg)) q_11 h_12) mv_X7_round tb_4_15 hK hw ⟨Nat.le_of_ble_eq_true rfl, Nat.le_of_ble_eq_true rfl⟩ ⟨Nat.zero_le _, Nat.zero_le _⟩ rfl hl.1 rfl (Nat.le_of_ble_eq_true rfl) dX7_goesBy_56 (fun H locs hw => ?_)
        obtain ⟨q_13, h_14, hf⟩ := nn_bind hf
        refine nn_callvV S (As := [.int (u1), .int ((1 : Int32)), .int (q_11)]) (rest := []) (ce_M (k := 0)) (by decide) rfl rfl (c_X7_tells l D cy ad A (sM σ m) m rfl u1 (1 : Int32) q_11 q_13 h_14 (sM σ q_13) rfl) mv_X7_tells tb_3_224 hK hw ⟨Nat.le_of_ble_eq_true rfl, Nat.le_of_ble_eq_true rfl⟩ ⟨Nat.zero_le _, Nat.zero_le _⟩ rfl hl.1 rfl (Nat.le_of_ble_eq_true rfl) dX7_goesBy_59 (fun H locs hw => ?_)
        refine lv_iinc (v := u1 + (1 : Int32)) (lv' := [(1, .int (u1 + (1 : Int32))), (0, .ref (ad (136)))]) hx hb dX7_goesBy_62 hl (k := 1) rfl (congrArg (fun z => u1 + z) (by decide)) (by decide) rfl (fun ls hl => ?_)
        refine lv_goto (tgt := 31) hx hb dX7_goesBy_65 (by decide) ?_
        exact ih q_13 (u1 + (1 : Int32)) K hKK hf _ _ _ hw (lv_sub hl [1, 0] rfl)
  refine lv_iconst (v := 0) hx hb dX7_goesBy_0 (by decide) ?_
  refine lv_istore_n (lv' := [(1, .int ((0 : Int32))), (0, .ref (ad (136)))]) hx hb dX7_goesBy_1 rfl hl (by decide) rfl (fun ls hl => ?_)
  refine L2 100000 m (0 : Int32) _ (fun m_6 b1_5 hf H locs ls hw hl => ?_) hf _ _ _ hw (lv_sub hl [1, 0] rfl)
  refine lv_iconst (v := 0) hx hb dX7_goesBy_29 (by decide) ?_
  refine lv_istore_n (lv' := [(1, .int ((0 : Int32))), (0, .ref (ad (136)))]) hx hb dX7_goesBy_30 rfl hl (by decide) rfl (fun ls hl => ?_)
  refine L31 100000 m_6 (0 : Int32) _ (fun m_16 b1_15 hf H locs ls hw hl => ?_) hf _ _ _ hw (lv_sub hl [1, 0] rfl)
  refine lv_aload_n hx hb dX7_goesBy_68 rfl (lv_at hl 0 rfl) ?_
  refine gf_Md_now S hK hw tb_3_145 dX7_goesBy_69 ?_
  refine lv_iconst (v := 1) hx hb dX7_goesBy_72 (by decide) ?_
  refine lv_dup2_11 hx hb dX7_goesBy_73 rfl rfl ?_
  refine al_Md_now S hK hw (x := m_16) rfl (by decide) dX7_goesBy_74 ?_
  refine lv_iconst (v := 1) hx hb dX7_goesBy_75 (by decide) ?_
  refine lv_iadd hx hb dX7_goesBy_76 ?_
  obtain ⟨m_17, h_18, hf⟩ := nn_bind hf
  replace h_18 := Option.some.inj h_18
  refine as_Md_now S hK hw (x := m_16) rfl (by decide) (τ' := (sM σ m_17)) ((rfl : _ = (sM σ (s_Md_now m_16 (upd (g_Md_now m_16) (1 : Int32).toNatClampNeg (((g_Md_now m_16) (1 : Int32).toNatClampNeg) + (1 : Int32)))))).trans (by rw [h_18])) dX7_goesBy_77 (fun H locs hw => ?_)
  obtain rfl := Option.some.inj hf
  exact nn_vret S hr hlk hw hσ dX7_goesBy_78
set_option maxRecDepth 100000 in
set_option maxHeartbeats 4000000 in
theorem c_X7_goesOn (l : Launch) (D : va_G) (cy : Nat → ClassId) (ad : Nat → Nat) (A : Nat → Prop) (σ : nG) (m : nMd) (hx_M : gM σ = m) (a1 : Int32) (q : nMd) (hf : f_X7_goesOn m a1 = some q) (σ' : nG) (hσ : (sM σ q) = σ') : nn_V l yX7_goesOn (nn_ws yX7_goesOn cX7_goesOn 3 none) (nn_R 5) D cy ad A [.ref (ad (136)), .int (a1)] σ σ' := by
  refine nn_enterV (plainFor_of_name (by decide +kernel)) (Nat.le_of_ble_eq_true rfl) (lv := [(0, .ref (ad (136))), (1, .int (a1))]) rfl ?_
  intro pp ee ss mm bb me co S hr hlk hK hw ls hl
  have hx := S.1
  have hb := S.2.1
  have hw : nn_W D cy ad A ss.heap (sM σ m) ss.heap [] := nn_W.eq (by rw [← hx_M]; rfl) hw
  unfold f_X7_goesOn at hf
  have L2 : ∀ (n : Nat) (m : nMd) (u1 : Int32) (u2 : Int32) (K : nMd → Int32 → Int32 → Option (nMd)), (∀ (m : nMd) (u1 : Int32) (u2 : Int32), K m u1 u2 = some q → ∀ (H : Heap) (locs : List Loc) (ls : Array Slot), nn_W D cy ad A ss.heap (sM σ m) H locs → lv_has ls 3 [(0, .ref (ad (136))), (1, .int (u1)), (2, .int (u2))] → W pp l ee (nn_R 5) ss mm ([.ref (ad (136)), .int (a1)] : List Value).toArray bb me co H locs 0 0 (MQ bb (nn_qv D cy ad A σ') ([.ref (ad (136)), .int (a1)] : List Value).toArray ss 0 0 A) (F0 mm 17 ls [])) → f_X7_goesOn_L2 n m u1 u2 K = some q → ∀ (H : Heap) (locs : List Loc) (ls : Array Slot), nn_W D cy ad A ss.heap (sM σ m) H locs → lv_has ls 3 [(0, .ref (ad (136))), (1, .int (u1)), (2, .int (u2))] → W pp l ee (nn_R 5) ss mm ([.ref (ad (136)), .int (a1)] : List Value).toArray bb me co H locs 0 0 (MQ bb (nn_qv D cy ad A σ') ([.ref (ad (136)), .int (a1)] : List Value).toArray ss 0 0 A) (F0 mm 2 ls []) := by
    intro n
    induction n with
    | zero => intro m u1 u2 K hKK hf; exact absurd hf (by simp [f_X7_goesOn_L2])
    | succ n ih =>
      intro m u1 u2 K hKK hf H locs ls hw hl
      rw [f_X7_goesOn_L2] at hf
      refine lv_iload_n hx hb dX7_goesOn_2 rfl (lv_at hl 2 rfl) ?_
      refine lv_iload_n hx hb dX7_goesOn_3 rfl (lv_at hl 1 rfl) ?_
      refine lv_icmp_ge (tgt := 17) hx hb dX7_goesOn_4 (by decide) (fun c_1 => ?_) (fun c_1 => ?_)
      · rw [if_pos c_1] at hf
        exact hKK m u1 u2 hf _ _ _ hw (lv_sub hl [0, 1, 2] rfl)
      · rw [if_neg c_1] at hf
        refine lv_aload_n hx hb dX7_goesOn_7 rfl (lv_at hl 0 rfl) ?_
        obtain ⟨q_2, h_3, hf⟩ := nn_bind hf
        refine nn_callvV S (As := []) (rest := []) (ce_M (k := 0)) (by decide) rfl rfl (c_X7_goesBy l D cy ad A (sM σ m) m rfl q_2 h_3 (sM σ q_2) rfl) mv_X7_goesBy tb_4_87 hK hw ⟨Nat.le_of_ble_eq_true rfl, Nat.le_of_ble_eq_true rfl⟩ ⟨Nat.zero_le _, Nat.zero_le _⟩ rfl hl.1 rfl (Nat.le_of_ble_eq_true rfl) dX7_goesOn_8 (fun H locs hw => ?_)
        refine lv_iinc (v := u2 + (1 : Int32)) (lv' := [(2, .int (u2 + (1 : Int32))), (0, .ref (ad (136))), (1, .int (u1))]) hx hb dX7_goesOn_11 hl (k := 2) rfl (congrArg (fun z => u2 + z) (by decide)) (by decide) rfl (fun ls hl => ?_)
        refine lv_goto (tgt := 2) hx hb dX7_goesOn_14 (by decide) ?_
        exact ih q_2 u1 (u2 + (1 : Int32)) K hKK hf _ _ _ hw (lv_sub hl [1, 2, 0] rfl)
  refine lv_iconst (v := 0) hx hb dX7_goesOn_0 (by decide) ?_
  refine lv_istore_n (lv' := [(2, .int ((0 : Int32))), (0, .ref (ad (136))), (1, .int (a1))]) hx hb dX7_goesOn_1 rfl hl (by decide) rfl (fun ls hl => ?_)
  refine L2 100000 m a1 (0 : Int32) _ (fun m_6 b1_4 b2_5 hf H locs ls hw hl => ?_) hf _ _ _ hw (lv_sub hl [1, 2, 0] rfl)
  obtain rfl := Option.some.inj hf
  exact nn_vret S hr hlk hw hσ dX7_goesOn_17
set_option maxRecDepth 100000 in
set_option maxHeartbeats 4000000 in
theorem c_X7_leastGap (l : Launch) (D : va_G) (cy : Nat → ClassId) (ad : Nat → Nat) (A : Nat → Prop) (σ : nG) (m : nMd) (hx_M : gM σ = m) (q : Int32) (hf : f_X7_leastGap m = some q) : nn_I l yX7_leastGap (nn_ws yX7_leastGap cX7_leastGap 5 (some .int)) (nn_R 2) D cy ad A [.ref (ad (136))] σ q σ := by
  refine nn_enterI (plainFor_of_name (by decide +kernel)) (Nat.le_of_ble_eq_true rfl) (lv := [(0, .ref (ad (136)))]) rfl ?_
  intro pp ee ss mm bb me co S hr hlk hK hw ls hl
  have hx := S.1
  have hb := S.2.1
  unfold f_X7_leastGap at hf
  have L17 : ∀ (n : Nat) (u1 : Int32) (u2 : Int32) (u3 : Int32) (K : Int32 → Int32 → Int32 → Option (Int32)), (∀ (u1 : Int32) (u2 : Int32) (u3 : Int32), K u1 u2 u3 = some q → ∀ (H : Heap) (locs : List Loc) (ls : Array Slot), nn_W D cy ad A ss.heap σ H locs → lv_has ls 5 [(0, .ref (ad (136))), (1, .int (u1)), (2, .int (u2)), (3, .int (u3))] → W pp l ee (nn_R 2) ss mm ([.ref (ad (136))] : List Value).toArray bb me co H locs 0 0 (MQ bb (nn_qi D cy ad A q σ) ([.ref (ad (136))] : List Value).toArray ss 0 0 A) (F0 mm 56 ls [])) → f_X7_leastGap_L17 m n u1 u2 u3 K = some q → ∀ (H : Heap) (locs : List Loc) (ls : Array Slot), nn_W D cy ad A ss.heap σ H locs → lv_has ls 5 [(0, .ref (ad (136))), (1, .int (u1)), (2, .int (u2)), (3, .int (u3))] → W pp l ee (nn_R 2) ss mm ([.ref (ad (136))] : List Value).toArray bb me co H locs 0 0 (MQ bb (nn_qi D cy ad A q σ) ([.ref (ad (136))] : List Value).toArray ss 0 0 A) (F0 mm 17 ls []) := by
    intro n
    induction n with
    | zero => intro u1 u2 u3 K hKK hf; exact absurd hf (by simp [f_X7_leastGap_L17])
    | succ n ih =>
      intro u1 u2 u3 K hKK hf H locs ls hw hl
      rw [f_X7_leastGap_L17] at hf
      refine lv_iload_n hx hb dX7_leastGap_17 rfl (lv_at hl 3 rfl) ?_
      refine lv_iload_n hx hb dX7_leastGap_18 rfl (lv_at hl 2 rfl) ?_
      refine lv_icmp_ge (tgt := 56) hx hb dX7_leastGap_19 (by decide) (fun c_2 => ?_) (fun c_2 => ?_)
      · rw [if_pos c_2] at hf
        exact hKK u1 u2 u3 hf _ _ _ hw (lv_sub hl [0, 1, 2, 3] rfl)
      · rw [if_neg c_2] at hf
        refine lv_aload_n hx hb dX7_leastGap_22 rfl (lv_at hl 0 rfl) ?_
        refine lv_iload_n hx hb dX7_leastGap_23 rfl (lv_at hl 2 rfl) ?_
        obtain ⟨q_3, h_4, hf⟩ := nn_bind hf
        refine nn_calliV S (As := [.int (u2)]) (rest := []) (ce_M (k := 0)) (by decide) rfl rfl (c_X7_minuteOf l D cy ad A σ m hx_M u2 q_3 h_4) mv_X7_minuteOf tb_4_8 hK hw ⟨Nat.le_of_ble_eq_true rfl, Nat.le_of_ble_eq_true rfl⟩ ⟨Nat.zero_le _, Nat.zero_le _⟩ rfl hl.1 rfl (Nat.le_of_ble_eq_true rfl) dX7_leastGap_24 (fun H locs hw => ?_)
        refine lv_aload_n hx hb dX7_leastGap_27 rfl (lv_at hl 0 rfl) ?_
        refine lv_iload_n hx hb dX7_leastGap_28 rfl (lv_at hl 3 rfl) ?_
        obtain ⟨q_5, h_6, hf⟩ := nn_bind hf
        refine nn_calliV S (As := [.int (u3)]) (rest := [.int (q_3)]) (ce_M (k := 0)) (by decide) rfl rfl (c_X7_minuteOf l D cy ad A σ m hx_M u3 q_5 h_6) mv_X7_minuteOf tb_4_8 hK hw ⟨Nat.le_of_ble_eq_true rfl, Nat.le_of_ble_eq_true rfl⟩ ⟨Nat.zero_le _, Nat.zero_le _⟩ rfl hl.1 rfl (Nat.le_of_ble_eq_true rfl) dX7_leastGap_29 (fun H locs hw => ?_)
        obtain ⟨q_7, h_8, hf⟩ := nn_bind hf
        refine nn_calliS S (As := [.int (q_3), .int (q_5)]) (rest := []) (c_X7_between l D cy ad A σ q_3 q_5 q_7 h_8) mv_X7_between tb_4_12 hK hw ⟨Nat.le_of_ble_eq_true rfl, Nat.le_of_ble_eq_true rfl⟩ ⟨Nat.zero_le _, Nat.zero_le _⟩ rfl hl.1 rfl (Nat.le_of_ble_eq_true rfl) dX7_leastGap_32 (fun H locs hw => ?_)
        refine lv_istore (lv' := [(4, .int (q_7)), (0, .ref (ad (136))), (1, .int (u1)), (2, .int (u2)), (3, .int (u3))]) hx hb dX7_leastGap_35 hl (by decide) rfl (fun ls hl => ?_)
        refine lv_iload hx hb dX7_leastGap_37 (lv_at hl 0 rfl) ?_
        refine lv_iload_n hx hb dX7_leastGap_39 rfl (lv_at hl 2 rfl) ?_
        refine lv_icmp_ge (tgt := 48) hx hb dX7_leastGap_40 (by decide) (fun c_9 => ?_) (fun c_9 => ?_)
        · rw [if_pos c_9] at hf
          refine lv_iload_n hx hb dX7_leastGap_48 rfl (lv_at hl 2 rfl) ?_
          refine lv_istore_n (lv' := [(1, .int (u1)), (4, .int (q_7)), (0, .ref (ad (136))), (2, .int (u2)), (3, .int (u3))]) hx hb dX7_leastGap_49 rfl hl (by decide) rfl (fun ls hl => ?_)
          refine lv_iinc (v := u3 + (1 : Int32)) (lv' := [(3, .int (u3 + (1 : Int32))), (1, .int (u1)), (4, .int (q_7)), (0, .ref (ad (136))), (2, .int (u2))]) hx hb dX7_leastGap_50 hl (k := 4) rfl (congrArg (fun z => u3 + z) (by decide)) (by decide) rfl (fun ls hl => ?_)
          refine lv_goto (tgt := 17) hx hb dX7_leastGap_53 (by decide) ?_
          exact ih u1 u2 (u3 + (1 : Int32)) K hKK hf _ _ _ hw (lv_sub hl [3, 1, 4, 0] rfl)
        · rw [if_neg c_9] at hf
          refine lv_iload hx hb dX7_leastGap_43 (lv_at hl 0 rfl) ?_
          refine lv_goto (tgt := 49) hx hb dX7_leastGap_45 (by decide) ?_
          refine lv_istore_n (lv' := [(1, .int (q_7)), (4, .int (q_7)), (0, .ref (ad (136))), (2, .int (u2)), (3, .int (u3))]) hx hb dX7_leastGap_49 rfl hl (by decide) rfl (fun ls hl => ?_)
          refine lv_iinc (v := u3 + (1 : Int32)) (lv' := [(3, .int (u3 + (1 : Int32))), (1, .int (q_7)), (4, .int (q_7)), (0, .ref (ad (136))), (2, .int (u2))]) hx hb dX7_leastGap_50 hl (k := 4) rfl (congrArg (fun z => u3 + z) (by decide)) (by decide) rfl (fun ls hl => ?_)
          refine lv_goto (tgt := 17) hx hb dX7_leastGap_53 (by decide) ?_
          exact ih q_7 u2 (u3 + (1 : Int32)) K hKK hf _ _ _ hw (lv_sub hl [3, 1, 4, 0] rfl)
  have L5 : ∀ (n : Nat) (u1 : Int32) (u2 : Int32) (K : Int32 → Int32 → Option (Int32)), (∀ (u1 : Int32) (u2 : Int32), K u1 u2 = some q → ∀ (H : Heap) (locs : List Loc) (ls : Array Slot), nn_W D cy ad A ss.heap σ H locs → lv_has ls 5 [(0, .ref (ad (136))), (1, .int (u1)), (2, .int (u2))] → W pp l ee (nn_R 2) ss mm ([.ref (ad (136))] : List Value).toArray bb me co H locs 0 0 (MQ bb (nn_qi D cy ad A q σ) ([.ref (ad (136))] : List Value).toArray ss 0 0 A) (F0 mm 62 ls [])) → f_X7_leastGap_L5 m n u1 u2 K = some q → ∀ (H : Heap) (locs : List Loc) (ls : Array Slot), nn_W D cy ad A ss.heap σ H locs → lv_has ls 5 [(0, .ref (ad (136))), (1, .int (u1)), (2, .int (u2))] → W pp l ee (nn_R 2) ss mm ([.ref (ad (136))] : List Value).toArray bb me co H locs 0 0 (MQ bb (nn_qi D cy ad A q σ) ([.ref (ad (136))] : List Value).toArray ss 0 0 A) (F0 mm 5 ls []) := by
    intro n
    induction n with
    | zero => intro u1 u2 K hKK hf; exact absurd hf (by simp [f_X7_leastGap_L5])
    | succ n ih =>
      intro u1 u2 K hKK hf H locs ls hw hl
      rw [f_X7_leastGap_L5] at hf
      refine lv_iload_n hx hb dX7_leastGap_5 rfl (lv_at hl 2 rfl) ?_
      refine lv_aload_n hx hb dX7_leastGap_6 rfl (lv_at hl 0 rfl) ?_
      refine gf_Md_now S hK hw tb_3_145 dX7_leastGap_7 ?_
      refine lv_iconst (v := 0) hx hb dX7_leastGap_10 (by decide) ?_
      refine al_Md_now S hK hw (x := m) hx_M (by decide) dX7_leastGap_11 ?_
      refine lv_icmp_ge (tgt := 62) hx hb dX7_leastGap_12 (by decide) (fun c_1 => ?_) (fun c_1 => ?_)
      · rw [if_pos c_1] at hf
        exact hKK u1 u2 hf _ _ _ hw (lv_sub hl [0, 1, 2] rfl)
      · rw [if_neg c_1] at hf
        refine lv_iconst (v := 0) hx hb dX7_leastGap_15 (by decide) ?_
        refine lv_istore_n (lv' := [(3, .int ((0 : Int32))), (0, .ref (ad (136))), (1, .int (u1)), (2, .int (u2))]) hx hb dX7_leastGap_16 rfl hl (by decide) rfl (fun ls hl => ?_)
        refine L17 100000 u1 u2 (0 : Int32) _ (fun b1_10 b2_11 b3_12 hf H locs ls hw hl => ?_) hf _ _ _ hw (lv_sub hl [1, 2, 3, 0] rfl)
        refine lv_iinc (v := b2_11 + (1 : Int32)) (lv' := [(2, .int (b2_11 + (1 : Int32))), (0, .ref (ad (136))), (1, .int (b1_10)), (3, .int (b3_12))]) hx hb dX7_leastGap_56 hl (k := 2) rfl (congrArg (fun z => b2_11 + z) (by decide)) (by decide) rfl (fun ls hl => ?_)
        refine lv_goto (tgt := 5) hx hb dX7_leastGap_59 (by decide) ?_
        exact ih b1_10 (b2_11 + (1 : Int32)) K hKK hf _ _ _ hw (lv_sub hl [1, 2, 0] rfl)
  refine lv_bipush (v := 30) hx hb dX7_leastGap_0 (by decide) ?_
  refine lv_istore_n (lv' := [(1, .int ((30 : Int32))), (0, .ref (ad (136)))]) hx hb dX7_leastGap_2 rfl hl (by decide) rfl (fun ls hl => ?_)
  refine lv_iconst (v := 0) hx hb dX7_leastGap_3 (by decide) ?_
  refine lv_istore_n (lv' := [(2, .int ((0 : Int32))), (1, .int ((30 : Int32))), (0, .ref (ad (136)))]) hx hb dX7_leastGap_4 rfl hl (by decide) rfl (fun ls hl => ?_)
  refine L5 100000 (30 : Int32) (0 : Int32) _ (fun b1_13 b2_14 hf H locs ls hw hl => ?_) hf _ _ _ hw (lv_sub hl [2, 1, 0] rfl)
  refine lv_iload_n hx hb dX7_leastGap_62 rfl (lv_at hl 1 rfl) ?_
  obtain rfl := Option.some.inj hf
  exact nn_iret S hr hlk hw rfl rfl dX7_leastGap_63
set_option maxRecDepth 100000 in
set_option maxHeartbeats 4000000 in
theorem c_X7_alike (l : Launch) (D : va_G) (cy : Nat → ClassId) (ad : Nat → Nat) (A : Nat → Prop) (σ : nG) (m : nMd) (hx_M : gM σ = m) (a1 : Int32) (q : Int32) (hf : f_X7_alike m a1 = some q) : nn_I l yX7_alike (nn_ws yX7_alike cX7_alike 4 (some .int)) (nn_R 2) D cy ad A [.ref (ad (136)), .int (a1)] σ q σ := by
  refine nn_enterI (plainFor_of_name (by decide +kernel)) (Nat.le_of_ble_eq_true rfl) (lv := [(0, .ref (ad (136))), (1, .int (a1))]) rfl ?_
  intro pp ee ss mm bb me co S hr hlk hK hw ls hl
  have hx := S.1
  have hb := S.2.1
  unfold f_X7_alike at hf
  have L4 : ∀ (n : Nat) (u1 : Int32) (u2 : Int32) (u3 : Int32) (K : Int32 → Int32 → Int32 → Option (Int32)), (∀ (u1 : Int32) (u2 : Int32) (u3 : Int32), K u1 u2 u3 = some q → ∀ (H : Heap) (locs : List Loc) (ls : Array Slot), nn_W D cy ad A ss.heap σ H locs → lv_has ls 4 [(0, .ref (ad (136))), (1, .int (u1)), (2, .int (u2)), (3, .int (u3))] → W pp l ee (nn_R 2) ss mm ([.ref (ad (136)), .int (a1)] : List Value).toArray bb me co H locs 0 0 (MQ bb (nn_qi D cy ad A q σ) ([.ref (ad (136)), .int (a1)] : List Value).toArray ss 0 0 A) (F0 mm 48 ls [])) → f_X7_alike_L4 m n u1 u2 u3 K = some q → ∀ (H : Heap) (locs : List Loc) (ls : Array Slot), nn_W D cy ad A ss.heap σ H locs → lv_has ls 4 [(0, .ref (ad (136))), (1, .int (u1)), (2, .int (u2)), (3, .int (u3))] → W pp l ee (nn_R 2) ss mm ([.ref (ad (136)), .int (a1)] : List Value).toArray bb me co H locs 0 0 (MQ bb (nn_qi D cy ad A q σ) ([.ref (ad (136)), .int (a1)] : List Value).toArray ss 0 0 A) (F0 mm 4 ls []) := by
    intro n
    induction n with
    | zero => intro u1 u2 u3 K hKK hf; exact absurd hf (by simp [f_X7_alike_L4])
    | succ n ih =>
      intro u1 u2 u3 K hKK hf H locs ls hw hl
      rw [f_X7_alike_L4] at hf
      refine lv_iload_n hx hb dX7_alike_4 rfl (lv_at hl 3 rfl) ?_
      refine lv_aload_n hx hb dX7_alike_5 rfl (lv_at hl 0 rfl) ?_
      refine gf_Md_now S hK hw tb_3_145 dX7_alike_6 ?_
      refine lv_iconst (v := 0) hx hb dX7_alike_9 (by decide) ?_
      refine al_Md_now S hK hw (x := m) hx_M (by decide) dX7_alike_10 ?_
      refine lv_icmp_ge (tgt := 48) hx hb dX7_alike_11 (by decide) (fun c_1 => ?_) (fun c_1 => ?_)
      · rw [if_pos c_1] at hf
        exact hKK u1 u2 u3 hf _ _ _ hw (lv_sub hl [0, 1, 2, 3] rfl)
      · rw [if_neg c_1] at hf
        refine lv_iload_n hx hb dX7_alike_14 rfl (lv_at hl 2 rfl) ?_
        refine lv_iload_n hx hb dX7_alike_15 rfl (lv_at hl 3 rfl) ?_
        refine lv_iload_n hx hb dX7_alike_16 rfl (lv_at hl 1 rfl) ?_
        refine lv_icmp_eq (tgt := 39) hx hb dX7_alike_17 (by decide) (fun c_2 => ?_) (fun c_2 => ?_)
        · rw [if_pos c_2] at hf
          refine lv_iconst (v := 0) hx hb dX7_alike_39 (by decide) ?_
          refine lv_ior hx hb dX7_alike_40 ?_
          refine lv_istore_n (lv' := [(2, .int (u2 ||| (0 : Int32))), (0, .ref (ad (136))), (1, .int (u1)), (3, .int (u3))]) hx hb dX7_alike_41 rfl hl (by decide) rfl (fun ls hl => ?_)
          refine lv_iinc (v := u3 + (1 : Int32)) (lv' := [(3, .int (u3 + (1 : Int32))), (2, .int (u2 ||| (0 : Int32))), (0, .ref (ad (136))), (1, .int (u1))]) hx hb dX7_alike_42 hl (k := 3) rfl (congrArg (fun z => u3 + z) (by decide)) (by decide) rfl (fun ls hl => ?_)
          refine lv_goto (tgt := 4) hx hb dX7_alike_45 (by decide) ?_
          exact ih u1 (u2 ||| (0 : Int32)) (u3 + (1 : Int32)) K hKK hf _ _ _ hw (lv_sub hl [2, 3, 1, 0] rfl)
        · rw [if_neg c_2] at hf
          refine lv_aload_n hx hb dX7_alike_20 rfl (lv_at hl 0 rfl) ?_
          refine lv_iload_n hx hb dX7_alike_21 rfl (lv_at hl 3 rfl) ?_
          obtain ⟨q_3, h_4, hf⟩ := nn_bind hf
          refine nn_calliV S (As := [.int (u3)]) (rest := [.int (u2)]) (ce_M (k := 0)) (by decide) rfl rfl (c_X7_minuteOf l D cy ad A σ m hx_M u3 q_3 h_4) mv_X7_minuteOf tb_4_8 hK hw ⟨Nat.le_of_ble_eq_true rfl, Nat.le_of_ble_eq_true rfl⟩ ⟨Nat.zero_le _, Nat.zero_le _⟩ rfl hl.1 rfl (Nat.le_of_ble_eq_true rfl) dX7_alike_22 (fun H locs hw => ?_)
          refine lv_aload_n hx hb dX7_alike_25 rfl (lv_at hl 0 rfl) ?_
          refine lv_iload_n hx hb dX7_alike_26 rfl (lv_at hl 1 rfl) ?_
          obtain ⟨q_5, h_6, hf⟩ := nn_bind hf
          refine nn_calliV S (As := [.int (u1)]) (rest := [.int (q_3), .int (u2)]) (ce_M (k := 0)) (by decide) rfl rfl (c_X7_minuteOf l D cy ad A σ m hx_M u1 q_5 h_6) mv_X7_minuteOf tb_4_8 hK hw ⟨Nat.le_of_ble_eq_true rfl, Nat.le_of_ble_eq_true rfl⟩ ⟨Nat.zero_le _, Nat.zero_le _⟩ rfl hl.1 rfl (Nat.le_of_ble_eq_true rfl) dX7_alike_27 (fun H locs hw => ?_)
          refine lv_icmp_ne (tgt := 39) hx hb dX7_alike_30 (by decide) (fun c_7 => ?_) (fun c_7 => ?_)
          · rw [if_neg c_7] at hf
            refine lv_iconst (v := 0) hx hb dX7_alike_39 (by decide) ?_
            refine lv_ior hx hb dX7_alike_40 ?_
            refine lv_istore_n (lv' := [(2, .int (u2 ||| (0 : Int32))), (0, .ref (ad (136))), (1, .int (u1)), (3, .int (u3))]) hx hb dX7_alike_41 rfl hl (by decide) rfl (fun ls hl => ?_)
            refine lv_iinc (v := u3 + (1 : Int32)) (lv' := [(3, .int (u3 + (1 : Int32))), (2, .int (u2 ||| (0 : Int32))), (0, .ref (ad (136))), (1, .int (u1))]) hx hb dX7_alike_42 hl (k := 3) rfl (congrArg (fun z => u3 + z) (by decide)) (by decide) rfl (fun ls hl => ?_)
            refine lv_goto (tgt := 4) hx hb dX7_alike_45 (by decide) ?_
            exact ih u1 (u2 ||| (0 : Int32)) (u3 + (1 : Int32)) K hKK hf _ _ _ hw (lv_sub hl [2, 3, 1, 0] rfl)
          · rw [if_pos c_7] at hf
            refine lv_iconst (v := 1) hx hb dX7_alike_33 (by decide) ?_
            refine lv_iload_n hx hb dX7_alike_34 rfl (lv_at hl 3 rfl) ?_
            refine lv_ishl hx hb dX7_alike_35 ?_
            refine lv_goto (tgt := 40) hx hb dX7_alike_36 (by decide) ?_
            refine lv_ior hx hb dX7_alike_40 ?_
            refine lv_istore_n (lv' := [(2, .int (u2 ||| ((1 : Int32) <<< (u3 &&& 31)))), (0, .ref (ad (136))), (1, .int (u1)), (3, .int (u3))]) hx hb dX7_alike_41 rfl hl (by decide) rfl (fun ls hl => ?_)
            refine lv_iinc (v := u3 + (1 : Int32)) (lv' := [(3, .int (u3 + (1 : Int32))), (2, .int (u2 ||| ((1 : Int32) <<< (u3 &&& 31)))), (0, .ref (ad (136))), (1, .int (u1))]) hx hb dX7_alike_42 hl (k := 3) rfl (congrArg (fun z => u3 + z) (by decide)) (by decide) rfl (fun ls hl => ?_)
            refine lv_goto (tgt := 4) hx hb dX7_alike_45 (by decide) ?_
            exact ih u1 (u2 ||| ((1 : Int32) <<< (u3 &&& 31))) (u3 + (1 : Int32)) K hKK hf _ _ _ hw (lv_sub hl [2, 3, 1, 0] rfl)
  refine lv_iconst (v := 0) hx hb dX7_alike_0 (by decide) ?_
  refine lv_istore_n (lv' := [(2, .int ((0 : Int32))), (0, .ref (ad (136))), (1, .int (a1))]) hx hb dX7_alike_1 rfl hl (by decide) rfl (fun ls hl => ?_)
  refine lv_iconst (v := 0) hx hb dX7_alike_2 (by decide) ?_
  refine lv_istore_n (lv' := [(3, .int ((0 : Int32))), (2, .int ((0 : Int32))), (0, .ref (ad (136))), (1, .int (a1))]) hx hb dX7_alike_3 rfl hl (by decide) rfl (fun ls hl => ?_)
  refine L4 100000 a1 (0 : Int32) (0 : Int32) _ (fun b1_8 b2_9 b3_10 hf H locs ls hw hl => ?_) hf _ _ _ hw (lv_sub hl [2, 3, 1, 0] rfl)
  refine lv_iload_n hx hb dX7_alike_48 rfl (lv_at hl 2 rfl) ?_
  obtain rfl := Option.some.inj hf
  exact nn_iret S hr hlk hw rfl rfl dX7_alike_49
set_option maxRecDepth 100000 in
set_option maxHeartbeats 4000000 in
theorem c_X7_allAlike (l : Launch) (D : va_G) (cy : Nat → ClassId) (ad : Nat → Nat) (A : Nat → Prop) (σ : nG) (m : nMd) (hx_M : gM σ = m) (q : Int32) (hf : f_X7_allAlike m = some q) : nn_I l yX7_allAlike (nn_ws yX7_allAlike cX7_allAlike 3 (some .int)) (nn_R 3) D cy ad A [.ref (ad (136))] σ q σ := by
  refine nn_enterI (plainFor_of_name (by decide +kernel)) (Nat.le_of_ble_eq_true rfl) (lv := [(0, .ref (ad (136)))]) rfl ?_
  intro pp ee ss mm bb me co S hr hlk hK hw ls hl
  have hx := S.1
  have hb := S.2.1
  unfold f_X7_allAlike at hf
  have L4 : ∀ (n : Nat) (u1 : Int32) (u2 : Int32) (K : Int32 → Int32 → Option (Int32)), (∀ (u1 : Int32) (u2 : Int32), K u1 u2 = some q → ∀ (H : Heap) (locs : List Loc) (ls : Array Slot), nn_W D cy ad A ss.heap σ H locs → lv_has ls 3 [(0, .ref (ad (136))), (1, .int (u1)), (2, .int (u2))] → W pp l ee (nn_R 3) ss mm ([.ref (ad (136))] : List Value).toArray bb me co H locs 0 0 (MQ bb (nn_qi D cy ad A q σ) ([.ref (ad (136))] : List Value).toArray ss 0 0 A) (F0 mm 38 ls [])) → f_X7_allAlike_L4 m n u1 u2 K = some q → ∀ (H : Heap) (locs : List Loc) (ls : Array Slot), nn_W D cy ad A ss.heap σ H locs → lv_has ls 3 [(0, .ref (ad (136))), (1, .int (u1)), (2, .int (u2))] → W pp l ee (nn_R 3) ss mm ([.ref (ad (136))] : List Value).toArray bb me co H locs 0 0 (MQ bb (nn_qi D cy ad A q σ) ([.ref (ad (136))] : List Value).toArray ss 0 0 A) (F0 mm 4 ls []) := by
    intro n
    induction n with
    | zero => intro u1 u2 K hKK hf; exact absurd hf (by simp [f_X7_allAlike_L4])
    | succ n ih =>
      intro u1 u2 K hKK hf H locs ls hw hl
      rw [f_X7_allAlike_L4] at hf
      refine lv_iload_n hx hb dX7_allAlike_4 rfl (lv_at hl 2 rfl) ?_
      refine lv_aload_n hx hb dX7_allAlike_5 rfl (lv_at hl 0 rfl) ?_
      refine gf_Md_now S hK hw tb_3_145 dX7_allAlike_6 ?_
      refine lv_iconst (v := 0) hx hb dX7_allAlike_9 (by decide) ?_
      refine al_Md_now S hK hw (x := m) hx_M (by decide) dX7_allAlike_10 ?_
      refine lv_icmp_ge (tgt := 38) hx hb dX7_allAlike_11 (by decide) (fun c_1 => ?_) (fun c_1 => ?_)
      · rw [if_pos c_1] at hf
        exact hKK u1 u2 hf _ _ _ hw (lv_sub hl [0, 1, 2] rfl)
      · rw [if_neg c_1] at hf
        refine lv_iload_n hx hb dX7_allAlike_14 rfl (lv_at hl 1 rfl) ?_
        refine lv_aload_n hx hb dX7_allAlike_15 rfl (lv_at hl 0 rfl) ?_
        refine lv_iload_n hx hb dX7_allAlike_16 rfl (lv_at hl 2 rfl) ?_
        obtain ⟨q_2, h_3, hf⟩ := nn_bind hf
        refine nn_calliV S (As := [.int (u2)]) (rest := [.int (u1)]) (ce_M (k := 0)) (by decide) rfl rfl (c_X7_alike l D cy ad A σ m hx_M u2 q_2 h_3) mv_X7_alike tb_4_22 hK hw ⟨Nat.le_of_ble_eq_true rfl, Nat.le_of_ble_eq_true rfl⟩ ⟨Nat.zero_le _, Nat.zero_le _⟩ rfl hl.1 rfl (Nat.le_of_ble_eq_true rfl) dX7_allAlike_17 (fun H locs hw => ?_)
        refine lv_if_eq (tgt := 29) hx hb dX7_allAlike_20 (by decide) (fun c_4 => ?_) (fun c_4 => ?_)
        · rw [if_pos c_4] at hf
          refine lv_iconst (v := 0) hx hb dX7_allAlike_29 (by decide) ?_
          refine lv_ior hx hb dX7_allAlike_30 ?_
          refine lv_istore_n (lv' := [(1, .int (u1 ||| (0 : Int32))), (0, .ref (ad (136))), (2, .int (u2))]) hx hb dX7_allAlike_31 rfl hl (by decide) rfl (fun ls hl => ?_)
          refine lv_iinc (v := u2 + (1 : Int32)) (lv' := [(2, .int (u2 + (1 : Int32))), (1, .int (u1 ||| (0 : Int32))), (0, .ref (ad (136)))]) hx hb dX7_allAlike_32 hl (k := 2) rfl (congrArg (fun z => u2 + z) (by decide)) (by decide) rfl (fun ls hl => ?_)
          refine lv_goto (tgt := 4) hx hb dX7_allAlike_35 (by decide) ?_
          exact ih (u1 ||| (0 : Int32)) (u2 + (1 : Int32)) K hKK hf _ _ _ hw (lv_sub hl [2, 1, 0] rfl)
        · rw [if_neg c_4] at hf
          refine lv_iconst (v := 1) hx hb dX7_allAlike_23 (by decide) ?_
          refine lv_iload_n hx hb dX7_allAlike_24 rfl (lv_at hl 2 rfl) ?_
          refine lv_ishl hx hb dX7_allAlike_25 ?_
          refine lv_goto (tgt := 30) hx hb dX7_allAlike_26 (by decide) ?_
          refine lv_ior hx hb dX7_allAlike_30 ?_
          refine lv_istore_n (lv' := [(1, .int (u1 ||| ((1 : Int32) <<< (u2 &&& 31)))), (0, .ref (ad (136))), (2, .int (u2))]) hx hb dX7_allAlike_31 rfl hl (by decide) rfl (fun ls hl => ?_)
          refine lv_iinc (v := u2 + (1 : Int32)) (lv' := [(2, .int (u2 + (1 : Int32))), (1, .int (u1 ||| ((1 : Int32) <<< (u2 &&& 31)))), (0, .ref (ad (136)))]) hx hb dX7_allAlike_32 hl (k := 2) rfl (congrArg (fun z => u2 + z) (by decide)) (by decide) rfl (fun ls hl => ?_)
          refine lv_goto (tgt := 4) hx hb dX7_allAlike_35 (by decide) ?_
          exact ih (u1 ||| ((1 : Int32) <<< (u2 &&& 31))) (u2 + (1 : Int32)) K hKK hf _ _ _ hw (lv_sub hl [2, 1, 0] rfl)
  refine lv_iconst (v := 0) hx hb dX7_allAlike_0 (by decide) ?_
  refine lv_istore_n (lv' := [(1, .int ((0 : Int32))), (0, .ref (ad (136)))]) hx hb dX7_allAlike_1 rfl hl (by decide) rfl (fun ls hl => ?_)
  refine lv_iconst (v := 0) hx hb dX7_allAlike_2 (by decide) ?_
  refine lv_istore_n (lv' := [(2, .int ((0 : Int32))), (1, .int ((0 : Int32))), (0, .ref (ad (136)))]) hx hb dX7_allAlike_3 rfl hl (by decide) rfl (fun ls hl => ?_)
  refine L4 100000 (0 : Int32) (0 : Int32) _ (fun b1_5 b2_6 hf H locs ls hw hl => ?_) hf _ _ _ hw (lv_sub hl [2, 1, 0] rfl)
  refine lv_iload_n hx hb dX7_allAlike_38 rfl (lv_at hl 1 rfl) ?_
  obtain rfl := Option.some.inj hf
  exact nn_iret S hr hlk hw rfl rfl dX7_allAlike_39
set_option maxRecDepth 100000 in
set_option maxHeartbeats 4000000 in
theorem c_X7_villageComes (l : Launch) (D : va_G) (cy : Nat → ClassId) (ad : Nat → Nat) (A : Nat → Prop) (σ : nG) (m : nMd) (hx_M : gM σ = m) (a1 : Int32) (a2 : Int32) (a3 : Int32) (a4 : Int32) (q : nMd) (hf : f_X7_villageComes m a1 a2 a3 a4 = some q) (σ' : nG) (hσ : (sM σ q) = σ') : nn_V l yX7_villageComes (nn_ws yX7_villageComes cX7_villageComes 6 none) (nn_R 1) D cy ad A [.ref (ad (136)), .int (a1), .int (a2), .int (a3), .int (a4)] σ σ' := by
  refine nn_enterV (plainFor_of_name (by decide +kernel)) (Nat.le_of_ble_eq_true rfl) (lv := [(0, .ref (ad (136))), (1, .int (a1)), (2, .int (a2)), (3, .int (a3)), (4, .int (a4))]) rfl ?_
  intro pp ee ss mm bb me co S hr hlk hK hw ls hl
  have hx := S.1
  have hb := S.2.1
  have hw : nn_W D cy ad A ss.heap (sM σ m) ss.heap [] := nn_W.eq (by rw [← hx_M]; rfl) hw
  unfold f_X7_villageComes at hf
  refine lv_aload_n hx hb dX7_villageComes_0 rfl (lv_at hl 0 rfl) ?_
  refine gf_Md_now S hK hw tb_3_145 dX7_villageComes_1 ?_
  refine lv_iconst (v := 0) hx hb dX7_villageComes_4 (by decide) ?_
  refine al_Md_now S hK hw (x := m) rfl (by decide) dX7_villageComes_5 ?_
  refine lv_istore (lv' := [(5, .int ((g_Md_now m) (0 : Int32).toNatClampNeg)), (0, .ref (ad (136))), (1, .int (a1)), (2, .int (a2)), (3, .int (a3)), (4, .int (a4))]) hx hb dX7_villageComes_6 hl (by decide) rfl (fun ls hl => ?_)
  refine lv_aload_n hx hb dX7_villageComes_8 rfl (lv_at hl 1 rfl) ?_
  refine lv_iload hx hb dX7_villageComes_9 (lv_at hl 0 rfl) ?_
  refine lv_iconst (v := 0) hx hb dX7_villageComes_11 (by decide) ?_
  refine lv_iload_n hx hb dX7_villageComes_12 rfl (lv_at hl 2 rfl) ?_
  obtain ⟨q_1, h_2, hf⟩ := nn_bind hf
  refine nn_callvV S (As := [.int ((g_Md_now m) (0 : Int32).toNatClampNeg), .int ((0 : Int32)), .int (a1)]) (rest := []) (ce_M (k := 0)) (by decide) rfl rfl (c_X7_tells l D cy ad A (sM σ m) m rfl ((g_Md_now m) (0 : Int32).toNatClampNeg) (0 : Int32) a1 q_1 h_2 (sM σ q_1) rfl) mv_X7_tells tb_3_224 hK hw ⟨Nat.le_of_ble_eq_true rfl, Nat.le_of_ble_eq_true rfl⟩ ⟨Nat.zero_le _, Nat.zero_le _⟩ rfl hl.1 rfl (Nat.le_of_ble_eq_true rfl) dX7_villageComes_13 (fun H locs hw => ?_)
  refine lv_aload_n hx hb dX7_villageComes_16 rfl (lv_at hl 1 rfl) ?_
  refine lv_iload hx hb dX7_villageComes_17 (lv_at hl 0 rfl) ?_
  refine lv_iconst (v := 1) hx hb dX7_villageComes_19 (by decide) ?_
  refine lv_iload_n hx hb dX7_villageComes_20 rfl (lv_at hl 3 rfl) ?_
  obtain ⟨q_3, h_4, hf⟩ := nn_bind hf
  refine nn_callvV S (As := [.int ((g_Md_now m) (0 : Int32).toNatClampNeg), .int ((1 : Int32)), .int (a2)]) (rest := []) (ce_M (k := 0)) (by decide) rfl rfl (c_X7_tells l D cy ad A (sM σ q_1) q_1 rfl ((g_Md_now m) (0 : Int32).toNatClampNeg) (1 : Int32) a2 q_3 h_4 (sM σ q_3) rfl) mv_X7_tells tb_3_224 hK hw ⟨Nat.le_of_ble_eq_true rfl, Nat.le_of_ble_eq_true rfl⟩ ⟨Nat.zero_le _, Nat.zero_le _⟩ rfl hl.1 rfl (Nat.le_of_ble_eq_true rfl) dX7_villageComes_21 (fun H locs hw => ?_)
  refine lv_aload_n hx hb dX7_villageComes_24 rfl (lv_at hl 1 rfl) ?_
  refine lv_iload hx hb dX7_villageComes_25 (lv_at hl 0 rfl) ?_
  refine lv_iconst (v := 2) hx hb dX7_villageComes_27 (by decide) ?_
  refine lv_iload_n hx hb dX7_villageComes_28 rfl (lv_at hl 4 rfl) ?_
  obtain ⟨q_5, h_6, hf⟩ := nn_bind hf
  refine nn_callvV S (As := [.int ((g_Md_now m) (0 : Int32).toNatClampNeg), .int ((2 : Int32)), .int (a3)]) (rest := []) (ce_M (k := 0)) (by decide) rfl rfl (c_X7_tells l D cy ad A (sM σ q_3) q_3 rfl ((g_Md_now m) (0 : Int32).toNatClampNeg) (2 : Int32) a3 q_5 h_6 (sM σ q_5) rfl) mv_X7_tells tb_3_224 hK hw ⟨Nat.le_of_ble_eq_true rfl, Nat.le_of_ble_eq_true rfl⟩ ⟨Nat.zero_le _, Nat.zero_le _⟩ rfl hl.1 rfl (Nat.le_of_ble_eq_true rfl) dX7_villageComes_29 (fun H locs hw => ?_)
  refine lv_aload_n hx hb dX7_villageComes_32 rfl (lv_at hl 1 rfl) ?_
  refine lv_iload hx hb dX7_villageComes_33 (lv_at hl 0 rfl) ?_
  refine lv_iconst (v := 3) hx hb dX7_villageComes_35 (by decide) ?_
  refine lv_iload hx hb dX7_villageComes_36 (lv_at hl 5 rfl) ?_
  obtain ⟨q_7, h_8, hf⟩ := nn_bind hf
  refine nn_callvV S (As := [.int ((g_Md_now m) (0 : Int32).toNatClampNeg), .int ((3 : Int32)), .int (a4)]) (rest := []) (ce_M (k := 0)) (by decide) rfl rfl (c_X7_tells l D cy ad A (sM σ q_5) q_5 rfl ((g_Md_now m) (0 : Int32).toNatClampNeg) (3 : Int32) a4 q_7 h_8 (sM σ q_7) rfl) mv_X7_tells tb_3_224 hK hw ⟨Nat.le_of_ble_eq_true rfl, Nat.le_of_ble_eq_true rfl⟩ ⟨Nat.zero_le _, Nat.zero_le _⟩ rfl hl.1 rfl (Nat.le_of_ble_eq_true rfl) dX7_villageComes_38 (fun H locs hw => ?_)
  refine lv_aload_n hx hb dX7_villageComes_41 rfl (lv_at hl 1 rfl) ?_
  refine gf_Md_now S hK hw tb_3_145 dX7_villageComes_42 ?_
  refine lv_iconst (v := 0) hx hb dX7_villageComes_45 (by decide) ?_
  refine lv_dup2_11 hx hb dX7_villageComes_46 rfl rfl ?_
  refine al_Md_now S hK hw (x := q_7) rfl (by decide) dX7_villageComes_47 ?_
  refine lv_iconst (v := 1) hx hb dX7_villageComes_48 (by decide) ?_
  refine lv_iadd hx hb dX7_villageComes_49 ?_
  obtain ⟨m_9, h_10, hf⟩ := nn_bind hf
  replace h_10 := Option.some.inj h_10
  refine as_Md_now S hK hw (x := q_7) rfl (by decide) (τ' := (sM σ m_9)) ((rfl : _ = (sM σ (s_Md_now q_7 (upd (g_Md_now q_7) (0 : Int32).toNatClampNeg (((g_Md_now q_7) (0 : Int32).toNatClampNeg) + (1 : Int32)))))).trans (by rw [h_10])) dX7_villageComes_50 (fun H locs hw => ?_)
  refine lv_aload_n hx hb dX7_villageComes_51 rfl (lv_at hl 1 rfl) ?_
  refine lv_iconst (v := 0) hx hb dX7_villageComes_52 (by decide) ?_
  refine pf_Md_undos S hK hw (x := m_9) rfl (τ' := (sM σ (s_Md_undos m_9 (0 : Int32)))) rfl tb_3_153 dX7_villageComes_53 (fun H locs hw => ?_)
  obtain rfl := Option.some.inj hf
  exact nn_vret S hr hlk hw hσ dX7_villageComes_56
set_option maxRecDepth 100000 in
set_option maxHeartbeats 4000000 in
theorem c_X7_village (l : Launch) (D : va_G) (cy : Nat → ClassId) (ad : Nat → Nat) (A : Nat → Prop) (σ : nG) (m : nMd) (hx_M : gM σ = m) (a1 : Int32) (a2 : Int32) (a3 : Int32) (q : Int32 × nMd) (hf : f_X7_village m a1 a2 a3 = some q) (σ' : nG) (hσ : (sM σ q.2) = σ') : nn_I l yX7_village (nn_ws yX7_village cX7_village 4 (some .int)) (nn_R 2) D cy ad A [.ref (ad (136)), .int (a1), .int (a2), .int (a3)] σ q.1 σ' := by
  refine nn_enterI (plainFor_of_name (by decide +kernel)) (Nat.le_of_ble_eq_true rfl) (lv := [(0, .ref (ad (136))), (1, .int (a1)), (2, .int (a2)), (3, .int (a3))]) rfl ?_
  intro pp ee ss mm bb me co S hr hlk hK hw ls hl
  have hx := S.1
  have hb := S.2.1
  have hw : nn_W D cy ad A ss.heap (sM σ m) ss.heap [] := nn_W.eq (by rw [← hx_M]; rfl) hw
  unfold f_X7_village at hf
  refine lv_iload_n hx hb dX7_village_0 rfl (lv_at hl 1 rfl) ?_
  refine lv_i2l (v := a1.toInt64) hx hb dX7_village_1 rfl ?_
  refine lv_lconst (v := 0) hx hb dX7_village_2 (by decide) ?_
  refine lv_ldc2 (v := 4) hx hb S.2.2.2.1 (S.2.2.2.2 _ tb_3_213) dX7_village_3 ?_
  obtain ⟨q_1, h_2, hf⟩ := nn_bind hf
  refine nn_calliS S (As := [.long (a1.toInt64), .long ((0 : Int64)), .long ((4 : Int64))]) (rest := []) (c_X7_in l D cy ad A (sM σ m) a1.toInt64 (0 : Int64) (4 : Int64) q_1 h_2) mv_X7_in tb_3_214 hK hw ⟨Nat.le_of_ble_eq_true rfl, Nat.le_of_ble_eq_true rfl⟩ ⟨Nat.zero_le _, Nat.zero_le _⟩ rfl hl.1 rfl (Nat.le_of_ble_eq_true rfl) dX7_village_6 (fun H locs hw => ?_)
  refine lv_if_eq (tgt := 38) hx hb dX7_village_9 (by decide) (fun c_3 => ?_) (fun c_3 => ?_)
  · rw [if_pos c_3] at hf
    refine lv_iconst (v := -1) hx hb dX7_village_38 (by decide) ?_
    obtain rfl := Option.some.inj hf
    exact nn_iret S hr hlk hw rfl hσ dX7_village_39
  · rw [if_neg c_3] at hf
    refine lv_iload_n hx hb dX7_village_12 rfl (lv_at hl 2 rfl) ?_
    refine lv_i2l (v := a2.toInt64) hx hb dX7_village_13 rfl ?_
    refine lv_lconst (v := 0) hx hb dX7_village_14 (by decide) ?_
    refine lv_ldc2 (v := 59) hx hb S.2.2.2.1 (S.2.2.2.2 _ tb_3_217) dX7_village_15 ?_
    obtain ⟨q_4, h_5, hf⟩ := nn_bind hf
    refine nn_calliS S (As := [.long (a2.toInt64), .long ((0 : Int64)), .long ((59 : Int64))]) (rest := []) (c_X7_in l D cy ad A (sM σ m) a2.toInt64 (0 : Int64) (59 : Int64) q_4 h_5) mv_X7_in tb_3_214 hK hw ⟨Nat.le_of_ble_eq_true rfl, Nat.le_of_ble_eq_true rfl⟩ ⟨Nat.zero_le _, Nat.zero_le _⟩ rfl hl.1 rfl (Nat.le_of_ble_eq_true rfl) dX7_village_18 (fun H locs hw => ?_)
    refine lv_if_eq (tgt := 38) hx hb dX7_village_21 (by decide) (fun c_6 => ?_) (fun c_6 => ?_)
    · rw [if_pos c_6] at hf
      refine lv_iconst (v := -1) hx hb dX7_village_38 (by decide) ?_
      obtain rfl := Option.some.inj hf
      exact nn_iret S hr hlk hw rfl hσ dX7_village_39
    · rw [if_neg c_6] at hf
      refine lv_iload_n hx hb dX7_village_24 rfl (lv_at hl 3 rfl) ?_
      refine lv_i2l (v := a3.toInt64) hx hb dX7_village_25 rfl ?_
      refine lv_ldc2 (v := -9) hx hb S.2.2.2.1 (S.2.2.2.2 _ tb_3_218) dX7_village_26 ?_
      refine lv_ldc2 (v := 9) hx hb S.2.2.2.1 (S.2.2.2.2 _ tb_3_219) dX7_village_29 ?_
      obtain ⟨q_7, h_8, hf⟩ := nn_bind hf
      refine nn_calliS S (As := [.long (a3.toInt64), .long ((-9 : Int64)), .long ((9 : Int64))]) (rest := []) (c_X7_in l D cy ad A (sM σ m) a3.toInt64 (-9 : Int64) (9 : Int64) q_7 h_8) mv_X7_in tb_3_214 hK hw ⟨Nat.le_of_ble_eq_true rfl, Nat.le_of_ble_eq_true rfl⟩ ⟨Nat.zero_le _, Nat.zero_le _⟩ rfl hl.1 rfl (Nat.le_of_ble_eq_true rfl) dX7_village_32 (fun H locs hw => ?_)
      refine lv_if_ne (tgt := 40) hx hb dX7_village_35 (by decide) (fun c_9 => ?_) (fun c_9 => ?_)
      · rw [if_neg c_9] at hf
        refine lv_aload_n hx hb dX7_village_40 rfl (lv_at hl 0 rfl) ?_
        refine gf_Md_now S hK hw tb_3_145 dX7_village_41 ?_
        refine lv_iconst (v := 0) hx hb dX7_village_44 (by decide) ?_
        refine al_Md_now S hK hw (x := m) rfl (by decide) dX7_village_45 ?_
        refine lv_bipush (v := 6) hx hb dX7_village_46 (by decide) ?_
        refine lv_icmp_ne (tgt := 54) hx hb dX7_village_48 (by decide) (fun c_10 => ?_) (fun c_10 => ?_)
        · rw [if_neg c_10] at hf
          refine lv_aload_n hx hb dX7_village_54 rfl (lv_at hl 0 rfl) ?_
          refine lv_iload_n hx hb dX7_village_55 rfl (lv_at hl 1 rfl) ?_
          refine lv_iload_n hx hb dX7_village_56 rfl (lv_at hl 2 rfl) ?_
          refine lv_iload_n hx hb dX7_village_57 rfl (lv_at hl 3 rfl) ?_
          refine lv_iconst (v := 0) hx hb dX7_village_58 (by decide) ?_
          obtain ⟨q_11, h_12, hf⟩ := nn_bind hf
          refine nn_callvV S (As := [.int (a1), .int (a2), .int (a3), .int ((0 : Int32))]) (rest := []) (ce_M (k := 0)) (by decide) rfl rfl (c_X7_villageComes l D cy ad A (sM σ m) m rfl a1 a2 a3 (0 : Int32) q_11 h_12 (sM σ q_11) rfl) mv_X7_villageComes tb_3_220 hK hw ⟨Nat.le_of_ble_eq_true rfl, Nat.le_of_ble_eq_true rfl⟩ ⟨Nat.zero_le _, Nat.zero_le _⟩ rfl hl.1 rfl (Nat.le_of_ble_eq_true rfl) dX7_village_59 (fun H locs hw => ?_)
          refine lv_aload_n hx hb dX7_village_62 rfl (lv_at hl 0 rfl) ?_
          refine gf_Md_now S hK hw tb_3_145 dX7_village_63 ?_
          refine lv_iconst (v := 0) hx hb dX7_village_66 (by decide) ?_
          refine al_Md_now S hK hw (x := q_11) rfl (by decide) dX7_village_67 ?_
          refine lv_iconst (v := 1) hx hb dX7_village_68 (by decide) ?_
          refine lv_isub hx hb dX7_village_69 ?_
          obtain rfl := Option.some.inj hf
          exact nn_iret S hr hlk hw rfl hσ dX7_village_70
        · rw [if_pos c_10] at hf
          refine lv_bipush (v := -3) hx hb dX7_village_51 (by decide) ?_
          obtain rfl := Option.some.inj hf
          exact nn_iret S hr hlk hw rfl hσ dX7_village_53
      · rw [if_pos c_9] at hf
        refine lv_iconst (v := -1) hx hb dX7_village_38 (by decide) ?_
        obtain rfl := Option.some.inj hf
        exact nn_iret S hr hlk hw rfl hσ dX7_village_39
set_option maxRecDepth 100000 in
set_option maxHeartbeats 4000000 in
theorem c_X7_of (l : Launch) (D : va_G) (cy : Nat → ClassId) (ad : Nat → Nat) (A : Nat → Prop) (σ : nG) (m : nMd) (hx_M : gM σ = m) (a1 : Int32) (a2 : Int32) (q : Int32) (hf : f_X7_of m a1 a2 = some q) : nn_I l yX7_of (nn_ws yX7_of cX7_of 3 (some .int)) (nn_R 4) D cy ad A [.ref (ad (136)), .int (a1), .int (a2)] σ q σ := by
  refine nn_enterI (plainFor_of_name (by decide +kernel)) (Nat.le_of_ble_eq_true rfl) (lv := [(0, .ref (ad (136))), (1, .int (a1)), (2, .int (a2))]) rfl ?_
  intro pp ee ss mm bb me co S hr hlk hK hw ls hl
  have hx := S.1
  have hb := S.2.1
  unfold f_X7_of at hf
  refine lv_aload_n hx hb dX7_of_0 rfl (lv_at hl 0 rfl) ?_
  refine lv_iload_n hx hb dX7_of_1 rfl (lv_at hl 1 rfl) ?_
  obtain ⟨q_1, h_2, hf⟩ := nn_bind hf
  refine nn_calliV S (As := [.int (a1)]) (rest := []) (ce_M (k := 0)) (by decide) rfl rfl (c_X7_isVillage l D cy ad A σ m hx_M a1 q_1 h_2) mv_X7_isVillage tb_3_232 hK hw ⟨Nat.le_of_ble_eq_true rfl, Nat.le_of_ble_eq_true rfl⟩ ⟨Nat.zero_le _, Nat.zero_le _⟩ rfl hl.1 rfl (Nat.le_of_ble_eq_true rfl) dX7_of_2 (fun H locs hw => ?_)
  refine lv_if_ne (tgt := 10) hx hb dX7_of_5 (by decide) (fun c_3 => ?_) (fun c_3 => ?_)
  · rw [if_neg c_3] at hf
    refine lv_iload_n hx hb dX7_of_10 rfl (lv_at hl 2 rfl) ?_
    by_cases c_4 : a2 = (0 : Int32)
    · rw [if_pos c_4] at hf
      refine lv_tableIn (tgt := 48) hx hb dX7_of_11 (by rw [c_4]; decide) (by rw [c_4]; decide) (by rw [c_4]; rfl) (by decide) ?_
      refine lv_aload_n hx hb dX7_of_48 rfl (lv_at hl 0 rfl) ?_
      refine lv_iload_n hx hb dX7_of_49 rfl (lv_at hl 1 rfl) ?_
      refine lv_iload_n hx hb dX7_of_50 rfl (lv_at hl 2 rfl) ?_
      obtain ⟨q_5, h_6, hf⟩ := nn_bind hf
      refine nn_calliV S (As := [.int (a1), .int (a2)]) (rest := []) (ce_M (k := 0)) (by decide) rfl rfl (c_X7_told l D cy ad A σ m hx_M a1 a2 q_5 h_6) mv_X7_told tb_3_236 hK hw ⟨Nat.le_of_ble_eq_true rfl, Nat.le_of_ble_eq_true rfl⟩ ⟨Nat.zero_le _, Nat.zero_le _⟩ rfl hl.1 rfl (Nat.le_of_ble_eq_true rfl) dX7_of_51 (fun H locs hw => ?_)
      obtain rfl := Option.some.inj hf
      exact nn_iret S hr hlk hw rfl rfl dX7_of_54
    · rw [if_neg c_4] at hf
      by_cases c_7 : a2 = (1 : Int32)
      · rw [if_pos c_7] at hf
        refine lv_tableIn (tgt := 48) hx hb dX7_of_11 (by rw [c_7]; decide) (by rw [c_7]; decide) (by rw [c_7]; rfl) (by decide) ?_
        refine lv_aload_n hx hb dX7_of_48 rfl (lv_at hl 0 rfl) ?_
        refine lv_iload_n hx hb dX7_of_49 rfl (lv_at hl 1 rfl) ?_
        refine lv_iload_n hx hb dX7_of_50 rfl (lv_at hl 2 rfl) ?_
        obtain ⟨q_8, h_9, hf⟩ := nn_bind hf
        refine nn_calliV S (As := [.int (a1), .int (a2)]) (rest := []) (ce_M (k := 0)) (by decide) rfl rfl (c_X7_told l D cy ad A σ m hx_M a1 a2 q_8 h_9) mv_X7_told tb_3_236 hK hw ⟨Nat.le_of_ble_eq_true rfl, Nat.le_of_ble_eq_true rfl⟩ ⟨Nat.zero_le _, Nat.zero_le _⟩ rfl hl.1 rfl (Nat.le_of_ble_eq_true rfl) dX7_of_51 (fun H locs hw => ?_)
        obtain rfl := Option.some.inj hf
        exact nn_iret S hr hlk hw rfl rfl dX7_of_54
      · rw [if_neg c_7] at hf
        by_cases c_10 : a2 = (2 : Int32)
        · rw [if_pos c_10] at hf
          refine lv_tableIn (tgt := 55) hx hb dX7_of_11 (by rw [c_10]; decide) (by rw [c_10]; decide) (by rw [c_10]; rfl) (by decide) ?_
          refine lv_aload_n hx hb dX7_of_55 rfl (lv_at hl 0 rfl) ?_
          refine lv_iload_n hx hb dX7_of_56 rfl (lv_at hl 1 rfl) ?_
          refine lv_iconst (v := 2) hx hb dX7_of_57 (by decide) ?_
          obtain ⟨q_11, h_12, hf⟩ := nn_bind hf
          refine nn_calliV S (As := [.int (a1), .int ((2 : Int32))]) (rest := []) (ce_M (k := 0)) (by decide) rfl rfl (c_X7_told l D cy ad A σ m hx_M a1 (2 : Int32) q_11 h_12) mv_X7_told tb_3_236 hK hw ⟨Nat.le_of_ble_eq_true rfl, Nat.le_of_ble_eq_true rfl⟩ ⟨Nat.zero_le _, Nat.zero_le _⟩ rfl hl.1 rfl (Nat.le_of_ble_eq_true rfl) dX7_of_58 (fun H locs hw => ?_)
          refine lv_bipush (v := 9) hx hb dX7_of_61 (by decide) ?_
          refine lv_iadd hx hb dX7_of_63 ?_
          obtain rfl := Option.some.inj hf
          exact nn_iret S hr hlk hw rfl rfl dX7_of_64
        · rw [if_neg c_10] at hf
          by_cases c_13 : a2 = (3 : Int32)
          · rw [if_pos c_13] at hf
            refine lv_tableIn (tgt := 48) hx hb dX7_of_11 (by rw [c_13]; decide) (by rw [c_13]; decide) (by rw [c_13]; rfl) (by decide) ?_
            refine lv_aload_n hx hb dX7_of_48 rfl (lv_at hl 0 rfl) ?_
            refine lv_iload_n hx hb dX7_of_49 rfl (lv_at hl 1 rfl) ?_
            refine lv_iload_n hx hb dX7_of_50 rfl (lv_at hl 2 rfl) ?_
            obtain ⟨q_14, h_15, hf⟩ := nn_bind hf
            refine nn_calliV S (As := [.int (a1), .int (a2)]) (rest := []) (ce_M (k := 0)) (by decide) rfl rfl (c_X7_told l D cy ad A σ m hx_M a1 a2 q_14 h_15) mv_X7_told tb_3_236 hK hw ⟨Nat.le_of_ble_eq_true rfl, Nat.le_of_ble_eq_true rfl⟩ ⟨Nat.zero_le _, Nat.zero_le _⟩ rfl hl.1 rfl (Nat.le_of_ble_eq_true rfl) dX7_of_51 (fun H locs hw => ?_)
            obtain rfl := Option.some.inj hf
            exact nn_iret S hr hlk hw rfl rfl dX7_of_54
          · rw [if_neg c_13] at hf
            by_cases c_16 : a2 = (4 : Int32)
            · rw [if_pos c_16] at hf
              refine lv_tableIn (tgt := 65) hx hb dX7_of_11 (by rw [c_16]; decide) (by rw [c_16]; decide) (by rw [c_16]; rfl) (by decide) ?_
              refine lv_aload_n hx hb dX7_of_65 rfl (lv_at hl 0 rfl) ?_
              refine lv_iload_n hx hb dX7_of_66 rfl (lv_at hl 1 rfl) ?_
              obtain ⟨q_17, h_18, hf⟩ := nn_bind hf
              refine nn_calliV S (As := [.int (a1)]) (rest := []) (ce_M (k := 0)) (by decide) rfl rfl (c_X7_laterBy l D cy ad A σ m hx_M a1 q_17 h_18) mv_X7_laterBy tb_4_0 hK hw ⟨Nat.le_of_ble_eq_true rfl, Nat.le_of_ble_eq_true rfl⟩ ⟨Nat.zero_le _, Nat.zero_le _⟩ rfl hl.1 rfl (Nat.le_of_ble_eq_true rfl) dX7_of_67 (fun H locs hw => ?_)
              refine lv_bipush (v := 30) hx hb dX7_of_70 (by decide) ?_
              refine lv_iadd hx hb dX7_of_72 ?_
              obtain rfl := Option.some.inj hf
              exact nn_iret S hr hlk hw rfl rfl dX7_of_73
            · rw [if_neg c_16] at hf
              by_cases c_19 : a2 = (5 : Int32)
              · rw [if_pos c_19] at hf
                refine lv_tableIn (tgt := 74) hx hb dX7_of_11 (by rw [c_19]; decide) (by rw [c_19]; decide) (by rw [c_19]; rfl) (by decide) ?_
                refine lv_aload_n hx hb dX7_of_74 rfl (lv_at hl 0 rfl) ?_
                refine lv_iload_n hx hb dX7_of_75 rfl (lv_at hl 1 rfl) ?_
                obtain ⟨q_20, h_21, hf⟩ := nn_bind hf
                refine nn_calliV S (As := [.int (a1)]) (rest := []) (ce_M (k := 0)) (by decide) rfl rfl (c_X7_alike l D cy ad A σ m hx_M a1 q_20 h_21) mv_X7_alike tb_4_22 hK hw ⟨Nat.le_of_ble_eq_true rfl, Nat.le_of_ble_eq_true rfl⟩ ⟨Nat.zero_le _, Nat.zero_le _⟩ rfl hl.1 rfl (Nat.le_of_ble_eq_true rfl) dX7_of_76 (fun H locs hw => ?_)
                obtain rfl := Option.some.inj hf
                exact nn_iret S hr hlk hw rfl rfl dX7_of_79
              · rw [if_neg c_19] at hf
                refine lv_tableOut (tgt := 80) hx hb dX7_of_11 (nn_swout 5 (by decide) (fun k hk => by have h9 : k = 0 ∨ k = 1 ∨ k = 2 ∨ k = 3 ∨ k = 4 ∨ k = 5 := (by omega); rcases h9 with rfl | rfl | rfl | rfl | rfl | rfl <;> assumption)) (by decide) ?_
                refine lv_iconst (v := -1) hx hb dX7_of_80 (by decide) ?_
                obtain rfl := Option.some.inj hf
                exact nn_iret S hr hlk hw rfl rfl dX7_of_81
  · rw [if_pos c_3] at hf
    refine lv_iconst (v := -1) hx hb dX7_of_8 (by decide) ?_
    obtain rfl := Option.some.inj hf
    exact nn_iret S hr hlk hw rfl rfl dX7_of_9
set_option maxRecDepth 100000 in
set_option maxHeartbeats 4000000 in
theorem c_X7_areTwo (l : Launch) (D : va_G) (cy : Nat → ClassId) (ad : Nat → Nat) (A : Nat → Prop) (σ : nG) (m : nMd) (hx_M : gM σ = m) (a1 : Int32) (a2 : Int32) (q : Int32) (hf : f_X7_areTwo m a1 a2 = some q) : nn_I l yX7_areTwo (nn_ws yX7_areTwo cX7_areTwo 3 (some .boolean)) (nn_R 2) D cy ad A [.ref (ad (136)), .int (a1), .int (a2)] σ q σ := by
  refine nn_enterI (plainFor_of_name (by decide +kernel)) (Nat.le_of_ble_eq_true rfl) (lv := [(0, .ref (ad (136))), (1, .int (a1)), (2, .int (a2))]) rfl ?_
  intro pp ee ss mm bb me co S hr hlk hK hw ls hl
  have hx := S.1
  have hb := S.2.1
  unfold f_X7_areTwo at hf
  refine lv_aload_n hx hb dX7_areTwo_0 rfl (lv_at hl 0 rfl) ?_
  refine lv_iload_n hx hb dX7_areTwo_1 rfl (lv_at hl 1 rfl) ?_
  obtain ⟨q_1, h_2, hf⟩ := nn_bind hf
  refine nn_calliV S (As := [.int (a1)]) (rest := []) (ce_M (k := 0)) (by decide) rfl rfl (c_X7_isVillage l D cy ad A σ m hx_M a1 q_1 h_2) mv_X7_isVillage tb_3_232 hK hw ⟨Nat.le_of_ble_eq_true rfl, Nat.le_of_ble_eq_true rfl⟩ ⟨Nat.zero_le _, Nat.zero_le _⟩ rfl hl.1 rfl (Nat.le_of_ble_eq_true rfl) dX7_areTwo_2 (fun H locs hw => ?_)
  refine lv_if_eq (tgt := 25) hx hb dX7_areTwo_5 (by decide) (fun c_3 => ?_) (fun c_3 => ?_)
  · rw [if_pos c_3] at hf
    refine lv_iconst (v := 0) hx hb dX7_areTwo_25 (by decide) ?_
    obtain rfl := Option.some.inj hf
    exact nn_zret S hr hlk hw rfl rfl rfl dX7_areTwo_26
  · rw [if_neg c_3] at hf
    refine lv_aload_n hx hb dX7_areTwo_8 rfl (lv_at hl 0 rfl) ?_
    refine lv_iload_n hx hb dX7_areTwo_9 rfl (lv_at hl 2 rfl) ?_
    obtain ⟨q_4, h_5, hf⟩ := nn_bind hf
    refine nn_calliV S (As := [.int (a2)]) (rest := []) (ce_M (k := 0)) (by decide) rfl rfl (c_X7_isVillage l D cy ad A σ m hx_M a2 q_4 h_5) mv_X7_isVillage tb_3_232 hK hw ⟨Nat.le_of_ble_eq_true rfl, Nat.le_of_ble_eq_true rfl⟩ ⟨Nat.zero_le _, Nat.zero_le _⟩ rfl hl.1 rfl (Nat.le_of_ble_eq_true rfl) dX7_areTwo_10 (fun H locs hw => ?_)
    refine lv_if_eq (tgt := 25) hx hb dX7_areTwo_13 (by decide) (fun c_6 => ?_) (fun c_6 => ?_)
    · rw [if_pos c_6] at hf
      refine lv_iconst (v := 0) hx hb dX7_areTwo_25 (by decide) ?_
      obtain rfl := Option.some.inj hf
      exact nn_zret S hr hlk hw rfl rfl rfl dX7_areTwo_26
    · rw [if_neg c_6] at hf
      refine lv_iload_n hx hb dX7_areTwo_16 rfl (lv_at hl 1 rfl) ?_
      refine lv_iload_n hx hb dX7_areTwo_17 rfl (lv_at hl 2 rfl) ?_
      refine lv_icmp_eq (tgt := 25) hx hb dX7_areTwo_18 (by decide) (fun c_7 => ?_) (fun c_7 => ?_)
      · rw [if_pos c_7] at hf
        refine lv_iconst (v := 0) hx hb dX7_areTwo_25 (by decide) ?_
        obtain rfl := Option.some.inj hf
        exact nn_zret S hr hlk hw rfl rfl rfl dX7_areTwo_26
      · rw [if_neg c_7] at hf
        refine lv_iconst (v := 1) hx hb dX7_areTwo_21 (by decide) ?_
        refine lv_goto (tgt := 26) hx hb dX7_areTwo_22 (by decide) ?_
        obtain rfl := Option.some.inj hf
        exact nn_zret S hr hlk hw rfl rfl rfl dX7_areTwo_26
set_option maxRecDepth 100000 in
set_option maxHeartbeats 4000000 in
theorem c_X7_gap (l : Launch) (D : va_G) (cy : Nat → ClassId) (ad : Nat → Nat) (A : Nat → Prop) (σ : nG) (m : nMd) (hx_M : gM σ = m) (a1 : Int32) (a2 : Int32) (q : Int32) (hf : f_X7_gap m a1 a2 = some q) : nn_I l yX7_gap (nn_ws yX7_gap cX7_gap 3 (some .int)) (nn_R 3) D cy ad A [.ref (ad (136)), .int (a1), .int (a2)] σ q σ := by
  refine nn_enterI (plainFor_of_name (by decide +kernel)) (Nat.le_of_ble_eq_true rfl) (lv := [(0, .ref (ad (136))), (1, .int (a1)), (2, .int (a2))]) rfl ?_
  intro pp ee ss mm bb me co S hr hlk hK hw ls hl
  have hx := S.1
  have hb := S.2.1
  unfold f_X7_gap at hf
  refine lv_aload_n hx hb dX7_gap_0 rfl (lv_at hl 0 rfl) ?_
  refine lv_iload_n hx hb dX7_gap_1 rfl (lv_at hl 1 rfl) ?_
  refine lv_iload_n hx hb dX7_gap_2 rfl (lv_at hl 2 rfl) ?_
  obtain ⟨q_1, h_2, hf⟩ := nn_bind hf
  refine nn_calliV S (As := [.int (a1), .int (a2)]) (rest := []) (ce_M (k := 0)) (by decide) rfl rfl (c_X7_areTwo l D cy ad A σ m hx_M a1 a2 q_1 h_2) mv_X7_areTwo tb_4_30 hK hw ⟨Nat.le_of_ble_eq_true rfl, Nat.le_of_ble_eq_true rfl⟩ ⟨Nat.zero_le _, Nat.zero_le _⟩ rfl hl.1 rfl (Nat.le_of_ble_eq_true rfl) dX7_gap_3 (fun H locs hw => ?_)
  refine lv_if_eq (tgt := 25) hx hb dX7_gap_6 (by decide) (fun c_3 => ?_) (fun c_3 => ?_)
  · rw [if_pos c_3] at hf
    refine lv_iconst (v := -1) hx hb dX7_gap_25 (by decide) ?_
    obtain rfl := Option.some.inj hf
    exact nn_iret S hr hlk hw rfl rfl dX7_gap_26
  · rw [if_neg c_3] at hf
    refine lv_aload_n hx hb dX7_gap_9 rfl (lv_at hl 0 rfl) ?_
    refine lv_iload_n hx hb dX7_gap_10 rfl (lv_at hl 1 rfl) ?_
    obtain ⟨q_4, h_5, hf⟩ := nn_bind hf
    refine nn_calliV S (As := [.int (a1)]) (rest := []) (ce_M (k := 0)) (by decide) rfl rfl (c_X7_minuteOf l D cy ad A σ m hx_M a1 q_4 h_5) mv_X7_minuteOf tb_4_8 hK hw ⟨Nat.le_of_ble_eq_true rfl, Nat.le_of_ble_eq_true rfl⟩ ⟨Nat.zero_le _, Nat.zero_le _⟩ rfl hl.1 rfl (Nat.le_of_ble_eq_true rfl) dX7_gap_11 (fun H locs hw => ?_)
    refine lv_aload_n hx hb dX7_gap_14 rfl (lv_at hl 0 rfl) ?_
    refine lv_iload_n hx hb dX7_gap_15 rfl (lv_at hl 2 rfl) ?_
    obtain ⟨q_6, h_7, hf⟩ := nn_bind hf
    refine nn_calliV S (As := [.int (a2)]) (rest := [.int (q_4)]) (ce_M (k := 0)) (by decide) rfl rfl (c_X7_minuteOf l D cy ad A σ m hx_M a2 q_6 h_7) mv_X7_minuteOf tb_4_8 hK hw ⟨Nat.le_of_ble_eq_true rfl, Nat.le_of_ble_eq_true rfl⟩ ⟨Nat.zero_le _, Nat.zero_le _⟩ rfl hl.1 rfl (Nat.le_of_ble_eq_true rfl) dX7_gap_16 (fun H locs hw => ?_)
    obtain ⟨q_8, h_9, hf⟩ := nn_bind hf
    refine nn_calliS S (As := [.int (q_4), .int (q_6)]) (rest := []) (c_X7_between l D cy ad A σ q_4 q_6 q_8 h_9) mv_X7_between tb_4_12 hK hw ⟨Nat.le_of_ble_eq_true rfl, Nat.le_of_ble_eq_true rfl⟩ ⟨Nat.zero_le _, Nat.zero_le _⟩ rfl hl.1 rfl (Nat.le_of_ble_eq_true rfl) dX7_gap_19 (fun H locs hw => ?_)
    refine lv_goto (tgt := 26) hx hb dX7_gap_22 (by decide) ?_
    obtain rfl := Option.some.inj hf
    exact nn_iret S hr hlk hw rfl rfl dX7_gap_26
set_option maxRecDepth 100000 in
set_option maxHeartbeats 4000000 in
theorem c_X7_sumOf (l : Launch) (D : va_G) (cy : Nat → ClassId) (ad : Nat → Nat) (A : Nat → Prop) (σ : nG) (m : nMd) (hx_M : gM σ = m) (a1 : Int32) (q : Int32) (hf : f_X7_sumOf m a1 = some q) : nn_I l yX7_sumOf (nn_ws yX7_sumOf cX7_sumOf 4 (some .int)) (nn_R 1) D cy ad A [.ref (ad (136)), .int (a1)] σ q σ := by
  refine nn_enterI (plainFor_of_name (by decide +kernel)) (Nat.le_of_ble_eq_true rfl) (lv := [(0, .ref (ad (136))), (1, .int (a1))]) rfl ?_
  intro pp ee ss mm bb me co S hr hlk hK hw ls hl
  have hx := S.1
  have hb := S.2.1
  unfold f_X7_sumOf at hf
  have L4 : ∀ (n : Nat) (u1 : Int32) (u2 : Int32) (u3 : Int32) (K : Int32 → Int32 → Int32 → Option (Int32)), (∀ (u1 : Int32) (u2 : Int32) (u3 : Int32), K u1 u2 u3 = some q → ∀ (H : Heap) (locs : List Loc) (ls : Array Slot), nn_W D cy ad A ss.heap σ H locs → lv_has ls 4 [(0, .ref (ad (136))), (1, .int (u1)), (2, .int (u2)), (3, .int (u3))] → W pp l ee (nn_R 1) ss mm ([.ref (ad (136)), .int (a1)] : List Value).toArray bb me co H locs 0 0 (MQ bb (nn_qi D cy ad A q σ) ([.ref (ad (136)), .int (a1)] : List Value).toArray ss 0 0 A) (F0 mm 29 ls [])) → f_X7_sumOf_L4 m n u1 u2 u3 K = some q → ∀ (H : Heap) (locs : List Loc) (ls : Array Slot), nn_W D cy ad A ss.heap σ H locs → lv_has ls 4 [(0, .ref (ad (136))), (1, .int (u1)), (2, .int (u2)), (3, .int (u3))] → W pp l ee (nn_R 1) ss mm ([.ref (ad (136)), .int (a1)] : List Value).toArray bb me co H locs 0 0 (MQ bb (nn_qi D cy ad A q σ) ([.ref (ad (136)), .int (a1)] : List Value).toArray ss 0 0 A) (F0 mm 4 ls []) := by
    intro n
    induction n with
    | zero => intro u1 u2 u3 K hKK hf; exact absurd hf (by simp [f_X7_sumOf_L4])
    | succ n ih =>
      intro u1 u2 u3 K hKK hf H locs ls hw hl
      rw [f_X7_sumOf_L4] at hf
      refine lv_iload_n hx hb dX7_sumOf_4 rfl (lv_at hl 3 rfl) ?_
      refine lv_aload_n hx hb dX7_sumOf_5 rfl (lv_at hl 0 rfl) ?_
      refine gf_Md_now S hK hw tb_3_145 dX7_sumOf_6 ?_
      refine lv_iconst (v := 0) hx hb dX7_sumOf_9 (by decide) ?_
      refine al_Md_now S hK hw (x := m) hx_M (by decide) dX7_sumOf_10 ?_
      refine lv_icmp_ge (tgt := 29) hx hb dX7_sumOf_11 (by decide) (fun c_1 => ?_) (fun c_1 => ?_)
      · rw [if_pos c_1] at hf
        exact hKK u1 u2 u3 hf _ _ _ hw (lv_sub hl [0, 1, 2, 3] rfl)
      · rw [if_neg c_1] at hf
        refine lv_iload_n hx hb dX7_sumOf_14 rfl (lv_at hl 2 rfl) ?_
        refine lv_aload_n hx hb dX7_sumOf_15 rfl (lv_at hl 0 rfl) ?_
        refine lv_iload_n hx hb dX7_sumOf_16 rfl (lv_at hl 3 rfl) ?_
        refine lv_iload_n hx hb dX7_sumOf_17 rfl (lv_at hl 1 rfl) ?_
        obtain ⟨q_2, h_3, hf⟩ := nn_bind hf
        refine nn_calliV S (As := [.int (u3), .int (u1)]) (rest := [.int (u2)]) (ce_M (k := 0)) (by decide) rfl rfl (c_X7_told l D cy ad A σ m hx_M u3 u1 q_2 h_3) mv_X7_told tb_3_236 hK hw ⟨Nat.le_of_ble_eq_true rfl, Nat.le_of_ble_eq_true rfl⟩ ⟨Nat.zero_le _, Nat.zero_le _⟩ rfl hl.1 rfl (Nat.le_of_ble_eq_true rfl) dX7_sumOf_18 (fun H locs hw => ?_)
        refine lv_iadd hx hb dX7_sumOf_21 ?_
        refine lv_istore_n (lv' := [(2, .int (u2 + q_2)), (0, .ref (ad (136))), (1, .int (u1)), (3, .int (u3))]) hx hb dX7_sumOf_22 rfl hl (by decide) rfl (fun ls hl => ?_)
        refine lv_iinc (v := u3 + (1 : Int32)) (lv' := [(3, .int (u3 + (1 : Int32))), (2, .int (u2 + q_2)), (0, .ref (ad (136))), (1, .int (u1))]) hx hb dX7_sumOf_23 hl (k := 3) rfl (congrArg (fun z => u3 + z) (by decide)) (by decide) rfl (fun ls hl => ?_)
        refine lv_goto (tgt := 4) hx hb dX7_sumOf_26 (by decide) ?_
        exact ih u1 (u2 + q_2) (u3 + (1 : Int32)) K hKK hf _ _ _ hw (lv_sub hl [2, 3, 1, 0] rfl)
  refine lv_iconst (v := 0) hx hb dX7_sumOf_0 (by decide) ?_
  refine lv_istore_n (lv' := [(2, .int ((0 : Int32))), (0, .ref (ad (136))), (1, .int (a1))]) hx hb dX7_sumOf_1 rfl hl (by decide) rfl (fun ls hl => ?_)
  refine lv_iconst (v := 0) hx hb dX7_sumOf_2 (by decide) ?_
  refine lv_istore_n (lv' := [(3, .int ((0 : Int32))), (2, .int ((0 : Int32))), (0, .ref (ad (136))), (1, .int (a1))]) hx hb dX7_sumOf_3 rfl hl (by decide) rfl (fun ls hl => ?_)
  refine L4 100000 a1 (0 : Int32) (0 : Int32) _ (fun b1_4 b2_5 b3_6 hf H locs ls hw hl => ?_) hf _ _ _ hw (lv_sub hl [2, 3, 1, 0] rfl)
  refine lv_iload_n hx hb dX7_sumOf_29 rfl (lv_at hl 2 rfl) ?_
  obtain rfl := Option.some.inj hf
  exact nn_iret S hr hlk hw rfl rfl dX7_sumOf_30
set_option maxRecDepth 100000 in
set_option maxHeartbeats 4000000 in
theorem c_X7_count (l : Launch) (D : va_G) (cy : Nat → ClassId) (ad : Nat → Nat) (A : Nat → Prop) (σ : nG) (m : nMd) (hx_M : gM σ = m) (a1 : Int32) (q : Int32) (hf : f_X7_count m a1 = some q) : nn_I l yX7_count (nn_ws yX7_count cX7_count 2 (some .int)) (nn_R 4) D cy ad A [.ref (ad (136)), .int (a1)] σ q σ := by
  refine nn_enterI (plainFor_of_name (by decide +kernel)) (Nat.le_of_ble_eq_true rfl) (lv := [(0, .ref (ad (136))), (1, .int (a1))]) rfl ?_
  intro pp ee ss mm bb me co S hr hlk hK hw ls hl
  have hx := S.1
  have hb := S.2.1
  unfold f_X7_count at hf
  refine lv_iload_n hx hb dX7_count_0 rfl (lv_at hl 1 rfl) ?_
  by_cases c_1 : a1 = (0 : Int32)
  · rw [if_pos c_1] at hf
    refine lv_tableIn (tgt := 44) hx hb dX7_count_1 (by rw [c_1]; decide) (by rw [c_1]; decide) (by rw [c_1]; rfl) (by decide) ?_
    refine lv_aload_n hx hb dX7_count_44 rfl (lv_at hl 0 rfl) ?_
    refine gf_Md_now S hK hw tb_3_145 dX7_count_45 ?_
    refine lv_iload_n hx hb dX7_count_48 rfl (lv_at hl 1 rfl) ?_
    obtain ⟨g_2, hf⟩ := nn_ix_some hf
    refine al_Md_now S hK hw (x := m) hx_M g_2 dX7_count_49 ?_
    obtain rfl := Option.some.inj hf
    exact nn_iret S hr hlk hw rfl rfl dX7_count_50
  · rw [if_neg c_1] at hf
    by_cases c_3 : a1 = (1 : Int32)
    · rw [if_pos c_3] at hf
      refine lv_tableIn (tgt := 44) hx hb dX7_count_1 (by rw [c_3]; decide) (by rw [c_3]; decide) (by rw [c_3]; rfl) (by decide) ?_
      refine lv_aload_n hx hb dX7_count_44 rfl (lv_at hl 0 rfl) ?_
      refine gf_Md_now S hK hw tb_3_145 dX7_count_45 ?_
      refine lv_iload_n hx hb dX7_count_48 rfl (lv_at hl 1 rfl) ?_
      obtain ⟨g_4, hf⟩ := nn_ix_some hf
      refine al_Md_now S hK hw (x := m) hx_M g_4 dX7_count_49 ?_
      obtain rfl := Option.some.inj hf
      exact nn_iret S hr hlk hw rfl rfl dX7_count_50
    · rw [if_neg c_3] at hf
      by_cases c_5 : a1 = (2 : Int32)
      · rw [if_pos c_5] at hf
        refine lv_tableIn (tgt := 51) hx hb dX7_count_1 (by rw [c_5]; decide) (by rw [c_5]; decide) (by rw [c_5]; rfl) (by decide) ?_
        refine lv_aload_n hx hb dX7_count_51 rfl (lv_at hl 0 rfl) ?_
        obtain ⟨q_6, h_7, hf⟩ := nn_bind hf
        refine nn_calliV S (As := []) (rest := []) (ce_M (k := 0)) (by decide) rfl rfl (c_X7_leastGap l D cy ad A σ m hx_M q_6 h_7) mv_X7_leastGap tb_4_38 hK hw ⟨Nat.le_of_ble_eq_true rfl, Nat.le_of_ble_eq_true rfl⟩ ⟨Nat.zero_le _, Nat.zero_le _⟩ rfl hl.1 rfl (Nat.le_of_ble_eq_true rfl) dX7_count_52 (fun H locs hw => ?_)
        obtain rfl := Option.some.inj hf
        exact nn_iret S hr hlk hw rfl rfl dX7_count_55
      · rw [if_neg c_5] at hf
        by_cases c_8 : a1 = (3 : Int32)
        · rw [if_pos c_8] at hf
          refine lv_tableIn (tgt := 56) hx hb dX7_count_1 (by rw [c_8]; decide) (by rw [c_8]; decide) (by rw [c_8]; rfl) (by decide) ?_
          refine lv_aload_n hx hb dX7_count_56 rfl (lv_at hl 0 rfl) ?_
          obtain ⟨q_9, h_10, hf⟩ := nn_bind hf
          refine nn_calliV S (As := []) (rest := []) (ce_M (k := 0)) (by decide) rfl rfl (c_X7_allAlike l D cy ad A σ m hx_M q_9 h_10) mv_X7_allAlike tb_4_42 hK hw ⟨Nat.le_of_ble_eq_true rfl, Nat.le_of_ble_eq_true rfl⟩ ⟨Nat.zero_le _, Nat.zero_le _⟩ rfl hl.1 rfl (Nat.le_of_ble_eq_true rfl) dX7_count_57 (fun H locs hw => ?_)
          obtain rfl := Option.some.inj hf
          exact nn_iret S hr hlk hw rfl rfl dX7_count_60
        · rw [if_neg c_8] at hf
          by_cases c_11 : a1 = (4 : Int32)
          · rw [if_pos c_11] at hf
            refine lv_tableIn (tgt := 61) hx hb dX7_count_1 (by rw [c_11]; decide) (by rw [c_11]; decide) (by rw [c_11]; rfl) (by decide) ?_
            refine lv_aload_n hx hb dX7_count_61 rfl (lv_at hl 0 rfl) ?_
            refine lv_iconst (v := 1) hx hb dX7_count_62 (by decide) ?_
            obtain ⟨q_12, h_13, hf⟩ := nn_bind hf
            refine nn_calliV S (As := [.int ((1 : Int32))]) (rest := []) (ce_M (k := 0)) (by decide) rfl rfl (c_X7_sumOf l D cy ad A σ m hx_M (1 : Int32) q_12 h_13) mv_X7_sumOf tb_4_46 hK hw ⟨Nat.le_of_ble_eq_true rfl, Nat.le_of_ble_eq_true rfl⟩ ⟨Nat.zero_le _, Nat.zero_le _⟩ rfl hl.1 rfl (Nat.le_of_ble_eq_true rfl) dX7_count_63 (fun H locs hw => ?_)
            obtain rfl := Option.some.inj hf
            exact nn_iret S hr hlk hw rfl rfl dX7_count_66
          · rw [if_neg c_11] at hf
            by_cases c_14 : a1 = (5 : Int32)
            · rw [if_pos c_14] at hf
              refine lv_tableIn (tgt := 67) hx hb dX7_count_1 (by rw [c_14]; decide) (by rw [c_14]; decide) (by rw [c_14]; rfl) (by decide) ?_
              refine lv_aload_n hx hb dX7_count_67 rfl (lv_at hl 0 rfl) ?_
              refine lv_iconst (v := 3) hx hb dX7_count_68 (by decide) ?_
              obtain ⟨q_15, h_16, hf⟩ := nn_bind hf
              refine nn_calliV S (As := [.int ((3 : Int32))]) (rest := []) (ce_M (k := 0)) (by decide) rfl rfl (c_X7_sumOf l D cy ad A σ m hx_M (3 : Int32) q_15 h_16) mv_X7_sumOf tb_4_46 hK hw ⟨Nat.le_of_ble_eq_true rfl, Nat.le_of_ble_eq_true rfl⟩ ⟨Nat.zero_le _, Nat.zero_le _⟩ rfl hl.1 rfl (Nat.le_of_ble_eq_true rfl) dX7_count_69 (fun H locs hw => ?_)
              obtain rfl := Option.some.inj hf
              exact nn_iret S hr hlk hw rfl rfl dX7_count_72
            · rw [if_neg c_14] at hf
              by_cases c_17 : a1 = (6 : Int32)
              · rw [if_pos c_17] at hf
                refine lv_tableIn (tgt := 73) hx hb dX7_count_1 (by rw [c_17]; decide) (by rw [c_17]; decide) (by rw [c_17]; rfl) (by decide) ?_
                refine lv_aload_n hx hb dX7_count_73 rfl (lv_at hl 0 rfl) ?_
                refine gf_Md_undos S hK hw (x := m) hx_M tb_3_153 dX7_count_74 ?_
                obtain rfl := Option.some.inj hf
                exact nn_iret S hr hlk hw rfl rfl dX7_count_77
              · rw [if_neg c_17] at hf
                refine lv_tableOut (tgt := 78) hx hb dX7_count_1 (nn_swout 6 (by decide) (fun k hk => by have h9 : k = 0 ∨ k = 1 ∨ k = 2 ∨ k = 3 ∨ k = 4 ∨ k = 5 ∨ k = 6 := (by omega); rcases h9 with rfl | rfl | rfl | rfl | rfl | rfl | rfl <;> assumption)) (by decide) ?_
                refine lv_iconst (v := -1) hx hb dX7_count_78 (by decide) ?_
                obtain rfl := Option.some.inj hf
                exact nn_iret S hr hlk hw rfl rfl dX7_count_79
set_option maxRecDepth 100000 in
set_option maxHeartbeats 4000000 in
theorem c_X7_type (l : Launch) (D : va_G) (cy : Nat → ClassId) (ad : Nat → Nat) (A : Nat → Prop) (σ : nG) (m : nMd) (hx_M : gM σ = m) (a1 : Int32) (q : Int32 × nMd) (hf : f_X7_type m a1 = some q) (σ' : nG) (hσ : (sM σ q.2) = σ') : nn_I l yX7_type (nn_ws yX7_type cX7_type 2 (some .int)) (nn_R 1) D cy ad A [.ref (ad (136)), .int (a1)] σ q.1 σ' := by
  refine nn_enterI (plainFor_of_name (by decide +kernel)) (Nat.le_of_ble_eq_true rfl) (lv := [(0, .ref (ad (136))), (1, .int (a1))]) rfl ?_
  intro pp ee ss mm bb me co S hr hlk hK hw ls hl
  have hx := S.1
  have hb := S.2.1
  have hw : nn_W D cy ad A ss.heap (sM σ m) ss.heap [] := nn_W.eq (by rw [← hx_M]; rfl) hw
  unfold f_X7_type at hf
  refine lv_iload_n hx hb dX7_type_0 rfl (lv_at hl 1 rfl) ?_
  refine lv_i2l (v := a1.toInt64) hx hb dX7_type_1 rfl ?_
  refine lv_ldc2 (v := 32) hx hb S.2.2.2.1 (S.2.2.2.2 _ tb_4_54) dX7_type_2 ?_
  refine lv_ldc2 (v := 126) hx hb S.2.2.2.1 (S.2.2.2.2 _ tb_4_55) dX7_type_5 ?_
  obtain ⟨q_1, h_2, hf⟩ := nn_bind hf
  refine nn_calliS S (As := [.long (a1.toInt64), .long ((32 : Int64)), .long ((126 : Int64))]) (rest := []) (c_X7_in l D cy ad A (sM σ m) a1.toInt64 (32 : Int64) (126 : Int64) q_1 h_2) mv_X7_in tb_3_214 hK hw ⟨Nat.le_of_ble_eq_true rfl, Nat.le_of_ble_eq_true rfl⟩ ⟨Nat.zero_le _, Nat.zero_le _⟩ rfl hl.1 rfl (Nat.le_of_ble_eq_true rfl) dX7_type_8 (fun H locs hw => ?_)
  refine lv_if_ne (tgt := 16) hx hb dX7_type_11 (by decide) (fun c_3 => ?_) (fun c_3 => ?_)
  · rw [if_neg c_3] at hf
    refine lv_aload_n hx hb dX7_type_16 rfl (lv_at hl 0 rfl) ?_
    refine gf_Md_typed S hK hw (x := m) rfl tb_3_148 dX7_type_17 ?_
    refine lv_bipush (v := 60) hx hb dX7_type_20 (by decide) ?_
    refine lv_icmp_ne (tgt := 28) hx hb dX7_type_22 (by decide) (fun c_4 => ?_) (fun c_4 => ?_)
    · rw [if_neg c_4] at hf
      refine lv_aload_n hx hb dX7_type_28 rfl (lv_at hl 0 rfl) ?_
      refine gf_Md_tape S hK hw tb_3_147 dX7_type_29 ?_
      refine lv_aload_n hx hb dX7_type_32 rfl (lv_at hl 0 rfl) ?_
      refine gf_Md_typed S hK hw (x := m) rfl tb_3_148 dX7_type_33 ?_
      refine lv_iload_n hx hb dX7_type_36 rfl (lv_at hl 1 rfl) ?_
      obtain ⟨g_5, hf⟩ := nn_ix_some hf
      refine as_Md_tape S hK hw (x := m) rfl g_5 (τ' := (sM σ (s_Md_tape m (upd (g_Md_tape m) (g_Md_typed m).toNatClampNeg a1)))) rfl dX7_type_37 (fun H locs hw => ?_)
      refine lv_aload_n hx hb dX7_type_38 rfl (lv_at hl 0 rfl) ?_
      refine lv_dup hx hb dX7_type_39 rfl ?_
      refine gf_Md_typed S hK hw (x := (s_Md_tape m (upd (g_Md_tape m) (g_Md_typed m).toNatClampNeg a1))) rfl tb_3_148 dX7_type_40 ?_
      refine lv_iconst (v := 1) hx hb dX7_type_43 (by decide) ?_
      refine lv_iadd hx hb dX7_type_44 ?_
      obtain ⟨m_6, h_7, hf⟩ := nn_bind hf
      replace h_7 := Option.some.inj h_7
      refine pf_Md_typed S hK hw (x := (s_Md_tape m (upd (g_Md_tape m) (g_Md_typed m).toNatClampNeg a1))) rfl (τ' := (sM σ m_6)) ((rfl : _ = (sM σ (s_Md_typed (s_Md_tape m (upd (g_Md_tape m) (g_Md_typed m).toNatClampNeg a1)) ((g_Md_typed (s_Md_tape m (upd (g_Md_tape m) (g_Md_typed m).toNatClampNeg a1))) + (1 : Int32))))).trans (by rw [h_7])) tb_3_148 dX7_type_45 (fun H locs hw => ?_)
      refine lv_aload_n hx hb dX7_type_48 rfl (lv_at hl 0 rfl) ?_
      refine gf_Md_typed S hK hw (x := m_6) rfl tb_3_148 dX7_type_49 ?_
      obtain rfl := Option.some.inj hf
      exact nn_iret S hr hlk hw rfl hσ dX7_type_52
    · rw [if_pos c_4] at hf
      refine lv_bipush (v := -3) hx hb dX7_type_25 (by decide) ?_
      obtain rfl := Option.some.inj hf
      exact nn_iret S hr hlk hw rfl hσ dX7_type_27
  · rw [if_pos c_3] at hf
    refine lv_iconst (v := -1) hx hb dX7_type_14 (by decide) ?_
    obtain rfl := Option.some.inj hf
    exact nn_iret S hr hlk hw rfl hσ dX7_type_15
set_option maxRecDepth 100000 in
set_option maxHeartbeats 4000000 in
theorem c_X7_here (l : Launch) (D : va_G) (cy : Nat → ClassId) (ad : Nat → Nat) (A : Nat → Prop) (σ : nG) (m : nMd) (hx_M : gM σ = m) (q : Int32 × nMd) (hf : f_X7_here m = some q) (σ' : nG) (hσ : (sM σ q.2) = σ') : nn_I l yX7_here (nn_ws yX7_here cX7_here 1 (some .int)) (nn_R 0) D cy ad A [.ref (ad (136))] σ q.1 σ' := by
  refine nn_enterI (plainFor_of_name (by decide +kernel)) (Nat.le_of_ble_eq_true rfl) (lv := [(0, .ref (ad (136)))]) rfl ?_
  intro pp ee ss mm bb me co S hr hlk hK hw ls hl
  have hx := S.1
  have hb := S.2.1
  have hw : nn_W D cy ad A ss.heap (sM σ m) ss.heap [] := nn_W.eq (by rw [← hx_M]; rfl) hw
  unfold f_X7_here at hf
  have L0 : ∀ (n : Nat) (m : nMd) (K : nMd → Option (Int32 × nMd)), (∀ (m : nMd), K m = some q → ∀ (H : Heap) (locs : List Loc) (ls : Array Slot), nn_W D cy ad A ss.heap (sM σ m) H locs → lv_has ls 1 [(0, .ref (ad (136)))] → W pp l ee (nn_R 0) ss mm ([.ref (ad (136))] : List Value).toArray bb me co H locs 0 0 (MQ bb (nn_qi D cy ad A q.1 σ') ([.ref (ad (136))] : List Value).toArray ss 0 0 A) (F0 mm 38 ls [])) → f_X7_here_L0 n m K = some q → ∀ (H : Heap) (locs : List Loc) (ls : Array Slot), nn_W D cy ad A ss.heap (sM σ m) H locs → lv_has ls 1 [(0, .ref (ad (136)))] → W pp l ee (nn_R 0) ss mm ([.ref (ad (136))] : List Value).toArray bb me co H locs 0 0 (MQ bb (nn_qi D cy ad A q.1 σ') ([.ref (ad (136))] : List Value).toArray ss 0 0 A) (F0 mm 0 ls []) := by
    intro n
    induction n with
    | zero => intro m K hKK hf; exact absurd hf (by simp [f_X7_here_L0])
    | succ n ih =>
      intro m K hKK hf H locs ls hw hl
      rw [f_X7_here_L0] at hf
      refine lv_aload_n hx hb dX7_here_0 rfl (lv_at hl 0 rfl) ?_
      refine gf_Md_place S hK hw (x := m) rfl tb_3_149 dX7_here_1 ?_
      refine lv_aload_n hx hb dX7_here_4 rfl (lv_at hl 0 rfl) ?_
      refine gf_Md_typed S hK hw (x := m) rfl tb_3_148 dX7_here_5 ?_
      refine lv_icmp_ge (tgt := 38) hx hb dX7_here_8 (by decide) (fun c_1 => ?_) (fun c_1 => ?_)
      · rw [if_pos c_1] at hf
        exact hKK m hf _ _ _ hw (lv_sub hl [0] rfl)
      · rw [if_neg c_1] at hf
        refine lv_aload_n hx hb dX7_here_11 rfl (lv_at hl 0 rfl) ?_
        refine gf_Md_tape S hK hw tb_3_147 dX7_here_12 ?_
        refine lv_aload_n hx hb dX7_here_15 rfl (lv_at hl 0 rfl) ?_
        refine gf_Md_place S hK hw (x := m) rfl tb_3_149 dX7_here_16 ?_
        obtain ⟨g_2, hf⟩ := nn_ix_some hf
        refine al_Md_tape S hK hw (x := m) rfl g_2 dX7_here_19 ?_
        refine lv_bipush (v := 32) hx hb dX7_here_20 (by decide) ?_
        refine lv_icmp_ne (tgt := 38) hx hb dX7_here_22 (by decide) (fun c_3 => ?_) (fun c_3 => ?_)
        · rw [if_neg c_3] at hf
          exact hKK m hf _ _ _ hw (lv_sub hl [0] rfl)
        · rw [if_pos c_3] at hf
          refine lv_aload_n hx hb dX7_here_25 rfl (lv_at hl 0 rfl) ?_
          refine lv_dup hx hb dX7_here_26 rfl ?_
          refine gf_Md_place S hK hw (x := m) rfl tb_3_149 dX7_here_27 ?_
          refine lv_iconst (v := 1) hx hb dX7_here_30 (by decide) ?_
          refine lv_iadd hx hb dX7_here_31 ?_
          refine pf_Md_place S hK hw (x := m) rfl (τ' := (sM σ (s_Md_place m ((g_Md_place m) + (1 : Int32))))) rfl tb_3_149 dX7_here_32 (fun H locs hw => ?_)
          refine lv_goto (tgt := 0) hx hb dX7_here_35 (by decide) ?_
          exact ih (s_Md_place m ((g_Md_place m) + (1 : Int32))) K hKK hf _ _ _ hw (lv_sub hl [0] rfl)
  refine L0 100000 m _ (fun m_4 hf H locs ls hw hl => ?_) hf _ _ _ hw (lv_sub hl [0] rfl)
  refine lv_aload_n hx hb dX7_here_38 rfl (lv_at hl 0 rfl) ?_
  refine gf_Md_place S hK hw (x := m_4) rfl tb_3_149 dX7_here_39 ?_
  refine lv_aload_n hx hb dX7_here_42 rfl (lv_at hl 0 rfl) ?_
  refine gf_Md_typed S hK hw (x := m_4) rfl tb_3_148 dX7_here_43 ?_
  refine lv_icmp_ge (tgt := 61) hx hb dX7_here_46 (by decide) (fun c_5 => ?_) (fun c_5 => ?_)
  · rw [if_pos c_5] at hf
    refine lv_iconst (v := 0) hx hb dX7_here_61 (by decide) ?_
    obtain rfl := Option.some.inj hf
    exact nn_iret S hr hlk hw rfl hσ dX7_here_62
  · rw [if_neg c_5] at hf
    refine lv_aload_n hx hb dX7_here_49 rfl (lv_at hl 0 rfl) ?_
    refine gf_Md_tape S hK hw tb_3_147 dX7_here_50 ?_
    refine lv_aload_n hx hb dX7_here_53 rfl (lv_at hl 0 rfl) ?_
    refine gf_Md_place S hK hw (x := m_4) rfl tb_3_149 dX7_here_54 ?_
    obtain ⟨g_6, hf⟩ := nn_ix_some hf
    refine al_Md_tape S hK hw (x := m_4) rfl g_6 dX7_here_57 ?_
    refine lv_goto (tgt := 62) hx hb dX7_here_58 (by decide) ?_
    obtain rfl := Option.some.inj hf
    exact nn_iret S hr hlk hw rfl hσ dX7_here_62
set_option maxRecDepth 100000 in
set_option maxHeartbeats 4000000 in
theorem c_X7_must (l : Launch) (D : va_G) (cy : Nat → ClassId) (ad : Nat → Nat) (A : Nat → Prop) (σ : nG) (m : nMd) (hx_M : gM σ = m) (a1 : Int32) (q : nMd) (hf : f_X7_must m a1 = some q) (σ' : nG) (hσ : (sM σ q) = σ') : nn_V l yX7_must (nn_ws yX7_must cX7_must 2 none) (nn_R 0) D cy ad A [.ref (ad (136)), .int (a1)] σ σ' := by
  refine nn_enterV (plainFor_of_name (by decide +kernel)) (Nat.le_of_ble_eq_true rfl) (lv := [(0, .ref (ad (136))), (1, .int (a1))]) rfl ?_
  intro pp ee ss mm bb me co S hr hlk hK hw ls hl
  have hx := S.1
  have hb := S.2.1
  have hw : nn_W D cy ad A ss.heap (sM σ m) ss.heap [] := nn_W.eq (by rw [← hx_M]; rfl) hw
  unfold f_X7_must at hf
  have J17 : ∀ (m : nMd) (s0 : Int32), f_X7_must_J17 m s0 = some q → ∀ (H : Heap) (locs : List Loc) (ls : Array Slot), nn_W D cy ad A ss.heap (sM σ m) H locs → lv_has ls 2 [(0, .ref (ad (136)))] → W pp l ee (nn_R 0) ss mm ([.ref (ad (136)), .int (a1)] : List Value).toArray bb me co H locs 0 0 (MQ bb (nn_qv D cy ad A σ') ([.ref (ad (136)), .int (a1)] : List Value).toArray ss 0 0 A) (F0 mm 17 ls [.int (s0), .ref (ad (136))]) := by
    intro m s0 hf H locs ls hw hl
    unfold f_X7_must_J17 at hf
    obtain ⟨g_2, hf⟩ := nn_bo_some hf
    refine pf_Md_isFault S hK hw (x := m) rfl g_2 (τ' := (sM σ (s_Md_isFault m s0))) rfl tb_3_150 dX7_must_17 (fun H locs hw => ?_)
    refine lv_aload_n hx hb dX7_must_20 rfl (lv_at hl 0 rfl) ?_
    refine lv_dup hx hb dX7_must_21 rfl ?_
    refine gf_Md_place S hK hw (x := (s_Md_isFault m s0)) rfl tb_3_149 dX7_must_22 ?_
    refine lv_aload_n hx hb dX7_must_25 rfl (lv_at hl 0 rfl) ?_
    refine gf_Md_isFault S hK hw (x := (s_Md_isFault m s0)) rfl tb_3_150 dX7_must_26 ?_
    refine lv_if_eq (tgt := 36) hx hb dX7_must_29 (by decide) (fun c_3 => ?_) (fun c_3 => ?_)
    · rw [if_pos c_3] at hf
      refine lv_iconst (v := 1) hx hb dX7_must_36 (by decide) ?_
      refine lv_iadd hx hb dX7_must_37 ?_
      obtain ⟨m_4, h_5, hf⟩ := nn_bind hf
      replace h_5 := Option.some.inj h_5
      refine pf_Md_place S hK hw (x := (s_Md_isFault m s0)) rfl (τ' := (sM σ m_4)) ((rfl : _ = (sM σ (s_Md_place (s_Md_isFault m s0) ((g_Md_place (s_Md_isFault m s0)) + (1 : Int32))))).trans (by rw [h_5])) tb_3_149 dX7_must_38 (fun H locs hw => ?_)
      obtain rfl := Option.some.inj hf
      exact nn_vret S hr hlk hw hσ dX7_must_41
    · rw [if_neg c_3] at hf
      refine lv_iconst (v := 0) hx hb dX7_must_32 (by decide) ?_
      refine lv_goto (tgt := 37) hx hb dX7_must_33 (by decide) ?_
      refine lv_iadd hx hb dX7_must_37 ?_
      obtain ⟨m_6, h_7, hf⟩ := nn_bind hf
      replace h_7 := Option.some.inj h_7
      refine pf_Md_place S hK hw (x := (s_Md_isFault m s0)) rfl (τ' := (sM σ m_6)) ((rfl : _ = (sM σ (s_Md_place (s_Md_isFault m s0) ((g_Md_place (s_Md_isFault m s0)) + (0 : Int32))))).trans (by rw [h_7])) tb_3_149 dX7_must_38 (fun H locs hw => ?_)
      obtain rfl := Option.some.inj hf
      exact nn_vret S hr hlk hw hσ dX7_must_41
  have J12 : ∀ (m : nMd), f_X7_must_J12 m = some q → ∀ (H : Heap) (locs : List Loc) (ls : Array Slot), nn_W D cy ad A ss.heap (sM σ m) H locs → lv_has ls 2 [(0, .ref (ad (136)))] → W pp l ee (nn_R 0) ss mm ([.ref (ad (136)), .int (a1)] : List Value).toArray bb me co H locs 0 0 (MQ bb (nn_qv D cy ad A σ') ([.ref (ad (136)), .int (a1)] : List Value).toArray ss 0 0 A) (F0 mm 12 ls [.ref (ad (136))]) := by
    intro m hf H locs ls hw hl
    unfold f_X7_must_J12 at hf
    refine lv_iconst (v := 1) hx hb dX7_must_12 (by decide) ?_
    refine lv_goto (tgt := 17) hx hb dX7_must_13 (by decide) ?_
    exact J17 m (1 : Int32) hf _ _ _ hw (lv_sub hl [0] rfl)
  refine lv_aload_n hx hb dX7_must_0 rfl (lv_at hl 0 rfl) ?_
  refine lv_aload_n hx hb dX7_must_1 rfl (lv_at hl 0 rfl) ?_
  refine gf_Md_isFault S hK hw (x := m) rfl tb_3_150 dX7_must_2 ?_
  refine lv_if_ne (tgt := 12) hx hb dX7_must_5 (by decide) (fun c_1 => ?_) (fun c_1 => ?_)
  · rw [if_neg c_1] at hf
    exact J12 m hf _ _ _ hw (lv_sub hl [0] rfl)
  · rw [if_pos c_1] at hf
    refine lv_iload_n hx hb dX7_must_8 rfl (lv_at hl 1 rfl) ?_
    refine lv_if_ne (tgt := 16) hx hb dX7_must_9 (by decide) (fun c_8 => ?_) (fun c_8 => ?_)
    · rw [if_neg c_8] at hf
      refine lv_iconst (v := 0) hx hb dX7_must_16 (by decide) ?_
      exact J17 m (0 : Int32) hf _ _ _ hw (lv_sub hl [0] rfl)
    · rw [if_pos c_8] at hf
      exact J12 m hf _ _ _ hw (lv_sub hl [0] rfl)
