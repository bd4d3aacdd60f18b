set_option maxRecDepth 100000 in
set_option maxHeartbeats 4000000 in
theorem c_X6_togetherWithoutDriftOf (l : Launch) (D : va_G) (cy : Nat → ClassId) (ad : Nat → Nat) (A : Nat → Prop) (σ : nG) (c : nCs) (hx_C : gC σ = c) (a1 : Int32) (q : Int32 × nCs) (hf : f_X6_togetherWithoutDriftOf c a1 = some q) (σ' : nG) (hσ : (sC σ q.2) = σ') : nn_I l yX6_togetherWithoutDriftOf (nn_ws yX6_togetherWithoutDriftOf cX6_togetherWithoutDriftOf 2 (some .int)) (nn_R 5) D cy ad A [.ref (ad (118)), .int (a1)] σ q.1 σ' := by
  refine nn_enterI (plainFor_of_name (by decide +kernel)) (Nat.le_of_ble_eq_true rfl) (lv := [(0, .ref (ad (118))), (1, .int (a1))]) rfl ?_
  intro pp ee ss mm bb me co S hr hlk hK hw ls hl
  have hx := S.1
  have hb := S.2.1
  have hw : nn_W D cy ad A ss.heap (sC σ c) ss.heap [] := nn_W.eq (by rw [← hx_C]; rfl) hw
  unfold f_X6_togetherWithoutDriftOf at hf
  refine lv_aload_n hx hb dX6_togetherWithoutDriftOf_0 rfl (lv_at hl 0 rfl) ?_
  refine gf_Nn_trial S hK hw tb_1_170 dX6_togetherWithoutDriftOf_1 ?_
  refine lv_aload_n hx hb dX6_togetherWithoutDriftOf_4 rfl (lv_at hl 0 rfl) ?_
  refine gf_Nn_now S hK hw tb_1_165 dX6_togetherWithoutDriftOf_5 ?_
  obtain ⟨q_1, h_2, hf⟩ := nn_bind hf
  refine nn_callvV S (As := [.ref (ad (0))]) (rest := []) (ce_V (k := 0) (v := 2) (by decide) (by decide)) (by omega) rfl rfl (c_X5_becomeLike l D cy ad A (sC σ c) 2 (by decide) 0 (by decide) (by omega) (cV c 2) rfl (cV c 0) rfl q_1 h_2 (sC σ (cVs c 2 q_1)) rfl) mv_X5_becomeLike tb_2_33 hK hw ⟨Nat.le_of_ble_eq_true rfl, Nat.le_of_ble_eq_true rfl⟩ ⟨Nat.zero_le _, Nat.zero_le _⟩ rfl hl.1 rfl (Nat.le_of_ble_eq_true rfl) dX6_togetherWithoutDriftOf_8 (fun H locs hw => ?_)
  refine lv_aload_n hx hb dX6_togetherWithoutDriftOf_11 rfl (lv_at hl 0 rfl) ?_
  refine gf_Nn_trial S hK hw tb_1_170 dX6_togetherWithoutDriftOf_12 ?_
  refine gf_Vl_drifts S hK hw (v := 2) (by decide) tb_1_34 dX6_togetherWithoutDriftOf_15 ?_
  refine lv_iload_n hx hb dX6_togetherWithoutDriftOf_18 rfl (lv_at hl 1 rfl) ?_
  refine lv_iconst (v := 0) hx hb dX6_togetherWithoutDriftOf_19 (by decide) ?_
  obtain ⟨g_3, hf⟩ := nn_ix_some hf
  obtain ⟨c_4, h_5, hf⟩ := nn_bind hf
  replace h_5 := Option.some.inj h_5
  refine as_Vl_drifts S hK hw (v := 2) (by decide) (x := (cV (cVs c 2 q_1) 2)) rfl g_3 (τ' := (sC σ c_4)) ((rfl : _ = (sC σ (cVs (cVs c 2 q_1) 2 (s_Vl_drifts (cV (cVs c 2 q_1) 2) (upd (g_Vl_drifts (cV (cVs c 2 q_1) 2)) a1.toNatClampNeg (0 : Int32)))))).trans (by rw [h_5])) dX6_togetherWithoutDriftOf_20 (fun H locs hw => ?_)
  refine lv_aload_n hx hb dX6_togetherWithoutDriftOf_21 rfl (lv_at hl 0 rfl) ?_
  refine gf_Nn_trial S hK hw tb_1_170 dX6_togetherWithoutDriftOf_22 ?_
  obtain ⟨q_6, h_7, hf⟩ := nn_bind hf
  refine nn_calliV S (As := []) (rest := []) (ce_V (k := 0) (v := 2) (by decide) (by decide)) (by omega) rfl rfl (c_X5_passDaysUntilTogether l D cy ad A (sC σ c_4) 2 (by decide) (cV c_4 2) rfl q_6 h_7 (sC σ (cVs c_4 2 q_6.2)) rfl) mv_X5_passDaysUntilTogether tb_2_185 hK hw ⟨Nat.le_of_ble_eq_true rfl, Nat.le_of_ble_eq_true rfl⟩ ⟨Nat.zero_le _, Nat.zero_le _⟩ rfl hl.1 rfl (Nat.le_of_ble_eq_true rfl) dX6_togetherWithoutDriftOf_25 (fun H locs hw => ?_)
  obtain rfl := Option.some.inj hf
  exact nn_iret S hr hlk hw rfl hσ dX6_togetherWithoutDriftOf_28
set_option maxRecDepth 100000 in
set_option maxHeartbeats 4000000 in
theorem c_X6_worst (l : Launch) (D : va_G) (cy : Nat → ClassId) (ad : Nat → Nat) (A : Nat → Prop) (σ : nG) (c : nCs) (hx_C : gC σ = c) (a1 : Int32) (q : Int32 × nCs) (hf : f_X6_worst c a1 = some q) (σ' : nG) (hσ : (sC σ q.2) = σ') : nn_I l yX6_worst (nn_ws yX6_worst cX6_worst 6 (some .int)) (nn_R 6) D cy ad A [.ref (ad (118)), .int (a1)] σ q.1 σ' := by
  refine nn_enterI (plainFor_of_name (by decide +kernel)) (Nat.le_of_ble_eq_true rfl) (lv := [(0, .ref (ad (118))), (1, .int (a1))]) rfl ?_
  intro pp ee ss mm bb me co S hr hlk hK hw ls hl
  have hx := S.1
  have hb := S.2.1
  have hw : nn_W D cy ad A ss.heap (sC σ c) ss.heap [] := nn_W.eq (by rw [← hx_C]; rfl) hw
  unfold f_X6_worst at hf
  have L20 : ∀ (n : Nat) (c : nCs) (u1 : Int32) (u2 : Int32) (u3 : Int32) (u4 : Int32) (K : nCs → Int32 → Int32 → Int32 → Int32 → Option (Int32 × nCs)), (∀ (c : nCs) (u1 : Int32) (u2 : Int32) (u3 : Int32) (u4 : Int32), K c u1 u2 u3 u4 = some q → ∀ (H : Heap) (locs : List Loc) (ls : Array Slot), nn_W D cy ad A ss.heap (sC σ c) H locs → lv_has ls 6 [(0, .ref (ad (118))), (1, .int (u1)), (2, .int (u2)), (3, .int (u3)), (4, .int (u4))] → W pp l ee (nn_R 6) ss mm ([.ref (ad (118)), .int (a1)] : List Value).toArray bb me co H locs 0 0 (MQ bb (nn_qi D cy ad A q.1 σ') ([.ref (ad (118)), .int (a1)] : List Value).toArray ss 0 0 A) (F0 mm 58 ls [])) → f_X6_worst_L20 n c u1 u2 u3 u4 K = some q → ∀ (H : Heap) (locs : List Loc) (ls : Array Slot), nn_W D cy ad A ss.heap (sC σ c) H locs → lv_has ls 6 [(0, .ref (ad (118))), (1, .int (u1)), (2, .int (u2)), (3, .int (u3)), (4, .int (u4))] → W pp l ee (nn_R 6) ss mm ([.ref (ad (118)), .int (a1)] : List Value).toArray bb me co H locs 0 0 (MQ bb (nn_qi D cy ad A q.1 σ') ([.ref (ad (118)), .int (a1)] : List Value).toArray ss 0 0 A) (F0 mm 20 ls []) := by
    intro n
    induction n with
    | zero => intro c u1 u2 u3 u4 K hKK hf; exact absurd hf (by simp [f_X6_worst_L20])
    | succ n ih =>
      intro c u1 u2 u3 u4 K hKK hf H locs ls hw hl
      rw [f_X6_worst_L20] at hf
      refine lv_iload hx hb dX6_worst_20 (lv_at hl 4 rfl) ?_
      refine lv_aload_n hx hb dX6_worst_22 rfl (lv_at hl 0 rfl) ?_
      refine gf_Nn_now S hK hw tb_1_165 dX6_worst_23 ?_
      refine gf_Vl_villages S hK hw (v := 0) (by decide) (x := (cV c 0)) rfl tb_1_40 dX6_worst_26 ?_
      refine lv_icmp_ge (tgt := 58) hx hb dX6_worst_29 (by decide) (fun c_4 => ?_) (fun c_4 => ?_)
      · rw [if_pos c_4] at hf
        exact hKK c u1 u2 u3 u4 hf _ _ _ hw (lv_sub hl [0, 1, 2, 3, 4] rfl)
      · rw [if_neg c_4] at hf
        refine lv_aload_n hx hb dX6_worst_32 rfl (lv_at hl 0 rfl) ?_
        refine lv_iload hx hb dX6_worst_33 (lv_at hl 4 rfl) ?_
        obtain ⟨q_5, h_6, hf⟩ := nn_bind hf
        refine nn_calliV S (As := [.int (u4)]) (rest := []) (ce_O (k := 0) (by decide)) (by decide) rfl rfl (c_X6_togetherWithoutDriftOf l D cy ad A (sC σ c) c rfl u4 q_5 h_6 (sC σ q_5.2) rfl) mv_X6_togetherWithoutDriftOf tb_3_37 hK hw ⟨Nat.le_of_ble_eq_true rfl, Nat.le_of_ble_eq_true rfl⟩ ⟨Nat.zero_le _, Nat.zero_le _⟩ rfl hl.1 rfl (Nat.le_of_ble_eq_true rfl) dX6_worst_35 (fun H locs hw => ?_)
        refine lv_istore (lv' := [(5, .int (q_5.1)), (0, .ref (ad (118))), (1, .int (u1)), (2, .int (u2)), (3, .int (u3)), (4, .int (u4))]) hx hb dX6_worst_38 hl (by decide) rfl (fun ls hl => ?_)
        refine lv_iload hx hb dX6_worst_40 (lv_at hl 0 rfl) ?_
        refine lv_iload_n hx hb dX6_worst_42 rfl (lv_at hl 4 rfl) ?_
        refine lv_icmp_le (tgt := 52) hx hb dX6_worst_43 (by decide) (fun c_7 => ?_) (fun c_7 => ?_)
        · rw [if_pos c_7] at hf
          refine lv_iinc (v := u4 + (1 : Int32)) (lv' := [(4, .int (u4 + (1 : Int32))), (5, .int (q_5.1)), (0, .ref (ad (118))), (1, .int (u1)), (2, .int (u2)), (3, .int (u3))]) hx hb dX6_worst_52 hl (k := 5) rfl (congrArg (fun z => u4 + z) (by decide)) (by decide) rfl (fun ls hl => ?_)
          refine lv_goto (tgt := 20) hx hb dX6_worst_55 (by decide) ?_
          exact ih q_5.2 u1 u2 u3 (u4 + (1 : Int32)) K hKK hf _ _ _ hw (lv_sub hl [2, 3, 4, 5, 0] rfl)
        · rw [if_neg c_7] at hf
          refine lv_iload hx hb dX6_worst_46 (lv_at hl 0 rfl) ?_
          refine lv_istore_n (lv' := [(3, .int (q_5.1)), (5, .int (q_5.1)), (0, .ref (ad (118))), (1, .int (u1)), (2, .int (u2)), (4, .int (u4))]) hx hb dX6_worst_48 rfl hl (by decide) rfl (fun ls hl => ?_)
          refine lv_iload hx hb dX6_worst_49 (lv_at hl 5 rfl) ?_
          refine lv_istore_n (lv' := [(2, .int (u4)), (3, .int (q_5.1)), (5, .int (q_5.1)), (0, .ref (ad (118))), (1, .int (u1)), (4, .int (u4))]) hx hb dX6_worst_51 rfl hl (by decide) rfl (fun ls hl => ?_)
          refine lv_iinc (v := u4 + (1 : Int32)) (lv' := [(4, .int (u4 + (1 : Int32))), (2, .int (u4)), (3, .int (q_5.1)), (5, .int (q_5.1)), (0, .ref (ad (118))), (1, .int (u1))]) hx hb dX6_worst_52 hl (k := 5) rfl (congrArg (fun z => u4 + z) (by decide)) (by decide) rfl (fun ls hl => ?_)
          refine lv_goto (tgt := 20) hx hb dX6_worst_55 (by decide) ?_
          exact ih q_5.2 u1 u4 q_5.1 (u4 + (1 : Int32)) K hKK hf _ _ _ hw (lv_sub hl [4, 5, 1, 2, 0] rfl)
  refine lv_iload_n hx hb dX6_worst_0 rfl (lv_at hl 1 rfl) ?_
  refine lv_iconst (v := 0) hx hb dX6_worst_1 (by decide) ?_
  refine lv_iconst (v := 1) hx hb dX6_worst_2 (by decide) ?_
  obtain ⟨q_1, h_2, hf⟩ := nn_bind hf
  refine nn_calliS S (As := [.int (a1), .int ((0 : Int32)), .int ((1 : Int32))]) (rest := []) (c_X6_within l D cy ad A (sC σ c) a1 (0 : Int32) (1 : Int32) q_1 h_2) mv_X6_within tb_1_200 hK hw ⟨Nat.le_of_ble_eq_true rfl, Nat.le_of_ble_eq_true rfl⟩ ⟨Nat.zero_le _, Nat.zero_le _⟩ rfl hl.1 rfl (Nat.le_of_ble_eq_true rfl) dX6_worst_3 (fun H locs hw => ?_)
  refine lv_if_ne (tgt := 11) hx hb dX6_worst_6 (by decide) (fun c_3 => ?_) (fun c_3 => ?_)
  · rw [if_neg c_3] at hf
    refine lv_bipush (v := -4) hx hb dX6_worst_11 (by decide) ?_
    refine lv_istore_n (lv' := [(2, .int ((-4 : Int32))), (0, .ref (ad (118))), (1, .int (a1))]) hx hb dX6_worst_13 rfl hl (by decide) rfl (fun ls hl => ?_)
    refine lv_bipush (v := -4) hx hb dX6_worst_14 (by decide) ?_
    refine lv_istore_n (lv' := [(3, .int ((-4 : Int32))), (2, .int ((-4 : Int32))), (0, .ref (ad (118))), (1, .int (a1))]) hx hb dX6_worst_16 rfl hl (by decide) rfl (fun ls hl => ?_)
    refine lv_iconst (v := 0) hx hb dX6_worst_17 (by decide) ?_
    refine lv_istore (lv' := [(4, .int ((0 : Int32))), (3, .int ((-4 : Int32))), (2, .int ((-4 : Int32))), (0, .ref (ad (118))), (1, .int (a1))]) hx hb dX6_worst_18 hl (by decide) rfl (fun ls hl => ?_)
    refine L20 100000 c a1 (-4 : Int32) (-4 : Int32) (0 : Int32) _ (fun c_12 b1_8 b2_9 b3_10 b4_11 hf H locs ls hw hl => ?_) hf _ _ _ hw (lv_sub hl [3, 4, 2, 1, 0] rfl)
    refine lv_iload_n hx hb dX6_worst_58 rfl (lv_at hl 1 rfl) ?_
    refine lv_if_ne (tgt := 64) hx hb dX6_worst_59 (by decide) (fun c_13 => ?_) (fun c_13 => ?_)
    · rw [if_neg c_13] at hf
      refine lv_iload_n hx hb dX6_worst_64 rfl (lv_at hl 3 rfl) ?_
      refine lv_bipush (v := 61) hx hb dX6_worst_65 (by decide) ?_
      refine lv_icmp_ne (tgt := 75) hx hb dX6_worst_67 (by decide) (fun c_14 => ?_) (fun c_14 => ?_)
      · rw [if_neg c_14] at hf
        refine lv_iload_n hx hb dX6_worst_75 rfl (lv_at hl 3 rfl) ?_
        obtain rfl := Option.some.inj hf
        exact nn_iret S hr hlk hw rfl hσ dX6_worst_76
      · rw [if_pos c_14] at hf
        refine lv_bipush (v := -4) hx hb dX6_worst_70 (by decide) ?_
        refine lv_goto (tgt := 76) hx hb dX6_worst_72 (by decide) ?_
        obtain rfl := Option.some.inj hf
        exact nn_iret S hr hlk hw rfl hσ dX6_worst_76
    · rw [if_pos c_13] at hf
      refine lv_iload_n hx hb dX6_worst_62 rfl (lv_at hl 2 rfl) ?_
      obtain rfl := Option.some.inj hf
      exact nn_iret S hr hlk hw rfl hσ dX6_worst_63
  · rw [if_pos c_3] at hf
    refine lv_iconst (v := -1) hx hb dX6_worst_9 (by decide) ?_
    obtain rfl := Option.some.inj hf
    exact nn_iret S hr hlk hw rfl hσ dX6_worst_10
set_option maxRecDepth 100000 in
set_option maxHeartbeats 4000000 in
theorem c_X6_fogWaysApart (l : Launch) (D : va_G) (cy : Nat → ClassId) (ad : Nat → Nat) (A : Nat → Prop) (σ : nG) (c : nCs) (hx_C : gC σ = c) (a1 : Int32) (q : Int32) (hf : f_X6_fogWaysApart c a1 = some q) : nn_I l yX6_fogWaysApart (nn_ws yX6_fogWaysApart cX6_fogWaysApart 7 (some .int)) (nn_R 3) D cy ad A [.ref (ad (118)), .int (a1)] σ q σ := by
  refine nn_enterI (plainFor_of_name (by decide +kernel)) (Nat.le_of_ble_eq_true rfl) (lv := [(0, .ref (ad (118))), (1, .int (a1))]) rfl ?_
  intro pp ee ss mm bb me co S hr hlk hK hw ls hl
  have hx := S.1
  have hb := S.2.1
  unfold f_X6_fogWaysApart at hf
  have L39 : ∀ (n : Nat) (u1 : Int32) (u2 : Int32) (u3 : Int32) (u4 : Int32) (u5 : Int32) (u6 : Int32) (K : Int32 → Int32 → Int32 → Int32 → Int32 → Int32 → Option (Int32)), (∀ (u1 : Int32) (u2 : Int32) (u3 : Int32) (u4 : Int32) (u5 : Int32) (u6 : Int32), K u1 u2 u3 u4 u5 u6 = some q → ∀ (H : Heap) (locs : List Loc) (ls : Array Slot), nn_W D cy ad A ss.heap σ H locs → lv_has ls 7 [(0, .ref (ad (118))), (1, .int (u1)), (2, .int (u2)), (3, .int (u3)), (4, .int (u4)), (5, .int (u5)), (6, .int (u6))] → W pp l ee (nn_R 3) ss mm ([.ref (ad (118)), .int (a1)] : List Value).toArray bb me co H locs 0 0 (MQ bb (nn_qi D cy ad A q σ) ([.ref (ad (118)), .int (a1)] : List Value).toArray ss 0 0 A) (F0 mm 80 ls [])) → f_X6_fogWaysApart_L39 c n u1 u2 u3 u4 u5 u6 K = some q → ∀ (H : Heap) (locs : List Loc) (ls : Array Slot), nn_W D cy ad A ss.heap σ H locs → lv_has ls 7 [(0, .ref (ad (118))), (1, .int (u1)), (2, .int (u2)), (3, .int (u3)), (4, .int (u4)), (5, .int (u5)), (6, .int (u6))] → W pp l ee (nn_R 3) ss mm ([.ref (ad (118)), .int (a1)] : List Value).toArray bb me co H locs 0 0 (MQ bb (nn_qi D cy ad A q σ) ([.ref (ad (118)), .int (a1)] : List Value).toArray ss 0 0 A) (F0 mm 39 ls []) := by
    intro n
    induction n with
    | zero => intro u1 u2 u3 u4 u5 u6 K hKK hf; exact absurd hf (by simp [f_X6_fogWaysApart_L39])
    | succ n ih =>
      intro u1 u2 u3 u4 u5 u6 K hKK hf H locs ls hw hl
      rw [f_X6_fogWaysApart_L39] at hf
      refine lv_iload hx hb dX6_fogWaysApart_39 (lv_at hl 6 rfl) ?_
      refine lv_aload_n hx hb dX6_fogWaysApart_41 rfl (lv_at hl 0 rfl) ?_
      refine gf_Nn_now S hK hw tb_1_165 dX6_fogWaysApart_42 ?_
      refine gf_Vl_villages S hK hw (v := 0) (by decide) (x := (cV c 0)) (by rw [← hx_C]; rfl) tb_1_40 dX6_fogWaysApart_45 ?_
      refine lv_icmp_ge (tgt := 80) hx hb dX6_fogWaysApart_48 (by decide) (fun c_5 => ?_) (fun c_5 => ?_)
      · rw [if_pos c_5] at hf
        exact hKK u1 u2 u3 u4 u5 u6 hf _ _ _ hw (lv_sub hl [0, 1, 2, 3, 4, 5, 6] rfl)
      · rw [if_neg c_5] at hf
        refine lv_iload hx hb dX6_fogWaysApart_51 (lv_at hl 5 rfl) ?_
        refine lv_iload hx hb dX6_fogWaysApart_53 (lv_at hl 4 rfl) ?_
        refine lv_iload hx hb dX6_fogWaysApart_55 (lv_at hl 6 rfl) ?_
        obtain ⟨q_6, h_7, hf⟩ := nn_bind hf
        refine nn_calliS S (As := [.int (u4), .int (u6)]) (rest := [.int (u5)]) (c_X6_isIn l D cy ad A σ u4 u6 q_6 h_7) mv_X6_isIn tb_3_54 hK hw ⟨Nat.le_of_ble_eq_true rfl, Nat.le_of_ble_eq_true rfl⟩ ⟨Nat.zero_le _, Nat.zero_le _⟩ rfl hl.1 rfl (Nat.le_of_ble_eq_true rfl) dX6_fogWaysApart_57 (fun H locs hw => ?_)
        refine lv_if_eq (tgt := 67) hx hb dX6_fogWaysApart_60 (by decide) (fun c_8 => ?_) (fun c_8 => ?_)
        · rw [if_pos c_8] at hf
          refine lv_bipush (v := 10) hx hb dX6_fogWaysApart_67 (by decide) ?_
          refine lv_iload_n hx hb dX6_fogWaysApart_69 rfl (lv_at hl 1 rfl) ?_
          refine lv_isub hx hb dX6_fogWaysApart_70 ?_
          refine lv_imul hx hb dX6_fogWaysApart_71 ?_
          refine lv_istore (lv' := [(5, .int (u5 * ((10 : Int32) - u1))), (0, .ref (ad (118))), (1, .int (u1)), (2, .int (u2)), (3, .int (u3)), (4, .int (u4)), (6, .int (u6))]) hx hb dX6_fogWaysApart_72 hl (by decide) rfl (fun ls hl => ?_)
          refine lv_iinc (v := u6 + (1 : Int32)) (lv' := [(6, .int (u6 + (1 : Int32))), (5, .int (u5 * ((10 : Int32) - u1))), (0, .ref (ad (118))), (1, .int (u1)), (2, .int (u2)), (3, .int (u3)), (4, .int (u4))]) hx hb dX6_fogWaysApart_74 hl (k := 6) rfl (congrArg (fun z => u6 + z) (by decide)) (by decide) rfl (fun ls hl => ?_)
          refine lv_goto (tgt := 39) hx hb dX6_fogWaysApart_77 (by decide) ?_
          exact ih u1 u2 u3 u4 (u5 * ((10 : Int32) - u1)) (u6 + (1 : Int32)) K hKK hf _ _ _ hw (lv_sub hl [2, 3, 4, 5, 6, 1, 0] rfl)
        · rw [if_neg c_8] at hf
          refine lv_iload_n hx hb dX6_fogWaysApart_63 rfl (lv_at hl 1 rfl) ?_
          refine lv_goto (tgt := 71) hx hb dX6_fogWaysApart_64 (by decide) ?_
          refine lv_imul hx hb dX6_fogWaysApart_71 ?_
          refine lv_istore (lv' := [(5, .int (u5 * u1)), (0, .ref (ad (118))), (1, .int (u1)), (2, .int (u2)), (3, .int (u3)), (4, .int (u4)), (6, .int (u6))]) hx hb dX6_fogWaysApart_72 hl (by decide) rfl (fun ls hl => ?_)
          refine lv_iinc (v := u6 + (1 : Int32)) (lv' := [(6, .int (u6 + (1 : Int32))), (5, .int (u5 * u1)), (0, .ref (ad (118))), (1, .int (u1)), (2, .int (u2)), (3, .int (u3)), (4, .int (u4))]) hx hb dX6_fogWaysApart_74 hl (k := 6) rfl (congrArg (fun z => u6 + z) (by decide)) (by decide) rfl (fun ls hl => ?_)
          refine lv_goto (tgt := 39) hx hb dX6_fogWaysApart_77 (by decide) ?_
          exact ih u1 u2 u3 u4 (u5 * u1) (u6 + (1 : Int32)) K hKK hf _ _ _ hw (lv_sub hl [2, 3, 4, 5, 6, 1, 0] rfl)
  have L15 : ∀ (n : Nat) (u1 : Int32) (u2 : Int32) (u3 : Int32) (u4 : Int32) (K : Int32 → Int32 → Int32 → Int32 → Option (Int32)), (∀ (u1 : Int32) (u2 : Int32) (u3 : Int32) (u4 : Int32), K u1 u2 u3 u4 = some q → ∀ (H : Heap) (locs : List Loc) (ls : Array Slot), nn_W D cy ad A ss.heap σ H locs → lv_has ls 7 [(0, .ref (ad (118))), (1, .int (u1)), (2, .int (u2)), (3, .int (u3)), (4, .int (u4))] → W pp l ee (nn_R 3) ss mm ([.ref (ad (118)), .int (a1)] : List Value).toArray bb me co H locs 0 0 (MQ bb (nn_qi D cy ad A q σ) ([.ref (ad (118)), .int (a1)] : List Value).toArray ss 0 0 A) (F0 mm 91 ls [])) → f_X6_fogWaysApart_L15 c n u1 u2 u3 u4 K = some q → ∀ (H : Heap) (locs : List Loc) (ls : Array Slot), nn_W D cy ad A ss.heap σ H locs → lv_has ls 7 [(0, .ref (ad (118))), (1, .int (u1)), (2, .int (u2)), (3, .int (u3)), (4, .int (u4))] → W pp l ee (nn_R 3) ss mm ([.ref (ad (118)), .int (a1)] : List Value).toArray bb me co H locs 0 0 (MQ bb (nn_qi D cy ad A q σ) ([.ref (ad (118)), .int (a1)] : List Value).toArray ss 0 0 A) (F0 mm 15 ls []) := by
    intro n
    induction n with
    | zero => intro u1 u2 u3 u4 K hKK hf; exact absurd hf (by simp [f_X6_fogWaysApart_L15])
    | succ n ih =>
      intro u1 u2 u3 u4 K hKK hf H locs ls hw hl
      rw [f_X6_fogWaysApart_L15] at hf
      refine lv_iload hx hb dX6_fogWaysApart_15 (lv_at hl 4 rfl) ?_
      refine lv_iload_n hx hb dX6_fogWaysApart_17 rfl (lv_at hl 3 rfl) ?_
      refine lv_icmp_ge (tgt := 91) hx hb dX6_fogWaysApart_18 (by decide) (fun c_1 => ?_) (fun c_1 => ?_)
      · rw [if_pos c_1] at hf
        exact hKK u1 u2 u3 u4 hf _ _ _ hw (lv_sub hl [0, 1, 2, 3, 4] rfl)
      · rw [if_neg c_1] at hf
        refine lv_aload_n hx hb dX6_fogWaysApart_21 rfl (lv_at hl 0 rfl) ?_
        refine gf_Nn_now S hK hw tb_1_165 dX6_fogWaysApart_22 ?_
        refine lv_iload hx hb dX6_fogWaysApart_25 (lv_at hl 4 rfl) ?_
        obtain ⟨q_2, h_3, hf⟩ := nn_bind hf
        refine nn_calliV S (As := [.int (u4)]) (rest := []) (ce_V (k := 0) (v := 0) (by decide) (by decide)) (by omega) rfl rfl (c_X5_isApartWith l D cy ad A σ 0 (by decide) (cV c 0) (by rw [← hx_C]; rfl) u4 q_2 h_3) mv_X5_isApartWith tb_3_49 hK hw ⟨Nat.le_of_ble_eq_true rfl, Nat.le_of_ble_eq_true rfl⟩ ⟨Nat.zero_le _, Nat.zero_le _⟩ rfl hl.1 rfl (Nat.le_of_ble_eq_true rfl) dX6_fogWaysApart_27 (fun H locs hw => ?_)
        refine lv_if_eq (tgt := 85) hx hb dX6_fogWaysApart_30 (by decide) (fun c_4 => ?_) (fun c_4 => ?_)
        · rw [if_pos c_4] at hf
          refine lv_iinc (v := u4 + (1 : Int32)) (lv' := [(4, .int (u4 + (1 : Int32))), (0, .ref (ad (118))), (1, .int (u1)), (2, .int (u2)), (3, .int (u3))]) hx hb dX6_fogWaysApart_85 hl (k := 4) rfl (congrArg (fun z => u4 + z) (by decide)) (by decide) rfl (fun ls hl => ?_)
          refine lv_goto (tgt := 15) hx hb dX6_fogWaysApart_88 (by decide) ?_
          exact ih u1 u2 u3 (u4 + (1 : Int32)) K hKK hf _ _ _ hw (lv_sub hl [1, 2, 3, 4, 0] rfl)
        · rw [if_neg c_4] at hf
          refine lv_iconst (v := 1) hx hb dX6_fogWaysApart_33 (by decide) ?_
          refine lv_istore (lv' := [(5, .int ((1 : Int32))), (0, .ref (ad (118))), (1, .int (u1)), (2, .int (u2)), (3, .int (u3)), (4, .int (u4))]) hx hb dX6_fogWaysApart_34 hl (by decide) rfl (fun ls hl => ?_)
          refine lv_iconst (v := 0) hx hb dX6_fogWaysApart_36 (by decide) ?_
          refine lv_istore (lv' := [(6, .int ((0 : Int32))), (5, .int ((1 : Int32))), (0, .ref (ad (118))), (1, .int (u1)), (2, .int (u2)), (3, .int (u3)), (4, .int (u4))]) hx hb dX6_fogWaysApart_37 hl (by decide) rfl (fun ls hl => ?_)
          refine L39 100000 u1 u2 u3 u4 (1 : Int32) (0 : Int32) _ (fun b1_9 b2_10 b3_11 b4_12 b5_13 b6_14 hf H locs ls hw hl => ?_) hf _ _ _ hw (lv_sub hl [2, 3, 4, 5, 6, 1, 0] rfl)
          refine lv_iload_n hx hb dX6_fogWaysApart_80 rfl (lv_at hl 2 rfl) ?_
          refine lv_iload hx hb dX6_fogWaysApart_81 (lv_at hl 5 rfl) ?_
          refine lv_iadd hx hb dX6_fogWaysApart_83 ?_
          refine lv_istore_n (lv' := [(2, .int (b2_10 + b5_13)), (0, .ref (ad (118))), (1, .int (b1_9)), (3, .int (b3_11)), (4, .int (b4_12)), (5, .int (b5_13)), (6, .int (b6_14))]) hx hb dX6_fogWaysApart_84 rfl hl (by decide) rfl (fun ls hl => ?_)
          refine lv_iinc (v := b4_12 + (1 : Int32)) (lv' := [(4, .int (b4_12 + (1 : Int32))), (2, .int (b2_10 + b5_13)), (0, .ref (ad (118))), (1, .int (b1_9)), (3, .int (b3_11)), (5, .int (b5_13)), (6, .int (b6_14))]) hx hb dX6_fogWaysApart_85 hl (k := 4) rfl (congrArg (fun z => b4_12 + z) (by decide)) (by decide) rfl (fun ls hl => ?_)
          refine lv_goto (tgt := 15) hx hb dX6_fogWaysApart_88 (by decide) ?_
          exact ih b1_9 (b2_10 + b5_13) b3_11 (b4_12 + (1 : Int32)) K hKK hf _ _ _ hw (lv_sub hl [2, 3, 1, 4, 0] rfl)
  refine lv_iconst (v := 0) hx hb dX6_fogWaysApart_0 (by decide) ?_
  refine lv_istore_n (lv' := [(2, .int ((0 : Int32))), (0, .ref (ad (118))), (1, .int (a1))]) hx hb dX6_fogWaysApart_1 rfl hl (by decide) rfl (fun ls hl => ?_)
  refine lv_iconst (v := 1) hx hb dX6_fogWaysApart_2 (by decide) ?_
  refine lv_aload_n hx hb dX6_fogWaysApart_3 rfl (lv_at hl 1 rfl) ?_
  refine gf_Nn_now S hK hw tb_1_165 dX6_fogWaysApart_4 ?_
  refine gf_Vl_villages S hK hw (v := 0) (by decide) (x := (cV c 0)) (by rw [← hx_C]; rfl) tb_1_40 dX6_fogWaysApart_7 ?_
  refine lv_ishl hx hb dX6_fogWaysApart_10 ?_
  refine lv_istore_n (lv' := [(3, .int ((1 : Int32) <<< ((g_Vl_villages (cV c 0)) &&& 31))), (2, .int ((0 : Int32))), (0, .ref (ad (118))), (1, .int (a1))]) hx hb dX6_fogWaysApart_11 rfl hl (by decide) rfl (fun ls hl => ?_)
  refine lv_iconst (v := 0) hx hb dX6_fogWaysApart_12 (by decide) ?_
  refine lv_istore (lv' := [(4, .int ((0 : Int32))), (3, .int ((1 : Int32) <<< ((g_Vl_villages (cV c 0)) &&& 31))), (2, .int ((0 : Int32))), (0, .ref (ad (118))), (1, .int (a1))]) hx hb dX6_fogWaysApart_13 hl (by decide) rfl (fun ls hl => ?_)
  refine L15 100000 a1 (0 : Int32) ((1 : Int32) <<< ((g_Vl_villages (cV c 0)) &&& 31)) (0 : Int32) _ (fun b1_15 b2_16 b3_17 b4_18 hf H locs ls hw hl => ?_) hf _ _ _ hw (lv_sub hl [3, 4, 2, 1, 0] rfl)
  refine lv_iload_n hx hb dX6_fogWaysApart_91 rfl (lv_at hl 2 rfl) ?_
  obtain rfl := Option.some.inj hf
  exact nn_iret S hr hlk hw rfl rfl dX6_fogWaysApart_92
set_option maxRecDepth 100000 in
set_option maxHeartbeats 4000000 in
theorem c_X6_fog (l : Launch) (D : va_G) (cy : Nat → ClassId) (ad : Nat → Nat) (A : Nat → Prop) (σ : nG) (c : nCs) (hx_C : gC σ = c) (a1 : Int32) (a2 : Int32) (q : Int32) (hf : f_X6_fog c a1 a2 = some q) : nn_I l yX6_fog (nn_ws yX6_fog cX6_fog 6 (some .int)) (nn_R 4) D cy ad A [.ref (ad (118)), .int (a1), .int (a2)] σ q σ := by
  refine nn_enterI (plainFor_of_name (by decide +kernel)) (Nat.le_of_ble_eq_true rfl) (lv := [(0, .ref (ad (118))), (1, .int (a1)), (2, .int (a2))]) rfl ?_
  intro pp ee ss mm bb me co S hr hlk hK hw ls hl
  have hx := S.1
  have hb := S.2.1
  unfold f_X6_fog at hf
  have L33 : ∀ (n : Nat) (u2 : Int32) (u3 : Int32) (u4 : Int32) (u5 : Int32) (K : Int32 → Int32 → Int32 → Int32 → Option (Int32)), (∀ (u2 : Int32) (u3 : Int32) (u4 : Int32) (u5 : Int32), K u2 u3 u4 u5 = some q → ∀ (H : Heap) (locs : List Loc) (ls : Array Slot), nn_W D cy ad A ss.heap σ H locs → lv_has ls 6 [(0, .ref (ad (118))), (2, .int (u2)), (3, .int (u3)), (4, .int (u4)), (5, .int (u5))] → W pp l ee (nn_R 4) ss mm ([.ref (ad (118)), .int (a1), .int (a2)] : List Value).toArray bb me co H locs 0 0 (MQ bb (nn_qi D cy ad A q σ) ([.ref (ad (118)), .int (a1), .int (a2)] : List Value).toArray ss 0 0 A) (F0 mm 58 ls [])) → f_X6_fog_L33 c n u2 u3 u4 u5 K = some q → ∀ (H : Heap) (locs : List Loc) (ls : Array Slot), nn_W D cy ad A ss.heap σ H locs → lv_has ls 6 [(0, .ref (ad (118))), (2, .int (u2)), (3, .int (u3)), (4, .int (u4)), (5, .int (u5))] → W pp l ee (nn_R 4) ss mm ([.ref (ad (118)), .int (a1), .int (a2)] : List Value).toArray bb me co H locs 0 0 (MQ bb (nn_qi D cy ad A q σ) ([.ref (ad (118)), .int (a1), .int (a2)] : List Value).toArray ss 0 0 A) (F0 mm 33 ls []) := by
    intro n
    induction n with
    | zero => intro u2 u3 u4 u5 K hKK hf; exact absurd hf (by simp [f_X6_fog_L33])
    | succ n ih =>
      intro u2 u3 u4 u5 K hKK hf H locs ls hw hl
      rw [f_X6_fog_L33] at hf
      refine lv_iload hx hb dX6_fog_33 (lv_at hl 4 rfl) ?_
      refine lv_aload_n hx hb dX6_fog_35 rfl (lv_at hl 0 rfl) ?_
      refine gf_Nn_now S hK hw tb_1_165 dX6_fog_36 ?_
      refine gf_Vl_villages S hK hw (v := 0) (by decide) (x := (cV c 0)) (by rw [← hx_C]; rfl) tb_1_40 dX6_fog_39 ?_
      refine lv_icmp_ge (tgt := 58) hx hb dX6_fog_42 (by decide) (fun c_9 => ?_) (fun c_9 => ?_)
      · rw [if_pos c_9] at hf
        exact hKK u2 u3 u4 u5 hf _ _ _ hw (lv_sub hl [0, 1, 2, 3, 4] rfl)
      · rw [if_neg c_9] at hf
        refine lv_iload hx hb dX6_fog_45 (lv_at hl 3 rfl) ?_
        refine lv_bipush (v := 10) hx hb dX6_fog_47 (by decide) ?_
        refine lv_imul hx hb dX6_fog_49 ?_
        refine lv_istore (lv' := [(4, .int (u4 * (10 : Int32))), (0, .ref (ad (118))), (2, .int (u2)), (3, .int (u3)), (5, .int (u5))]) hx hb dX6_fog_50 hl (by decide) rfl (fun ls hl => ?_)
        refine lv_iinc (v := u5 + (1 : Int32)) (lv' := [(5, .int (u5 + (1 : Int32))), (4, .int (u4 * (10 : Int32))), (0, .ref (ad (118))), (2, .int (u2)), (3, .int (u3))]) hx hb dX6_fog_52 hl (k := 4) rfl (congrArg (fun z => u5 + z) (by decide)) (by decide) rfl (fun ls hl => ?_)
        refine lv_goto (tgt := 33) hx hb dX6_fog_55 (by decide) ?_
        exact ih u2 u3 (u4 * (10 : Int32)) (u5 + (1 : Int32)) K hKK hf _ _ _ hw (lv_sub hl [2, 3, 4, 1, 0] rfl)
  refine lv_iload_n hx hb dX6_fog_0 rfl (lv_at hl 1 rfl) ?_
  refine lv_iconst (v := 0) hx hb dX6_fog_1 (by decide) ?_
  refine lv_bipush (v := 10) hx hb dX6_fog_2 (by decide) ?_
  obtain ⟨q_1, h_2, hf⟩ := nn_bind hf
  refine nn_calliS S (As := [.int (a1), .int ((0 : Int32)), .int ((10 : Int32))]) (rest := []) (c_X6_within l D cy ad A σ a1 (0 : Int32) (10 : Int32) q_1 h_2) mv_X6_within tb_1_200 hK hw ⟨Nat.le_of_ble_eq_true rfl, Nat.le_of_ble_eq_true rfl⟩ ⟨Nat.zero_le _, Nat.zero_le _⟩ rfl hl.1 rfl (Nat.le_of_ble_eq_true rfl) dX6_fog_4 (fun H locs hw => ?_)
  refine lv_if_eq (tgt := 19) hx hb dX6_fog_7 (by decide) (fun c_3 => ?_) (fun c_3 => ?_)
  · rw [if_pos c_3] at hf
    refine lv_iconst (v := -1) hx hb dX6_fog_19 (by decide) ?_
    obtain rfl := Option.some.inj hf
    exact nn_iret S hr hlk hw rfl rfl dX6_fog_20
  · rw [if_neg c_3] at hf
    refine lv_iload_n hx hb dX6_fog_10 rfl (lv_at hl 2 rfl) ?_
    refine lv_iconst (v := 0) hx hb dX6_fog_11 (by decide) ?_
    refine lv_iconst (v := 1) hx hb dX6_fog_12 (by decide) ?_
    obtain ⟨q_4, h_5, hf⟩ := nn_bind hf
    refine nn_calliS S (As := [.int (a2), .int ((0 : Int32)), .int ((1 : Int32))]) (rest := []) (c_X6_within l D cy ad A σ a2 (0 : Int32) (1 : Int32) q_4 h_5) mv_X6_within tb_1_200 hK hw ⟨Nat.le_of_ble_eq_true rfl, Nat.le_of_ble_eq_true rfl⟩ ⟨Nat.zero_le _, Nat.zero_le _⟩ rfl hl.1 rfl (Nat.le_of_ble_eq_true rfl) dX6_fog_13 (fun H locs hw => ?_)
    refine lv_if_ne (tgt := 21) hx hb dX6_fog_16 (by decide) (fun c_6 => ?_) (fun c_6 => ?_)
    · rw [if_neg c_6] at hf
      refine lv_aload_n hx hb dX6_fog_21 rfl (lv_at hl 0 rfl) ?_
      refine lv_iload_n hx hb dX6_fog_22 rfl (lv_at hl 1 rfl) ?_
      obtain ⟨q_7, h_8, hf⟩ := nn_bind hf
      refine nn_calliV S (As := [.int (a1)]) (rest := []) (ce_O (k := 0) (by decide)) (by decide) rfl rfl (c_X6_fogWaysApart l D cy ad A σ c hx_C a1 q_7 h_8) mv_X6_fogWaysApart tb_3_45 hK hw ⟨Nat.le_of_ble_eq_true rfl, Nat.le_of_ble_eq_true rfl⟩ ⟨Nat.zero_le _, Nat.zero_le _⟩ rfl hl.1 rfl (Nat.le_of_ble_eq_true rfl) dX6_fog_23 (fun H locs hw => ?_)
      refine lv_istore_n (lv' := [(3, .int (q_7)), (0, .ref (ad (118))), (1, .int (a1)), (2, .int (a2))]) hx hb dX6_fog_26 rfl hl (by decide) rfl (fun ls hl => ?_)
      refine lv_iconst (v := 1) hx hb dX6_fog_27 (by decide) ?_
      refine lv_istore (lv' := [(4, .int ((1 : Int32))), (3, .int (q_7)), (0, .ref (ad (118))), (1, .int (a1)), (2, .int (a2))]) hx hb dX6_fog_28 hl (by decide) rfl (fun ls hl => ?_)
      refine lv_iconst (v := 0) hx hb dX6_fog_30 (by decide) ?_
      refine lv_istore (lv' := [(5, .int ((0 : Int32))), (4, .int ((1 : Int32))), (3, .int (q_7)), (0, .ref (ad (118))), (1, .int (a1)), (2, .int (a2))]) hx hb dX6_fog_31 hl (by decide) rfl (fun ls hl => ?_)
      refine L33 100000 a2 q_7 (1 : Int32) (0 : Int32) _ (fun b2_10 b3_11 b4_12 b5_13 hf H locs ls hw hl => ?_) hf _ _ _ hw (lv_sub hl [3, 5, 2, 1, 0] rfl)
      refine lv_iconst (v := 1) hx hb dX6_fog_58 (by decide) ?_
      refine lv_iload_n hx hb dX6_fog_59 rfl (lv_at hl 2 rfl) ?_
      refine lv_iload hx hb dX6_fog_60 (lv_at hl 3 rfl) ?_
      obtain ⟨q_14, h_15, hf⟩ := nn_bind hf
      refine nn_calliS S (As := [.int (b3_11), .int (b4_12)]) (rest := [.int ((1 : Int32))]) (c_X6_greatestDivisor l D cy ad A σ b3_11 b4_12 q_14 h_15) mv_X6_greatestDivisor tb_3_55 hK hw ⟨Nat.le_of_ble_eq_true rfl, Nat.le_of_ble_eq_true rfl⟩ ⟨Nat.zero_le _, Nat.zero_le _⟩ rfl hl.1 rfl (Nat.le_of_ble_eq_true rfl) dX6_fog_62 (fun H locs hw => ?_)
      obtain ⟨q_16, h_17, hf⟩ := nn_bind hf
      refine nn_calliS S (As := [.int ((1 : Int32)), .int (q_14)]) (rest := []) (c_J9_max_7cf53 l D cy ad A σ (1 : Int32) q_14 q_16 h_17) mv_J9_max_7cf53 tb_3_58 hK hw ⟨Nat.le_of_ble_eq_true rfl, Nat.le_of_ble_eq_true rfl⟩ ⟨Nat.zero_le _, Nat.zero_le _⟩ rfl hl.1 rfl (Nat.le_of_ble_eq_true rfl) dX6_fog_65 (fun H locs hw => ?_)
      refine lv_istore (lv' := [(5, .int (q_16)), (0, .ref (ad (118))), (2, .int (b2_10)), (3, .int (b3_11)), (4, .int (b4_12))]) hx hb dX6_fog_68 hl (by decide) rfl (fun ls hl => ?_)
      refine lv_iload_n hx hb dX6_fog_70 rfl (lv_at hl 2 rfl) ?_
      refine lv_if_ne (tgt := 81) hx hb dX6_fog_71 (by decide) (fun c_18 => ?_) (fun c_18 => ?_)
      · rw [if_neg c_18] at hf
        refine lv_iload hx hb dX6_fog_81 (lv_at hl 4 rfl) ?_
        refine lv_iload hx hb dX6_fog_83 (lv_at hl 0 rfl) ?_
        obtain ⟨g_19, hf⟩ := nn_nz_some hf
        refine lv_idiv hx hb dX6_fog_85 g_19 ?_
        obtain rfl := Option.some.inj hf
        exact nn_iret S hr hlk hw rfl rfl dX6_fog_86
      · rw [if_pos c_18] at hf
        refine lv_iload_n hx hb dX6_fog_74 rfl (lv_at hl 3 rfl) ?_
        refine lv_iload hx hb dX6_fog_75 (lv_at hl 0 rfl) ?_
        obtain ⟨g_20, hf⟩ := nn_nz_some hf
        refine lv_idiv hx hb dX6_fog_77 g_20 ?_
        refine lv_goto (tgt := 86) hx hb dX6_fog_78 (by decide) ?_
        obtain rfl := Option.some.inj hf
        exact nn_iret S hr hlk hw rfl rfl dX6_fog_86
    · rw [if_pos c_6] at hf
      refine lv_iconst (v := -1) hx hb dX6_fog_19 (by decide) ?_
      obtain rfl := Option.some.inj hf
      exact nn_iret S hr hlk hw rfl rfl dX6_fog_20
set_option maxRecDepth 100000 in
set_option maxHeartbeats 4000000 in
theorem c_X6_image (l : Launch) (D : va_G) (cy : Nat → ClassId) (ad : Nat → Nat) (A : Nat → Prop) (σ : nG) (c : nCs) (hx_C : gC σ = c) (q : Int32 × nCs) (hf : f_X6_image c = some q) (σ' : nG) (hσ : (sC σ q.2) = σ') : nn_I l yX6_image (nn_ws yX6_image cX6_image 1 (some .int)) (nn_R 3) D cy ad A [.ref (ad (118))] σ q.1 σ' := by
  refine nn_enterI (plainFor_of_name (by decide +kernel)) (Nat.le_of_ble_eq_true rfl) (lv := [(0, .ref (ad (118)))]) rfl ?_
  intro pp ee ss mm bb me co S hr hlk hK hw ls hl
  have hx := S.1
  have hb := S.2.1
  have hw : nn_W D cy ad A ss.heap (sC σ c) ss.heap [] := nn_W.eq (by rw [← hx_C]; rfl) hw
  unfold f_X6_image at hf
  refine lv_aload_n hx hb dX6_image_0 rfl (lv_at hl 0 rfl) ?_
  refine gf_Nn_keptValley S hK hw tb_1_167 dX6_image_1 ?_
  refine lv_aload_n hx hb dX6_image_4 rfl (lv_at hl 0 rfl) ?_
  refine gf_Nn_now S hK hw tb_1_165 dX6_image_5 ?_
  obtain ⟨q_1, h_2, hf⟩ := nn_bind hf
  refine nn_callvV S (As := [.ref (ad (0))]) (rest := []) (ce_V (k := 0) (v := 1) (by decide) (by decide)) (by omega) rfl rfl (c_X5_becomeLike l D cy ad A (sC σ c) 1 (by decide) 0 (by decide) (by omega) (cV c 1) rfl (cV c 0) rfl q_1 h_2 (sC σ (cVs c 1 q_1)) rfl) mv_X5_becomeLike tb_2_33 hK hw ⟨Nat.le_of_ble_eq_true rfl, Nat.le_of_ble_eq_true rfl⟩ ⟨Nat.zero_le _, Nat.zero_le _⟩ rfl hl.1 rfl (Nat.le_of_ble_eq_true rfl) dX6_image_8 (fun H locs hw => ?_)
  refine lv_aload_n hx hb dX6_image_11 rfl (lv_at hl 0 rfl) ?_
  refine gf_Nn_keptHistory S hK hw tb_1_168 dX6_image_12 ?_
  refine lv_aload_n hx hb dX6_image_15 rfl (lv_at hl 0 rfl) ?_
  refine gf_Nn_history S hK hw tb_1_166 dX6_image_16 ?_
  obtain ⟨q_3, h_4, hf⟩ := nn_bind hf
  refine nn_callvV S (As := [.ref (ad (114))]) (rest := []) (ce_H (k := 0) (v := 1) (by decide) (by decide)) (by omega) rfl rfl (c_X1_becomeLike l D cy ad A (sC σ (cVs c 1 q_1)) 1 (by decide) 0 (by decide) (by decide) (cVs c 1 q_1) rfl q_3 h_4 (sC σ q_3) rfl) mv_X1_becomeLike tb_3_65 hK hw ⟨Nat.le_of_ble_eq_true rfl, Nat.le_of_ble_eq_true rfl⟩ ⟨Nat.zero_le _, Nat.zero_le _⟩ rfl hl.1 rfl (Nat.le_of_ble_eq_true rfl) dX6_image_19 (fun H locs hw => ?_)
  refine lv_aload_n hx hb dX6_image_22 rfl (lv_at hl 0 rfl) ?_
  refine lv_iconst (v := 1) hx hb dX6_image_23 (by decide) ?_
  refine pf_Nn_imageKept S hK hw (x := (g_Cs_im q_3)) rfl (by decide) (τ' := (sC σ (s_Cs_im q_3 (1 : Int32)))) rfl tb_1_169 dX6_image_24 (fun H locs hw => ?_)
  refine lv_iconst (v := 1) hx hb dX6_image_27 (by decide) ?_
  obtain rfl := Option.some.inj hf
  exact nn_iret S hr hlk hw rfl hσ dX6_image_28
set_option maxRecDepth 100000 in
set_option maxHeartbeats 4000000 in
theorem c_X6_restore (l : Launch) (D : va_G) (cy : Nat → ClassId) (ad : Nat → Nat) (A : Nat → Prop) (σ : nG) (c : nCs) (hx_C : gC σ = c) (q : Int32 × nCs) (hf : f_X6_restore c = some q) (σ' : nG) (hσ : (sC σ q.2) = σ') : nn_I l yX6_restore (nn_ws yX6_restore cX6_restore 1 (some .int)) (nn_R 3) D cy ad A [.ref (ad (118))] σ q.1 σ' := by
  refine nn_enterI (plainFor_of_name (by decide +kernel)) (Nat.le_of_ble_eq_true rfl) (lv := [(0, .ref (ad (118)))]) rfl ?_
  intro pp ee ss mm bb me co S hr hlk hK hw ls hl
  have hx := S.1
  have hb := S.2.1
  have hw : nn_W D cy ad A ss.heap (sC σ c) ss.heap [] := nn_W.eq (by rw [← hx_C]; rfl) hw
  unfold f_X6_restore at hf
  refine lv_aload_n hx hb dX6_restore_0 rfl (lv_at hl 0 rfl) ?_
  refine gf_Nn_imageKept S hK hw (x := (g_Cs_im c)) rfl tb_1_169 dX6_restore_1 ?_
  refine lv_if_ne (tgt := 10) hx hb dX6_restore_4 (by decide) (fun c_1 => ?_) (fun c_1 => ?_)
  · rw [if_neg c_1] at hf
    refine lv_aload_n hx hb dX6_restore_10 rfl (lv_at hl 0 rfl) ?_
    refine gf_Nn_now S hK hw tb_1_165 dX6_restore_11 ?_
    refine lv_aload_n hx hb dX6_restore_14 rfl (lv_at hl 0 rfl) ?_
    refine gf_Nn_keptValley S hK hw tb_1_167 dX6_restore_15 ?_
    obtain ⟨q_2, h_3, hf⟩ := nn_bind hf
    refine nn_callvV S (As := [.ref (ad (6))]) (rest := []) (ce_V (k := 0) (v := 0) (by decide) (by decide)) (by omega) rfl rfl (c_X5_becomeLike l D cy ad A (sC σ c) 0 (by decide) 1 (by decide) (by omega) (cV c 0) rfl (cV c 1) rfl q_2 h_3 (sC σ (cVs c 0 q_2)) rfl) mv_X5_becomeLike tb_2_33 hK hw ⟨Nat.le_of_ble_eq_true rfl, Nat.le_of_ble_eq_true rfl⟩ ⟨Nat.zero_le _, Nat.zero_le _⟩ rfl hl.1 rfl (Nat.le_of_ble_eq_true rfl) dX6_restore_18 (fun H locs hw => ?_)
    refine lv_aload_n hx hb dX6_restore_21 rfl (lv_at hl 0 rfl) ?_
    refine gf_Nn_history S hK hw tb_1_166 dX6_restore_22 ?_
    refine lv_aload_n hx hb dX6_restore_25 rfl (lv_at hl 0 rfl) ?_
    refine gf_Nn_keptHistory S hK hw tb_1_168 dX6_restore_26 ?_
    obtain ⟨q_4, h_5, hf⟩ := nn_bind hf
    refine nn_callvV S (As := [.ref (ad (116))]) (rest := []) (ce_H (k := 0) (v := 0) (by decide) (by decide)) (by omega) rfl rfl (c_X1_becomeLike l D cy ad A (sC σ (cVs c 0 q_2)) 0 (by decide) 1 (by decide) (by decide) (cVs c 0 q_2) rfl q_4 h_5 (sC σ q_4) rfl) mv_X1_becomeLike tb_3_65 hK hw ⟨Nat.le_of_ble_eq_true rfl, Nat.le_of_ble_eq_true rfl⟩ ⟨Nat.zero_le _, Nat.zero_le _⟩ rfl hl.1 rfl (Nat.le_of_ble_eq_true rfl) dX6_restore_29 (fun H locs hw => ?_)
    refine lv_iconst (v := 1) hx hb dX6_restore_32 (by decide) ?_
    obtain rfl := Option.some.inj hf
    exact nn_iret S hr hlk hw rfl hσ dX6_restore_33
  · rw [if_pos c_1] at hf
    refine lv_bipush (v := -4) hx hb dX6_restore_7 (by decide) ?_
    obtain rfl := Option.some.inj hf
    exact nn_iret S hr hlk hw rfl hσ dX6_restore_9
set_option maxRecDepth 100000 in
set_option maxHeartbeats 4000000 in
theorem c_X6_trialRingsAs (l : Launch) (D : va_G) (cy : Nat → ClassId) (ad : Nat → Nat) (A : Nat → Prop) (σ : nG) (j : Nat) (hn_j : j < 4) (c : nCs) (hx_C : gC σ = c) (a1 : Int32) (a3 : Int32) (a4 : Int32) (q : Int32 × nCs) (hf : f_X6_trialRingsAs j c a1 a3 a4 = some q) (σ' : nG) (hσ : (sC σ q.2) = σ') : nn_I l yX6_trialRingsAs (nn_ws yX6_trialRingsAs cX6_trialRingsAs 6 (some .boolean)) (nn_R 4) D cy ad A [.ref (ad (118)), .int (a1), .ref (ad (128+2*j)), .int (a3), .int (a4)] σ q.1 σ' := by
  refine nn_enterI (plainFor_of_name (by decide +kernel)) (Nat.le_of_ble_eq_true rfl) (lv := [(0, .ref (ad (118))), (1, .int (a1)), (2, .ref (ad (128+2*j))), (3, .int (a3)), (4, .int (a4))]) rfl ?_
  intro pp ee ss mm bb me co S hr hlk hK hw ls hl
  have hx := S.1
  have hb := S.2.1
  have hw : nn_W D cy ad A ss.heap (sC σ c) ss.heap [] := nn_W.eq (by rw [← hx_C]; rfl) hw
  unfold f_X6_trialRingsAs at hf
  have L3 : ∀ (n : Nat) (c : nCs) (u1 : Int32) (u3 : Int32) (u4 : Int32) (u5 : Int32) (K : nCs → Int32 → Int32 → Int32 → Int32 → Option (Int32 × nCs)), (∀ (c : nCs) (u1 : Int32) (u3 : Int32) (u4 : Int32) (u5 : Int32), K c u1 u3 u4 u5 = some q → ∀ (H : Heap) (locs : List Loc) (ls : Array Slot), nn_W D cy ad A ss.heap (sC σ c) H locs → lv_has ls 6 [(0, .ref (ad (118))), (1, .int (u1)), (2, .ref (ad (128+2*j))), (3, .int (u3)), (4, .int (u4)), (5, .int (u5))] → W pp l ee (nn_R 4) ss mm ([.ref (ad (118)), .int (a1), .ref (ad (128+2*j)), .int (a3), .int (a4)] : List Value).toArray bb me co H locs 0 0 (MQ bb (nn_qi D cy ad A q.1 σ') ([.ref (ad (118)), .int (a1), .ref (ad (128+2*j)), .int (a3), .int (a4)] : List Value).toArray ss 0 0 A) (F0 mm 48 ls [])) → f_X6_trialRingsAs_L3 j n c u1 u3 u4 u5 K = some q → ∀ (H : Heap) (locs : List Loc) (ls : Array Slot), nn_W D cy ad A ss.heap (sC σ c) H locs → lv_has ls 6 [(0, .ref (ad (118))), (1, .int (u1)), (2, .ref (ad (128+2*j))), (3, .int (u3)), (4, .int (u4)), (5, .int (u5))] → W pp l ee (nn_R 4) ss mm ([.ref (ad (118)), .int (a1), .ref (ad (128+2*j)), .int (a3), .int (a4)] : List Value).toArray bb me co H locs 0 0 (MQ bb (nn_qi D cy ad A q.1 σ') ([.ref (ad (118)), .int (a1), .ref (ad (128+2*j)), .int (a3), .int (a4)] : List Value).toArray ss 0 0 A) (F0 mm 3 ls []) := by
    intro n
    induction n with
    | zero => intro c u1 u3 u4 u5 K hKK hf; exact absurd hf (by simp [f_X6_trialRingsAs_L3])
    | succ n ih =>
      intro c u1 u3 u4 u5 K hKK hf H locs ls hw hl
      rw [f_X6_trialRingsAs_L3] at hf
      refine lv_iload hx hb dX6_trialRingsAs_3 (lv_at hl 5 rfl) ?_
      refine lv_iload hx hb dX6_trialRingsAs_5 (lv_at hl 4 rfl) ?_
      refine lv_icmp_ge (tgt := 48) hx hb dX6_trialRingsAs_7 (by decide) (fun c_1 => ?_) (fun c_1 => ?_)
      · rw [if_pos c_1] at hf
        exact hKK c u1 u3 u4 u5 hf _ _ _ hw (lv_sub hl [0, 1, 2, 3, 4, 5] rfl)
      · rw [if_neg c_1] at hf
        refine lv_aload_n hx hb dX6_trialRingsAs_10 rfl (lv_at hl 0 rfl) ?_
        refine gf_Nn_trial S hK hw tb_1_170 dX6_trialRingsAs_11 ?_
        obtain ⟨q_2, h_3, hf⟩ := nn_bind hf
        refine nn_callvV S (As := []) (rest := []) (ce_V (k := 0) (v := 2) (by decide) (by decide)) (by omega) rfl rfl (c_X5_passDay l D cy ad A (sC σ c) 2 (by decide) (cV c 2) rfl q_2 h_3 (sC σ (cVs c 2 q_2)) rfl) mv_X5_passDay tb_2_132 hK hw ⟨Nat.le_of_ble_eq_true rfl, Nat.le_of_ble_eq_true rfl⟩ ⟨Nat.zero_le _, Nat.zero_le _⟩ rfl hl.1 rfl (Nat.le_of_ble_eq_true rfl) dX6_trialRingsAs_14 (fun H locs hw => ?_)
        refine lv_aload_n hx hb dX6_trialRingsAs_17 rfl (lv_at hl 2 rfl) ?_
        refine gf_Sh_items S hK hw (v := j) hn_j tb_1_152 dX6_trialRingsAs_18 ?_
        refine lv_iload_n hx hb dX6_trialRingsAs_21 rfl (lv_at hl 3 rfl) ?_
        refine lv_iload hx hb dX6_trialRingsAs_22 (lv_at hl 5 rfl) ?_
        refine lv_iadd hx hb dX6_trialRingsAs_24 ?_
        obtain ⟨g_4, hf⟩ := nn_ix_some hf
        refine al_Sh_items S hK hw (v := j) hn_j (x := (cS (cVs c 2 q_2) j)) rfl g_4 dX6_trialRingsAs_25 ?_
        refine lv_aload_n hx hb dX6_trialRingsAs_26 rfl (lv_at hl 0 rfl) ?_
        refine gf_Nn_trial S hK hw tb_1_170 dX6_trialRingsAs_27 ?_
        refine gf_Vl_minutes S hK hw (v := 2) (by decide) tb_1_30 dX6_trialRingsAs_30 ?_
        refine lv_iload_n hx hb dX6_trialRingsAs_33 rfl (lv_at hl 1 rfl) ?_
        obtain ⟨g_5, hf⟩ := nn_ix_some hf
        refine al_Vl_minutes S hK hw (v := 2) (by decide) (x := (cV (cVs c 2 q_2) 2)) rfl g_5 dX6_trialRingsAs_34 ?_
        refine lv_i2l (v := ((g_Vl_minutes (cV (cVs c 2 q_2) 2)) u1.toNatClampNeg).toInt64) hx hb dX6_trialRingsAs_35 rfl ?_
        refine W.lcmp hx hb dX6_trialRingsAs_36 ?_
        refine lv_if_eq (tgt := 42) hx hb dX6_trialRingsAs_37 (by decide) (fun c_6 => ?_) (fun c_6 => ?_)
        · rw [if_pos c_6] at hf
          refine lv_iinc (v := u5 + (1 : Int32)) (lv' := [(5, .int (u5 + (1 : Int32))), (0, .ref (ad (118))), (1, .int (u1)), (2, .ref (ad (128+2*j))), (3, .int (u3)), (4, .int (u4))]) hx hb dX6_trialRingsAs_42 hl (k := 5) rfl (congrArg (fun z => u5 + z) (by decide)) (by decide) rfl (fun ls hl => ?_)
          refine lv_goto (tgt := 3) hx hb dX6_trialRingsAs_45 (by decide) ?_
          exact ih (cVs c 2 q_2) u1 u3 u4 (u5 + (1 : Int32)) K hKK hf _ _ _ hw (lv_sub hl [1, 2, 3, 4, 5, 0] rfl)
        · rw [if_neg c_6] at hf
          refine lv_iconst (v := 0) hx hb dX6_trialRingsAs_40 (by decide) ?_
          obtain rfl := Option.some.inj hf
          exact nn_zret S hr hlk hw rfl rfl hσ dX6_trialRingsAs_41
  refine lv_iconst (v := 0) hx hb dX6_trialRingsAs_0 (by decide) ?_
  refine lv_istore (lv' := [(5, .int ((0 : Int32))), (0, .ref (ad (118))), (1, .int (a1)), (2, .ref (ad (128+2*j))), (3, .int (a3)), (4, .int (a4))]) hx hb dX6_trialRingsAs_1 hl (by decide) rfl (fun ls hl => ?_)
  refine L3 100000 c a1 a3 a4 (0 : Int32) _ (fun c_11 b1_7 b3_8 b4_9 b5_10 hf H locs ls hw hl => ?_) hf _ _ _ hw (lv_sub hl [1, 2, 3, 4, 5, 0] rfl)
  refine lv_iconst (v := 1) hx hb dX6_trialRingsAs_48 (by decide) ?_
  obtain rfl := Option.some.inj hf
  exact nn_zret S hr hlk hw rfl rfl hσ dX6_trialRingsAs_49
set_option maxRecDepth 100000 in
set_option maxHeartbeats 4000000 in
theorem c_X6_kindsHeard (l : Launch) (D : va_G) (cy : Nat → ClassId) (ad : Nat → Nat) (A : Nat → Prop) (σ : nG) (j : Nat) (hn_j : j < 4) (c : nCs) (hx_C : gC σ = c) (a1 : Int32) (a3 : Int32) (a4 : Int32) (q : Int32 × nCs) (hf : f_X6_kindsHeard j c a1 a3 a4 = some q) (σ' : nG) (hσ : (sC σ q.2) = σ') : nn_I l yX6_kindsHeard (nn_ws yX6_kindsHeard cX6_kindsHeard 7 (some .int)) (nn_R 5) D cy ad A [.ref (ad (118)), .int (a1), .ref (ad (128+2*j)), .int (a3), .int (a4)] σ q.1 σ' := by
  refine nn_enterI (plainFor_of_name (by decide +kernel)) (Nat.le_of_ble_eq_true rfl) (lv := [(0, .ref (ad (118))), (1, .int (a1)), (2, .ref (ad (128+2*j))), (3, .int (a3)), (4, .int (a4))]) rfl ?_
  intro pp ee ss mm bb me co S hr hlk hK hw ls hl
  have hx := S.1
  have hb := S.2.1
  have hw : nn_W D cy ad A ss.heap (sC σ c) ss.heap [] := nn_W.eq (by rw [← hx_C]; rfl) hw
  unfold f_X6_kindsHeard at hf
  have L6 : ∀ (n : Nat) (c : nCs) (u1 : Int32) (u3 : Int32) (u4 : Int32) (u5 : Int32) (u6 : Int32) (K : nCs → Int32 → Int32 → Int32 → Int32 → Int32 → Option (Int32 × nCs)), (∀ (c : nCs) (u1 : Int32) (u3 : Int32) (u4 : Int32) (u5 : Int32) (u6 : Int32), K c u1 u3 u4 u5 u6 = some q → ∀ (H : Heap) (locs : List Loc) (ls : Array Slot), nn_W D cy ad A ss.heap (sC σ c) H locs → lv_has ls 7 [(0, .ref (ad (118))), (1, .int (u1)), (2, .ref (ad (128+2*j))), (3, .int (u3)), (4, .int (u4)), (5, .int (u5)), (6, .int (u6))] → W pp l ee (nn_R 5) ss mm ([.ref (ad (118)), .int (a1), .ref (ad (128+2*j)), .int (a3), .int (a4)] : List Value).toArray bb me co H locs 0 0 (MQ bb (nn_qi D cy ad A q.1 σ') ([.ref (ad (118)), .int (a1), .ref (ad (128+2*j)), .int (a3), .int (a4)] : List Value).toArray ss 0 0 A) (F0 mm 61 ls [])) → f_X6_kindsHeard_L6 j n c u1 u3 u4 u5 u6 K = some q → ∀ (H : Heap) (locs : List Loc) (ls : Array Slot), nn_W D cy ad A ss.heap (sC σ c) H locs → lv_has ls 7 [(0, .ref (ad (118))), (1, .int (u1)), (2, .ref (ad (128+2*j))), (3, .int (u3)), (4, .int (u4)), (5, .int (u5)), (6, .int (u6))] → W pp l ee (nn_R 5) ss mm ([.ref (ad (118)), .int (a1), .ref (ad (128+2*j)), .int (a3), .int (a4)] : List Value).toArray bb me co H locs 0 0 (MQ bb (nn_qi D cy ad A q.1 σ') ([.ref (ad (118)), .int (a1), .ref (ad (128+2*j)), .int (a3), .int (a4)] : List Value).toArray ss 0 0 A) (F0 mm 6 ls []) := by
    intro n
    induction n with
    | zero => intro c u1 u3 u4 u5 u6 K hKK hf; exact absurd hf (by simp [f_X6_kindsHeard_L6])
    | succ n ih =>
      intro c u1 u3 u4 u5 u6 K hKK hf H locs ls hw hl
      rw [f_X6_kindsHeard_L6] at hf
      refine lv_iload hx hb dX6_kindsHeard_6 (lv_at hl 6 rfl) ?_
      refine lv_iconst (v := 5) hx hb dX6_kindsHeard_8 (by decide) ?_
      refine lv_icmp_ge (tgt := 61) hx hb dX6_kindsHeard_9 (by decide) (fun c_1 => ?_) (fun c_1 => ?_)
      · rw [if_pos c_1] at hf
        exact hKK c u1 u3 u4 u5 u6 hf _ _ _ hw (lv_sub hl [0, 1, 2, 3, 4, 5, 6] rfl)
      · rw [if_neg c_1] at hf
        refine lv_aload_n hx hb dX6_kindsHeard_12 rfl (lv_at hl 0 rfl) ?_
        refine gf_Nn_trial S hK hw tb_1_170 dX6_kindsHeard_13 ?_
        refine lv_aload_n hx hb dX6_kindsHeard_16 rfl (lv_at hl 0 rfl) ?_
        refine gf_Nn_now S hK hw tb_1_165 dX6_kindsHeard_17 ?_
        obtain ⟨q_2, h_3, hf⟩ := nn_bind hf
        refine nn_callvV S (As := [.ref (ad (0))]) (rest := []) (ce_V (k := 0) (v := 2) (by decide) (by decide)) (by omega) rfl rfl (c_X5_becomeLike l D cy ad A (sC σ c) 2 (by decide) 0 (by decide) (by omega) (cV c 2) rfl (cV c 0) rfl q_2 h_3 (sC σ (cVs c 2 q_2)) rfl) mv_X5_becomeLike tb_2_33 hK hw ⟨Nat.le_of_ble_eq_true rfl, Nat.le_of_ble_eq_true rfl⟩ ⟨Nat.zero_le _, Nat.zero_le _⟩ rfl hl.1 rfl (Nat.le_of_ble_eq_true rfl) dX6_kindsHeard_20 (fun H locs hw => ?_)
        refine lv_aload_n hx hb dX6_kindsHeard_23 rfl (lv_at hl 0 rfl) ?_
        refine gf_Nn_trial S hK hw tb_1_170 dX6_kindsHeard_24 ?_
        refine gf_Vl_kinds S hK hw (v := 2) (by decide) tb_1_28 dX6_kindsHeard_27 ?_
        refine lv_iload_n hx hb dX6_kindsHeard_30 rfl (lv_at hl 1 rfl) ?_
        refine lv_iload hx hb dX6_kindsHeard_31 (lv_at hl 6 rfl) ?_
        obtain ⟨g_4, hf⟩ := nn_ix_some hf
        obtain ⟨c_5, h_6, hf⟩ := nn_bind hf
        replace h_6 := Option.some.inj h_6
        refine as_Vl_kinds S hK hw (v := 2) (by decide) (x := (cV (cVs c 2 q_2) 2)) rfl g_4 (τ' := (sC σ c_5)) ((rfl : _ = (sC σ (cVs (cVs c 2 q_2) 2 (s_Vl_kinds (cV (cVs c 2 q_2) 2) (upd (g_Vl_kinds (cV (cVs c 2 q_2) 2)) u1.toNatClampNeg u6))))).trans (by rw [h_6])) dX6_kindsHeard_33 (fun H locs hw => ?_)
        refine lv_aload_n hx hb dX6_kindsHeard_34 rfl (lv_at hl 0 rfl) ?_
        refine lv_iload_n hx hb dX6_kindsHeard_35 rfl (lv_at hl 1 rfl) ?_
        refine lv_aload_n hx hb dX6_kindsHeard_36 rfl (lv_at hl 2 rfl) ?_
        refine lv_iload_n hx hb dX6_kindsHeard_37 rfl (lv_at hl 3 rfl) ?_
        refine lv_iload hx hb dX6_kindsHeard_38 (lv_at hl 4 rfl) ?_
        obtain ⟨q_7, h_8, hf⟩ := nn_bind hf
        refine nn_calliV S (As := [.int (u1), .ref (ad (128+2*j)), .int (u3), .int (u4)]) (rest := []) (ce_O (k := 0) (by decide)) (by decide) rfl rfl (c_X6_trialRingsAs l D cy ad A (sC σ c_5) j hn_j c_5 rfl u1 u3 u4 q_7 h_8 (sC σ q_7.2) rfl) mv_X6_trialRingsAs tb_3_96 hK hw ⟨Nat.le_of_ble_eq_true rfl, Nat.le_of_ble_eq_true rfl⟩ ⟨Nat.zero_le _, Nat.zero_le _⟩ rfl hl.1 rfl (Nat.le_of_ble_eq_true rfl) dX6_kindsHeard_40 (fun H locs hw => ?_)
        refine lv_if_eq (tgt := 55) hx hb dX6_kindsHeard_43 (by decide) (fun c_9 => ?_) (fun c_9 => ?_)
        · rw [if_pos c_9] at hf
          refine lv_iinc (v := u6 + (1 : Int32)) (lv' := [(6, .int (u6 + (1 : Int32))), (0, .ref (ad (118))), (1, .int (u1)), (2, .ref (ad (128+2*j))), (3, .int (u3)), (4, .int (u4)), (5, .int (u5))]) hx hb dX6_kindsHeard_55 hl (k := 6) rfl (congrArg (fun z => u6 + z) (by decide)) (by decide) rfl (fun ls hl => ?_)
          refine lv_goto (tgt := 6) hx hb dX6_kindsHeard_58 (by decide) ?_
          exact ih q_7.2 u1 u3 u4 u5 (u6 + (1 : Int32)) K hKK hf _ _ _ hw (lv_sub hl [1, 2, 3, 4, 5, 6, 0] rfl)
        · rw [if_neg c_9] at hf
          refine lv_iload hx hb dX6_kindsHeard_46 (lv_at hl 5 rfl) ?_
          refine lv_iconst (v := 1) hx hb dX6_kindsHeard_48 (by decide) ?_
          refine lv_iload hx hb dX6_kindsHeard_49 (lv_at hl 6 rfl) ?_
          refine lv_ishl hx hb dX6_kindsHeard_51 ?_
          refine lv_ior hx hb dX6_kindsHeard_52 ?_
          refine lv_istore (lv' := [(5, .int (u5 ||| ((1 : Int32) <<< (u6 &&& 31)))), (0, .ref (ad (118))), (1, .int (u1)), (2, .ref (ad (128+2*j))), (3, .int (u3)), (4, .int (u4)), (6, .int (u6))]) hx hb dX6_kindsHeard_53 hl (by decide) rfl (fun ls hl => ?_)
          refine lv_iinc (v := u6 + (1 : Int32)) (lv' := [(6, .int (u6 + (1 : Int32))), (5, .int (u5 ||| ((1 : Int32) <<< (u6 &&& 31)))), (0, .ref (ad (118))), (1, .int (u1)), (2, .ref (ad (128+2*j))), (3, .int (u3)), (4, .int (u4))]) hx hb dX6_kindsHeard_55 hl (k := 6) rfl (congrArg (fun z => u6 + z) (by decide)) (by decide) rfl (fun ls hl => ?_)
          refine lv_goto (tgt := 6) hx hb dX6_kindsHeard_58 (by decide) ?_
          exact ih q_7.2 u1 u3 u4 (u5 ||| ((1 : Int32) <<< (u6 &&& 31))) (u6 + (1 : Int32)) K hKK hf _ _ _ hw (lv_sub hl [2, 3, 4, 5, 6, 1, 0] rfl)
  refine lv_iconst (v := 0) hx hb dX6_kindsHeard_0 (by decide) ?_
  refine lv_istore (lv' := [(5, .int ((0 : Int32))), (0, .ref (ad (118))), (1, .int (a1)), (2, .ref (ad (128+2*j))), (3, .int (a3)), (4, .int (a4))]) hx hb dX6_kindsHeard_1 hl (by decide) rfl (fun ls hl => ?_)
  refine lv_iconst (v := 0) hx hb dX6_kindsHeard_3 (by decide) ?_
  refine lv_istore (lv' := [(6, .int ((0 : Int32))), (5, .int ((0 : Int32))), (0, .ref (ad (118))), (1, .int (a1)), (2, .ref (ad (128+2*j))), (3, .int (a3)), (4, .int (a4))]) hx hb dX6_kindsHeard_4 hl (by decide) rfl (fun ls hl => ?_)
  refine L6 100000 c a1 a3 a4 (0 : Int32) (0 : Int32) _ (fun c_15 b1_10 b3_11 b4_12 b5_13 b6_14 hf H locs ls hw hl => ?_) hf _ _ _ hw (lv_sub hl [2, 3, 4, 5, 6, 1, 0] rfl)
  refine lv_iload hx hb dX6_kindsHeard_61 (lv_at hl 5 rfl) ?_
  obtain rfl := Option.some.inj hf
  exact nn_iret S hr hlk hw rfl hσ dX6_kindsHeard_63
set_option maxRecDepth 100000 in
set_option maxHeartbeats 4000000 in
theorem c_X6_driftsHeard (l : Launch) (D : va_G) (cy : Nat → ClassId) (ad : Nat → Nat) (A : Nat → Prop) (σ : nG) (j : Nat) (hn_j : j < 4) (c : nCs) (hx_C : gC σ = c) (a1 : Int32) (a3 : Int32) (a4 : Int32) (q : Int32 × nCs) (hf : f_X6_driftsHeard j c a1 a3 a4 = some q) (σ' : nG) (hσ : (sC σ q.2) = σ') : nn_I l yX6_driftsHeard (nn_ws yX6_driftsHeard cX6_driftsHeard 7 (some .int)) (nn_R 5) D cy ad A [.ref (ad (118)), .int (a1), .ref (ad (128+2*j)), .int (a3), .int (a4)] σ q.1 σ' := by
  refine nn_enterI (plainFor_of_name (by decide +kernel)) (Nat.le_of_ble_eq_true rfl) (lv := [(0, .ref (ad (118))), (1, .int (a1)), (2, .ref (ad (128+2*j))), (3, .int (a3)), (4, .int (a4))]) rfl ?_
  intro pp ee ss mm bb me co S hr hlk hK hw ls hl
  have hx := S.1
  have hb := S.2.1
  have hw : nn_W D cy ad A ss.heap (sC σ c) ss.heap [] := nn_W.eq (by rw [← hx_C]; rfl) hw
  unfold f_X6_driftsHeard at hf
  have L7 : ∀ (n : Nat) (c : nCs) (u1 : Int32) (u3 : Int32) (u4 : Int32) (u5 : Int32) (u6 : Int32) (K : nCs → Int32 → Int32 → Int32 → Int32 → Int32 → Option (Int32 × nCs)), (∀ (c : nCs) (u1 : Int32) (u3 : Int32) (u4 : Int32) (u5 : Int32) (u6 : Int32), K c u1 u3 u4 u5 u6 = some q → ∀ (H : Heap) (locs : List Loc) (ls : Array Slot), nn_W D cy ad A ss.heap (sC σ c) H locs → lv_has ls 7 [(0, .ref (ad (118))), (1, .int (u1)), (2, .ref (ad (128+2*j))), (3, .int (u3)), (4, .int (u4)), (5, .int (u5)), (6, .int (u6))] → W pp l ee (nn_R 5) ss mm ([.ref (ad (118)), .int (a1), .ref (ad (128+2*j)), .int (a3), .int (a4)] : List Value).toArray bb me co H locs 0 0 (MQ bb (nn_qi D cy ad A q.1 σ') ([.ref (ad (118)), .int (a1), .ref (ad (128+2*j)), .int (a3), .int (a4)] : List Value).toArray ss 0 0 A) (F0 mm 66 ls [])) → f_X6_driftsHeard_L7 j n c u1 u3 u4 u5 u6 K = some q → ∀ (H : Heap) (locs : List Loc) (ls : Array Slot), nn_W D cy ad A ss.heap (sC σ c) H locs → lv_has ls 7 [(0, .ref (ad (118))), (1, .int (u1)), (2, .ref (ad (128+2*j))), (3, .int (u3)), (4, .int (u4)), (5, .int (u5)), (6, .int (u6))] → W pp l ee (nn_R 5) ss mm ([.ref (ad (118)), .int (a1), .ref (ad (128+2*j)), .int (a3), .int (a4)] : List Value).toArray bb me co H locs 0 0 (MQ bb (nn_qi D cy ad A q.1 σ') ([.ref (ad (118)), .int (a1), .ref (ad (128+2*j)), .int (a3), .int (a4)] : List Value).toArray ss 0 0 A) (F0 mm 7 ls []) := by
    intro n
    induction n with
    | zero => intro c u1 u3 u4 u5 u6 K hKK hf; exact absurd hf (by simp [f_X6_driftsHeard_L7])
    | succ n ih =>
      intro c u1 u3 u4 u5 u6 K hKK hf H locs ls hw hl
      rw [f_X6_driftsHeard_L7] at hf
      refine lv_iload hx hb dX6_driftsHeard_7 (lv_at hl 6 rfl) ?_
      refine lv_bipush (v := 9) hx hb dX6_driftsHeard_9 (by decide) ?_
      refine lv_icmp_gt (tgt := 66) hx hb dX6_driftsHeard_11 (by decide) (fun c_1 => ?_) (fun c_1 => ?_)
      · rw [if_pos c_1] at hf
        exact hKK c u1 u3 u4 u5 u6 hf _ _ _ hw (lv_sub hl [0, 1, 2, 3, 4, 5, 6] rfl)
      · rw [if_neg c_1] at hf
        refine lv_aload_n hx hb dX6_driftsHeard_14 rfl (lv_at hl 0 rfl) ?_
        refine gf_Nn_trial S hK hw tb_1_170 dX6_driftsHeard_15 ?_
        refine lv_aload_n hx hb dX6_driftsHeard_18 rfl (lv_at hl 0 rfl) ?_
        refine gf_Nn_now S hK hw tb_1_165 dX6_driftsHeard_19 ?_
        obtain ⟨q_2, h_3, hf⟩ := nn_bind hf
        refine nn_callvV S (As := [.ref (ad (0))]) (rest := []) (ce_V (k := 0) (v := 2) (by decide) (by decide)) (by omega) rfl rfl (c_X5_becomeLike l D cy ad A (sC σ c) 2 (by decide) 0 (by decide) (by omega) (cV c 2) rfl (cV c 0) rfl q_2 h_3 (sC σ (cVs c 2 q_2)) rfl) mv_X5_becomeLike tb_2_33 hK hw ⟨Nat.le_of_ble_eq_true rfl, Nat.le_of_ble_eq_true rfl⟩ ⟨Nat.zero_le _, Nat.zero_le _⟩ rfl hl.1 rfl (Nat.le_of_ble_eq_true rfl) dX6_driftsHeard_22 (fun H locs hw => ?_)
        refine lv_aload_n hx hb dX6_driftsHeard_25 rfl (lv_at hl 0 rfl) ?_
        refine gf_Nn_trial S hK hw tb_1_170 dX6_driftsHeard_26 ?_
        refine gf_Vl_drifts S hK hw (v := 2) (by decide) tb_1_34 dX6_driftsHeard_29 ?_
        refine lv_iload_n hx hb dX6_driftsHeard_32 rfl (lv_at hl 1 rfl) ?_
        refine lv_iload hx hb dX6_driftsHeard_33 (lv_at hl 6 rfl) ?_
        obtain ⟨g_4, hf⟩ := nn_ix_some hf
        obtain ⟨c_5, h_6, hf⟩ := nn_bind hf
        replace h_6 := Option.some.inj h_6
        refine as_Vl_drifts S hK hw (v := 2) (by decide) (x := (cV (cVs c 2 q_2) 2)) rfl g_4 (τ' := (sC σ c_5)) ((rfl : _ = (sC σ (cVs (cVs c 2 q_2) 2 (s_Vl_drifts (cV (cVs c 2 q_2) 2) (upd (g_Vl_drifts (cV (cVs c 2 q_2) 2)) u1.toNatClampNeg u6))))).trans (by rw [h_6])) dX6_driftsHeard_35 (fun H locs hw => ?_)
        refine lv_aload_n hx hb dX6_driftsHeard_36 rfl (lv_at hl 0 rfl) ?_
        refine lv_iload_n hx hb dX6_driftsHeard_37 rfl (lv_at hl 1 rfl) ?_
        refine lv_aload_n hx hb dX6_driftsHeard_38 rfl (lv_at hl 2 rfl) ?_
        refine lv_iload_n hx hb dX6_driftsHeard_39 rfl (lv_at hl 3 rfl) ?_
        refine lv_iload hx hb dX6_driftsHeard_40 (lv_at hl 4 rfl) ?_
        obtain ⟨q_7, h_8, hf⟩ := nn_bind hf
        refine nn_calliV S (As := [.int (u1), .ref (ad (128+2*j)), .int (u3), .int (u4)]) (rest := []) (ce_O (k := 0) (by decide)) (by decide) rfl rfl (c_X6_trialRingsAs l D cy ad A (sC σ c_5) j hn_j c_5 rfl u1 u3 u4 q_7 h_8 (sC σ q_7.2) rfl) mv_X6_trialRingsAs tb_3_96 hK hw ⟨Nat.le_of_ble_eq_true rfl, Nat.le_of_ble_eq_true rfl⟩ ⟨Nat.zero_le _, Nat.zero_le _⟩ rfl hl.1 rfl (Nat.le_of_ble_eq_true rfl) dX6_driftsHeard_42 (fun H locs hw => ?_)
        refine lv_if_eq (tgt := 60) hx hb dX6_driftsHeard_45 (by decide) (fun c_9 => ?_) (fun c_9 => ?_)
        · rw [if_pos c_9] at hf
          refine lv_iinc (v := u6 + (1 : Int32)) (lv' := [(6, .int (u6 + (1 : Int32))), (0, .ref (ad (118))), (1, .int (u1)), (2, .ref (ad (128+2*j))), (3, .int (u3)), (4, .int (u4)), (5, .int (u5))]) hx hb dX6_driftsHeard_60 hl (k := 6) rfl (congrArg (fun z => u6 + z) (by decide)) (by decide) rfl (fun ls hl => ?_)
          refine lv_goto (tgt := 7) hx hb dX6_driftsHeard_63 (by decide) ?_
          exact ih q_7.2 u1 u3 u4 u5 (u6 + (1 : Int32)) K hKK hf _ _ _ hw (lv_sub hl [1, 2, 3, 4, 5, 6, 0] rfl)
        · rw [if_neg c_9] at hf
          refine lv_iload hx hb dX6_driftsHeard_48 (lv_at hl 5 rfl) ?_
          refine lv_iconst (v := 1) hx hb dX6_driftsHeard_50 (by decide) ?_
          refine lv_iload hx hb dX6_driftsHeard_51 (lv_at hl 6 rfl) ?_
          refine lv_bipush (v := 9) hx hb dX6_driftsHeard_53 (by decide) ?_
          refine lv_iadd hx hb dX6_driftsHeard_55 ?_
          refine lv_ishl hx hb dX6_driftsHeard_56 ?_
          refine lv_ior hx hb dX6_driftsHeard_57 ?_
          refine lv_istore (lv' := [(5, .int (u5 ||| ((1 : Int32) <<< ((u6 + (9 : Int32)) &&& 31)))), (0, .ref (ad (118))), (1, .int (u1)), (2, .ref (ad (128+2*j))), (3, .int (u3)), (4, .int (u4)), (6, .int (u6))]) hx hb dX6_driftsHeard_58 hl (by decide) rfl (fun ls hl => ?_)
          refine lv_iinc (v := u6 + (1 : Int32)) (lv' := [(6, .int (u6 + (1 : Int32))), (5, .int (u5 ||| ((1 : Int32) <<< ((u6 + (9 : Int32)) &&& 31)))), (0, .ref (ad (118))), (1, .int (u1)), (2, .ref (ad (128+2*j))), (3, .int (u3)), (4, .int (u4))]) hx hb dX6_driftsHeard_60 hl (k := 6) rfl (congrArg (fun z => u6 + z) (by decide)) (by decide) rfl (fun ls hl => ?_)
          refine lv_goto (tgt := 7) hx hb dX6_driftsHeard_63 (by decide) ?_
          exact ih q_7.2 u1 u3 u4 (u5 ||| ((1 : Int32) <<< ((u6 + (9 : Int32)) &&& 31))) (u6 + (1 : Int32)) K hKK hf _ _ _ hw (lv_sub hl [2, 3, 4, 5, 6, 1, 0] rfl)
  refine lv_iconst (v := 0) hx hb dX6_driftsHeard_0 (by decide) ?_
  refine lv_istore (lv' := [(5, .int ((0 : Int32))), (0, .ref (ad (118))), (1, .int (a1)), (2, .ref (ad (128+2*j))), (3, .int (a3)), (4, .int (a4))]) hx hb dX6_driftsHeard_1 hl (by decide) rfl (fun ls hl => ?_)
  refine lv_bipush (v := -9) hx hb dX6_driftsHeard_3 (by decide) ?_
  refine lv_istore (lv' := [(6, .int ((-9 : Int32))), (5, .int ((0 : Int32))), (0, .ref (ad (118))), (1, .int (a1)), (2, .ref (ad (128+2*j))), (3, .int (a3)), (4, .int (a4))]) hx hb dX6_driftsHeard_5 hl (by decide) rfl (fun ls hl => ?_)
  refine L7 100000 c a1 a3 a4 (0 : Int32) (-9 : Int32) _ (fun c_15 b1_10 b3_11 b4_12 b5_13 b6_14 hf H locs ls hw hl => ?_) hf _ _ _ hw (lv_sub hl [2, 3, 4, 5, 6, 1, 0] rfl)
  refine lv_iload hx hb dX6_driftsHeard_66 (lv_at hl 5 rfl) ?_
  obtain rfl := Option.some.inj hf
  exact nn_iret S hr hlk hw rfl hσ dX6_driftsHeard_68
set_option maxRecDepth 100000 in
set_option maxHeartbeats 4000000 in
theorem c_X6_heard (l : Launch) (D : va_G) (cy : Nat → ClassId) (ad : Nat → Nat) (A : Nat → Prop) (σ : nG) (c : nCs) (hx_C : gC σ = c) (a1 : Int32) (a2 : Int32) (a3 : Int32) (a4 : Int32) (a5 : Int32) (a6 : Int32) (q : Int32 × nCs) (hf : f_X6_heard c a1 a2 a3 a4 a5 a6 = some q) (σ' : nG) (hσ : (sC σ q.2) = σ') : nn_I l yX6_heard (nn_ws yX6_heard cX6_heard 8 (some .int)) (nn_R 6) D cy ad A [.ref (ad (118)), .int (a1), .int (a2), .int (a3), .int (a4), .int (a5), .int (a6)] σ q.1 σ' := by
  refine nn_enterI (plainFor_of_name (by decide +kernel)) (Nat.le_of_ble_eq_true rfl) (lv := [(0, .ref (ad (118))), (1, .int (a1)), (2, .int (a2)), (3, .int (a3)), (4, .int (a4)), (5, .int (a5)), (6, .int (a6))]) rfl ?_
  intro pp ee ss mm bb me co S hr hlk hK hw ls hl
  have hx := S.1
  have hb := S.2.1
  have hw : nn_W D cy ad A ss.heap (sC σ c) ss.heap [] := nn_W.eq (by rw [← hx_C]; rfl) hw
  unfold f_X6_heard at hf
  refine lv_aload_n hx hb dX6_heard_0 rfl (lv_at hl 0 rfl) ?_
  refine gf_Nn_now S hK hw tb_1_165 dX6_heard_1 ?_
  refine lv_iload_n hx hb dX6_heard_4 rfl (lv_at hl 1 rfl) ?_
  obtain ⟨q_1, h_2, hf⟩ := nn_bind hf
  refine nn_calliV S (As := [.int (a1)]) (rest := []) (ce_V (k := 0) (v := 0) (by decide) (by decide)) (by omega) rfl rfl (c_X5_has l D cy ad A (sC σ c) 0 (by decide) (cV c 0) rfl a1 q_1 h_2) mv_X5_has tb_1_218 hK hw ⟨Nat.le_of_ble_eq_true rfl, Nat.le_of_ble_eq_true rfl⟩ ⟨Nat.zero_le _, Nat.zero_le _⟩ rfl hl.1 rfl (Nat.le_of_ble_eq_true rfl) dX6_heard_5 (fun H locs hw => ?_)
  refine lv_if_eq (tgt := 40) hx hb dX6_heard_8 (by decide) (fun c_3 => ?_) (fun c_3 => ?_)
  · rw [if_pos c_3] at hf
    refine lv_iconst (v := -1) hx hb dX6_heard_40 (by decide) ?_
    obtain rfl := Option.some.inj hf
    exact nn_iret S hr hlk hw rfl hσ dX6_heard_41
  · rw [if_neg c_3] at hf
    refine lv_iload_n hx hb dX6_heard_11 rfl (lv_at hl 2 rfl) ?_
    refine lv_iload_n hx hb dX6_heard_12 rfl (lv_at hl 3 rfl) ?_
    obtain ⟨q_4, h_5, hf⟩ := nn_bind hf
    refine nn_calliS S (As := [.int (a2), .int (a3)]) (rest := []) (c_X6_isSheetAndLane l D cy ad A (sC σ c) a2 a3 q_4 h_5) mv_X6_isSheetAndLane tb_3_77 hK hw ⟨Nat.le_of_ble_eq_true rfl, Nat.le_of_ble_eq_true rfl⟩ ⟨Nat.zero_le _, Nat.zero_le _⟩ rfl hl.1 rfl (Nat.le_of_ble_eq_true rfl) dX6_heard_13 (fun H locs hw => ?_)
    refine lv_if_eq (tgt := 40) hx hb dX6_heard_16 (by decide) (fun c_6 => ?_) (fun c_6 => ?_)
    · rw [if_pos c_6] at hf
      refine lv_iconst (v := -1) hx hb dX6_heard_40 (by decide) ?_
      obtain rfl := Option.some.inj hf
      exact nn_iret S hr hlk hw rfl hσ dX6_heard_41
    · rw [if_neg c_6] at hf
      refine lv_iload hx hb dX6_heard_19 (lv_at hl 5 rfl) ?_
      refine lv_iconst (v := 1) hx hb dX6_heard_21 (by decide) ?_
      refine lv_bipush (v := 8) hx hb dX6_heard_22 (by decide) ?_
      obtain ⟨q_7, h_8, hf⟩ := nn_bind hf
      refine nn_calliS S (As := [.int (a5), .int ((1 : Int32)), .int ((8 : Int32))]) (rest := []) (c_X6_within l D cy ad A (sC σ c) a5 (1 : Int32) (8 : Int32) q_7 h_8) mv_X6_within tb_1_200 hK hw ⟨Nat.le_of_ble_eq_true rfl, Nat.le_of_ble_eq_true rfl⟩ ⟨Nat.zero_le _, Nat.zero_le _⟩ rfl hl.1 rfl (Nat.le_of_ble_eq_true rfl) dX6_heard_24 (fun H locs hw => ?_)
      refine lv_if_eq (tgt := 40) hx hb dX6_heard_27 (by decide) (fun c_9 => ?_) (fun c_9 => ?_)
      · rw [if_pos c_9] at hf
        refine lv_iconst (v := -1) hx hb dX6_heard_40 (by decide) ?_
        obtain rfl := Option.some.inj hf
        exact nn_iret S hr hlk hw rfl hσ dX6_heard_41
      · rw [if_neg c_9] at hf
        refine lv_iload hx hb dX6_heard_30 (lv_at hl 6 rfl) ?_
        refine lv_iconst (v := 0) hx hb dX6_heard_32 (by decide) ?_
        refine lv_iconst (v := 1) hx hb dX6_heard_33 (by decide) ?_
        obtain ⟨q_10, h_11, hf⟩ := nn_bind hf
        refine nn_calliS S (As := [.int (a6), .int ((0 : Int32)), .int ((1 : Int32))]) (rest := []) (c_X6_within l D cy ad A (sC σ c) a6 (0 : Int32) (1 : Int32) q_10 h_11) mv_X6_within tb_1_200 hK hw ⟨Nat.le_of_ble_eq_true rfl, Nat.le_of_ble_eq_true rfl⟩ ⟨Nat.zero_le _, Nat.zero_le _⟩ rfl hl.1 rfl (Nat.le_of_ble_eq_true rfl) dX6_heard_34 (fun H locs hw => ?_)
        refine lv_if_ne (tgt := 42) hx hb dX6_heard_37 (by decide) (fun c_12 => ?_) (fun c_12 => ?_)
        · rw [if_neg c_12] at hf
          refine lv_aload_n hx hb dX6_heard_42 rfl (lv_at hl 0 rfl) ?_
          refine gf_Nn_sheets S hK hw tb_1_174 dX6_heard_43 ?_
          refine lv_iload_n hx hb dX6_heard_46 rfl (lv_at hl 2 rfl) ?_
          obtain ⟨g_13, hf⟩ := nn_ix_some hf
          have hg_13 := nn_ix_lt g_13
          refine nn_aldS S hK hw g_13 dX6_heard_47 ?_
          refine lv_iload_n hx hb dX6_heard_48 rfl (lv_at hl 3 rfl) ?_
          refine lv_iload hx hb dX6_heard_49 (lv_at hl 4 rfl) ?_
          refine lv_iload hx hb dX6_heard_51 (lv_at hl 5 rfl) ?_
          obtain ⟨q_14, h_15, hf⟩ := nn_bind hf
          refine nn_calliV S (As := [.int (a3), .int (a4), .int (a5)]) (rest := []) (ce_S (k := 0) (v := a2.toNatClampNeg) (by omega) (by decide)) (by omega) rfl rfl (c_X3_refusal l D cy ad A (sC σ c) a2.toNatClampNeg (by omega) (cS c a2.toNatClampNeg) rfl a3 a4 a5 q_14 h_15) mv_X3_refusal tb_3_80 hK hw ⟨Nat.le_of_ble_eq_true rfl, Nat.le_of_ble_eq_true rfl⟩ ⟨Nat.zero_le _, Nat.zero_le _⟩ rfl hl.1 rfl (Nat.le_of_ble_eq_true rfl) dX6_heard_53 (fun H locs hw => ?_)
          refine lv_istore (lv' := [(7, .int (q_14)), (0, .ref (ad (118))), (1, .int (a1)), (2, .int (a2)), (3, .int (a3)), (4, .int (a4)), (5, .int (a5)), (6, .int (a6))]) hx hb dX6_heard_56 hl (by decide) rfl (fun ls hl => ?_)
          refine lv_iload hx hb dX6_heard_58 (lv_at hl 0 rfl) ?_
          refine lv_if_eq (tgt := 66) hx hb dX6_heard_60 (by decide) (fun c_16 => ?_) (fun c_16 => ?_)
          · rw [if_pos c_16] at hf
            refine lv_iload hx hb dX6_heard_66 (lv_at hl 7 rfl) ?_
            refine lv_if_ne (tgt := 89) hx hb dX6_heard_68 (by decide) (fun c_17 => ?_) (fun c_17 => ?_)
            · rw [if_neg c_17] at hf
              refine lv_aload_n hx hb dX6_heard_89 rfl (lv_at hl 1 rfl) ?_
              refine lv_iload_n hx hb dX6_heard_90 rfl (lv_at hl 2 rfl) ?_
              refine lv_aload_n hx hb dX6_heard_91 rfl (lv_at hl 1 rfl) ?_
              refine gf_Nn_sheets S hK hw tb_1_174 dX6_heard_92 ?_
              refine lv_iload_n hx hb dX6_heard_95 rfl (lv_at hl 3 rfl) ?_
              obtain ⟨g_18, hf⟩ := nn_ix_some hf
              have hg_18 := nn_ix_lt g_18
              refine nn_aldS S hK hw g_18 dX6_heard_96 ?_
              refine lv_iload hx hb dX6_heard_97 (lv_at hl 5 rfl) ?_
              refine lv_iload hx hb dX6_heard_99 (lv_at hl 6 rfl) ?_
              obtain ⟨q_19, h_20, hf⟩ := nn_bind hf
              refine nn_calliV S (As := [.int (a1), .ref (ad (128+2*a2.toNatClampNeg)), .int (a4), .int (a5)]) (rest := []) (ce_O (k := 0) (by decide)) (by decide) rfl rfl (c_X6_driftsHeard l D cy ad A (sC σ c) a2.toNatClampNeg (by omega) c rfl a1 a4 a5 q_19 h_20 (sC σ q_19.2) rfl) mv_X6_driftsHeard tb_3_100 hK hw ⟨Nat.le_of_ble_eq_true rfl, Nat.le_of_ble_eq_true rfl⟩ ⟨Nat.zero_le _, Nat.zero_le _⟩ rfl hl.1 rfl (Nat.le_of_ble_eq_true rfl) dX6_heard_101 (fun H locs hw => ?_)
              obtain rfl := Option.some.inj hf
              exact nn_iret S hr hlk hw rfl hσ dX6_heard_104
            · rw [if_pos c_17] at hf
              refine lv_aload_n hx hb dX6_heard_71 rfl (lv_at hl 1 rfl) ?_
              refine lv_iload_n hx hb dX6_heard_72 rfl (lv_at hl 2 rfl) ?_
              refine lv_aload_n hx hb dX6_heard_73 rfl (lv_at hl 1 rfl) ?_
              refine gf_Nn_sheets S hK hw tb_1_174 dX6_heard_74 ?_
              refine lv_iload_n hx hb dX6_heard_77 rfl (lv_at hl 3 rfl) ?_
              obtain ⟨g_21, hf⟩ := nn_ix_some hf
              have hg_21 := nn_ix_lt g_21
              refine nn_aldS S hK hw g_21 dX6_heard_78 ?_
              refine lv_iload hx hb dX6_heard_79 (lv_at hl 5 rfl) ?_
              refine lv_iload hx hb dX6_heard_81 (lv_at hl 6 rfl) ?_
              obtain ⟨q_22, h_23, hf⟩ := nn_bind hf
              refine nn_calliV S (As := [.int (a1), .ref (ad (128+2*a2.toNatClampNeg)), .int (a4), .int (a5)]) (rest := []) (ce_O (k := 0) (by decide)) (by decide) rfl rfl (c_X6_kindsHeard l D cy ad A (sC σ c) a2.toNatClampNeg (by omega) c rfl a1 a4 a5 q_22 h_23 (sC σ q_22.2) rfl) mv_X6_kindsHeard tb_3_92 hK hw ⟨Nat.le_of_ble_eq_true rfl, Nat.le_of_ble_eq_true rfl⟩ ⟨Nat.zero_le _, Nat.zero_le _⟩ rfl hl.1 rfl (Nat.le_of_ble_eq_true rfl) dX6_heard_83 (fun H locs hw => ?_)
              refine lv_goto (tgt := 104) hx hb dX6_heard_86 (by decide) ?_
              obtain rfl := Option.some.inj hf
              exact nn_iret S hr hlk hw rfl hσ dX6_heard_104
          · rw [if_neg c_16] at hf
            refine lv_iload hx hb dX6_heard_63 (lv_at hl 0 rfl) ?_
            obtain rfl := Option.some.inj hf
            exact nn_iret S hr hlk hw rfl hσ dX6_heard_65
        · rw [if_pos c_12] at hf
          refine lv_iconst (v := -1) hx hb dX6_heard_40 (by decide) ?_
          obtain rfl := Option.some.inj hf
          exact nn_iret S hr hlk hw rfl hσ dX6_heard_41
set_option maxRecDepth 100000 in
set_option maxHeartbeats 4000000 in
theorem c_X6_film (l : Launch) (D : va_G) (cy : Nat → ClassId) (ad : Nat → Nat) (A : Nat → Prop) (σ : nG) (c : nCs) (hx_C : gC σ = c) (a1 : Int32) (a2 : Int32) (a3 : Int32) (a4 : Int32) (a5 : Int32) (q : Int32 × nCs) (hf : f_X6_film c a1 a2 a3 a4 a5 = some q) (σ' : nG) (hσ : (sC σ q.2) = σ') : nn_I l yX6_film (nn_ws yX6_film cX6_film 8 (some .int)) (nn_R 4) D cy ad A [.ref (ad (118)), .int (a1), .int (a2), .int (a3), .int (a4), .int (a5)] σ q.1 σ' := by
  refine nn_enterI (plainFor_of_name (by decide +kernel)) (Nat.le_of_ble_eq_true rfl) (lv := [(0, .ref (ad (118))), (1, .int (a1)), (2, .int (a2)), (3, .int (a3)), (4, .int (a4)), (5, .int (a5))]) rfl ?_
  intro pp ee ss mm bb me co S hr hlk hK hw ls hl
  have hx := S.1
  have hb := S.2.1
  have hw : nn_W D cy ad A ss.heap (sC σ c) ss.heap [] := nn_W.eq (by rw [← hx_C]; rfl) hw
  unfold f_X6_film at hf
  have L70 : ∀ (n : Nat) (c : nCs) (u1 : Int32) (u2 : Int32) (u3 : Int32) (u5 : Int32) (u7 : Int32) (K : nCs → Int32 → Int32 → Int32 → Int32 → Int32 → Option (Int32 × nCs)), (∀ (c : nCs) (u1 : Int32) (u2 : Int32) (u3 : Int32) (u5 : Int32) (u7 : Int32), K c u1 u2 u3 u5 u7 = some q → ∀ (H : Heap) (locs : List Loc) (ls : Array Slot), nn_W D cy ad A ss.heap (sC σ c) H locs → lv_has ls 8 [(0, .ref (ad (118))), (1, .int (u1)), (2, .int (u2)), (3, .int (u3)), (5, .int (u5)), (7, .int (u7))] → W pp l ee (nn_R 4) ss mm ([.ref (ad (118)), .int (a1), .int (a2), .int (a3), .int (a4), .int (a5)] : List Value).toArray bb me co H locs 0 0 (MQ bb (nn_qi D cy ad A q.1 σ') ([.ref (ad (118)), .int (a1), .int (a2), .int (a3), .int (a4), .int (a5)] : List Value).toArray ss 0 0 A) (F0 mm 113 ls [])) → f_X6_film_L70 n c u1 u2 u3 u5 u7 K = some q → ∀ (H : Heap) (locs : List Loc) (ls : Array Slot), nn_W D cy ad A ss.heap (sC σ c) H locs → lv_has ls 8 [(0, .ref (ad (118))), (1, .int (u1)), (2, .int (u2)), (3, .int (u3)), (5, .int (u5)), (7, .int (u7))] → W pp l ee (nn_R 4) ss mm ([.ref (ad (118)), .int (a1), .int (a2), .int (a3), .int (a4), .int (a5)] : List Value).toArray bb me co H locs 0 0 (MQ bb (nn_qi D cy ad A q.1 σ') ([.ref (ad (118)), .int (a1), .int (a2), .int (a3), .int (a4), .int (a5)] : List Value).toArray ss 0 0 A) (F0 mm 70 ls []) := by
    intro n
    induction n with
    | zero => intro c u1 u2 u3 u5 u7 K hKK hf; exact absurd hf (by simp [f_X6_film_L70])
    | succ n ih =>
      intro c u1 u2 u3 u5 u7 K hKK hf H locs ls hw hl
      rw [f_X6_film_L70] at hf
      refine lv_iload hx hb dX6_film_70 (lv_at hl 5 rfl) ?_
      refine lv_iload_n hx hb dX6_film_72 rfl (lv_at hl 2 rfl) ?_
      refine lv_icmp_ge (tgt := 113) hx hb dX6_film_73 (by decide) (fun c_16 => ?_) (fun c_16 => ?_)
      · rw [if_pos c_16] at hf
        exact hKK c u1 u2 u3 u5 u7 hf _ _ _ hw (lv_sub hl [0, 1, 2, 3, 4, 5] rfl)
      · rw [if_neg c_16] at hf
        refine lv_aload_n hx hb dX6_film_76 rfl (lv_at hl 0 rfl) ?_
        refine gf_Nn_trial S hK hw tb_1_170 dX6_film_77 ?_
        obtain ⟨q_17, h_18, hf⟩ := nn_bind hf
        refine nn_callvV S (As := []) (rest := []) (ce_V (k := 0) (v := 2) (by decide) (by decide)) (by omega) rfl rfl (c_X5_passDay l D cy ad A (sC σ c) 2 (by decide) (cV c 2) rfl q_17 h_18 (sC σ (cVs c 2 q_17)) rfl) mv_X5_passDay tb_2_132 hK hw ⟨Nat.le_of_ble_eq_true rfl, Nat.le_of_ble_eq_true rfl⟩ ⟨Nat.zero_le _, Nat.zero_le _⟩ rfl hl.1 rfl (Nat.le_of_ble_eq_true rfl) dX6_film_80 (fun H locs hw => ?_)
        refine lv_aload_n hx hb dX6_film_83 rfl (lv_at hl 0 rfl) ?_
        refine gf_Nn_sheets S hK hw tb_1_174 dX6_film_84 ?_
        refine lv_iload_n hx hb dX6_film_87 rfl (lv_at hl 3 rfl) ?_
        obtain ⟨g_19, hf⟩ := nn_ix_some hf
        have hg_19 := nn_ix_lt g_19
        refine nn_aldS S hK hw g_19 dX6_film_88 ?_
        refine lv_iload hx hb dX6_film_89 (lv_at hl 4 rfl) ?_
        refine lv_iload hx hb dX6_film_91 (lv_at hl 5 rfl) ?_
        refine lv_iadd hx hb dX6_film_93 ?_
        refine lv_aload_n hx hb dX6_film_94 rfl (lv_at hl 0 rfl) ?_
        refine gf_Nn_trial S hK hw tb_1_170 dX6_film_95 ?_
        refine gf_Vl_minutes S hK hw (v := 2) (by decide) tb_1_30 dX6_film_98 ?_
        refine lv_iload_n hx hb dX6_film_101 rfl (lv_at hl 1 rfl) ?_
        obtain ⟨g_20, hf⟩ := nn_ix_some hf
        refine al_Vl_minutes S hK hw (v := 2) (by decide) (x := (cV (cVs c 2 q_17) 2)) rfl g_20 dX6_film_102 ?_
        refine lv_i2l (v := ((g_Vl_minutes (cV (cVs c 2 q_17) 2)) u1.toNatClampNeg).toInt64) hx hb dX6_film_103 rfl ?_
        obtain ⟨q_21, h_22, hf⟩ := nn_bind hf
        refine nn_callvV S (As := [.int (u5 + u7), .long (((g_Vl_minutes (cV (cVs c 2 q_17) 2)) u1.toNatClampNeg).toInt64)]) (rest := []) (ce_S (k := 0) (v := u3.toNatClampNeg) (by omega) (by decide)) (by omega) rfl rfl (c_X3_put l D cy ad A (sC σ (cVs c 2 q_17)) u3.toNatClampNeg (by omega) (cS (cVs c 2 q_17) u3.toNatClampNeg) rfl (u5 + u7) (((g_Vl_minutes (cV (cVs c 2 q_17) 2)) u1.toNatClampNeg).toInt64) q_21 h_22 (sC σ (cSs (cVs c 2 q_17) u3.toNatClampNeg q_21)) rfl) mv_X3_put tb_3_108 hK hw ⟨Nat.le_of_ble_eq_true rfl, Nat.le_of_ble_eq_true rfl⟩ ⟨Nat.zero_le _, Nat.zero_le _⟩ rfl hl.1 rfl (Nat.le_of_ble_eq_true rfl) dX6_film_104 (fun H locs hw => ?_)
        refine lv_iinc (v := u7 + (1 : Int32)) (lv' := [(7, .int (u7 + (1 : Int32))), (0, .ref (ad (118))), (1, .int (u1)), (2, .int (u2)), (3, .int (u3)), (5, .int (u5))]) hx hb dX6_film_107 hl (k := 5) rfl (congrArg (fun z => u7 + z) (by decide)) (by decide) rfl (fun ls hl => ?_)
        refine lv_goto (tgt := 70) hx hb dX6_film_110 (by decide) ?_
        exact ih (cSs (cVs c 2 q_17) u3.toNatClampNeg q_21) u1 u2 u3 u5 (u7 + (1 : Int32)) K hKK hf _ _ _ hw (lv_sub hl [1, 2, 3, 4, 5, 0] rfl)
  refine lv_aload_n hx hb dX6_film_0 rfl (lv_at hl 0 rfl) ?_
  refine gf_Nn_now S hK hw tb_1_165 dX6_film_1 ?_
  refine lv_iload_n hx hb dX6_film_4 rfl (lv_at hl 1 rfl) ?_
  obtain ⟨q_1, h_2, hf⟩ := nn_bind hf
  refine nn_calliV S (As := [.int (a1)]) (rest := []) (ce_V (k := 0) (v := 0) (by decide) (by decide)) (by omega) rfl rfl (c_X5_has l D cy ad A (sC σ c) 0 (by decide) (cV c 0) rfl a1 q_1 h_2) mv_X5_has tb_1_218 hK hw ⟨Nat.le_of_ble_eq_true rfl, Nat.le_of_ble_eq_true rfl⟩ ⟨Nat.zero_le _, Nat.zero_le _⟩ rfl hl.1 rfl (Nat.le_of_ble_eq_true rfl) dX6_film_5 (fun H locs hw => ?_)
  refine lv_if_eq (tgt := 30) hx hb dX6_film_8 (by decide) (fun c_3 => ?_) (fun c_3 => ?_)
  · rw [if_pos c_3] at hf
    refine lv_iconst (v := -1) hx hb dX6_film_30 (by decide) ?_
    obtain rfl := Option.some.inj hf
    exact nn_iret S hr hlk hw rfl hσ dX6_film_31
  · rw [if_neg c_3] at hf
    refine lv_iload_n hx hb dX6_film_11 rfl (lv_at hl 2 rfl) ?_
    refine lv_iconst (v := 1) hx hb dX6_film_12 (by decide) ?_
    refine lv_bipush (v := 24) hx hb dX6_film_13 (by decide) ?_
    obtain ⟨q_4, h_5, hf⟩ := nn_bind hf
    refine nn_calliS S (As := [.int (a2), .int ((1 : Int32)), .int ((24 : Int32))]) (rest := []) (c_X6_within l D cy ad A (sC σ c) a2 (1 : Int32) (24 : Int32) q_4 h_5) mv_X6_within tb_1_200 hK hw ⟨Nat.le_of_ble_eq_true rfl, Nat.le_of_ble_eq_true rfl⟩ ⟨Nat.zero_le _, Nat.zero_le _⟩ rfl hl.1 rfl (Nat.le_of_ble_eq_true rfl) dX6_film_15 (fun H locs hw => ?_)
    refine lv_if_eq (tgt := 30) hx hb dX6_film_18 (by decide) (fun c_6 => ?_) (fun c_6 => ?_)
    · rw [if_pos c_6] at hf
      refine lv_iconst (v := -1) hx hb dX6_film_30 (by decide) ?_
      obtain rfl := Option.some.inj hf
      exact nn_iret S hr hlk hw rfl hσ dX6_film_31
    · rw [if_neg c_6] at hf
      refine lv_iload_n hx hb dX6_film_21 rfl (lv_at hl 3 rfl) ?_
      refine lv_iload hx hb dX6_film_22 (lv_at hl 4 rfl) ?_
      obtain ⟨q_7, h_8, hf⟩ := nn_bind hf
      refine nn_calliS S (As := [.int (a3), .int (a4)]) (rest := []) (c_X6_isSheetAndLane l D cy ad A (sC σ c) a3 a4 q_7 h_8) mv_X6_isSheetAndLane tb_3_77 hK hw ⟨Nat.le_of_ble_eq_true rfl, Nat.le_of_ble_eq_true rfl⟩ ⟨Nat.zero_le _, Nat.zero_le _⟩ rfl hl.1 rfl (Nat.le_of_ble_eq_true rfl) dX6_film_24 (fun H locs hw => ?_)
      refine lv_if_ne (tgt := 32) hx hb dX6_film_27 (by decide) (fun c_9 => ?_) (fun c_9 => ?_)
      · rw [if_neg c_9] at hf
        refine lv_aload_n hx hb dX6_film_32 rfl (lv_at hl 0 rfl) ?_
        refine gf_Nn_sheets S hK hw tb_1_174 dX6_film_33 ?_
        refine lv_iload_n hx hb dX6_film_36 rfl (lv_at hl 3 rfl) ?_
        obtain ⟨g_10, hf⟩ := nn_ix_some hf
        have hg_10 := nn_ix_lt g_10
        refine nn_aldS S hK hw g_10 dX6_film_37 ?_
        refine lv_iload hx hb dX6_film_38 (lv_at hl 4 rfl) ?_
        refine lv_iload hx hb dX6_film_40 (lv_at hl 5 rfl) ?_
        refine lv_iload_n hx hb dX6_film_42 rfl (lv_at hl 2 rfl) ?_
        obtain ⟨q_11, h_12, hf⟩ := nn_bind hf
        refine nn_calliV S (As := [.int (a4), .int (a5), .int (a2)]) (rest := []) (ce_S (k := 0) (v := a3.toNatClampNeg) (by omega) (by decide)) (by omega) rfl rfl (c_X3_refusal l D cy ad A (sC σ c) a3.toNatClampNeg (by omega) (cS c a3.toNatClampNeg) rfl a4 a5 a2 q_11 h_12) mv_X3_refusal tb_3_80 hK hw ⟨Nat.le_of_ble_eq_true rfl, Nat.le_of_ble_eq_true rfl⟩ ⟨Nat.zero_le _, Nat.zero_le _⟩ rfl hl.1 rfl (Nat.le_of_ble_eq_true rfl) dX6_film_43 (fun H locs hw => ?_)
        refine lv_istore (lv' := [(6, .int (q_11)), (0, .ref (ad (118))), (1, .int (a1)), (2, .int (a2)), (3, .int (a3)), (4, .int (a4)), (5, .int (a5))]) hx hb dX6_film_46 hl (by decide) rfl (fun ls hl => ?_)
        refine lv_iload hx hb dX6_film_48 (lv_at hl 0 rfl) ?_
        refine lv_if_eq (tgt := 56) hx hb dX6_film_50 (by decide) (fun c_13 => ?_) (fun c_13 => ?_)
        · rw [if_pos c_13] at hf
          refine lv_aload_n hx hb dX6_film_56 rfl (lv_at hl 1 rfl) ?_
          refine gf_Nn_trial S hK hw tb_1_170 dX6_film_57 ?_
          refine lv_aload_n hx hb dX6_film_60 rfl (lv_at hl 1 rfl) ?_
          refine gf_Nn_now S hK hw tb_1_165 dX6_film_61 ?_
          obtain ⟨q_14, h_15, hf⟩ := nn_bind hf
          refine nn_callvV S (As := [.ref (ad (0))]) (rest := []) (ce_V (k := 0) (v := 2) (by decide) (by decide)) (by omega) rfl rfl (c_X5_becomeLike l D cy ad A (sC σ c) 2 (by decide) 0 (by decide) (by omega) (cV c 2) rfl (cV c 0) rfl q_14 h_15 (sC σ (cVs c 2 q_14)) rfl) mv_X5_becomeLike tb_2_33 hK hw ⟨Nat.le_of_ble_eq_true rfl, Nat.le_of_ble_eq_true rfl⟩ ⟨Nat.zero_le _, Nat.zero_le _⟩ rfl hl.1 rfl (Nat.le_of_ble_eq_true rfl) dX6_film_64 (fun H locs hw => ?_)
          refine lv_iconst (v := 0) hx hb dX6_film_67 (by decide) ?_
          refine lv_istore (lv' := [(7, .int ((0 : Int32))), (6, .int (q_11)), (0, .ref (ad (118))), (1, .int (a1)), (2, .int (a2)), (3, .int (a3)), (4, .int (a4)), (5, .int (a5))]) hx hb dX6_film_68 hl (by decide) rfl (fun ls hl => ?_)
          refine L70 100000 (cVs c 2 q_14) a1 a2 a3 a5 (0 : Int32) _ (fun c_28 b1_23 b2_24 b3_25 b5_26 b7_27 hf H locs ls hw hl => ?_) hf _ _ _ hw (lv_sub hl [2, 3, 4, 5, 7, 0] rfl)
          refine lv_iload_n hx hb dX6_film_113 rfl (lv_at hl 2 rfl) ?_
          obtain rfl := Option.some.inj hf
          exact nn_iret S hr hlk hw rfl hσ dX6_film_114
        · rw [if_neg c_13] at hf
          refine lv_iload hx hb dX6_film_53 (lv_at hl 0 rfl) ?_
          obtain rfl := Option.some.inj hf
          exact nn_iret S hr hlk hw rfl hσ dX6_film_55
      · rw [if_pos c_9] at hf
        refine lv_iconst (v := -1) hx hb dX6_film_30 (by decide) ?_
        obtain rfl := Option.some.inj hf
        exact nn_iret S hr hlk hw rfl hσ dX6_film_31
set_option maxRecDepth 100000 in
set_option maxHeartbeats 4000000 in
theorem c_X6_sheet (l : Launch) (D : va_G) (cy : Nat → ClassId) (ad : Nat → Nat) (A : Nat → Prop) (σ : nG) (c : nCs) (hx_C : gC σ = c) (a1 : Int32) (a2 : Int32) (a3 : Int32) (q : Int32 × nCs) (hf : f_X6_sheet c a1 a2 a3 = some q) (σ' : nG) (hσ : (sC σ q.2) = σ') : nn_I l yX6_sheet (nn_ws yX6_sheet cX6_sheet 4 (some .int)) (nn_R 2) D cy ad A [.ref (ad (118)), .int (a1), .int (a2), .int (a3)] σ q.1 σ' := by
  refine nn_enterI (plainFor_of_name (by decide +kernel)) (Nat.le_of_ble_eq_true rfl) (lv := [(0, .ref (ad (118))), (1, .int (a1)), (2, .int (a2)), (3, .int (a3))]) rfl ?_
  intro pp ee ss mm bb me co S hr hlk hK hw ls hl
  have hx := S.1
  have hb := S.2.1
  have hw : nn_W D cy ad A ss.heap (sC σ c) ss.heap [] := nn_W.eq (by rw [← hx_C]; rfl) hw
  unfold f_X6_sheet at hf
  refine lv_iload_n hx hb dX6_sheet_0 rfl (lv_at hl 1 rfl) ?_
  refine lv_iload_n hx hb dX6_sheet_1 rfl (lv_at hl 2 rfl) ?_
  obtain ⟨q_1, h_2, hf⟩ := nn_bind hf
  refine nn_calliS S (As := [.int (a1), .int (a2)]) (rest := []) (c_X6_isSheetAndLane l D cy ad A (sC σ c) a1 a2 q_1 h_2) mv_X6_isSheetAndLane tb_3_77 hK hw ⟨Nat.le_of_ble_eq_true rfl, Nat.le_of_ble_eq_true rfl⟩ ⟨Nat.zero_le _, Nat.zero_le _⟩ rfl hl.1 rfl (Nat.le_of_ble_eq_true rfl) dX6_sheet_2 (fun H locs hw => ?_)
  refine lv_if_eq (tgt := 14) hx hb dX6_sheet_5 (by decide) (fun c_3 => ?_) (fun c_3 => ?_)
  · rw [if_pos c_3] at hf
    refine lv_iconst (v := -1) hx hb dX6_sheet_14 (by decide) ?_
    obtain rfl := Option.some.inj hf
    exact nn_iret S hr hlk hw rfl hσ dX6_sheet_15
  · rw [if_neg c_3] at hf
    refine lv_iload_n hx hb dX6_sheet_8 rfl (lv_at hl 3 rfl) ?_
    refine lv_bipush (v := 24) hx hb dX6_sheet_9 (by decide) ?_
    refine lv_icmp_le (tgt := 16) hx hb dX6_sheet_11 (by decide) (fun c_4 => ?_) (fun c_4 => ?_)
    · rw [if_pos c_4] at hf
      refine lv_iload_n hx hb dX6_sheet_16 rfl (lv_at hl 3 rfl) ?_
      refine lv_if_ge (tgt := 23) hx hb dX6_sheet_17 (by decide) (fun c_5 => ?_) (fun c_5 => ?_)
      · rw [if_pos c_5] at hf
        refine lv_aload_n hx hb dX6_sheet_23 rfl (lv_at hl 0 rfl) ?_
        refine gf_Nn_sheets S hK hw tb_1_174 dX6_sheet_24 ?_
        refine lv_iload_n hx hb dX6_sheet_27 rfl (lv_at hl 1 rfl) ?_
        obtain ⟨g_6, hf⟩ := nn_ix_some hf
        have hg_6 := nn_ix_lt g_6
        refine nn_aldS S hK hw g_6 dX6_sheet_28 ?_
        refine lv_iload_n hx hb dX6_sheet_29 rfl (lv_at hl 2 rfl) ?_
        refine lv_iload_n hx hb dX6_sheet_30 rfl (lv_at hl 3 rfl) ?_
        obtain ⟨q_7, h_8, hf⟩ := nn_bind hf
        refine nn_callvV S (As := [.int (a2), .int (a3)]) (rest := []) (ce_S (k := 0) (v := a1.toNatClampNeg) (by omega) (by decide)) (by omega) rfl rfl (c_X3_renew l D cy ad A (sC σ c) a1.toNatClampNeg (by omega) (cS c a1.toNatClampNeg) rfl a2 a3 q_7 h_8 (sC σ (cSs c a1.toNatClampNeg q_7)) rfl) mv_X3_renew tb_3_116 hK hw ⟨Nat.le_of_ble_eq_true rfl, Nat.le_of_ble_eq_true rfl⟩ ⟨Nat.zero_le _, Nat.zero_le _⟩ rfl hl.1 rfl (Nat.le_of_ble_eq_true rfl) dX6_sheet_31 (fun H locs hw => ?_)
        refine lv_iload_n hx hb dX6_sheet_34 rfl (lv_at hl 3 rfl) ?_
        obtain rfl := Option.some.inj hf
        exact nn_iret S hr hlk hw rfl hσ dX6_sheet_35
      · rw [if_neg c_5] at hf
        refine lv_bipush (v := -14) hx hb dX6_sheet_20 (by decide) ?_
        obtain rfl := Option.some.inj hf
        exact nn_iret S hr hlk hw rfl hσ dX6_sheet_22
    · rw [if_neg c_4] at hf
      refine lv_iconst (v := -1) hx hb dX6_sheet_14 (by decide) ?_
      obtain rfl := Option.some.inj hf
      exact nn_iret S hr hlk hw rfl hσ dX6_sheet_15
set_option maxRecDepth 100000 in
set_option maxHeartbeats 4000000 in
theorem c_X6_drop (l : Launch) (D : va_G) (cy : Nat → ClassId) (ad : Nat → Nat) (A : Nat → Prop) (σ : nG) (c : nCs) (hx_C : gC σ = c) (a1 : Int32) (q : Int32 × nCs) (hf : f_X6_drop c a1 = some q) (σ' : nG) (hσ : (sC σ q.2) = σ') : nn_I l yX6_drop (nn_ws yX6_drop cX6_drop 3 (some .int)) (nn_R 1) D cy ad A [.ref (ad (118)), .int (a1)] σ q.1 σ' := by
  refine nn_enterI (plainFor_of_name (by decide +kernel)) (Nat.le_of_ble_eq_true rfl) (lv := [(0, .ref (ad (118))), (1, .int (a1))]) rfl ?_
  intro pp ee ss mm bb me co S hr hlk hK hw ls hl
  have hx := S.1
  have hb := S.2.1
  have hw : nn_W D cy ad A ss.heap (sC σ c) ss.heap [] := nn_W.eq (by rw [← hx_C]; rfl) hw
  unfold f_X6_drop at hf
  refine lv_iload_n hx hb dX6_drop_0 rfl (lv_at hl 1 rfl) ?_
  refine lv_iconst (v := 0) hx hb dX6_drop_1 (by decide) ?_
  refine lv_iconst (v := 3) hx hb dX6_drop_2 (by decide) ?_
  obtain ⟨q_1, h_2, hf⟩ := nn_bind hf
  refine nn_calliS S (As := [.int (a1), .int ((0 : Int32)), .int ((3 : Int32))]) (rest := []) (c_X6_within l D cy ad A (sC σ c) a1 (0 : Int32) (3 : Int32) q_1 h_2) mv_X6_within tb_1_200 hK hw ⟨Nat.le_of_ble_eq_true rfl, Nat.le_of_ble_eq_true rfl⟩ ⟨Nat.zero_le _, Nat.zero_le _⟩ rfl hl.1 rfl (Nat.le_of_ble_eq_true rfl) dX6_drop_3 (fun H locs hw => ?_)
  refine lv_if_ne (tgt := 11) hx hb dX6_drop_6 (by decide) (fun c_3 => ?_) (fun c_3 => ?_)
  · rw [if_neg c_3] at hf
    refine lv_aload_n hx hb dX6_drop_11 rfl (lv_at hl 0 rfl) ?_
    refine gf_Nn_sheets S hK hw tb_1_174 dX6_drop_12 ?_
    refine lv_iload_n hx hb dX6_drop_15 rfl (lv_at hl 1 rfl) ?_
    obtain ⟨g_4, hf⟩ := nn_ix_some hf
    have hg_4 := nn_ix_lt g_4
    refine nn_aldS S hK hw g_4 dX6_drop_16 ?_
    obtain ⟨q_5, h_6, hf⟩ := nn_bind hf
    refine nn_calliV S (As := []) (rest := []) (ce_S (k := 0) (v := a1.toNatClampNeg) (by omega) (by decide)) (by omega) rfl rfl (c_X3_isMissing l D cy ad A (sC σ c) a1.toNatClampNeg (by omega) (cS c a1.toNatClampNeg) rfl q_5 h_6) mv_X3_isMissing tb_3_124 hK hw ⟨Nat.le_of_ble_eq_true rfl, Nat.le_of_ble_eq_true rfl⟩ ⟨Nat.zero_le _, Nat.zero_le _⟩ rfl hl.1 rfl (Nat.le_of_ble_eq_true rfl) dX6_drop_17 (fun H locs hw => ?_)
    refine lv_if_eq (tgt := 26) hx hb dX6_drop_20 (by decide) (fun c_7 => ?_) (fun c_7 => ?_)
    · rw [if_pos c_7] at hf
      refine lv_aload_n hx hb dX6_drop_26 rfl (lv_at hl 0 rfl) ?_
      refine gf_Nn_sheets S hK hw tb_1_174 dX6_drop_27 ?_
      refine lv_iload_n hx hb dX6_drop_30 rfl (lv_at hl 1 rfl) ?_
      obtain ⟨g_8, hf⟩ := nn_ix_some hf
      have hg_8 := nn_ix_lt g_8
      refine nn_aldS S hK hw g_8 dX6_drop_31 ?_
      refine gf_Sh_length S hK hw (v := a1.toNatClampNeg) (by omega) (x := (cS c a1.toNatClampNeg)) rfl tb_1_156 dX6_drop_32 ?_
      refine lv_istore_n (lv' := [(2, .int (g_Sh_length (cS c a1.toNatClampNeg))), (0, .ref (ad (118))), (1, .int (a1))]) hx hb dX6_drop_35 rfl hl (by decide) rfl (fun ls hl => ?_)
      refine lv_aload_n hx hb dX6_drop_36 rfl (lv_at hl 1 rfl) ?_
      refine gf_Nn_sheets S hK hw tb_1_174 dX6_drop_37 ?_
      refine lv_iload_n hx hb dX6_drop_40 rfl (lv_at hl 2 rfl) ?_
      obtain ⟨g_9, hf⟩ := nn_ix_some hf
      have hg_9 := nn_ix_lt g_9
      refine nn_aldS S hK hw g_9 dX6_drop_41 ?_
      obtain ⟨q_10, h_11, hf⟩ := nn_bind hf
      refine nn_callvV S (As := []) (rest := []) (ce_S (k := 0) (v := a1.toNatClampNeg) (by omega) (by decide)) (by omega) rfl rfl (c_X3_remove l D cy ad A (sC σ c) a1.toNatClampNeg (by omega) (cS c a1.toNatClampNeg) rfl q_10 h_11 (sC σ (cSs c a1.toNatClampNeg q_10)) rfl) mv_X3_remove tb_3_125 hK hw ⟨Nat.le_of_ble_eq_true rfl, Nat.le_of_ble_eq_true rfl⟩ ⟨Nat.zero_le _, Nat.zero_le _⟩ rfl hl.1 rfl (Nat.le_of_ble_eq_true rfl) dX6_drop_42 (fun H locs hw => ?_)
      refine lv_iload_n hx hb dX6_drop_45 rfl (lv_at hl 0 rfl) ?_
      obtain rfl := Option.some.inj hf
      exact nn_iret S hr hlk hw rfl hσ dX6_drop_46
    · rw [if_neg c_7] at hf
      refine lv_bipush (v := -11) hx hb dX6_drop_23 (by decide) ?_
      obtain rfl := Option.some.inj hf
      exact nn_iret S hr hlk hw rfl hσ dX6_drop_25
  · rw [if_pos c_3] at hf
    refine lv_iconst (v := -1) hx hb dX6_drop_9 (by decide) ?_
    obtain rfl := Option.some.inj hf
    exact nn_iret S hr hlk hw rfl hσ dX6_drop_10
set_option maxRecDepth 100000 in
set_option maxHeartbeats 4000000 in
theorem c_X6_item (l : Launch) (D : va_G) (cy : Nat → ClassId) (ad : Nat → Nat) (A : Nat → Prop) (σ : nG) (c : nCs) (hx_C : gC σ = c) (a1 : Int32) (a2 : Int32) (a3 : Int32) (a4 : Int64) (q : Int32 × nCs) (hf : f_X6_item c a1 a2 a3 a4 = some q) (σ' : nG) (hσ : (sC σ q.2) = σ') : nn_I l yX6_item (nn_ws yX6_item cX6_item 7 (some .int)) (nn_R 2) D cy ad A [.ref (ad (118)), .int (a1), .int (a2), .int (a3), .long (a4)] σ q.1 σ' := by
  refine nn_enterI (plainFor_of_name (by decide +kernel)) (Nat.le_of_ble_eq_true rfl) (lv := [(0, .ref (ad (118))), (1, .int (a1)), (2, .int (a2)), (3, .int (a3)), (4, .long (a4))]) rfl ?_
  intro pp ee ss mm bb me co S hr hlk hK hw ls hl
  have hx := S.1
  have hb := S.2.1
  have hw : nn_W D cy ad A ss.heap (sC σ c) ss.heap [] := nn_W.eq (by rw [← hx_C]; rfl) hw
  unfold f_X6_item at hf
  refine lv_iload_n hx hb dX6_item_0 rfl (lv_at hl 1 rfl) ?_
  refine lv_iload_n hx hb dX6_item_1 rfl (lv_at hl 2 rfl) ?_
  obtain ⟨q_1, h_2, hf⟩ := nn_bind hf
  refine nn_calliS S (As := [.int (a1), .int (a2)]) (rest := []) (c_X6_isSheetAndLane l D cy ad A (sC σ c) a1 a2 q_1 h_2) mv_X6_isSheetAndLane tb_3_77 hK hw ⟨Nat.le_of_ble_eq_true rfl, Nat.le_of_ble_eq_true rfl⟩ ⟨Nat.zero_le _, Nat.zero_le _⟩ rfl hl.1 rfl (Nat.le_of_ble_eq_true rfl) dX6_item_2 (fun H locs hw => ?_)
  refine lv_if_ne (tgt := 10) hx hb dX6_item_5 (by decide) (fun c_3 => ?_) (fun c_3 => ?_)
  · rw [if_neg c_3] at hf
    refine lv_aload_n hx hb dX6_item_10 rfl (lv_at hl 0 rfl) ?_
    refine gf_Nn_sheets S hK hw tb_1_174 dX6_item_11 ?_
    refine lv_iload_n hx hb dX6_item_14 rfl (lv_at hl 1 rfl) ?_
    obtain ⟨g_4, hf⟩ := nn_ix_some hf
    have hg_4 := nn_ix_lt g_4
    refine nn_aldS S hK hw g_4 dX6_item_15 ?_
    refine lv_iload_n hx hb dX6_item_16 rfl (lv_at hl 2 rfl) ?_
    refine lv_iload_n hx hb dX6_item_17 rfl (lv_at hl 3 rfl) ?_
    refine lv_iconst (v := 1) hx hb dX6_item_18 (by decide) ?_
    obtain ⟨q_5, h_6, hf⟩ := nn_bind hf
    refine nn_calliV S (As := [.int (a2), .int (a3), .int ((1 : Int32))]) (rest := []) (ce_S (k := 0) (v := a1.toNatClampNeg) (by omega) (by decide)) (by omega) rfl rfl (c_X3_refusal l D cy ad A (sC σ c) a1.toNatClampNeg (by omega) (cS c a1.toNatClampNeg) rfl a2 a3 (1 : Int32) q_5 h_6) mv_X3_refusal tb_3_80 hK hw ⟨Nat.le_of_ble_eq_true rfl, Nat.le_of_ble_eq_true rfl⟩ ⟨Nat.zero_le _, Nat.zero_le _⟩ rfl hl.1 rfl (Nat.le_of_ble_eq_true rfl) dX6_item_19 (fun H locs hw => ?_)
    refine lv_istore (lv' := [(6, .int (q_5)), (0, .ref (ad (118))), (1, .int (a1)), (2, .int (a2)), (3, .int (a3)), (4, .long (a4))]) hx hb dX6_item_22 hl (by decide) rfl (fun ls hl => ?_)
    refine lv_iload hx hb dX6_item_24 (lv_at hl 0 rfl) ?_
    refine lv_if_eq (tgt := 32) hx hb dX6_item_26 (by decide) (fun c_7 => ?_) (fun c_7 => ?_)
    · rw [if_pos c_7] at hf
      refine lv_aload_n hx hb dX6_item_32 rfl (lv_at hl 1 rfl) ?_
      refine gf_Nn_sheets S hK hw tb_1_174 dX6_item_33 ?_
      refine lv_iload_n hx hb dX6_item_36 rfl (lv_at hl 2 rfl) ?_
      obtain ⟨g_8, hf⟩ := nn_ix_some hf
      have hg_8 := nn_ix_lt g_8
      refine nn_aldS S hK hw g_8 dX6_item_37 ?_
      refine lv_iload_n hx hb dX6_item_38 rfl (lv_at hl 4 rfl) ?_
      refine lv_lload hx hb dX6_item_39 (lv_at hl 5 rfl) ?_
      obtain ⟨q_9, h_10, hf⟩ := nn_bind hf
      refine nn_callvV S (As := [.int (a3), .long (a4)]) (rest := []) (ce_S (k := 0) (v := a1.toNatClampNeg) (by omega) (by decide)) (by omega) rfl rfl (c_X3_put l D cy ad A (sC σ c) a1.toNatClampNeg (by omega) (cS c a1.toNatClampNeg) rfl a3 a4 q_9 h_10 (sC σ (cSs c a1.toNatClampNeg q_9)) rfl) mv_X3_put tb_3_108 hK hw ⟨Nat.le_of_ble_eq_true rfl, Nat.le_of_ble_eq_true rfl⟩ ⟨Nat.zero_le _, Nat.zero_le _⟩ rfl hl.1 rfl (Nat.le_of_ble_eq_true rfl) dX6_item_41 (fun H locs hw => ?_)
      refine lv_iconst (v := 1) hx hb dX6_item_44 (by decide) ?_
      obtain rfl := Option.some.inj hf
      exact nn_iret S hr hlk hw rfl hσ dX6_item_45
    · rw [if_neg c_7] at hf
      refine lv_iload hx hb dX6_item_29 (lv_at hl 0 rfl) ?_
      obtain rfl := Option.some.inj hf
      exact nn_iret S hr hlk hw rfl hσ dX6_item_31
  · rw [if_pos c_3] at hf
    refine lv_iconst (v := -1) hx hb dX6_item_8 (by decide) ?_
    obtain rfl := Option.some.inj hf
    exact nn_iret S hr hlk hw rfl hσ dX6_item_9
set_option maxRecDepth 100000 in
set_option maxHeartbeats 4000000 in
theorem c_X6_copy (l : Launch) (D : va_G) (cy : Nat → ClassId) (ad : Nat → Nat) (A : Nat → Prop) (σ : nG) (c : nCs) (hx_C : gC σ = c) (a1 : Int32) (a2 : Int32) (a3 : Int32) (a4 : Int32) (a5 : Int32) (q : Int32 × nCs) (hf : f_X6_copy c a1 a2 a3 a4 a5 = some q) (σ' : nG) (hσ : (sC σ q.2) = σ') : nn_I l yX6_copy (nn_ws yX6_copy cX6_copy 8 (some .int)) (nn_R 1) D cy ad A [.ref (ad (118)), .int (a1), .int (a2), .int (a3), .int (a4), .int (a5)] σ q.1 σ' := by
  refine nn_enterI (plainFor_of_name (by decide +kernel)) (Nat.le_of_ble_eq_true rfl) (lv := [(0, .ref (ad (118))), (1, .int (a1)), (2, .int (a2)), (3, .int (a3)), (4, .int (a4)), (5, .int (a5))]) rfl ?_
  intro pp ee ss mm bb me co S hr hlk hK hw ls hl
  have hx := S.1
  have hb := S.2.1
  have hw : nn_W D cy ad A ss.heap (sC σ c) ss.heap [] := nn_W.eq (by rw [← hx_C]; rfl) hw
  unfold f_X6_copy at hf
  refine lv_iload_n hx hb dX6_copy_0 rfl (lv_at hl 1 rfl) ?_
  refine lv_iconst (v := 0) hx hb dX6_copy_1 (by decide) ?_
  refine lv_iconst (v := 3) hx hb dX6_copy_2 (by decide) ?_
  obtain ⟨q_1, h_2, hf⟩ := nn_bind hf
  refine nn_calliS S (As := [.int (a1), .int ((0 : Int32)), .int ((3 : Int32))]) (rest := []) (c_X6_within l D cy ad A (sC σ c) a1 (0 : Int32) (3 : Int32) q_1 h_2) mv_X6_within tb_1_200 hK hw ⟨Nat.le_of_ble_eq_true rfl, Nat.le_of_ble_eq_true rfl⟩ ⟨Nat.zero_le _, Nat.zero_le _⟩ rfl hl.1 rfl (Nat.le_of_ble_eq_true rfl) dX6_copy_3 (fun H locs hw => ?_)
  refine lv_if_eq (tgt := 18) hx hb dX6_copy_6 (by decide) (fun c_3 => ?_) (fun c_3 => ?_)
  · rw [if_pos c_3] at hf
    refine lv_iconst (v := -1) hx hb dX6_copy_18 (by decide) ?_
    obtain rfl := Option.some.inj hf
    exact nn_iret S hr hlk hw rfl hσ dX6_copy_19
  · rw [if_neg c_3] at hf
    refine lv_iload_n hx hb dX6_copy_9 rfl (lv_at hl 3 rfl) ?_
    refine lv_iconst (v := 0) hx hb dX6_copy_10 (by decide) ?_
    refine lv_iconst (v := 3) hx hb dX6_copy_11 (by decide) ?_
    obtain ⟨q_4, h_5, hf⟩ := nn_bind hf
    refine nn_calliS S (As := [.int (a3), .int ((0 : Int32)), .int ((3 : Int32))]) (rest := []) (c_X6_within l D cy ad A (sC σ c) a3 (0 : Int32) (3 : Int32) q_4 h_5) mv_X6_within tb_1_200 hK hw ⟨Nat.le_of_ble_eq_true rfl, Nat.le_of_ble_eq_true rfl⟩ ⟨Nat.zero_le _, Nat.zero_le _⟩ rfl hl.1 rfl (Nat.le_of_ble_eq_true rfl) dX6_copy_12 (fun H locs hw => ?_)
    refine lv_if_ne (tgt := 20) hx hb dX6_copy_15 (by decide) (fun c_6 => ?_) (fun c_6 => ?_)
    · rw [if_neg c_6] at hf
      refine lv_aload_n hx hb dX6_copy_20 rfl (lv_at hl 0 rfl) ?_
      refine gf_Nn_sheets S hK hw tb_1_174 dX6_copy_21 ?_
      refine lv_iload_n hx hb dX6_copy_24 rfl (lv_at hl 1 rfl) ?_
      obtain ⟨g_7, hf⟩ := nn_ix_some hf
      have hg_7 := nn_ix_lt g_7
      refine nn_aldS S hK hw g_7 dX6_copy_25 ?_
      refine lv_astore (lv' := [(6, .ref (ad (128+2*a1.toNatClampNeg))), (0, .ref (ad (118))), (1, .int (a1)), (2, .int (a2)), (3, .int (a3)), (4, .int (a4)), (5, .int (a5))]) hx hb dX6_copy_26 hl (by decide) rfl (fun ls hl => ?_)
      refine lv_aload_n hx hb dX6_copy_28 rfl (lv_at hl 1 rfl) ?_
      refine gf_Nn_sheets S hK hw tb_1_174 dX6_copy_29 ?_
      refine lv_iload_n hx hb dX6_copy_32 rfl (lv_at hl 4 rfl) ?_
      obtain ⟨g_8, hf⟩ := nn_ix_some hf
      have hg_8 := nn_ix_lt g_8
      refine nn_aldS S hK hw g_8 dX6_copy_33 ?_
      refine lv_astore (lv' := [(7, .ref (ad (128+2*a3.toNatClampNeg))), (6, .ref (ad (128+2*a1.toNatClampNeg))), (0, .ref (ad (118))), (1, .int (a1)), (2, .int (a2)), (3, .int (a3)), (4, .int (a4)), (5, .int (a5))]) hx hb dX6_copy_34 hl (by decide) rfl (fun ls hl => ?_)
      refine lv_aload hx hb dX6_copy_36 (lv_at hl 1 rfl) ?_
      obtain ⟨q_9, h_10, hf⟩ := nn_bind hf
      refine nn_calliV S (As := []) (rest := []) (ce_S (k := 0) (v := a1.toNatClampNeg) (by omega) (by decide)) (by omega) rfl rfl (c_X3_isMissing l D cy ad A (sC σ c) a1.toNatClampNeg (by omega) (cS c a1.toNatClampNeg) rfl q_9 h_10) mv_X3_isMissing tb_3_124 hK hw ⟨Nat.le_of_ble_eq_true rfl, Nat.le_of_ble_eq_true rfl⟩ ⟨Nat.zero_le _, Nat.zero_le _⟩ rfl hl.1 rfl (Nat.le_of_ble_eq_true rfl) dX6_copy_38 (fun H locs hw => ?_)
      refine lv_if_ne (tgt := 52) hx hb dX6_copy_41 (by decide) (fun c_11 => ?_) (fun c_11 => ?_)
      · rw [if_neg c_11] at hf
        refine lv_bipush (v := -11) hx hb dX6_copy_52 (by decide) ?_
        obtain rfl := Option.some.inj hf
        exact nn_iret S hr hlk hw rfl hσ dX6_copy_54
      · rw [if_pos c_11] at hf
        refine lv_aload hx hb dX6_copy_44 (lv_at hl 0 rfl) ?_
        obtain ⟨q_12, h_13, hf⟩ := nn_bind hf
        refine nn_calliV S (As := []) (rest := []) (ce_S (k := 0) (v := a3.toNatClampNeg) (by omega) (by decide)) (by omega) rfl rfl (c_X3_isMissing l D cy ad A (sC σ c) a3.toNatClampNeg (by omega) (cS c a3.toNatClampNeg) rfl q_12 h_13) mv_X3_isMissing tb_3_124 hK hw ⟨Nat.le_of_ble_eq_true rfl, Nat.le_of_ble_eq_true rfl⟩ ⟨Nat.zero_le _, Nat.zero_le _⟩ rfl hl.1 rfl (Nat.le_of_ble_eq_true rfl) dX6_copy_46 (fun H locs hw => ?_)
        refine lv_if_eq (tgt := 55) hx hb dX6_copy_49 (by decide) (fun c_14 => ?_) (fun c_14 => ?_)
        · rw [if_pos c_14] at hf
          refine lv_aload hx hb dX6_copy_55 (lv_at hl 1 rfl) ?_
          refine gf_Sh_lane S hK hw (v := a1.toNatClampNeg) (by omega) (x := (cS c a1.toNatClampNeg)) rfl tb_1_154 dX6_copy_57 ?_
          refine lv_aload hx hb dX6_copy_60 (lv_at hl 0 rfl) ?_
          refine gf_Sh_lane S hK hw (v := a3.toNatClampNeg) (by omega) (x := (cS c a3.toNatClampNeg)) rfl tb_1_154 dX6_copy_62 ?_
          refine lv_icmp_eq (tgt := 71) hx hb dX6_copy_65 (by decide) (fun c_15 => ?_) (fun c_15 => ?_)
          · rw [if_pos c_15] at hf
            refine lv_aload hx hb dX6_copy_71 (lv_at hl 1 rfl) ?_
            refine lv_iload_n hx hb dX6_copy_73 rfl (lv_at hl 4 rfl) ?_
            refine lv_iload hx hb dX6_copy_74 (lv_at hl 7 rfl) ?_
            obtain ⟨q_16, h_17, hf⟩ := nn_bind hf
            refine nn_calliV S (As := [.int (a2), .int (a5)]) (rest := []) (ce_S (k := 0) (v := a1.toNatClampNeg) (by omega) (by decide)) (by omega) rfl rfl (c_X3_reaches l D cy ad A (sC σ c) a1.toNatClampNeg (by omega) (cS c a1.toNatClampNeg) rfl a2 a5 q_16 h_17) mv_X3_reaches tb_3_137 hK hw ⟨Nat.le_of_ble_eq_true rfl, Nat.le_of_ble_eq_true rfl⟩ ⟨Nat.zero_le _, Nat.zero_le _⟩ rfl hl.1 rfl (Nat.le_of_ble_eq_true rfl) dX6_copy_76 (fun H locs hw => ?_)
            refine lv_if_eq (tgt := 94) hx hb dX6_copy_79 (by decide) (fun c_18 => ?_) (fun c_18 => ?_)
            · rw [if_pos c_18] at hf
              refine lv_bipush (v := -13) hx hb dX6_copy_94 (by decide) ?_
              obtain rfl := Option.some.inj hf
              exact nn_iret S hr hlk hw rfl hσ dX6_copy_96
            · rw [if_neg c_18] at hf
              refine lv_aload hx hb dX6_copy_82 (lv_at hl 0 rfl) ?_
              refine lv_iload hx hb dX6_copy_84 (lv_at hl 6 rfl) ?_
              refine lv_iload hx hb dX6_copy_86 (lv_at hl 7 rfl) ?_
              obtain ⟨q_19, h_20, hf⟩ := nn_bind hf
              refine nn_calliV S (As := [.int (a4), .int (a5)]) (rest := []) (ce_S (k := 0) (v := a3.toNatClampNeg) (by omega) (by decide)) (by omega) rfl rfl (c_X3_reaches l D cy ad A (sC σ c) a3.toNatClampNeg (by omega) (cS c a3.toNatClampNeg) rfl a4 a5 q_19 h_20) mv_X3_reaches tb_3_137 hK hw ⟨Nat.le_of_ble_eq_true rfl, Nat.le_of_ble_eq_true rfl⟩ ⟨Nat.zero_le _, Nat.zero_le _⟩ rfl hl.1 rfl (Nat.le_of_ble_eq_true rfl) dX6_copy_88 (fun H locs hw => ?_)
              refine lv_if_ne (tgt := 97) hx hb dX6_copy_91 (by decide) (fun c_21 => ?_) (fun c_21 => ?_)
              · rw [if_neg c_21] at hf
                refine lv_aload hx hb dX6_copy_97 (lv_at hl 1 rfl) ?_
                refine gf_Sh_items S hK hw (v := a1.toNatClampNeg) (by omega) tb_1_152 dX6_copy_99 ?_
                refine lv_iload_n hx hb dX6_copy_102 rfl (lv_at hl 4 rfl) ?_
                refine lv_aload hx hb dX6_copy_103 (lv_at hl 0 rfl) ?_
                refine gf_Sh_items S hK hw (v := a3.toNatClampNeg) (by omega) tb_1_152 dX6_copy_105 ?_
                refine lv_iload hx hb dX6_copy_108 (lv_at hl 6 rfl) ?_
                refine lv_iload hx hb dX6_copy_110 (lv_at hl 7 rfl) ?_
                obtain ⟨⟨g_221, g_222, g_223, g_224, g_225⟩, hf⟩ := nn_cp_some hf
                obtain ⟨c_23, h_24, hf⟩ := nn_bind hf
                replace h_24 := Option.some.inj h_24
                refine ac_Sh S hK hw (v := a3.toNatClampNeg) (w := a1.toNatClampNeg) (by omega) (by omega) (x := (cS c a3.toNatClampNeg)) (z := (cS c a1.toNatClampNeg)) rfl rfl g_221 g_222 g_223 g_224 g_225 hl.1 (by decide) (Nat.le_of_ble_eq_true rfl) (τ' := (sC σ c_23)) ((rfl : _ = (sC σ (cSs c a3.toNatClampNeg (s_Sh_items (cS c a3.toNatClampNeg) (va_cpy (g_Sh_items (cS c a1.toNatClampNeg)) (g_Sh_items (cS c a3.toNatClampNeg)) a2.toNatClampNeg a4.toNatClampNeg a5.toNatClampNeg))))).trans (by rw [h_24])) tb_3_138 dX6_copy_112 (fun H locs hw => ?_)
                refine lv_iload hx hb dX6_copy_115 (lv_at hl 7 rfl) ?_
                obtain rfl := Option.some.inj hf
                exact nn_iret S hr hlk hw rfl hσ dX6_copy_117
              · rw [if_pos c_21] at hf
                refine lv_bipush (v := -13) hx hb dX6_copy_94 (by decide) ?_
                obtain rfl := Option.some.inj hf
                exact nn_iret S hr hlk hw rfl hσ dX6_copy_96
          · rw [if_neg c_15] at hf
            refine lv_bipush (v := -12) hx hb dX6_copy_68 (by decide) ?_
            obtain rfl := Option.some.inj hf
            exact nn_iret S hr hlk hw rfl hσ dX6_copy_70
        · rw [if_neg c_14] at hf
          refine lv_bipush (v := -11) hx hb dX6_copy_52 (by decide) ?_
          obtain rfl := Option.some.inj hf
          exact nn_iret S hr hlk hw rfl hσ dX6_copy_54
    · rw [if_pos c_6] at hf
      refine lv_iconst (v := -1) hx hb dX6_copy_18 (by decide) ?_
      obtain rfl := Option.some.inj hf
      exact nn_iret S hr hlk hw rfl hσ dX6_copy_19
