set_option maxRecDepth 100000 in
set_option maxHeartbeats 4000000 in
theorem c_X5_ringsLike (l : Launch) (D : va_G) (cy : Nat → ClassId) (ad : Nat → Nat) (A : Nat → Prop) (σ : nG) (v : Nat) (hn_v : v < 19) (w : Nat) (hn_w : w < 19) (x : nVl) (hx_Vv : gV σ v = x) (xw : nVl) (hx_Vw : gV σ w = xw) (q : Int32) (hf : f_X5_ringsLike x xw = some q) : nn_I l yX5_ringsLike (nn_ws yX5_ringsLike cX5_ringsLike 3 (some .boolean)) (nn_R 0) D cy ad A [.ref (ad (6*v)), .ref (ad (6*w))] σ q σ := by
  refine nn_enterI (plainFor_of_name (by decide +kernel)) (Nat.le_of_ble_eq_true rfl) (lv := [(0, .ref (ad (6*v))), (1, .ref (ad (6*w)))]) rfl ?_
  intro pp ee ss mm bb me co S hr hlk hK hw ls hl
  have hx := S.1
  have hb := S.2.1
  unfold f_X5_ringsLike at hf
  have L2 : ∀ (n : Nat) (u2 : Int32) (K : Int32 → Option (Int32)), (∀ (u2 : Int32), K u2 = some q → ∀ (H : Heap) (locs : List Loc) (ls : Array Slot), nn_W D cy ad A ss.heap σ H locs → lv_has ls 3 [(0, .ref (ad (6*v))), (1, .ref (ad (6*w))), (2, .int (u2))] → W pp l ee (nn_R 0) ss mm ([.ref (ad (6*v)), .ref (ad (6*w))] : List Value).toArray bb me co H locs 0 0 (MQ bb (nn_qi D cy ad A q σ) ([.ref (ad (6*v)), .ref (ad (6*w))] : List Value).toArray ss 0 0 A) (F0 mm 33 ls [])) → f_X5_ringsLike_L2 x xw n u2 K = some q → ∀ (H : Heap) (locs : List Loc) (ls : Array Slot), nn_W D cy ad A ss.heap σ H locs → lv_has ls 3 [(0, .ref (ad (6*v))), (1, .ref (ad (6*w))), (2, .int (u2))] → W pp l ee (nn_R 0) ss mm ([.ref (ad (6*v)), .ref (ad (6*w))] : List Value).toArray bb me co H locs 0 0 (MQ bb (nn_qi D cy ad A q σ) ([.ref (ad (6*v)), .ref (ad (6*w))] : List Value).toArray ss 0 0 A) (F0 mm 2 ls []) := by
    intro n
    induction n with
    | zero => intro u2 K hKK hf; exact absurd hf (by simp [f_X5_ringsLike_L2])
    | succ n ih =>
      intro u2 K hKK hf H locs ls hw hl
      rw [f_X5_ringsLike_L2] at hf
      refine lv_iload_n hx hb dX5_ringsLike_2 rfl (lv_at hl 2 rfl) ?_
      refine lv_aload_n hx hb dX5_ringsLike_3 rfl (lv_at hl 0 rfl) ?_
      refine gf_Vl_villages S hK hw (v := v) hn_v (x := x) hx_Vv tb_1_39 dX5_ringsLike_4 ?_
      refine lv_icmp_ge (tgt := 33) hx hb dX5_ringsLike_7 (by decide) (fun c_1 => ?_) (fun c_1 => ?_)
      · rw [if_pos c_1] at hf
        exact hKK u2 hf _ _ _ hw (lv_sub hl [0, 1, 2] rfl)
      · rw [if_neg c_1] at hf
        refine lv_aload_n hx hb dX5_ringsLike_10 rfl (lv_at hl 0 rfl) ?_
        refine gf_Vl_minutes S hK hw (v := v) hn_v tb_1_29 dX5_ringsLike_11 ?_
        refine lv_iload_n hx hb dX5_ringsLike_14 rfl (lv_at hl 2 rfl) ?_
        obtain ⟨g_2, hf⟩ := nn_ix_some hf
        refine al_Vl_minutes S hK hw (v := v) hn_v (x := x) hx_Vv g_2 dX5_ringsLike_15 ?_
        refine lv_aload_n hx hb dX5_ringsLike_16 rfl (lv_at hl 1 rfl) ?_
        refine gf_Vl_minutes S hK hw (v := w) hn_w tb_1_29 dX5_ringsLike_17 ?_
        refine lv_iload_n hx hb dX5_ringsLike_20 rfl (lv_at hl 2 rfl) ?_
        obtain ⟨g_3, hf⟩ := nn_ix_some hf
        refine al_Vl_minutes S hK hw (v := w) hn_w (x := xw) hx_Vw g_3 dX5_ringsLike_21 ?_
        refine lv_icmp_eq (tgt := 27) hx hb dX5_ringsLike_22 (by decide) (fun c_4 => ?_) (fun c_4 => ?_)
        · rw [if_pos c_4] at hf
          refine lv_iinc (v := u2 + (1 : Int32)) (lv' := [(2, .int (u2 + (1 : Int32))), (0, .ref (ad (6*v))), (1, .ref (ad (6*w)))]) hx hb dX5_ringsLike_27 hl (k := 2) rfl (congrArg (fun z => u2 + z) (by decide)) (by decide) rfl (fun ls hl => ?_)
          refine lv_goto (tgt := 2) hx hb dX5_ringsLike_30 (by decide) ?_
          exact ih (u2 + (1 : Int32)) K hKK hf _ _ _ hw (lv_sub hl [1, 2, 0] rfl)
        · rw [if_neg c_4] at hf
          refine lv_iconst (v := 0) hx hb dX5_ringsLike_25 (by decide) ?_
          obtain rfl := Option.some.inj hf
          exact nn_zret S hr hlk hw rfl rfl rfl dX5_ringsLike_26
  refine lv_iconst (v := 0) hx hb dX5_ringsLike_0 (by decide) ?_
  refine lv_istore_n (lv' := [(2, .int ((0 : Int32))), (0, .ref (ad (6*v))), (1, .ref (ad (6*w)))]) hx hb dX5_ringsLike_1 rfl hl (by decide) rfl (fun ls hl => ?_)
  refine L2 100000 (0 : Int32) _ (fun b2_5 hf H locs ls hw hl => ?_) hf _ _ _ hw (lv_sub hl [1, 2, 0] rfl)
  refine lv_iconst (v := 1) hx hb dX5_ringsLike_33 (by decide) ?_
  obtain rfl := Option.some.inj hf
  exact nn_zret S hr hlk hw rfl rfl rfl dX5_ringsLike_34
set_option maxRecDepth 100000 in
set_option maxHeartbeats 4000000 in
theorem c_X5_slowShift (l : Launch) (D : va_G) (cy : Nat → ClassId) (ad : Nat → Nat) (A : Nat → Prop) (σ : nG) (v : Nat) (hn_v : v < 19) (x : nVl) (hx_Vv : gV σ v = x) (a1 : Int32) (q : Int32) (hf : f_X5_slowShift x a1 = some q) : nn_I l yX5_slowShift (nn_ws yX5_slowShift cX5_slowShift 2 (some .int)) (nn_R 0) D cy ad A [.ref (ad (6*v)), .int (a1)] σ q σ := by
  refine nn_enterI (plainFor_of_name (by decide +kernel)) (Nat.le_of_ble_eq_true rfl) (lv := [(0, .ref (ad (6*v))), (1, .int (a1))]) rfl ?_
  intro pp ee ss mm bb me co S hr hlk hK hw ls hl
  have hx := S.1
  have hb := S.2.1
  unfold f_X5_slowShift at hf
  refine lv_aload_n hx hb dX5_slowShift_0 rfl (lv_at hl 0 rfl) ?_
  refine gf_Vl_drifts S hK hw (v := v) hn_v tb_1_33 dX5_slowShift_1 ?_
  refine lv_iload_n hx hb dX5_slowShift_4 rfl (lv_at hl 1 rfl) ?_
  obtain ⟨g_1, hf⟩ := nn_ix_some hf
  refine al_Vl_drifts S hK hw (v := v) hn_v (x := x) hx_Vv g_1 dX5_slowShift_5 ?_
  refine lv_iconst (v := 2) hx hb dX5_slowShift_6 (by decide) ?_
  refine lv_idiv hx hb dX5_slowShift_7 (by decide) ?_
  obtain rfl := Option.some.inj hf
  exact nn_iret S hr hlk hw rfl rfl dX5_slowShift_8
set_option maxRecDepth 100000 in
set_option maxHeartbeats 4000000 in
theorem c_X5_hearerShift (l : Launch) (D : va_G) (cy : Nat → ClassId) (ad : Nat → Nat) (A : Nat → Prop) (σ : nG) (v : Nat) (hn_v : v < 19) (x : nVl) (hx_Vv : gV σ v = x) (a1 : Int32) (q : Int32) (hf : f_X5_hearerShift x a1 = some q) : nn_I l yX5_hearerShift (nn_ws yX5_hearerShift cX5_hearerShift 3 (some .int)) (nn_R 1) D cy ad A [.ref (ad (6*v)), .int (a1)] σ q σ := by
  refine nn_enterI (plainFor_of_name (by decide +kernel)) (Nat.le_of_ble_eq_true rfl) (lv := [(0, .ref (ad (6*v))), (1, .int (a1))]) rfl ?_
  intro pp ee ss mm bb me co S hr hlk hK hw ls hl
  have hx := S.1
  have hb := S.2.1
  unfold f_X5_hearerShift at hf
  have L2 : ∀ (n : Nat) (u1 : Int32) (u2 : Int32) (K : Int32 → Int32 → Option (Int32)), (∀ (u1 : Int32) (u2 : Int32), K u1 u2 = some q → ∀ (H : Heap) (locs : List Loc) (ls : Array Slot), nn_W D cy ad A ss.heap σ H locs → lv_has ls 3 [(0, .ref (ad (6*v))), (1, .int (u1)), (2, .int (u2))] → W pp l ee (nn_R 1) ss mm ([.ref (ad (6*v)), .int (a1)] : List Value).toArray bb me co H locs 0 0 (MQ bb (nn_qi D cy ad A q σ) ([.ref (ad (6*v)), .int (a1)] : List Value).toArray ss 0 0 A) (F0 mm 42 ls [])) → f_X5_hearerShift_L2 x n u1 u2 K = some q → ∀ (H : Heap) (locs : List Loc) (ls : Array Slot), nn_W D cy ad A ss.heap σ H locs → lv_has ls 3 [(0, .ref (ad (6*v))), (1, .int (u1)), (2, .int (u2))] → W pp l ee (nn_R 1) ss mm ([.ref (ad (6*v)), .int (a1)] : List Value).toArray bb me co H locs 0 0 (MQ bb (nn_qi D cy ad A q σ) ([.ref (ad (6*v)), .int (a1)] : List Value).toArray ss 0 0 A) (F0 mm 2 ls []) := by
    intro n
    induction n with
    | zero => intro u1 u2 K hKK hf; exact absurd hf (by simp [f_X5_hearerShift_L2])
    | succ n ih =>
      intro u1 u2 K hKK hf H locs ls hw hl
      rw [f_X5_hearerShift_L2] at hf
      refine lv_iload_n hx hb dX5_hearerShift_2 rfl (lv_at hl 2 rfl) ?_
      refine lv_aload_n hx hb dX5_hearerShift_3 rfl (lv_at hl 0 rfl) ?_
      refine gf_Vl_villages S hK hw (v := v) hn_v (x := x) hx_Vv tb_1_39 dX5_hearerShift_4 ?_
      refine lv_icmp_ge (tgt := 42) hx hb dX5_hearerShift_7 (by decide) (fun c_1 => ?_) (fun c_1 => ?_)
      · rw [if_pos c_1] at hf
        exact hKK u1 u2 hf _ _ _ hw (lv_sub hl [0, 1, 2] rfl)
      · rw [if_neg c_1] at hf
        refine lv_iload_n hx hb dX5_hearerShift_10 rfl (lv_at hl 2 rfl) ?_
        refine lv_iload_n hx hb dX5_hearerShift_11 rfl (lv_at hl 1 rfl) ?_
        refine lv_icmp_eq (tgt := 36) hx hb dX5_hearerShift_12 (by decide) (fun c_2 => ?_) (fun c_2 => ?_)
        · rw [if_pos c_2] at hf
          refine lv_iinc (v := u2 + (1 : Int32)) (lv' := [(2, .int (u2 + (1 : Int32))), (0, .ref (ad (6*v))), (1, .int (u1))]) hx hb dX5_hearerShift_36 hl (k := 2) rfl (congrArg (fun z => u2 + z) (by decide)) (by decide) rfl (fun ls hl => ?_)
          refine lv_goto (tgt := 2) hx hb dX5_hearerShift_39 (by decide) ?_
          exact ih u1 (u2 + (1 : Int32)) K hKK hf _ _ _ hw (lv_sub hl [1, 2, 0] rfl)
        · rw [if_neg c_2] at hf
          refine lv_aload_n hx hb dX5_hearerShift_15 rfl (lv_at hl 0 rfl) ?_
          refine gf_Vl_minutes S hK hw (v := v) hn_v tb_1_29 dX5_hearerShift_16 ?_
          refine lv_iload_n hx hb dX5_hearerShift_19 rfl (lv_at hl 1 rfl) ?_
          obtain ⟨g_3, hf⟩ := nn_ix_some hf
          refine al_Vl_minutes S hK hw (v := v) hn_v (x := x) hx_Vv g_3 dX5_hearerShift_20 ?_
          refine lv_aload_n hx hb dX5_hearerShift_21 rfl (lv_at hl 0 rfl) ?_
          refine gf_Vl_minutes S hK hw (v := v) hn_v tb_1_29 dX5_hearerShift_22 ?_
          refine lv_iload_n hx hb dX5_hearerShift_25 rfl (lv_at hl 2 rfl) ?_
          obtain ⟨g_4, hf⟩ := nn_ix_some hf
          refine al_Vl_minutes S hK hw (v := v) hn_v (x := x) hx_Vv g_4 dX5_hearerShift_26 ?_
          obtain ⟨q_5, h_6, hf⟩ := nn_bind hf
          refine nn_calliN S (As := [.int ((g_Vl_minutes x) u1.toNatClampNeg), .int ((g_Vl_minutes x) u2.toNatClampNeg)]) (rest := []) (c_X6_shorterWay l D cy ad A σ ((g_Vl_minutes x) u1.toNatClampNeg) ((g_Vl_minutes x) u2.toNatClampNeg) q_5 h_6) mv_X6_shorterWay (nw_7 hK.2) hK hw ⟨Nat.le_of_ble_eq_true rfl, Nat.le_of_ble_eq_true rfl⟩ ⟨Nat.zero_le _, Nat.zero_le _⟩ rfl hl.1 rfl (Nat.le_of_ble_eq_true rfl) dX5_hearerShift_27 (fun H locs hw => ?_)
          refine lv_iconst (v := 3) hx hb dX5_hearerShift_30 (by decide) ?_
          refine lv_icmp_gt (tgt := 36) hx hb dX5_hearerShift_31 (by decide) (fun c_7 => ?_) (fun c_7 => ?_)
          · rw [if_pos c_7] at hf
            refine lv_iinc (v := u2 + (1 : Int32)) (lv' := [(2, .int (u2 + (1 : Int32))), (0, .ref (ad (6*v))), (1, .int (u1))]) hx hb dX5_hearerShift_36 hl (k := 2) rfl (congrArg (fun z => u2 + z) (by decide)) (by decide) rfl (fun ls hl => ?_)
            refine lv_goto (tgt := 2) hx hb dX5_hearerShift_39 (by decide) ?_
            exact ih u1 (u2 + (1 : Int32)) K hKK hf _ _ _ hw (lv_sub hl [1, 2, 0] rfl)
          · rw [if_neg c_7] at hf
            refine lv_iconst (v := 0) hx hb dX5_hearerShift_34 (by decide) ?_
            obtain rfl := Option.some.inj hf
            exact nn_iret S hr hlk hw rfl rfl dX5_hearerShift_35
  refine lv_iconst (v := 0) hx hb dX5_hearerShift_0 (by decide) ?_
  refine lv_istore_n (lv' := [(2, .int ((0 : Int32))), (0, .ref (ad (6*v))), (1, .int (a1))]) hx hb dX5_hearerShift_1 rfl hl (by decide) rfl (fun ls hl => ?_)
  refine L2 100000 a1 (0 : Int32) _ (fun b1_8 b2_9 hf H locs ls hw hl => ?_) hf _ _ _ hw (lv_sub hl [1, 2, 0] rfl)
  refine lv_aload_n hx hb dX5_hearerShift_42 rfl (lv_at hl 0 rfl) ?_
  refine gf_Vl_drifts S hK hw (v := v) hn_v tb_1_33 dX5_hearerShift_43 ?_
  refine lv_iload_n hx hb dX5_hearerShift_46 rfl (lv_at hl 1 rfl) ?_
  obtain ⟨g_10, hf⟩ := nn_ix_some hf
  refine al_Vl_drifts S hK hw (v := v) hn_v (x := x) hx_Vv g_10 dX5_hearerShift_47 ?_
  obtain rfl := Option.some.inj hf
  exact nn_iret S hr hlk hw rfl rfl dX5_hearerShift_48
set_option maxRecDepth 100000 in
set_option maxHeartbeats 4000000 in
theorem c_X5_isByTheOneBefore (l : Launch) (D : va_G) (cy : Nat → ClassId) (ad : Nat → Nat) (A : Nat → Prop) (σ : nG) (v : Nat) (hn_v : v < 19) (x : nVl) (hx_Vv : gV σ v = x) (a1 : Int32) (q : Int32) (hf : f_X5_isByTheOneBefore x a1 = some q) : nn_I l yX5_isByTheOneBefore (nn_ws yX5_isByTheOneBefore cX5_isByTheOneBefore 3 (some .boolean)) (nn_R 1) D cy ad A [.ref (ad (6*v)), .int (a1)] σ q σ := by
  refine nn_enterI (plainFor_of_name (by decide +kernel)) (Nat.le_of_ble_eq_true rfl) (lv := [(0, .ref (ad (6*v))), (1, .int (a1))]) rfl ?_
  intro pp ee ss mm bb me co S hr hlk hK hw ls hl
  have hx := S.1
  have hb := S.2.1
  unfold f_X5_isByTheOneBefore at hf
  have J16 : ∀ (u1 : Int32) (s0 : Int32), f_X5_isByTheOneBefore_J16 x u1 s0 = some q → ∀ (H : Heap) (locs : List Loc) (ls : Array Slot), nn_W D cy ad A ss.heap σ H locs → lv_has ls 3 [(0, .ref (ad (6*v))), (1, .int (u1))] → W pp l ee (nn_R 1) ss mm ([.ref (ad (6*v)), .int (a1)] : List Value).toArray bb me co H locs 0 0 (MQ bb (nn_qi D cy ad A q σ) ([.ref (ad (6*v)), .int (a1)] : List Value).toArray ss 0 0 A) (F0 mm 16 ls [.int (s0)]) := by
    intro u1 s0 hf H locs ls hw hl
    unfold f_X5_isByTheOneBefore_J16 at hf
    refine lv_istore_n (lv' := [(2, .int (s0)), (0, .ref (ad (6*v))), (1, .int (u1))]) hx hb dX5_isByTheOneBefore_16 rfl hl (by decide) rfl (fun ls hl => ?_)
    refine lv_iload_n hx hb dX5_isByTheOneBefore_17 rfl (lv_at hl 0 rfl) ?_
    refine lv_iload_n hx hb dX5_isByTheOneBefore_18 rfl (lv_at hl 2 rfl) ?_
    refine lv_icmp_eq (tgt := 47) hx hb dX5_isByTheOneBefore_19 (by decide) (fun c_2 => ?_) (fun c_2 => ?_)
    · rw [if_pos c_2] at hf
      refine lv_iconst (v := 0) hx hb dX5_isByTheOneBefore_47 (by decide) ?_
      obtain rfl := Option.some.inj hf
      exact nn_zret S hr hlk hw rfl rfl rfl dX5_isByTheOneBefore_48
    · rw [if_neg c_2] at hf
      refine lv_aload_n hx hb dX5_isByTheOneBefore_22 rfl (lv_at hl 1 rfl) ?_
      refine gf_Vl_miles S hK hw (v := v) hn_v tb_1_35 dX5_isByTheOneBefore_23 ?_
      refine lv_iload_n hx hb dX5_isByTheOneBefore_26 rfl (lv_at hl 2 rfl) ?_
      obtain ⟨g_3, hf⟩ := nn_ix_some hf
      refine al_Vl_miles S hK hw (v := v) hn_v (x := x) hx_Vv g_3 dX5_isByTheOneBefore_27 ?_
      refine lv_aload_n hx hb dX5_isByTheOneBefore_28 rfl (lv_at hl 1 rfl) ?_
      refine gf_Vl_miles S hK hw (v := v) hn_v tb_1_35 dX5_isByTheOneBefore_29 ?_
      refine lv_iload_n hx hb dX5_isByTheOneBefore_32 rfl (lv_at hl 0 rfl) ?_
      obtain ⟨g_4, hf⟩ := nn_ix_some hf
      refine al_Vl_miles S hK hw (v := v) hn_v (x := x) hx_Vv g_4 dX5_isByTheOneBefore_33 ?_
      refine lv_isub hx hb dX5_isByTheOneBefore_34 ?_
      obtain ⟨q_5, h_6, hf⟩ := nn_bind hf
      refine nn_calliS S (As := [.int (((g_Vl_miles x) u1.toNatClampNeg) - ((g_Vl_miles x) s0.toNatClampNeg))]) (rest := []) (c_J9_abs_0f7a4 l D cy ad A σ (((g_Vl_miles x) u1.toNatClampNeg) - ((g_Vl_miles x) s0.toNatClampNeg)) q_5 h_6) mv_J9_abs_0f7a4 tb_1_235 hK hw ⟨Nat.le_of_ble_eq_true rfl, Nat.le_of_ble_eq_true rfl⟩ ⟨Nat.zero_le _, Nat.zero_le _⟩ rfl hl.1 rfl (Nat.le_of_ble_eq_true rfl) dX5_isByTheOneBefore_35 (fun H locs hw => ?_)
      refine lv_bipush (v := 10) hx hb dX5_isByTheOneBefore_38 (by decide) ?_
      refine lv_icmp_gt (tgt := 47) hx hb dX5_isByTheOneBefore_40 (by decide) (fun c_7 => ?_) (fun c_7 => ?_)
      · rw [if_pos c_7] at hf
        refine lv_iconst (v := 0) hx hb dX5_isByTheOneBefore_47 (by decide) ?_
        obtain rfl := Option.some.inj hf
        exact nn_zret S hr hlk hw rfl rfl rfl dX5_isByTheOneBefore_48
      · rw [if_neg c_7] at hf
        refine lv_iconst (v := 1) hx hb dX5_isByTheOneBefore_43 (by decide) ?_
        refine lv_goto (tgt := 48) hx hb dX5_isByTheOneBefore_44 (by decide) ?_
        obtain rfl := Option.some.inj hf
        exact nn_zret S hr hlk hw rfl rfl rfl dX5_isByTheOneBefore_48
  refine lv_iload_n hx hb dX5_isByTheOneBefore_0 rfl (lv_at hl 1 rfl) ?_
  refine lv_if_ne (tgt := 13) hx hb dX5_isByTheOneBefore_1 (by decide) (fun c_1 => ?_) (fun c_1 => ?_)
  · rw [if_neg c_1] at hf
    refine lv_iload_n hx hb dX5_isByTheOneBefore_13 rfl (lv_at hl 1 rfl) ?_
    refine lv_iconst (v := 1) hx hb dX5_isByTheOneBefore_14 (by decide) ?_
    refine lv_isub hx hb dX5_isByTheOneBefore_15 ?_
    exact J16 a1 (a1 - (1 : Int32)) hf _ _ _ hw (lv_sub hl [0, 1] rfl)
  · rw [if_pos c_1] at hf
    refine lv_aload_n hx hb dX5_isByTheOneBefore_4 rfl (lv_at hl 0 rfl) ?_
    refine gf_Vl_villages S hK hw (v := v) hn_v (x := x) hx_Vv tb_1_39 dX5_isByTheOneBefore_5 ?_
    refine lv_iconst (v := 1) hx hb dX5_isByTheOneBefore_8 (by decide) ?_
    refine lv_isub hx hb dX5_isByTheOneBefore_9 ?_
    refine lv_goto (tgt := 16) hx hb dX5_isByTheOneBefore_10 (by decide) ?_
    exact J16 a1 ((g_Vl_villages x) - (1 : Int32)) hf _ _ _ hw (lv_sub hl [0, 1] rfl)
set_option maxRecDepth 100000 in
set_option maxHeartbeats 4000000 in
theorem c_X5_laterBy (l : Launch) (D : va_G) (cy : Nat → ClassId) (ad : Nat → Nat) (A : Nat → Prop) (σ : nG) (v : Nat) (hn_v : v < 19) (x : nVl) (hx_Vv : gV σ v = x) (a1 : Int32) (q : Int32) (hf : f_X5_laterBy x a1 = some q) : nn_I l yX5_laterBy (nn_ws yX5_laterBy cX5_laterBy 2 (some .int)) (nn_R 2) D cy ad A [.ref (ad (6*v)), .int (a1)] σ q σ := by
  refine nn_enterI (plainFor_of_name (by decide +kernel)) (Nat.le_of_ble_eq_true rfl) (lv := [(0, .ref (ad (6*v))), (1, .int (a1))]) rfl ?_
  intro pp ee ss mm bb me co S hr hlk hK hw ls hl
  have hx := S.1
  have hb := S.2.1
  unfold f_X5_laterBy at hf
  refine lv_aload_n hx hb dX5_laterBy_0 rfl (lv_at hl 0 rfl) ?_
  refine gf_Vl_kinds S hK hw (v := v) hn_v tb_1_27 dX5_laterBy_1 ?_
  refine lv_iload_n hx hb dX5_laterBy_4 rfl (lv_at hl 1 rfl) ?_
  obtain ⟨g_1, hf⟩ := nn_ix_some hf
  refine al_Vl_kinds S hK hw (v := v) hn_v (x := x) hx_Vv g_1 dX5_laterBy_5 ?_
  by_cases c_2 : ((g_Vl_kinds x) a1.toNatClampNeg) = (0 : Int32)
  · rw [if_pos c_2] at hf
    refine lv_tableIn (tgt := 96) hx hb dX5_laterBy_6 (by rw [c_2]; decide) (by rw [c_2]; decide) (by rw [c_2]; rfl) (by decide) ?_
    refine lv_aload_n hx hb dX5_laterBy_96 rfl (lv_at hl 0 rfl) ?_
    refine gf_Vl_drifts S hK hw (v := v) hn_v tb_1_33 dX5_laterBy_97 ?_
    refine lv_iload_n hx hb dX5_laterBy_100 rfl (lv_at hl 1 rfl) ?_
    obtain ⟨g_3, hf⟩ := nn_ix_some hf
    refine al_Vl_drifts S hK hw (v := v) hn_v (x := x) hx_Vv g_3 dX5_laterBy_101 ?_
    obtain rfl := Option.some.inj hf
    exact nn_iret S hr hlk hw rfl rfl dX5_laterBy_102
  · rw [if_neg c_2] at hf
    by_cases c_4 : ((g_Vl_kinds x) a1.toNatClampNeg) = (1 : Int32)
    · rw [if_pos c_4] at hf
      refine lv_tableIn (tgt := 40) hx hb dX5_laterBy_6 (by rw [c_4]; decide) (by rw [c_4]; decide) (by rw [c_4]; rfl) (by decide) ?_
      refine lv_aload_n hx hb dX5_laterBy_40 rfl (lv_at hl 0 rfl) ?_
      refine lv_iload_n hx hb dX5_laterBy_41 rfl (lv_at hl 1 rfl) ?_
      obtain ⟨q_5, h_6, hf⟩ := nn_bind hf
      refine nn_calliV S (As := [.int (a1)]) (rest := []) (ce_V (k := 0) (v := v) hn_v (by decide)) (by omega) rfl rfl (c_X5_slowShift l D cy ad A σ v hn_v x hx_Vv a1 q_5 h_6) mv_X5_slowShift tb_1_220 hK hw ⟨Nat.le_of_ble_eq_true rfl, Nat.le_of_ble_eq_true rfl⟩ ⟨Nat.zero_le _, Nat.zero_le _⟩ rfl hl.1 rfl (Nat.le_of_ble_eq_true rfl) dX5_laterBy_42 (fun H locs hw => ?_)
      obtain rfl := Option.some.inj hf
      exact nn_iret S hr hlk hw rfl rfl dX5_laterBy_45
    · rw [if_neg c_4] at hf
      by_cases c_7 : ((g_Vl_kinds x) a1.toNatClampNeg) = (2 : Int32)
      · rw [if_pos c_7] at hf
        refine lv_tableIn (tgt := 46) hx hb dX5_laterBy_6 (by rw [c_7]; decide) (by rw [c_7]; decide) (by rw [c_7]; rfl) (by decide) ?_
        refine lv_aload_n hx hb dX5_laterBy_46 rfl (lv_at hl 0 rfl) ?_
        refine lv_iload_n hx hb dX5_laterBy_47 rfl (lv_at hl 1 rfl) ?_
        obtain ⟨q_8, h_9, hf⟩ := nn_bind hf
        refine nn_calliV S (As := [.int (a1)]) (rest := []) (ce_V (k := 0) (v := v) hn_v (by decide)) (by omega) rfl rfl (c_X5_hearerShift l D cy ad A σ v hn_v x hx_Vv a1 q_8 h_9) mv_X5_hearerShift tb_1_224 hK hw ⟨Nat.le_of_ble_eq_true rfl, Nat.le_of_ble_eq_true rfl⟩ ⟨Nat.zero_le _, Nat.zero_le _⟩ rfl hl.1 rfl (Nat.le_of_ble_eq_true rfl) dX5_laterBy_48 (fun H locs hw => ?_)
        obtain rfl := Option.some.inj hf
        exact nn_iret S hr hlk hw rfl rfl dX5_laterBy_51
      · rw [if_neg c_7] at hf
        by_cases c_10 : ((g_Vl_kinds x) a1.toNatClampNeg) = (3 : Int32)
        · rw [if_pos c_10] at hf
          refine lv_tableIn (tgt := 52) hx hb dX5_laterBy_6 (by rw [c_10]; decide) (by rw [c_10]; decide) (by rw [c_10]; rfl) (by decide) ?_
          refine lv_aload_n hx hb dX5_laterBy_52 rfl (lv_at hl 0 rfl) ?_
          refine gf_Vl_day S hK hw (v := v) hn_v (x := x) hx_Vv tb_1_43 dX5_laterBy_53 ?_
          refine lv_iconst (v := 2) hx hb dX5_laterBy_56 (by decide) ?_
          refine lv_irem hx hb dX5_laterBy_57 (by decide) ?_
          refine lv_if_ne (tgt := 69) hx hb dX5_laterBy_58 (by decide) (fun c_11 => ?_) (fun c_11 => ?_)
          · rw [if_neg c_11] at hf
            refine lv_aload_n hx hb dX5_laterBy_69 rfl (lv_at hl 0 rfl) ?_
            refine lv_iload_n hx hb dX5_laterBy_70 rfl (lv_at hl 1 rfl) ?_
            obtain ⟨q_12, h_13, hf⟩ := nn_bind hf
            refine nn_calliV S (As := [.int (a1)]) (rest := []) (ce_V (k := 0) (v := v) hn_v (by decide)) (by omega) rfl rfl (c_X5_slowShift l D cy ad A σ v hn_v x hx_Vv a1 q_12 h_13) mv_X5_slowShift tb_1_220 hK hw ⟨Nat.le_of_ble_eq_true rfl, Nat.le_of_ble_eq_true rfl⟩ ⟨Nat.zero_le _, Nat.zero_le _⟩ rfl hl.1 rfl (Nat.le_of_ble_eq_true rfl) dX5_laterBy_71 (fun H locs hw => ?_)
            refine lv_ineg hx hb dX5_laterBy_74 ?_
            obtain rfl := Option.some.inj hf
            exact nn_iret S hr hlk hw rfl rfl dX5_laterBy_75
          · rw [if_pos c_11] at hf
            refine lv_aload_n hx hb dX5_laterBy_61 rfl (lv_at hl 0 rfl) ?_
            refine lv_iload_n hx hb dX5_laterBy_62 rfl (lv_at hl 1 rfl) ?_
            obtain ⟨q_14, h_15, hf⟩ := nn_bind hf
            refine nn_calliV S (As := [.int (a1)]) (rest := []) (ce_V (k := 0) (v := v) hn_v (by decide)) (by omega) rfl rfl (c_X5_slowShift l D cy ad A σ v hn_v x hx_Vv a1 q_14 h_15) mv_X5_slowShift tb_1_220 hK hw ⟨Nat.le_of_ble_eq_true rfl, Nat.le_of_ble_eq_true rfl⟩ ⟨Nat.zero_le _, Nat.zero_le _⟩ rfl hl.1 rfl (Nat.le_of_ble_eq_true rfl) dX5_laterBy_63 (fun H locs hw => ?_)
            refine lv_goto (tgt := 75) hx hb dX5_laterBy_66 (by decide) ?_
            obtain rfl := Option.some.inj hf
            exact nn_iret S hr hlk hw rfl rfl dX5_laterBy_75
        · rw [if_neg c_10] at hf
          by_cases c_16 : ((g_Vl_kinds x) a1.toNatClampNeg) = (4 : Int32)
          · rw [if_pos c_16] at hf
            refine lv_tableIn (tgt := 76) hx hb dX5_laterBy_6 (by rw [c_16]; decide) (by rw [c_16]; decide) (by rw [c_16]; rfl) (by decide) ?_
            refine lv_aload_n hx hb dX5_laterBy_76 rfl (lv_at hl 0 rfl) ?_
            refine lv_iload_n hx hb dX5_laterBy_77 rfl (lv_at hl 1 rfl) ?_
            obtain ⟨q_17, h_18, hf⟩ := nn_bind hf
            refine nn_calliV S (As := [.int (a1)]) (rest := []) (ce_V (k := 0) (v := v) hn_v (by decide)) (by omega) rfl rfl (c_X5_hearerShift l D cy ad A σ v hn_v x hx_Vv a1 q_17 h_18) mv_X5_hearerShift tb_1_224 hK hw ⟨Nat.le_of_ble_eq_true rfl, Nat.le_of_ble_eq_true rfl⟩ ⟨Nat.zero_le _, Nat.zero_le _⟩ rfl hl.1 rfl (Nat.le_of_ble_eq_true rfl) dX5_laterBy_78 (fun H locs hw => ?_)
            refine lv_aload_n hx hb dX5_laterBy_81 rfl (lv_at hl 0 rfl) ?_
            refine lv_iload_n hx hb dX5_laterBy_82 rfl (lv_at hl 1 rfl) ?_
            obtain ⟨q_19, h_20, hf⟩ := nn_bind hf
            refine nn_calliV S (As := [.int (a1)]) (rest := [.int (q_17)]) (ce_V (k := 0) (v := v) hn_v (by decide)) (by omega) rfl rfl (c_X5_isByTheOneBefore l D cy ad A σ v hn_v x hx_Vv a1 q_19 h_20) mv_X5_isByTheOneBefore tb_1_231 hK hw ⟨Nat.le_of_ble_eq_true rfl, Nat.le_of_ble_eq_true rfl⟩ ⟨Nat.zero_le _, Nat.zero_le _⟩ rfl hl.1 rfl (Nat.le_of_ble_eq_true rfl) dX5_laterBy_83 (fun H locs hw => ?_)
            refine lv_if_eq (tgt := 93) hx hb dX5_laterBy_86 (by decide) (fun c_21 => ?_) (fun c_21 => ?_)
            · rw [if_pos c_21] at hf
              refine lv_iconst (v := 0) hx hb dX5_laterBy_93 (by decide) ?_
              refine lv_iadd hx hb dX5_laterBy_94 ?_
              obtain rfl := Option.some.inj hf
              exact nn_iret S hr hlk hw rfl rfl dX5_laterBy_95
            · rw [if_neg c_21] at hf
              refine lv_iconst (v := 1) hx hb dX5_laterBy_89 (by decide) ?_
              refine lv_goto (tgt := 94) hx hb dX5_laterBy_90 (by decide) ?_
              refine lv_iadd hx hb dX5_laterBy_94 ?_
              obtain rfl := Option.some.inj hf
              exact nn_iret S hr hlk hw rfl rfl dX5_laterBy_95
          · rw [if_neg c_16] at hf
            refine lv_tableOut (tgt := 96) hx hb dX5_laterBy_6 (nn_swout 4 (by decide) (fun k hk => by have h9 : k = 0 ∨ k = 1 ∨ k = 2 ∨ k = 3 ∨ k = 4 := (by omega); rcases h9 with rfl | rfl | rfl | rfl | rfl <;> assumption)) (by decide) ?_
            refine lv_aload_n hx hb dX5_laterBy_96 rfl (lv_at hl 0 rfl) ?_
            refine gf_Vl_drifts S hK hw (v := v) hn_v tb_1_33 dX5_laterBy_97 ?_
            refine lv_iload_n hx hb dX5_laterBy_100 rfl (lv_at hl 1 rfl) ?_
            obtain ⟨g_22, hf⟩ := nn_ix_some hf
            refine al_Vl_drifts S hK hw (v := v) hn_v (x := x) hx_Vv g_22 dX5_laterBy_101 ?_
            obtain rfl := Option.some.inj hf
            exact nn_iret S hr hlk hw rfl rfl dX5_laterBy_102
set_option maxRecDepth 100000 in
set_option maxHeartbeats 4000000 in
theorem c_X5_passDay (l : Launch) (D : va_G) (cy : Nat → ClassId) (ad : Nat → Nat) (A : Nat → Prop) (σ : nG) (v : Nat) (hn_v : v < 19) (x : nVl) (hx_Vv : gV σ v = x) (q : nVl) (hf : f_X5_passDay x = some q) (σ' : nG) (hσ : (sV σ v q) = σ') : nn_V l yX5_passDay (nn_ws yX5_passDay cX5_passDay 2 none) (nn_R 3) D cy ad A [.ref (ad (6*v))] σ σ' := by
  refine nn_enterV (plainFor_of_name (by decide +kernel)) (Nat.le_of_ble_eq_true rfl) (lv := [(0, .ref (ad (6*v)))]) rfl ?_
  intro pp ee ss mm bb me co S hr hlk hK hw ls hl
  have hx := S.1
  have hb := S.2.1
  have hw : nn_W D cy ad A ss.heap (sV σ v x) ss.heap [] := nn_W.eq (by rw [← hx_Vv]; exact (esV σ v).symm) hw
  unfold f_X5_passDay at hf
  have L2 : ∀ (n : Nat) (x : nVl) (u1 : Int32) (K : nVl → Int32 → Option (nVl)), (∀ (x : nVl) (u1 : Int32), K x u1 = some q → ∀ (H : Heap) (locs : List Loc) (ls : Array Slot), nn_W D cy ad A ss.heap (sV σ v x) H locs → lv_has ls 2 [(0, .ref (ad (6*v))), (1, .int (u1))] → W pp l ee (nn_R 3) ss mm ([.ref (ad (6*v))] : List Value).toArray bb me co H locs 0 0 (MQ bb (nn_qv D cy ad A σ') ([.ref (ad (6*v))] : List Value).toArray ss 0 0 A) (F0 mm 27 ls [])) → f_X5_passDay_L2 n x u1 K = some q → ∀ (H : Heap) (locs : List Loc) (ls : Array Slot), nn_W D cy ad A ss.heap (sV σ v x) H locs → lv_has ls 2 [(0, .ref (ad (6*v))), (1, .int (u1))] → W pp l ee (nn_R 3) ss mm ([.ref (ad (6*v))] : List Value).toArray bb me co H locs 0 0 (MQ bb (nn_qv D cy ad A σ') ([.ref (ad (6*v))] : List Value).toArray ss 0 0 A) (F0 mm 2 ls []) := by
    intro n
    induction n with
    | zero => intro x u1 K hKK hf; exact absurd hf (by simp [f_X5_passDay_L2])
    | succ n ih =>
      intro x u1 K hKK hf H locs ls hw hl
      rw [f_X5_passDay_L2] at hf
      refine lv_iload_n hx hb dX5_passDay_2 rfl (lv_at hl 1 rfl) ?_
      refine lv_aload_n hx hb dX5_passDay_3 rfl (lv_at hl 0 rfl) ?_
      refine gf_Vl_villages S hK hw (v := v) hn_v (x := x) (gsV _ _ _) tb_1_39 dX5_passDay_4 ?_
      refine lv_icmp_ge (tgt := 27) hx hb dX5_passDay_7 (by decide) (fun c_1 => ?_) (fun c_1 => ?_)
      · rw [if_pos c_1] at hf
        exact hKK x u1 hf _ _ _ hw (lv_sub hl [0, 1] rfl)
      · rw [if_neg c_1] at hf
        refine lv_aload_n hx hb dX5_passDay_10 rfl (lv_at hl 0 rfl) ?_
        refine gf_Vl_shifts S hK hw (v := v) hn_v tb_1_38 dX5_passDay_11 ?_
        refine lv_iload_n hx hb dX5_passDay_14 rfl (lv_at hl 1 rfl) ?_
        refine lv_aload_n hx hb dX5_passDay_15 rfl (lv_at hl 0 rfl) ?_
        refine lv_iload_n hx hb dX5_passDay_16 rfl (lv_at hl 1 rfl) ?_
        obtain ⟨q_2, h_3, hf⟩ := nn_bind hf
        refine nn_calliV S (As := [.int (u1)]) (rest := [.int (u1), .ref (ad (6*v+5))]) (ce_V (k := 0) (v := v) hn_v (by decide)) (by omega) rfl rfl (c_X5_laterBy l D cy ad A (sV σ v x) v hn_v x (gsV _ _ _) u1 q_2 h_3) mv_X5_laterBy tb_2_130 hK hw ⟨Nat.le_of_ble_eq_true rfl, Nat.le_of_ble_eq_true rfl⟩ ⟨Nat.zero_le _, Nat.zero_le _⟩ rfl hl.1 rfl (Nat.le_of_ble_eq_true rfl) dX5_passDay_17 (fun H locs hw => ?_)
        obtain ⟨g_4, hf⟩ := nn_ix_some hf
        refine as_Vl_shifts S hK hw (v := v) hn_v (x := x) (gsV _ _ _) g_4 (τ' := (sV σ v (s_Vl_shifts x (upd (g_Vl_shifts x) u1.toNatClampNeg q_2)))) (ssV σ v x (s_Vl_shifts x (upd (g_Vl_shifts x) u1.toNatClampNeg q_2))) dX5_passDay_20 (fun H locs hw => ?_)
        refine lv_iinc (v := u1 + (1 : Int32)) (lv' := [(1, .int (u1 + (1 : Int32))), (0, .ref (ad (6*v)))]) hx hb dX5_passDay_21 hl (k := 1) rfl (congrArg (fun z => u1 + z) (by decide)) (by decide) rfl (fun ls hl => ?_)
        refine lv_goto (tgt := 2) hx hb dX5_passDay_24 (by decide) ?_
        exact ih (s_Vl_shifts x (upd (g_Vl_shifts x) u1.toNatClampNeg q_2)) (u1 + (1 : Int32)) K hKK hf _ _ _ hw (lv_sub hl [1, 0] rfl)
  have L29 : ∀ (n : Nat) (x : nVl) (u1 : Int32) (K : nVl → Int32 → Option (nVl)), (∀ (x : nVl) (u1 : Int32), K x u1 = some q → ∀ (H : Heap) (locs : List Loc) (ls : Array Slot), nn_W D cy ad A ss.heap (sV σ v x) H locs → lv_has ls 2 [(0, .ref (ad (6*v))), (1, .int (u1))] → W pp l ee (nn_R 3) ss mm ([.ref (ad (6*v))] : List Value).toArray bb me co H locs 0 0 (MQ bb (nn_qv D cy ad A σ') ([.ref (ad (6*v))] : List Value).toArray ss 0 0 A) (F0 mm 65 ls [])) → f_X5_passDay_L29 n x u1 K = some q → ∀ (H : Heap) (locs : List Loc) (ls : Array Slot), nn_W D cy ad A ss.heap (sV σ v x) H locs → lv_has ls 2 [(0, .ref (ad (6*v))), (1, .int (u1))] → W pp l ee (nn_R 3) ss mm ([.ref (ad (6*v))] : List Value).toArray bb me co H locs 0 0 (MQ bb (nn_qv D cy ad A σ') ([.ref (ad (6*v))] : List Value).toArray ss 0 0 A) (F0 mm 29 ls []) := by
    intro n
    induction n with
    | zero => intro x u1 K hKK hf; exact absurd hf (by simp [f_X5_passDay_L29])
    | succ n ih =>
      intro x u1 K hKK hf H locs ls hw hl
      rw [f_X5_passDay_L29] at hf
      refine lv_iload_n hx hb dX5_passDay_29 rfl (lv_at hl 1 rfl) ?_
      refine lv_aload_n hx hb dX5_passDay_30 rfl (lv_at hl 0 rfl) ?_
      refine gf_Vl_villages S hK hw (v := v) hn_v (x := x) (gsV _ _ _) tb_1_39 dX5_passDay_31 ?_
      refine lv_icmp_ge (tgt := 65) hx hb dX5_passDay_34 (by decide) (fun c_7 => ?_) (fun c_7 => ?_)
      · rw [if_pos c_7] at hf
        exact hKK x u1 hf _ _ _ hw (lv_sub hl [0, 1] rfl)
      · rw [if_neg c_7] at hf
        refine lv_aload_n hx hb dX5_passDay_37 rfl (lv_at hl 0 rfl) ?_
        refine gf_Vl_minutes S hK hw (v := v) hn_v tb_1_29 dX5_passDay_38 ?_
        refine lv_iload_n hx hb dX5_passDay_41 rfl (lv_at hl 1 rfl) ?_
        refine lv_aload_n hx hb dX5_passDay_42 rfl (lv_at hl 0 rfl) ?_
        refine gf_Vl_minutes S hK hw (v := v) hn_v tb_1_29 dX5_passDay_43 ?_
        refine lv_iload_n hx hb dX5_passDay_46 rfl (lv_at hl 1 rfl) ?_
        obtain ⟨g_8, hf⟩ := nn_ix_some hf
        refine al_Vl_minutes S hK hw (v := v) hn_v (x := x) (gsV _ _ _) g_8 dX5_passDay_47 ?_
        refine lv_aload_n hx hb dX5_passDay_48 rfl (lv_at hl 0 rfl) ?_
        refine gf_Vl_shifts S hK hw (v := v) hn_v tb_1_38 dX5_passDay_49 ?_
        refine lv_iload_n hx hb dX5_passDay_52 rfl (lv_at hl 1 rfl) ?_
        obtain ⟨g_9, hf⟩ := nn_ix_some hf
        refine al_Vl_shifts S hK hw (v := v) hn_v (x := x) (gsV _ _ _) g_9 dX5_passDay_53 ?_
        refine lv_iadd hx hb dX5_passDay_54 ?_
        obtain ⟨q_10, h_11, hf⟩ := nn_bind hf
        refine nn_calliN S (As := [.int (((g_Vl_minutes x) u1.toNatClampNeg) + ((g_Vl_shifts x) u1.toNatClampNeg))]) (rest := [.int (u1), .ref (ad (6*v+2))]) (c_X6_roundTheHour l D cy ad A (sV σ v x) (((g_Vl_minutes x) u1.toNatClampNeg) + ((g_Vl_shifts x) u1.toNatClampNeg)) q_10 h_11) mv_X6_roundTheHour (nw_8 hK.2) hK hw ⟨Nat.le_of_ble_eq_true rfl, Nat.le_of_ble_eq_true rfl⟩ ⟨Nat.zero_le _, Nat.zero_le _⟩ rfl hl.1 rfl (Nat.le_of_ble_eq_true rfl) dX5_passDay_55 (fun H locs hw => ?_)
        obtain ⟨g_12, hf⟩ := nn_ix_some hf
        refine as_Vl_minutes S hK hw (v := v) hn_v (x := x) (gsV _ _ _) g_12 (τ' := (sV σ v (s_Vl_minutes x (upd (g_Vl_minutes x) u1.toNatClampNeg q_10)))) (ssV σ v x (s_Vl_minutes x (upd (g_Vl_minutes x) u1.toNatClampNeg q_10))) dX5_passDay_58 (fun H locs hw => ?_)
        refine lv_iinc (v := u1 + (1 : Int32)) (lv' := [(1, .int (u1 + (1 : Int32))), (0, .ref (ad (6*v)))]) hx hb dX5_passDay_59 hl (k := 1) rfl (congrArg (fun z => u1 + z) (by decide)) (by decide) rfl (fun ls hl => ?_)
        refine lv_goto (tgt := 29) hx hb dX5_passDay_62 (by decide) ?_
        exact ih (s_Vl_minutes x (upd (g_Vl_minutes x) u1.toNatClampNeg q_10)) (u1 + (1 : Int32)) K hKK hf _ _ _ hw (lv_sub hl [1, 0] rfl)
  refine lv_iconst (v := 0) hx hb dX5_passDay_0 (by decide) ?_
  refine lv_istore_n (lv' := [(1, .int ((0 : Int32))), (0, .ref (ad (6*v)))]) hx hb dX5_passDay_1 rfl hl (by decide) rfl (fun ls hl => ?_)
  refine L2 100000 x (0 : Int32) _ (fun x_6 b1_5 hf H locs ls hw hl => ?_) hf _ _ _ hw (lv_sub hl [1, 0] rfl)
  refine lv_iconst (v := 0) hx hb dX5_passDay_27 (by decide) ?_
  refine lv_istore_n (lv' := [(1, .int ((0 : Int32))), (0, .ref (ad (6*v)))]) hx hb dX5_passDay_28 rfl hl (by decide) rfl (fun ls hl => ?_)
  refine L29 100000 x_6 (0 : Int32) _ (fun x_14 b1_13 hf H locs ls hw hl => ?_) hf _ _ _ hw (lv_sub hl [1, 0] rfl)
  refine lv_aload_n hx hb dX5_passDay_65 rfl (lv_at hl 0 rfl) ?_
  refine lv_dup hx hb dX5_passDay_66 rfl ?_
  refine gf_Vl_day S hK hw (v := v) hn_v (x := x_14) (gsV _ _ _) tb_1_43 dX5_passDay_67 ?_
  refine lv_iconst (v := 1) hx hb dX5_passDay_70 (by decide) ?_
  refine lv_iadd hx hb dX5_passDay_71 ?_
  refine pf_Vl_day S hK hw (v := v) hn_v (x := x_14) (gsV _ _ _) (τ' := (sV σ v (s_Vl_day x_14 ((g_Vl_day x_14) + (1 : Int32))))) (ssV σ v x_14 (s_Vl_day x_14 ((g_Vl_day x_14) + (1 : Int32)))) tb_1_43 dX5_passDay_72 (fun H locs hw => ?_)
  obtain rfl := Option.some.inj hf
  exact nn_vret S hr hlk hw hσ dX5_passDay_75
set_option maxRecDepth 100000 in
set_option maxHeartbeats 4000000 in
theorem c_X5_drawRinger (l : Launch) (D : va_G) (cy : Nat → ClassId) (ad : Nat → Nat) (A : Nat → Prop) (σ : nG) (v : Nat) (hn_v : v < 19) (x : nVl) (hx_Vv : gV σ v = x) (q : nVl) (hf : f_X5_drawRinger x = some q) (σ' : nG) (hσ : (sV σ v q) = σ') : nn_V l yX5_drawRinger (nn_ws yX5_drawRinger cX5_drawRinger 2 none) (nn_R 2) D cy ad A [.ref (ad (6*v))] σ σ' := by
  refine nn_enterV (plainFor_of_name (by decide +kernel)) (Nat.le_of_ble_eq_true rfl) (lv := [(0, .ref (ad (6*v)))]) rfl ?_
  intro pp ee ss mm bb me co S hr hlk hK hw ls hl
  have hx := S.1
  have hb := S.2.1
  have hw : nn_W D cy ad A ss.heap (sV σ v x) ss.heap [] := nn_W.eq (by rw [← hx_Vv]; exact (esV σ v).symm) hw
  unfold f_X5_drawRinger at hf
  refine lv_aload_n hx hb dX5_drawRinger_0 rfl (lv_at hl 0 rfl) ?_
  refine lv_aload_n hx hb dX5_drawRinger_1 rfl (lv_at hl 0 rfl) ?_
  refine gf_Vl_draw S hK hw (v := v) hn_v (x := x) (gsV _ _ _) tb_1_45 dX5_drawRinger_2 ?_
  refine lv_ldc (v := 1103515245) hx hb S.2.2.2.1 (S.2.2.2.2 _ tb_2_117) dX5_drawRinger_5 ?_
  refine lv_imul hx hb dX5_drawRinger_7 ?_
  refine lv_sipush (v := 12345) hx hb dX5_drawRinger_8 (by decide) ?_
  refine lv_iadd hx hb dX5_drawRinger_11 ?_
  refine lv_ldc (v := 2147483647) hx hb S.2.2.2.1 (S.2.2.2.2 _ tb_2_118) dX5_drawRinger_12 ?_
  refine lv_iand hx hb dX5_drawRinger_14 ?_
  refine pf_Vl_draw S hK hw (v := v) hn_v (x := x) (gsV _ _ _) (τ' := (sV σ v (s_Vl_draw x ((((g_Vl_draw x) * (1103515245 : Int32)) + (12345 : Int32)) &&& (2147483647 : Int32))))) (ssV σ v x (s_Vl_draw x ((((g_Vl_draw x) * (1103515245 : Int32)) + (12345 : Int32)) &&& (2147483647 : Int32)))) tb_1_45 dX5_drawRinger_15 (fun H locs hw => ?_)
  refine lv_aload_n hx hb dX5_drawRinger_18 rfl (lv_at hl 0 rfl) ?_
  refine gf_Vl_villages S hK hw (v := v) hn_v (x := (s_Vl_draw x ((((g_Vl_draw x) * (1103515245 : Int32)) + (12345 : Int32)) &&& (2147483647 : Int32)))) (gsV _ _ _) tb_1_39 dX5_drawRinger_19 ?_
  refine lv_if_le (tgt := 64) hx hb dX5_drawRinger_22 (by decide) (fun c_1 => ?_) (fun c_1 => ?_)
  · rw [if_pos c_1] at hf
    obtain rfl := Option.some.inj hf
    exact nn_vret S hr hlk hw hσ dX5_drawRinger_64
  · rw [if_neg c_1] at hf
    refine lv_aload_n hx hb dX5_drawRinger_25 rfl (lv_at hl 0 rfl) ?_
    refine gf_Vl_draw S hK hw (v := v) hn_v (x := (s_Vl_draw x ((((g_Vl_draw x) * (1103515245 : Int32)) + (12345 : Int32)) &&& (2147483647 : Int32)))) (gsV _ _ _) tb_1_45 dX5_drawRinger_26 ?_
    refine lv_ldc (v := 65536) hx hb S.2.2.2.1 (S.2.2.2.2 _ tb_2_119) dX5_drawRinger_29 ?_
    refine lv_idiv hx hb dX5_drawRinger_31 (by decide) ?_
    refine lv_aload_n hx hb dX5_drawRinger_32 rfl (lv_at hl 0 rfl) ?_
    refine gf_Vl_villages S hK hw (v := v) hn_v (x := (s_Vl_draw x ((((g_Vl_draw x) * (1103515245 : Int32)) + (12345 : Int32)) &&& (2147483647 : Int32)))) (gsV _ _ _) tb_1_39 dX5_drawRinger_33 ?_
    obtain ⟨g_2, hf⟩ := nn_nz_some hf
    refine lv_irem hx hb dX5_drawRinger_36 g_2 ?_
    refine lv_istore_n (lv' := [(1, .int (((g_Vl_draw (s_Vl_draw x ((((g_Vl_draw x) * (1103515245 : Int32)) + (12345 : Int32)) &&& (2147483647 : Int32)))) / (65536 : Int32)) - ((g_Vl_draw (s_Vl_draw x ((((g_Vl_draw x) * (1103515245 : Int32)) + (12345 : Int32)) &&& (2147483647 : Int32)))) / (65536 : Int32)) / (g_Vl_villages (s_Vl_draw x ((((g_Vl_draw x) * (1103515245 : Int32)) + (12345 : Int32)) &&& (2147483647 : Int32)))) * (g_Vl_villages (s_Vl_draw x ((((g_Vl_draw x) * (1103515245 : Int32)) + (12345 : Int32)) &&& (2147483647 : Int32)))))), (0, .ref (ad (6*v)))]) hx hb dX5_drawRinger_37 rfl hl (by decide) rfl (fun ls hl => ?_)
    refine lv_aload_n hx hb dX5_drawRinger_38 rfl (lv_at hl 1 rfl) ?_
    refine gf_Vl_minutes S hK hw (v := v) hn_v tb_1_29 dX5_drawRinger_39 ?_
    refine lv_iload_n hx hb dX5_drawRinger_42 rfl (lv_at hl 0 rfl) ?_
    refine lv_aload_n hx hb dX5_drawRinger_43 rfl (lv_at hl 1 rfl) ?_
    refine gf_Vl_minutes S hK hw (v := v) hn_v tb_1_29 dX5_drawRinger_44 ?_
    refine lv_iload_n hx hb dX5_drawRinger_47 rfl (lv_at hl 0 rfl) ?_
    obtain ⟨g_3, hf⟩ := nn_ix_some hf
    refine al_Vl_minutes S hK hw (v := v) hn_v (x := (s_Vl_draw x ((((g_Vl_draw x) * (1103515245 : Int32)) + (12345 : Int32)) &&& (2147483647 : Int32)))) (gsV _ _ _) g_3 dX5_drawRinger_48 ?_
    refine lv_aload_n hx hb dX5_drawRinger_49 rfl (lv_at hl 1 rfl) ?_
    refine gf_Vl_draw S hK hw (v := v) hn_v (x := (s_Vl_draw x ((((g_Vl_draw x) * (1103515245 : Int32)) + (12345 : Int32)) &&& (2147483647 : Int32)))) (gsV _ _ _) tb_1_45 dX5_drawRinger_50 ?_
    refine lv_sipush (v := 128) hx hb dX5_drawRinger_53 (by decide) ?_
    refine lv_idiv hx hb dX5_drawRinger_56 (by decide) ?_
    refine lv_iconst (v := 5) hx hb dX5_drawRinger_57 (by decide) ?_
    refine lv_irem hx hb dX5_drawRinger_58 (by decide) ?_
    refine lv_iadd hx hb dX5_drawRinger_59 ?_
    obtain ⟨q_4, h_5, hf⟩ := nn_bind hf
    refine nn_calliN S (As := [.int (((g_Vl_minutes (s_Vl_draw x ((((g_Vl_draw x) * (1103515245 : Int32)) + (12345 : Int32)) &&& (2147483647 : Int32)))) (((g_Vl_draw (s_Vl_draw x ((((g_Vl_draw x) * (1103515245 : Int32)) + (12345 : Int32)) &&& (2147483647 : Int32)))) / (65536 : Int32)) - ((g_Vl_draw (s_Vl_draw x ((((g_Vl_draw x) * (1103515245 : Int32)) + (12345 : Int32)) &&& (2147483647 : Int32)))) / (65536 : Int32)) / (g_Vl_villages (s_Vl_draw x ((((g_Vl_draw x) * (1103515245 : Int32)) + (12345 : Int32)) &&& (2147483647 : Int32)))) * (g_Vl_villages (s_Vl_draw x ((((g_Vl_draw x) * (1103515245 : Int32)) + (12345 : Int32)) &&& (2147483647 : Int32))))).toNatClampNeg) + (((g_Vl_draw (s_Vl_draw x ((((g_Vl_draw x) * (1103515245 : Int32)) + (12345 : Int32)) &&& (2147483647 : Int32)))) / (128 : Int32)) - ((g_Vl_draw (s_Vl_draw x ((((g_Vl_draw x) * (1103515245 : Int32)) + (12345 : Int32)) &&& (2147483647 : Int32)))) / (128 : Int32)) / (5 : Int32) * (5 : Int32)))]) (rest := [.int (((g_Vl_draw (s_Vl_draw x ((((g_Vl_draw x) * (1103515245 : Int32)) + (12345 : Int32)) &&& (2147483647 : Int32)))) / (65536 : Int32)) - ((g_Vl_draw (s_Vl_draw x ((((g_Vl_draw x) * (1103515245 : Int32)) + (12345 : Int32)) &&& (2147483647 : Int32)))) / (65536 : Int32)) / (g_Vl_villages (s_Vl_draw x ((((g_Vl_draw x) * (1103515245 : Int32)) + (12345 : Int32)) &&& (2147483647 : Int32)))) * (g_Vl_villages (s_Vl_draw x ((((g_Vl_draw x) * (1103515245 : Int32)) + (12345 : Int32)) &&& (2147483647 : Int32))))), .ref (ad (6*v+2))]) (c_X6_roundTheHour l D cy ad A (sV σ v (s_Vl_draw x ((((g_Vl_draw x) * (1103515245 : Int32)) + (12345 : Int32)) &&& (2147483647 : Int32)))) (((g_Vl_minutes (s_Vl_draw x ((((g_Vl_draw x) * (1103515245 : Int32)) + (12345 : Int32)) &&& (2147483647 : Int32)))) (((g_Vl_draw (s_Vl_draw x ((((g_Vl_draw x) * (1103515245 : Int32)) + (12345 : Int32)) &&& (2147483647 : Int32)))) / (65536 : Int32)) - ((g_Vl_draw (s_Vl_draw x ((((g_Vl_draw x) * (1103515245 : Int32)) + (12345 : Int32)) &&& (2147483647 : Int32)))) / (65536 : Int32)) / (g_Vl_villages (s_Vl_draw x ((((g_Vl_draw x) * (1103515245 : Int32)) + (12345 : Int32)) &&& (2147483647 : Int32)))) * (g_Vl_villages (s_Vl_draw x ((((g_Vl_draw x) * (1103515245 : Int32)) + (12345 : Int32)) &&& (2147483647 : Int32))))).toNatClampNeg) + (((g_Vl_draw (s_Vl_draw x ((((g_Vl_draw x) * (1103515245 : Int32)) + (12345 : Int32)) &&& (2147483647 : Int32)))) / (128 : Int32)) - ((g_Vl_draw (s_Vl_draw x ((((g_Vl_draw x) * (1103515245 : Int32)) + (12345 : Int32)) &&& (2147483647 : Int32)))) / (128 : Int32)) / (5 : Int32) * (5 : Int32))) q_4 h_5) mv_X6_roundTheHour (nw_8 hK.2) hK hw ⟨Nat.le_of_ble_eq_true rfl, Nat.le_of_ble_eq_true rfl⟩ ⟨Nat.zero_le _, Nat.zero_le _⟩ rfl hl.1 rfl (Nat.le_of_ble_eq_true rfl) dX5_drawRinger_60 (fun H locs hw => ?_)
    obtain ⟨g_6, hf⟩ := nn_ix_some hf
    refine as_Vl_minutes S hK hw (v := v) hn_v (x := (s_Vl_draw x ((((g_Vl_draw x) * (1103515245 : Int32)) + (12345 : Int32)) &&& (2147483647 : Int32)))) (gsV _ _ _) g_6 (τ' := (sV σ v (s_Vl_minutes (s_Vl_draw x ((((g_Vl_draw x) * (1103515245 : Int32)) + (12345 : Int32)) &&& (2147483647 : Int32))) (upd (g_Vl_minutes (s_Vl_draw x ((((g_Vl_draw x) * (1103515245 : Int32)) + (12345 : Int32)) &&& (2147483647 : Int32)))) (((g_Vl_draw (s_Vl_draw x ((((g_Vl_draw x) * (1103515245 : Int32)) + (12345 : Int32)) &&& (2147483647 : Int32)))) / (65536 : Int32)) - ((g_Vl_draw (s_Vl_draw x ((((g_Vl_draw x) * (1103515245 : Int32)) + (12345 : Int32)) &&& (2147483647 : Int32)))) / (65536 : Int32)) / (g_Vl_villages (s_Vl_draw x ((((g_Vl_draw x) * (1103515245 : Int32)) + (12345 : Int32)) &&& (2147483647 : Int32)))) * (g_Vl_villages (s_Vl_draw x ((((g_Vl_draw x) * (1103515245 : Int32)) + (12345 : Int32)) &&& (2147483647 : Int32))))).toNatClampNeg q_4)))) (ssV σ v (s_Vl_draw x ((((g_Vl_draw x) * (1103515245 : Int32)) + (12345 : Int32)) &&& (2147483647 : Int32))) (s_Vl_minutes (s_Vl_draw x ((((g_Vl_draw x) * (1103515245 : Int32)) + (12345 : Int32)) &&& (2147483647 : Int32))) (upd (g_Vl_minutes (s_Vl_draw x ((((g_Vl_draw x) * (1103515245 : Int32)) + (12345 : Int32)) &&& (2147483647 : Int32)))) (((g_Vl_draw (s_Vl_draw x ((((g_Vl_draw x) * (1103515245 : Int32)) + (12345 : Int32)) &&& (2147483647 : Int32)))) / (65536 : Int32)) - ((g_Vl_draw (s_Vl_draw x ((((g_Vl_draw x) * (1103515245 : Int32)) + (12345 : Int32)) &&& (2147483647 : Int32)))) / (65536 : Int32)) / (g_Vl_villages (s_Vl_draw x ((((g_Vl_draw x) * (1103515245 : Int32)) + (12345 : Int32)) &&& (2147483647 : Int32)))) * (g_Vl_villages (s_Vl_draw x ((((g_Vl_draw x) * (1103515245 : Int32)) + (12345 : Int32)) &&& (2147483647 : Int32))))).toNatClampNeg q_4))) dX5_drawRinger_63 (fun H locs hw => ?_)
    obtain rfl := Option.some.inj hf
    exact nn_vret S hr hlk hw hσ dX5_drawRinger_64
set_option maxRecDepth 100000 in
set_option maxHeartbeats 4000000 in
theorem c_X5_passDaysUntilTogether (l : Launch) (D : va_G) (cy : Nat → ClassId) (ad : Nat → Nat) (A : Nat → Prop) (σ : nG) (v : Nat) (hn_v : v < 19) (x : nVl) (hx_Vv : gV σ v = x) (q : Int32 × nVl) (hf : f_X5_passDaysUntilTogether x = some q) (σ' : nG) (hσ : (sV σ v q.2) = σ') : nn_I l yX5_passDaysUntilTogether (nn_ws yX5_passDaysUntilTogether cX5_passDaysUntilTogether 2 (some .int)) (nn_R 4) D cy ad A [.ref (ad (6*v))] σ q.1 σ' := by
  refine nn_enterI (plainFor_of_name (by decide +kernel)) (Nat.le_of_ble_eq_true rfl) (lv := [(0, .ref (ad (6*v)))]) rfl ?_
  intro pp ee ss mm bb me co S hr hlk hK hw ls hl
  have hx := S.1
  have hb := S.2.1
  have hw : nn_W D cy ad A ss.heap (sV σ v x) ss.heap [] := nn_W.eq (by rw [← hx_Vv]; exact (esV σ v).symm) hw
  unfold f_X5_passDaysUntilTogether at hf
  have L2 : ∀ (n : Nat) (x : nVl) (u1 : Int32) (K : nVl → Int32 → Option (Int32 × nVl)), (∀ (x : nVl) (u1 : Int32), K x u1 = some q → ∀ (H : Heap) (locs : List Loc) (ls : Array Slot), nn_W D cy ad A ss.heap (sV σ v x) H locs → lv_has ls 2 [(0, .ref (ad (6*v))), (1, .int (u1))] → W pp l ee (nn_R 4) ss mm ([.ref (ad (6*v))] : List Value).toArray bb me co H locs 0 0 (MQ bb (nn_qi D cy ad A q.1 σ') ([.ref (ad (6*v))] : List Value).toArray ss 0 0 A) (F0 mm 27 ls [])) → f_X5_passDaysUntilTogether_L2 n x u1 K = some q → ∀ (H : Heap) (locs : List Loc) (ls : Array Slot), nn_W D cy ad A ss.heap (sV σ v x) H locs → lv_has ls 2 [(0, .ref (ad (6*v))), (1, .int (u1))] → W pp l ee (nn_R 4) ss mm ([.ref (ad (6*v))] : List Value).toArray bb me co H locs 0 0 (MQ bb (nn_qi D cy ad A q.1 σ') ([.ref (ad (6*v))] : List Value).toArray ss 0 0 A) (F0 mm 2 ls []) := by
    intro n
    induction n with
    | zero => intro x u1 K hKK hf; exact absurd hf (by simp [f_X5_passDaysUntilTogether_L2])
    | succ n ih =>
      intro x u1 K hKK hf H locs ls hw hl
      rw [f_X5_passDaysUntilTogether_L2] at hf
      refine lv_iload_n hx hb dX5_passDaysUntilTogether_2 rfl (lv_at hl 1 rfl) ?_
      refine lv_bipush (v := 60) hx hb dX5_passDaysUntilTogether_3 (by decide) ?_
      refine lv_icmp_gt (tgt := 27) hx hb dX5_passDaysUntilTogether_5 (by decide) (fun c_1 => ?_) (fun c_1 => ?_)
      · rw [if_pos c_1] at hf
        exact hKK x u1 hf _ _ _ hw (lv_sub hl [0, 1] rfl)
      · rw [if_neg c_1] at hf
        refine lv_aload_n hx hb dX5_passDaysUntilTogether_8 rfl (lv_at hl 0 rfl) ?_
        obtain ⟨q_2, h_3, hf⟩ := nn_bind hf
        refine nn_calliV S (As := []) (rest := []) (ce_V (k := 0) (v := v) hn_v (by decide)) (by omega) rfl rfl (c_X5_ringers l D cy ad A (sV σ v x) v hn_v x (gsV _ _ _) q_2 h_3) mv_X5_ringers tb_2_183 hK hw ⟨Nat.le_of_ble_eq_true rfl, Nat.le_of_ble_eq_true rfl⟩ ⟨Nat.zero_le _, Nat.zero_le _⟩ rfl hl.1 rfl (Nat.le_of_ble_eq_true rfl) dX5_passDaysUntilTogether_9 (fun H locs hw => ?_)
        refine lv_if_eq (tgt := 17) hx hb dX5_passDaysUntilTogether_12 (by decide) (fun c_4 => ?_) (fun c_4 => ?_)
        · rw [if_pos c_4] at hf
          refine lv_aload_n hx hb dX5_passDaysUntilTogether_17 rfl (lv_at hl 0 rfl) ?_
          obtain ⟨q_5, h_6, hf⟩ := nn_bind hf
          refine nn_callvV S (As := []) (rest := []) (ce_V (k := 0) (v := v) hn_v (by decide)) (by omega) rfl rfl (c_X5_passDay l D cy ad A (sV σ v x) v hn_v x (gsV _ _ _) q_5 h_6 (sV σ v q_5) (ssV σ v x q_5)) mv_X5_passDay tb_2_184 hK hw ⟨Nat.le_of_ble_eq_true rfl, Nat.le_of_ble_eq_true rfl⟩ ⟨Nat.zero_le _, Nat.zero_le _⟩ rfl hl.1 rfl (Nat.le_of_ble_eq_true rfl) dX5_passDaysUntilTogether_18 (fun H locs hw => ?_)
          refine lv_iinc (v := u1 + (1 : Int32)) (lv' := [(1, .int (u1 + (1 : Int32))), (0, .ref (ad (6*v)))]) hx hb dX5_passDaysUntilTogether_21 hl (k := 1) rfl (congrArg (fun z => u1 + z) (by decide)) (by decide) rfl (fun ls hl => ?_)
          refine lv_goto (tgt := 2) hx hb dX5_passDaysUntilTogether_24 (by decide) ?_
          exact ih q_5 (u1 + (1 : Int32)) K hKK hf _ _ _ hw (lv_sub hl [1, 0] rfl)
        · rw [if_neg c_4] at hf
          refine lv_iload_n hx hb dX5_passDaysUntilTogether_15 rfl (lv_at hl 1 rfl) ?_
          obtain rfl := Option.some.inj hf
          exact nn_iret S hr hlk hw rfl hσ dX5_passDaysUntilTogether_16
  refine lv_iconst (v := 0) hx hb dX5_passDaysUntilTogether_0 (by decide) ?_
  refine lv_istore_n (lv' := [(1, .int ((0 : Int32))), (0, .ref (ad (6*v)))]) hx hb dX5_passDaysUntilTogether_1 rfl hl (by decide) rfl (fun ls hl => ?_)
  refine L2 100000 x (0 : Int32) _ (fun x_8 b1_7 hf H locs ls hw hl => ?_) hf _ _ _ hw (lv_sub hl [1, 0] rfl)
  refine lv_bipush (v := 61) hx hb dX5_passDaysUntilTogether_27 (by decide) ?_
  obtain rfl := Option.some.inj hf
  exact nn_iret S hr hlk hw rfl hσ dX5_passDaysUntilTogether_29
