set_option maxRecDepth 100000 in
set_option maxHeartbeats 4000000 in
theorem c_X5_becomeLike (l : Launch) (D : va_G) (cy : Nat → ClassId) (ad : Nat → Nat) (A : Nat → Prop) (σ : nG) (v : Nat) (hn_v : v < 19) (w : Nat) (hn_w : w < 19) (hne : w ≠ v) (x : nVl) (hx_Vv : gV σ v = x) (xw : nVl) (hx_Vw : gV σ w = xw) (q : nVl) (hf : f_X5_becomeLike x xw = some q) (σ' : nG) (hσ : (sV σ v q) = σ') : nn_V l yX5_becomeLike (nn_ws yX5_becomeLike cX5_becomeLike 2 none) (nn_R 1) D cy ad A [.ref (ad (6*v)), .ref (ad (6*w))] σ σ' := by
  refine nn_enterV (plainFor_of_name (by decide +kernel)) (Nat.le_of_ble_eq_true rfl) (lv := [(0, .ref (ad (6*v))), (1, .ref (ad (6*w)))]) rfl ?_
  intro pp ee ss mm bb me co S hr hlk hK hw ls hl
  have hx := S.1
  have hb := S.2.1
  have hw : nn_W D cy ad A ss.heap (sV σ v x) ss.heap [] := nn_W.eq (by rw [← hx_Vv]; exact (esV σ v).symm) hw
  unfold f_X5_becomeLike at hf
  refine lv_aload_n hx hb dX5_becomeLike_0 rfl (lv_at hl 1 rfl) ?_
  refine gf_Vl_kinds S hK hw (v := w) hn_w tb_1_27 dX5_becomeLike_1 ?_
  refine lv_iconst (v := 0) hx hb dX5_becomeLike_4 (by decide) ?_
  refine lv_aload_n hx hb dX5_becomeLike_5 rfl (lv_at hl 0 rfl) ?_
  refine gf_Vl_kinds S hK hw (v := v) hn_v tb_1_27 dX5_becomeLike_6 ?_
  refine lv_iconst (v := 0) hx hb dX5_becomeLike_9 (by decide) ?_
  refine lv_bipush (v := 6) hx hb dX5_becomeLike_10 (by decide) ?_
  obtain ⟨x_1, h_2, hf⟩ := nn_bind hf
  replace h_2 := Option.some.inj h_2
  refine ac_Vl_kinds S hK hw (v := v) (w := w) hn_v hn_w (x := x) (z := xw) (gsV _ _ _) ((gnV _ _ hne).trans hx_Vw) (by decide) (by decide) (by decide) (by decide) (by decide) hl.1 (by decide) (Nat.le_of_ble_eq_true rfl) (τ' := (sV σ v x_1)) (((ssV σ v x (s_Vl_kinds x (va_cpy (g_Vl_kinds xw) (g_Vl_kinds x) (0 : Int32).toNatClampNeg (0 : Int32).toNatClampNeg (6 : Int32).toNatClampNeg))) : _ = (sV σ v (s_Vl_kinds x (va_cpy (g_Vl_kinds xw) (g_Vl_kinds x) (0 : Int32).toNatClampNeg (0 : Int32).toNatClampNeg (6 : Int32).toNatClampNeg)))).trans (by rw [h_2])) tb_2_37 dX5_becomeLike_12 (fun H locs hw => ?_)
  refine lv_aload_n hx hb dX5_becomeLike_15 rfl (lv_at hl 1 rfl) ?_
  refine gf_Vl_minutes S hK hw (v := w) hn_w tb_1_29 dX5_becomeLike_16 ?_
  refine lv_iconst (v := 0) hx hb dX5_becomeLike_19 (by decide) ?_
  refine lv_aload_n hx hb dX5_becomeLike_20 rfl (lv_at hl 0 rfl) ?_
  refine gf_Vl_minutes S hK hw (v := v) hn_v tb_1_29 dX5_becomeLike_21 ?_
  refine lv_iconst (v := 0) hx hb dX5_becomeLike_24 (by decide) ?_
  refine lv_bipush (v := 6) hx hb dX5_becomeLike_25 (by decide) ?_
  obtain ⟨x_3, h_4, hf⟩ := nn_bind hf
  replace h_4 := Option.some.inj h_4
  refine ac_Vl_minutes S hK hw (v := v) (w := w) hn_v hn_w (x := x_1) (z := xw) (gsV _ _ _) ((gnV _ _ hne).trans hx_Vw) (by decide) (by decide) (by decide) (by decide) (by decide) hl.1 (by decide) (Nat.le_of_ble_eq_true rfl) (τ' := (sV σ v x_3)) (((ssV σ v x_1 (s_Vl_minutes x_1 (va_cpy (g_Vl_minutes xw) (g_Vl_minutes x_1) (0 : Int32).toNatClampNeg (0 : Int32).toNatClampNeg (6 : Int32).toNatClampNeg))) : _ = (sV σ v (s_Vl_minutes x_1 (va_cpy (g_Vl_minutes xw) (g_Vl_minutes x_1) (0 : Int32).toNatClampNeg (0 : Int32).toNatClampNeg (6 : Int32).toNatClampNeg)))).trans (by rw [h_4])) tb_2_37 dX5_becomeLike_27 (fun H locs hw => ?_)
  refine lv_aload_n hx hb dX5_becomeLike_30 rfl (lv_at hl 1 rfl) ?_
  refine gf_Vl_drifts S hK hw (v := w) hn_w tb_1_33 dX5_becomeLike_31 ?_
  refine lv_iconst (v := 0) hx hb dX5_becomeLike_34 (by decide) ?_
  refine lv_aload_n hx hb dX5_becomeLike_35 rfl (lv_at hl 0 rfl) ?_
  refine gf_Vl_drifts S hK hw (v := v) hn_v tb_1_33 dX5_becomeLike_36 ?_
  refine lv_iconst (v := 0) hx hb dX5_becomeLike_39 (by decide) ?_
  refine lv_bipush (v := 6) hx hb dX5_becomeLike_40 (by decide) ?_
  obtain ⟨x_5, h_6, hf⟩ := nn_bind hf
  replace h_6 := Option.some.inj h_6
  refine ac_Vl_drifts S hK hw (v := v) (w := w) hn_v hn_w (x := x_3) (z := xw) (gsV _ _ _) ((gnV _ _ hne).trans hx_Vw) (by decide) (by decide) (by decide) (by decide) (by decide) hl.1 (by decide) (Nat.le_of_ble_eq_true rfl) (τ' := (sV σ v x_5)) (((ssV σ v x_3 (s_Vl_drifts x_3 (va_cpy (g_Vl_drifts xw) (g_Vl_drifts x_3) (0 : Int32).toNatClampNeg (0 : Int32).toNatClampNeg (6 : Int32).toNatClampNeg))) : _ = (sV σ v (s_Vl_drifts x_3 (va_cpy (g_Vl_drifts xw) (g_Vl_drifts x_3) (0 : Int32).toNatClampNeg (0 : Int32).toNatClampNeg (6 : Int32).toNatClampNeg)))).trans (by rw [h_6])) tb_2_37 dX5_becomeLike_42 (fun H locs hw => ?_)
  refine lv_aload_n hx hb dX5_becomeLike_45 rfl (lv_at hl 1 rfl) ?_
  refine gf_Vl_miles S hK hw (v := w) hn_w tb_1_35 dX5_becomeLike_46 ?_
  refine lv_iconst (v := 0) hx hb dX5_becomeLike_49 (by decide) ?_
  refine lv_aload_n hx hb dX5_becomeLike_50 rfl (lv_at hl 0 rfl) ?_
  refine gf_Vl_miles S hK hw (v := v) hn_v tb_1_35 dX5_becomeLike_51 ?_
  refine lv_iconst (v := 0) hx hb dX5_becomeLike_54 (by decide) ?_
  refine lv_bipush (v := 6) hx hb dX5_becomeLike_55 (by decide) ?_
  obtain ⟨x_7, h_8, hf⟩ := nn_bind hf
  replace h_8 := Option.some.inj h_8
  refine ac_Vl_miles S hK hw (v := v) (w := w) hn_v hn_w (x := x_5) (z := xw) (gsV _ _ _) ((gnV _ _ hne).trans hx_Vw) (by decide) (by decide) (by decide) (by decide) (by decide) hl.1 (by decide) (Nat.le_of_ble_eq_true rfl) (τ' := (sV σ v x_7)) (((ssV σ v x_5 (s_Vl_miles x_5 (va_cpy (g_Vl_miles xw) (g_Vl_miles x_5) (0 : Int32).toNatClampNeg (0 : Int32).toNatClampNeg (6 : Int32).toNatClampNeg))) : _ = (sV σ v (s_Vl_miles x_5 (va_cpy (g_Vl_miles xw) (g_Vl_miles x_5) (0 : Int32).toNatClampNeg (0 : Int32).toNatClampNeg (6 : Int32).toNatClampNeg)))).trans (by rw [h_8])) tb_2_37 dX5_becomeLike_57 (fun H locs hw => ?_)
  refine lv_aload_n hx hb dX5_becomeLike_60 rfl (lv_at hl 0 rfl) ?_
  refine lv_aload_n hx hb dX5_becomeLike_61 rfl (lv_at hl 1 rfl) ?_
  refine gf_Vl_villages S hK hw (v := w) hn_w (x := xw) ((gnV _ _ hne).trans hx_Vw) tb_1_39 dX5_becomeLike_62 ?_
  refine pf_Vl_villages S hK hw (v := v) hn_v (x := x_7) (gsV _ _ _) (τ' := (sV σ v (s_Vl_villages x_7 (g_Vl_villages xw)))) (ssV σ v x_7 (s_Vl_villages x_7 (g_Vl_villages xw))) tb_1_39 dX5_becomeLike_65 (fun H locs hw => ?_)
  refine lv_aload_n hx hb dX5_becomeLike_68 rfl (lv_at hl 0 rfl) ?_
  refine lv_aload_n hx hb dX5_becomeLike_69 rfl (lv_at hl 1 rfl) ?_
  refine gf_Vl_day S hK hw (v := w) hn_w (x := xw) ((gnV _ _ hne).trans hx_Vw) tb_1_43 dX5_becomeLike_70 ?_
  refine pf_Vl_day S hK hw (v := v) hn_v (x := (s_Vl_villages x_7 (g_Vl_villages xw))) (gsV _ _ _) (τ' := (sV σ v (s_Vl_day (s_Vl_villages x_7 (g_Vl_villages xw)) (g_Vl_day xw)))) (ssV σ v (s_Vl_villages x_7 (g_Vl_villages xw)) (s_Vl_day (s_Vl_villages x_7 (g_Vl_villages xw)) (g_Vl_day xw))) tb_1_43 dX5_becomeLike_73 (fun H locs hw => ?_)
  refine lv_aload_n hx hb dX5_becomeLike_76 rfl (lv_at hl 0 rfl) ?_
  refine lv_aload_n hx hb dX5_becomeLike_77 rfl (lv_at hl 1 rfl) ?_
  refine gf_Vl_draw S hK hw (v := w) hn_w (x := xw) ((gnV _ _ hne).trans hx_Vw) tb_1_45 dX5_becomeLike_78 ?_
  obtain ⟨x_9, h_10, hf⟩ := nn_bind hf
  replace h_10 := Option.some.inj h_10
  refine pf_Vl_draw S hK hw (v := v) hn_v (x := (s_Vl_day (s_Vl_villages x_7 (g_Vl_villages xw)) (g_Vl_day xw))) (gsV _ _ _) (τ' := (sV σ v x_9)) (((ssV σ v (s_Vl_day (s_Vl_villages x_7 (g_Vl_villages xw)) (g_Vl_day xw)) (s_Vl_draw (s_Vl_day (s_Vl_villages x_7 (g_Vl_villages xw)) (g_Vl_day xw)) (g_Vl_draw xw))) : _ = (sV σ v (s_Vl_draw (s_Vl_day (s_Vl_villages x_7 (g_Vl_villages xw)) (g_Vl_day xw)) (g_Vl_draw xw)))).trans (by rw [h_10])) tb_1_45 dX5_becomeLike_81 (fun H locs hw => ?_)
  obtain rfl := Option.some.inj hf
  exact nn_vret S hr hlk hw hσ dX5_becomeLike_84
set_option maxRecDepth 100000 in
set_option maxHeartbeats 4000000 in
theorem c_X5_clear (l : Launch) (D : va_G) (cy : Nat → ClassId) (ad : Nat → Nat) (A : Nat → Prop) (σ : nG) (v : Nat) (hn_v : v < 19) (x : nVl) (hx_Vv : gV σ v = x) (q : nVl) (hf : f_X5_clear x = some q) (σ' : nG) (hσ : (sV σ v q) = σ') : nn_V l yX5_clear (nn_ws yX5_clear cX5_clear 1 none) (nn_R 0) D cy ad A [.ref (ad (6*v))] σ σ' := by
  refine nn_enterV (plainFor_of_name (by decide +kernel)) (Nat.le_of_ble_eq_true rfl) (lv := [(0, .ref (ad (6*v)))]) rfl ?_
  intro pp ee ss mm bb me co S hr hlk hK hw ls hl
  have hx := S.1
  have hb := S.2.1
  have hw : nn_W D cy ad A ss.heap (sV σ v x) ss.heap [] := nn_W.eq (by rw [← hx_Vv]; exact (esV σ v).symm) hw
  unfold f_X5_clear at hf
  refine lv_aload_n hx hb dX5_clear_0 rfl (lv_at hl 0 rfl) ?_
  refine lv_iconst (v := 0) hx hb dX5_clear_1 (by decide) ?_
  refine pf_Vl_villages S hK hw (v := v) hn_v (x := x) (gsV _ _ _) (τ' := (sV σ v (s_Vl_villages x (0 : Int32)))) (ssV σ v x (s_Vl_villages x (0 : Int32))) tb_1_39 dX5_clear_2 (fun H locs hw => ?_)
  refine lv_aload_n hx hb dX5_clear_5 rfl (lv_at hl 0 rfl) ?_
  refine lv_iconst (v := 0) hx hb dX5_clear_6 (by decide) ?_
  refine pf_Vl_day S hK hw (v := v) hn_v (x := (s_Vl_villages x (0 : Int32))) (gsV _ _ _) (τ' := (sV σ v (s_Vl_day (s_Vl_villages x (0 : Int32)) (0 : Int32)))) (ssV σ v (s_Vl_villages x (0 : Int32)) (s_Vl_day (s_Vl_villages x (0 : Int32)) (0 : Int32))) tb_1_43 dX5_clear_7 (fun H locs hw => ?_)
  obtain rfl := Option.some.inj hf
  exact nn_vret S hr hlk hw hσ dX5_clear_10
set_option maxRecDepth 100000 in
set_option maxHeartbeats 4000000 in
theorem c_X5_build (l : Launch) (D : va_G) (cy : Nat → ClassId) (ad : Nat → Nat) (A : Nat → Prop) (σ : nG) (v : Nat) (hn_v : v < 19) (x : nVl) (hx_Vv : gV σ v = x) (a1 : Int32) (a2 : Int32) (a3 : Int32) (a4 : Int32) (q : nVl) (hf : f_X5_build x a1 a2 a3 a4 = some q) (σ' : nG) (hσ : (sV σ v q) = σ') : nn_V l yX5_build (nn_ws yX5_build cX5_build 5 none) (nn_R 0) D cy ad A [.ref (ad (6*v)), .int (a1), .int (a2), .int (a3), .int (a4)] σ σ' := by
  refine nn_enterV (plainFor_of_name (by decide +kernel)) (Nat.le_of_ble_eq_true rfl) (lv := [(0, .ref (ad (6*v))), (1, .int (a1)), (2, .int (a2)), (3, .int (a3)), (4, .int (a4))]) rfl ?_
  intro pp ee ss mm bb me co S hr hlk hK hw ls hl
  have hx := S.1
  have hb := S.2.1
  have hw : nn_W D cy ad A ss.heap (sV σ v x) ss.heap [] := nn_W.eq (by rw [← hx_Vv]; exact (esV σ v).symm) hw
  unfold f_X5_build at hf
  refine lv_aload_n hx hb dX5_build_0 rfl (lv_at hl 0 rfl) ?_
  refine gf_Vl_villages S hK hw (v := v) hn_v (x := x) (gsV _ _ _) tb_1_39 dX5_build_1 ?_
  refine lv_bipush (v := 6) hx hb dX5_build_4 (by decide) ?_
  refine lv_icmp_ge (tgt := 60) hx hb dX5_build_6 (by decide) (fun c_1 => ?_) (fun c_1 => ?_)
  · rw [if_pos c_1] at hf
    obtain rfl := Option.some.inj hf
    exact nn_vret S hr hlk hw hσ dX5_build_60
  · rw [if_neg c_1] at hf
    refine lv_aload_n hx hb dX5_build_9 rfl (lv_at hl 0 rfl) ?_
    refine gf_Vl_kinds S hK hw (v := v) hn_v tb_1_27 dX5_build_10 ?_
    refine lv_aload_n hx hb dX5_build_13 rfl (lv_at hl 0 rfl) ?_
    refine gf_Vl_villages S hK hw (v := v) hn_v (x := x) (gsV _ _ _) tb_1_39 dX5_build_14 ?_
    refine lv_iload_n hx hb dX5_build_17 rfl (lv_at hl 1 rfl) ?_
    obtain ⟨g_2, hf⟩ := nn_ix_some hf
    refine as_Vl_kinds S hK hw (v := v) hn_v (x := x) (gsV _ _ _) g_2 (τ' := (sV σ v (s_Vl_kinds x (upd (g_Vl_kinds x) (g_Vl_villages x).toNatClampNeg a1)))) (ssV σ v x (s_Vl_kinds x (upd (g_Vl_kinds x) (g_Vl_villages x).toNatClampNeg a1))) dX5_build_18 (fun H locs hw => ?_)
    refine lv_aload_n hx hb dX5_build_19 rfl (lv_at hl 0 rfl) ?_
    refine gf_Vl_minutes S hK hw (v := v) hn_v tb_1_29 dX5_build_20 ?_
    refine lv_aload_n hx hb dX5_build_23 rfl (lv_at hl 0 rfl) ?_
    refine gf_Vl_villages S hK hw (v := v) hn_v (x := (s_Vl_kinds x (upd (g_Vl_kinds x) (g_Vl_villages x).toNatClampNeg a1))) (gsV _ _ _) tb_1_39 dX5_build_24 ?_
    refine lv_iload_n hx hb dX5_build_27 rfl (lv_at hl 2 rfl) ?_
    obtain ⟨g_3, hf⟩ := nn_ix_some hf
    obtain ⟨x_4, h_5, hf⟩ := nn_bind hf
    replace h_5 := Option.some.inj h_5
    refine as_Vl_minutes S hK hw (v := v) hn_v (x := (s_Vl_kinds x (upd (g_Vl_kinds x) (g_Vl_villages x).toNatClampNeg a1))) (gsV _ _ _) g_3 (τ' := (sV σ v x_4)) (((ssV σ v (s_Vl_kinds x (upd (g_Vl_kinds x) (g_Vl_villages x).toNatClampNeg a1)) (s_Vl_minutes (s_Vl_kinds x (upd (g_Vl_kinds x) (g_Vl_villages x).toNatClampNeg a1)) (upd (g_Vl_minutes (s_Vl_kinds x (upd (g_Vl_kinds x) (g_Vl_villages x).toNatClampNeg a1))) (g_Vl_villages (s_Vl_kinds x (upd (g_Vl_kinds x) (g_Vl_villages x).toNatClampNeg a1))).toNatClampNeg a2))) : _ = (sV σ v (s_Vl_minutes (s_Vl_kinds x (upd (g_Vl_kinds x) (g_Vl_villages x).toNatClampNeg a1)) (upd (g_Vl_minutes (s_Vl_kinds x (upd (g_Vl_kinds x) (g_Vl_villages x).toNatClampNeg a1))) (g_Vl_villages (s_Vl_kinds x (upd (g_Vl_kinds x) (g_Vl_villages x).toNatClampNeg a1))).toNatClampNeg a2)))).trans (by rw [h_5])) dX5_build_28 (fun H locs hw => ?_)
    refine lv_aload_n hx hb dX5_build_29 rfl (lv_at hl 0 rfl) ?_
    refine gf_Vl_drifts S hK hw (v := v) hn_v tb_1_33 dX5_build_30 ?_
    refine lv_aload_n hx hb dX5_build_33 rfl (lv_at hl 0 rfl) ?_
    refine gf_Vl_villages S hK hw (v := v) hn_v (x := x_4) (gsV _ _ _) tb_1_39 dX5_build_34 ?_
    refine lv_iload_n hx hb dX5_build_37 rfl (lv_at hl 3 rfl) ?_
    obtain ⟨g_6, hf⟩ := nn_ix_some hf
    refine as_Vl_drifts S hK hw (v := v) hn_v (x := x_4) (gsV _ _ _) g_6 (τ' := (sV σ v (s_Vl_drifts x_4 (upd (g_Vl_drifts x_4) (g_Vl_villages x_4).toNatClampNeg a3)))) (ssV σ v x_4 (s_Vl_drifts x_4 (upd (g_Vl_drifts x_4) (g_Vl_villages x_4).toNatClampNeg a3))) dX5_build_38 (fun H locs hw => ?_)
    refine lv_aload_n hx hb dX5_build_39 rfl (lv_at hl 0 rfl) ?_
    refine gf_Vl_miles S hK hw (v := v) hn_v tb_1_35 dX5_build_40 ?_
    refine lv_aload_n hx hb dX5_build_43 rfl (lv_at hl 0 rfl) ?_
    refine gf_Vl_villages S hK hw (v := v) hn_v (x := (s_Vl_drifts x_4 (upd (g_Vl_drifts x_4) (g_Vl_villages x_4).toNatClampNeg a3))) (gsV _ _ _) tb_1_39 dX5_build_44 ?_
    refine lv_iload hx hb dX5_build_47 (lv_at hl 4 rfl) ?_
    obtain ⟨g_7, hf⟩ := nn_ix_some hf
    obtain ⟨x_8, h_9, hf⟩ := nn_bind hf
    replace h_9 := Option.some.inj h_9
    refine as_Vl_miles S hK hw (v := v) hn_v (x := (s_Vl_drifts x_4 (upd (g_Vl_drifts x_4) (g_Vl_villages x_4).toNatClampNeg a3))) (gsV _ _ _) g_7 (τ' := (sV σ v x_8)) (((ssV σ v (s_Vl_drifts x_4 (upd (g_Vl_drifts x_4) (g_Vl_villages x_4).toNatClampNeg a3)) (s_Vl_miles (s_Vl_drifts x_4 (upd (g_Vl_drifts x_4) (g_Vl_villages x_4).toNatClampNeg a3)) (upd (g_Vl_miles (s_Vl_drifts x_4 (upd (g_Vl_drifts x_4) (g_Vl_villages x_4).toNatClampNeg a3))) (g_Vl_villages (s_Vl_drifts x_4 (upd (g_Vl_drifts x_4) (g_Vl_villages x_4).toNatClampNeg a3))).toNatClampNeg a4))) : _ = (sV σ v (s_Vl_miles (s_Vl_drifts x_4 (upd (g_Vl_drifts x_4) (g_Vl_villages x_4).toNatClampNeg a3)) (upd (g_Vl_miles (s_Vl_drifts x_4 (upd (g_Vl_drifts x_4) (g_Vl_villages x_4).toNatClampNeg a3))) (g_Vl_villages (s_Vl_drifts x_4 (upd (g_Vl_drifts x_4) (g_Vl_villages x_4).toNatClampNeg a3))).toNatClampNeg a4)))).trans (by rw [h_9])) dX5_build_49 (fun H locs hw => ?_)
    refine lv_aload_n hx hb dX5_build_50 rfl (lv_at hl 0 rfl) ?_
    refine lv_dup hx hb dX5_build_51 rfl ?_
    refine gf_Vl_villages S hK hw (v := v) hn_v (x := x_8) (gsV _ _ _) tb_1_39 dX5_build_52 ?_
    refine lv_iconst (v := 1) hx hb dX5_build_55 (by decide) ?_
    refine lv_iadd hx hb dX5_build_56 ?_
    refine pf_Vl_villages S hK hw (v := v) hn_v (x := x_8) (gsV _ _ _) (τ' := (sV σ v (s_Vl_villages x_8 ((g_Vl_villages x_8) + (1 : Int32))))) (ssV σ v x_8 (s_Vl_villages x_8 ((g_Vl_villages x_8) + (1 : Int32)))) tb_1_39 dX5_build_57 (fun H locs hw => ?_)
    obtain rfl := Option.some.inj hf
    exact nn_vret S hr hlk hw hσ dX5_build_60
set_option maxRecDepth 100000 in
set_option maxHeartbeats 4000000 in
theorem c_X5_has (l : Launch) (D : va_G) (cy : Nat → ClassId) (ad : Nat → Nat) (A : Nat → Prop) (σ : nG) (v : Nat) (hn_v : v < 19) (x : nVl) (hx_Vv : gV σ v = x) (a1 : Int32) (q : Int32) (hf : f_X5_has x a1 = some q) : nn_I l yX5_has (nn_ws yX5_has cX5_has 2 (some .boolean)) (nn_R 0) D cy ad A [.ref (ad (6*v)), .int (a1)] σ q σ := by
  refine nn_enterI (plainFor_of_name (by decide +kernel)) (Nat.le_of_ble_eq_true rfl) (lv := [(0, .ref (ad (6*v))), (1, .int (a1))]) rfl ?_
  intro pp ee ss mm bb me co S hr hlk hK hw ls hl
  have hx := S.1
  have hb := S.2.1
  unfold f_X5_has at hf
  refine lv_iload_n hx hb dX5_has_0 rfl (lv_at hl 1 rfl) ?_
  refine lv_if_lt (tgt := 16) hx hb dX5_has_1 (by decide) (fun c_1 => ?_) (fun c_1 => ?_)
  · rw [if_pos c_1] at hf
    refine lv_iconst (v := 0) hx hb dX5_has_16 (by decide) ?_
    obtain rfl := Option.some.inj hf
    exact nn_zret S hr hlk hw rfl rfl rfl dX5_has_17
  · rw [if_neg c_1] at hf
    refine lv_iload_n hx hb dX5_has_4 rfl (lv_at hl 1 rfl) ?_
    refine lv_aload_n hx hb dX5_has_5 rfl (lv_at hl 0 rfl) ?_
    refine gf_Vl_villages S hK hw (v := v) hn_v (x := x) hx_Vv tb_1_39 dX5_has_6 ?_
    refine lv_icmp_ge (tgt := 16) hx hb dX5_has_9 (by decide) (fun c_2 => ?_) (fun c_2 => ?_)
    · rw [if_pos c_2] at hf
      refine lv_iconst (v := 0) hx hb dX5_has_16 (by decide) ?_
      obtain rfl := Option.some.inj hf
      exact nn_zret S hr hlk hw rfl rfl rfl dX5_has_17
    · rw [if_neg c_2] at hf
      refine lv_iconst (v := 1) hx hb dX5_has_12 (by decide) ?_
      refine lv_goto (tgt := 17) hx hb dX5_has_13 (by decide) ?_
      obtain rfl := Option.some.inj hf
      exact nn_zret S hr hlk hw rfl rfl rfl dX5_has_17
set_option maxRecDepth 100000 in
set_option maxHeartbeats 4000000 in
theorem c_X5_hasBoth (l : Launch) (D : va_G) (cy : Nat → ClassId) (ad : Nat → Nat) (A : Nat → Prop) (σ : nG) (v : Nat) (hn_v : v < 19) (x : nVl) (hx_Vv : gV σ v = x) (a1 : Int32) (a2 : Int32) (q : Int32) (hf : f_X5_hasBoth x a1 a2 = some q) : nn_I l yX5_hasBoth (nn_ws yX5_hasBoth cX5_hasBoth 3 (some .boolean)) (nn_R 1) D cy ad A [.ref (ad (6*v)), .int (a1), .int (a2)] σ q σ := by
  refine nn_enterI (plainFor_of_name (by decide +kernel)) (Nat.le_of_ble_eq_true rfl) (lv := [(0, .ref (ad (6*v))), (1, .int (a1)), (2, .int (a2))]) rfl ?_
  intro pp ee ss mm bb me co S hr hlk hK hw ls hl
  have hx := S.1
  have hb := S.2.1
  unfold f_X5_hasBoth at hf
  refine lv_aload_n hx hb dX5_hasBoth_0 rfl (lv_at hl 0 rfl) ?_
  refine lv_iload_n hx hb dX5_hasBoth_1 rfl (lv_at hl 1 rfl) ?_
  obtain ⟨q_1, h_2, hf⟩ := nn_bind hf
  refine nn_calliV S (As := [.int (a1)]) (rest := []) (ce_V (k := 0) (v := v) hn_v (by decide)) (by omega) rfl rfl (c_X5_has l D cy ad A σ v hn_v x hx_Vv a1 q_1 h_2) mv_X5_has tb_2_16 hK hw ⟨Nat.le_of_ble_eq_true rfl, Nat.le_of_ble_eq_true rfl⟩ ⟨Nat.zero_le _, Nat.zero_le _⟩ rfl hl.1 rfl (Nat.le_of_ble_eq_true rfl) dX5_hasBoth_2 (fun H locs hw => ?_)
  refine lv_if_eq (tgt := 25) hx hb dX5_hasBoth_5 (by decide) (fun c_3 => ?_) (fun c_3 => ?_)
  · rw [if_pos c_3] at hf
    refine lv_iconst (v := 0) hx hb dX5_hasBoth_25 (by decide) ?_
    obtain rfl := Option.some.inj hf
    exact nn_zret S hr hlk hw rfl rfl rfl dX5_hasBoth_26
  · rw [if_neg c_3] at hf
    refine lv_aload_n hx hb dX5_hasBoth_8 rfl (lv_at hl 0 rfl) ?_
    refine lv_iload_n hx hb dX5_hasBoth_9 rfl (lv_at hl 2 rfl) ?_
    obtain ⟨q_4, h_5, hf⟩ := nn_bind hf
    refine nn_calliV S (As := [.int (a2)]) (rest := []) (ce_V (k := 0) (v := v) hn_v (by decide)) (by omega) rfl rfl (c_X5_has l D cy ad A σ v hn_v x hx_Vv a2 q_4 h_5) mv_X5_has tb_2_16 hK hw ⟨Nat.le_of_ble_eq_true rfl, Nat.le_of_ble_eq_true rfl⟩ ⟨Nat.zero_le _, Nat.zero_le _⟩ rfl hl.1 rfl (Nat.le_of_ble_eq_true rfl) dX5_hasBoth_10 (fun H locs hw => ?_)
    refine lv_if_eq (tgt := 25) hx hb dX5_hasBoth_13 (by decide) (fun c_6 => ?_) (fun c_6 => ?_)
    · rw [if_pos c_6] at hf
      refine lv_iconst (v := 0) hx hb dX5_hasBoth_25 (by decide) ?_
      obtain rfl := Option.some.inj hf
      exact nn_zret S hr hlk hw rfl rfl rfl dX5_hasBoth_26
    · rw [if_neg c_6] at hf
      refine lv_iload_n hx hb dX5_hasBoth_16 rfl (lv_at hl 1 rfl) ?_
      refine lv_iload_n hx hb dX5_hasBoth_17 rfl (lv_at hl 2 rfl) ?_
      refine lv_icmp_eq (tgt := 25) hx hb dX5_hasBoth_18 (by decide) (fun c_7 => ?_) (fun c_7 => ?_)
      · rw [if_pos c_7] at hf
        refine lv_iconst (v := 0) hx hb dX5_hasBoth_25 (by decide) ?_
        obtain rfl := Option.some.inj hf
        exact nn_zret S hr hlk hw rfl rfl rfl dX5_hasBoth_26
      · rw [if_neg c_7] at hf
        refine lv_iconst (v := 1) hx hb dX5_hasBoth_21 (by decide) ?_
        refine lv_goto (tgt := 26) hx hb dX5_hasBoth_22 (by decide) ?_
        obtain rfl := Option.some.inj hf
        exact nn_zret S hr hlk hw rfl rfl rfl dX5_hasBoth_26
set_option maxRecDepth 100000 in
set_option maxHeartbeats 4000000 in
theorem c_X5_gapBetween (l : Launch) (D : va_G) (cy : Nat → ClassId) (ad : Nat → Nat) (A : Nat → Prop) (σ : nG) (v : Nat) (hn_v : v < 19) (x : nVl) (hx_Vv : gV σ v = x) (a1 : Int32) (a2 : Int32) (q : Int32) (hf : f_X5_gapBetween x a1 a2 = some q) : nn_I l yX5_gapBetween (nn_ws yX5_gapBetween cX5_gapBetween 3 (some .int)) (nn_R 1) D cy ad A [.ref (ad (6*v)), .int (a1), .int (a2)] σ q σ := by
  refine nn_enterI (plainFor_of_name (by decide +kernel)) (Nat.le_of_ble_eq_true rfl) (lv := [(0, .ref (ad (6*v))), (1, .int (a1)), (2, .int (a2))]) rfl ?_
  intro pp ee ss mm bb me co S hr hlk hK hw ls hl
  have hx := S.1
  have hb := S.2.1
  unfold f_X5_gapBetween at hf
  refine lv_aload_n hx hb dX5_gapBetween_0 rfl (lv_at hl 0 rfl) ?_
  refine gf_Vl_minutes S hK hw (v := v) hn_v tb_1_29 dX5_gapBetween_1 ?_
  refine lv_iload_n hx hb dX5_gapBetween_4 rfl (lv_at hl 1 rfl) ?_
  obtain ⟨g_1, hf⟩ := nn_ix_some hf
  refine al_Vl_minutes S hK hw (v := v) hn_v (x := x) hx_Vv g_1 dX5_gapBetween_5 ?_
  refine lv_aload_n hx hb dX5_gapBetween_6 rfl (lv_at hl 0 rfl) ?_
  refine gf_Vl_minutes S hK hw (v := v) hn_v tb_1_29 dX5_gapBetween_7 ?_
  refine lv_iload_n hx hb dX5_gapBetween_10 rfl (lv_at hl 2 rfl) ?_
  obtain ⟨g_2, hf⟩ := nn_ix_some hf
  refine al_Vl_minutes S hK hw (v := v) hn_v (x := x) hx_Vv g_2 dX5_gapBetween_11 ?_
  obtain ⟨q_3, h_4, hf⟩ := nn_bind hf
  refine nn_calliN S (As := [.int ((g_Vl_minutes x) a1.toNatClampNeg), .int ((g_Vl_minutes x) a2.toNatClampNeg)]) (rest := []) (c_X6_shorterWay l D cy ad A σ ((g_Vl_minutes x) a1.toNatClampNeg) ((g_Vl_minutes x) a2.toNatClampNeg) q_3 h_4) mv_X6_shorterWay (nw_7 hK.2) hK hw ⟨Nat.le_of_ble_eq_true rfl, Nat.le_of_ble_eq_true rfl⟩ ⟨Nat.zero_le _, Nat.zero_le _⟩ rfl hl.1 rfl (Nat.le_of_ble_eq_true rfl) dX5_gapBetween_12 (fun H locs hw => ?_)
  obtain rfl := Option.some.inj hf
  exact nn_iret S hr hlk hw rfl rfl dX5_gapBetween_15
set_option maxRecDepth 100000 in
set_option maxHeartbeats 4000000 in
theorem c_X5_leastGap (l : Launch) (D : va_G) (cy : Nat → ClassId) (ad : Nat → Nat) (A : Nat → Prop) (σ : nG) (v : Nat) (hn_v : v < 19) (x : nVl) (hx_Vv : gV σ v = x) (q : Int32) (hf : f_X5_leastGap x = some q) : nn_I l yX5_leastGap (nn_ws yX5_leastGap cX5_leastGap 4 (some .int)) (nn_R 2) D cy ad A [.ref (ad (6*v))] σ q σ := by
  refine nn_enterI (plainFor_of_name (by decide +kernel)) (Nat.le_of_ble_eq_true rfl) (lv := [(0, .ref (ad (6*v)))]) rfl ?_
  intro pp ee ss mm bb me co S hr hlk hK hw ls hl
  have hx := S.1
  have hb := S.2.1
  unfold f_X5_leastGap at hf
  have L15 : ∀ (n : Nat) (u1 : Int32) (u2 : Int32) (u3 : Int32) (K : Int32 → Int32 → Int32 → Option (Int32)), (∀ (u1 : Int32) (u2 : Int32) (u3 : Int32), K u1 u2 u3 = some q → ∀ (H : Heap) (locs : List Loc) (ls : Array Slot), nn_W D cy ad A ss.heap σ H locs → lv_has ls 4 [(0, .ref (ad (6*v))), (1, .int (u1)), (2, .int (u2)), (3, .int (u3))] → W pp l ee (nn_R 2) ss mm ([.ref (ad (6*v))] : List Value).toArray bb me co H locs 0 0 (MQ bb (nn_qi D cy ad A q σ) ([.ref (ad (6*v))] : List Value).toArray ss 0 0 A) (F0 mm 37 ls [])) → f_X5_leastGap_L15 x n u1 u2 u3 K = some q → ∀ (H : Heap) (locs : List Loc) (ls : Array Slot), nn_W D cy ad A ss.heap σ H locs → lv_has ls 4 [(0, .ref (ad (6*v))), (1, .int (u1)), (2, .int (u2)), (3, .int (u3))] → W pp l ee (nn_R 2) ss mm ([.ref (ad (6*v))] : List Value).toArray bb me co H locs 0 0 (MQ bb (nn_qi D cy ad A q σ) ([.ref (ad (6*v))] : List Value).toArray ss 0 0 A) (F0 mm 15 ls []) := by
    intro n
    induction n with
    | zero => intro u1 u2 u3 K hKK hf; exact absurd hf (by simp [f_X5_leastGap_L15])
    | succ n ih =>
      intro u1 u2 u3 K hKK hf H locs ls hw hl
      rw [f_X5_leastGap_L15] at hf
      refine lv_iload_n hx hb dX5_leastGap_15 rfl (lv_at hl 3 rfl) ?_
      refine lv_iload_n hx hb dX5_leastGap_16 rfl (lv_at hl 2 rfl) ?_
      refine lv_icmp_ge (tgt := 37) hx hb dX5_leastGap_17 (by decide) (fun c_2 => ?_) (fun c_2 => ?_)
      · rw [if_pos c_2] at hf
        exact hKK u1 u2 u3 hf _ _ _ hw (lv_sub hl [0, 1, 2, 3] rfl)
      · rw [if_neg c_2] at hf
        refine lv_iload_n hx hb dX5_leastGap_20 rfl (lv_at hl 1 rfl) ?_
        refine lv_aload_n hx hb dX5_leastGap_21 rfl (lv_at hl 0 rfl) ?_
        refine lv_iload_n hx hb dX5_leastGap_22 rfl (lv_at hl 2 rfl) ?_
        refine lv_iload_n hx hb dX5_leastGap_23 rfl (lv_at hl 3 rfl) ?_
        obtain ⟨q_3, h_4, hf⟩ := nn_bind hf
        refine nn_calliV S (As := [.int (u2), .int (u3)]) (rest := [.int (u1)]) (ce_V (k := 0) (v := v) hn_v (by decide)) (by omega) rfl rfl (c_X5_gapBetween l D cy ad A σ v hn_v x hx_Vv u2 u3 q_3 h_4) mv_X5_gapBetween tb_2_92 hK hw ⟨Nat.le_of_ble_eq_true rfl, Nat.le_of_ble_eq_true rfl⟩ ⟨Nat.zero_le _, Nat.zero_le _⟩ rfl hl.1 rfl (Nat.le_of_ble_eq_true rfl) dX5_leastGap_24 (fun H locs hw => ?_)
        obtain ⟨q_5, h_6, hf⟩ := nn_bind hf
        refine nn_calliS S (As := [.int (u1), .int (q_3)]) (rest := []) (c_J9_min_7cf53 l D cy ad A σ u1 q_3 q_5 h_6) mv_J9_min_7cf53 tb_2_93 hK hw ⟨Nat.le_of_ble_eq_true rfl, Nat.le_of_ble_eq_true rfl⟩ ⟨Nat.zero_le _, Nat.zero_le _⟩ rfl hl.1 rfl (Nat.le_of_ble_eq_true rfl) dX5_leastGap_27 (fun H locs hw => ?_)
        refine lv_istore_n (lv' := [(1, .int (q_5)), (0, .ref (ad (6*v))), (2, .int (u2)), (3, .int (u3))]) hx hb dX5_leastGap_30 rfl hl (by decide) rfl (fun ls hl => ?_)
        refine lv_iinc (v := u3 + (1 : Int32)) (lv' := [(3, .int (u3 + (1 : Int32))), (1, .int (q_5)), (0, .ref (ad (6*v))), (2, .int (u2))]) hx hb dX5_leastGap_31 hl (k := 3) rfl (congrArg (fun z => u3 + z) (by decide)) (by decide) rfl (fun ls hl => ?_)
        refine lv_goto (tgt := 15) hx hb dX5_leastGap_34 (by decide) ?_
        exact ih q_5 u2 (u3 + (1 : Int32)) K hKK hf _ _ _ hw (lv_sub hl [2, 1, 3, 0] rfl)
  have L5 : ∀ (n : Nat) (u1 : Int32) (u2 : Int32) (K : Int32 → Int32 → Option (Int32)), (∀ (u1 : Int32) (u2 : Int32), K u1 u2 = some q → ∀ (H : Heap) (locs : List Loc) (ls : Array Slot), nn_W D cy ad A ss.heap σ H locs → lv_has ls 4 [(0, .ref (ad (6*v))), (1, .int (u1)), (2, .int (u2))] → W pp l ee (nn_R 2) ss mm ([.ref (ad (6*v))] : List Value).toArray bb me co H locs 0 0 (MQ bb (nn_qi D cy ad A q σ) ([.ref (ad (6*v))] : List Value).toArray ss 0 0 A) (F0 mm 43 ls [])) → f_X5_leastGap_L5 x n u1 u2 K = some q → ∀ (H : Heap) (locs : List Loc) (ls : Array Slot), nn_W D cy ad A ss.heap σ H locs → lv_has ls 4 [(0, .ref (ad (6*v))), (1, .int (u1)), (2, .int (u2))] → W pp l ee (nn_R 2) ss mm ([.ref (ad (6*v))] : List Value).toArray bb me co H locs 0 0 (MQ bb (nn_qi D cy ad A q σ) ([.ref (ad (6*v))] : List Value).toArray ss 0 0 A) (F0 mm 5 ls []) := by
    intro n
    induction n with
    | zero => intro u1 u2 K hKK hf; exact absurd hf (by simp [f_X5_leastGap_L5])
    | succ n ih =>
      intro u1 u2 K hKK hf H locs ls hw hl
      rw [f_X5_leastGap_L5] at hf
      refine lv_iload_n hx hb dX5_leastGap_5 rfl (lv_at hl 2 rfl) ?_
      refine lv_aload_n hx hb dX5_leastGap_6 rfl (lv_at hl 0 rfl) ?_
      refine gf_Vl_villages S hK hw (v := v) hn_v (x := x) hx_Vv tb_1_39 dX5_leastGap_7 ?_
      refine lv_icmp_ge (tgt := 43) hx hb dX5_leastGap_10 (by decide) (fun c_1 => ?_) (fun c_1 => ?_)
      · rw [if_pos c_1] at hf
        exact hKK u1 u2 hf _ _ _ hw (lv_sub hl [0, 1, 2] rfl)
      · rw [if_neg c_1] at hf
        refine lv_iconst (v := 0) hx hb dX5_leastGap_13 (by decide) ?_
        refine lv_istore_n (lv' := [(3, .int ((0 : Int32))), (0, .ref (ad (6*v))), (1, .int (u1)), (2, .int (u2))]) hx hb dX5_leastGap_14 rfl hl (by decide) rfl (fun ls hl => ?_)
        refine L15 100000 u1 u2 (0 : Int32) _ (fun b1_7 b2_8 b3_9 hf H locs ls hw hl => ?_) hf _ _ _ hw (lv_sub hl [1, 2, 3, 0] rfl)
        refine lv_iinc (v := b2_8 + (1 : Int32)) (lv' := [(2, .int (b2_8 + (1 : Int32))), (0, .ref (ad (6*v))), (1, .int (b1_7)), (3, .int (b3_9))]) hx hb dX5_leastGap_37 hl (k := 2) rfl (congrArg (fun z => b2_8 + z) (by decide)) (by decide) rfl (fun ls hl => ?_)
        refine lv_goto (tgt := 5) hx hb dX5_leastGap_40 (by decide) ?_
        exact ih b1_7 (b2_8 + (1 : Int32)) K hKK hf _ _ _ hw (lv_sub hl [1, 2, 0] rfl)
  refine lv_bipush (v := 30) hx hb dX5_leastGap_0 (by decide) ?_
  refine lv_istore_n (lv' := [(1, .int ((30 : Int32))), (0, .ref (ad (6*v)))]) hx hb dX5_leastGap_2 rfl hl (by decide) rfl (fun ls hl => ?_)
  refine lv_iconst (v := 1) hx hb dX5_leastGap_3 (by decide) ?_
  refine lv_istore_n (lv' := [(2, .int ((1 : Int32))), (1, .int ((30 : Int32))), (0, .ref (ad (6*v)))]) hx hb dX5_leastGap_4 rfl hl (by decide) rfl (fun ls hl => ?_)
  refine L5 100000 (30 : Int32) (1 : Int32) _ (fun b1_10 b2_11 hf H locs ls hw hl => ?_) hf _ _ _ hw (lv_sub hl [2, 1, 0] rfl)
  refine lv_iload_n hx hb dX5_leastGap_43 rfl (lv_at hl 1 rfl) ?_
  obtain rfl := Option.some.inj hf
  exact nn_iret S hr hlk hw rfl rfl dX5_leastGap_44
set_option maxRecDepth 100000 in
set_option maxHeartbeats 4000000 in
theorem c_X5_ringersWith (l : Launch) (D : va_G) (cy : Nat → ClassId) (ad : Nat → Nat) (A : Nat → Prop) (σ : nG) (v : Nat) (hn_v : v < 19) (x : nVl) (hx_Vv : gV σ v = x) (a1 : Int32) (q : Int32) (hf : f_X5_ringersWith x a1 = some q) : nn_I l yX5_ringersWith (nn_ws yX5_ringersWith cX5_ringersWith 4 (some .int)) (nn_R 0) D cy ad A [.ref (ad (6*v)), .int (a1)] σ q σ := by
  refine nn_enterI (plainFor_of_name (by decide +kernel)) (Nat.le_of_ble_eq_true rfl) (lv := [(0, .ref (ad (6*v))), (1, .int (a1))]) rfl ?_
  intro pp ee ss mm bb me co S hr hlk hK hw ls hl
  have hx := S.1
  have hb := S.2.1
  unfold f_X5_ringersWith at hf
  have L4 : ∀ (n : Nat) (u1 : Int32) (u2 : Int32) (u3 : Int32) (K : Int32 → Int32 → Int32 → Option (Int32)), (∀ (u1 : Int32) (u2 : Int32) (u3 : Int32), K u1 u2 u3 = some q → ∀ (H : Heap) (locs : List Loc) (ls : Array Slot), nn_W D cy ad A ss.heap σ H locs → lv_has ls 4 [(0, .ref (ad (6*v))), (1, .int (u1)), (2, .int (u2)), (3, .int (u3))] → W pp l ee (nn_R 0) ss mm ([.ref (ad (6*v)), .int (a1)] : List Value).toArray bb me co H locs 0 0 (MQ bb (nn_qi D cy ad A q σ) ([.ref (ad (6*v)), .int (a1)] : List Value).toArray ss 0 0 A) (F0 mm 44 ls [])) → f_X5_ringersWith_L4 x n u1 u2 u3 K = some q → ∀ (H : Heap) (locs : List Loc) (ls : Array Slot), nn_W D cy ad A ss.heap σ H locs → lv_has ls 4 [(0, .ref (ad (6*v))), (1, .int (u1)), (2, .int (u2)), (3, .int (u3))] → W pp l ee (nn_R 0) ss mm ([.ref (ad (6*v)), .int (a1)] : List Value).toArray bb me co H locs 0 0 (MQ bb (nn_qi D cy ad A q σ) ([.ref (ad (6*v)), .int (a1)] : List Value).toArray ss 0 0 A) (F0 mm 4 ls []) := by
    intro n
    induction n with
    | zero => intro u1 u2 u3 K hKK hf; exact absurd hf (by simp [f_X5_ringersWith_L4])
    | succ n ih =>
      intro u1 u2 u3 K hKK hf H locs ls hw hl
      rw [f_X5_ringersWith_L4] at hf
      refine lv_iload_n hx hb dX5_ringersWith_4 rfl (lv_at hl 3 rfl) ?_
      refine lv_aload_n hx hb dX5_ringersWith_5 rfl (lv_at hl 0 rfl) ?_
      refine gf_Vl_villages S hK hw (v := v) hn_v (x := x) hx_Vv tb_1_39 dX5_ringersWith_6 ?_
      refine lv_icmp_ge (tgt := 44) hx hb dX5_ringersWith_9 (by decide) (fun c_1 => ?_) (fun c_1 => ?_)
      · rw [if_pos c_1] at hf
        exact hKK u1 u2 u3 hf _ _ _ hw (lv_sub hl [0, 1, 2, 3] rfl)
      · rw [if_neg c_1] at hf
        refine lv_iload_n hx hb dX5_ringersWith_12 rfl (lv_at hl 3 rfl) ?_
        refine lv_iload_n hx hb dX5_ringersWith_13 rfl (lv_at hl 1 rfl) ?_
        refine lv_icmp_eq (tgt := 38) hx hb dX5_ringersWith_14 (by decide) (fun c_2 => ?_) (fun c_2 => ?_)
        · rw [if_pos c_2] at hf
          refine lv_iinc (v := u3 + (1 : Int32)) (lv' := [(3, .int (u3 + (1 : Int32))), (0, .ref (ad (6*v))), (1, .int (u1)), (2, .int (u2))]) hx hb dX5_ringersWith_38 hl (k := 3) rfl (congrArg (fun z => u3 + z) (by decide)) (by decide) rfl (fun ls hl => ?_)
          refine lv_goto (tgt := 4) hx hb dX5_ringersWith_41 (by decide) ?_
          exact ih u1 u2 (u3 + (1 : Int32)) K hKK hf _ _ _ hw (lv_sub hl [1, 2, 3, 0] rfl)
        · rw [if_neg c_2] at hf
          refine lv_aload_n hx hb dX5_ringersWith_17 rfl (lv_at hl 0 rfl) ?_
          refine gf_Vl_minutes S hK hw (v := v) hn_v tb_1_29 dX5_ringersWith_18 ?_
          refine lv_iload_n hx hb dX5_ringersWith_21 rfl (lv_at hl 3 rfl) ?_
          obtain ⟨g_3, hf⟩ := nn_ix_some hf
          refine al_Vl_minutes S hK hw (v := v) hn_v (x := x) hx_Vv g_3 dX5_ringersWith_22 ?_
          refine lv_aload_n hx hb dX5_ringersWith_23 rfl (lv_at hl 0 rfl) ?_
          refine gf_Vl_minutes S hK hw (v := v) hn_v tb_1_29 dX5_ringersWith_24 ?_
          refine lv_iload_n hx hb dX5_ringersWith_27 rfl (lv_at hl 1 rfl) ?_
          obtain ⟨g_4, hf⟩ := nn_ix_some hf
          refine al_Vl_minutes S hK hw (v := v) hn_v (x := x) hx_Vv g_4 dX5_ringersWith_28 ?_
          refine lv_icmp_ne (tgt := 38) hx hb dX5_ringersWith_29 (by decide) (fun c_5 => ?_) (fun c_5 => ?_)
          · rw [if_neg c_5] at hf
            refine lv_iinc (v := u3 + (1 : Int32)) (lv' := [(3, .int (u3 + (1 : Int32))), (0, .ref (ad (6*v))), (1, .int (u1)), (2, .int (u2))]) hx hb dX5_ringersWith_38 hl (k := 3) rfl (congrArg (fun z => u3 + z) (by decide)) (by decide) rfl (fun ls hl => ?_)
            refine lv_goto (tgt := 4) hx hb dX5_ringersWith_41 (by decide) ?_
            exact ih u1 u2 (u3 + (1 : Int32)) K hKK hf _ _ _ hw (lv_sub hl [1, 2, 3, 0] rfl)
          · rw [if_pos c_5] at hf
            refine lv_iload_n hx hb dX5_ringersWith_32 rfl (lv_at hl 2 rfl) ?_
            refine lv_iconst (v := 1) hx hb dX5_ringersWith_33 (by decide) ?_
            refine lv_iload_n hx hb dX5_ringersWith_34 rfl (lv_at hl 3 rfl) ?_
            refine lv_ishl hx hb dX5_ringersWith_35 ?_
            refine lv_ior hx hb dX5_ringersWith_36 ?_
            refine lv_istore_n (lv' := [(2, .int (u2 ||| ((1 : Int32) <<< (u3 &&& 31)))), (0, .ref (ad (6*v))), (1, .int (u1)), (3, .int (u3))]) hx hb dX5_ringersWith_37 rfl hl (by decide) rfl (fun ls hl => ?_)
            refine lv_iinc (v := u3 + (1 : Int32)) (lv' := [(3, .int (u3 + (1 : Int32))), (2, .int (u2 ||| ((1 : Int32) <<< (u3 &&& 31)))), (0, .ref (ad (6*v))), (1, .int (u1))]) hx hb dX5_ringersWith_38 hl (k := 3) rfl (congrArg (fun z => u3 + z) (by decide)) (by decide) rfl (fun ls hl => ?_)
            refine lv_goto (tgt := 4) hx hb dX5_ringersWith_41 (by decide) ?_
            exact ih u1 (u2 ||| ((1 : Int32) <<< (u3 &&& 31))) (u3 + (1 : Int32)) K hKK hf _ _ _ hw (lv_sub hl [2, 3, 1, 0] rfl)
  refine lv_iconst (v := 0) hx hb dX5_ringersWith_0 (by decide) ?_
  refine lv_istore_n (lv' := [(2, .int ((0 : Int32))), (0, .ref (ad (6*v))), (1, .int (a1))]) hx hb dX5_ringersWith_1 rfl hl (by decide) rfl (fun ls hl => ?_)
  refine lv_iconst (v := 0) hx hb dX5_ringersWith_2 (by decide) ?_
  refine lv_istore_n (lv' := [(3, .int ((0 : Int32))), (2, .int ((0 : Int32))), (0, .ref (ad (6*v))), (1, .int (a1))]) hx hb dX5_ringersWith_3 rfl hl (by decide) rfl (fun ls hl => ?_)
  refine L4 100000 a1 (0 : Int32) (0 : Int32) _ (fun b1_6 b2_7 b3_8 hf H locs ls hw hl => ?_) hf _ _ _ hw (lv_sub hl [2, 3, 1, 0] rfl)
  refine lv_iload_n hx hb dX5_ringersWith_44 rfl (lv_at hl 2 rfl) ?_
  obtain rfl := Option.some.inj hf
  exact nn_iret S hr hlk hw rfl rfl dX5_ringersWith_45
set_option maxRecDepth 100000 in
set_option maxHeartbeats 4000000 in
theorem c_X5_ringers (l : Launch) (D : va_G) (cy : Nat → ClassId) (ad : Nat → Nat) (A : Nat → Prop) (σ : nG) (v : Nat) (hn_v : v < 19) (x : nVl) (hx_Vv : gV σ v = x) (q : Int32) (hf : f_X5_ringers x = some q) : nn_I l yX5_ringers (nn_ws yX5_ringers cX5_ringers 3 (some .int)) (nn_R 1) D cy ad A [.ref (ad (6*v))] σ q σ := by
  refine nn_enterI (plainFor_of_name (by decide +kernel)) (Nat.le_of_ble_eq_true rfl) (lv := [(0, .ref (ad (6*v)))]) rfl ?_
  intro pp ee ss mm bb me co S hr hlk hK hw ls hl
  have hx := S.1
  have hb := S.2.1
  unfold f_X5_ringers at hf
  have L4 : ∀ (n : Nat) (u1 : Int32) (u2 : Int32) (K : Int32 → Int32 → Option (Int32)), (∀ (u1 : Int32) (u2 : Int32), K u1 u2 = some q → ∀ (H : Heap) (locs : List Loc) (ls : Array Slot), nn_W D cy ad A ss.heap σ H locs → lv_has ls 3 [(0, .ref (ad (6*v))), (1, .int (u1)), (2, .int (u2))] → W pp l ee (nn_R 1) ss mm ([.ref (ad (6*v))] : List Value).toArray bb me co H locs 0 0 (MQ bb (nn_qi D cy ad A q σ) ([.ref (ad (6*v))] : List Value).toArray ss 0 0 A) (F0 mm 26 ls [])) → f_X5_ringers_L4 x n u1 u2 K = some q → ∀ (H : Heap) (locs : List Loc) (ls : Array Slot), nn_W D cy ad A ss.heap σ H locs → lv_has ls 3 [(0, .ref (ad (6*v))), (1, .int (u1)), (2, .int (u2))] → W pp l ee (nn_R 1) ss mm ([.ref (ad (6*v))] : List Value).toArray bb me co H locs 0 0 (MQ bb (nn_qi D cy ad A q σ) ([.ref (ad (6*v))] : List Value).toArray ss 0 0 A) (F0 mm 4 ls []) := by
    intro n
    induction n with
    | zero => intro u1 u2 K hKK hf; exact absurd hf (by simp [f_X5_ringers_L4])
    | succ n ih =>
      intro u1 u2 K hKK hf H locs ls hw hl
      rw [f_X5_ringers_L4] at hf
      refine lv_iload_n hx hb dX5_ringers_4 rfl (lv_at hl 2 rfl) ?_
      refine lv_aload_n hx hb dX5_ringers_5 rfl (lv_at hl 0 rfl) ?_
      refine gf_Vl_villages S hK hw (v := v) hn_v (x := x) hx_Vv tb_1_39 dX5_ringers_6 ?_
      refine lv_icmp_ge (tgt := 26) hx hb dX5_ringers_9 (by decide) (fun c_1 => ?_) (fun c_1 => ?_)
      · rw [if_pos c_1] at hf
        exact hKK u1 u2 hf _ _ _ hw (lv_sub hl [0, 1, 2] rfl)
      · rw [if_neg c_1] at hf
        refine lv_iload_n hx hb dX5_ringers_12 rfl (lv_at hl 1 rfl) ?_
        refine lv_aload_n hx hb dX5_ringers_13 rfl (lv_at hl 0 rfl) ?_
        refine lv_iload_n hx hb dX5_ringers_14 rfl (lv_at hl 2 rfl) ?_
        obtain ⟨q_2, h_3, hf⟩ := nn_bind hf
        refine nn_calliV S (As := [.int (u2)]) (rest := [.int (u1)]) (ce_V (k := 0) (v := v) hn_v (by decide)) (by omega) rfl rfl (c_X5_ringersWith l D cy ad A σ v hn_v x hx_Vv u2 q_2 h_3) mv_X5_ringersWith tb_2_100 hK hw ⟨Nat.le_of_ble_eq_true rfl, Nat.le_of_ble_eq_true rfl⟩ ⟨Nat.zero_le _, Nat.zero_le _⟩ rfl hl.1 rfl (Nat.le_of_ble_eq_true rfl) dX5_ringers_15 (fun H locs hw => ?_)
        refine lv_ior hx hb dX5_ringers_18 ?_
        refine lv_istore_n (lv' := [(1, .int (u1 ||| q_2)), (0, .ref (ad (6*v))), (2, .int (u2))]) hx hb dX5_ringers_19 rfl hl (by decide) rfl (fun ls hl => ?_)
        refine lv_iinc (v := u2 + (1 : Int32)) (lv' := [(2, .int (u2 + (1 : Int32))), (1, .int (u1 ||| q_2)), (0, .ref (ad (6*v)))]) hx hb dX5_ringers_20 hl (k := 2) rfl (congrArg (fun z => u2 + z) (by decide)) (by decide) rfl (fun ls hl => ?_)
        refine lv_goto (tgt := 4) hx hb dX5_ringers_23 (by decide) ?_
        exact ih (u1 ||| q_2) (u2 + (1 : Int32)) K hKK hf _ _ _ hw (lv_sub hl [2, 1, 0] rfl)
  refine lv_iconst (v := 0) hx hb dX5_ringers_0 (by decide) ?_
  refine lv_istore_n (lv' := [(1, .int ((0 : Int32))), (0, .ref (ad (6*v)))]) hx hb dX5_ringers_1 rfl hl (by decide) rfl (fun ls hl => ?_)
  refine lv_iconst (v := 0) hx hb dX5_ringers_2 (by decide) ?_
  refine lv_istore_n (lv' := [(2, .int ((0 : Int32))), (1, .int ((0 : Int32))), (0, .ref (ad (6*v)))]) hx hb dX5_ringers_3 rfl hl (by decide) rfl (fun ls hl => ?_)
  refine L4 100000 (0 : Int32) (0 : Int32) _ (fun b1_4 b2_5 hf H locs ls hw hl => ?_) hf _ _ _ hw (lv_sub hl [2, 1, 0] rfl)
  refine lv_iload_n hx hb dX5_ringers_26 rfl (lv_at hl 1 rfl) ?_
  obtain rfl := Option.some.inj hf
  exact nn_iret S hr hlk hw rfl rfl dX5_ringers_27
set_option maxRecDepth 100000 in
set_option maxHeartbeats 4000000 in
theorem c_X5_sumOf (l : Launch) (D : va_G) (cy : Nat → ClassId) (ad : Nat → Nat) (A : Nat → Prop) (σ : nG) (v : Nat) (hn_v : v < 19) (ca : Nat) (hca : ca < 151) (fa : Nat → Int32) (hfa : nn_ce cy ad σ ca = .inl (cy 0, 6, .inl fa)) (x : nVl) (hx_Vv : gV σ v = x) (q : Int32) (hf : f_X5_sumOf fa x = some q) : nn_I l yX5_sumOf (nn_ws yX5_sumOf cX5_sumOf 4 (some .int)) (nn_R 0) D cy ad A [.ref (ad (6*v)), .ref (ad (ca))] σ q σ := by
  refine nn_enterI (plainFor_of_name (by decide +kernel)) (Nat.le_of_ble_eq_true rfl) (lv := [(0, .ref (ad (6*v))), (1, .ref (ad (ca)))]) rfl ?_
  intro pp ee ss mm bb me co S hr hlk hK hw ls hl
  have hx := S.1
  have hb := S.2.1
  unfold f_X5_sumOf at hf
  have L4 : ∀ (n : Nat) (u2 : Int32) (u3 : Int32) (K : Int32 → Int32 → Option (Int32)), (∀ (u2 : Int32) (u3 : Int32), K u2 u3 = some q → ∀ (H : Heap) (locs : List Loc) (ls : Array Slot), nn_W D cy ad A ss.heap σ H locs → lv_has ls 4 [(0, .ref (ad (6*v))), (1, .ref (ad (ca))), (2, .int (u2)), (3, .int (u3))] → W pp l ee (nn_R 0) ss mm ([.ref (ad (6*v)), .ref (ad (ca))] : List Value).toArray bb me co H locs 0 0 (MQ bb (nn_qi D cy ad A q σ) ([.ref (ad (6*v)), .ref (ad (ca))] : List Value).toArray ss 0 0 A) (F0 mm 24 ls [])) → f_X5_sumOf_L4 fa x n u2 u3 K = some q → ∀ (H : Heap) (locs : List Loc) (ls : Array Slot), nn_W D cy ad A ss.heap σ H locs → lv_has ls 4 [(0, .ref (ad (6*v))), (1, .ref (ad (ca))), (2, .int (u2)), (3, .int (u3))] → W pp l ee (nn_R 0) ss mm ([.ref (ad (6*v)), .ref (ad (ca))] : List Value).toArray bb me co H locs 0 0 (MQ bb (nn_qi D cy ad A q σ) ([.ref (ad (6*v)), .ref (ad (ca))] : List Value).toArray ss 0 0 A) (F0 mm 4 ls []) := by
    intro n
    induction n with
    | zero => intro u2 u3 K hKK hf; exact absurd hf (by simp [f_X5_sumOf_L4])
    | succ n ih =>
      intro u2 u3 K hKK hf H locs ls hw hl
      rw [f_X5_sumOf_L4] at hf
      refine lv_iload_n hx hb dX5_sumOf_4 rfl (lv_at hl 3 rfl) ?_
      refine lv_aload_n hx hb dX5_sumOf_5 rfl (lv_at hl 0 rfl) ?_
      refine gf_Vl_villages S hK hw (v := v) hn_v (x := x) hx_Vv tb_1_39 dX5_sumOf_6 ?_
      refine lv_icmp_ge (tgt := 24) hx hb dX5_sumOf_9 (by decide) (fun c_1 => ?_) (fun c_1 => ?_)
      · rw [if_pos c_1] at hf
        exact hKK u2 u3 hf _ _ _ hw (lv_sub hl [0, 1, 2, 3] rfl)
      · rw [if_neg c_1] at hf
        refine lv_iload_n hx hb dX5_sumOf_12 rfl (lv_at hl 2 rfl) ?_
        refine lv_aload_n hx hb dX5_sumOf_13 rfl (lv_at hl 1 rfl) ?_
        refine lv_iload_n hx hb dX5_sumOf_14 rfl (lv_at hl 3 rfl) ?_
        obtain ⟨g_2, hf⟩ := nn_ix_some hf
        refine nn_ild S hK hw hfa hca g_2 dX5_sumOf_15 ?_
        refine lv_iadd hx hb dX5_sumOf_16 ?_
        refine lv_istore_n (lv' := [(2, .int (u2 + (fa u3.toNatClampNeg))), (0, .ref (ad (6*v))), (1, .ref (ad (ca))), (3, .int (u3))]) hx hb dX5_sumOf_17 rfl hl (by decide) rfl (fun ls hl => ?_)
        refine lv_iinc (v := u3 + (1 : Int32)) (lv' := [(3, .int (u3 + (1 : Int32))), (2, .int (u2 + (fa u3.toNatClampNeg))), (0, .ref (ad (6*v))), (1, .ref (ad (ca)))]) hx hb dX5_sumOf_18 hl (k := 3) rfl (congrArg (fun z => u3 + z) (by decide)) (by decide) rfl (fun ls hl => ?_)
        refine lv_goto (tgt := 4) hx hb dX5_sumOf_21 (by decide) ?_
        exact ih (u2 + (fa u3.toNatClampNeg)) (u3 + (1 : Int32)) K hKK hf _ _ _ hw (lv_sub hl [2, 3, 1, 0] rfl)
  refine lv_iconst (v := 0) hx hb dX5_sumOf_0 (by decide) ?_
  refine lv_istore_n (lv' := [(2, .int ((0 : Int32))), (0, .ref (ad (6*v))), (1, .ref (ad (ca)))]) hx hb dX5_sumOf_1 rfl hl (by decide) rfl (fun ls hl => ?_)
  refine lv_iconst (v := 0) hx hb dX5_sumOf_2 (by decide) ?_
  refine lv_istore_n (lv' := [(3, .int ((0 : Int32))), (2, .int ((0 : Int32))), (0, .ref (ad (6*v))), (1, .ref (ad (ca)))]) hx hb dX5_sumOf_3 rfl hl (by decide) rfl (fun ls hl => ?_)
  refine L4 100000 (0 : Int32) (0 : Int32) _ (fun b2_3 b3_4 hf H locs ls hw hl => ?_) hf _ _ _ hw (lv_sub hl [2, 3, 1, 0] rfl)
  refine lv_iload_n hx hb dX5_sumOf_24 rfl (lv_at hl 2 rfl) ?_
  obtain rfl := Option.some.inj hf
  exact nn_iret S hr hlk hw rfl rfl dX5_sumOf_25
set_option maxRecDepth 100000 in
set_option maxHeartbeats 4000000 in
theorem c_X5_freeMinutes (l : Launch) (D : va_G) (cy : Nat → ClassId) (ad : Nat → Nat) (A : Nat → Prop) (σ : nG) (v : Nat) (hn_v : v < 19) (x : nVl) (hx_Vv : gV σ v = x) (a1 : Int32) (q : Int64) (hf : f_X5_freeMinutes x a1 = some q) : nn_J l yX5_freeMinutes (nn_ws yX5_freeMinutes cX5_freeMinutes 5 (some .long)) (nn_R 3) D cy ad A [.ref (ad (6*v)), .int (a1)] σ q σ := by
  refine nn_enterJ (plainFor_of_name (by decide +kernel)) (Nat.le_of_ble_eq_true rfl) (lv := [(0, .ref (ad (6*v))), (1, .int (a1))]) rfl ?_
  intro pp ee ss mm bb me co S hr hlk hK hw ls hl
  have hx := S.1
  have hb := S.2.1
  unfold f_X5_freeMinutes at hf
  have L7 : ∀ (n : Nat) (u1 : Int32) (u2 : Int64) (u4 : Int32) (K : Int32 → Int64 → Int32 → Option (Int64)), (∀ (u1 : Int32) (u2 : Int64) (u4 : Int32), K u1 u2 u4 = some q → ∀ (H : Heap) (locs : List Loc) (ls : Array Slot), nn_W D cy ad A ss.heap σ H locs → lv_has ls 5 [(0, .ref (ad (6*v))), (1, .int (u1)), (2, .long (u2)), (4, .int (u4))] → W pp l ee (nn_R 3) ss mm ([.ref (ad (6*v)), .int (a1)] : List Value).toArray bb me co H locs 0 0 (MQ bb (nn_ql D cy ad A q σ) ([.ref (ad (6*v)), .int (a1)] : List Value).toArray ss 0 0 A) (F0 mm 40 ls [])) → f_X5_freeMinutes_L7 x n u1 u2 u4 K = some q → ∀ (H : Heap) (locs : List Loc) (ls : Array Slot), nn_W D cy ad A ss.heap σ H locs → lv_has ls 5 [(0, .ref (ad (6*v))), (1, .int (u1)), (2, .long (u2)), (4, .int (u4))] → W pp l ee (nn_R 3) ss mm ([.ref (ad (6*v)), .int (a1)] : List Value).toArray bb me co H locs 0 0 (MQ bb (nn_ql D cy ad A q σ) ([.ref (ad (6*v)), .int (a1)] : List Value).toArray ss 0 0 A) (F0 mm 7 ls []) := by
    intro n
    induction n with
    | zero => intro u1 u2 u4 K hKK hf; exact absurd hf (by simp [f_X5_freeMinutes_L7])
    | succ n ih =>
      intro u1 u2 u4 K hKK hf H locs ls hw hl
      rw [f_X5_freeMinutes_L7] at hf
      refine lv_iload hx hb dX5_freeMinutes_7 (lv_at hl 3 rfl) ?_
      refine lv_aload_n hx hb dX5_freeMinutes_9 rfl (lv_at hl 0 rfl) ?_
      refine gf_Vl_villages S hK hw (v := v) hn_v (x := x) hx_Vv tb_1_39 dX5_freeMinutes_10 ?_
      refine lv_icmp_ge (tgt := 40) hx hb dX5_freeMinutes_13 (by decide) (fun c_1 => ?_) (fun c_1 => ?_)
      · rw [if_pos c_1] at hf
        exact hKK u1 u2 u4 hf _ _ _ hw (lv_sub hl [0, 1, 2, 3] rfl)
      · rw [if_neg c_1] at hf
        refine lv_lload_n hx hb dX5_freeMinutes_16 rfl (lv_at hl 2 rfl) ?_
        refine lv_aload_n hx hb dX5_freeMinutes_17 rfl (lv_at hl 0 rfl) ?_
        refine gf_Vl_minutes S hK hw (v := v) hn_v tb_1_29 dX5_freeMinutes_18 ?_
        refine lv_iload hx hb dX5_freeMinutes_21 (lv_at hl 3 rfl) ?_
        obtain ⟨g_2, hf⟩ := nn_ix_some hf
        refine al_Vl_minutes S hK hw (v := v) hn_v (x := x) hx_Vv g_2 dX5_freeMinutes_23 ?_
        refine lv_iload_n hx hb dX5_freeMinutes_24 rfl (lv_at hl 1 rfl) ?_
        obtain ⟨q_3, h_4, hf⟩ := nn_bind hf
        refine nn_calllN S (As := [.int ((g_Vl_minutes x) u4.toNatClampNeg), .int (u1)]) (rest := [.long (u2)]) (c_X6_minutesNear l D cy ad A σ ((g_Vl_minutes x) u4.toNatClampNeg) u1 q_3 h_4) mv_X6_minutesNear (nw_11 hK.2) hK hw ⟨Nat.le_of_ble_eq_true rfl, Nat.le_of_ble_eq_true rfl⟩ ⟨Nat.zero_le _, Nat.zero_le _⟩ rfl hl.1 rfl (Nat.le_of_ble_eq_true rfl) dX5_freeMinutes_25 (fun H locs hw => ?_)
        refine lv_ldc2 (v := -1) hx hb S.2.2.2.1 (S.2.2.2.2 _ tb_2_228) dX5_freeMinutes_28 ?_
        refine lv_lxor hx hb dX5_freeMinutes_31 ?_
        refine lv_land hx hb dX5_freeMinutes_32 ?_
        refine lv_lstore_n (lv' := [(2, .long (u2 &&& (q_3 ^^^ (-1 : Int64)))), (0, .ref (ad (6*v))), (1, .int (u1)), (4, .int (u4))]) hx hb dX5_freeMinutes_33 rfl hl (by decide) rfl (fun ls hl => ?_)
        refine lv_iinc (v := u4 + (1 : Int32)) (lv' := [(4, .int (u4 + (1 : Int32))), (2, .long (u2 &&& (q_3 ^^^ (-1 : Int64)))), (0, .ref (ad (6*v))), (1, .int (u1))]) hx hb dX5_freeMinutes_34 hl (k := 3) rfl (congrArg (fun z => u4 + z) (by decide)) (by decide) rfl (fun ls hl => ?_)
        refine lv_goto (tgt := 7) hx hb dX5_freeMinutes_37 (by decide) ?_
        exact ih u1 (u2 &&& (q_3 ^^^ (-1 : Int64))) (u4 + (1 : Int32)) K hKK hf _ _ _ hw (lv_sub hl [2, 3, 1, 0] rfl)
  refine lv_ldc2 (v := 1152921504606846975) hx hb S.2.2.2.1 (S.2.2.2.2 _ tb_2_226) dX5_freeMinutes_0 ?_
  refine lv_lstore_n (lv' := [(2, .long ((1152921504606846975 : Int64))), (0, .ref (ad (6*v))), (1, .int (a1))]) hx hb dX5_freeMinutes_3 rfl hl (by decide) rfl (fun ls hl => ?_)
  refine lv_iconst (v := 0) hx hb dX5_freeMinutes_4 (by decide) ?_
  refine lv_istore (lv' := [(4, .int ((0 : Int32))), (2, .long ((1152921504606846975 : Int64))), (0, .ref (ad (6*v))), (1, .int (a1))]) hx hb dX5_freeMinutes_5 hl (by decide) rfl (fun ls hl => ?_)
  refine L7 100000 a1 (1152921504606846975 : Int64) (0 : Int32) _ (fun b1_5 b2_6 b4_7 hf H locs ls hw hl => ?_) hf _ _ _ hw (lv_sub hl [2, 3, 1, 0] rfl)
  refine lv_lload_n hx hb dX5_freeMinutes_40 rfl (lv_at hl 2 rfl) ?_
  obtain rfl := Option.some.inj hf
  exact nn_lret S hr hlk hw rfl rfl dX5_freeMinutes_41
set_option maxRecDepth 100000 in
set_option maxHeartbeats 4000000 in
theorem c_X5_isApartWith (l : Launch) (D : va_G) (cy : Nat → ClassId) (ad : Nat → Nat) (A : Nat → Prop) (σ : nG) (v : Nat) (hn_v : v < 19) (x : nVl) (hx_Vv : gV σ v = x) (a1 : Int32) (q : Int32) (hf : f_X5_isApartWith x a1 = some q) : nn_I l yX5_isApartWith (nn_ws yX5_isApartWith cX5_isApartWith 6 (some .boolean)) (nn_R 2) D cy ad A [.ref (ad (6*v)), .int (a1)] σ q σ := by
  refine nn_enterI (plainFor_of_name (by decide +kernel)) (Nat.le_of_ble_eq_true rfl) (lv := [(0, .ref (ad (6*v))), (1, .int (a1))]) rfl ?_
  intro pp ee ss mm bb me co S hr hlk hK hw ls hl
  have hx := S.1
  have hb := S.2.1
  unfold f_X5_isApartWith at hf
  have J45 : ∀ (u1 : Int32) (u2 : Int64) (u4 : Int32) (s0 : Int32) (RC K : Int32 → Int64 → Int32 → Option (Int32)), (∀ (u1 : Int32) (u2 : Int64) (u4 : Int32), RC u1 u2 u4 = some q → ∀ (H : Heap) (locs : List Loc) (ls : Array Slot), nn_W D cy ad A ss.heap σ H locs → lv_has ls 6 [(0, .ref (ad (6*v))), (1, .int (u1)), (2, .long (u2)), (4, .int (u4))] → W pp l ee (nn_R 2) ss mm ([.ref (ad (6*v)), .int (a1)] : List Value).toArray bb me co H locs 0 0 (MQ bb (nn_qi D cy ad A q σ) ([.ref (ad (6*v)), .int (a1)] : List Value).toArray ss 0 0 A) (F0 mm 5 ls [])) → (∀ (u1 : Int32) (u2 : Int64) (u4 : Int32), K u1 u2 u4 = some q → ∀ (H : Heap) (locs : List Loc) (ls : Array Slot), nn_W D cy ad A ss.heap σ H locs → lv_has ls 6 [(0, .ref (ad (6*v))), (1, .int (u1)), (2, .long (u2)), (4, .int (u4))] → W pp l ee (nn_R 2) ss mm ([.ref (ad (6*v)), .int (a1)] : List Value).toArray bb me co H locs 0 0 (MQ bb (nn_qi D cy ad A q σ) ([.ref (ad (6*v)), .int (a1)] : List Value).toArray ss 0 0 A) (F0 mm 73 ls [])) → f_X5_isApartWith_J45 x u1 u2 u4 s0 RC K = some q → ∀ (H : Heap) (locs : List Loc) (ls : Array Slot), nn_W D cy ad A ss.heap σ H locs → lv_has ls 6 [(0, .ref (ad (6*v))), (1, .int (u1)), (2, .long (u2)), (4, .int (u4))] → W pp l ee (nn_R 2) ss mm ([.ref (ad (6*v)), .int (a1)] : List Value).toArray bb me co H locs 0 0 (MQ bb (nn_qi D cy ad A q σ) ([.ref (ad (6*v)), .int (a1)] : List Value).toArray ss 0 0 A) (F0 mm 45 ls [.int (s0)]) := by
    intro u1 u2 u4 s0 RC K hRC hKK hf H locs ls hw hl
    unfold f_X5_isApartWith_J45 at hf
    refine lv_istore (lv' := [(5, .int (s0)), (0, .ref (ad (6*v))), (1, .int (u1)), (2, .long (u2)), (4, .int (u4))]) hx hb dX5_isApartWith_45 hl (by decide) rfl (fun ls hl => ?_)
    refine lv_lload_n hx hb dX5_isApartWith_47 rfl (lv_at hl 3 rfl) ?_
    refine lv_iload hx hb dX5_isApartWith_48 (lv_at hl 0 rfl) ?_
    refine lv_lshr (v := u2 >>> (s0.toInt64 &&& 63)) hx hb dX5_isApartWith_50 rfl ?_
    refine lv_lconst (v := 1) hx hb dX5_isApartWith_51 (by decide) ?_
    refine lv_land hx hb dX5_isApartWith_52 ?_
    refine lv_lconst (v := 0) hx hb dX5_isApartWith_53 (by decide) ?_
    refine W.lcmp hx hb dX5_isApartWith_54 ?_
    refine lv_if_eq (tgt := 60) hx hb dX5_isApartWith_55 (by decide) (fun c_6 => ?_) (fun c_6 => ?_)
    · rw [if_pos c_6] at hf
      refine lv_lload_n hx hb dX5_isApartWith_60 rfl (lv_at hl 3 rfl) ?_
      refine lv_lconst (v := 1) hx hb dX5_isApartWith_61 (by decide) ?_
      refine lv_iload hx hb dX5_isApartWith_62 (lv_at hl 0 rfl) ?_
      refine lv_lshl (v := (1 : Int64) <<< (s0.toInt64 &&& 63)) hx hb dX5_isApartWith_64 rfl ?_
      refine lv_lor hx hb dX5_isApartWith_65 ?_
      refine lv_lstore_n (lv' := [(2, .long (u2 ||| ((1 : Int64) <<< (s0.toInt64 &&& 63)))), (5, .int (s0)), (0, .ref (ad (6*v))), (1, .int (u1)), (4, .int (u4))]) hx hb dX5_isApartWith_66 rfl hl (by decide) rfl (fun ls hl => ?_)
      refine lv_iinc (v := u4 + (1 : Int32)) (lv' := [(4, .int (u4 + (1 : Int32))), (2, .long (u2 ||| ((1 : Int64) <<< (s0.toInt64 &&& 63)))), (5, .int (s0)), (0, .ref (ad (6*v))), (1, .int (u1))]) hx hb dX5_isApartWith_67 hl (k := 4) rfl (congrArg (fun z => u4 + z) (by decide)) (by decide) rfl (fun ls hl => ?_)
      refine lv_goto (tgt := 5) hx hb dX5_isApartWith_70 (by decide) ?_
      exact hRC u1 (u2 ||| ((1 : Int64) <<< (s0.toInt64 &&& 63))) (u4 + (1 : Int32)) hf _ _ _ hw (lv_sub hl [3, 4, 1, 0] rfl)
    · rw [if_neg c_6] at hf
      refine lv_iconst (v := 0) hx hb dX5_isApartWith_58 (by decide) ?_
      obtain rfl := Option.some.inj hf
      exact nn_zret S hr hlk hw rfl rfl rfl dX5_isApartWith_59
  have L5 : ∀ (n : Nat) (u1 : Int32) (u2 : Int64) (u4 : Int32) (K : Int32 → Int64 → Int32 → Option (Int32)), (∀ (u1 : Int32) (u2 : Int64) (u4 : Int32), K u1 u2 u4 = some q → ∀ (H : Heap) (locs : List Loc) (ls : Array Slot), nn_W D cy ad A ss.heap σ H locs → lv_has ls 6 [(0, .ref (ad (6*v))), (1, .int (u1)), (2, .long (u2)), (4, .int (u4))] → W pp l ee (nn_R 2) ss mm ([.ref (ad (6*v)), .int (a1)] : List Value).toArray bb me co H locs 0 0 (MQ bb (nn_qi D cy ad A q σ) ([.ref (ad (6*v)), .int (a1)] : List Value).toArray ss 0 0 A) (F0 mm 73 ls [])) → f_X5_isApartWith_L5 x n u1 u2 u4 K = some q → ∀ (H : Heap) (locs : List Loc) (ls : Array Slot), nn_W D cy ad A ss.heap σ H locs → lv_has ls 6 [(0, .ref (ad (6*v))), (1, .int (u1)), (2, .long (u2)), (4, .int (u4))] → W pp l ee (nn_R 2) ss mm ([.ref (ad (6*v)), .int (a1)] : List Value).toArray bb me co H locs 0 0 (MQ bb (nn_qi D cy ad A q σ) ([.ref (ad (6*v)), .int (a1)] : List Value).toArray ss 0 0 A) (F0 mm 5 ls []) := by
    intro n
    induction n with
    | zero => intro u1 u2 u4 K hKK hf; exact absurd hf (by simp [f_X5_isApartWith_L5])
    | succ n ih =>
      intro u1 u2 u4 K hKK hf H locs ls hw hl
      rw [f_X5_isApartWith_L5] at hf
      refine lv_iload hx hb dX5_isApartWith_5 (lv_at hl 3 rfl) ?_
      refine lv_aload_n hx hb dX5_isApartWith_7 rfl (lv_at hl 0 rfl) ?_
      refine gf_Vl_villages S hK hw (v := v) hn_v (x := x) hx_Vv tb_1_39 dX5_isApartWith_8 ?_
      refine lv_icmp_ge (tgt := 73) hx hb dX5_isApartWith_11 (by decide) (fun c_1 => ?_) (fun c_1 => ?_)
      · rw [if_pos c_1] at hf
        exact hKK u1 u2 u4 hf _ _ _ hw (lv_sub hl [0, 1, 2, 3] rfl)
      · rw [if_neg c_1] at hf
        refine lv_iload_n hx hb dX5_isApartWith_14 rfl (lv_at hl 1 rfl) ?_
        refine lv_iload hx hb dX5_isApartWith_15 (lv_at hl 3 rfl) ?_
        obtain ⟨q_2, h_3, hf⟩ := nn_bind hf
        refine nn_calliN S (As := [.int (u1), .int (u4)]) (rest := []) (c_X6_isIn l D cy ad A σ u1 u4 q_2 h_3) mv_X6_isIn (nw_14 hK.2) hK hw ⟨Nat.le_of_ble_eq_true rfl, Nat.le_of_ble_eq_true rfl⟩ ⟨Nat.zero_le _, Nat.zero_le _⟩ rfl hl.1 rfl (Nat.le_of_ble_eq_true rfl) dX5_isApartWith_17 (fun H locs hw => ?_)
        refine lv_if_eq (tgt := 38) hx hb dX5_isApartWith_20 (by decide) (fun c_4 => ?_) (fun c_4 => ?_)
        · rw [if_pos c_4] at hf
          refine lv_aload_n hx hb dX5_isApartWith_38 rfl (lv_at hl 0 rfl) ?_
          refine gf_Vl_minutes S hK hw (v := v) hn_v tb_1_29 dX5_isApartWith_39 ?_
          refine lv_iload hx hb dX5_isApartWith_42 (lv_at hl 3 rfl) ?_
          obtain ⟨g_5, hf⟩ := nn_ix_some hf
          refine al_Vl_minutes S hK hw (v := v) hn_v (x := x) hx_Vv g_5 dX5_isApartWith_44 ?_
          exact J45 u1 u2 u4 ((g_Vl_minutes x) u4.toNatClampNeg) _ K (fun u1 u2 u4 hf H locs ls hw hl => ih u1 u2 u4 K hKK hf H locs ls hw hl) hKK hf _ _ _ hw (lv_sub hl [0, 1, 2, 3] rfl)
        · rw [if_neg c_4] at hf
          refine lv_aload_n hx hb dX5_isApartWith_23 rfl (lv_at hl 0 rfl) ?_
          refine gf_Vl_minutes S hK hw (v := v) hn_v tb_1_29 dX5_isApartWith_24 ?_
          refine lv_iload hx hb dX5_isApartWith_27 (lv_at hl 3 rfl) ?_
          obtain ⟨g_7, hf⟩ := nn_ix_some hf
          refine al_Vl_minutes S hK hw (v := v) hn_v (x := x) hx_Vv g_7 dX5_isApartWith_29 ?_
          refine lv_iconst (v := 1) hx hb dX5_isApartWith_30 (by decide) ?_
          refine lv_iadd hx hb dX5_isApartWith_31 ?_
          obtain ⟨q_8, h_9, hf⟩ := nn_bind hf
          refine nn_calliN S (As := [.int (((g_Vl_minutes x) u4.toNatClampNeg) + (1 : Int32))]) (rest := []) (c_X6_roundTheHour l D cy ad A σ (((g_Vl_minutes x) u4.toNatClampNeg) + (1 : Int32)) q_8 h_9) mv_X6_roundTheHour (nw_8 hK.2) hK hw ⟨Nat.le_of_ble_eq_true rfl, Nat.le_of_ble_eq_true rfl⟩ ⟨Nat.zero_le _, Nat.zero_le _⟩ rfl hl.1 rfl (Nat.le_of_ble_eq_true rfl) dX5_isApartWith_32 (fun H locs hw => ?_)
          refine lv_goto (tgt := 45) hx hb dX5_isApartWith_35 (by decide) ?_
          exact J45 u1 u2 u4 q_8 _ K (fun u1 u2 u4 hf H locs ls hw hl => ih u1 u2 u4 K hKK hf H locs ls hw hl) hKK hf _ _ _ hw (lv_sub hl [0, 1, 2, 3] rfl)
  refine lv_lconst (v := 0) hx hb dX5_isApartWith_0 (by decide) ?_
  refine lv_lstore_n (lv' := [(2, .long ((0 : Int64))), (0, .ref (ad (6*v))), (1, .int (a1))]) hx hb dX5_isApartWith_1 rfl hl (by decide) rfl (fun ls hl => ?_)
  refine lv_iconst (v := 0) hx hb dX5_isApartWith_2 (by decide) ?_
  refine lv_istore (lv' := [(4, .int ((0 : Int32))), (2, .long ((0 : Int64))), (0, .ref (ad (6*v))), (1, .int (a1))]) hx hb dX5_isApartWith_3 hl (by decide) rfl (fun ls hl => ?_)
  refine L5 100000 a1 (0 : Int64) (0 : Int32) _ (fun b1_10 b2_11 b4_12 hf H locs ls hw hl => ?_) hf _ _ _ hw (lv_sub hl [2, 3, 1, 0] rfl)
  refine lv_iconst (v := 1) hx hb dX5_isApartWith_73 (by decide) ?_
  obtain rfl := Option.some.inj hf
  exact nn_zret S hr hlk hw rfl rfl rfl dX5_isApartWith_74
set_option maxRecDepth 100000 in
set_option maxHeartbeats 4000000 in
theorem c_X5_ringsLike (l : Launch) (D : va_G) (cy : Nat → ClassId) (ad : Nat → Nat) (A : Nat → Prop) (σ : nG) (v : Nat) (hn_v : v < 19) (w : Nat) (hn_w : w < 19) (x : nVl) (hx_Vv : gV σ v = x) (xw : nVl) (hx_Vw : gV σ w = xw) (q : Int32) (hf : f_X5_ringsLike x xw = some q) : nn_I l yX5_ringsLike (nn_ws yX5_ringsLike cX5_ringsLike 3 (some .boolean)) (nn_R 0) D cy ad A [.ref (ad (6*v)), .ref (ad (6*w))] σ q σ := by
  refine nn_enterI (plainFor_of_name (by decide +kernel)) (Nat.le_of_ble_eq_true rfl) (lv := [(0, .ref (ad (6*v))), (1, .ref (ad (6*w)))]) rfl ?_
  intro pp ee ss mm bb me co S hr hlk hK hw ls hl
  have hx := S.1
  have hb := S.2.1
  unfold f_X5_ringsLike at hf
  have L2 : ∀ (n : Nat) (u2 : Int32) (K : Int32 → Option (Int32)), (∀ (u2 : Int32), K u2 = some q → ∀ (H : Heap) (locs : List Loc) (ls : Array Slot), nn_W D cy ad A ss.heap σ H locs → lv_has ls 3 [(0, .ref (ad (6*v))), (1, .ref (ad (6*w))), (2, .int (u2))] → W pp l ee (nn_R 0) ss mm ([.ref (ad (6*v)), .ref (ad (6*w))] : List Value).toArray bb me co H locs 0 0 (MQ bb (nn_qi D cy ad A q σ) ([.ref (ad (6*v)), .ref (ad (6*w))] : List Value).toArray ss 0 0 A) (F0 mm 33 ls [])) → f_X5_ringsLike_L2 x xw n u2 K = some q → ∀ (H : Heap) (locs : List Loc) (ls : Array Slot), nn_W D cy ad A ss.heap σ H locs → lv_has ls 3 [(0, .ref (ad (6*v))), (1, .ref (ad (6*w))), (2, .int (u2))] → W pp l ee (nn_R 0) ss mm ([.ref (ad (6*v)), .ref (ad (6*w))] : List Value).toArray bb me co H locs 0 0 (MQ bb (nn_qi D cy ad A q σ) ([.ref (ad (6*v)), .ref (ad (6*w))] : List Value).toArray ss 0 0 A) (F0 mm 2 ls []) := by
    intro n
    induction n with
    | zero => intro u2 K hKK hf; exact absurd hf (by simp [f_X5_ringsLike_L2])
    | succ n ih =>
      intro u2 K hKK hf H locs ls hw hl
      rw [f_X5_ringsLike_L2] at hf
      refine lv_iload_n hx hb dX5_ringsLike_2 rfl (lv_at hl 2 rfl) ?_
      refine lv_aload_n hx hb dX5_ringsLike_3 rfl (lv_at hl 0 rfl) ?_
      refine gf_Vl_villages S hK hw (v := v) hn_v (x := x) hx_Vv tb_1_39 dX5_ringsLike_4 ?_
      refine lv_icmp_ge (tgt := 33) hx hb dX5_ringsLike_7 (by decide) (fun c_1 => ?_) (fun c_1 => ?_)
      · rw [if_pos c_1] at hf
        exact hKK u2 hf _ _ _ hw (lv_sub hl [0, 1, 2] rfl)
      · rw [if_neg c_1] at hf
        refine lv_aload_n hx hb dX5_ringsLike_10 rfl (lv_at hl 0 rfl) ?_
        refine gf_Vl_minutes S hK hw (v := v) hn_v tb_1_29 dX5_ringsLike_11 ?_
        refine lv_iload_n hx hb dX5_ringsLike_14 rfl (lv_at hl 2 rfl) ?_
        obtain ⟨g_2, hf⟩ := nn_ix_some hf
        refine al_Vl_minutes S hK hw (v := v) hn_v (x := x) hx_Vv g_2 dX5_ringsLike_15 ?_
        refine lv_aload_n hx hb dX5_ringsLike_16 rfl (lv_at hl 1 rfl) ?_
        refine gf_Vl_minutes S hK hw (v := w) hn_w tb_1_29 dX5_ringsLike_17 ?_
        refine lv_iload_n hx hb dX5_ringsLike_20 rfl (lv_at hl 2 rfl) ?_
        obtain ⟨g_3, hf⟩ := nn_ix_some hf
        refine al_Vl_minutes S hK hw (v := w) hn_w (x := xw) hx_Vw g_3 dX5_ringsLike_21 ?_
        refine lv_icmp_eq (tgt := 27) hx hb dX5_ringsLike_22 (by decide) (fun c_4 => ?_) (fun c_4 => ?_)
        · rw [if_pos c_4] at hf
          refine lv_iinc (v := u2 + (1 : Int32)) (lv' := [(2, .int (u2 + (1 : Int32))), (0, .ref (ad (6*v))), (1, .ref (ad (6*w)))]) hx hb dX5_ringsLike_27 hl (k := 2) rfl (congrArg (fun z => u2 + z) (by decide)) (by decide) rfl (fun ls hl => ?_)
          refine lv_goto (tgt := 2) hx hb dX5_ringsLike_30 (by decide) ?_
          exact ih (u2 + (1 : Int32)) K hKK hf _ _ _ hw (lv_sub hl [1, 2, 0] rfl)
        · rw [if_neg c_4] at hf
          refine lv_iconst (v := 0) hx hb dX5_ringsLike_25 (by decide) ?_
          obtain rfl := Option.some.inj hf
          exact nn_zret S hr hlk hw rfl rfl rfl dX5_ringsLike_26
  refine lv_iconst (v := 0) hx hb dX5_ringsLike_0 (by decide) ?_
  refine lv_istore_n (lv' := [(2, .int ((0 : Int32))), (0, .ref (ad (6*v))), (1, .ref (ad (6*w)))]) hx hb dX5_ringsLike_1 rfl hl (by decide) rfl (fun ls hl => ?_)
  refine L2 100000 (0 : Int32) _ (fun b2_5 hf H locs ls hw hl => ?_) hf _ _ _ hw (lv_sub hl [1, 2, 0] rfl)
  refine lv_iconst (v := 1) hx hb dX5_ringsLike_33 (by decide) ?_
  obtain rfl := Option.some.inj hf
  exact nn_zret S hr hlk hw rfl rfl rfl dX5_ringsLike_34
set_option maxRecDepth 100000 in
set_option maxHeartbeats 4000000 in
theorem c_X5_slowShift (l : Launch) (D : va_G) (cy : Nat → ClassId) (ad : Nat → Nat) (A : Nat → Prop) (σ : nG) (v : Nat) (hn_v : v < 19) (x : nVl) (hx_Vv : gV σ v = x) (a1 : Int32) (q : Int32) (hf : f_X5_slowShift x a1 = some q) : nn_I l yX5_slowShift (nn_ws yX5_slowShift cX5_slowShift 2 (some .int)) (nn_R 0) D cy ad A [.ref (ad (6*v)), .int (a1)] σ q σ := by
  refine nn_enterI (plainFor_of_name (by decide +kernel)) (Nat.le_of_ble_eq_true rfl) (lv := [(0, .ref (ad (6*v))), (1, .int (a1))]) rfl ?_
  intro pp ee ss mm bb me co S hr hlk hK hw ls hl
  have hx := S.1
  have hb := S.2.1
  unfold f_X5_slowShift at hf
  refine lv_aload_n hx hb dX5_slowShift_0 rfl (lv_at hl 0 rfl) ?_
  refine gf_Vl_drifts S hK hw (v := v) hn_v tb_1_33 dX5_slowShift_1 ?_
  refine lv_iload_n hx hb dX5_slowShift_4 rfl (lv_at hl 1 rfl) ?_
  obtain ⟨g_1, hf⟩ := nn_ix_some hf
  refine al_Vl_drifts S hK hw (v := v) hn_v (x := x) hx_Vv g_1 dX5_slowShift_5 ?_
  refine lv_iconst (v := 2) hx hb dX5_slowShift_6 (by decide) ?_
  refine lv_idiv hx hb dX5_slowShift_7 (by decide) ?_
  obtain rfl := Option.some.inj hf
  exact nn_iret S hr hlk hw rfl rfl dX5_slowShift_8
set_option maxRecDepth 100000 in
set_option maxHeartbeats 4000000 in
theorem c_X5_hearerShift (l : Launch) (D : va_G) (cy : Nat → ClassId) (ad : Nat → Nat) (A : Nat → Prop) (σ : nG) (v : Nat) (hn_v : v < 19) (x : nVl) (hx_Vv : gV σ v = x) (a1 : Int32) (q : Int32) (hf : f_X5_hearerShift x a1 = some q) : nn_I l yX5_hearerShift (nn_ws yX5_hearerShift cX5_hearerShift 3 (some .int)) (nn_R 1) D cy ad A [.ref (ad (6*v)), .int (a1)] σ q σ := by
  refine nn_enterI (plainFor_of_name (by decide +kernel)) (Nat.le_of_ble_eq_true rfl) (lv := [(0, .ref (ad (6*v))), (1, .int (a1))]) rfl ?_
  intro pp ee ss mm bb me co S hr hlk hK hw ls hl
  have hx := S.1
  have hb := S.2.1
  unfold f_X5_hearerShift at hf
  have L2 : ∀ (n : Nat) (u1 : Int32) (u2 : Int32) (K : Int32 → Int32 → Option (Int32)), (∀ (u1 : Int32) (u2 : Int32), K u1 u2 = some q → ∀ (H : Heap) (locs : List Loc) (ls : Array Slot), nn_W D cy ad A ss.heap σ H locs → lv_has ls 3 [(0, .ref (ad (6*v))), (1, .int (u1)), (2, .int (u2))] → W pp l ee (nn_R 1) ss mm ([.ref (ad (6*v)), .int (a1)] : List Value).toArray bb me co H locs 0 0 (MQ bb (nn_qi D cy ad A q σ) ([.ref (ad (6*v)), .int (a1)] : List Value).toArray ss 0 0 A) (F0 mm 42 ls [])) → f_X5_hearerShift_L2 x n u1 u2 K = some q → ∀ (H : Heap) (locs : List Loc) (ls : Array Slot), nn_W D cy ad A ss.heap σ H locs → lv_has ls 3 [(0, .ref (ad (6*v))), (1, .int (u1)), (2, .int (u2))] → W pp l ee (nn_R 1) ss mm ([.ref (ad (6*v)), .int (a1)] : List Value).toArray bb me co H locs 0 0 (MQ bb (nn_qi D cy ad A q σ) ([.ref (ad (6*v)), .int (a1)] : List Value).toArray ss 0 0 A) (F0 mm 2 ls []) := by
    intro n
    induction n with
    | zero => intro u1 u2 K hKK hf; exact absurd hf (by simp [f_X5_hearerShift_L2])
    | succ n ih =>
      intro u1 u2 K hKK hf H locs ls hw hl
      rw [f_X5_hearerShift_L2] at hf
      refine lv_iload_n hx hb dX5_hearerShift_2 rfl (lv_at hl 2 rfl) ?_
      refine lv_aload_n hx hb dX5_hearerShift_3 rfl (lv_at hl 0 rfl) ?_
      refine gf_Vl_villages S hK hw (v := v) hn_v (x := x) hx_Vv tb_1_39 dX5_hearerShift_4 ?_
      refine lv_icmp_ge (tgt := 42) hx hb dX5_hearerShift_7 (by decide) (fun c_1 => ?_) (fun c_1 => ?_)
      · rw [if_pos c_1] at hf
        exact hKK u1 u2 hf _ _ _ hw (lv_sub hl [0, 1, 2] rfl)
      · rw [if_neg c_1] at hf
        refine lv_iload_n hx hb dX5_hearerShift_10 rfl (lv_at hl 2 rfl) ?_
        refine lv_iload_n hx hb dX5_hearerShift_11 rfl (lv_at hl 1 rfl) ?_
        refine lv_icmp_eq (tgt := 36) hx hb dX5_hearerShift_12 (by decide) (fun c_2 => ?_) (fun c_2 => ?_)
        · rw [if_pos c_2] at hf
          refine lv_iinc (v := u2 + (1 : Int32)) (lv' := [(2, .int (u2 + (1 : Int32))), (0, .ref (ad (6*v))), (1, .int (u1))]) hx hb dX5_hearerShift_36 hl (k := 2) rfl (congrArg (fun z => u2 + z) (by decide)) (by decide) rfl (fun ls hl => ?_)
          refine lv_goto (tgt := 2) hx hb dX5_hearerShift_39 (by decide) ?_
          exact ih u1 (u2 + (1 : Int32)) K hKK hf _ _ _ hw (lv_sub hl [1, 2, 0] rfl)
        · rw [if_neg c_2] at hf
          refine lv_aload_n hx hb dX5_hearerShift_15 rfl (lv_at hl 0 rfl) ?_
          refine gf_Vl_minutes S hK hw (v := v) hn_v tb_1_29 dX5_hearerShift_16 ?_
          refine lv_iload_n hx hb dX5_hearerShift_19 rfl (lv_at hl 1 rfl) ?_
          obtain ⟨g_3, hf⟩ := nn_ix_some hf
          refine al_Vl_minutes S hK hw (v := v) hn_v (x := x) hx_Vv g_3 dX5_hearerShift_20 ?_
          refine lv_aload_n hx hb dX5_hearerShift_21 rfl (lv_at hl 0 rfl) ?_
          refine gf_Vl_minutes S hK hw (v := v) hn_v tb_1_29 dX5_hearerShift_22 ?_
          refine lv_iload_n hx hb dX5_hearerShift_25 rfl (lv_at hl 2 rfl) ?_
          obtain ⟨g_4, hf⟩ := nn_ix_some hf
          refine al_Vl_minutes S hK hw (v := v) hn_v (x := x) hx_Vv g_4 dX5_hearerShift_26 ?_
          obtain ⟨q_5, h_6, hf⟩ := nn_bind hf
          refine nn_calliN S (As := [.int ((g_Vl_minutes x) u1.toNatClampNeg), .int ((g_Vl_minutes x) u2.toNatClampNeg)]) (rest := []) (c_X6_shorterWay l D cy ad A σ ((g_Vl_minutes x) u1.toNatClampNeg) ((g_Vl_minutes x) u2.toNatClampNeg) q_5 h_6) mv_X6_shorterWay (nw_7 hK.2) hK hw ⟨Nat.le_of_ble_eq_true rfl, Nat.le_of_ble_eq_true rfl⟩ ⟨Nat.zero_le _, Nat.zero_le _⟩ rfl hl.1 rfl (Nat.le_of_ble_eq_true rfl) dX5_hearerShift_27 (fun H locs hw => ?_)
          refine lv_iconst (v := 3) hx hb dX5_hearerShift_30 (by decide) ?_
          refine lv_icmp_gt (tgt := 36) hx hb dX5_hearerShift_31 (by decide) (fun c_7 => ?_) (fun c_7 => ?_)
          · rw [if_pos c_7] at hf
            refine lv_iinc (v := u2 + (1 : Int32)) (lv' := [(2, .int (u2 + (1 : Int32))), (0, .ref (ad (6*v))), (1, .int (u1))]) hx hb dX5_hearerShift_36 hl (k := 2) rfl (congrArg (fun z => u2 + z) (by decide)) (by decide) rfl (fun ls hl => ?_)
            refine lv_goto (tgt := 2) hx hb dX5_hearerShift_39 (by decide) ?_
            exact ih u1 (u2 + (1 : Int32)) K hKK hf _ _ _ hw (lv_sub hl [1, 2, 0] rfl)
          · rw [if_neg c_7] at hf
            refine lv_iconst (v := 0) hx hb dX5_hearerShift_34 (by decide) ?_
            obtain rfl := Option.some.inj hf
            exact nn_iret S hr hlk hw rfl rfl dX5_hearerShift_35
  refine lv_iconst (v := 0) hx hb dX5_hearerShift_0 (by decide) ?_
  refine lv_istore_n (lv' := [(2, .int ((0 : Int32))), (0, .ref (ad (6*v))), (1, .int (a1))]) hx hb dX5_hearerShift_1 rfl hl (by decide) rfl (fun ls hl => ?_)
  refine L2 100000 a1 (0 : Int32) _ (fun b1_8 b2_9 hf H locs ls hw hl => ?_) hf _ _ _ hw (lv_sub hl [1, 2, 0] rfl)
  refine lv_aload_n hx hb dX5_hearerShift_42 rfl (lv_at hl 0 rfl) ?_
  refine gf_Vl_drifts S hK hw (v := v) hn_v tb_1_33 dX5_hearerShift_43 ?_
  refine lv_iload_n hx hb dX5_hearerShift_46 rfl (lv_at hl 1 rfl) ?_
  obtain ⟨g_10, hf⟩ := nn_ix_some hf
  refine al_Vl_drifts S hK hw (v := v) hn_v (x := x) hx_Vv g_10 dX5_hearerShift_47 ?_
  obtain rfl := Option.some.inj hf
  exact nn_iret S hr hlk hw rfl rfl dX5_hearerShift_48
set_option maxRecDepth 100000 in
set_option maxHeartbeats 4000000 in
theorem c_X5_isByTheOneBefore (l : Launch) (D : va_G) (cy : Nat → ClassId) (ad : Nat → Nat) (A : Nat → Prop) (σ : nG) (v : Nat) (hn_v : v < 19) (x : nVl) (hx_Vv : gV σ v = x) (a1 : Int32) (q : Int32) (hf : f_X5_isByTheOneBefore x a1 = some q) : nn_I l yX5_isByTheOneBefore (nn_ws yX5_isByTheOneBefore cX5_isByTheOneBefore 3 (some .boolean)) (nn_R 1) D cy ad A [.ref (ad (6*v)), .int (a1)] σ q σ := by
  refine nn_enterI (plainFor_of_name (by decide +kernel)) (Nat.le_of_ble_eq_true rfl) (lv := [(0, .ref (ad (6*v))), (1, .int (a1))]) rfl ?_
  intro pp ee ss mm bb me co S hr hlk hK hw ls hl
  have hx := S.1
  have hb := S.2.1
  unfold f_X5_isByTheOneBefore at hf
  have J16 : ∀ (u1 : Int32) (s0 : Int32), f_X5_isByTheOneBefore_J16 x u1 s0 = some q → ∀ (H : Heap) (locs : List Loc) (ls : Array Slot), nn_W D cy ad A ss.heap σ H locs → lv_has ls 3 [(0, .ref (ad (6*v))), (1, .int (u1))] → W pp l ee (nn_R 1) ss mm ([.ref (ad (6*v)), .int (a1)] : List Value).toArray bb me co H locs 0 0 (MQ bb (nn_qi D cy ad A q σ) ([.ref (ad (6*v)), .int (a1)] : List Value).toArray ss 0 0 A) (F0 mm 16 ls [.int (s0)]) := by
    intro u1 s0 hf H locs ls hw hl
    unfold f_X5_isByTheOneBefore_J16 at hf
    refine lv_istore_n (lv' := [(2, .int (s0)), (0, .ref (ad (6*v))), (1, .int (u1))]) hx hb dX5_isByTheOneBefore_16 rfl hl (by decide) rfl (fun ls hl => ?_)
    refine lv_iload_n hx hb dX5_isByTheOneBefore_17 rfl (lv_at hl 0 rfl) ?_
    refine lv_iload_n hx hb dX5_isByTheOneBefore_18 rfl (lv_at hl 2 rfl) ?_
    refine lv_icmp_eq (tgt := 47) hx hb dX5_isByTheOneBefore_19 (by decide) (fun c_2 => ?_) (fun c_2 => ?_)
    · rw [if_pos c_2] at hf
      refine lv_iconst (v := 0) hx hb dX5_isByTheOneBefore_47 (by decide) ?_
      obtain rfl := Option.some.inj hf
      exact nn_zret S hr hlk hw rfl rfl rfl dX5_isByTheOneBefore_48
    · rw [if_neg c_2] at hf
      refine lv_aload_n hx hb dX5_isByTheOneBefore_22 rfl (lv_at hl 1 rfl) ?_
      refine gf_Vl_miles S hK hw (v := v) hn_v tb_1_35 dX5_isByTheOneBefore_23 ?_
      refine lv_iload_n hx hb dX5_isByTheOneBefore_26 rfl (lv_at hl 2 rfl) ?_
      obtain ⟨g_3, hf⟩ := nn_ix_some hf
      refine al_Vl_miles S hK hw (v := v) hn_v (x := x) hx_Vv g_3 dX5_isByTheOneBefore_27 ?_
      refine lv_aload_n hx hb dX5_isByTheOneBefore_28 rfl (lv_at hl 1 rfl) ?_
      refine gf_Vl_miles S hK hw (v := v) hn_v tb_1_35 dX5_isByTheOneBefore_29 ?_
      refine lv_iload_n hx hb dX5_isByTheOneBefore_32 rfl (lv_at hl 0 rfl) ?_
      obtain ⟨g_4, hf⟩ := nn_ix_some hf
      refine al_Vl_miles S hK hw (v := v) hn_v (x := x) hx_Vv g_4 dX5_isByTheOneBefore_33 ?_
      refine lv_isub hx hb dX5_isByTheOneBefore_34 ?_
      obtain ⟨q_5, h_6, hf⟩ := nn_bind hf
      refine nn_calliS S (As := [.int (((g_Vl_miles x) u1.toNatClampNeg) - ((g_Vl_miles x) s0.toNatClampNeg))]) (rest := []) (c_J9_abs_0f7a4 l D cy ad A σ (((g_Vl_miles x) u1.toNatClampNeg) - ((g_Vl_miles x) s0.toNatClampNeg)) q_5 h_6) mv_J9_abs_0f7a4 tb_2_1 hK hw ⟨Nat.le_of_ble_eq_true rfl, Nat.le_of_ble_eq_true rfl⟩ ⟨Nat.zero_le _, Nat.zero_le _⟩ rfl hl.1 rfl (Nat.le_of_ble_eq_true rfl) dX5_isByTheOneBefore_35 (fun H locs hw => ?_)
      refine lv_bipush (v := 10) hx hb dX5_isByTheOneBefore_38 (by decide) ?_
      refine lv_icmp_gt (tgt := 47) hx hb dX5_isByTheOneBefore_40 (by decide) (fun c_7 => ?_) (fun c_7 => ?_)
      · rw [if_pos c_7] at hf
        refine lv_iconst (v := 0) hx hb dX5_isByTheOneBefore_47 (by decide) ?_
        obtain rfl := Option.some.inj hf
        exact nn_zret S hr hlk hw rfl rfl rfl dX5_isByTheOneBefore_48
      · rw [if_neg c_7] at hf
        refine lv_iconst (v := 1) hx hb dX5_isByTheOneBefore_43 (by decide) ?_
        refine lv_goto (tgt := 48) hx hb dX5_isByTheOneBefore_44 (by decide) ?_
        obtain rfl := Option.some.inj hf
        exact nn_zret S hr hlk hw rfl rfl rfl dX5_isByTheOneBefore_48
  refine lv_iload_n hx hb dX5_isByTheOneBefore_0 rfl (lv_at hl 1 rfl) ?_
  refine lv_if_ne (tgt := 13) hx hb dX5_isByTheOneBefore_1 (by decide) (fun c_1 => ?_) (fun c_1 => ?_)
  · rw [if_neg c_1] at hf
    refine lv_iload_n hx hb dX5_isByTheOneBefore_13 rfl (lv_at hl 1 rfl) ?_
    refine lv_iconst (v := 1) hx hb dX5_isByTheOneBefore_14 (by decide) ?_
    refine lv_isub hx hb dX5_isByTheOneBefore_15 ?_
    exact J16 a1 (a1 - (1 : Int32)) hf _ _ _ hw (lv_sub hl [0, 1] rfl)
  · rw [if_pos c_1] at hf
    refine lv_aload_n hx hb dX5_isByTheOneBefore_4 rfl (lv_at hl 0 rfl) ?_
    refine gf_Vl_villages S hK hw (v := v) hn_v (x := x) hx_Vv tb_1_39 dX5_isByTheOneBefore_5 ?_
    refine lv_iconst (v := 1) hx hb dX5_isByTheOneBefore_8 (by decide) ?_
    refine lv_isub hx hb dX5_isByTheOneBefore_9 ?_
    refine lv_goto (tgt := 16) hx hb dX5_isByTheOneBefore_10 (by decide) ?_
    exact J16 a1 ((g_Vl_villages x) - (1 : Int32)) hf _ _ _ hw (lv_sub hl [0, 1] rfl)
set_option maxRecDepth 100000 in
set_option maxHeartbeats 4000000 in
theorem c_X5_laterBy (l : Launch) (D : va_G) (cy : Nat → ClassId) (ad : Nat → Nat) (A : Nat → Prop) (σ : nG) (v : Nat) (hn_v : v < 19) (x : nVl) (hx_Vv : gV σ v = x) (a1 : Int32) (q : Int32) (hf : f_X5_laterBy x a1 = some q) : nn_I l yX5_laterBy (nn_ws yX5_laterBy cX5_laterBy 2 (some .int)) (nn_R 2) D cy ad A [.ref (ad (6*v)), .int (a1)] σ q σ := by
  refine nn_enterI (plainFor_of_name (by decide +kernel)) (Nat.le_of_ble_eq_true rfl) (lv := [(0, .ref (ad (6*v))), (1, .int (a1))]) rfl ?_
  intro pp ee ss mm bb me co S hr hlk hK hw ls hl
  have hx := S.1
  have hb := S.2.1
  unfold f_X5_laterBy at hf
  refine lv_aload_n hx hb dX5_laterBy_0 rfl (lv_at hl 0 rfl) ?_
  refine gf_Vl_kinds S hK hw (v := v) hn_v tb_1_27 dX5_laterBy_1 ?_
  refine lv_iload_n hx hb dX5_laterBy_4 rfl (lv_at hl 1 rfl) ?_
  obtain ⟨g_1, hf⟩ := nn_ix_some hf
  refine al_Vl_kinds S hK hw (v := v) hn_v (x := x) hx_Vv g_1 dX5_laterBy_5 ?_
  by_cases c_2 : ((g_Vl_kinds x) a1.toNatClampNeg) = (0 : Int32)
  · rw [if_pos c_2] at hf
    refine lv_tableIn (tgt := 96) hx hb dX5_laterBy_6 (by rw [c_2]; decide) (by rw [c_2]; decide) (by rw [c_2]; rfl) (by decide) ?_
    refine lv_aload_n hx hb dX5_laterBy_96 rfl (lv_at hl 0 rfl) ?_
    refine gf_Vl_drifts S hK hw (v := v) hn_v tb_1_33 dX5_laterBy_97 ?_
    refine lv_iload_n hx hb dX5_laterBy_100 rfl (lv_at hl 1 rfl) ?_
    obtain ⟨g_3, hf⟩ := nn_ix_some hf
    refine al_Vl_drifts S hK hw (v := v) hn_v (x := x) hx_Vv g_3 dX5_laterBy_101 ?_
    obtain rfl := Option.some.inj hf
    exact nn_iret S hr hlk hw rfl rfl dX5_laterBy_102
  · rw [if_neg c_2] at hf
    by_cases c_4 : ((g_Vl_kinds x) a1.toNatClampNeg) = (1 : Int32)
    · rw [if_pos c_4] at hf
      refine lv_tableIn (tgt := 40) hx hb dX5_laterBy_6 (by rw [c_4]; decide) (by rw [c_4]; decide) (by rw [c_4]; rfl) (by decide) ?_
      refine lv_aload_n hx hb dX5_laterBy_40 rfl (lv_at hl 0 rfl) ?_
      refine lv_iload_n hx hb dX5_laterBy_41 rfl (lv_at hl 1 rfl) ?_
      obtain ⟨q_5, h_6, hf⟩ := nn_bind hf
      refine nn_calliV S (As := [.int (a1)]) (rest := []) (ce_V (k := 0) (v := v) hn_v (by decide)) (by omega) rfl rfl (c_X5_slowShift l D cy ad A σ v hn_v x hx_Vv a1 q_5 h_6) mv_X5_slowShift tb_1_226 hK hw ⟨Nat.le_of_ble_eq_true rfl, Nat.le_of_ble_eq_true rfl⟩ ⟨Nat.zero_le _, Nat.zero_le _⟩ rfl hl.1 rfl (Nat.le_of_ble_eq_true rfl) dX5_laterBy_42 (fun H locs hw => ?_)
      obtain rfl := Option.some.inj hf
      exact nn_iret S hr hlk hw rfl rfl dX5_laterBy_45
    · rw [if_neg c_4] at hf
      by_cases c_7 : ((g_Vl_kinds x) a1.toNatClampNeg) = (2 : Int32)
      · rw [if_pos c_7] at hf
        refine lv_tableIn (tgt := 46) hx hb dX5_laterBy_6 (by rw [c_7]; decide) (by rw [c_7]; decide) (by rw [c_7]; rfl) (by decide) ?_
        refine lv_aload_n hx hb dX5_laterBy_46 rfl (lv_at hl 0 rfl) ?_
        refine lv_iload_n hx hb dX5_laterBy_47 rfl (lv_at hl 1 rfl) ?_
        obtain ⟨q_8, h_9, hf⟩ := nn_bind hf
        refine nn_calliV S (As := [.int (a1)]) (rest := []) (ce_V (k := 0) (v := v) hn_v (by decide)) (by omega) rfl rfl (c_X5_hearerShift l D cy ad A σ v hn_v x hx_Vv a1 q_8 h_9) mv_X5_hearerShift tb_1_230 hK hw ⟨Nat.le_of_ble_eq_true rfl, Nat.le_of_ble_eq_true rfl⟩ ⟨Nat.zero_le _, Nat.zero_le _⟩ rfl hl.1 rfl (Nat.le_of_ble_eq_true rfl) dX5_laterBy_48 (fun H locs hw => ?_)
        obtain rfl := Option.some.inj hf
        exact nn_iret S hr hlk hw rfl rfl dX5_laterBy_51
      · rw [if_neg c_7] at hf
        by_cases c_10 : ((g_Vl_kinds x) a1.toNatClampNeg) = (3 : Int32)
        · rw [if_pos c_10] at hf
          refine lv_tableIn (tgt := 52) hx hb dX5_laterBy_6 (by rw [c_10]; decide) (by rw [c_10]; decide) (by rw [c_10]; rfl) (by decide) ?_
          refine lv_aload_n hx hb dX5_laterBy_52 rfl (lv_at hl 0 rfl) ?_
          refine gf_Vl_day S hK hw (v := v) hn_v (x := x) hx_Vv tb_1_43 dX5_laterBy_53 ?_
          refine lv_iconst (v := 2) hx hb dX5_laterBy_56 (by decide) ?_
          refine lv_irem hx hb dX5_laterBy_57 (by decide) ?_
          refine lv_if_ne (tgt := 69) hx hb dX5_laterBy_58 (by decide) (fun c_11 => ?_) (fun c_11 => ?_)
          · rw [if_neg c_11] at hf
            refine lv_aload_n hx hb dX5_laterBy_69 rfl (lv_at hl 0 rfl) ?_
            refine lv_iload_n hx hb dX5_laterBy_70 rfl (lv_at hl 1 rfl) ?_
            obtain ⟨q_12, h_13, hf⟩ := nn_bind hf
            refine nn_calliV S (As := [.int (a1)]) (rest := []) (ce_V (k := 0) (v := v) hn_v (by decide)) (by omega) rfl rfl (c_X5_slowShift l D cy ad A σ v hn_v x hx_Vv a1 q_12 h_13) mv_X5_slowShift tb_1_226 hK hw ⟨Nat.le_of_ble_eq_true rfl, Nat.le_of_ble_eq_true rfl⟩ ⟨Nat.zero_le _, Nat.zero_le _⟩ rfl hl.1 rfl (Nat.le_of_ble_eq_true rfl) dX5_laterBy_71 (fun H locs hw => ?_)
            refine lv_ineg hx hb dX5_laterBy_74 ?_
            obtain rfl := Option.some.inj hf
            exact nn_iret S hr hlk hw rfl rfl dX5_laterBy_75
          · rw [if_pos c_11] at hf
            refine lv_aload_n hx hb dX5_laterBy_61 rfl (lv_at hl 0 rfl) ?_
            refine lv_iload_n hx hb dX5_laterBy_62 rfl (lv_at hl 1 rfl) ?_
            obtain ⟨q_14, h_15, hf⟩ := nn_bind hf
            refine nn_calliV S (As := [.int (a1)]) (rest := []) (ce_V (k := 0) (v := v) hn_v (by decide)) (by omega) rfl rfl (c_X5_slowShift l D cy ad A σ v hn_v x hx_Vv a1 q_14 h_15) mv_X5_slowShift tb_1_226 hK hw ⟨Nat.le_of_ble_eq_true rfl, Nat.le_of_ble_eq_true rfl⟩ ⟨Nat.zero_le _, Nat.zero_le _⟩ rfl hl.1 rfl (Nat.le_of_ble_eq_true rfl) dX5_laterBy_63 (fun H locs hw => ?_)
            refine lv_goto (tgt := 75) hx hb dX5_laterBy_66 (by decide) ?_
            obtain rfl := Option.some.inj hf
            exact nn_iret S hr hlk hw rfl rfl dX5_laterBy_75
        · rw [if_neg c_10] at hf
          by_cases c_16 : ((g_Vl_kinds x) a1.toNatClampNeg) = (4 : Int32)
          · rw [if_pos c_16] at hf
            refine lv_tableIn (tgt := 76) hx hb dX5_laterBy_6 (by rw [c_16]; decide) (by rw [c_16]; decide) (by rw [c_16]; rfl) (by decide) ?_
            refine lv_aload_n hx hb dX5_laterBy_76 rfl (lv_at hl 0 rfl) ?_
            refine lv_iload_n hx hb dX5_laterBy_77 rfl (lv_at hl 1 rfl) ?_
            obtain ⟨q_17, h_18, hf⟩ := nn_bind hf
            refine nn_calliV S (As := [.int (a1)]) (rest := []) (ce_V (k := 0) (v := v) hn_v (by decide)) (by omega) rfl rfl (c_X5_hearerShift l D cy ad A σ v hn_v x hx_Vv a1 q_17 h_18) mv_X5_hearerShift tb_1_230 hK hw ⟨Nat.le_of_ble_eq_true rfl, Nat.le_of_ble_eq_true rfl⟩ ⟨Nat.zero_le _, Nat.zero_le _⟩ rfl hl.1 rfl (Nat.le_of_ble_eq_true rfl) dX5_laterBy_78 (fun H locs hw => ?_)
            refine lv_aload_n hx hb dX5_laterBy_81 rfl (lv_at hl 0 rfl) ?_
            refine lv_iload_n hx hb dX5_laterBy_82 rfl (lv_at hl 1 rfl) ?_
            obtain ⟨q_19, h_20, hf⟩ := nn_bind hf
            refine nn_calliV S (As := [.int (a1)]) (rest := [.int (q_17)]) (ce_V (k := 0) (v := v) hn_v (by decide)) (by omega) rfl rfl (c_X5_isByTheOneBefore l D cy ad A σ v hn_v x hx_Vv a1 q_19 h_20) mv_X5_isByTheOneBefore tb_1_237 hK hw ⟨Nat.le_of_ble_eq_true rfl, Nat.le_of_ble_eq_true rfl⟩ ⟨Nat.zero_le _, Nat.zero_le _⟩ rfl hl.1 rfl (Nat.le_of_ble_eq_true rfl) dX5_laterBy_83 (fun H locs hw => ?_)
            refine lv_if_eq (tgt := 93) hx hb dX5_laterBy_86 (by decide) (fun c_21 => ?_) (fun c_21 => ?_)
            · rw [if_pos c_21] at hf
              refine lv_iconst (v := 0) hx hb dX5_laterBy_93 (by decide) ?_
              refine lv_iadd hx hb dX5_laterBy_94 ?_
              obtain rfl := Option.some.inj hf
              exact nn_iret S hr hlk hw rfl rfl dX5_laterBy_95
            · rw [if_neg c_21] at hf
              refine lv_iconst (v := 1) hx hb dX5_laterBy_89 (by decide) ?_
              refine lv_goto (tgt := 94) hx hb dX5_laterBy_90 (by decide) ?_
              refine lv_iadd hx hb dX5_laterBy_94 ?_
              obtain rfl := Option.some.inj hf
              exact nn_iret S hr hlk hw rfl rfl dX5_laterBy_95
          · rw [if_neg c_16] at hf
            refine lv_tableOut (tgt := 96) hx hb dX5_laterBy_6 (nn_swout 4 (by decide) (fun k hk => by have h9 : k = 0 ∨ k = 1 ∨ k = 2 ∨ k = 3 ∨ k = 4 := (by omega); rcases h9 with rfl | rfl | rfl | rfl | rfl <;> assumption)) (by decide) ?_
            refine lv_aload_n hx hb dX5_laterBy_96 rfl (lv_at hl 0 rfl) ?_
            refine gf_Vl_drifts S hK hw (v := v) hn_v tb_1_33 dX5_laterBy_97 ?_
            refine lv_iload_n hx hb dX5_laterBy_100 rfl (lv_at hl 1 rfl) ?_
            obtain ⟨g_22, hf⟩ := nn_ix_some hf
            refine al_Vl_drifts S hK hw (v := v) hn_v (x := x) hx_Vv g_22 dX5_laterBy_101 ?_
            obtain rfl := Option.some.inj hf
            exact nn_iret S hr hlk hw rfl rfl dX5_laterBy_102
set_option maxRecDepth 100000 in
set_option maxHeartbeats 4000000 in
theorem c_X5_passDay (l : Launch) (D : va_G) (cy : Nat → ClassId) (ad : Nat → Nat) (A : Nat → Prop) (σ : nG) (v : Nat) (hn_v : v < 19) (x : nVl) (hx_Vv : gV σ v = x) (q : nVl) (hf : f_X5_passDay x = some q) (σ' : nG) (hσ : (sV σ v q) = σ') : nn_V l yX5_passDay (nn_ws yX5_passDay cX5_passDay 2 none) (nn_R 3) D cy ad A [.ref (ad (6*v))] σ σ' := by
  refine nn_enterV (plainFor_of_name (by decide +kernel)) (Nat.le_of_ble_eq_true rfl) (lv := [(0, .ref (ad (6*v)))]) rfl ?_
  intro pp ee ss mm bb me co S hr hlk hK hw ls hl
  have hx := S.1
  have hb := S.2.1
  have hw : nn_W D cy ad A ss.heap (sV σ v x) ss.heap [] := nn_W.eq (by rw [← hx_Vv]; exact (esV σ v).symm) hw
  unfold f_X5_passDay at hf
  have L2 : ∀ (n : Nat) (x : nVl) (u1 : Int32) (K : nVl → Int32 → Option (nVl)), (∀ (x : nVl) (u1 : Int32), K x u1 = some q → ∀ (H : Heap) (locs : List Loc) (ls : Array Slot), nn_W D cy ad A ss.heap (sV σ v x) H locs → lv_has ls 2 [(0, .ref (ad (6*v))), (1, .int (u1))] → W pp l ee (nn_R 3) ss mm ([.ref (ad (6*v))] : List Value).toArray bb me co H locs 0 0 (MQ bb (nn_qv D cy ad A σ') ([.ref (ad (6*v))] : List Value).toArray ss 0 0 A) (F0 mm 27 ls [])) → f_X5_passDay_L2 n x u1 K = some q → ∀ (H : Heap) (locs : List Loc) (ls : Array Slot), nn_W D cy ad A ss.heap (sV σ v x) H locs → lv_has ls 2 [(0, .ref (ad (6*v))), (1, .int (u1))] → W pp l ee (nn_R 3) ss mm ([.ref (ad (6*v))] : List Value).toArray bb me co H locs 0 0 (MQ bb (nn_qv D cy ad A σ') ([.ref (ad (6*v))] : List Value).toArray ss 0 0 A) (F0 mm 2 ls []) := by
    intro n
    induction n with
    | zero => intro x u1 K hKK hf; exact absurd hf (by simp [f_X5_passDay_L2])
    | succ n ih =>
      intro x u1 K hKK hf H locs ls hw hl
      rw [f_X5_passDay_L2] at hf
      refine lv_iload_n hx hb dX5_passDay_2 rfl (lv_at hl 1 rfl) ?_
      refine lv_aload_n hx hb dX5_passDay_3 rfl (lv_at hl 0 rfl) ?_
      refine gf_Vl_villages S hK hw (v := v) hn_v (x := x) (gsV _ _ _) tb_1_39 dX5_passDay_4 ?_
      refine lv_icmp_ge (tgt := 27) hx hb dX5_passDay_7 (by decide) (fun c_1 => ?_) (fun c_1 => ?_)
      · rw [if_pos c_1] at hf
        exact hKK x u1 hf _ _ _ hw (lv_sub hl [0, 1] rfl)
      · rw [if_neg c_1] at hf
        refine lv_aload_n hx hb dX5_passDay_10 rfl (lv_at hl 0 rfl) ?_
        refine gf_Vl_shifts S hK hw (v := v) hn_v tb_1_38 dX5_passDay_11 ?_
        refine lv_iload_n hx hb dX5_passDay_14 rfl (lv_at hl 1 rfl) ?_
        refine lv_aload_n hx hb dX5_passDay_15 rfl (lv_at hl 0 rfl) ?_
        refine lv_iload_n hx hb dX5_passDay_16 rfl (lv_at hl 1 rfl) ?_
        obtain ⟨q_2, h_3, hf⟩ := nn_bind hf
        refine nn_calliV S (As := [.int (u1)]) (rest := [.int (u1), .ref (ad (6*v+5))]) (ce_V (k := 0) (v := v) hn_v (by decide)) (by omega) rfl rfl (c_X5_laterBy l D cy ad A (sV σ v x) v hn_v x (gsV _ _ _) u1 q_2 h_3) mv_X5_laterBy tb_2_136 hK hw ⟨Nat.le_of_ble_eq_true rfl, Nat.le_of_ble_eq_true rfl⟩ ⟨Nat.zero_le _, Nat.zero_le _⟩ rfl hl.1 rfl (Nat.le_of_ble_eq_true rfl) dX5_passDay_17 (fun H locs hw => ?_)
        obtain ⟨g_4, hf⟩ := nn_ix_some hf
        refine as_Vl_shifts S hK hw (v := v) hn_v (x := x) (gsV _ _ _) g_4 (τ' := (sV σ v (s_Vl_shifts x (upd (g_Vl_shifts x) u1.toNatClampNeg q_2)))) (ssV σ v x (s_Vl_shifts x (upd (g_Vl_shifts x) u1.toNatClampNeg q_2))) dX5_passDay_20 (fun H locs hw => ?_)
        refine lv_iinc (v := u1 + (1 : Int32)) (lv' := [(1, .int (u1 + (1 : Int32))), (0, .ref (ad (6*v)))]) hx hb dX5_passDay_21 hl (k := 1) rfl (congrArg (fun z => u1 + z) (by decide)) (by decide) rfl (fun ls hl => ?_)
        refine lv_goto (tgt := 2) hx hb dX5_passDay_24 (by decide) ?_
        exact ih (s_Vl_shifts x (upd (g_Vl_shifts x) u1.toNatClampNeg q_2)) (u1 + (1 : Int32)) K hKK hf _ _ _ hw (lv_sub hl [1, 0] rfl)
  have L29 : ∀ (n : Nat) (x : nVl) (u1 : Int32) (K : nVl → Int32 → Option (nVl)), (∀ (x : nVl) (u1 : Int32), K x u1 = some q → ∀ (H : Heap) (locs : List Loc) (ls : Array Slot), nn_W D cy ad A ss.heap (sV σ v x) H locs → lv_has ls 2 [(0, .ref (ad (6*v))), (1, .int (u1))] → W pp l ee (nn_R 3) ss mm ([.ref (ad (6*v))] : List Value).toArray bb me co H locs 0 0 (MQ bb (nn_qv D cy ad A σ') ([.ref (ad (6*v))] : List Value).toArray ss 0 0 A) (F0 mm 65 ls [])) → f_X5_passDay_L29 n x u1 K = some q → ∀ (H : Heap) (locs : List Loc) (ls : Array Slot), nn_W D cy ad A ss.heap (sV σ v x) H locs → lv_has ls 2 [(0, .ref (ad (6*v))), (1, .int (u1))] → W pp l ee (nn_R 3) ss mm ([.ref (ad (6*v))] : List Value).toArray bb me co H locs 0 0 (MQ bb (nn_qv D cy ad A σ') ([.ref (ad (6*v))] : List Value).toArray ss 0 0 A) (F0 mm 29 ls []) := by
    intro n
    induction n with
    | zero => intro x u1 K hKK hf; exact absurd hf (by simp [f_X5_passDay_L29])
    | succ n ih =>
      intro x u1 K hKK hf H locs ls hw hl
      rw [f_X5_passDay_L29] at hf
      refine lv_iload_n hx hb dX5_passDay_29 rfl (lv_at hl 1 rfl) ?_
      refine lv_aload_n hx hb dX5_passDay_30 rfl (lv_at hl 0 rfl) ?_
      refine gf_Vl_villages S hK hw (v := v) hn_v (x := x) (gsV _ _ _) tb_1_39 dX5_passDay_31 ?_
      refine lv_icmp_ge (tgt := 65) hx hb dX5_passDay_34 (by decide) (fun c_7 => ?_) (fun c_7 => ?_)
      · rw [if_pos c_7] at hf
        exact hKK x u1 hf _ _ _ hw (lv_sub hl [0, 1] rfl)
      · rw [if_neg c_7] at hf
        refine lv_aload_n hx hb dX5_passDay_37 rfl (lv_at hl 0 rfl) ?_
        refine gf_Vl_minutes S hK hw (v := v) hn_v tb_1_29 dX5_passDay_38 ?_
        refine lv_iload_n hx hb dX5_passDay_41 rfl (lv_at hl 1 rfl) ?_
        refine lv_aload_n hx hb dX5_passDay_42 rfl (lv_at hl 0 rfl) ?_
        refine gf_Vl_minutes S hK hw (v := v) hn_v tb_1_29 dX5_passDay_43 ?_
        refine lv_iload_n hx hb dX5_passDay_46 rfl (lv_at hl 1 rfl) ?_
        obtain ⟨g_8, hf⟩ := nn_ix_some hf
        refine al_Vl_minutes S hK hw (v := v) hn_v (x := x) (gsV _ _ _) g_8 dX5_passDay_47 ?_
        refine lv_aload_n hx hb dX5_passDay_48 rfl (lv_at hl 0 rfl) ?_
        refine gf_Vl_shifts S hK hw (v := v) hn_v tb_1_38 dX5_passDay_49 ?_
        refine lv_iload_n hx hb dX5_passDay_52 rfl (lv_at hl 1 rfl) ?_
        obtain ⟨g_9, hf⟩ := nn_ix_some hf
        refine al_Vl_shifts S hK hw (v := v) hn_v (x := x) (gsV _ _ _) g_9 dX5_passDay_53 ?_
        refine lv_iadd hx hb dX5_passDay_54 ?_
        obtain ⟨q_10, h_11, hf⟩ := nn_bind hf
        refine nn_calliN S (As := [.int (((g_Vl_minutes x) u1.toNatClampNeg) + ((g_Vl_shifts x) u1.toNatClampNeg))]) (rest := [.int (u1), .ref (ad (6*v+2))]) (c_X6_roundTheHour l D cy ad A (sV σ v x) (((g_Vl_minutes x) u1.toNatClampNeg) + ((g_Vl_shifts x) u1.toNatClampNeg)) q_10 h_11) mv_X6_roundTheHour (nw_8 hK.2) hK hw ⟨Nat.le_of_ble_eq_true rfl, Nat.le_of_ble_eq_true rfl⟩ ⟨Nat.zero_le _, Nat.zero_le _⟩ rfl hl.1 rfl (Nat.le_of_ble_eq_true rfl) dX5_passDay_55 (fun H locs hw => ?_)
        obtain ⟨g_12, hf⟩ := nn_ix_some hf
        refine as_Vl_minutes S hK hw (v := v) hn_v (x := x) (gsV _ _ _) g_12 (τ' := (sV σ v (s_Vl_minutes x (upd (g_Vl_minutes x) u1.toNatClampNeg q_10)))) (ssV σ v x (s_Vl_minutes x (upd (g_Vl_minutes x) u1.toNatClampNeg q_10))) dX5_passDay_58 (fun H locs hw => ?_)
        refine lv_iinc (v := u1 + (1 : Int32)) (lv' := [(1, .int (u1 + (1 : Int32))), (0, .ref (ad (6*v)))]) hx hb dX5_passDay_59 hl (k := 1) rfl (congrArg (fun z => u1 + z) (by decide)) (by decide) rfl (fun ls hl => ?_)
        refine lv_goto (tgt := 29) hx hb dX5_passDay_62 (by decide) ?_
        exact ih (s_Vl_minutes x (upd (g_Vl_minutes x) u1.toNatClampNeg q_10)) (u1 + (1 : Int32)) K hKK hf _ _ _ hw (lv_sub hl [1, 0] rfl)
  refine lv_iconst (v := 0) hx hb dX5_passDay_0 (by decide) ?_
  refine lv_istore_n (lv' := [(1, .int ((0 : Int32))), (0, .ref (ad (6*v)))]) hx hb dX5_passDay_1 rfl hl (by decide) rfl (fun ls hl => ?_)
  refine L2 100000 x (0 : Int32) _ (fun x_6 b1_5 hf H locs ls hw hl => ?_) hf _ _ _ hw (lv_sub hl [1, 0] rfl)
  refine lv_iconst (v := 0) hx hb dX5_passDay_27 (by decide) ?_
  refine lv_istore_n (lv' := [(1, .int ((0 : Int32))), (0, .ref (ad (6*v)))]) hx hb dX5_passDay_28 rfl hl (by decide) rfl (fun ls hl => ?_)
  refine L29 100000 x_6 (0 : Int32) _ (fun x_14 b1_13 hf H locs ls hw hl => ?_) hf _ _ _ hw (lv_sub hl [1, 0] rfl)
  refine lv_aload_n hx hb dX5_passDay_65 rfl (lv_at hl 0 rfl) ?_
  refine lv_dup hx hb dX5_passDay_66 rfl ?_
  refine gf_Vl_day S hK hw (v := v) hn_v (x := x_14) (gsV _ _ _) tb_1_43 dX5_passDay_67 ?_
  refine lv_iconst (v := 1) hx hb dX5_passDay_70 (by decide) ?_
  refine lv_iadd hx hb dX5_passDay_71 ?_
  refine pf_Vl_day S hK hw (v := v) hn_v (x := x_14) (gsV _ _ _) (τ' := (sV σ v (s_Vl_day x_14 ((g_Vl_day x_14) + (1 : Int32))))) (ssV σ v x_14 (s_Vl_day x_14 ((g_Vl_day x_14) + (1 : Int32)))) tb_1_43 dX5_passDay_72 (fun H locs hw => ?_)
  obtain rfl := Option.some.inj hf
  exact nn_vret S hr hlk hw hσ dX5_passDay_75
set_option maxRecDepth 100000 in
set_option maxHeartbeats 4000000 in
theorem c_X5_drawRinger (l : Launch) (D : va_G) (cy : Nat → ClassId) (ad : Nat → Nat) (A : Nat → Prop) (σ : nG) (v : Nat) (hn_v : v < 19) (x : nVl) (hx_Vv : gV σ v = x) (q : nVl) (hf : f_X5_drawRinger x = some q) (σ' : nG) (hσ : (sV σ v q) = σ') : nn_V l yX5_drawRinger (nn_ws yX5_drawRinger cX5_drawRinger 2 none) (nn_R 2) D cy ad A [.ref (ad (6*v))] σ σ' := by
  refine nn_enterV (plainFor_of_name (by decide +kernel)) (Nat.le_of_ble_eq_true rfl) (lv := [(0, .ref (ad (6*v)))]) rfl ?_
  intro pp ee ss mm bb me co S hr hlk hK hw ls hl
  have hx := S.1
  have hb := S.2.1
  have hw : nn_W D cy ad A ss.heap (sV σ v x) ss.heap [] := nn_W.eq (by rw [← hx_Vv]; exact (esV σ v).symm) hw
  unfold f_X5_drawRinger at hf
  refine lv_aload_n hx hb dX5_drawRinger_0 rfl (lv_at hl 0 rfl) ?_
  refine lv_aload_n hx hb dX5_drawRinger_1 rfl (lv_at hl 0 rfl) ?_
  refine gf_Vl_draw S hK hw (v := v) hn_v (x := x) (gsV _ _ _) tb_1_45 dX5_drawRinger_2 ?_
  refine lv_ldc (v := 1103515245) hx hb S.2.2.2.1 (S.2.2.2.2 _ tb_2_123) dX5_drawRinger_5 ?_
  refine lv_imul hx hb dX5_drawRinger_7 ?_
  refine lv_sipush (v := 12345) hx hb dX5_drawRinger_8 (by decide) ?_
  refine lv_iadd hx hb dX5_drawRinger_11 ?_
  refine lv_ldc (v := 2147483647) hx hb S.2.2.2.1 (S.2.2.2.2 _ tb_2_124) dX5_drawRinger_12 ?_
  refine lv_iand hx hb dX5_drawRinger_14 ?_
  obtain ⟨x_1, h_2, hf⟩ := nn_bind hf
  replace h_2 := Option.some.inj h_2
  refine pf_Vl_draw S hK hw (v := v) hn_v (x := x) (gsV _ _ _) (τ' := (sV σ v x_1)) (((ssV σ v x (s_Vl_draw x ((((g_Vl_draw x) * (1103515245 : Int32)) + (12345 : Int32)) &&& (2147483647 : Int32)))) : _ = (sV σ v (s_Vl_draw x ((((g_Vl_draw x) * (1103515245 : Int32)) + (12345 : Int32)) &&& (2147483647 : Int32))))).trans (by rw [h_2])) tb_1_45 dX5_drawRinger_15 (fun H locs hw => ?_)
  refine lv_aload_n hx hb dX5_drawRinger_18 rfl (lv_at hl 0 rfl) ?_
  refine gf_Vl_villages S hK hw (v := v) hn_v (x := x_1) (gsV _ _ _) tb_1_39 dX5_drawRinger_19 ?_
  refine lv_if_le (tgt := 64) hx hb dX5_drawRinger_22 (by decide) (fun c_3 => ?_) (fun c_3 => ?_)
  · rw [if_pos c_3] at hf
    obtain rfl := Option.some.inj hf
    exact nn_vret S hr hlk hw hσ dX5_drawRinger_64
  · rw [if_neg c_3] at hf
    refine lv_aload_n hx hb dX5_drawRinger_25 rfl (lv_at hl 0 rfl) ?_
    refine gf_Vl_draw S hK hw (v := v) hn_v (x := x_1) (gsV _ _ _) tb_1_45 dX5_drawRinger_26 ?_
    refine lv_ldc (v := 65536) hx hb S.2.2.2.1 (S.2.2.2.2 _ tb_2_125) dX5_drawRinger_29 ?_
    refine lv_idiv hx hb dX5_drawRinger_31 (by decide) ?_
    refine lv_aload_n hx hb dX5_drawRinger_32 rfl (lv_at hl 0 rfl) ?_
    refine gf_Vl_villages S hK hw (v := v) hn_v (x := x_1) (gsV _ _ _) tb_1_39 dX5_drawRinger_33 ?_
    obtain ⟨g_4, hf⟩ := nn_nz_some hf
    refine lv_irem hx hb dX5_drawRinger_36 g_4 ?_
    refine lv_istore_n (lv' := [(1, .int (((g_Vl_draw x_1) / (65536 : Int32)) - ((g_Vl_draw x_1) / (65536 : Int32)) / (g_Vl_villages x_1) * (g_Vl_villages x_1))), (0, .ref (ad (6*v)))]) hx hb dX5_drawRinger_37 rfl hl (by decide) rfl (fun ls hl => ?_)
    refine lv_aload_n hx hb dX5_drawRinger_38 rfl (lv_at hl 1 rfl) ?_
    refine gf_Vl_minutes S hK hw (v := v) hn_v tb_1_29 dX5_drawRinger_39 ?_
    refine lv_iload_n hx hb dX5_drawRinger_42 rfl (lv_at hl 0 rfl) ?_
    refine lv_aload_n hx hb dX5_drawRinger_43 rfl (lv_at hl 1 rfl) ?_
    refine gf_Vl_minutes S hK hw (v := v) hn_v tb_1_29 dX5_drawRinger_44 ?_
    refine lv_iload_n hx hb dX5_drawRinger_47 rfl (lv_at hl 0 rfl) ?_
    obtain ⟨g_5, hf⟩ := nn_ix_some hf
    refine al_Vl_minutes S hK hw (v := v) hn_v (x := x_1) (gsV _ _ _) g_5 dX5_drawRinger_48 ?_
    refine lv_aload_n hx hb dX5_drawRinger_49 rfl (lv_at hl 1 rfl) ?_
    refine gf_Vl_draw S hK hw (v := v) hn_v (x := x_1) (gsV _ _ _) tb_1_45 dX5_drawRinger_50 ?_
    refine lv_sipush (v := 128) hx hb dX5_drawRinger_53 (by decide) ?_
    refine lv_idiv hx hb dX5_drawRinger_56 (by decide) ?_
    refine lv_iconst (v := 5) hx hb dX5_drawRinger_57 (by decide) ?_
    refine lv_irem hx hb dX5_drawRinger_58 (by decide) ?_
    refine lv_iadd hx hb dX5_drawRinger_59 ?_
    obtain ⟨q_6, h_7, hf⟩ := nn_bind hf
    refine nn_calliN S (As := [.int (((g_Vl_minutes x_1) (((g_Vl_draw x_1) / (65536 : Int32)) - ((g_Vl_draw x_1) / (65536 : Int32)) / (g_Vl_villages x_1) * (g_Vl_villages x_1)).toNatClampNeg) + (((g_Vl_draw x_1) / (128 : Int32)) - ((g_Vl_draw x_1) / (128 : Int32)) / (5 : Int32) * (5 : Int32)))]) (rest := [.int (((g_Vl_draw x_1) / (65536 : Int32)) - ((g_Vl_draw x_1) / (65536 : Int32)) / (g_Vl_villages x_1) * (g_Vl_villages x_1)), .ref (ad (6*v+2))]) (c_X6_roundTheHour l D cy ad A (sV σ v x_1) (((g_Vl_minutes x_1) (((g_Vl_draw x_1) / (65536 : Int32)) - ((g_Vl_draw x_1) / (65536 : Int32)) / (g_Vl_villages x_1) * (g_Vl_villages x_1)).toNatClampNeg) + (((g_Vl_draw x_1) / (128 : Int32)) - ((g_Vl_draw x_1) / (128 : Int32)) / (5 : Int32) * (5 : Int32))) q_6 h_7) mv_X6_roundTheHour (nw_8 hK.2) hK hw ⟨Nat.le_of_ble_eq_true rfl, Nat.le_of_ble_eq_true rfl⟩ ⟨Nat.zero_le _, Nat.zero_le _⟩ rfl hl.1 rfl (Nat.le_of_ble_eq_true rfl) dX5_drawRinger_60 (fun H locs hw => ?_)
    obtain ⟨g_8, hf⟩ := nn_ix_some hf
    obtain ⟨x_9, h_10, hf⟩ := nn_bind hf
    replace h_10 := Option.some.inj h_10
    refine as_Vl_minutes S hK hw (v := v) hn_v (x := x_1) (gsV _ _ _) g_8 (τ' := (sV σ v x_9)) (((ssV σ v x_1 (s_Vl_minutes x_1 (upd (g_Vl_minutes x_1) (((g_Vl_draw x_1) / (65536 : Int32)) - ((g_Vl_draw x_1) / (65536 : Int32)) / (g_Vl_villages x_1) * (g_Vl_villages x_1)).toNatClampNeg q_6))) : _ = (sV σ v (s_Vl_minutes x_1 (upd (g_Vl_minutes x_1) (((g_Vl_draw x_1) / (65536 : Int32)) - ((g_Vl_draw x_1) / (65536 : Int32)) / (g_Vl_villages x_1) * (g_Vl_villages x_1)).toNatClampNeg q_6)))).trans (by rw [h_10])) dX5_drawRinger_63 (fun H locs hw => ?_)
    obtain rfl := Option.some.inj hf
    exact nn_vret S hr hlk hw hσ dX5_drawRinger_64
set_option maxRecDepth 100000 in
set_option maxHeartbeats 4000000 in
theorem c_X5_passDaysUntilTogether (l : Launch) (D : va_G) (cy : Nat → ClassId) (ad : Nat → Nat) (A : Nat → Prop) (σ : nG) (v : Nat) (hn_v : v < 19) (x : nVl) (hx_Vv : gV σ v = x) (q : Int32 × nVl) (hf : f_X5_passDaysUntilTogether x = some q) (σ' : nG) (hσ : (sV σ v q.2) = σ') : nn_I l yX5_passDaysUntilTogether (nn_ws yX5_passDaysUntilTogether cX5_passDaysUntilTogether 2 (some .int)) (nn_R 4) D cy ad A [.ref (ad (6*v))] σ q.1 σ' := by
  refine nn_enterI (plainFor_of_name (by decide +kernel)) (Nat.le_of_ble_eq_true rfl) (lv := [(0, .ref (ad (6*v)))]) rfl ?_
  intro pp ee ss mm bb me co S hr hlk hK hw ls hl
  have hx := S.1
  have hb := S.2.1
  have hw : nn_W D cy ad A ss.heap (sV σ v x) ss.heap [] := nn_W.eq (by rw [← hx_Vv]; exact (esV σ v).symm) hw
  unfold f_X5_passDaysUntilTogether at hf
  have L2 : ∀ (n : Nat) (x : nVl) (u1 : Int32) (K : nVl → Int32 → Option (Int32 × nVl)), (∀ (x : nVl) (u1 : Int32), K x u1 = some q → ∀ (H : Heap) (locs : List Loc) (ls : Array Slot), nn_W D cy ad A ss.heap (sV σ v x) H locs → lv_has ls 2 [(0, .ref (ad (6*v))), (1, .int (u1))] → W pp l ee (nn_R 4) ss mm ([.ref (ad (6*v))] : List Value).toArray bb me co H locs 0 0 (MQ bb (nn_qi D cy ad A q.1 σ') ([.ref (ad (6*v))] : List Value).toArray ss 0 0 A) (F0 mm 27 ls [])) → f_X5_passDaysUntilTogether_L2 n x u1 K = some q → ∀ (H : Heap) (locs : List Loc) (ls : Array Slot), nn_W D cy ad A ss.heap (sV σ v x) H locs → lv_has ls 2 [(0, .ref (ad (6*v))), (1, .int (u1))] → W pp l ee (nn_R 4) ss mm ([.ref (ad (6*v))] : List Value).toArray bb me co H locs 0 0 (MQ bb (nn_qi D cy ad A q.1 σ') ([.ref (ad (6*v))] : List Value).toArray ss 0 0 A) (F0 mm 2 ls []) := by
    intro n
    induction n with
    | zero => intro x u1 K hKK hf; exact absurd hf (by simp [f_X5_passDaysUntilTogether_L2])
    | succ n ih =>
      intro x u1 K hKK hf H locs ls hw hl
      rw [f_X5_passDaysUntilTogether_L2] at hf
      refine lv_iload_n hx hb dX5_passDaysUntilTogether_2 rfl (lv_at hl 1 rfl) ?_
      refine lv_bipush (v := 60) hx hb dX5_passDaysUntilTogether_3 (by decide) ?_
      refine lv_icmp_gt (tgt := 27) hx hb dX5_passDaysUntilTogether_5 (by decide) (fun c_1 => ?_) (fun c_1 => ?_)
      · rw [if_pos c_1] at hf
        exact hKK x u1 hf _ _ _ hw (lv_sub hl [0, 1] rfl)
      · rw [if_neg c_1] at hf
        refine lv_aload_n hx hb dX5_passDaysUntilTogether_8 rfl (lv_at hl 0 rfl) ?_
        obtain ⟨q_2, h_3, hf⟩ := nn_bind hf
        refine nn_calliV S (As := []) (rest := []) (ce_V (k := 0) (v := v) hn_v (by decide)) (by omega) rfl rfl (c_X5_ringers l D cy ad A (sV σ v x) v hn_v x (gsV _ _ _) q_2 h_3) mv_X5_ringers tb_2_189 hK hw ⟨Nat.le_of_ble_eq_true rfl, Nat.le_of_ble_eq_true rfl⟩ ⟨Nat.zero_le _, Nat.zero_le _⟩ rfl hl.1 rfl (Nat.le_of_ble_eq_true rfl) dX5_passDaysUntilTogether_9 (fun H locs hw => ?_)
        refine lv_if_eq (tgt := 17) hx hb dX5_passDaysUntilTogether_12 (by decide) (fun c_4 => ?_) (fun c_4 => ?_)
        · rw [if_pos c_4] at hf
          refine lv_aload_n hx hb dX5_passDaysUntilTogether_17 rfl (lv_at hl 0 rfl) ?_
          obtain ⟨q_5, h_6, hf⟩ := nn_bind hf
          refine nn_callvV S (As := []) (rest := []) (ce_V (k := 0) (v := v) hn_v (by decide)) (by omega) rfl rfl (c_X5_passDay l D cy ad A (sV σ v x) v hn_v x (gsV _ _ _) q_5 h_6 (sV σ v q_5) (ssV σ v x q_5)) mv_X5_passDay tb_2_190 hK hw ⟨Nat.le_of_ble_eq_true rfl, Nat.le_of_ble_eq_true rfl⟩ ⟨Nat.zero_le _, Nat.zero_le _⟩ rfl hl.1 rfl (Nat.le_of_ble_eq_true rfl) dX5_passDaysUntilTogether_18 (fun H locs hw => ?_)
          refine lv_iinc (v := u1 + (1 : Int32)) (lv' := [(1, .int (u1 + (1 : Int32))), (0, .ref (ad (6*v)))]) hx hb dX5_passDaysUntilTogether_21 hl (k := 1) rfl (congrArg (fun z => u1 + z) (by decide)) (by decide) rfl (fun ls hl => ?_)
          refine lv_goto (tgt := 2) hx hb dX5_passDaysUntilTogether_24 (by decide) ?_
          exact ih q_5 (u1 + (1 : Int32)) K hKK hf _ _ _ hw (lv_sub hl [1, 0] rfl)
        · rw [if_neg c_4] at hf
          refine lv_iload_n hx hb dX5_passDaysUntilTogether_15 rfl (lv_at hl 1 rfl) ?_
          obtain rfl := Option.some.inj hf
          exact nn_iret S hr hlk hw rfl hσ dX5_passDaysUntilTogether_16
  refine lv_iconst (v := 0) hx hb dX5_passDaysUntilTogether_0 (by decide) ?_
  refine lv_istore_n (lv' := [(1, .int ((0 : Int32))), (0, .ref (ad (6*v)))]) hx hb dX5_passDaysUntilTogether_1 rfl hl (by decide) rfl (fun ls hl => ?_)
  refine L2 100000 x (0 : Int32) _ (fun x_8 b1_7 hf H locs ls hw hl => ?_) hf _ _ _ hw (lv_sub hl [1, 0] rfl)
  refine lv_bipush (v := 61) hx hb dX5_passDaysUntilTogether_27 (by decide) ?_
  obtain rfl := Option.some.inj hf
  exact nn_iret S hr hlk hw rfl hσ dX5_passDaysUntilTogether_29
