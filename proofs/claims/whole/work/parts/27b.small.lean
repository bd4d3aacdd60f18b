/-! the small constructors -/
def nw_X5 (cy : Nat → ClassId) (h0 : Nat) (u : Nat × Nat × Nat × Nat × Nat) : va_W := [(h0, .inr (5, [.ref u.1, .ref u.2.1, .ref u.2.2.1, .ref u.2.2.2.1, .ref u.2.2.2.2, .int 0, .int 0, .int 1])), (u.1, .inl (cy 0, 6, .inl (fun _ => 0))), (u.2.1, .inl (cy 0, 6, .inl (fun _ => 0))), (u.2.2.1, .inl (cy 0, 6, .inl (fun _ => 0))), (u.2.2.2.1, .inl (cy 0, 6, .inl (fun _ => 0))), (u.2.2.2.2, .inl (cy 0, 6, .inl (fun _ => 0)))]
set_option maxRecDepth 100000 in
set_option maxHeartbeats 4000000 in
theorem ci_X5 (l : Launch) (D : va_G) (cy : Nat → ClassId) (h0 : Nat) : ni_I l yX5_init cX5_init 1 1 5 30 D cy h0 (.inr (5, [.null, .null, .null, .null, .null, .int 0, .int 0, .int 0])) (nw_X5 cy h0) := by
  refine ni_enter (plainFor_of_name (by decide +kernel)) rfl (by decide) ?_
  intro pp ee ss mm bb me co S hr hlk hnm hK hA hw ls hl
  have hx := S.1
  have hb := S.2.1
  refine lv_aload_n hx hb dX5_init_0 rfl (lv_at hl 0 rfl) ?_
  refine ni_obj S tb_1_26 hl.1 dX5_init_1 (Nat.le_of_ble_eq_true rfl) (Nat.le_of_ble_eq_true rfl) ?_
  refine lv_aload_n hx hb dX5_init_4 rfl (lv_at hl 0 rfl) ?_
  refine lv_bipush (v := 6) hx hb dX5_init_5 (by decide) ?_
  refine ni_newI S hK.1 hA hw (N := 6) (by decide) (by decide) (Nat.le_of_ble_eq_true rfl) (Nat.le_of_ble_eq_true rfl) (Nat.le_of_ble_eq_true rfl) dX5_init_7 (fun q1 H hw => ?_)
  have hw : ni_W D (va_A [(h0, .inr (5, [.null, .null, .null, .null, .null, .int 0, .int 0, .int 0]))] ss.heap.size) ss.heap [(h0, .inr (5, [.null, .null, .null, .null, .null, .int 0, .int 0, .int 0])), (q1, .inl (cy 0, 6, .inl (fun _ => 0)))] H _ := hw
  refine ni_putF S hK.1 hw hnm rfl nnin5 tyX5 tyX5_ok nmX5 0 (by decide) tb_1_27 rfl rfl rfl rfl (Nat.le_of_ble_eq_true rfl) rfl dX5_init_9 (fun H locs hw => ?_)
  refine lv_aload_n hx hb dX5_init_12 rfl (lv_at hl 0 rfl) ?_
  refine lv_bipush (v := 6) hx hb dX5_init_13 (by decide) ?_
  refine ni_newI S hK.1 hA hw (N := 6) (by decide) (by decide) (Nat.le_of_ble_eq_true rfl) (Nat.le_of_ble_eq_true rfl) (Nat.le_of_ble_eq_true rfl) dX5_init_15 (fun q2 H hw => ?_)
  have hw : ni_W D (va_A [(h0, .inr (5, [.null, .null, .null, .null, .null, .int 0, .int 0, .int 0]))] ss.heap.size) ss.heap [(h0, .inr (5, [.ref q1, .null, .null, .null, .null, .int 0, .int 0, .int 0])), (q1, .inl (cy 0, 6, .inl (fun _ => 0))), (q2, .inl (cy 0, 6, .inl (fun _ => 0)))] H _ := hw
  refine ni_putF S hK.1 hw hnm rfl nnin5 tyX5 tyX5_ok nmX5 1 (by decide) tb_1_29 rfl rfl rfl rfl (Nat.le_of_ble_eq_true rfl) rfl dX5_init_17 (fun H locs hw => ?_)
  refine lv_aload_n hx hb dX5_init_20 rfl (lv_at hl 0 rfl) ?_
  refine lv_bipush (v := 6) hx hb dX5_init_21 (by decide) ?_
  refine ni_newI S hK.1 hA hw (N := 6) (by decide) (by decide) (Nat.le_of_ble_eq_true rfl) (Nat.le_of_ble_eq_true rfl) (Nat.le_of_ble_eq_true rfl) dX5_init_23 (fun q3 H hw => ?_)
  have hw : ni_W D (va_A [(h0, .inr (5, [.null, .null, .null, .null, .null, .int 0, .int 0, .int 0]))] ss.heap.size) ss.heap [(h0, .inr (5, [.ref q1, .ref q2, .null, .null, .null, .int 0, .int 0, .int 0])), (q1, .inl (cy 0, 6, .inl (fun _ => 0))), (q2, .inl (cy 0, 6, .inl (fun _ => 0))), (q3, .inl (cy 0, 6, .inl (fun _ => 0)))] H _ := hw
  refine ni_putF S hK.1 hw hnm rfl nnin5 tyX5 tyX5_ok nmX5 2 (by decide) tb_1_33 rfl rfl rfl rfl (Nat.le_of_ble_eq_true rfl) rfl dX5_init_25 (fun H locs hw => ?_)
  refine lv_aload_n hx hb dX5_init_28 rfl (lv_at hl 0 rfl) ?_
  refine lv_bipush (v := 6) hx hb dX5_init_29 (by decide) ?_
  refine ni_newI S hK.1 hA hw (N := 6) (by decide) (by decide) (Nat.le_of_ble_eq_true rfl) (Nat.le_of_ble_eq_true rfl) (Nat.le_of_ble_eq_true rfl) dX5_init_31 (fun q4 H hw => ?_)
  have hw : ni_W D (va_A [(h0, .inr (5, [.null, .null, .null, .null, .null, .int 0, .int 0, .int 0]))] ss.heap.size) ss.heap [(h0, .inr (5, [.ref q1, .ref q2, .ref q3, .null, .null, .int 0, .int 0, .int 0])), (q1, .inl (cy 0, 6, .inl (fun _ => 0))), (q2, .inl (cy 0, 6, .inl (fun _ => 0))), (q3, .inl (cy 0, 6, .inl (fun _ => 0))), (q4, .inl (cy 0, 6, .inl (fun _ => 0)))] H _ := hw
  refine ni_putF S hK.1 hw hnm rfl nnin5 tyX5 tyX5_ok nmX5 3 (by decide) tb_1_35 rfl rfl rfl rfl (Nat.le_of_ble_eq_true rfl) rfl dX5_init_33 (fun H locs hw => ?_)
  refine lv_aload_n hx hb dX5_init_36 rfl (lv_at hl 0 rfl) ?_
  refine lv_bipush (v := 6) hx hb dX5_init_37 (by decide) ?_
  refine ni_newI S hK.1 hA hw (N := 6) (by decide) (by decide) (Nat.le_of_ble_eq_true rfl) (Nat.le_of_ble_eq_true rfl) (Nat.le_of_ble_eq_true rfl) dX5_init_39 (fun q5 H hw => ?_)
  have hw : ni_W D (va_A [(h0, .inr (5, [.null, .null, .null, .null, .null, .int 0, .int 0, .int 0]))] ss.heap.size) ss.heap [(h0, .inr (5, [.ref q1, .ref q2, .ref q3, .ref q4, .null, .int 0, .int 0, .int 0])), (q1, .inl (cy 0, 6, .inl (fun _ => 0))), (q2, .inl (cy 0, 6, .inl (fun _ => 0))), (q3, .inl (cy 0, 6, .inl (fun _ => 0))), (q4, .inl (cy 0, 6, .inl (fun _ => 0))), (q5, .inl (cy 0, 6, .inl (fun _ => 0)))] H _ := hw
  refine ni_putF S hK.1 hw hnm rfl nnin5 tyX5 tyX5_ok nmX5 4 (by decide) tb_1_38 rfl rfl rfl rfl (Nat.le_of_ble_eq_true rfl) rfl dX5_init_41 (fun H locs hw => ?_)
  refine lv_aload_n hx hb dX5_init_44 rfl (lv_at hl 0 rfl) ?_
  refine lv_iconst (v := 0) hx hb dX5_init_45 (by decide) ?_
  refine ni_put S hK.1 hw rfl nnin5 tyX5 tyX5_ok nmX5 5 (by decide) tb_1_39 rfl rfl rfl (Nat.le_of_ble_eq_true rfl) rfl dX5_init_46 (fun H locs hw => ?_)
  refine lv_aload_n hx hb dX5_init_49 rfl (lv_at hl 0 rfl) ?_
  refine lv_iconst (v := 0) hx hb dX5_init_50 (by decide) ?_
  refine ni_put S hK.1 hw rfl nnin5 tyX5 tyX5_ok nmX5 6 (by decide) tb_1_43 rfl rfl rfl (Nat.le_of_ble_eq_true rfl) rfl dX5_init_51 (fun H locs hw => ?_)
  refine lv_aload_n hx hb dX5_init_54 rfl (lv_at hl 0 rfl) ?_
  refine lv_iconst (v := 1) hx hb dX5_init_55 (by decide) ?_
  refine ni_put S hK.1 hw rfl nnin5 tyX5 tyX5_ok nmX5 7 (by decide) tb_1_45 rfl rfl rfl (Nat.le_of_ble_eq_true rfl) rfl dX5_init_56 (fun H locs hw => ?_)
  refine W.widen (k := 5) (n := 30) (Nat.le_of_ble_eq_true rfl) (Nat.le_of_ble_eq_true rfl) ?_
  exact ni_ret (w := nw_X5 cy h0) S hr hlk (q1, q2, q3, q4, q5) hw dX5_init_59
theorem mi_X5 : ni_mI yX5_init cX5_init 1 := ⟨tb_1_24, tb_1_2, tb_1_25, ⟨by decide +kernel, by decide +kernel, by decide +kernel⟩, rfl⟩
def nw_X2 (cy : Nat → ClassId) (h0 : Nat) (u : Nat × Nat) : va_W := [(h0, .inr (2, [.ref u.1, .ref u.2, .int 13])), (u.1, .inl (cy 0, 6, .inl (fun _ => 0))), (u.2, .inl (cy 0, 6, .inl (fun _ => 0)))]
set_option maxRecDepth 100000 in
set_option maxHeartbeats 4000000 in
theorem ci_X2 (l : Launch) (D : va_G) (cy : Nat → ClassId) (h0 : Nat) : ni_I l yX2_init cX2_init 1 1 2 12 D cy h0 (.inr (2, [.null, .null, .int 0])) (nw_X2 cy h0) := by
  refine ni_enter (plainFor_of_name (by decide +kernel)) rfl (by decide) ?_
  intro pp ee ss mm bb me co S hr hlk hnm hK hA hw ls hl
  have hx := S.1
  have hb := S.2.1
  refine lv_aload_n hx hb dX2_init_0 rfl (lv_at hl 0 rfl) ?_
  refine ni_obj S tb_1_90 hl.1 dX2_init_1 (Nat.le_of_ble_eq_true rfl) (Nat.le_of_ble_eq_true rfl) ?_
  refine lv_aload_n hx hb dX2_init_4 rfl (lv_at hl 0 rfl) ?_
  refine lv_bipush (v := 6) hx hb dX2_init_5 (by decide) ?_
  refine ni_newI S hK.1 hA hw (N := 6) (by decide) (by decide) (Nat.le_of_ble_eq_true rfl) (Nat.le_of_ble_eq_true rfl) (Nat.le_of_ble_eq_true rfl) dX2_init_7 (fun q1 H hw => ?_)
  have hw : ni_W D (va_A [(h0, .inr (2, [.null, .null, .int 0]))] ss.heap.size) ss.heap [(h0, .inr (2, [.null, .null, .int 0])), (q1, .inl (cy 0, 6, .inl (fun _ => 0)))] H _ := hw
  refine ni_putF S hK.1 hw hnm rfl nnin2 tyX2 tyX2_ok nmX2 0 (by decide) tb_1_91 rfl rfl rfl rfl (Nat.le_of_ble_eq_true rfl) rfl dX2_init_9 (fun H locs hw => ?_)
  refine lv_aload_n hx hb dX2_init_12 rfl (lv_at hl 0 rfl) ?_
  refine lv_bipush (v := 6) hx hb dX2_init_13 (by decide) ?_
  refine ni_newI S hK.1 hA hw (N := 6) (by decide) (by decide) (Nat.le_of_ble_eq_true rfl) (Nat.le_of_ble_eq_true rfl) (Nat.le_of_ble_eq_true rfl) dX2_init_15 (fun q2 H hw => ?_)
  have hw : ni_W D (va_A [(h0, .inr (2, [.null, .null, .int 0]))] ss.heap.size) ss.heap [(h0, .inr (2, [.ref q1, .null, .int 0])), (q1, .inl (cy 0, 6, .inl (fun _ => 0))), (q2, .inl (cy 0, 6, .inl (fun _ => 0)))] H _ := hw
  refine ni_putF S hK.1 hw hnm rfl nnin2 tyX2 tyX2_ok nmX2 1 (by decide) tb_1_92 rfl rfl rfl rfl (Nat.le_of_ble_eq_true rfl) rfl dX2_init_17 (fun H locs hw => ?_)
  refine lv_aload_n hx hb dX2_init_20 rfl (lv_at hl 0 rfl) ?_
  refine lv_bipush (v := 13) hx hb dX2_init_21 (by decide) ?_
  refine ni_put S hK.1 hw rfl nnin2 tyX2 tyX2_ok nmX2 2 (by decide) tb_1_94 rfl rfl rfl (Nat.le_of_ble_eq_true rfl) rfl dX2_init_23 (fun H locs hw => ?_)
  refine W.widen (k := 2) (n := 12) (Nat.le_of_ble_eq_true rfl) (Nat.le_of_ble_eq_true rfl) ?_
  exact ni_ret (w := nw_X2 cy h0) S hr hlk (q1, q2) hw dX2_init_26
theorem mi_X2 : ni_mI yX2_init cX2_init 1 := ⟨tb_1_88, tb_1_4, tb_1_89, ⟨by decide +kernel, by decide +kernel, by decide +kernel⟩, rfl⟩
def nw_X0 (cy : Nat → ClassId) (h0 : Nat) (u : Nat × Nat) : va_W := [(h0, .inr (0, [.ref u.1, .ref u.2, .int 1000000, .int 1])), (u.1, .inl (cy 0, 6, .inl (fun _ => 0))), (u.2, .inl (cy 0, 6, .inl (fun _ => 0)))]
set_option maxRecDepth 100000 in
set_option maxHeartbeats 4000000 in
theorem ci_X0 (l : Launch) (D : va_G) (cy : Nat → ClassId) (h0 : Nat) : ni_I l yX0_init cX0_init 1 1 2 12 D cy h0 (.inr (0, [.null, .null, .int 0, .int 0])) (nw_X0 cy h0) := by
  refine ni_enter (plainFor_of_name (by decide +kernel)) rfl (by decide) ?_
  intro pp ee ss mm bb me co S hr hlk hnm hK hA hw ls hl
  have hx := S.1
  have hb := S.2.1
  refine lv_aload_n hx hb dX0_init_0 rfl (lv_at hl 0 rfl) ?_
  refine ni_obj S tb_1_107 hl.1 dX0_init_1 (Nat.le_of_ble_eq_true rfl) (Nat.le_of_ble_eq_true rfl) ?_
  refine lv_aload_n hx hb dX0_init_4 rfl (lv_at hl 0 rfl) ?_
  refine lv_bipush (v := 6) hx hb dX0_init_5 (by decide) ?_
  refine ni_newI S hK.1 hA hw (N := 6) (by decide) (by decide) (Nat.le_of_ble_eq_true rfl) (Nat.le_of_ble_eq_true rfl) (Nat.le_of_ble_eq_true rfl) dX0_init_7 (fun q1 H hw => ?_)
  have hw : ni_W D (va_A [(h0, .inr (0, [.null, .null, .int 0, .int 0]))] ss.heap.size) ss.heap [(h0, .inr (0, [.null, .null, .int 0, .int 0])), (q1, .inl (cy 0, 6, .inl (fun _ => 0)))] H _ := hw
  refine ni_putF S hK.1 hw hnm rfl nnin0 tyX0 tyX0_ok nmX0 0 (by decide) tb_1_109 rfl rfl rfl rfl (Nat.le_of_ble_eq_true rfl) rfl dX0_init_9 (fun H locs hw => ?_)
  refine lv_aload_n hx hb dX0_init_12 rfl (lv_at hl 0 rfl) ?_
  refine lv_bipush (v := 6) hx hb dX0_init_13 (by decide) ?_
  refine ni_newI S hK.1 hA hw (N := 6) (by decide) (by decide) (Nat.le_of_ble_eq_true rfl) (Nat.le_of_ble_eq_true rfl) (Nat.le_of_ble_eq_true rfl) dX0_init_15 (fun q2 H hw => ?_)
  have hw : ni_W D (va_A [(h0, .inr (0, [.null, .null, .int 0, .int 0]))] ss.heap.size) ss.heap [(h0, .inr (0, [.ref q1, .null, .int 0, .int 0])), (q1, .inl (cy 0, 6, .inl (fun _ => 0))), (q2, .inl (cy 0, 6, .inl (fun _ => 0)))] H _ := hw
  refine ni_putF S hK.1 hw hnm rfl nnin0 tyX0 tyX0_ok nmX0 1 (by decide) tb_1_110 rfl rfl rfl rfl (Nat.le_of_ble_eq_true rfl) rfl dX0_init_17 (fun H locs hw => ?_)
  refine lv_aload_n hx hb dX0_init_20 rfl (lv_at hl 0 rfl) ?_
  refine lv_ldc (v := 1000000) hx hb S.2.2.2.1 (S.2.2.2.2 _ tb_1_108) dX0_init_21 ?_
  refine ni_put S hK.1 hw rfl nnin0 tyX0 tyX0_ok nmX0 2 (by decide) tb_1_112 rfl rfl rfl (Nat.le_of_ble_eq_true rfl) rfl dX0_init_23 (fun H locs hw => ?_)
  refine lv_aload_n hx hb dX0_init_26 rfl (lv_at hl 0 rfl) ?_
  refine lv_iconst (v := 1) hx hb dX0_init_27 (by decide) ?_
  refine ni_put S hK.1 hw rfl nnin0 tyX0 tyX0_ok nmX0 3 (by decide) tb_1_113 rfl rfl rfl (Nat.le_of_ble_eq_true rfl) rfl dX0_init_28 (fun H locs hw => ?_)
  refine W.widen (k := 2) (n := 12) (Nat.le_of_ble_eq_true rfl) (Nat.le_of_ble_eq_true rfl) ?_
  exact ni_ret (w := nw_X0 cy h0) S hr hlk (q1, q2) hw dX0_init_31
theorem mi_X0 : ni_mI yX0_init cX0_init 1 := ⟨tb_1_105, tb_1_5, tb_1_106, ⟨by decide +kernel, by decide +kernel, by decide +kernel⟩, rfl⟩
def nw_X4 (cy : Nat → ClassId) (h0 : Nat) (u : Nat) : va_W := [(h0, .inr (4, [.ref u, .int 0, .int 0, .int 0])), (u, .inl (cy 1, 60, .inl (fun _ => 0)))]
set_option maxRecDepth 100000 in
set_option maxHeartbeats 4000000 in
theorem ci_X4 (l : Launch) (D : va_G) (cy : Nat → ClassId) (h0 : Nat) : ni_I l yX4_init cX4_init 1 1 1 60 D cy h0 (.inr (4, [.null, .int 0, .int 0, .int 0])) (nw_X4 cy h0) := by
  refine ni_enter (plainFor_of_name (by decide +kernel)) rfl (by decide) ?_
  intro pp ee ss mm bb me co S hr hlk hnm hK hA hw ls hl
  have hx := S.1
  have hb := S.2.1
  refine lv_aload_n hx hb dX4_init_0 rfl (lv_at hl 0 rfl) ?_
  refine ni_obj S tb_1_128 hl.1 dX4_init_1 (Nat.le_of_ble_eq_true rfl) (Nat.le_of_ble_eq_true rfl) ?_
  refine lv_aload_n hx hb dX4_init_4 rfl (lv_at hl 0 rfl) ?_
  refine lv_bipush (v := 60) hx hb dX4_init_5 (by decide) ?_
  refine ni_newC S hK.1 hA hw (N := 60) (by decide) (by decide) (Nat.le_of_ble_eq_true rfl) (Nat.le_of_ble_eq_true rfl) (Nat.le_of_ble_eq_true rfl) dX4_init_7 (fun q1 H hw => ?_)
  have hw : ni_W D (va_A [(h0, .inr (4, [.null, .int 0, .int 0, .int 0]))] ss.heap.size) ss.heap [(h0, .inr (4, [.null, .int 0, .int 0, .int 0])), (q1, .inl (cy 1, 60, .inl (fun _ => 0)))] H _ := hw
  refine ni_putF S hK.1 hw hnm rfl nnin4 tyX4 tyX4_ok nmX4 0 (by decide) tb_1_129 rfl rfl rfl rfl (Nat.le_of_ble_eq_true rfl) rfl dX4_init_9 (fun H locs hw => ?_)
  refine lv_aload_n hx hb dX4_init_12 rfl (lv_at hl 0 rfl) ?_
  refine lv_iconst (v := 0) hx hb dX4_init_13 (by decide) ?_
  refine ni_put S hK.1 hw rfl nnin4 tyX4 tyX4_ok nmX4 1 (by decide) tb_1_130 rfl rfl rfl (Nat.le_of_ble_eq_true rfl) rfl dX4_init_14 (fun H locs hw => ?_)
  refine lv_aload_n hx hb dX4_init_17 rfl (lv_at hl 0 rfl) ?_
  refine lv_iconst (v := 0) hx hb dX4_init_18 (by decide) ?_
  refine ni_put S hK.1 hw rfl nnin4 tyX4 tyX4_ok nmX4 2 (by decide) tb_1_132 rfl rfl rfl (Nat.le_of_ble_eq_true rfl) rfl dX4_init_19 (fun H locs hw => ?_)
  refine lv_aload_n hx hb dX4_init_22 rfl (lv_at hl 0 rfl) ?_
  refine lv_iconst (v := 0) hx hb dX4_init_23 (by decide) ?_
  refine ni_put S hK.1 hw rfl nnin4 tyX4 tyX4_ok nmX4 3 (by decide) tb_1_133 rfl rfl rfl (Nat.le_of_ble_eq_true rfl) rfl dX4_init_24 (fun H locs hw => ?_)
  refine W.widen (k := 1) (n := 60) (Nat.le_of_ble_eq_true rfl) (Nat.le_of_ble_eq_true rfl) ?_
  exact ni_ret (w := nw_X4 cy h0) S hr hlk q1 hw dX4_init_27
theorem mi_X4 : ni_mI yX4_init cX4_init 1 := ⟨tb_1_126, tb_1_6, tb_1_127, ⟨by decide +kernel, by decide +kernel, by decide +kernel⟩, rfl⟩
def nw_X3 (cy : Nat → ClassId) (h0 : Nat) (u : Nat) : va_W := [(h0, .inr (3, [.ref u, .int (-1), .int 0])), (u, .inl (cy 2, 24, .inr (.inl (fun _ => 0))))]
set_option maxRecDepth 100000 in
set_option maxHeartbeats 4000000 in
theorem ci_X3 (l : Launch) (D : va_G) (cy : Nat → ClassId) (h0 : Nat) : ni_I l yX3_init cX3_init 1 1 1 24 D cy h0 (.inr (3, [.null, .int 0, .int 0])) (nw_X3 cy h0) := by
  refine ni_enter (plainFor_of_name (by decide +kernel)) rfl (by decide) ?_
  intro pp ee ss mm bb me co S hr hlk hnm hK hA hw ls hl
  have hx := S.1
  have hb := S.2.1
  refine lv_aload_n hx hb dX3_init_0 rfl (lv_at hl 0 rfl) ?_
  refine ni_obj S tb_1_150 hl.1 dX3_init_1 (Nat.le_of_ble_eq_true rfl) (Nat.le_of_ble_eq_true rfl) ?_
  refine lv_aload_n hx hb dX3_init_4 rfl (lv_at hl 0 rfl) ?_
  refine lv_bipush (v := 24) hx hb dX3_init_5 (by decide) ?_
  refine ni_newL S hK.1 hA hw (N := 24) (by decide) (by decide) (Nat.le_of_ble_eq_true rfl) (Nat.le_of_ble_eq_true rfl) (Nat.le_of_ble_eq_true rfl) dX3_init_7 (fun q1 H hw => ?_)
  have hw : ni_W D (va_A [(h0, .inr (3, [.null, .int 0, .int 0]))] ss.heap.size) ss.heap [(h0, .inr (3, [.null, .int 0, .int 0])), (q1, .inl (cy 2, 24, .inr (.inl (fun _ => 0))))] H _ := hw
  refine ni_putF S hK.1 hw hnm rfl nnin3 tyX3 tyX3_ok nmX3 0 (by decide) tb_1_151 rfl rfl rfl rfl (Nat.le_of_ble_eq_true rfl) rfl dX3_init_9 (fun H locs hw => ?_)
  refine lv_aload_n hx hb dX3_init_12 rfl (lv_at hl 0 rfl) ?_
  refine lv_iconst (v := -1) hx hb dX3_init_13 (by decide) ?_
  refine ni_put S hK.1 hw rfl nnin3 tyX3 tyX3_ok nmX3 1 (by decide) tb_1_153 rfl rfl rfl (Nat.le_of_ble_eq_true rfl) rfl dX3_init_14 (fun H locs hw => ?_)
  refine lv_aload_n hx hb dX3_init_17 rfl (lv_at hl 0 rfl) ?_
  refine lv_iconst (v := 0) hx hb dX3_init_18 (by decide) ?_
  refine ni_put S hK.1 hw rfl nnin3 tyX3 tyX3_ok nmX3 2 (by decide) tb_1_155 rfl rfl rfl (Nat.le_of_ble_eq_true rfl) rfl dX3_init_19 (fun H locs hw => ?_)
  refine W.widen (k := 1) (n := 24) (Nat.le_of_ble_eq_true rfl) (Nat.le_of_ble_eq_true rfl) ?_
  exact ni_ret (w := nw_X3 cy h0) S hr hlk q1 hw dX3_init_22
theorem mi_X3 : ni_mI yX3_init cX3_init 1 := ⟨tb_1_148, tb_1_7, tb_1_149, ⟨by decide +kernel, by decide +kernel, by decide +kernel⟩, rfl⟩
