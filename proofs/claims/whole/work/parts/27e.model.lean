/-! the reference is made -/
def nw_X7 (cy : Nat → ClassId) (h0 : Nat) (u : Nat × Nat × Nat × Nat × Nat × Nat × Nat × Nat × Nat × Nat × Nat × Nat × Nat × Nat) : va_W := [(h0, .inr (7, [.ref u.1, .ref u.2.1, .ref u.2.2.1, .int 0, .int 0, .int 0, .ref u.2.2.2.1, .ref u.2.2.2.2.1, .int 0, .ref u.2.2.2.2.2.1, .int 0, .ref u.2.2.2.2.2.2.1, .ref u.2.2.2.2.2.2.2.1, .ref u.2.2.2.2.2.2.2.2.1, .ref u.2.2.2.2.2.2.2.2.2.1, .int 0, .int 0, .ref u.2.2.2.2.2.2.2.2.2.2.1, .ref u.2.2.2.2.2.2.2.2.2.2.2.1, .ref u.2.2.2.2.2.2.2.2.2.2.2.2.1, .ref u.2.2.2.2.2.2.2.2.2.2.2.2.2])), (u.1, .inl (cy 0, 27, .inl (upd (fun _ => 0) 2 1))), (u.2.1, .inl (cy 0, 6, .inl (fun _ => 0))), (u.2.2.1, .inl (cy 0, 60, .inl (fun _ => 0))), (u.2.2.2.1, .inl (cy 0, 24, .inl (fun _ => 0))), (u.2.2.2.2.1, .inl (cy 0, 216, .inl (fun _ => 0))), (u.2.2.2.2.2.1, .inl (cy 0, 27, .inl (fun _ => 0))), (u.2.2.2.2.2.2.1, .inl (cy 0, 6, .inl (fun _ => 0))), (u.2.2.2.2.2.2.2.1, .inl (cy 0, 6, .inl (fun _ => 0))), (u.2.2.2.2.2.2.2.2.1, .inl (cy 0, 6, .inl (fun _ => 0))), (u.2.2.2.2.2.2.2.2.2.1, .inl (cy 0, 243, .inl (fun _ => 0))), (u.2.2.2.2.2.2.2.2.2.2.1, .inl (cy 0, 4, .inl (fun j => if j < 4 then -1 else 0))), (u.2.2.2.2.2.2.2.2.2.2.2.1, .inl (cy 0, 4, .inl (fun _ => 0))), (u.2.2.2.2.2.2.2.2.2.2.2.2.1, .inl (cy 2, 96, .inr (.inl (fun _ => 0)))), (u.2.2.2.2.2.2.2.2.2.2.2.2.2, .inl (cy 2, 24, .inr (.inl (fun _ => 0))))]
def nw_ln (k : Nat) : Nat → Int32 := fun j => if j < k then -1 else 0
theorem nw_lns (k : Nat) : upd (nw_ln k) k (-1) = nw_ln (k + 1) := by
  funext j
  unfold upd nw_ln
  by_cases h : j = k
  · rw [if_pos h, if_pos (by omega)]
  · rw [if_neg h]
    by_cases h2 : j < k
    · rw [if_pos h2, if_pos (by omega)]
    · rw [if_neg h2, if_neg (by omega)]
set_option maxRecDepth 100000 in
set_option maxHeartbeats 4000000 in
theorem ci_X7 (l : Launch) (D : va_G) (cy : Nat → ClassId) (h0 : Nat) : ni_I l yX7_init cX7_init 2 1 14 749 D cy h0 (.inr (7, [.null, .null, .null, .int 0, .int 0, .int 0, .null, .null, .int 0, .null, .int 0, .null, .null, .null, .null, .int 0, .int 0, .null, .null, .null, .null])) (nw_X7 cy h0) := by
  refine ni_enter (plainFor_of_name (by decide +kernel)) rfl (by decide) ?_
  intro pp ee ss mm bb me co S hr hlk hnm hK hA hw ls hl
  have hx := S.1
  have hb := S.2.1
  refine lv_aload_n hx hb dX7_init_0 rfl (lv_at hl 0 rfl) ?_
  refine ni_obj S tb_3_144 hl.1 dX7_init_1 (Nat.le_of_ble_eq_true rfl) (Nat.le_of_ble_eq_true rfl) ?_
  refine lv_aload_n hx hb dX7_init_4 rfl (lv_at hl 0 rfl) ?_
  refine lv_bipush (v := 27) hx hb dX7_init_5 (by decide) ?_
  refine ni_newI S hK.1 hA hw (N := 27) (by decide) (by decide) (Nat.le_of_ble_eq_true rfl) (Nat.le_of_ble_eq_true rfl) (Nat.le_of_ble_eq_true rfl) dX7_init_7 (fun q1 H hw => ?_)
  have hw : ni_W D (va_A [(h0, .inr (7, [.null, .null, .null, .int 0, .int 0, .int 0, .null, .null, .int 0, .null, .int 0, .null, .null, .null, .null, .int 0, .int 0, .null, .null, .null, .null]))] ss.heap.size) ss.heap [(h0, .inr (7, [.null, .null, .null, .int 0, .int 0, .int 0, .null, .null, .int 0, .null, .int 0, .null, .null, .null, .null, .int 0, .int 0, .null, .null, .null, .null])), (q1, .inl (cy 0, 27, .inl (fun _ => 0)))] H _ := hw
  refine ni_putF S hK.1 hw hnm rfl nnin7 tyX7 tyX7_ok nmX7 0 (by decide) tb_3_145 rfl rfl rfl rfl (Nat.le_of_ble_eq_true rfl) rfl dX7_init_9 (fun H locs hw => ?_)
  refine lv_aload_n hx hb dX7_init_12 rfl (lv_at hl 0 rfl) ?_
  refine lv_bipush (v := 6) hx hb dX7_init_13 (by decide) ?_
  refine ni_newI S hK.1 hA hw (N := 6) (by decide) (by decide) (Nat.le_of_ble_eq_true rfl) (Nat.le_of_ble_eq_true rfl) (Nat.le_of_ble_eq_true rfl) dX7_init_15 (fun q2 H hw => ?_)
  have hw : ni_W D (va_A [(h0, .inr (7, [.null, .null, .null, .int 0, .int 0, .int 0, .null, .null, .int 0, .null, .int 0, .null, .null, .null, .null, .int 0, .int 0, .null, .null, .null, .null]))] ss.heap.size) ss.heap [(h0, .inr (7, [.ref q1, .null, .null, .int 0, .int 0, .int 0, .null, .null, .int 0, .null, .int 0, .null, .null, .null, .null, .int 0, .int 0, .null, .null, .null, .null])), (q1, .inl (cy 0, 27, .inl (fun _ => 0))), (q2, .inl (cy 0, 6, .inl (fun _ => 0)))] H _ := hw
  refine ni_putF S hK.1 hw hnm rfl nnin7 tyX7 tyX7_ok nmX7 1 (by decide) tb_3_146 rfl rfl rfl rfl (Nat.le_of_ble_eq_true rfl) rfl dX7_init_17 (fun H locs hw => ?_)
  refine lv_aload_n hx hb dX7_init_20 rfl (lv_at hl 0 rfl) ?_
  refine lv_bipush (v := 60) hx hb dX7_init_21 (by decide) ?_
  refine ni_newI S hK.1 hA hw (N := 60) (by decide) (by decide) (Nat.le_of_ble_eq_true rfl) (Nat.le_of_ble_eq_true rfl) (Nat.le_of_ble_eq_true rfl) dX7_init_23 (fun q3 H hw => ?_)
  have hw : ni_W D (va_A [(h0, .inr (7, [.null, .null, .null, .int 0, .int 0, .int 0, .null, .null, .int 0, .null, .int 0, .null, .null, .null, .null, .int 0, .int 0, .null, .null, .null, .null]))] ss.heap.size) ss.heap [(h0, .inr (7, [.ref q1, .ref q2, .null, .int 0, .int 0, .int 0, .null, .null, .int 0, .null, .int 0, .null, .null, .null, .null, .int 0, .int 0, .null, .null, .null, .null])), (q1, .inl (cy 0, 27, .inl (fun _ => 0))), (q2, .inl (cy 0, 6, .inl (fun _ => 0))), (q3, .inl (cy 0, 60, .inl (fun _ => 0)))] H _ := hw
  refine ni_putF S hK.1 hw hnm rfl nnin7 tyX7 tyX7_ok nmX7 2 (by decide) tb_3_147 rfl rfl rfl rfl (Nat.le_of_ble_eq_true rfl) rfl dX7_init_25 (fun H locs hw => ?_)
  refine lv_aload_n hx hb dX7_init_28 rfl (lv_at hl 0 rfl) ?_
  refine lv_bipush (v := 24) hx hb dX7_init_29 (by decide) ?_
  refine ni_newI S hK.1 hA hw (N := 24) (by decide) (by decide) (Nat.le_of_ble_eq_true rfl) (Nat.le_of_ble_eq_true rfl) (Nat.le_of_ble_eq_true rfl) dX7_init_31 (fun q4 H hw => ?_)
  have hw : ni_W D (va_A [(h0, .inr (7, [.null, .null, .null, .int 0, .int 0, .int 0, .null, .null, .int 0, .null, .int 0, .null, .null, .null, .null, .int 0, .int 0, .null, .null, .null, .null]))] ss.heap.size) ss.heap [(h0, .inr (7, [.ref q1, .ref q2, .ref q3, .int 0, .int 0, .int 0, .null, .null, .int 0, .null, .int 0, .null, .null, .null, .null, .int 0, .int 0, .null, .null, .null, .null])), (q1, .inl (cy 0, 27, .inl (fun _ => 0))), (q2, .inl (cy 0, 6, .inl (fun _ => 0))), (q3, .inl (cy 0, 60, .inl (fun _ => 0))), (q4, .inl (cy 0, 24, .inl (fun _ => 0)))] H _ := hw
  refine ni_putF S hK.1 hw hnm rfl nnin7 tyX7 tyX7_ok nmX7 6 (by decide) tb_3_151 rfl rfl rfl rfl (Nat.le_of_ble_eq_true rfl) rfl dX7_init_33 (fun H locs hw => ?_)
  refine lv_aload_n hx hb dX7_init_36 rfl (lv_at hl 0 rfl) ?_
  refine lv_sipush (v := 216) hx hb dX7_init_37 (by decide) ?_
  refine ni_newI S hK.1 hA hw (N := 216) (by decide) (by decide) (Nat.le_of_ble_eq_true rfl) (Nat.le_of_ble_eq_true rfl) (Nat.le_of_ble_eq_true rfl) dX7_init_40 (fun q5 H hw => ?_)
  have hw : ni_W D (va_A [(h0, .inr (7, [.null, .null, .null, .int 0, .int 0, .int 0, .null, .null, .int 0, .null, .int 0, .null, .null, .null, .null, .int 0, .int 0, .null, .null, .null, .null]))] ss.heap.size) ss.heap [(h0, .inr (7, [.ref q1, .ref q2, .ref q3, .int 0, .int 0, .int 0, .ref q4, .null, .int 0, .null, .int 0, .null, .null, .null, .null, .int 0, .int 0, .null, .null, .null, .null])), (q1, .inl (cy 0, 27, .inl (fun _ => 0))), (q2, .inl (cy 0, 6, .inl (fun _ => 0))), (q3, .inl (cy 0, 60, .inl (fun _ => 0))), (q4, .inl (cy 0, 24, .inl (fun _ => 0))), (q5, .inl (cy 0, 216, .inl (fun _ => 0)))] H _ := hw
  refine ni_putF S hK.1 hw hnm rfl nnin7 tyX7 tyX7_ok nmX7 7 (by decide) tb_3_152 rfl rfl rfl rfl (Nat.le_of_ble_eq_true rfl) rfl dX7_init_42 (fun H locs hw => ?_)
  refine lv_aload_n hx hb dX7_init_45 rfl (lv_at hl 0 rfl) ?_
  refine lv_bipush (v := 27) hx hb dX7_init_46 (by decide) ?_
  refine ni_newI S hK.1 hA hw (N := 27) (by decide) (by decide) (Nat.le_of_ble_eq_true rfl) (Nat.le_of_ble_eq_true rfl) (Nat.le_of_ble_eq_true rfl) dX7_init_48 (fun q6 H hw => ?_)
  have hw : ni_W D (va_A [(h0, .inr (7, [.null, .null, .null, .int 0, .int 0, .int 0, .null, .null, .int 0, .null, .int 0, .null, .null, .null, .null, .int 0, .int 0, .null, .null, .null, .null]))] ss.heap.size) ss.heap [(h0, .inr (7, [.ref q1, .ref q2, .ref q3, .int 0, .int 0, .int 0, .ref q4, .ref q5, .int 0, .null, .int 0, .null, .null, .null, .null, .int 0, .int 0, .null, .null, .null, .null])), (q1, .inl (cy 0, 27, .inl (fun _ => 0))), (q2, .inl (cy 0, 6, .inl (fun _ => 0))), (q3, .inl (cy 0, 60, .inl (fun _ => 0))), (q4, .inl (cy 0, 24, .inl (fun _ => 0))), (q5, .inl (cy 0, 216, .inl (fun _ => 0))), (q6, .inl (cy 0, 27, .inl (fun _ => 0)))] H _ := hw
  refine ni_putF S hK.1 hw hnm rfl nnin7 tyX7 tyX7_ok nmX7 9 (by decide) tb_3_154 rfl rfl rfl rfl (Nat.le_of_ble_eq_true rfl) rfl dX7_init_50 (fun H locs hw => ?_)
  refine lv_aload_n hx hb dX7_init_53 rfl (lv_at hl 0 rfl) ?_
  refine lv_bipush (v := 6) hx hb dX7_init_54 (by decide) ?_
  refine ni_newI S hK.1 hA hw (N := 6) (by decide) (by decide) (Nat.le_of_ble_eq_true rfl) (Nat.le_of_ble_eq_true rfl) (Nat.le_of_ble_eq_true rfl) dX7_init_56 (fun q7 H hw => ?_)
  have hw : ni_W D (va_A [(h0, .inr (7, [.null, .null, .null, .int 0, .int 0, .int 0, .null, .null, .int 0, .null, .int 0, .null, .null, .null, .null, .int 0, .int 0, .null, .null, .null, .null]))] ss.heap.size) ss.heap [(h0, .inr (7, [.ref q1, .ref q2, .ref q3, .int 0, .int 0, .int 0, .ref q4, .ref q5, .int 0, .ref q6, .int 0, .null, .null, .null, .null, .int 0, .int 0, .null, .null, .null, .null])), (q1, .inl (cy 0, 27, .inl (fun _ => 0))), (q2, .inl (cy 0, 6, .inl (fun _ => 0))), (q3, .inl (cy 0, 60, .inl (fun _ => 0))), (q4, .inl (cy 0, 24, .inl (fun _ => 0))), (q5, .inl (cy 0, 216, .inl (fun _ => 0))), (q6, .inl (cy 0, 27, .inl (fun _ => 0))), (q7, .inl (cy 0, 6, .inl (fun _ => 0)))] H _ := hw
  refine ni_putF S hK.1 hw hnm rfl nnin7 tyX7 tyX7_ok nmX7 11 (by decide) tb_3_156 rfl rfl rfl rfl (Nat.le_of_ble_eq_true rfl) rfl dX7_init_58 (fun H locs hw => ?_)
  refine lv_aload_n hx hb dX7_init_61 rfl (lv_at hl 0 rfl) ?_
  refine lv_bipush (v := 6) hx hb dX7_init_62 (by decide) ?_
  refine ni_newI S hK.1 hA hw (N := 6) (by decide) (by decide) (Nat.le_of_ble_eq_true rfl) (Nat.le_of_ble_eq_true rfl) (Nat.le_of_ble_eq_true rfl) dX7_init_64 (fun q8 H hw => ?_)
  have hw : ni_W D (va_A [(h0, .inr (7, [.null, .null, .null, .int 0, .int 0, .int 0, .null, .null, .int 0, .null, .int 0, .null, .null, .null, .null, .int 0, .int 0, .null, .null, .null, .null]))] ss.heap.size) ss.heap [(h0, .inr (7, [.ref q1, .ref q2, .ref q3, .int 0, .int 0, .int 0, .ref q4, .ref q5, .int 0, .ref q6, .int 0, .ref q7, .null, .null, .null, .int 0, .int 0, .null, .null, .null, .null])), (q1, .inl (cy 0, 27, .inl (fun _ => 0))), (q2, .inl (cy 0, 6, .inl (fun _ => 0))), (q3, .inl (cy 0, 60, .inl (fun _ => 0))), (q4, .inl (cy 0, 24, .inl (fun _ => 0))), (q5, .inl (cy 0, 216, .inl (fun _ => 0))), (q6, .inl (cy 0, 27, .inl (fun _ => 0))), (q7, .inl (cy 0, 6, .inl (fun _ => 0))), (q8, .inl (cy 0, 6, .inl (fun _ => 0)))] H _ := hw
  refine ni_putF S hK.1 hw hnm rfl nnin7 tyX7 tyX7_ok nmX7 12 (by decide) tb_3_157 rfl rfl rfl rfl (Nat.le_of_ble_eq_true rfl) rfl dX7_init_66 (fun H locs hw => ?_)
  refine lv_aload_n hx hb dX7_init_69 rfl (lv_at hl 0 rfl) ?_
  refine lv_bipush (v := 6) hx hb dX7_init_70 (by decide) ?_
  refine ni_newI S hK.1 hA hw (N := 6) (by decide) (by decide) (Nat.le_of_ble_eq_true rfl) (Nat.le_of_ble_eq_true rfl) (Nat.le_of_ble_eq_true rfl) dX7_init_72 (fun q9 H hw => ?_)
  have hw : ni_W D (va_A [(h0, .inr (7, [.null, .null, .null, .int 0, .int 0, .int 0, .null, .null, .int 0, .null, .int 0, .null, .null, .null, .null, .int 0, .int 0, .null, .null, .null, .null]))] ss.heap.size) ss.heap [(h0, .inr (7, [.ref q1, .ref q2, .ref q3, .int 0, .int 0, .int 0, .ref q4, .ref q5, .int 0, .ref q6, .int 0, .ref q7, .ref q8, .null, .null, .int 0, .int 0, .null, .null, .null, .null])), (q1, .inl (cy 0, 27, .inl (fun _ => 0))), (q2, .inl (cy 0, 6, .inl (fun _ => 0))), (q3, .inl (cy 0, 60, .inl (fun _ => 0))), (q4, .inl (cy 0, 24, .inl (fun _ => 0))), (q5, .inl (cy 0, 216, .inl (fun _ => 0))), (q6, .inl (cy 0, 27, .inl (fun _ => 0))), (q7, .inl (cy 0, 6, .inl (fun _ => 0))), (q8, .inl (cy 0, 6, .inl (fun _ => 0))), (q9, .inl (cy 0, 6, .inl (fun _ => 0)))] H _ := hw
  refine ni_putF S hK.1 hw hnm rfl nnin7 tyX7 tyX7_ok nmX7 13 (by decide) tb_3_158 rfl rfl rfl rfl (Nat.le_of_ble_eq_true rfl) rfl dX7_init_74 (fun H locs hw => ?_)
  refine lv_aload_n hx hb dX7_init_77 rfl (lv_at hl 0 rfl) ?_
  refine lv_sipush (v := 243) hx hb dX7_init_78 (by decide) ?_
  refine ni_newI S hK.1 hA hw (N := 243) (by decide) (by decide) (Nat.le_of_ble_eq_true rfl) (Nat.le_of_ble_eq_true rfl) (Nat.le_of_ble_eq_true rfl) dX7_init_81 (fun q10 H hw => ?_)
  have hw : ni_W D (va_A [(h0, .inr (7, [.null, .null, .null, .int 0, .int 0, .int 0, .null, .null, .int 0, .null, .int 0, .null, .null, .null, .null, .int 0, .int 0, .null, .null, .null, .null]))] ss.heap.size) ss.heap [(h0, .inr (7, [.ref q1, .ref q2, .ref q3, .int 0, .int 0, .int 0, .ref q4, .ref q5, .int 0, .ref q6, .int 0, .ref q7, .ref q8, .ref q9, .null, .int 0, .int 0, .null, .null, .null, .null])), (q1, .inl (cy 0, 27, .inl (fun _ => 0))), (q2, .inl (cy 0, 6, .inl (fun _ => 0))), (q3, .inl (cy 0, 60, .inl (fun _ => 0))), (q4, .inl (cy 0, 24, .inl (fun _ => 0))), (q5, .inl (cy 0, 216, .inl (fun _ => 0))), (q6, .inl (cy 0, 27, .inl (fun _ => 0))), (q7, .inl (cy 0, 6, .inl (fun _ => 0))), (q8, .inl (cy 0, 6, .inl (fun _ => 0))), (q9, .inl (cy 0, 6, .inl (fun _ => 0))), (q10, .inl (cy 0, 243, .inl (fun _ => 0)))] H _ := hw
  refine ni_putF S hK.1 hw hnm rfl nnin7 tyX7 tyX7_ok nmX7 14 (by decide) tb_3_159 rfl rfl rfl rfl (Nat.le_of_ble_eq_true rfl) rfl dX7_init_83 (fun H locs hw => ?_)
  refine lv_aload_n hx hb dX7_init_86 rfl (lv_at hl 0 rfl) ?_
  refine lv_iconst (v := 4) hx hb dX7_init_87 (by decide) ?_
  refine ni_newI S hK.1 hA hw (N := 4) (by decide) (by decide) (Nat.le_of_ble_eq_true rfl) (Nat.le_of_ble_eq_true rfl) (Nat.le_of_ble_eq_true rfl) dX7_init_88 (fun q11 H hw => ?_)
  have hw : ni_W D (va_A [(h0, .inr (7, [.null, .null, .null, .int 0, .int 0, .int 0, .null, .null, .int 0, .null, .int 0, .null, .null, .null, .null, .int 0, .int 0, .null, .null, .null, .null]))] ss.heap.size) ss.heap [(h0, .inr (7, [.ref q1, .ref q2, .ref q3, .int 0, .int 0, .int 0, .ref q4, .ref q5, .int 0, .ref q6, .int 0, .ref q7, .ref q8, .ref q9, .ref q10, .int 0, .int 0, .null, .null, .null, .null])), (q1, .inl (cy 0, 27, .inl (fun _ => 0))), (q2, .inl (cy 0, 6, .inl (fun _ => 0))), (q3, .inl (cy 0, 60, .inl (fun _ => 0))), (q4, .inl (cy 0, 24, .inl (fun _ => 0))), (q5, .inl (cy 0, 216, .inl (fun _ => 0))), (q6, .inl (cy 0, 27, .inl (fun _ => 0))), (q7, .inl (cy 0, 6, .inl (fun _ => 0))), (q8, .inl (cy 0, 6, .inl (fun _ => 0))), (q9, .inl (cy 0, 6, .inl (fun _ => 0))), (q10, .inl (cy 0, 243, .inl (fun _ => 0))), (q11, .inl (cy 0, 4, .inl (fun _ => 0)))] H _ := hw
  refine ni_putF S hK.1 hw hnm rfl nnin7 tyX7 tyX7_ok nmX7 17 (by decide) tb_3_162 rfl rfl rfl rfl (Nat.le_of_ble_eq_true rfl) rfl dX7_init_90 (fun H locs hw => ?_)
  refine lv_aload_n hx hb dX7_init_93 rfl (lv_at hl 0 rfl) ?_
  refine lv_iconst (v := 4) hx hb dX7_init_94 (by decide) ?_
  refine ni_newI S hK.1 hA hw (N := 4) (by decide) (by decide) (Nat.le_of_ble_eq_true rfl) (Nat.le_of_ble_eq_true rfl) (Nat.le_of_ble_eq_true rfl) dX7_init_95 (fun q12 H hw => ?_)
  have hw : ni_W D (va_A [(h0, .inr (7, [.null, .null, .null, .int 0, .int 0, .int 0, .null, .null, .int 0, .null, .int 0, .null, .null, .null, .null, .int 0, .int 0, .null, .null, .null, .null]))] ss.heap.size) ss.heap [(h0, .inr (7, [.ref q1, .ref q2, .ref q3, .int 0, .int 0, .int 0, .ref q4, .ref q5, .int 0, .ref q6, .int 0, .ref q7, .ref q8, .ref q9, .ref q10, .int 0, .int 0, .ref q11, .null, .null, .null])), (q1, .inl (cy 0, 27, .inl (fun _ => 0))), (q2, .inl (cy 0, 6, .inl (fun _ => 0))), (q3, .inl (cy 0, 60, .inl (fun _ => 0))), (q4, .inl (cy 0, 24, .inl (fun _ => 0))), (q5, .inl (cy 0, 216, .inl (fun _ => 0))), (q6, .inl (cy 0, 27, .inl (fun _ => 0))), (q7, .inl (cy 0, 6, .inl (fun _ => 0))), (q8, .inl (cy 0, 6, .inl (fun _ => 0))), (q9, .inl (cy 0, 6, .inl (fun _ => 0))), (q10, .inl (cy 0, 243, .inl (fun _ => 0))), (q11, .inl (cy 0, 4, .inl (fun _ => 0))), (q12, .inl (cy 0, 4, .inl (fun _ => 0)))] H _ := hw
  refine ni_putF S hK.1 hw hnm rfl nnin7 tyX7 tyX7_ok nmX7 18 (by decide) tb_3_163 rfl rfl rfl rfl (Nat.le_of_ble_eq_true rfl) rfl dX7_init_97 (fun H locs hw => ?_)
  refine lv_aload_n hx hb dX7_init_100 rfl (lv_at hl 0 rfl) ?_
  refine lv_bipush (v := 96) hx hb dX7_init_101 (by decide) ?_
  refine ni_newL S hK.1 hA hw (N := 96) (by decide) (by decide) (Nat.le_of_ble_eq_true rfl) (Nat.le_of_ble_eq_true rfl) (Nat.le_of_ble_eq_true rfl) dX7_init_103 (fun q13 H hw => ?_)
  have hw : ni_W D (va_A [(h0, .inr (7, [.null, .null, .null, .int 0, .int 0, .int 0, .null, .null, .int 0, .null, .int 0, .null, .null, .null, .null, .int 0, .int 0, .null, .null, .null, .null]))] ss.heap.size) ss.heap [(h0, .inr (7, [.ref q1, .ref q2, .ref q3, .int 0, .int 0, .int 0, .ref q4, .ref q5, .int 0, .ref q6, .int 0, .ref q7, .ref q8, .ref q9, .ref q10, .int 0, .int 0, .ref q11, .ref q12, .null, .null])), (q1, .inl (cy 0, 27, .inl (fun _ => 0))), (q2, .inl (cy 0, 6, .inl (fun _ => 0))), (q3, .inl (cy 0, 60, .inl (fun _ => 0))), (q4, .inl (cy 0, 24, .inl (fun _ => 0))), (q5, .inl (cy 0, 216, .inl (fun _ => 0))), (q6, .inl (cy 0, 27, .inl (fun _ => 0))), (q7, .inl (cy 0, 6, .inl (fun _ => 0))), (q8, .inl (cy 0, 6, .inl (fun _ => 0))), (q9, .inl (cy 0, 6, .inl (fun _ => 0))), (q10, .inl (cy 0, 243, .inl (fun _ => 0))), (q11, .inl (cy 0, 4, .inl (fun _ => 0))), (q12, .inl (cy 0, 4, .inl (fun _ => 0))), (q13, .inl (cy 2, 96, .inr (.inl (fun _ => 0))))] H _ := hw
  refine ni_putF S hK.1 hw hnm rfl nnin7 tyX7 tyX7_ok nmX7 19 (by decide) tb_3_164 rfl rfl rfl rfl (Nat.le_of_ble_eq_true rfl) rfl dX7_init_105 (fun H locs hw => ?_)
  refine lv_aload_n hx hb dX7_init_108 rfl (lv_at hl 0 rfl) ?_
  refine lv_bipush (v := 24) hx hb dX7_init_109 (by decide) ?_
  refine ni_newL S hK.1 hA hw (N := 24) (by decide) (by decide) (Nat.le_of_ble_eq_true rfl) (Nat.le_of_ble_eq_true rfl) (Nat.le_of_ble_eq_true rfl) dX7_init_111 (fun q14 H hw => ?_)
  have hw : ni_W D (va_A [(h0, .inr (7, [.null, .null, .null, .int 0, .int 0, .int 0, .null, .null, .int 0, .null, .int 0, .null, .null, .null, .null, .int 0, .int 0, .null, .null, .null, .null]))] ss.heap.size) ss.heap [(h0, .inr (7, [.ref q1, .ref q2, .ref q3, .int 0, .int 0, .int 0, .ref q4, .ref q5, .int 0, .ref q6, .int 0, .ref q7, .ref q8, .ref q9, .ref q10, .int 0, .int 0, .ref q11, .ref q12, .ref q13, .null])), (q1, .inl (cy 0, 27, .inl (fun _ => 0))), (q2, .inl (cy 0, 6, .inl (fun _ => 0))), (q3, .inl (cy 0, 60, .inl (fun _ => 0))), (q4, .inl (cy 0, 24, .inl (fun _ => 0))), (q5, .inl (cy 0, 216, .inl (fun _ => 0))), (q6, .inl (cy 0, 27, .inl (fun _ => 0))), (q7, .inl (cy 0, 6, .inl (fun _ => 0))), (q8, .inl (cy 0, 6, .inl (fun _ => 0))), (q9, .inl (cy 0, 6, .inl (fun _ => 0))), (q10, .inl (cy 0, 243, .inl (fun _ => 0))), (q11, .inl (cy 0, 4, .inl (fun _ => 0))), (q12, .inl (cy 0, 4, .inl (fun _ => 0))), (q13, .inl (cy 2, 96, .inr (.inl (fun _ => 0)))), (q14, .inl (cy 2, 24, .inr (.inl (fun _ => 0))))] H _ := hw
  refine ni_putF S hK.1 hw hnm rfl nnin7 tyX7 tyX7_ok nmX7 20 (by decide) tb_3_165 rfl rfl rfl rfl (Nat.le_of_ble_eq_true rfl) rfl dX7_init_113 (fun H locs hw => ?_)
  refine lv_aload_n hx hb dX7_init_116 rfl (lv_at hl 0 rfl) ?_
  refine va_get hx hb S.2.2.2.2 nnin7 S.2.2.2.1 hK.1.1 hw.1 0 rfl rfl 0 (by decide) (S.2.2.2.2 _ tb_3_145) (fun _ h => h) rfl dX7_init_117 ?_
  refine lv_iconst (v := 2) hx hb dX7_init_120 (by decide) ?_
  refine lv_iconst (v := 1) hx hb dX7_init_121 (by decide) ?_
  refine va_iast hx hb hK.1.1 hw.1 hw.2.1 hw.2.2 1 0 rfl rfl (by unfold vp_in; decide) dX7_init_122 (fun H locs h1 h2 h3 => ?_)
  have hw : ni_W D (va_A [(h0, .inr (7, [.null, .null, .null, .int 0, .int 0, .int 0, .null, .null, .int 0, .null, .int 0, .null, .null, .null, .null, .int 0, .int 0, .null, .null, .null, .null]))] ss.heap.size) ss.heap [(h0, .inr (7, [.ref q1, .ref q2, .ref q3, .int 0, .int 0, .int 0, .ref q4, .ref q5, .int 0, .ref q6, .int 0, .ref q7, .ref q8, .ref q9, .ref q10, .int 0, .int 0, .ref q11, .ref q12, .ref q13, .ref q14])), (q1, .inl (cy 0, 27, .inl (upd (fun _ => 0) 2 1))), (q2, .inl (cy 0, 6, .inl (fun _ => 0))), (q3, .inl (cy 0, 60, .inl (fun _ => 0))), (q4, .inl (cy 0, 24, .inl (fun _ => 0))), (q5, .inl (cy 0, 216, .inl (fun _ => 0))), (q6, .inl (cy 0, 27, .inl (fun _ => 0))), (q7, .inl (cy 0, 6, .inl (fun _ => 0))), (q8, .inl (cy 0, 6, .inl (fun _ => 0))), (q9, .inl (cy 0, 6, .inl (fun _ => 0))), (q10, .inl (cy 0, 243, .inl (fun _ => 0))), (q11, .inl (cy 0, 4, .inl (nw_ln 0))), (q12, .inl (cy 0, 4, .inl (fun _ => 0))), (q13, .inl (cy 2, 96, .inr (.inl (fun _ => 0)))), (q14, .inl (cy 2, 24, .inr (.inl (fun _ => 0))))] H locs := ⟨h1, h2, h3⟩
  refine lv_iconst (v := 0) hx hb dX7_init_123 (by decide) ?_
  refine lv_istore_n (lv' := [(1, .int (nI 0)), (0, .ref h0)]) hx hb dX7_init_124 rfl hl (by decide) rfl (fun ls hl => ?_)
  have loop : ∀ (d k : Nat) (H : Heap) (locs : List Loc) (ls : Array Slot), k + d = 4 → ni_W D (va_A [(h0, .inr (7, [.null, .null, .null, .int 0, .int 0, .int 0, .null, .null, .int 0, .null, .int 0, .null, .null, .null, .null, .int 0, .int 0, .null, .null, .null, .null]))] ss.heap.size) ss.heap [(h0, .inr (7, [.ref q1, .ref q2, .ref q3, .int 0, .int 0, .int 0, .ref q4, .ref q5, .int 0, .ref q6, .int 0, .ref q7, .ref q8, .ref q9, .ref q10, .int 0, .int 0, .ref q11, .ref q12, .ref q13, .ref q14])), (q1, .inl (cy 0, 27, .inl (upd (fun _ => 0) 2 1))), (q2, .inl (cy 0, 6, .inl (fun _ => 0))), (q3, .inl (cy 0, 60, .inl (fun _ => 0))), (q4, .inl (cy 0, 24, .inl (fun _ => 0))), (q5, .inl (cy 0, 216, .inl (fun _ => 0))), (q6, .inl (cy 0, 27, .inl (fun _ => 0))), (q7, .inl (cy 0, 6, .inl (fun _ => 0))), (q8, .inl (cy 0, 6, .inl (fun _ => 0))), (q9, .inl (cy 0, 6, .inl (fun _ => 0))), (q10, .inl (cy 0, 243, .inl (fun _ => 0))), (q11, .inl (cy 0, 4, .inl (nw_ln k))), (q12, .inl (cy 0, 4, .inl (fun _ => 0))), (q13, .inl (cy 2, 96, .inr (.inl (fun _ => 0)))), (q14, .inl (cy 2, 24, .inr (.inl (fun _ => 0))))] H locs → lv_has ls 2 [(1, .int (nI k)), (0, .ref h0)] → W pp l ee (ni_R 1 14 749) ss mm #[.ref h0] bb me co H locs 14 749 (MQ bb (ni_qv D h0 (.inr (7, [.null, .null, .null, .int 0, .int 0, .int 0, .null, .null, .int 0, .null, .int 0, .null, .null, .null, .null, .int 0, .int 0, .null, .null, .null, .null])) ss.heap.size (nw_X7 cy h0)) #[.ref h0] ss 14 749 (va_A [(h0, .inr (7, [.null, .null, .null, .int 0, .int 0, .int 0, .null, .null, .int 0, .null, .int 0, .null, .null, .null, .null, .int 0, .int 0, .null, .null, .null, .null]))] ss.heap.size)) (F0 mm 125 ls []) := by
    intro d
    induction d with
    | zero =>
      intro k H locs ls hk hw hl
      obtain rfl : k = 4 := by omega
      refine lv_iload_n hx hb dX7_init_125 rfl (lv_at hl 0 rfl) ?_
      refine lv_iconst (v := 4) hx hb dX7_init_126 (by decide) ?_
      refine lv_icmp_ge (tgt := 143) hx hb dX7_init_127 (by decide) (fun _ => ?_) (fun h => absurd (by decide) h)
      exact ni_ret (w := nw_X7 cy h0) S hr hlk (q1, q2, q3, q4, q5, q6, q7, q8, q9, q10, q11, q12, q13, q14) hw dX7_init_143
    | succ d ih =>
      intro k H locs ls hk hw hl
      refine lv_iload_n hx hb dX7_init_125 rfl (lv_at hl 0 rfl) ?_
      refine lv_iconst (v := 4) hx hb dX7_init_126 (by decide) ?_
      have hlt : ¬ (4 : Int32) ≤ nI k := nI_ge (b := 4) (by omega) (by decide)
      refine lv_icmp_ge (tgt := 143) hx hb dX7_init_127 (by decide) (fun h => absurd h hlt) (fun _ => ?_)
      refine lv_aload_n hx hb dX7_init_130 rfl (lv_at hl 1 rfl) ?_
      refine va_get hx hb S.2.2.2.2 nnin7 S.2.2.2.1 hK.1.1 hw.1 0 rfl rfl 17 (by decide) (S.2.2.2.2 _ tb_3_162) (fun _ h => h) rfl dX7_init_131 ?_
      refine lv_iload_n hx hb dX7_init_134 rfl (lv_at hl 0 rfl) ?_
      refine lv_iconst (v := -1) hx hb dX7_init_135 (by decide) ?_
      refine va_iast hx hb hK.1.1 hw.1 hw.2.1 hw.2.2 11 0 rfl rfl (vp_in_nI (by omega) (by decide)) dX7_init_136 (fun H locs h1 h2 h3 => ?_)
      have e1 : upd (nw_ln k) (nI k).toNatClampNeg (-1) = nw_ln (k + 1) := by rw [nI_clamp (by omega)]; exact nw_lns k
      have hw : ni_W D (va_A [(h0, .inr (7, [.null, .null, .null, .int 0, .int 0, .int 0, .null, .null, .int 0, .null, .int 0, .null, .null, .null, .null, .int 0, .int 0, .null, .null, .null, .null]))] ss.heap.size) ss.heap [(h0, .inr (7, [.ref q1, .ref q2, .ref q3, .int 0, .int 0, .int 0, .ref q4, .ref q5, .int 0, .ref q6, .int 0, .ref q7, .ref q8, .ref q9, .ref q10, .int 0, .int 0, .ref q11, .ref q12, .ref q13, .ref q14])), (q1, .inl (cy 0, 27, .inl (upd (fun _ => 0) 2 1))), (q2, .inl (cy 0, 6, .inl (fun _ => 0))), (q3, .inl (cy 0, 60, .inl (fun _ => 0))), (q4, .inl (cy 0, 24, .inl (fun _ => 0))), (q5, .inl (cy 0, 216, .inl (fun _ => 0))), (q6, .inl (cy 0, 27, .inl (fun _ => 0))), (q7, .inl (cy 0, 6, .inl (fun _ => 0))), (q8, .inl (cy 0, 6, .inl (fun _ => 0))), (q9, .inl (cy 0, 6, .inl (fun _ => 0))), (q10, .inl (cy 0, 243, .inl (fun _ => 0))), (q11, .inl (cy 0, 4, .inl (upd (nw_ln k) (nI k).toNatClampNeg (-1)))), (q12, .inl (cy 0, 4, .inl (fun _ => 0))), (q13, .inl (cy 2, 96, .inr (.inl (fun _ => 0)))), (q14, .inl (cy 2, 24, .inr (.inl (fun _ => 0))))] H locs := ⟨h1, h2, h3⟩
      rw [e1] at hw
      refine lv_iinc (v := nI (k + 1)) (lv' := [(1, .int (nI (k + 1))), (0, .ref h0)]) hx hb dX7_init_137 hl (k := 0) rfl (by rw [nI_succ]; rfl) (by decide) rfl (fun ls hl => ?_)
      refine lv_goto (tgt := 125) hx hb dX7_init_140 (by decide) ?_
      exact ih (k + 1) H locs ls (by omega) hw hl
  refine W.widen (k := 14) (n := 749) (Nat.le_of_ble_eq_true rfl) (Nat.le_of_ble_eq_true rfl) ?_
  exact loop 4 0 H locs ls rfl hw hl
theorem mi_X7 : ni_mI yX7_init cX7_init 2 := ⟨tb_3_142, tb_1_8, tb_3_143, ⟨by decide +kernel, by decide +kernel, by decide +kernel⟩, rfl⟩
