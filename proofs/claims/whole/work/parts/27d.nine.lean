/-! the object itself is made -/
abbrev nT6 : Type := (Nat × Nat × Nat × Nat × Nat × Nat) × (Nat × Nat × (Nat → Nat × Nat × Nat × Nat × Nat × Nat)) × (Nat × Nat × Nat × Nat × Nat × Nat) × (Nat × Nat × (Nat → Nat × Nat × Nat × Nat × Nat × Nat)) × (Nat × Nat × Nat × Nat × Nat × Nat) × (Nat × Nat × Nat) × (Nat × Nat × Nat) × (Nat × Nat) × Nat × (Nat → Nat × Nat)
def nw_X6 (cy : Nat → ClassId) (h0 : Nat) (u : nT6) : va_W := match u with
  | (a, b, c, d, e, f, g, i, qa, sh) => ((h0, .inr (6, [.ref a.1, .ref b.1, .ref c.1, .ref d.1, .int 0, .ref e.1, .ref f.1, .ref g.1, .ref i.1, .ref qa])) :: (((((((([] ++ nw_X5 cy a.1 a.2) ++ nw_X1 cy b.1 b.2) ++ nw_X5 cy c.1 c.2) ++ nw_X1 cy d.1 d.2) ++ nw_X5 cy e.1 e.2) ++ nw_X2 cy f.1 f.2) ++ nw_X0 cy g.1 g.2) ++ nw_X4 cy i.1 i.2)) ++ (qa, .inl (cy 3, 4, .inr (.inr (.inr (.inr (fun j => some (sh j).1)))))) :: (((([] ++ nw_X3 cy (sh 0).1 (sh 0).2) ++ nw_X3 cy (sh 1).1 (sh 1).2) ++ nw_X3 cy (sh 2).1 (sh 2).2) ++ nw_X3 cy (sh 3).1 (sh 3).2)
set_option maxRecDepth 100000 in
set_option maxHeartbeats 4000000 in
theorem ci_X6 (l : Launch) (D : va_G) (cy : Nat → ClassId) (h0 : Nat) : ni_I l yX6_init cX6_init 1 3 135 951 D cy h0 (.inr (6, [.null, .null, .null, .null, .int 0, .null, .null, .null, .null, .null])) (nw_X6 cy h0) := by
  refine ni_enter (plainFor_of_name (by decide +kernel)) rfl (by decide) ?_
  intro pp ee ss mm bb me co S hr hlk hnm hK hA hw ls hl
  have hx := S.1
  have hb := S.2.1
  refine lv_aload_n hx hb dX6_init_0 rfl (lv_at hl 0 rfl) ?_
  refine ni_obj S tb_1_18 hl.1 dX6_init_1 (Nat.le_of_ble_eq_true rfl) (Nat.le_of_ble_eq_true rfl) ?_
  refine lv_aload_n hx hb dX6_init_4 rfl (lv_at hl 0 rfl) ?_
  refine ni_new (ci := 5) S hK.1 hA hw rfl nnin5 tyX5 tyX5_ok tb_1_21 tb_1_22 tb_1_2 df_X5 (Nat.le_of_ble_eq_true rfl) (Nat.le_of_ble_eq_true rfl) dX6_init_5 (fun q1 H hw => ?_)
  refine lv_dup hx hb dX6_init_8 rfl ?_
  refine ni_callN S hK hA hw (ci_X5 l D cy q1) mi_X5 (nw_0 hK.1.2) ⟨(Nat.le_of_ble_eq_true rfl), (Nat.le_of_ble_eq_true rfl)⟩ ⟨(Nat.le_of_ble_eq_true rfl), (Nat.le_of_ble_eq_true rfl)⟩ hl.1 (Nat.le_of_ble_eq_true rfl) dX6_init_9 (fun u1 H locs hw => ?_)
  have hw : ni_W D (va_A [(h0, .inr (6, [.null, .null, .null, .null, .int 0, .null, .null, .null, .null, .null]))] ss.heap.size) ss.heap ((h0, .inr (6, [.null, .null, .null, .null, .int 0, .null, .null, .null, .null, .null])) :: ([] ++ nw_X5 cy q1 u1)) H locs := hw
  refine ni_putF S hK.1 hw hnm rfl nnin6 tyX6 tyX6_ok nmX6 0 (by decide) tb_1_165 rfl rfl rfl rfl (Nat.le_of_ble_eq_true rfl) rfl dX6_init_12 (fun H locs hw => ?_)
  refine lv_aload_n hx hb dX6_init_15 rfl (lv_at hl 0 rfl) ?_
  refine ni_new (ci := 1) S hK.1 hA hw rfl nnin1 tyX1 tyX1_ok tb_1_65 tb_1_66 tb_1_3 df_X1 (Nat.le_of_ble_eq_true rfl) (Nat.le_of_ble_eq_true rfl) dX6_init_16 (fun q2 H hw => ?_)
  refine lv_dup hx hb dX6_init_19 rfl ?_
  refine ni_callN S hK hA hw (ci_X1 l D cy q2) mi_X1 (nw_1 hK.1.2) ⟨(Nat.le_of_ble_eq_true rfl), (Nat.le_of_ble_eq_true rfl)⟩ ⟨(Nat.le_of_ble_eq_true rfl), (Nat.le_of_ble_eq_true rfl)⟩ hl.1 (Nat.le_of_ble_eq_true rfl) dX6_init_20 (fun u2 H locs hw => ?_)
  have hw : ni_W D (va_A [(h0, .inr (6, [.null, .null, .null, .null, .int 0, .null, .null, .null, .null, .null]))] ss.heap.size) ss.heap ((h0, .inr (6, [.ref q1, .null, .null, .null, .int 0, .null, .null, .null, .null, .null])) :: (([] ++ nw_X5 cy q1 u1) ++ nw_X1 cy q2 u2)) H locs := hw
  refine ni_putF S hK.1 hw hnm rfl nnin6 tyX6 tyX6_ok nmX6 1 (by decide) tb_1_166 rfl rfl rfl rfl (Nat.le_of_ble_eq_true rfl) rfl dX6_init_23 (fun H locs hw => ?_)
  refine lv_aload_n hx hb dX6_init_26 rfl (lv_at hl 0 rfl) ?_
  refine ni_new (ci := 5) S hK.1 hA hw rfl nnin5 tyX5 tyX5_ok tb_1_21 tb_1_22 tb_1_2 df_X5 (Nat.le_of_ble_eq_true rfl) (Nat.le_of_ble_eq_true rfl) dX6_init_27 (fun q3 H hw => ?_)
  refine lv_dup hx hb dX6_init_30 rfl ?_
  refine ni_callN S hK hA hw (ci_X5 l D cy q3) mi_X5 (nw_0 hK.1.2) ⟨(Nat.le_of_ble_eq_true rfl), (Nat.le_of_ble_eq_true rfl)⟩ ⟨(Nat.le_of_ble_eq_true rfl), (Nat.le_of_ble_eq_true rfl)⟩ hl.1 (Nat.le_of_ble_eq_true rfl) dX6_init_31 (fun u3 H locs hw => ?_)
  have hw : ni_W D (va_A [(h0, .inr (6, [.null, .null, .null, .null, .int 0, .null, .null, .null, .null, .null]))] ss.heap.size) ss.heap ((h0, .inr (6, [.ref q1, .ref q2, .null, .null, .int 0, .null, .null, .null, .null, .null])) :: ((([] ++ nw_X5 cy q1 u1) ++ nw_X1 cy q2 u2) ++ nw_X5 cy q3 u3)) H locs := hw
  refine ni_putF S hK.1 hw hnm rfl nnin6 tyX6 tyX6_ok nmX6 2 (by decide) tb_1_167 rfl rfl rfl rfl (Nat.le_of_ble_eq_true rfl) rfl dX6_init_34 (fun H locs hw => ?_)
  refine lv_aload_n hx hb dX6_init_37 rfl (lv_at hl 0 rfl) ?_
  refine ni_new (ci := 1) S hK.1 hA hw rfl nnin1 tyX1 tyX1_ok tb_1_65 tb_1_66 tb_1_3 df_X1 (Nat.le_of_ble_eq_true rfl) (Nat.le_of_ble_eq_true rfl) dX6_init_38 (fun q4 H hw => ?_)
  refine lv_dup hx hb dX6_init_41 rfl ?_
  refine ni_callN S hK hA hw (ci_X1 l D cy q4) mi_X1 (nw_1 hK.1.2) ⟨(Nat.le_of_ble_eq_true rfl), (Nat.le_of_ble_eq_true rfl)⟩ ⟨(Nat.le_of_ble_eq_true rfl), (Nat.le_of_ble_eq_true rfl)⟩ hl.1 (Nat.le_of_ble_eq_true rfl) dX6_init_42 (fun u4 H locs hw => ?_)
  have hw : ni_W D (va_A [(h0, .inr (6, [.null, .null, .null, .null, .int 0, .null, .null, .null, .null, .null]))] ss.heap.size) ss.heap ((h0, .inr (6, [.ref q1, .ref q2, .ref q3, .null, .int 0, .null, .null, .null, .null, .null])) :: (((([] ++ nw_X5 cy q1 u1) ++ nw_X1 cy q2 u2) ++ nw_X5 cy q3 u3) ++ nw_X1 cy q4 u4)) H locs := hw
  refine ni_putF S hK.1 hw hnm rfl nnin6 tyX6 tyX6_ok nmX6 3 (by decide) tb_1_168 rfl rfl rfl rfl (Nat.le_of_ble_eq_true rfl) rfl dX6_init_45 (fun H locs hw => ?_)
  refine lv_aload_n hx hb dX6_init_48 rfl (lv_at hl 0 rfl) ?_
  refine ni_new (ci := 5) S hK.1 hA hw rfl nnin5 tyX5 tyX5_ok tb_1_21 tb_1_22 tb_1_2 df_X5 (Nat.le_of_ble_eq_true rfl) (Nat.le_of_ble_eq_true rfl) dX6_init_49 (fun q5 H hw => ?_)
  refine lv_dup hx hb dX6_init_52 rfl ?_
  refine ni_callN S hK hA hw (ci_X5 l D cy q5) mi_X5 (nw_0 hK.1.2) ⟨(Nat.le_of_ble_eq_true rfl), (Nat.le_of_ble_eq_true rfl)⟩ ⟨(Nat.le_of_ble_eq_true rfl), (Nat.le_of_ble_eq_true rfl)⟩ hl.1 (Nat.le_of_ble_eq_true rfl) dX6_init_53 (fun u5 H locs hw => ?_)
  have hw : ni_W D (va_A [(h0, .inr (6, [.null, .null, .null, .null, .int 0, .null, .null, .null, .null, .null]))] ss.heap.size) ss.heap ((h0, .inr (6, [.ref q1, .ref q2, .ref q3, .ref q4, .int 0, .null, .null, .null, .null, .null])) :: ((((([] ++ nw_X5 cy q1 u1) ++ nw_X1 cy q2 u2) ++ nw_X5 cy q3 u3) ++ nw_X1 cy q4 u4) ++ nw_X5 cy q5 u5)) H locs := hw
  refine ni_putF S hK.1 hw hnm rfl nnin6 tyX6 tyX6_ok nmX6 5 (by decide) tb_1_170 rfl rfl rfl rfl (Nat.le_of_ble_eq_true rfl) rfl dX6_init_56 (fun H locs hw => ?_)
  refine lv_aload_n hx hb dX6_init_59 rfl (lv_at hl 0 rfl) ?_
  refine ni_new (ci := 2) S hK.1 hA hw rfl nnin2 tyX2 tyX2_ok tb_1_85 tb_1_86 tb_1_4 df_X2 (Nat.le_of_ble_eq_true rfl) (Nat.le_of_ble_eq_true rfl) dX6_init_60 (fun q6 H hw => ?_)
  refine lv_dup hx hb dX6_init_63 rfl ?_
  refine ni_callN S hK hA hw (ci_X2 l D cy q6) mi_X2 (nw_3 hK.1.2) ⟨(Nat.le_of_ble_eq_true rfl), (Nat.le_of_ble_eq_true rfl)⟩ ⟨(Nat.le_of_ble_eq_true rfl), (Nat.le_of_ble_eq_true rfl)⟩ hl.1 (Nat.le_of_ble_eq_true rfl) dX6_init_64 (fun u6 H locs hw => ?_)
  have hw : ni_W D (va_A [(h0, .inr (6, [.null, .null, .null, .null, .int 0, .null, .null, .null, .null, .null]))] ss.heap.size) ss.heap ((h0, .inr (6, [.ref q1, .ref q2, .ref q3, .ref q4, .int 0, .ref q5, .null, .null, .null, .null])) :: (((((([] ++ nw_X5 cy q1 u1) ++ nw_X1 cy q2 u2) ++ nw_X5 cy q3 u3) ++ nw_X1 cy q4 u4) ++ nw_X5 cy q5 u5) ++ nw_X2 cy q6 u6)) H locs := hw
  refine ni_putF S hK.1 hw hnm rfl nnin6 tyX6 tyX6_ok nmX6 6 (by decide) tb_1_171 rfl rfl rfl rfl (Nat.le_of_ble_eq_true rfl) rfl dX6_init_67 (fun H locs hw => ?_)
  refine lv_aload_n hx hb dX6_init_70 rfl (lv_at hl 0 rfl) ?_
  refine ni_new (ci := 0) S hK.1 hA hw rfl nnin0 tyX0 tyX0_ok tb_1_102 tb_1_103 tb_1_5 df_X0 (Nat.le_of_ble_eq_true rfl) (Nat.le_of_ble_eq_true rfl) dX6_init_71 (fun q7 H hw => ?_)
  refine lv_dup hx hb dX6_init_74 rfl ?_
  refine ni_callN S hK hA hw (ci_X0 l D cy q7) mi_X0 (nw_4 hK.1.2) ⟨(Nat.le_of_ble_eq_true rfl), (Nat.le_of_ble_eq_true rfl)⟩ ⟨(Nat.le_of_ble_eq_true rfl), (Nat.le_of_ble_eq_true rfl)⟩ hl.1 (Nat.le_of_ble_eq_true rfl) dX6_init_75 (fun u7 H locs hw => ?_)
  have hw : ni_W D (va_A [(h0, .inr (6, [.null, .null, .null, .null, .int 0, .null, .null, .null, .null, .null]))] ss.heap.size) ss.heap ((h0, .inr (6, [.ref q1, .ref q2, .ref q3, .ref q4, .int 0, .ref q5, .ref q6, .null, .null, .null])) :: ((((((([] ++ nw_X5 cy q1 u1) ++ nw_X1 cy q2 u2) ++ nw_X5 cy q3 u3) ++ nw_X1 cy q4 u4) ++ nw_X5 cy q5 u5) ++ nw_X2 cy q6 u6) ++ nw_X0 cy q7 u7)) H locs := hw
  refine ni_putF S hK.1 hw hnm rfl nnin6 tyX6 tyX6_ok nmX6 7 (by decide) tb_1_172 rfl rfl rfl rfl (Nat.le_of_ble_eq_true rfl) rfl dX6_init_78 (fun H locs hw => ?_)
  refine lv_aload_n hx hb dX6_init_81 rfl (lv_at hl 0 rfl) ?_
  refine ni_new (ci := 4) S hK.1 hA hw rfl nnin4 tyX4 tyX4_ok tb_1_123 tb_1_124 tb_1_6 df_X4 (Nat.le_of_ble_eq_true rfl) (Nat.le_of_ble_eq_true rfl) dX6_init_82 (fun q8 H hw => ?_)
  refine lv_dup hx hb dX6_init_85 rfl ?_
  refine ni_callN S hK hA hw (ci_X4 l D cy q8) mi_X4 (nw_5 hK.1.2) ⟨(Nat.le_of_ble_eq_true rfl), (Nat.le_of_ble_eq_true rfl)⟩ ⟨(Nat.le_of_ble_eq_true rfl), (Nat.le_of_ble_eq_true rfl)⟩ hl.1 (Nat.le_of_ble_eq_true rfl) dX6_init_86 (fun u8 H locs hw => ?_)
  have hw : ni_W D (va_A [(h0, .inr (6, [.null, .null, .null, .null, .int 0, .null, .null, .null, .null, .null]))] ss.heap.size) ss.heap ((h0, .inr (6, [.ref q1, .ref q2, .ref q3, .ref q4, .int 0, .ref q5, .ref q6, .ref q7, .null, .null])) :: (((((((([] ++ nw_X5 cy q1 u1) ++ nw_X1 cy q2 u2) ++ nw_X5 cy q3 u3) ++ nw_X1 cy q4 u4) ++ nw_X5 cy q5 u5) ++ nw_X2 cy q6 u6) ++ nw_X0 cy q7 u7) ++ nw_X4 cy q8 u8)) H locs := hw
  refine ni_putF S hK.1 hw hnm rfl nnin6 tyX6 tyX6_ok nmX6 8 (by decide) tb_1_173 rfl rfl rfl rfl (Nat.le_of_ble_eq_true rfl) rfl dX6_init_89 (fun H locs hw => ?_)
  refine lv_aload_n hx hb dX6_init_92 rfl (lv_at hl 0 rfl) ?_
  refine lv_iconst (v := 4) hx hb dX6_init_93 (by decide) ?_
  refine ni_newS S hK hA hw tb_1_144 (N := 4) (by decide) (by decide) (Nat.le_of_ble_eq_true rfl) (Nat.le_of_ble_eq_true rfl) (Nat.le_of_ble_eq_true rfl) dX6_init_94 (fun qa H hw => ?_)
  refine lv_dup hx hb dX6_init_97 rfl ?_
  refine lv_iconst (v := 0) hx hb dX6_init_98 (by decide) ?_
  refine ni_new (ci := 3) S hK.1 hA hw rfl nnin3 tyX3 tyX3_ok tb_1_144 tb_1_146 tb_1_7 df_X3 (Nat.le_of_ble_eq_true rfl) (Nat.le_of_ble_eq_true rfl) dX6_init_99 (fun s0 H hw => ?_)
  refine lv_dup hx hb dX6_init_102 rfl ?_
  refine ni_callN S hK hA hw (ci_X3 l D cy s0) mi_X3 (nw_6 hK.1.2) ⟨(Nat.le_of_ble_eq_true rfl), (Nat.le_of_ble_eq_true rfl)⟩ ⟨(Nat.le_of_ble_eq_true rfl), (Nat.le_of_ble_eq_true rfl)⟩ hl.1 (Nat.le_of_ble_eq_true rfl) dX6_init_103 (fun t0 H locs hw => ?_)
  have hw : ni_W D (va_A [(h0, .inr (6, [.null, .null, .null, .null, .int 0, .null, .null, .null, .null, .null]))] ss.heap.size) ss.heap (((h0, .inr (6, [.ref q1, .ref q2, .ref q3, .ref q4, .int 0, .ref q5, .ref q6, .ref q7, .ref q8, .null])) :: (((((((([] ++ nw_X5 cy q1 u1) ++ nw_X1 cy q2 u2) ++ nw_X5 cy q3 u3) ++ nw_X1 cy q4 u4) ++ nw_X5 cy q5 u5) ++ nw_X2 cy q6 u6) ++ nw_X0 cy q7 u7) ++ nw_X4 cy q8 u8)) ++ (qa, .inl (cy 3, 4, .inr (.inr (.inr (.inr (fun _ => none)))))) :: ([] ++ nw_X3 cy s0 t0)) H locs := ni_W.eq (List.append_assoc _ _ _) hw
  refine ni_ast S hK.1 hw (t0 := 3) (r := (RX3, TX3, 3)) rfl (List.mem_append_right _ (List.mem_cons_of_mem _ (List.mem_append_right _ (nm_X3 cy s0 t0)))) rfl (by unfold vp_in; decide) dX6_init_106 (fun H locs hw => ?_)
  refine lv_dup hx hb dX6_init_107 rfl ?_
  refine lv_iconst (v := 1) hx hb dX6_init_108 (by decide) ?_
  refine ni_new (ci := 3) S hK.1 hA hw rfl nnin3 tyX3 tyX3_ok tb_1_144 tb_1_146 tb_1_7 df_X3 (Nat.le_of_ble_eq_true rfl) (Nat.le_of_ble_eq_true rfl) dX6_init_109 (fun s1 H hw => ?_)
  refine lv_dup hx hb dX6_init_112 rfl ?_
  refine ni_callN S hK hA hw (ci_X3 l D cy s1) mi_X3 (nw_6 hK.1.2) ⟨(Nat.le_of_ble_eq_true rfl), (Nat.le_of_ble_eq_true rfl)⟩ ⟨(Nat.le_of_ble_eq_true rfl), (Nat.le_of_ble_eq_true rfl)⟩ hl.1 (Nat.le_of_ble_eq_true rfl) dX6_init_113 (fun t1 H locs hw => ?_)
  have hw : ni_W D (va_A [(h0, .inr (6, [.null, .null, .null, .null, .int 0, .null, .null, .null, .null, .null]))] ss.heap.size) ss.heap (((h0, .inr (6, [.ref q1, .ref q2, .ref q3, .ref q4, .int 0, .ref q5, .ref q6, .ref q7, .ref q8, .null])) :: (((((((([] ++ nw_X5 cy q1 u1) ++ nw_X1 cy q2 u2) ++ nw_X5 cy q3 u3) ++ nw_X1 cy q4 u4) ++ nw_X5 cy q5 u5) ++ nw_X2 cy q6 u6) ++ nw_X0 cy q7 u7) ++ nw_X4 cy q8 u8)) ++ (qa, .inl (cy 3, 4, .inr (.inr (.inr (.inr (va_up (fun _ => none) (0 : Int32).toNatClampNeg (some s0))))))) :: (([] ++ nw_X3 cy s0 t0) ++ nw_X3 cy s1 t1)) H locs := ni_W.eq (List.append_assoc _ _ _) hw
  refine ni_ast S hK.1 hw (t0 := 3) (r := (RX3, TX3, 3)) rfl (List.mem_append_right _ (List.mem_cons_of_mem _ (List.mem_append_right _ (nm_X3 cy s1 t1)))) rfl (by unfold vp_in; decide) dX6_init_116 (fun H locs hw => ?_)
  refine lv_dup hx hb dX6_init_117 rfl ?_
  refine lv_iconst (v := 2) hx hb dX6_init_118 (by decide) ?_
  refine ni_new (ci := 3) S hK.1 hA hw rfl nnin3 tyX3 tyX3_ok tb_1_144 tb_1_146 tb_1_7 df_X3 (Nat.le_of_ble_eq_true rfl) (Nat.le_of_ble_eq_true rfl) dX6_init_119 (fun s2 H hw => ?_)
  refine lv_dup hx hb dX6_init_122 rfl ?_
  refine ni_callN S hK hA hw (ci_X3 l D cy s2) mi_X3 (nw_6 hK.1.2) ⟨(Nat.le_of_ble_eq_true rfl), (Nat.le_of_ble_eq_true rfl)⟩ ⟨(Nat.le_of_ble_eq_true rfl), (Nat.le_of_ble_eq_true rfl)⟩ hl.1 (Nat.le_of_ble_eq_true rfl) dX6_init_123 (fun t2 H locs hw => ?_)
  have hw : ni_W D (va_A [(h0, .inr (6, [.null, .null, .null, .null, .int 0, .null, .null, .null, .null, .null]))] ss.heap.size) ss.heap (((h0, .inr (6, [.ref q1, .ref q2, .ref q3, .ref q4, .int 0, .ref q5, .ref q6, .ref q7, .ref q8, .null])) :: (((((((([] ++ nw_X5 cy q1 u1) ++ nw_X1 cy q2 u2) ++ nw_X5 cy q3 u3) ++ nw_X1 cy q4 u4) ++ nw_X5 cy q5 u5) ++ nw_X2 cy q6 u6) ++ nw_X0 cy q7 u7) ++ nw_X4 cy q8 u8)) ++ (qa, .inl (cy 3, 4, .inr (.inr (.inr (.inr (va_up (va_up (fun _ => none) (0 : Int32).toNatClampNeg (some s0)) (1 : Int32).toNatClampNeg (some s1))))))) :: ((([] ++ nw_X3 cy s0 t0) ++ nw_X3 cy s1 t1) ++ nw_X3 cy s2 t2)) H locs := ni_W.eq (List.append_assoc _ _ _) hw
  refine ni_ast S hK.1 hw (t0 := 3) (r := (RX3, TX3, 3)) rfl (List.mem_append_right _ (List.mem_cons_of_mem _ (List.mem_append_right _ (nm_X3 cy s2 t2)))) rfl (by unfold vp_in; decide) dX6_init_126 (fun H locs hw => ?_)
  refine lv_dup hx hb dX6_init_127 rfl ?_
  refine lv_iconst (v := 3) hx hb dX6_init_128 (by decide) ?_
  refine ni_new (ci := 3) S hK.1 hA hw rfl nnin3 tyX3 tyX3_ok tb_1_144 tb_1_146 tb_1_7 df_X3 (Nat.le_of_ble_eq_true rfl) (Nat.le_of_ble_eq_true rfl) dX6_init_129 (fun s3 H hw => ?_)
  refine lv_dup hx hb dX6_init_132 rfl ?_
  refine ni_callN S hK hA hw (ci_X3 l D cy s3) mi_X3 (nw_6 hK.1.2) ⟨(Nat.le_of_ble_eq_true rfl), (Nat.le_of_ble_eq_true rfl)⟩ ⟨(Nat.le_of_ble_eq_true rfl), (Nat.le_of_ble_eq_true rfl)⟩ hl.1 (Nat.le_of_ble_eq_true rfl) dX6_init_133 (fun t3 H locs hw => ?_)
  have hw : ni_W D (va_A [(h0, .inr (6, [.null, .null, .null, .null, .int 0, .null, .null, .null, .null, .null]))] ss.heap.size) ss.heap (((h0, .inr (6, [.ref q1, .ref q2, .ref q3, .ref q4, .int 0, .ref q5, .ref q6, .ref q7, .ref q8, .null])) :: (((((((([] ++ nw_X5 cy q1 u1) ++ nw_X1 cy q2 u2) ++ nw_X5 cy q3 u3) ++ nw_X1 cy q4 u4) ++ nw_X5 cy q5 u5) ++ nw_X2 cy q6 u6) ++ nw_X0 cy q7 u7) ++ nw_X4 cy q8 u8)) ++ (qa, .inl (cy 3, 4, .inr (.inr (.inr (.inr (va_up (va_up (va_up (fun _ => none) (0 : Int32).toNatClampNeg (some s0)) (1 : Int32).toNatClampNeg (some s1)) (2 : Int32).toNatClampNeg (some s2))))))) :: (((([] ++ nw_X3 cy s0 t0) ++ nw_X3 cy s1 t1) ++ nw_X3 cy s2 t2) ++ nw_X3 cy s3 t3)) H locs := ni_W.eq (List.append_assoc _ _ _) hw
  refine ni_ast S hK.1 hw (t0 := 3) (r := (RX3, TX3, 3)) rfl (List.mem_append_right _ (List.mem_cons_of_mem _ (List.mem_append_right _ (nm_X3 cy s3 t3)))) rfl (by unfold vp_in; decide) dX6_init_136 (fun H locs hw => ?_)
  have hw : ni_W D (va_A [(h0, .inr (6, [.null, .null, .null, .null, .int 0, .null, .null, .null, .null, .null]))] ss.heap.size) ss.heap ((h0, .inr (6, [.ref q1, .ref q2, .ref q3, .ref q4, .int 0, .ref q5, .ref q6, .ref q7, .ref q8, .null])) :: ((((((((([] ++ nw_X5 cy q1 u1) ++ nw_X1 cy q2 u2) ++ nw_X5 cy q3 u3) ++ nw_X1 cy q4 u4) ++ nw_X5 cy q5 u5) ++ nw_X2 cy q6 u6) ++ nw_X0 cy q7 u7) ++ nw_X4 cy q8 u8) ++ (qa, .inl (cy 3, 4, .inr (.inr (.inr (.inr (va_up (va_up (va_up (va_up (fun _ => none) (0 : Int32).toNatClampNeg (some s0)) (1 : Int32).toNatClampNeg (some s1)) (2 : Int32).toNatClampNeg (some s2)) (3 : Int32).toNatClampNeg (some s3))))))) :: (((([] ++ nw_X3 cy s0 t0) ++ nw_X3 cy s1 t1) ++ nw_X3 cy s2 t2) ++ nw_X3 cy s3 t3))) H locs := hw
  refine ni_putF S hK.1 hw hnm rfl nnin6 tyX6 tyX6_ok nmX6 9 (by decide) tb_1_174 rfl rfl rfl rfl (Nat.le_of_ble_eq_true rfl) rfl dX6_init_137 (fun H locs hw => ?_)
  have hw : ni_W D (va_A [(h0, .inr (6, [.null, .null, .null, .null, .int 0, .null, .null, .null, .null, .null]))] ss.heap.size) ss.heap (((h0, .inr (6, [.ref q1, .ref q2, .ref q3, .ref q4, .int 0, .ref q5, .ref q6, .ref q7, .ref q8, .ref qa])) :: (((((((([] ++ nw_X5 cy q1 u1) ++ nw_X1 cy q2 u2) ++ nw_X5 cy q3 u3) ++ nw_X1 cy q4 u4) ++ nw_X5 cy q5 u5) ++ nw_X2 cy q6 u6) ++ nw_X0 cy q7 u7) ++ nw_X4 cy q8 u8)) ++ (qa, .inl (cy 3, 4, .inr (.inr (.inr (.inr (va_up (va_up (va_up (va_up (fun _ => none) (0 : Int32).toNatClampNeg (some s0)) (1 : Int32).toNatClampNeg (some s1)) (2 : Int32).toNatClampNeg (some s2)) (3 : Int32).toNatClampNeg (some s3))))))) :: (((([] ++ nw_X3 cy s0 t0) ++ nw_X3 cy s1 t1) ++ nw_X3 cy s2 t2) ++ nw_X3 cy s3 t3)) H locs := hw
  have hw := ni_arr (g := fun j => some (([(s0, t0), (s1, t1), (s2, t2), (s3, t3)][j]?).getD (s0, t0)).1) (fun j hj => by rcases j with _ | _ | _ | _ | j <;> first | rfl | omega) hw
  refine W.widen (k := 135) (n := 951) (Nat.le_of_ble_eq_true rfl) (Nat.le_of_ble_eq_true rfl) ?_
  exact ni_ret (w := nw_X6 cy h0) S hr hlk ((q1, u1), (q2, u2), (q3, u3), (q4, u4), (q5, u5), (q6, u6), (q7, u7), (q8, u8), qa, fun j => ([(s0, t0), (s1, t1), (s2, t2), (s3, t3)][j]?).getD (s0, t0)) hw dX6_init_140
theorem mi_X6 : ni_mI yX6_init cX6_init 1 := ⟨tb_1_16, tb_1_1, tb_1_17, ⟨by decide +kernel, by decide +kernel, by decide +kernel⟩, rfl⟩
