/-! the histories are made -/
theorem ni_arr {D : va_G} {A : Nat → Prop} {H0 H : Heap} {locs : List Loc} {P R1 : va_W} {qa n : Nat} {cA : ClassId} {f g : Nat → Option Nat} (h : ∀ j, j < n → f j = g j) (hw : ni_W D A H0 (P ++ (qa, .inl (cA, n, .inr (.inr (.inr (.inr f))))) :: R1) H locs) : ni_W D A H0 (P ++ (qa, .inl (cA, n, .inr (.inr (.inr (.inr g))))) :: R1) H locs := by
  have ec : vp_cell cA (n, .inr (.inr (.inr (.inr f)))) = vp_cell cA (n, .inr (.inr (.inr (.inr g)))) := by
    rw [vp_cell_q, vp_cell_q]
    unfold arrV
    congr 2
    funext j
    show va_rf (f j.val) = va_rf (g j.val)
    rw [h j.val j.isLt]
  have hk : ∀ (k : Nat) (x : Nat × va_E), (P ++ (qa, .inl (cA, n, .inr (.inr (.inr (.inr g))))) :: R1)[k]? = some x → ∃ y, (P ++ (qa, .inl (cA, n, .inr (.inr (.inr (.inr f))))) :: R1)[k]? = some y ∧ y.1 = x.1 ∧ (k = P.length → x = (qa, .inl (cA, n, .inr (.inr (.inr (.inr g)))))) ∧ (k ≠ P.length → y = x) := by
    intro k x hx
    by_cases e : k = P.length
    · subst e
      rw [ni_mid] at hx
      cases hx
      exact ⟨_, ni_mid _ _ P, rfl, fun _ => rfl, fun h => absurd rfl h⟩
    · rw [← ni_set (qa, .inl (cA, n, .inr (.inr (.inr (.inr g))))) (qa, .inl (cA, n, .inr (.inr (.inr (.inr f))))) R1 P, List.getElem?_set_ne (Ne.symm e)] at hx
      exact ⟨x, hx, rfl, fun h => absurd h e, fun _ => rfl⟩
  refine ⟨fun k x hx => ?_, ⟨fun i j x y hx hy hxy => ?_, fun k x hx => ?_⟩, hw.2.2⟩
  · obtain ⟨y, h1, h2, h3, h4⟩ := hk k x hx
    by_cases e : k = P.length
    · rw [h3 e]
      subst e
      have := hw.1 P.length _ (ni_mid _ _ P)
      show H[qa]? = some (vp_cell cA (n, .inr (.inr (.inr (.inr g)))))
      rw [← ec]; exact this
    · rw [← h4 e]; exact hw.1 k y h1
  · obtain ⟨x2, h1, h2, -⟩ := hk i x hx
    obtain ⟨y2, h3, h4, -⟩ := hk j y hy
    exact hw.2.1.1 i j x2 y2 h1 h3 (by rw [h2, h4]; exact hxy)
  · obtain ⟨x2, h1, h2, -⟩ := hk k x hx
    rw [← h2]; exact hw.2.1.2 k x2 h1
theorem df_X5 : ∀ j, j < 8 → defaultValue (tyX5 j) = vp_V [.null, .null, .null, .null, .null, .int 0, .int 0, .int 0] j := by
  intro j hj
  rcases j with _ | _ | _ | _ | _ | _ | _ | _ | j <;> first | rfl | omega
theorem df_X3 : ∀ j, j < 3 → defaultValue (tyX3 j) = vp_V [.null, .int 0, .int 0] j := by
  intro j hj
  rcases j with _ | _ | _ | j <;> first | rfl | omega
theorem df_X1 : ∀ j, j < 3 → defaultValue (tyX1 j) = vp_V [.null, .int 0, .int 0] j := by
  intro j hj
  rcases j with _ | _ | _ | j <;> first | rfl | omega
theorem df_X2 : ∀ j, j < 3 → defaultValue (tyX2 j) = vp_V [.null, .null, .int 0] j := by
  intro j hj
  rcases j with _ | _ | _ | j <;> first | rfl | omega
theorem df_X0 : ∀ j, j < 4 → defaultValue (tyX0 j) = vp_V [.null, .null, .int 0, .int 0] j := by
  intro j hj
  rcases j with _ | _ | _ | _ | j <;> first | rfl | omega
theorem df_X4 : ∀ j, j < 4 → defaultValue (tyX4 j) = vp_V [.null, .int 0, .int 0, .int 0] j := by
  intro j hj
  rcases j with _ | _ | _ | _ | j <;> first | rfl | omega
theorem nm_X5 (cy : Nat → ClassId) (h0 : Nat) (u : Nat × Nat × Nat × Nat × Nat) : (h0, .inr (5, [.ref u.1, .ref u.2.1, .ref u.2.2.1, .ref u.2.2.2.1, .ref u.2.2.2.2, .int 0, .int 0, .int 1])) ∈ nw_X5 cy h0 u := List.mem_cons_self
theorem nm_X3 (cy : Nat → ClassId) (h0 : Nat) (u : Nat) : (h0, .inr (3, [.ref u, .int (-1), .int 0])) ∈ nw_X3 cy h0 u := List.mem_cons_self
def nw_X1 (cy : Nat → ClassId) (h0 : Nat) (u : Nat × (Nat → Nat × Nat × Nat × Nat × Nat × Nat)) : va_W := [(h0, .inr (1, [.ref u.1, .int 0, .int 0]))] ++ (u.1, .inl (cy 4, 8, .inr (.inr (.inr (.inr (fun j => some (u.2 j).1)))))) :: (((((((([] ++ nw_X5 cy (u.2 0).1 (u.2 0).2) ++ nw_X5 cy (u.2 1).1 (u.2 1).2) ++ nw_X5 cy (u.2 2).1 (u.2 2).2) ++ nw_X5 cy (u.2 3).1 (u.2 3).2) ++ nw_X5 cy (u.2 4).1 (u.2 4).2) ++ nw_X5 cy (u.2 5).1 (u.2 5).2) ++ nw_X5 cy (u.2 6).1 (u.2 6).2) ++ nw_X5 cy (u.2 7).1 (u.2 7).2)
set_option maxRecDepth 100000 in
set_option maxHeartbeats 4000000 in
theorem ci_X1 (l : Launch) (D : va_G) (cy : Nat → ClassId) (h0 : Nat) : ni_I l yX1_init cX1_init 1 2 49 312 D cy h0 (.inr (1, [.null, .int 0, .int 0])) (nw_X1 cy h0) := by
  refine ni_enter (plainFor_of_name (by decide +kernel)) rfl (by decide) ?_
  intro pp ee ss mm bb me co S hr hlk hnm hK hA hw ls hl
  have hx := S.1
  have hb := S.2.1
  refine lv_aload_n hx hb dX1_init_0 rfl (lv_at hl 0 rfl) ?_
  refine ni_obj S tb_1_70 hl.1 dX1_init_1 (Nat.le_of_ble_eq_true rfl) (Nat.le_of_ble_eq_true rfl) ?_
  refine lv_aload_n hx hb dX1_init_4 rfl (lv_at hl 0 rfl) ?_
  refine lv_bipush (v := 8) hx hb dX1_init_5 (by decide) ?_
  refine ni_newV S hK hA hw tb_1_71 (N := 8) (by decide) (by decide) (Nat.le_of_ble_eq_true rfl) (Nat.le_of_ble_eq_true rfl) (Nat.le_of_ble_eq_true rfl) dX1_init_7 (fun qa H hw => ?_)
  have hw : ni_W D (va_A [(h0, .inr (1, [.null, .int 0, .int 0]))] ss.heap.size) ss.heap ([(h0, .inr (1, [.null, .int 0, .int 0]))] ++ (qa, .inl (cy 4, 8, .inr (.inr (.inr (.inr (fun _ => none)))))) :: []) H _ := hw
  refine lv_dup hx hb dX1_init_10 rfl ?_
  refine lv_iconst (v := 0) hx hb dX1_init_11 (by decide) ?_
  refine ni_new (ci := 5) S hK.1 hA hw rfl nnin5 tyX5 tyX5_ok tb_1_71 tb_1_22 tb_1_2 df_X5 (Nat.le_of_ble_eq_true rfl) (Nat.le_of_ble_eq_true rfl) dX1_init_12 (fun q0 H hw => ?_)
  refine lv_dup hx hb dX1_init_15 rfl ?_
  refine ni_callN S hK hA hw (ci_X5 l D cy q0) mi_X5 (nw_2 hK.1.2) ⟨(Nat.le_of_ble_eq_true rfl), (Nat.le_of_ble_eq_true rfl)⟩ ⟨(Nat.le_of_ble_eq_true rfl), (Nat.le_of_ble_eq_true rfl)⟩ hl.1 (Nat.le_of_ble_eq_true rfl) dX1_init_16 (fun u0 H locs hw => ?_)
  have hw : ni_W D (va_A [(h0, .inr (1, [.null, .int 0, .int 0]))] ss.heap.size) ss.heap ([(h0, .inr (1, [.null, .int 0, .int 0]))] ++ (qa, .inl (cy 4, 8, .inr (.inr (.inr (.inr (fun _ => none)))))) :: ([] ++ nw_X5 cy q0 u0)) H locs := ni_W.eq (List.append_assoc _ _ _) hw
  refine ni_ast S hK.1 hw (t0 := 4) (r := (RX5, TX5, 8)) rfl (List.mem_append_right _ (List.mem_cons_of_mem _ (List.mem_append_right _ (nm_X5 cy q0 u0)))) rfl (by unfold vp_in; decide) dX1_init_19 (fun H locs hw => ?_)
  refine lv_dup hx hb dX1_init_20 rfl ?_
  refine lv_iconst (v := 1) hx hb dX1_init_21 (by decide) ?_
  refine ni_new (ci := 5) S hK.1 hA hw rfl nnin5 tyX5 tyX5_ok tb_1_71 tb_1_22 tb_1_2 df_X5 (Nat.le_of_ble_eq_true rfl) (Nat.le_of_ble_eq_true rfl) dX1_init_22 (fun q1 H hw => ?_)
  refine lv_dup hx hb dX1_init_25 rfl ?_
  refine ni_callN S hK hA hw (ci_X5 l D cy q1) mi_X5 (nw_2 hK.1.2) ⟨(Nat.le_of_ble_eq_true rfl), (Nat.le_of_ble_eq_true rfl)⟩ ⟨(Nat.le_of_ble_eq_true rfl), (Nat.le_of_ble_eq_true rfl)⟩ hl.1 (Nat.le_of_ble_eq_true rfl) dX1_init_26 (fun u1 H locs hw => ?_)
  have hw : ni_W D (va_A [(h0, .inr (1, [.null, .int 0, .int 0]))] ss.heap.size) ss.heap ([(h0, .inr (1, [.null, .int 0, .int 0]))] ++ (qa, .inl (cy 4, 8, .inr (.inr (.inr (.inr (va_up (fun _ => none) (0 : Int32).toNatClampNeg (some q0))))))) :: (([] ++ nw_X5 cy q0 u0) ++ nw_X5 cy q1 u1)) H locs := ni_W.eq (List.append_assoc _ _ _) hw
  refine ni_ast S hK.1 hw (t0 := 4) (r := (RX5, TX5, 8)) rfl (List.mem_append_right _ (List.mem_cons_of_mem _ (List.mem_append_right _ (nm_X5 cy q1 u1)))) rfl (by unfold vp_in; decide) dX1_init_29 (fun H locs hw => ?_)
  refine lv_dup hx hb dX1_init_30 rfl ?_
  refine lv_iconst (v := 2) hx hb dX1_init_31 (by decide) ?_
  refine ni_new (ci := 5) S hK.1 hA hw rfl nnin5 tyX5 tyX5_ok tb_1_71 tb_1_22 tb_1_2 df_X5 (Nat.le_of_ble_eq_true rfl) (Nat.le_of_ble_eq_true rfl) dX1_init_32 (fun q2 H hw => ?_)
  refine lv_dup hx hb dX1_init_35 rfl ?_
  refine ni_callN S hK hA hw (ci_X5 l D cy q2) mi_X5 (nw_2 hK.1.2) ⟨(Nat.le_of_ble_eq_true rfl), (Nat.le_of_ble_eq_true rfl)⟩ ⟨(Nat.le_of_ble_eq_true rfl), (Nat.le_of_ble_eq_true rfl)⟩ hl.1 (Nat.le_of_ble_eq_true rfl) dX1_init_36 (fun u2 H locs hw => ?_)
  have hw : ni_W D (va_A [(h0, .inr (1, [.null, .int 0, .int 0]))] ss.heap.size) ss.heap ([(h0, .inr (1, [.null, .int 0, .int 0]))] ++ (qa, .inl (cy 4, 8, .inr (.inr (.inr (.inr (va_up (va_up (fun _ => none) (0 : Int32).toNatClampNeg (some q0)) (1 : Int32).toNatClampNeg (some q1))))))) :: ((([] ++ nw_X5 cy q0 u0) ++ nw_X5 cy q1 u1) ++ nw_X5 cy q2 u2)) H locs := ni_W.eq (List.append_assoc _ _ _) hw
  refine ni_ast S hK.1 hw (t0 := 4) (r := (RX5, TX5, 8)) rfl (List.mem_append_right _ (List.mem_cons_of_mem _ (List.mem_append_right _ (nm_X5 cy q2 u2)))) rfl (by unfold vp_in; decide) dX1_init_39 (fun H locs hw => ?_)
  refine lv_dup hx hb dX1_init_40 rfl ?_
  refine lv_iconst (v := 3) hx hb dX1_init_41 (by decide) ?_
  refine ni_new (ci := 5) S hK.1 hA hw rfl nnin5 tyX5 tyX5_ok tb_1_71 tb_1_22 tb_1_2 df_X5 (Nat.le_of_ble_eq_true rfl) (Nat.le_of_ble_eq_true rfl) dX1_init_42 (fun q3 H hw => ?_)
  refine lv_dup hx hb dX1_init_45 rfl ?_
  refine ni_callN S hK hA hw (ci_X5 l D cy q3) mi_X5 (nw_2 hK.1.2) ⟨(Nat.le_of_ble_eq_true rfl), (Nat.le_of_ble_eq_true rfl)⟩ ⟨(Nat.le_of_ble_eq_true rfl), (Nat.le_of_ble_eq_true rfl)⟩ hl.1 (Nat.le_of_ble_eq_true rfl) dX1_init_46 (fun u3 H locs hw => ?_)
  have hw : ni_W D (va_A [(h0, .inr (1, [.null, .int 0, .int 0]))] ss.heap.size) ss.heap ([(h0, .inr (1, [.null, .int 0, .int 0]))] ++ (qa, .inl (cy 4, 8, .inr (.inr (.inr (.inr (va_up (va_up (va_up (fun _ => none) (0 : Int32).toNatClampNeg (some q0)) (1 : Int32).toNatClampNeg (some q1)) (2 : Int32).toNatClampNeg (some q2))))))) :: (((([] ++ nw_X5 cy q0 u0) ++ nw_X5 cy q1 u1) ++ nw_X5 cy q2 u2) ++ nw_X5 cy q3 u3)) H locs := ni_W.eq (List.append_assoc _ _ _) hw
  refine ni_ast S hK.1 hw (t0 := 4) (r := (RX5, TX5, 8)) rfl (List.mem_append_right _ (List.mem_cons_of_mem _ (List.mem_append_right _ (nm_X5 cy q3 u3)))) rfl (by unfold vp_in; decide) dX1_init_49 (fun H locs hw => ?_)
  refine lv_dup hx hb dX1_init_50 rfl ?_
  refine lv_iconst (v := 4) hx hb dX1_init_51 (by decide) ?_
  refine ni_new (ci := 5) S hK.1 hA hw rfl nnin5 tyX5 tyX5_ok tb_1_71 tb_1_22 tb_1_2 df_X5 (Nat.le_of_ble_eq_true rfl) (Nat.le_of_ble_eq_true rfl) dX1_init_52 (fun q4 H hw => ?_)
  refine lv_dup hx hb dX1_init_55 rfl ?_
  refine ni_callN S hK hA hw (ci_X5 l D cy q4) mi_X5 (nw_2 hK.1.2) ⟨(Nat.le_of_ble_eq_true rfl), (Nat.le_of_ble_eq_true rfl)⟩ ⟨(Nat.le_of_ble_eq_true rfl), (Nat.le_of_ble_eq_true rfl)⟩ hl.1 (Nat.le_of_ble_eq_true rfl) dX1_init_56 (fun u4 H locs hw => ?_)
  have hw : ni_W D (va_A [(h0, .inr (1, [.null, .int 0, .int 0]))] ss.heap.size) ss.heap ([(h0, .inr (1, [.null, .int 0, .int 0]))] ++ (qa, .inl (cy 4, 8, .inr (.inr (.inr (.inr (va_up (va_up (va_up (va_up (fun _ => none) (0 : Int32).toNatClampNeg (some q0)) (1 : Int32).toNatClampNeg (some q1)) (2 : Int32).toNatClampNeg (some q2)) (3 : Int32).toNatClampNeg (some q3))))))) :: ((((([] ++ nw_X5 cy q0 u0) ++ nw_X5 cy q1 u1) ++ nw_X5 cy q2 u2) ++ nw_X5 cy q3 u3) ++ nw_X5 cy q4 u4)) H locs := ni_W.eq (List.append_assoc _ _ _) hw
  refine ni_ast S hK.1 hw (t0 := 4) (r := (RX5, TX5, 8)) rfl (List.mem_append_right _ (List.mem_cons_of_mem _ (List.mem_append_right _ (nm_X5 cy q4 u4)))) rfl (by unfold vp_in; decide) dX1_init_59 (fun H locs hw => ?_)
  refine lv_dup hx hb dX1_init_60 rfl ?_
  refine lv_iconst (v := 5) hx hb dX1_init_61 (by decide) ?_
  refine ni_new (ci := 5) S hK.1 hA hw rfl nnin5 tyX5 tyX5_ok tb_1_71 tb_1_22 tb_1_2 df_X5 (Nat.le_of_ble_eq_true rfl) (Nat.le_of_ble_eq_true rfl) dX1_init_62 (fun q5 H hw => ?_)
  refine lv_dup hx hb dX1_init_65 rfl ?_
  refine ni_callN S hK hA hw (ci_X5 l D cy q5) mi_X5 (nw_2 hK.1.2) ⟨(Nat.le_of_ble_eq_true rfl), (Nat.le_of_ble_eq_true rfl)⟩ ⟨(Nat.le_of_ble_eq_true rfl), (Nat.le_of_ble_eq_true rfl)⟩ hl.1 (Nat.le_of_ble_eq_true rfl) dX1_init_66 (fun u5 H locs hw => ?_)
  have hw : ni_W D (va_A [(h0, .inr (1, [.null, .int 0, .int 0]))] ss.heap.size) ss.heap ([(h0, .inr (1, [.null, .int 0, .int 0]))] ++ (qa, .inl (cy 4, 8, .inr (.inr (.inr (.inr (va_up (va_up (va_up (va_up (va_up (fun _ => none) (0 : Int32).toNatClampNeg (some q0)) (1 : Int32).toNatClampNeg (some q1)) (2 : Int32).toNatClampNeg (some q2)) (3 : Int32).toNatClampNeg (some q3)) (4 : Int32).toNatClampNeg (some q4))))))) :: (((((([] ++ nw_X5 cy q0 u0) ++ nw_X5 cy q1 u1) ++ nw_X5 cy q2 u2) ++ nw_X5 cy q3 u3) ++ nw_X5 cy q4 u4) ++ nw_X5 cy q5 u5)) H locs := ni_W.eq (List.append_assoc _ _ _) hw
  refine ni_ast S hK.1 hw (t0 := 4) (r := (RX5, TX5, 8)) rfl (List.mem_append_right _ (List.mem_cons_of_mem _ (List.mem_append_right _ (nm_X5 cy q5 u5)))) rfl (by unfold vp_in; decide) dX1_init_69 (fun H locs hw => ?_)
  refine lv_dup hx hb dX1_init_70 rfl ?_
  refine lv_bipush (v := 6) hx hb dX1_init_71 (by decide) ?_
  refine ni_new (ci := 5) S hK.1 hA hw rfl nnin5 tyX5 tyX5_ok tb_1_71 tb_1_22 tb_1_2 df_X5 (Nat.le_of_ble_eq_true rfl) (Nat.le_of_ble_eq_true rfl) dX1_init_73 (fun q6 H hw => ?_)
  refine lv_dup hx hb dX1_init_76 rfl ?_
  refine ni_callN S hK hA hw (ci_X5 l D cy q6) mi_X5 (nw_2 hK.1.2) ⟨(Nat.le_of_ble_eq_true rfl), (Nat.le_of_ble_eq_true rfl)⟩ ⟨(Nat.le_of_ble_eq_true rfl), (Nat.le_of_ble_eq_true rfl)⟩ hl.1 (Nat.le_of_ble_eq_true rfl) dX1_init_77 (fun u6 H locs hw => ?_)
  have hw : ni_W D (va_A [(h0, .inr (1, [.null, .int 0, .int 0]))] ss.heap.size) ss.heap ([(h0, .inr (1, [.null, .int 0, .int 0]))] ++ (qa, .inl (cy 4, 8, .inr (.inr (.inr (.inr (va_up (va_up (va_up (va_up (va_up (va_up (fun _ => none) (0 : Int32).toNatClampNeg (some q0)) (1 : Int32).toNatClampNeg (some q1)) (2 : Int32).toNatClampNeg (some q2)) (3 : Int32).toNatClampNeg (some q3)) (4 : Int32).toNatClampNeg (some q4)) (5 : Int32).toNatClampNeg (some q5))))))) :: ((((((([] ++ nw_X5 cy q0 u0) ++ nw_X5 cy q1 u1) ++ nw_X5 cy q2 u2) ++ nw_X5 cy q3 u3) ++ nw_X5 cy q4 u4) ++ nw_X5 cy q5 u5) ++ nw_X5 cy q6 u6)) H locs := ni_W.eq (List.append_assoc _ _ _) hw
  refine ni_ast S hK.1 hw (t0 := 4) (r := (RX5, TX5, 8)) rfl (List.mem_append_right _ (List.mem_cons_of_mem _ (List.mem_append_right _ (nm_X5 cy q6 u6)))) rfl (by unfold vp_in; decide) dX1_init_80 (fun H locs hw => ?_)
  refine lv_dup hx hb dX1_init_81 rfl ?_
  refine lv_bipush (v := 7) hx hb dX1_init_82 (by decide) ?_
  refine ni_new (ci := 5) S hK.1 hA hw rfl nnin5 tyX5 tyX5_ok tb_1_71 tb_1_22 tb_1_2 df_X5 (Nat.le_of_ble_eq_true rfl) (Nat.le_of_ble_eq_true rfl) dX1_init_84 (fun q7 H hw => ?_)
  refine lv_dup hx hb dX1_init_87 rfl ?_
  refine ni_callN S hK hA hw (ci_X5 l D cy q7) mi_X5 (nw_2 hK.1.2) ⟨(Nat.le_of_ble_eq_true rfl), (Nat.le_of_ble_eq_true rfl)⟩ ⟨(Nat.le_of_ble_eq_true rfl), (Nat.le_of_ble_eq_true rfl)⟩ hl.1 (Nat.le_of_ble_eq_true rfl) dX1_init_88 (fun u7 H locs hw => ?_)
  have hw : ni_W D (va_A [(h0, .inr (1, [.null, .int 0, .int 0]))] ss.heap.size) ss.heap ([(h0, .inr (1, [.null, .int 0, .int 0]))] ++ (qa, .inl (cy 4, 8, .inr (.inr (.inr (.inr (va_up (va_up (va_up (va_up (va_up (va_up (va_up (fun _ => none) (0 : Int32).toNatClampNeg (some q0)) (1 : Int32).toNatClampNeg (some q1)) (2 : Int32).toNatClampNeg (some q2)) (3 : Int32).toNatClampNeg (some q3)) (4 : Int32).toNatClampNeg (some q4)) (5 : Int32).toNatClampNeg (some q5)) (6 : Int32).toNatClampNeg (some q6))))))) :: (((((((([] ++ nw_X5 cy q0 u0) ++ nw_X5 cy q1 u1) ++ nw_X5 cy q2 u2) ++ nw_X5 cy q3 u3) ++ nw_X5 cy q4 u4) ++ nw_X5 cy q5 u5) ++ nw_X5 cy q6 u6) ++ nw_X5 cy q7 u7)) H locs := ni_W.eq (List.append_assoc _ _ _) hw
  refine ni_ast S hK.1 hw (t0 := 4) (r := (RX5, TX5, 8)) rfl (List.mem_append_right _ (List.mem_cons_of_mem _ (List.mem_append_right _ (nm_X5 cy q7 u7)))) rfl (by unfold vp_in; decide) dX1_init_91 (fun H locs hw => ?_)
  refine ni_putF S hK.1 hw hnm rfl nnin1 tyX1 tyX1_ok nmX1 0 (by decide) tb_1_74 rfl rfl rfl rfl (Nat.le_of_ble_eq_true rfl) rfl dX1_init_92 (fun H locs hw => ?_)
  refine lv_aload_n hx hb dX1_init_95 rfl (lv_at hl 0 rfl) ?_
  refine lv_iconst (v := 0) hx hb dX1_init_96 (by decide) ?_
  refine ni_put S hK.1 hw rfl nnin1 tyX1 tyX1_ok nmX1 1 (by decide) tb_1_75 rfl rfl rfl (Nat.le_of_ble_eq_true rfl) rfl dX1_init_97 (fun H locs hw => ?_)
  refine lv_aload_n hx hb dX1_init_100 rfl (lv_at hl 0 rfl) ?_
  refine lv_iconst (v := 0) hx hb dX1_init_101 (by decide) ?_
  refine ni_put S hK.1 hw rfl nnin1 tyX1 tyX1_ok nmX1 2 (by decide) tb_1_76 rfl rfl rfl (Nat.le_of_ble_eq_true rfl) rfl dX1_init_102 (fun H locs hw => ?_)
  have hw : ni_W D (va_A [(h0, .inr (1, [.null, .int 0, .int 0]))] ss.heap.size) ss.heap ([(h0, .inr (1, [.ref qa, .int 0, .int 0]))] ++ (qa, .inl (cy 4, 8, .inr (.inr (.inr (.inr (va_up (va_up (va_up (va_up (va_up (va_up (va_up (va_up (fun _ => none) (0 : Int32).toNatClampNeg (some q0)) (1 : Int32).toNatClampNeg (some q1)) (2 : Int32).toNatClampNeg (some q2)) (3 : Int32).toNatClampNeg (some q3)) (4 : Int32).toNatClampNeg (some q4)) (5 : Int32).toNatClampNeg (some q5)) (6 : Int32).toNatClampNeg (some q6)) (7 : Int32).toNatClampNeg (some q7))))))) :: (((((((([] ++ nw_X5 cy q0 u0) ++ nw_X5 cy q1 u1) ++ nw_X5 cy q2 u2) ++ nw_X5 cy q3 u3) ++ nw_X5 cy q4 u4) ++ nw_X5 cy q5 u5) ++ nw_X5 cy q6 u6) ++ nw_X5 cy q7 u7)) H locs := hw
  have hw := ni_arr (g := fun j => some (([(q0, u0), (q1, u1), (q2, u2), (q3, u3), (q4, u4), (q5, u5), (q6, u6), (q7, u7)][j]?).getD (q0, u0)).1) (fun j hj => by rcases j with _ | _ | _ | _ | _ | _ | _ | _ | j <;> first | rfl | omega) hw
  refine W.widen (k := 49) (n := 312) (Nat.le_of_ble_eq_true rfl) (Nat.le_of_ble_eq_true rfl) ?_
  exact ni_ret (w := nw_X1 cy h0) S hr hlk (qa, fun j => ([(q0, u0), (q1, u1), (q2, u2), (q3, u3), (q4, u4), (q5, u5), (q6, u6), (q7, u7)][j]?).getD (q0, u0)) hw dX1_init_105
theorem mi_X1 : ni_mI yX1_init cX1_init 1 := ⟨tb_1_68, tb_1_3, tb_1_69, ⟨by decide +kernel, by decide +kernel, by decide +kernel⟩, rfl⟩
