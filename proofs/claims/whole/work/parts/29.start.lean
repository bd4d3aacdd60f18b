/-! the start: what the tables give, the two objects made, the loop -/
theorem df_X6 : ∀ j, j < 10 → defaultValue (tyX6 j) = vp_V [.null, .null, .null, .null, .int 0, .null, .null, .null, .null, .null] j := by
  intro j hj
  rcases j with _ | _ | _ | _ | _ | _ | _ | _ | _ | _ | j <;> first | rfl | omega
theorem df_X7 : ∀ j, j < 21 → defaultValue (tyX7 j) = vp_V [.null, .null, .null, .int 0, .int 0, .int 0, .null, .null, .int 0, .null, .int 0, .null, .null, .null, .null, .int 0, .int 0, .null, .null, .null, .null] j := by
  intro j hj
  rcases j with _ | _ | _ | _ | _ | _ | _ | _ | _ | _ | _ | _ | _ | _ | _ | _ | _ | _ | _ | _ | _ | j <;> first | rfl | omega
set_option maxRecDepth 100000 in
set_option maxHeartbeats 4000000 in
theorem wh_K {U : State} {args : Array Value} (hts : ∀ w ∈ lw_tbl, w.before args U = true) : ∃ (D : va_G) (cy : Nat → ClassId), ni_K D cy U := by
  have hB : ∀ w ∈ nn_B, w.before args U = true := fun w hw => hts w (List.mem_filter.mp hw).1
  obtain ⟨c0, s0, k0⟩ := u_known (C := RX0) (T := TX0) (N := 4) (n := 4) hB nnin0 (hB _ tb_1_103)
  obtain ⟨c1, s1, k1⟩ := u_known (C := RX1) (T := TX1) (N := 3) (n := 3) hB nnin1 (hB _ tb_1_66)
  obtain ⟨c2, s2, k2⟩ := u_known (C := RX2) (T := TX2) (N := 3) (n := 3) hB nnin2 (hB _ tb_1_86)
  obtain ⟨c3, s3, k3⟩ := u_known (C := RX3) (T := TX3) (N := 3) (n := 3) hB nnin3 (hB _ tb_1_146)
  obtain ⟨c4, s4, k4⟩ := u_known (C := RX4) (T := TX4) (N := 4) (n := 4) hB nnin4 (hB _ tb_1_124)
  obtain ⟨c5, s5, k5⟩ := u_known (C := RX5) (T := TX5) (N := 8) (n := 8) hB nnin5 (hB _ tb_1_22)
  obtain ⟨c6, s6, k6⟩ := u_known (C := RX6) (T := TX6) (N := 10) (n := 10) hB nnin6 (hB _ tb_1_14)
  obtain ⟨c7, s7, k7⟩ := u_known (C := RX7) (T := TX7) (N := 21) (n := 21) hB nnin7 (hB _ tb_3_140)
  obtain ⟨cI, kI, pI, fI, gI, jI⟩ := Cond.arrayClass_spec (hB _ tb_1_64)
  obtain ⟨cC, kC, pC, fC, gC, jC⟩ := Cond.arrayClass_spec (hB _ tb_1_143)
  obtain ⟨cL, kL, pL, fL, gL, jL⟩ := Cond.arrayClass_spec (hB _ tb_1_164)
  obtain ⟨pS, cS, kS, fS, _, gS, jS, nS⟩ := Cond.arrayOver_spec (hts _ tb_1_145)
  obtain ⟨pV, cV, kV, fV, _, gV, jV, nV⟩ := Cond.arrayOver_spec (hts _ tb_1_72)
  refine ⟨(fun k => ([c0, c1, c2, c3, c4, c5, c6, c7][k]?).getD c0, fun k => ([s0, s1, s2, s3, s4, s5, s6, s7][k]?).getD s0), fun k => ([cI, cC, cL, cS, cV][k]?).getD cI, ⟨⟨fun c q hq => ?_, fun k q hq => ?_⟩, nn_N.of hts⟩, va_AO.of (hts _ tb_1_72), va_AO.of (hts _ tb_1_145)⟩
  · rcases c with _ | _ | _ | _ | _ | _ | _ | _ | c
    · cases hq; exact k0
    · cases hq; exact k1
    · cases hq; exact k2
    · cases hq; exact k3
    · cases hq; exact k4
    · cases hq; exact k5
    · cases hq; exact k6
    · cases hq; exact k7
    · have h1 := (List.getElem?_eq_some_iff.mp hq).1
      simp at h1
      omega
  · rcases k with _ | _ | _ | _ | _ | k
    · cases hq; exact ⟨fun n z => ⟨fun k h => (by cases h), kI, gI, pI, jI⟩, fI⟩
    · cases hq; exact ⟨fun n z => ⟨fun k h => (by cases h), kC, gC, pC, jC⟩, fC⟩
    · cases hq; exact ⟨fun n z => ⟨fun k h => (by cases h), kL, gL, pL, jL⟩, fL⟩
    · cases hq; exact ⟨fun n z => ⟨fun k h => (by cases h), kS, gS, pS, jS⟩, kS, pS, gS, jS, fS, nS⟩
    · cases hq; exact ⟨fun n z => ⟨fun k h => (by cases h), kV, gV, pV, jV⟩, kV, pV, gV, jV, fV, nV⟩
    · have h1 := (List.getElem?_eq_some_iff.mp hq).1
      simp [nn_t] at h1
      omega
set_option maxRecDepth 100000 in
set_option maxHeartbeats 4000000 in
/-- YOUR PART: from the entry, for every script of at most 3584 ints, the law comes to its end with true -/
theorem whole_start {p : Program} {e : Env} {s : State} {m : MethodId} {below : List Frame} {meth : Method} {c : Code} (l : Launch) {b L : Nat} {xs : Nat → Int32} (hL : L ≤ 3584) (C0 : lw_At p s m meth c b L xs) : W p l e room_1 s m #[Value.ref b] below meth c s.heap [] 0 0 (lw_Z below #[Value.ref b] s) (entryFrame m ([Value.ref b] : List Value).toArray 4) := by
  have C1 := C0
  obtain ⟨hx, hb, hr, hml, hown, hts0, hX, hbl, hlk, hgv⟩ := C0
  have hts : ∀ w ∈ nn_B, w.before #[Value.ref b] s = true := fun w hw => hts0 w (List.mem_filter.mp hw).1
  have S : CallFix p m c code 4 s #[Value.ref b] nn_B "NineNoonsLaw" := ⟨hx, hb, hml, hown, hts⟩
  obtain ⟨D, cy, hK⟩ := wh_K hts0
  have hA : ∀ q : Nat, s.heap.size ≤ q → (fun q : Nat => s.heap.size ≤ q) q := fun _ h => h
  have hw : ni_W D (fun q : Nat => s.heap.size ≤ q) s.heap [] s.heap [] := ⟨fun k q h => by simp at h, ⟨fun i j p q h => by simp at h, fun k q h => by simp at h⟩, va_S.rf⟩
  have hl := lv_entry ([.ref b]) (n := 4) (Nat.le_of_ble_eq_true rfl)
  rw [lg_entry_eq]
  generalize (lg_sl ([.ref b]) ++ List.replicate (4 - (lg_sl ([.ref b])).length) Slot.unset).toArray = ls at hl ⊢
  have hl : lv_has ls 4 [(0, .ref b)] := hl
  refine ni_new (ci := 6) S hK.1 hA hw rfl nnin6 tyX6 tyX6_ok tb_1_13 tb_1_14 tb_1_1 df_X6 (Nat.le_of_ble_eq_true rfl) (Nat.le_of_ble_eq_true rfl) dL_law_0 (fun q H hw => ?_)
  refine lv_dup hx hb dL_law_3 rfl ?_
  refine ni_callI (R0 := []) S hK hA hw (ci_X6 l D cy q) mi_X6 tb_1_15 ⟨(Nat.le_of_ble_eq_true rfl), (Nat.le_of_ble_eq_true rfl)⟩ ⟨(Nat.le_of_ble_eq_true rfl), (Nat.le_of_ble_eq_true rfl)⟩ hl.1 (Nat.le_of_ble_eq_true rfl) dL_law_4 (fun u H locs hw => ?_)
  refine lv_astore_n (lv' := [(1, .ref q), (0, .ref b)]) hx hb dL_law_7 rfl hl (by decide) rfl (fun ls hl => ?_)
  refine ni_new (ci := 7) S hK.1 hA hw rfl nnin7 tyX7 tyX7_ok tb_3_139 tb_3_140 tb_1_8 df_X7 (Nat.le_of_ble_eq_true rfl) (Nat.le_of_ble_eq_true rfl) dL_law_8 (fun q2 H hw => ?_)
  refine lv_dup hx hb dL_law_11 rfl ?_
  refine ni_callI S hK hA hw (ci_X7 l D cy q2) mi_X7 tb_3_141 ⟨(Nat.le_of_ble_eq_true rfl), (Nat.le_of_ble_eq_true rfl)⟩ ⟨(Nat.le_of_ble_eq_true rfl), (Nat.le_of_ble_eq_true rfl)⟩ hl.1 (Nat.le_of_ble_eq_true rfl) dL_law_12 (fun u2 H locs hw => ?_)
  refine lv_astore_n (lv' := [(2, .ref q2), (1, .ref q), (0, .ref b)]) hx hb dL_law_15 rfl hl (by decide) rfl (fun ls hl => ?_)
  refine lv_iconst (v := 0) hx hb dL_law_16 (by decide) ?_
  refine lv_istore_n (lv' := [(3, .int 0), (2, .ref q2), (1, .ref q), (0, .ref b)]) hx hb dL_law_17 rfl hl (by decide) rfl (fun ls hl => ?_)
  obtain ⟨a, b1, c1, d, e1, f, g, i, qa, sh⟩ := u
  refine W.widen (k := 600000) (n := 7302250) (Nat.le_of_ble_eq_true rfl) (Nat.le_of_ble_eq_true rfl) ?_
  have hl2 := lv_sub (l' := [(0, .ref b), (1, .ref q), (2, .ref q2), (3, .int 0)]) hl [3, 2, 1, 0] rfl
  have hw2 := nz_world cy q a b1 c1 d e1 f g i qa sh q2 u2 hw
  exact law_loop l C1 hK.1 1000 nz_c nz_m (iI ((0 : Nat) : Int)) (law_pure hL 1000 0 nz_c nz_m nz_rel (Nat.zero_le L) (by omega)) H locs ls hw2 hl2
