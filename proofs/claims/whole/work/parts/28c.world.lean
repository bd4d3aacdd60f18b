theorem nz_at (cy : Nat → ClassId) (q : Nat) (a : Nat × Nat × Nat × Nat × Nat × Nat) (b : Nat × Nat × (Nat → Nat × Nat × Nat × Nat × Nat × Nat)) (c : Nat × Nat × Nat × Nat × Nat × Nat) (d : Nat × Nat × (Nat → Nat × Nat × Nat × Nat × Nat × Nat)) (e : Nat × Nat × Nat × Nat × Nat × Nat) (f : Nat × Nat × Nat) (g : Nat × Nat × Nat) (i : Nat × Nat) (qa : Nat) (sh : Nat → Nat × Nat) (q2 : Nat) (u2 : Nat × Nat × Nat × Nat × Nat × Nat × Nat × Nat × Nat × Nat × Nat × Nat × Nat × Nat) : ∀ k, k < 151 → (([] ++ nw_X6 cy q (a, b, c, d, e, f, g, i, qa, sh)) ++ nw_X7 cy q2 u2)[nz_p k]? = some (nz_a q a b c d e f g i qa sh q2 u2 k, nz_e cy q a b c d e f g i qa sh q2 u2 k) := by
  intro k hk
  by_cases h : k < 114
  · obtain ⟨v, r, hr, rfl⟩ : ∃ v r, r < 6 ∧ k = 6 * v + r := ⟨k / 6, k % 6, by omega, by omega⟩
    have hv : v < 19 := by omega
    have z : nz_p (6 * v + r) = nz_o v + r := by
      unfold nz_p
      rw [if_pos h, show (6 * v + r) / 6 = v from by omega, show (6 * v + r) % 6 = r from by omega]
    rw [z]
    exact nz_vo hv (nz_ve cy q a b c d e f g i qa sh q2 u2 hv hr)
  · obtain ⟨t, rfl⟩ : ∃ t, k = 114 + t := ⟨k - 114, by omega⟩
    have h0 : ∀ t, t < 0 → (([] ++ nw_X6 cy q (a, b, c, d, e, f, g, i, qa, sh)) ++ nw_X7 cy q2 u2)[nz_p (114 + t)]? = some (nz_a q a b c d e f g i qa sh q2 u2 (114 + t), nz_e cy q a b c d e f g i qa sh q2 u2 (114 + t)) := fun t ht => absurd ht (Nat.not_lt_zero t)
    have h1 := lt_s h0 az_114
    have h2 := lt_s h1 az_115
    have h3 := lt_s h2 az_116
    have h4 := lt_s h3 az_117
    have h5 := lt_s h4 az_118
    have h6 := lt_s h5 az_119
    have h7 := lt_s h6 az_120
    have h8 := lt_s h7 az_121
    have h9 := lt_s h8 az_122
    have h10 := lt_s h9 az_123
    have h11 := lt_s h10 az_124
    have h12 := lt_s h11 az_125
    have h13 := lt_s h12 az_126
    have h14 := lt_s h13 az_127
    have h15 := lt_s h14 az_128
    have h16 := lt_s h15 az_129
    have h17 := lt_s h16 az_130
    have h18 := lt_s h17 az_131
    have h19 := lt_s h18 az_132
    have h20 := lt_s h19 az_133
    have h21 := lt_s h20 az_134
    have h22 := lt_s h21 az_135
    have h23 := lt_s h22 az_136
    have h24 := lt_s h23 az_137
    have h25 := lt_s h24 az_138
    have h26 := lt_s h25 az_139
    have h27 := lt_s h26 az_140
    have h28 := lt_s h27 az_141
    have h29 := lt_s h28 az_142
    have h30 := lt_s h29 az_143
    have h31 := lt_s h30 az_144
    have h32 := lt_s h31 az_145
    have h33 := lt_s h32 az_146
    have h34 := lt_s h33 az_147
    have h35 := lt_s h34 az_148
    have h36 := lt_s h35 az_149
    have h37 := lt_s h36 az_150
    exact h37 t (by omega)
theorem nz_cell {cA : ClassId} {n : Nat} {f g : Nat → Option Nat} (h : ∀ j, j < n → f j = g j) : vp_cell cA (n, .inr (.inr (.inr (.inr f)))) = vp_cell cA (n, .inr (.inr (.inr (.inr g)))) := by
  rw [vp_cell_q, vp_cell_q]
  unfold arrV
  congr 2
  funext j
  show va_rf (f j.val) = va_rf (g j.val)
  rw [h j.val j.isLt]
theorem nz_world {D : va_G} {A : Nat → Prop} {H0 H : Heap} {locs : List Loc} (cy : Nat → ClassId) (q : Nat) (a : Nat × Nat × Nat × Nat × Nat × Nat) (b : Nat × Nat × (Nat → Nat × Nat × Nat × Nat × Nat × Nat)) (c : Nat × Nat × Nat × Nat × Nat × Nat) (d : Nat × Nat × (Nat → Nat × Nat × Nat × Nat × Nat × Nat)) (e : Nat × Nat × Nat × Nat × Nat × Nat) (f : Nat × Nat × Nat) (g : Nat × Nat × Nat) (i : Nat × Nat) (qa : Nat) (sh : Nat → Nat × Nat) (q2 : Nat) (u2 : Nat × Nat × Nat × Nat × Nat × Nat × Nat × Nat × Nat × Nat × Nat × Nat × Nat × Nat) (hw : ni_W D A H0 (([] ++ nw_X6 cy q (a, b, c, d, e, f, g, i, qa, sh)) ++ nw_X7 cy q2 u2) H locs) : nn_W D cy (nz_a q a b c d e f g i qa sh q2 u2) A H0 (nz_c, nz_m) H locs := by
  have hg : ∀ (k : Nat) (x : Nat × va_E), ((List.range 151).map (fun k => (nz_a q a b c d e f g i qa sh q2 u2 k, nz_e cy q a b c d e f g i qa sh q2 u2 k)))[k]? = some x → (([] ++ nw_X6 cy q (a, b, c, d, e, f, g, i, qa, sh)) ++ nw_X7 cy q2 u2)[nz_p k]? = some x := by
    intro k x hx
    have hk : k < 151 := by have := (List.getElem?_eq_some_iff.mp hx).1; simpa using this
    rw [List.getElem?_map, List.getElem?_range hk] at hx
    cases hx
    exact nz_at cy q a b c d e f g i qa sh q2 u2 k hk
  have hP := hw.1.by nz_p hg
  have hD := hw.2.1.by nz_p hg (fun i j hi hj h => nz_pi i j (by simpa using hi) (by simpa using hj) h)
  have hm : ∀ k, k < 151 → ((List.range 151).map (fun k => (nz_a q a b c d e f g i qa sh q2 u2 k, nz_e cy q a b c d e f g i qa sh q2 u2 k)))[k]? = some (nz_a q a b c d e f g i qa sh q2 u2 k, nz_e cy q a b c d e f g i qa sh q2 u2 k) := by
    intro k hk
    rw [List.getElem?_map, List.getElem?_range hk]; rfl
  refine ⟨fun k x hx => ?_, ⟨fun x y p r hx hy hxy => ?_, fun k x hx => ?_⟩, hw.2.2⟩
  · have hk : k < 151 := by have := (List.getElem?_eq_some_iff.mp hx).1; rw [nn_len] at this; exact this
    rw [nn_at hk rfl] at hx
    cases hx
    have q0 := hP k _ (hm k hk)
    by_cases e1 : k = 115
    · subst e1
      have ec := nz_cell (cA := cy 4) (n := 8) (f := fun j => some (b.2.2 j).1) (g := fun j => some (nz_a q a b c d e f g i qa sh q2 u2 (6 * (3 + 8 * 0 + j)))) (fun j hj => by
        have := nz_av q a b c d e f g i qa sh q2 u2 (v := 3 + j) (k := 0) (by omega) (by omega)
        show some _ = some (nz_a q a b c d e f g i qa sh q2 u2 (6 * (3 + 8 * 0 + j)))
        rw [show 6 * (3 + 8 * 0 + j) = 6 * (3 + j) + 0 from by omega, this]
        unfold nz_w
        rw [if_neg (by omega), if_neg (by omega), if_neg (by omega), if_pos (by omega), Nat.add_sub_cancel_left]; rfl)
      have q1 : H[nz_a q a b c d e f g i qa sh q2 u2 115]? = some (vp_cell (cy 4) (8, .inr (.inr (.inr (.inr (fun j => some (b.2.2 j).1)))))) := q0
      rw [ec] at q1
      exact q1
    by_cases e2 : k = 117
    · subst e2
      have ec := nz_cell (cA := cy 4) (n := 8) (f := fun j => some (d.2.2 j).1) (g := fun j => some (nz_a q a b c d e f g i qa sh q2 u2 (6 * (3 + 8 * 1 + j)))) (fun j hj => by
        have := nz_av q a b c d e f g i qa sh q2 u2 (v := 11 + j) (k := 0) (by omega) (by omega)
        show some _ = some (nz_a q a b c d e f g i qa sh q2 u2 (6 * (3 + 8 * 1 + j)))
        rw [show 6 * (3 + 8 * 1 + j) = 6 * (11 + j) + 0 from by omega, this]
        unfold nz_w
        rw [if_neg (by omega), if_neg (by omega), if_neg (by omega), if_neg (by omega), Nat.add_sub_cancel_left]; rfl)
      have q1 : H[nz_a q a b c d e f g i qa sh q2 u2 117]? = some (vp_cell (cy 4) (8, .inr (.inr (.inr (.inr (fun j => some (d.2.2 j).1)))))) := q0
      rw [ec] at q1
      exact q1
    by_cases e3 : k = 127
    · subst e3
      have ec := nz_cell (cA := cy 3) (n := 4) (f := fun j => some (sh j).1) (g := fun j => some (nz_a q a b c d e f g i qa sh q2 u2 (128 + 2 * j))) (fun j hj => by rcases j with _ | _ | _ | _ | j <;> first | rfl | omega)
      have q1 : H[nz_a q a b c d e f g i qa sh q2 u2 127]? = some (vp_cell (cy 3) (4, .inr (.inr (.inr (.inr (fun j => some (sh j).1)))))) := q0
      rw [ec] at q1
      exact q1
    · have ee : nz_e cy q a b c d e f g i qa sh q2 u2 k = nn_ce cy (nz_a q a b c d e f g i qa sh q2 u2) (nz_c, nz_m) k := by unfold nz_e; rw [if_neg e1, if_neg e2, if_neg e3]
      rw [ee] at q0
      exact q0
  · have hk : x < 151 := by have := (List.getElem?_eq_some_iff.mp hx).1; rw [nn_len] at this; exact this
    have hk2 : y < 151 := by have := (List.getElem?_eq_some_iff.mp hy).1; rw [nn_len] at this; exact this
    rw [nn_at hk rfl] at hx
    rw [nn_at hk2 rfl] at hy
    cases hx
    cases hy
    exact hD.1 x y _ _ (hm x hk) (hm y hk2) hxy
  · have hk : k < 151 := by have := (List.getElem?_eq_some_iff.mp hx).1; rw [nn_len] at this; exact this
    rw [nn_at hk rfl] at hx
    cases hx
    have y := hD.2 k _ (hm k hk)
    exact y
theorem nz_rel : Rel nz_c nz_m := by
  refine ⟨⟨(0, fun _ => 0, fun _ => 0, fun _ => 0, fun _ => 0, 0, 1), ⟨⟨by show 0 ≤ 6; omega, fun i hi => absurd hi (Nat.not_lt_zero i), by show (0 : Int) ≤ 0; omega, by show (0 : Int) ≤ 20000; omega, by show (0 : Int) ≤ 1; omega, by show (1 : Int) < 2147483648; omega⟩, by show (0 : Int) ≤ 9999; omega⟩, ⟨rfl, rfl, rfl, fun i hi => absurd hi (Nat.not_lt_zero i)⟩, ⟨rfl, rfl, rfl, fun i hi => absurd hi (Nat.not_lt_zero i)⟩⟩, ⟨0, fun _ => (0, fun _ => 0, fun _ => 0, fun _ => 0, fun _ => 0, 0, 1), ⟨by omega, fun k hk => absurd hk (Nat.not_lt_zero k)⟩, ⟨0, by omega, rfl, fun k hk => absurd hk (Nat.not_lt_zero k)⟩, ⟨rfl, fun k hk => absurd hk (Nat.not_lt_zero k)⟩⟩, Or.inl ⟨rfl, rfl⟩, ⟨0, by omega, rfl, rfl, fun i hi => absurd hi (Nat.not_lt_zero i)⟩, fun j hj => Or.inl ⟨rfl, ?_⟩⟩
  show (if j < 4 then (-1 : Int32) else 0) = iI (-1)
  rw [if_pos hj]; rfl
