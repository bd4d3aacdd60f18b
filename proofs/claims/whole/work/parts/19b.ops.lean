theorem noted_to {c c1 : nCs} {m m2 : nMd} {w : Nat → Int32} {u : Int32} {x : nVl} {U : nSV} (h : Rel c m) (f1 : frH 0 c c1) (hH : HS c1 (s_Md_undos (s_Md_undone m w) u)) (hU : okY U) (hx : rC x U) (hm : keepM m m2) (h1 : g_Md_undone m2 = w) (h2 : g_Md_undos m2 = u) (hz : rN m2 U) : Rel (cVs c1 0 x) m2 := by
  refine Rel_mk (V := U) h ⟨hU, by rw [cV_s]; exact hx, hz⟩ ?_ ?_ (fun kn hs q => ?_) f1.2.2.1 f1.2.2.2.2.2.1 f1.2.2.2.2.2.2 hm
  · obtain ⟨kn, hs, a1, a2, a3⟩ := hH
    refine ⟨kn, hs, a1, HC_V0 x (by omega) a2, ?_⟩
    rw [h1, h2]; exact a3
  · rw [cV_n _ _ (by omega)]; exact f1.1 1 (by omega)
  · exact HC_V0 x (by omega) (HC_fr f1 (by omega) q)
theorem op_of {c : nCs} {m : nMd} (h : Rel c m) (a1 a2 : Int32) : OK1 (f_X6_of c a1 a2) (f_X7_of m a1 a2) := by
  obtain ⟨a, a_1, a_2, rfl⟩ := iI_of a1
  obtain ⟨V, v1, v2, v3⟩ := h.1
  have hn := v1.1.1
  unfold f_X6_of f_X7_of
  rw [c_has v2 v1.1 a_1 a_2, m_isV v3 v1.1 a_1 a_2]
  simp only [Option.bind_some]
  by_cases k1 : 0 ≤ a ∧ a < v_n V
  rotate_left
  · simp only [if_neg k1, if_true]; exact ⟨_, rfl, rfl⟩
  simp only [if_pos k1, if_neg one0]
  obtain ⟨i, hi, rfl⟩ := inV k1
  simp only [nn_ixN (show i < 6 by omega) (show 6 < 2147483648 by omega), iI_cN (show i < 2147483648 by omega)]
  by_cases d0 : a2 = 0
  · subst d0; rw [if_pos rfl, if_pos rfl, show (0 : Int32) = iI ((0 : Nat) : Int) from rfl, m_told (by omega) (by omega), Option.bind_some, (v2.2.2.2 i hi).1]
    exact ⟨_, rfl, by rw [Nat.add_zero, (m_at v3 hi).1]⟩
  rw [if_neg d0, if_neg d0]
  by_cases d1 : a2 = 1
  · subst d1; rw [if_pos rfl, if_pos rfl, show (1 : Int32) = iI ((1 : Nat) : Int) from rfl, m_told (by omega) (by omega), Option.bind_some, (v2.2.2.2 i hi).2.1]
    exact ⟨_, rfl, by rw [(m_at v3 hi).2.1]⟩
  rw [if_neg d1, if_neg d1]
  by_cases d2 : a2 = 2
  · subst d2; rw [if_pos rfl, if_pos rfl, show (2 : Int32) = iI ((2 : Nat) : Int) from rfl, m_told (by omega) (by omega), Option.bind_some, (v2.2.2.2 i hi).2.2.1]
    exact ⟨_, rfl, by rw [(m_at v3 hi).2.2.1]⟩
  rw [if_neg d2, if_neg d2]
  by_cases d3 : a2 = 3
  · subst d3; rw [if_pos rfl, if_pos rfl, show (3 : Int32) = iI ((3 : Nat) : Int) from rfl, m_told (by omega) (by omega), Option.bind_some, (v2.2.2.2 i hi).2.2.2]
    exact ⟨_, rfl, by rw [(m_at v3 hi).2.2.2]⟩
  rw [if_neg d3, if_neg d3]
  by_cases d4 : a2 = 4
  · rw [if_pos d4, if_pos d4, c_later v2 v1.1 hi, m_later v3 v1.1 hi]
    exact ⟨_, rfl, rfl⟩
  rw [if_neg d4, if_neg d4]
  by_cases d5 : a2 = 5
  · rw [if_pos d5, if_pos d5, c_ringersWith v2 v1.1 hi, m_alike v3 v1.1 hi]
    exact ⟨_, rfl, rfl⟩
  rw [if_neg d5, if_neg d5]
  exact ⟨_, rfl, rfl⟩
theorem op_gap {c : nCs} {m : nMd} (h : Rel c m) (a1 a2 : Int32) : OK1 (f_X6_gap c a1 a2) (f_X7_gap m a1 a2) := by
  obtain ⟨a, a_1, a_2, rfl⟩ := iI_of a1
  obtain ⟨b, b_1, b_2, rfl⟩ := iI_of a2
  obtain ⟨V, v1, v2, v3⟩ := h.1
  have hn := v1.1.1
  unfold f_X6_gap f_X7_gap
  rw [c_hasBoth v2 v1.1 a_1 a_2 b_1 b_2, m_areTwo v3 v1.1 a_1 a_2 b_1 b_2]
  simp only [Option.bind_some]
  by_cases k1 : (0 ≤ a ∧ a < v_n V) ∧ (0 ≤ b ∧ b < v_n V) ∧ a ≠ b
  rotate_left
  · simp only [if_neg k1, if_true]; exact ⟨_, rfl, rfl⟩
  simp only [if_pos k1, if_neg one0]
  obtain ⟨i, hi, rfl⟩ := inV k1.1
  obtain ⟨j, hj, rfl⟩ := inV k1.2.1
  have o1 := v1.1.2.1 i hi
  have o2 := v1.1.2.1 j hj
  rw [c_gapB v2 v1.1 hi hj, m_minute v3 v1.1 hi, m_minute v3 v1.1 hj, Option.bind_some, Option.bind_some, Option.bind_some, m_between (by omega) (by omega) (by omega) (by omega)]
  exact ⟨_, rfl, rfl⟩
theorem op_count {c : nCs} {m : nMd} (h : Rel c m) (a2 : Int32) : OK1 (f_X6_count c a2) (f_X7_count m a2) := by
  obtain ⟨V, v1, v2, v3⟩ := h.1
  obtain ⟨kn, hs, q1, q2, q3⟩ := h.2.1
  unfold f_X6_count f_X7_count
  by_cases d0 : a2 = 0
  · subst d0; rw [if_pos rfl, if_pos rfl, show (0 : Int32) = iI ((0 : Nat) : Int) from rfl, nn_ixN (by omega) (by omega), v2.1]
    exact ⟨_, rfl, by rw [show g_Md_now m (iI ((0 : Nat) : Int)).toNatClampNeg = iI (v_n V) from v3.1]⟩
  rw [if_neg d0, if_neg d0]
  by_cases d1 : a2 = 1
  · subst d1; rw [if_pos rfl, if_pos rfl, show (1 : Int32) = iI ((1 : Nat) : Int) from rfl, nn_ixN (by omega) (by omega), v2.2.1]
    exact ⟨_, rfl, by rw [show g_Md_now m (iI ((1 : Nat) : Int)).toNatClampNeg = iI (v_y V) from v3.2.1]⟩
  rw [if_neg d1, if_neg d1]
  by_cases d2 : a2 = 2
  · rw [if_pos d2, if_pos d2, c_leastGap v2 v1.1, m_leastGap v3 v1.1]; exact ⟨_, rfl, rfl⟩
  rw [if_neg d2, if_neg d2]
  by_cases d3 : a2 = 3
  · rw [if_pos d3, if_pos d3, c_ringers v2 v1.1, m_allAlike v3 v1.1]; exact ⟨_, rfl, rfl⟩
  rw [if_neg d3, if_neg d3]
  by_cases d4 : a2 = 4
  · rw [if_pos d4, if_pos d4, c_sumOf (g := v_m V) v2 v1.1 (fun i hi => (v2.2.2.2 i hi).2.1), show (1 : Int32) = iI ((1 : Nat) : Int) from rfl, m_sumOf v3 v1.1 (by omega) (fun i hi => (m_at v3 hi).2.1)]; exact ⟨_, rfl, rfl⟩
  rw [if_neg d4, if_neg d4]
  by_cases d5 : a2 = 5
  · rw [if_pos d5, if_pos d5, c_sumOf (g := v_l V) v2 v1.1 (fun i hi => (v2.2.2.2 i hi).2.2.2), show (3 : Int32) = iI ((3 : Nat) : Int) from rfl, m_sumOf v3 v1.1 (by omega) (fun i hi => (m_at v3 hi).2.2.2)]; exact ⟨_, rfl, rfl⟩
  rw [if_neg d5, if_neg d5]
  by_cases d6 : a2 = 6
  · rw [if_pos d6, if_pos d6]
    obtain ⟨p, hp, e, q⟩ := q2
    exact ⟨iI kn, by rw [e]; rfl, by rw [q3.1]⟩
  rw [if_neg d6, if_neg d6]
  exact ⟨_, rfl, rfl⟩
theorem op_undo {c : nCs} {m : nMd} (h : Rel c m) : OK2 (f_X6_undo c) (f_X7_undo m) := by
  obtain ⟨V, v1, v2, v3⟩ := h.1
  obtain ⟨kn, hs, q1, q2, q3⟩ := h.2.1
  have hk := q1.1
  unfold f_X6_undo f_X7_undo
  rw [q3.1]
  cases kn with
  | zero =>
    obtain ⟨p, hp, e, q⟩ := q2
    have e1 : f_X1_takeBack 0 0 c = some (0, c) := by
      unfold f_X1_takeBack
      rw [if_pos (by rw [e]; rfl)]
    rw [e1, Option.bind_some, if_pos rfl, if_pos (show iI ((0:Nat):Int) = (0:Int32) from rfl)]
    exact ⟨_, _, _, rfl, rfl, h⟩
  | succ kn =>
    obtain ⟨c', e, h1, h2, h3, h4, h5⟩ := c_takeBack (h := 0) (v := 0) (by omega) (by omega) q2 q1
    rw [e, Option.bind_some, if_neg one0, if_neg (by rw [show (0 : Int32) = iI ((0 : Nat) : Int) from rfl, iI_eqN (by omega) (by omega)]; omega)]
    have eu : iI ((kn + 1 : Nat) : Int) - 1 = iI kn := by rw [show (1 : Int32) = iI 1 from rfl, iI_sub]; congr 1; omega
    rw [eu]
    have e2 := l_undo22 (s_Md_undos m (iI kn)) (fun m_8 b1_7 => some (g_Md_undos m_8, m_8)) (u := kn) rfl (by omega) 27 100000 0 (g_Md_now m) (by omega) (by omega)
    have ek : g_Hi_known (cH c' 0) = iI kn := by
      obtain ⟨p, hp, e, q⟩ := h1
      rw [e]; rfl
    refine ⟨iI kn, c', _, by rw [ek], e2, Rel_mk (V := hs 0) h ⟨q1.2 0 (by omega), h2, ?_⟩ ⟨kn, fun k => hs (k + 1), ⟨by omega, fun k hk => q1.2 (k + 1) (by omega)⟩, h1, rfl, fun k hk => ?_⟩ (h3 1 (by omega)) (fun kn2 hs2 q => ?_) h5.1 h5.2.2.2.1 h5.2.2.2.2 ⟨rfl, rfl, rfl, rfl, rfl, rfl, rfl, rfl⟩⟩
    · have := q3.2 0 (by omega)
      refine rM_congr (q1.2 0 (by omega)).1.1 this (fun j hj => ?_)
      show ow (g_Md_now m) (g_Md_undone m) 0 (27 * kn) 0 27 (0 + j) = _
      rw [ow_in hj]; congr 1
    · have := q3.2 (k + 1) (by omega)
      rw [show kn + 1 - 1 - (k + 1) = kn - 1 - k from by omega] at this
      exact this
    · obtain ⟨p, hp, e, q⟩ := q
      exact ⟨p, hp, (h4 1 (by omega)).trans e, fun k hk => by rw [h3 _ (by omega)]; exact q k hk⟩
theorem op_image {c : nCs} {m : nMd} (h : Rel c m) : OK2 (f_X6_image c) (f_X7_image m) := by
  obtain ⟨V, v1, v2, v3⟩ := h.1
  obtain ⟨kn, hs, q1, q2, q3⟩ := h.2.1
  have hk := q1.1
  obtain ⟨z, ez, hz⟩ := c_becomeLike (x := cV c 1) v2 v1.1
  obtain ⟨c', ec, hc, hf⟩ := c_histLike (c := cVs c 1 z) (h := 1) (g := 0) (by omega) (by omega) (by omega) (HC_V0 z (by omega) q2) q1
  have e1 := l_image2 m (fun m_7 b1_6 => f_X7_image_L28 100000 m_7 (0 : Int32) (fun m_14 b1_13 => some ((1 : Int32), (s_Md_isKept (s_Md_keptUndos m_14 (g_Md_undos m_14)) (1 : Int32))))) 27 100000 0 (g_Md_kept m) (by omega) (by omega)
  have e2 := l_image28 m (fun m_14 b1_13 => some ((1 : Int32), (s_Md_isKept (s_Md_keptUndos m_14 (g_Md_undos m_14)) (1 : Int32)))) 216 100000 0 (ow (g_Md_kept m) (g_Md_now m) 0 0 0 27) (by omega) (by omega)
  unfold f_X6_image
  rw [ez, Option.bind_some, ec, Option.bind_some]
  obtain ⟨t0, t1, t2, t3, t4⟩ := h.2.2.2.1
  refine ⟨1, _, _, rfl, e1.trans e2, ⟨V, v1, ?_, v3⟩, ⟨kn, hs, q1, ?_, q3⟩, Or.inr ⟨rfl, rfl, V, kn, hs, v1, ?_, ?_, q1, hc, q3.1, fun k hk => ?_⟩, ⟨t0, t1, ?_, t3, ?_⟩, fun j hj => ?_⟩
  · show rC (cV c' 0) V
    rw [hf.1 0 (by omega), cV_n _ _ (by omega)]; exact v2
  · show HC c' 0 kn hs
    exact HC_fr (h := 1) (g := 0) hf (by omega) (HC_V0 (v := 1) z (by omega) q2)
  · show rC (cV c' 1) V
    rw [hf.1 1 (by omega), cV_s]; exact hz
  · refine rM_congr v1.1.1 v3 (fun j hj => ?_)
    show ow (ow (g_Md_kept m) (g_Md_now m) 0 0 0 27) (g_Md_undone m) 27 0 0 216 (0 + j) = _
    rw [ow_out (by omega), ow_in hj]
  · refine rM_congr (q1.2 k hk).1.1 (q3.2 k hk) (fun j hj => ?_)
    show ow (ow (g_Md_kept m) (g_Md_now m) 0 0 0 27) (g_Md_undone m) 27 0 0 216 (27 + (27 * (kn - 1 - k) + j)) = _
    rw [ow_in (by omega), Nat.zero_add]
  · show g_Ta_length (g_Cs_ta c') = _
    rw [hf.2.2.2.2.2.1]; exact t2
  · show ∀ i, i < t0 → ∃ z : Int, 32 ≤ z ∧ z ≤ 126 ∧ g_Ta_letters (g_Cs_ta c') i = iI z ∧ g_Md_tape m i = iI z
    rw [hf.2.2.2.2.2.1]; exact t4
  · show SHj (cS c' j) _ j
    rw [show cS c' j = cS c j from by unfold cS; rw [hf.2.2.2.2.2.2]; rfl]
    exact SHj_congr hj rfl rfl (fun i _ => rfl) (h.2.2.2.2 j hj)
theorem op_restore {c : nCs} {m : nMd} (h : Rel c m) : OK2 (f_X6_restore c) (f_X7_restore m) := by
  unfold f_X6_restore f_X7_restore
  rcases h.2.2.1 with i1 | ⟨i1, i2, V, kn, hs, v1, v2, v3, q1, q2, q3⟩
  · rw [i1.1, i1.2, if_pos rfl, if_pos rfl]; exact ⟨_, _, _, rfl, rfl, h⟩
  · rw [i1, i2, if_neg one0, if_neg one0]
    have hk := q1.1
    obtain ⟨z, ez, hz⟩ := c_becomeLike (x := cV c 0) v2 v1.1
    obtain ⟨c', ec, hc, hf⟩ := c_histLike (c := cVs c 0 z) (h := 0) (g := 1) (by omega) (by omega) (by omega) (HC_V0 z (by omega) q2) q1
    have e1 := l_restore12 m (fun m_8 b1_7 => f_X7_restore_L38 100000 m_8 (0 : Int32) (fun m_15 b1_14 => some ((1 : Int32), (s_Md_undos m_15 (g_Md_keptUndos m_15))))) 27 100000 0 (g_Md_now m) (by omega) (by omega)
    have e2 := l_restore38 (s_Md_now m (ow (g_Md_now m) (g_Md_kept m) 0 0 0 27)) (fun m_15 b1_14 => some ((1 : Int32), (s_Md_undos m_15 (g_Md_keptUndos m_15)))) 216 100000 0 (g_Md_undone m) (by omega) (by omega)
    rw [ez, Option.bind_some, ec, Option.bind_some]
    refine ⟨1, _, _, rfl, e1.trans e2, Rel_mk (V := V) h ⟨v1, ?_, ?_⟩ ⟨kn, hs, q1, hc, q3.1, fun k hk => ?_⟩ ?_ (fun kn2 hs2 q => ?_) hf.2.2.1 hf.2.2.2.2.2.1 hf.2.2.2.2.2.2 ⟨rfl, rfl, rfl, rfl, rfl, rfl, rfl, rfl⟩⟩
    · rw [hf.1 0 (by omega), cV_s]; exact hz
    · refine rM_congr v1.1.1 v3 (fun j hj => ?_)
      show ow (g_Md_now m) (g_Md_kept m) 0 0 0 27 (0 + j) = _
      rw [ow_in hj]
    · refine rM_congr (q1.2 k hk).1.1 (q3.2 k hk) (fun j hj => ?_)
      show ow (g_Md_undone m) (g_Md_kept m) 0 27 0 216 (27 * (kn - 1 - k) + j) = _
      have := ow_in (f := g_Md_undone m) (src := g_Md_kept m) (o := 0) (s := 27) (N := 216) (i := 27 * (kn - 1 - k) + j) (by omega)
      rw [Nat.zero_add] at this
      exact this
    · rw [hf.1 1 (by omega), cV_n _ _ (by omega)]
    · exact HC_fr hf (by omega) (HC_V0 z (by omega) q)
