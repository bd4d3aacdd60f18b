def simR (m m' : nMd) : Prop := g_Md_undone m' = g_Md_undone m ∧ g_Md_undos m' = g_Md_undos m ∧ g_Md_kept m' = g_Md_kept m ∧ g_Md_keptUndos m' = g_Md_keptUndos m ∧ g_Md_isKept m' = g_Md_isKept m ∧ g_Md_tape m' = g_Md_tape m ∧ g_Md_typed m' = g_Md_typed m ∧ g_Md_lanes m' = g_Md_lanes m ∧ g_Md_sizes m' = g_Md_sizes m ∧ g_Md_items m' = g_Md_items m
def AS (m m1 : nMd) : Prop := (∀ j, j < 27 → g_Md_aside m1 j = g_Md_now m j) ∧ simR m m1
theorem AS_start (m : nMd) : ∃ m0, f_X7_asides m = some m0 ∧ AS m m0 ∧ g_Md_now m0 = g_Md_now m := by
  refine ⟨_, m_asides m, ⟨fun j hj => ?_, rfl, rfl, rfl, rfl, rfl, rfl, rfl, rfl, rfl, rfl⟩, rfl⟩
  show ow (g_Md_aside m) (g_Md_now m) 0 0 0 27 j = _
  have := ow_in (f := g_Md_aside m) (src := g_Md_now m) (o := 0) (s := 0) hj
  rw [Nat.zero_add] at this
  exact this
theorem AS_now {m m1 : nMd} (h : AS m m1) (w : Nat → Int32) : AS m (s_Md_now m1 w) := h
theorem AS_by {m m1 : nMd} (h : AS m m1) (w l : Nat → Int32) : AS m (s_Md_later (s_Md_now m1 w) l) := h
theorem AS_backs {m m1 : nMd} (h : AS m m1) : ∃ m2, f_X7_backs m1 = some m2 ∧ AS m m2 ∧ simM m m2 ∧ g_Md_together m2 = g_Md_together m1 := by
  refine ⟨_, m_backs m1, h, ⟨fun j hj => ?_, h.2⟩, rfl⟩
  show ow (g_Md_now m1) (g_Md_aside m1) 0 0 0 27 j = _
  have := ow_in (f := g_Md_now m1) (src := g_Md_aside m1) (o := 0) (s := 0) hj
  rw [Nat.zero_add] at this
  rw [this]; exact h.1 j hj
theorem sim_rN {m m2 : nMd} {V : nSV} (h : simM m m2) (ok : okV V) (hV : rN m V) : rN m2 V := rM_congr ok.1 hV (fun j hj => by simp only [Nat.zero_add]; exact h.1 j hj)
theorem now_rN {m m2 : nMd} {V : nSV} (h : g_Md_now m2 = g_Md_now m) (hV : rN m V) : rN m2 V := by unfold rN; rw [h]; exact hV
theorem c_foretell {c : nCs} {V : nSV} (h : rC (cV c 0) V) (ok : okV V) {N : Nat} (hN : N ≤ 1000) (hy : v_y V + N ≤ 20000) : ∃ y, f_X6_foretell c (iI N) = some (cVs c 2 y) ∧ rC y (PDn N V) := by
  have key : ∀ (d n j : Nat) (x : nVl) (U : nSV), j + d = N → d < n → rC x U → okV U → v_y U + d ≤ 20000 → ∃ y, f_X6_foretell_L13 n (cVs c 2 x) (iI N) (iI j) (fun c_8 b1_6 b2_7 => some (c_8)) = some (cVs c 2 y) ∧ rC y (PDn d U) := by
    intro d
    induction d with
    | zero =>
      intro n j x U hj hd h ok hy
      obtain ⟨n, rfl, -⟩ := fuel hd
      exact ⟨x, by rw [f_X6_foretell_L13, if_pos (by rw [iI_leN (by omega) (by omega)]; omega)], h⟩
    | succ d ih =>
      intro n j x U hj hd h ok hy
      obtain ⟨n, rfl, hd2⟩ := fuel hd
      obtain ⟨y, e, hy2⟩ := c_passDay h ok
      rw [f_X6_foretell_L13, if_neg (by rw [iI_leN (by omega) (by omega)]; omega), cV_s, e, Option.bind_some, cVs_s, iI_s]
      exact ih n (j + 1) y (PD U) (by omega) (by omega) hy2 (PD_ok ok (by omega)) (by show v_y U + 1 + d ≤ _; omega)
  unfold f_X6_foretell
  obtain ⟨z, ez, hz⟩ := c_becomeLike (x := cV c 2) h ok
  rw [ez, Option.bind_some]
  exact key N 100000 0 z V (by omega) (by omega) hz ok hy
theorem op_ahead {c : nCs} {m : nMd} (h : Rel c m) (a1 a2 : Int32) : OK2 (f_X6_ahead c a1 a2) (f_X7_ahead m a1 a2) := by
  obtain ⟨a, a_1, a_2, rfl⟩ := iI_of a1
  obtain ⟨b, b_1, b_2, rfl⟩ := iI_of a2
  obtain ⟨V, v1, v2, v3⟩ := h.1
  have hn := v1.1.1
  have hy := v1.2
  unfold f_X6_ahead f_X7_ahead
  rw [c_has v2 v1.1 a_1 a_2, m_isV v3 v1.1 a_1 a_2, w_0_60 b_1 b_2, i_0_60 b_1 b_2]
  simp only [Option.bind_some]
  by_cases k1 : 0 ≤ a ∧ a < v_n V
  rotate_left
  · simp only [if_neg k1, if_true]; exact ⟨_, _, _, rfl, rfl, h⟩
  by_cases k2 : 0 ≤ b ∧ b ≤ 60
  rotate_left
  · simp only [if_pos k1, if_neg one0, if_neg k2, if_true]; exact ⟨_, _, _, rfl, rfl, h⟩
  simp only [if_pos k1, if_neg one0, if_pos k2]
  obtain ⟨i, hi, rfl⟩ := inV k1
  obtain ⟨N, rfl⟩ : ∃ N : Nat, b = (N : Int) := ⟨b.toNat, by omega⟩
  obtain ⟨y, ey, hy2⟩ := c_foretell v2 v1.1 (N := N) (by omega) (by omega)
  obtain ⟨m0, e0, s0, n0⟩ := AS_start m
  obtain ⟨w, l, eg, hg⟩ := m_goesOn N (m := m0) (by omega) (now_rN n0 v3) v1.1 (by omega)
  have okn := PDn_ok N V v1.1 (by omega)
  obtain ⟨m2, eb, s2, t2, -⟩ := AS_backs (AS_by s0 w l)
  rw [ey, Option.bind_some, nn_ixN (by omega) (by omega), e0, Option.bind_some, eg, Option.bind_some, m_minute (m := s_Md_later (s_Md_now m0 w) l) hg okn (by rw [PDn_n]; exact hi), Option.bind_some, eb, Option.bind_some, cV_s, iI_cN (by omega), (hy2.2.2.2 i (by rw [PDn_n]; exact hi)).2.1]
  exact ⟨_, _, _, rfl, rfl, Rel_sim (simC_V2 (simC_rf c) y) t2 h⟩
theorem op_near {c : nCs} {m : nMd} (h : Rel c m) (a2 : Int32) : OK2 (f_X6_near c a2) (f_X7_near m a2) := by
  obtain ⟨b, b_1, b_2, rfl⟩ := iI_of a2
  obtain ⟨V, v1, v2, v3⟩ := h.1
  have hn := v1.1.1
  have hy := v1.2
  unfold f_X6_near f_X7_near
  rw [w_0_60 b_1 b_2, i_0_60 b_1 b_2]
  simp only [Option.bind_some]
  by_cases k2 : 0 ≤ b ∧ b ≤ 60
  rotate_left
  · simp only [if_neg k2, if_true]; exact ⟨_, _, _, rfl, rfl, h⟩
  simp only [if_neg one0, if_pos k2]
  obtain ⟨N, rfl⟩ : ∃ N : Nat, b = (N : Int) := ⟨b.toNat, by omega⟩
  obtain ⟨y, ey, hy2⟩ := c_foretell v2 v1.1 (N := N) (by omega) (by omega)
  obtain ⟨m0, e0, s0, n0⟩ := AS_start m
  obtain ⟨w, l, eg, hg⟩ := m_goesOn N (m := m0) (by omega) (now_rN n0 v3) v1.1 (by omega)
  have okn := PDn_ok N V v1.1 (by omega)
  obtain ⟨m2, eb, s2, t2, -⟩ := AS_backs (AS_by s0 w l)
  rw [ey, Option.bind_some, e0, Option.bind_some, eg, Option.bind_some, m_leastGap (m := s_Md_later (s_Md_now m0 w) l) hg okn, Option.bind_some, eb, Option.bind_some, cV_s, c_leastGap hy2 okn]
  exact ⟨_, _, _, rfl, rfl, Rel_sim (simC_V2 (simC_rf c) y) t2 h⟩
noncomputable def MT (i j : Nat) : Nat → nSV → Nat
  | 0, _ => 0
  | d + 1, V => if v_m V i = v_m V j then 0 else MT i j d (PD V) + 1
theorem gap0 {a b : Int} (h1 : 0 ≤ a) (h2 : a ≤ 59) (h3 : 0 ≤ b) (h4 : b ≤ 59) : gapI a b = 0 ↔ a = b := by
  unfold gapI; split <;> omega
theorem op_meet {c : nCs} {m : nMd} (h : Rel c m) (a1 a2 : Int32) : OK2 (f_X6_meet c a1 a2) (f_X7_meet m a1 a2) := by
  obtain ⟨a, a_1, a_2, rfl⟩ := iI_of a1
  obtain ⟨b, b_1, b_2, rfl⟩ := iI_of a2
  obtain ⟨V, v1, v2, v3⟩ := h.1
  have hn := v1.1.1
  have hy := v1.2
  unfold f_X6_meet f_X7_meet
  rw [c_hasBoth v2 v1.1 a_1 a_2 b_1 b_2, m_areTwo v3 v1.1 a_1 a_2 b_1 b_2]
  simp only [Option.bind_some]
  by_cases k1 : (0 ≤ a ∧ a < v_n V) ∧ (0 ≤ b ∧ b < v_n V) ∧ a ≠ b
  rotate_left
  · simp only [if_neg k1, if_true]; exact ⟨_, _, _, rfl, rfl, h⟩
  simp only [if_pos k1, if_neg one0]
  obtain ⟨i, hi, rfl⟩ := inV k1.1
  obtain ⟨u, hu, rfl⟩ := inV k1.2.1
  obtain ⟨z, ez, hz⟩ := c_becomeLike (x := cV c 2) v2 v1.1
  obtain ⟨m0, e0, s0, n0⟩ := AS_start m
  rw [ez, Option.bind_some, e0, Option.bind_some]
  have key : ∀ (d n n' j : Nat) (x : nVl) (m1 : nMd) (U : nSV), j + d = 61 → d < n → d < n' → rC x U → rN m1 U → AS m m1 → okV U → v_n U = v_n V → v_y U + d ≤ 20000 → OK2 (f_X6_meet_L27 n (cVs c 2 x) (iI i) (iI u) (iI j) (fun c_15 b1_12 b2_13 b3_14 => some ((-4 : Int32), c_15))) (f_X7_meet_L17 n' m1 (iI i) (iI u) (iI j) (fun m_17 b1_14 b2_15 b3_16 => (f_X7_backs m_17).bind fun q_18 => if (61 : Int32) ≤ b3_16 then some ((-4 : Int32), q_18) else some (b3_16, q_18))) := by
    intro d
    induction d with
    | zero =>
      intro n n' j x m1 U hj hd hd' hx hm ha ok hnn hy
      obtain ⟨n, rfl, -⟩ := fuel hd
      obtain ⟨n', rfl, -⟩ := fuel hd'
      obtain rfl : j = 61 := by omega
      obtain ⟨m2, eb, s2, t2, -⟩ := AS_backs ha
      rw [f_X6_meet_L27, if_pos (by decide), f_X7_meet_L17, if_pos (by decide), eb, Option.bind_some, if_pos (by decide)]
      exact ⟨_, _, _, rfl, rfl, Rel_sim (simC_V2 (simC_rf c) x) t2 h⟩
    | succ d ih =>
      intro n n' j x m1 U hj hd hd' hx hm ha ok hnn hy
      obtain ⟨n, rfl, hd2⟩ := fuel hd
      obtain ⟨n', rfl, hd3⟩ := fuel hd'
      have o1 := ok.2.1 i (by omega)
      have o2 := ok.2.1 u (by omega)
      have g1 := gapI_b (v_m U i) (v_m U u)
      rw [f_X6_meet_L27, show (60 : Int32) = iI ((60 : Nat) : Int) from rfl, if_neg (by rw [iI_ltN (by omega) (by omega)]; omega), f_X7_meet_L17, if_neg (by rw [show (61 : Int32) = iI ((61 : Nat) : Int) from rfl, iI_leN (by omega) (by omega)]; omega), cV_s, c_gapB hx ok (by omega) (by omega), Option.bind_some, m_minute hm ok (by omega), Option.bind_some, m_minute hm ok (by omega), Option.bind_some]
      have hg := gap0 (a := v_m U i) (b := v_m U u) (by omega) (by omega) (by omega) (by omega)
      by_cases q : v_m U i = v_m U u
      · rw [if_pos (by rw [hg.2 q]; rfl), if_pos (by rw [q])]
        obtain ⟨m2, eb, s2, t2, -⟩ := AS_backs ha
        rw [eb, Option.bind_some, if_neg (by rw [show (61 : Int32) = iI ((61 : Nat) : Int) from rfl, iI_leN (by omega) (by omega)]; omega)]
        exact ⟨_, _, _, rfl, rfl, Rel_sim (simC_V2 (simC_rf c) x) t2 h⟩
      · rw [if_neg (by rw [show (0 : Int32) = iI 0 from rfl, iI_eq (by omega) (by omega) (by omega) (by omega)]; exact fun e => q (hg.1 e)), if_neg (by rw [iI_eq (by omega) (by omega) (by omega) (by omega)]; exact q)]
        obtain ⟨y, e, hy2⟩ := c_passDay hx ok
        obtain ⟨w, l, eg, hw⟩ := m_goesBy hm ok
        rw [e, Option.bind_some, cVs_s, eg, Option.bind_some, iI_s]
        exact ih n n' (j + 1) y _ (PD U) (by omega) (by omega) (by omega) hy2 hw (AS_by ha w l) (PD_ok ok (by omega)) hnn (by show v_y U + 1 + d ≤ _; omega)
  exact key 61 100000 100000 0 z m0 V (by omega) (by omega) (by omega) hz (now_rN n0 v3) s0 v1.1 rfl (by omega)
theorem m_when {m m1 : nMd} {U : nSV} (hm : rN m1 U) (ha : AS m m1) (ok : okV U) (hy : v_y U ≤ 19900) : ∃ m2, f_X7_whenTogether m1 = some (iI (if TG 61 U < 61 then ((TG 61 U : Nat) : Int) else -4), m2) ∧ AS m m2 ∧ simM m m2 ∧ g_Md_together m2 = (if TG 61 U < 61 then RS (PDn (TG 61 U) U) else 0) := by
  have key : ∀ (K : nMd → Int32 → Option (Int32 × nMd)) (d n j : Nat) (m1 : nMd) (U : nSV), j + d = 61 → d < n → rN m1 U → AS m m1 → okV U → v_y U + d ≤ 20000 → ∃ m2, f_X7_whenTogether_L2 n m1 (iI j) K = K m2 (iI ((j + TG d U : Nat) : Int)) ∧ AS m m2 ∧ rN m2 (PDn (TG d U) U) := by
    intro K d
    induction d with
    | zero =>
      intro n j m1 U hj hd hm ha ok hy
      obtain ⟨n, rfl, -⟩ := fuel hd
      obtain rfl : j = 61 := by omega
      refine ⟨m1, ?_, ha, hm⟩
      rw [f_X7_whenTogether_L2, if_pos (by decide)]; rfl
    | succ d ih =>
      intro n j m1 U hj hd hm ha ok hy
      obtain ⟨n, rfl, hd2⟩ := fuel hd
      rw [f_X7_whenTogether_L2, if_neg (by rw [show (61 : Int32) = iI ((61 : Nat) : Int) from rfl, iI_leN (by omega) (by omega)]; omega), m_allAlike hm ok, Option.bind_some, TG]
      by_cases h0 : RS U = 0
      · rw [if_pos h0, if_pos h0]
        obtain ⟨w, l, eg, hw⟩ := m_goesBy hm ok
        rw [eg, Option.bind_some, iI_s]
        obtain ⟨m2, e2, a2, r2⟩ := ih n (j + 1) (s_Md_later (s_Md_now m1 w) l) (PD U) (by omega) (by omega) hw (AS_by ha w l) (PD_ok ok (by omega)) (by show v_y U + 1 + d ≤ _; omega)
        refine ⟨m2, ?_, a2, r2⟩
        rw [e2, show j + 1 + TG d (PD U) = j + (TG d (PD U) + 1) from by omega]
      · rw [if_neg h0, if_neg h0]
        exact ⟨m1, rfl, ha, hm⟩
  unfold f_X7_whenTogether
  obtain ⟨m2, e2, a2, r2⟩ := key (fun m_8 b1_7 => if (61 : Int32) ≤ b1_7 then f_X7_whenTogether_J40 m_8 b1_7 (0 : Int32) else (f_X7_allAlike m_8).bind fun q_13 => f_X7_whenTogether_J40 m_8 b1_7 q_13) 61 100000 0 m1 U (by omega) (by omega) hm ha ok (by omega)
  have hle := TG_le 61 U
  rw [show (0 : Int32) = iI ((0 : Nat) : Int) from rfl] at e2 ⊢
  rw [e2]
  have okn := PDn_ok (TG 61 U) U ok (by omega)
  simp only [Nat.zero_add]
  by_cases hT : TG 61 U < 61
  · rw [if_neg (by rw [show (61 : Int32) = iI ((61 : Nat) : Int) from rfl, iI_leN (by omega) (by omega)]; omega), m_allAlike r2 okn, Option.bind_some]
    unfold f_X7_whenTogether_J40
    obtain ⟨m3, eb, s3, t3, g3⟩ := AS_backs (m1 := s_Md_together m2 (RS (PDn (TG 61 U) U))) (m := m) a2
    rw [eb, Option.bind_some, if_neg (by rw [show (61 : Int32) = iI ((61 : Nat) : Int) from rfl, iI_leN (by omega) (by omega)]; omega), if_pos hT, if_pos hT]
    exact ⟨m3, rfl, s3, t3, g3⟩
  · rw [if_pos (by rw [show (61 : Int32) = iI ((61 : Nat) : Int) from rfl, iI_leN (by omega) (by omega)]; omega)]
    unfold f_X7_whenTogether_J40
    obtain ⟨m3, eb, s3, t3, g3⟩ := AS_backs (m1 := s_Md_together m2 (iI ((0 : Nat) : Int))) (m := m) a2
    rw [eb, Option.bind_some, if_pos (by rw [show (61 : Int32) = iI ((61 : Nat) : Int) from rfl, iI_leN (by omega) (by omega)]; omega), if_neg hT, if_neg hT]
    exact ⟨m3, rfl, s3, t3, g3⟩
theorem op_together {c : nCs} {m : nMd} (h : Rel c m) (a2 : Int32) : OK2 (f_X6_together c a2) (f_X7_together m a2) := by
  obtain ⟨b, b_1, b_2, rfl⟩ := iI_of a2
  obtain ⟨V, v1, v2, v3⟩ := h.1
  have hn := v1.1.1
  have hy := v1.2
  unfold f_X6_together f_X7_together
  rw [w_0_1 b_1 b_2, i_0_1 b_1 b_2]
  simp only [Option.bind_some]
  by_cases k2 : 0 ≤ b ∧ b ≤ 1
  rotate_left
  · simp only [if_neg k2, if_true]; exact ⟨_, _, _, rfl, rfl, h⟩
  simp only [if_neg one0, if_pos k2]
  obtain ⟨z, ez, hz⟩ := c_becomeLike (x := cV c 2) v2 v1.1
  obtain ⟨m0, e0, s0, n0⟩ := AS_start m
  obtain ⟨y, ey, hy2⟩ := c_until hz v1.1 (by omega)
  obtain ⟨m2, e2, s2, t2, g2⟩ := m_when (now_rN n0 v3) s0 v1.1 (by omega)
  have hle := TG_le 61 V
  have okn := PDn_ok (TG 61 V) V v1.1 (by omega)
  rw [ez, Option.bind_some, e0, Option.bind_some, cV_s, ey, Option.bind_some, e2, Option.bind_some, cVs_s, cV_s, c_ringers hy2 okn]
  show OK2 (if iI ((TG 61 V : Nat) : Int) = 61 then _ else _) _
  have hR := Rel_sim (simC_V2 (simC_rf c) y) t2 h
  by_cases hT : TG 61 V < 61
  · rw [if_pos hT] at g2
    rw [if_neg (by rw [show (61 : Int32) = iI ((61 : Nat) : Int) from rfl, iI_eqN (by omega) (by omega)]; omega), if_pos hT]
    by_cases hb : iI b = 0
    · rw [if_pos hb, if_pos hb]; exact ⟨_, _, _, rfl, rfl, hR⟩
    · rw [if_neg hb, if_neg hb]
      exact ⟨_, _, _, rfl, by rw [g2], hR⟩
  · rw [if_neg hT] at g2
    rw [if_pos (by rw [show (61 : Int32) = iI ((61 : Nat) : Int) from rfl, iI_eqN (by omega) (by omega)]; omega), if_neg hT]
    by_cases hb : iI b = 0
    · rw [if_pos hb, if_pos hb]; exact ⟨_, _, _, rfl, rfl, hR⟩
    · rw [if_neg hb, if_neg hb]
      exact ⟨_, _, _, rfl, by rw [g2], hR⟩
