noncomputable def HD (it : Nat → Int64) (v : Nat) : Nat → Nat → nSV → Bool
  | 0, _, _ => true
  | d + 1, k, U => decide (it k = (iI (v_m (PD U) v)).toInt64) && HD it v d (k + 1) (PD U)
theorem HD_congr {it it' : Nat → Int64} {v : Nat} : ∀ (d k : Nat) (U : nSV), (∀ p, k ≤ p → p < k + d → it p = it' p) → HD it v d k U = HD it' v d k U := by
  intro d
  induction d with
  | zero => intro k U _; rfl
  | succ d ih =>
    intro k U hh
    rw [HD, HD, hh k (by omega) (by omega), ih (k + 1) (PD U) (fun p h1 h2 => hh p (by omega) (by omega))]
theorem c_rings {c : nCs} {j v i N : Nat} {V : nSV} (hv : v < v_n V) (hi : i + N ≤ 24) (hN : N ≤ 8) : ∀ (x : nVl), rC x V → okV V → v_y V ≤ 10000 → ∃ x', f_X6_trialRingsAs j (cVs c 2 x) (iI v) (iI i) (iI N) = some ((if HD (fun p => g_Sh_items (cS c j) (i + p)) v N 0 V = true then 1 else 0), cVs c 2 x') := by
  have key : ∀ (d n k : Nat) (x : nVl) (U : nSV), k + d = N → d < n → rC x U → okV U → v_n U = v_n V → v_y U + d ≤ 20000 → ∃ x', f_X6_trialRingsAs_L3 j n (cVs c 2 x) (iI v) (iI i) (iI N) (iI k) (fun c_11 b1_7 b3_8 b4_9 b5_10 => some ((1 : Int32), c_11)) = some ((if HD (fun p => g_Sh_items (cS c j) (i + p)) v d k U = true then 1 else 0), cVs c 2 x') := by
    intro d
    induction d with
    | zero =>
      intro n k x U hk hd hx ok hnn hy
      obtain ⟨n, rfl, -⟩ := fuel hd
      refine ⟨x, ?_⟩
      rw [f_X6_trialRingsAs_L3, if_pos (by rw [iI_leN (by omega) (by omega)]; omega), HD, if_pos rfl]
    | succ d ih =>
      intro n k x U hk hd hx ok hnn hy
      obtain ⟨n, rfl, hd2⟩ := fuel hd
      have hn := ok.1
      obtain ⟨x2, ex, hx2⟩ := c_passDay hx ok
      have okP := PD_ok ok (by omega)
      have hvP : v < v_n (PD U) := by show v < v_n U; omega
      rw [f_X6_trialRingsAs_L3, if_neg (by rw [iI_leN (by omega) (by omega)]; omega), cV_s, ex, Option.bind_some, ixk, nn_ixN (by omega) (by omega), nn_ixN (by omega) (by omega), cVs_s, cV_s, iI_cN (by omega), iI_cN (by omega), (hx2.2.2.2 v hvP).2.1, iI_s, HD, cS_Vs]
      by_cases q : g_Sh_items (cS c j) (i + k) = (iI (v_m (PD U) v)).toInt64
      · rw [if_pos (by rw [lg_eq0]; exact q), decide_eq_true q, Bool.true_and]
        exact ih n (k + 1) x2 (PD U) (by omega) (by omega) hx2 okP hnn (by show v_y U + 1 + d ≤ _; omega)
      · rw [if_neg (by rw [lg_eq0]; exact q), decide_eq_false q, Bool.false_and, if_neg (by decide)]
        exact ⟨x2, rfl⟩
  intro x hx ok hy
  exact key N 100000 0 x V (by omega) (by omega) hx ok rfl (by omega)
theorem m_isSo {m m1 : nMd} {v o N : Nat} {V : nSV} (hv : v < v_n V) (ho : o + N ≤ 96) (hN : N ≤ 8) (hm : rN m1 V) (ha : AS m m1) (ok : okV V) (hy : v_y V ≤ 10000) : ∃ m2, f_X7_isSo m1 (iI v) (iI o) (iI N) = some ((if HD (fun p => g_Md_items m (o + p)) v N 0 V = true then 1 else 0), m2) ∧ AS m m2 ∧ simM m m2 := by
  have key : ∀ (K : nMd → Int32 → Int32 → Int32 → Int32 → Int32 → Option (Int32 × nMd)) (d n k : Nat) (b : Bool) (m1 : nMd) (U : nSV), k + d = N → d < n → rN m1 U → AS m m1 → okV U → v_n U = v_n V → v_y U + d ≤ 20000 → ∃ m2, f_X7_isSo_L6 n m1 (iI v) (iI o) (iI N) (if b = true then 1 else 0) (iI k) K = K m2 (iI v) (iI o) (iI N) (if (b && HD (fun p => g_Md_items m (o + p)) v d k U) = true then 1 else 0) (iI N) ∧ AS m m2 := by
    intro K d
    induction d with
    | zero =>
      intro n k b m1 U hk hd hm ha ok hnn hy
      obtain ⟨n, rfl, -⟩ := fuel hd
      obtain rfl : k = N := by omega
      refine ⟨m1, ?_, ha⟩
      rw [f_X7_isSo_L6, if_pos (by rw [iI_leN (by omega) (by omega)]; omega), HD, Bool.and_true]
    | succ d ih =>
      intro n k b m1 U hk hd hm ha ok hnn hy
      obtain ⟨n, rfl, hd2⟩ := fuel hd
      have hn := ok.1
      obtain ⟨w, l, eg, hg⟩ := m_goesBy hm ok
      have okP := PD_ok ok (by omega)
      have hvP : v < v_n (PD U) := by show v < v_n U; omega
      have hzz : ¬ iI ((N : Nat) : Int) ≤ iI ((k : Nat) : Int) := by rw [iI_leN (by omega) (by omega)]; omega
      rw [f_X7_isSo_L6, if_neg hzz, eg, Option.bind_some, HD, iI_s]
      have hA2 := AS_by ha w l
      cases b
      · obtain ⟨m2, e2, a2⟩ := ih n (k + 1) false (s_Md_later (s_Md_now m1 w) l) (PD U) (by omega) (by omega) hg hA2 okP hnn (by show v_y U + 1 + d ≤ _; omega)
        simp only [Bool.false_and, if_neg (show ¬ false = true by decide)] at e2 ⊢
        exact ⟨m2, by rw [if_true]; exact e2, a2⟩
      · simp only [if_true, if_neg one0, Bool.true_and]
        rw [m_minute (m := s_Md_later (s_Md_now m1 w) l) hg okP hvP, Option.bind_some, ixk, nn_ixN (by omega) (by omega), iI_cN (by omega), hA2.2.2.2.2.2.2.2.2.2.2]
        by_cases q : g_Md_items m (o + k) = (iI (v_m (PD U) v)).toInt64
        · obtain ⟨m2, e2, a2⟩ := ih n (k + 1) true (s_Md_later (s_Md_now m1 w) l) (PD U) (by omega) (by omega) hg hA2 okP hnn (by show v_y U + 1 + d ≤ _; omega)
          simp only [if_true, Bool.true_and] at e2
          rw [if_pos (by rw [lg_eq0]; exact q.symm), decide_eq_true q, Bool.true_and]
          exact ⟨m2, e2, a2⟩
        · obtain ⟨m2, e2, a2⟩ := ih n (k + 1) false (s_Md_later (s_Md_now m1 w) l) (PD U) (by omega) (by omega) hg hA2 okP hnn (by show v_y U + 1 + d ≤ _; omega)
          simp only [Bool.false_and, if_neg (show ¬ false = true by decide)] at e2
          rw [if_neg (by rw [lg_eq0]; exact fun e => q e.symm), decide_eq_false q, Bool.false_and, if_neg (show ¬ false = true by decide)]
          exact ⟨m2, e2, a2⟩
  obtain ⟨m2, e2, a2⟩ := key (fun m_14 b1_9 b2_10 b3_11 b4_12 b5_13 => (f_X7_backs m_14).bind fun q_15 => nn_bo b4_12 (some (b4_12, q_15))) N 100000 0 true m1 V (by omega) (by omega) hm ha ok rfl (by omega)
  obtain ⟨m3, eb, s3, t3, -⟩ := AS_backs a2
  refine ⟨m3, ?_, s3, t3⟩
  have e3 : f_X7_isSo m1 (iI v) (iI o) (iI N) = _ := e2
  rw [e3, eb, Option.bind_some, Bool.true_and]
  by_cases q : HD (fun p => g_Md_items m (o + p)) v N 0 V = true
  · rw [if_pos q]; exact nn_bo1
  · rw [if_neg q]; exact nn_bo0
theorem op_heard {c : nCs} {m : nMd} (h : Rel c m) (a1 a2 a3 a4 a5 a6 : Int32) : OK2 (f_X6_heard c a1 a2 a3 a4 a5 a6) (f_X7_heard m a1 a2 a3 a4 a5 a6) := by
  obtain ⟨a, a_1, a_2, rfl⟩ := iI_of a1
  obtain ⟨s, s_1, s_2, rfl⟩ := iI_of a2
  obtain ⟨b, b_1, b_2, rfl⟩ := iI_of a3
  obtain ⟨i, i_1, i_2, rfl⟩ := iI_of a4
  obtain ⟨N, n_1, n_2, rfl⟩ := iI_of a5
  obtain ⟨w, w_1, w_2, rfl⟩ := iI_of a6
  obtain ⟨V, v1, v2, v3⟩ := h.1
  have hn := v1.1.1
  have hy := v1.2
  unfold f_X6_heard f_X7_heard
  rw [c_has v2 v1.1 a_1 a_2, m_isV v3 v1.1 a_1 a_2, w_1_8 n_1 n_2, i_1_8 n_1 n_2, c_sal s_1 s_2 b_1 b_2, m_isSheet s_1 s_2, m_isLane b_1 b_2, w_0_1 w_1 w_2, i_0_1 w_1 w_2]
  simp only [Option.bind_some]
  by_cases k0 : 0 ≤ a ∧ a < v_n V
  rotate_left
  · simp only [if_neg k0, if_true]; exact ⟨_, _, _, rfl, rfl, h⟩
  by_cases k1 : 0 ≤ s ∧ s ≤ 3
  rotate_left
  · simp only [if_pos k0, if_neg one0, if_neg k1, if_true, if_neg (fun q : (0 ≤ s ∧ s ≤ 3) ∧ (0 ≤ b ∧ b ≤ 3) => k1 q.1)]; exact ⟨_, _, _, rfl, rfl, h⟩
  by_cases k2 : 0 ≤ b ∧ b ≤ 3
  rotate_left
  · simp only [if_pos k0, if_neg k2, if_pos k1, if_neg one0, if_true, if_neg (fun q : (0 ≤ s ∧ s ≤ 3) ∧ (0 ≤ b ∧ b ≤ 3) => k2 q.2)]; exact ⟨_, _, _, rfl, rfl, h⟩
  by_cases kN : 1 ≤ N ∧ N ≤ 8
  rotate_left
  · simp only [if_pos k0, if_pos k1, if_pos k2, if_pos (And.intro k1 k2), if_neg one0, if_neg kN, if_true]; exact ⟨_, _, _, rfl, rfl, h⟩
  by_cases kw : 0 ≤ w ∧ w ≤ 1
  rotate_left
  · simp only [if_pos k0, if_pos k1, if_pos k2, if_pos (And.intro k1 k2), if_pos kN, if_neg one0, if_neg kw, if_true]; exact ⟨_, _, _, rfl, rfl, h⟩
  simp only [if_pos k0, if_pos kN, if_pos kw, if_pos k1, if_pos k2, if_neg one0, if_pos (And.intro k1 k2)]
  obtain ⟨j, hj, rfl⟩ := inS k1
  obtain ⟨v, hv, rfl⟩ := inV k0
  simp only [nn_ixN (show j < 4 from hj) (show 4 < 2147483648 by omega), iI_cN (show j < 2147483648 by omega)]
  obtain ⟨r, e1, e2, hr⟩ := why_both hj (h.2.2.2.2 j hj) k2.1 k2.2 i_1 i_2 n_1 n_2
  rw [e1, e2, Option.bind_some, Option.bind_some]
  have bad : ∀ (X : Option (Int32 × nCs)) (Y : Option (Int32 × nMd)), r < 0 → -14 < r → OK2 (if iI r = 0 then X else some (iI r, c)) (if 0 ≤ iI r then Y else some (iI r, m)) := by
    intro X Y q1 q2
    rw [if_neg (show ¬ iI r = 0 by rw [show (0 : Int32) = iI 0 from rfl, iI_eq (by omega) (by omega) (by omega) (by omega)]; omega), if_neg (show ¬ 0 ≤ iI r by rw [show (0 : Int32) = iI 0 from rfl, iI_le (by omega) (by omega) (by omega) (by omega)]; omega)]
    exact ⟨_, _, _, rfl, rfl, h⟩
  rcases hr with rfl | rfl | rfl | ⟨rfl, i0, -, sz, i3, s24, b3, b4, b5, b6, b7⟩
  · exact bad _ _ (by omega) (by omega)
  · exact bad _ _ (by omega) (by omega)
  · exact bad _ _ (by omega) (by omega)
  obtain ⟨k, rfl⟩ : ∃ k : Nat, i = (k : Int) := ⟨i.toNat, by omega⟩
  obtain ⟨N, rfl⟩ : ∃ q : Nat, N = (q : Int) := ⟨N.toNat, by omega⟩
  rw [if_pos (show iI 0 = 0 from rfl), if_pos (show 0 ≤ iI 0 by decide)]
  obtain ⟨m0, e0, s0, n0⟩ := AS_start m
  rw [e0, Option.bind_some]
  have t0 : simM m m0 := ⟨fun j _ => by rw [n0], s0.2⟩
  have hsame : ∀ U : nSV, HD (fun p => g_Sh_items (cS c j) (k + p)) v N 0 U = HD (fun p => g_Md_items m (24 * j + k + p)) v N 0 U := by
    intro U
    refine HD_congr N 0 U (fun p _ hp => ?_)
    show g_Sh_items (cS c j) (k + p) = g_Md_items m (24 * j + k + p)
    rw [b7 _ (by omega), show 24 * j + (k + p) = 24 * j + k + p from by omega]
  by_cases hw : w = 0
  · subst hw
    rw [if_pos (show iI 0 = 0 from rfl)]
    have key : ∀ (d n n' q : Nat) (x : nVl) (m1 : nMd) (S : Int32), q + d = 5 → d < n → d < n' → simM m m1 → AS m m1 → OK2 (f_X6_kindsHeard_L6 j n (cVs c 2 x) (iI v) (iI k) (iI N) S (iI q) (fun c_15 b1_10 b3_11 b4_12 b5_13 b6_14 => some (b5_13, c_15))) (f_X7_heard_L78 n' m1 (iI v) (iI j) (iI k) (iI N) (iI 0) S (iI q) (fun m_36 b1_29 b2_30 b4_31 b5_32 b6_33 b8_34 b9_35 => some (b8_34, m_36))) := by
      intro d
      induction d with
      | zero =>
        intro n n' q x m1 S hq hd hd' hs ha
        obtain ⟨n, rfl, -⟩ := fuel hd
        obtain ⟨n', rfl, -⟩ := fuel hd'
        obtain rfl : q = 5 := by omega
        rw [f_X6_kindsHeard_L6, if_pos (show (5 : Int32) ≤ iI ((5 : Nat) : Int) by decide), f_X7_heard_L78, if_pos (show iI 0 = 0 from rfl), f_X7_heard_J91, if_pos (show (5 : Int32) ≤ iI ((5 : Nat) : Int) by decide)]
        exact ⟨_, _, _, rfl, rfl, Rel_sim (simC_V2 (simC_rf c) x) hs h⟩
      | succ d ih =>
        intro n n' q x m1 S hq hd hd' hs ha
        obtain ⟨n, rfl, hd2⟩ := fuel hd
        obtain ⟨n', rfl, hd3⟩ := fuel hd'
        have z5 : ¬ (5 : Int32) ≤ iI ((q : Nat) : Int) := by rw [show (5 : Int32) = iI ((5 : Nat) : Int) from rfl, iI_leN (by omega) (by omega)]; omega
        have hm1 := sim_rN hs v1.1 v3
        obtain ⟨z, ez, hz⟩ := c_becomeLike (x := x) v2 v1.1
        have okU : okV (SK V v (q : Int)) := ok_SK v1.1 (by omega) (by omega)
        obtain ⟨x2, ex⟩ := c_rings (c := c) (j := j) (v := v) (i := k) (N := N) (V := SK V v (q : Int)) hv (by omega) (by omega) _ (rC_SK (i := v) (q : Int) hz) okU (by show v_y V ≤ _; omega)
        have hm2 : rN (s_Md_now m1 (upd (g_Md_now m1) (3 + 4 * v + 0) (iI (q : Int)))) (SK V v (q : Int)) := rM_SK _ hm1
        obtain ⟨m3, e3, s3, t3⟩ := m_isSo (m := m) (V := SK V v (q : Int)) (o := 24 * j + k) (N := N) hv (by omega) (by omega) hm2 (AS_now ha _) okU (by show v_y V ≤ _; omega)
        rw [f_X7_heard_L78, if_pos (show iI 0 = 0 from rfl), f_X7_heard_J91, if_neg z5, if_pos (show iI 0 = 0 from rfl), f_X7_heard_J115, show (2 : Int32) * iI 0 = iI ((0 : Nat) : Int) from rfl, m_tells (by omega) (by omega), Option.bind_some, ix24, e3, Option.bind_some, iI_s, ← hsame]
        rw [f_X6_kindsHeard_L6, if_neg z5, cV_s, cV_n _ _ (by omega), ez, Option.bind_some, nn_ixN (by omega) (by omega), Option.bind_some, cVs_s, cV_s, cVs_s, iI_cN (by omega), ex, Option.bind_some, iI_s]
        dsimp only
        by_cases qq : HD (fun p => g_Sh_items (cS c j) (k + p)) v N 0 (SK V v (q : Int)) = true
        · simp only [if_pos qq, if_neg one0]
          exact ih n n' (q + 1) x2 m3 _ (by omega) (by omega) (by omega) t3 s3
        · simp only [if_neg qq, if_true, or_zero]
          exact ih n n' (q + 1) x2 m3 S (by omega) (by omega) (by omega) t3 s3
    have := key 5 100000 100000 0 (cV c 2) m0 0 (by omega) (by omega) (by omega) t0 s0
    rw [cVs_id] at this
    obtain ⟨r, c', m', g1, g2, g3⟩ := this
    have g1' : f_X6_kindsHeard j c (iI v) (iI k) (iI N) = some (r, c') := g1
    rw [g1', Option.bind_some]
    exact ⟨r, c', m', rfl, g2, g3⟩
  · obtain rfl : w = 1 := by omega
    rw [if_neg (show ¬ iI 1 = 0 by decide)]
    have key : ∀ (d n n' q : Nat) (x : nVl) (m1 : nMd) (S : Int32), q + d = 19 → d < n → d < n' → simM m m1 → AS m m1 → OK2 (f_X6_driftsHeard_L7 j n (cVs c 2 x) (iI v) (iI k) (iI N) S (iI ((q : Int) - 9)) (fun c_15 b1_10 b3_11 b4_12 b5_13 b6_14 => some (b5_13, c_15))) (f_X7_heard_L78 n' m1 (iI v) (iI j) (iI k) (iI N) (iI 1) S (iI q) (fun m_36 b1_29 b2_30 b4_31 b5_32 b6_33 b8_34 b9_35 => some (b8_34, m_36))) := by
      intro d
      induction d with
      | zero =>
        intro n n' q x m1 S hq hd hd' hs ha
        obtain ⟨n, rfl, -⟩ := fuel hd
        obtain ⟨n', rfl, -⟩ := fuel hd'
        obtain rfl : q = 19 := by omega
        rw [f_X6_driftsHeard_L7, if_pos (show (9 : Int32) < iI (((19 : Nat) : Int) - 9) by decide), f_X7_heard_L78, if_neg (show ¬ iI 1 = 0 by decide), f_X7_heard_J91, if_pos (show (19 : Int32) ≤ iI ((19 : Nat) : Int) by decide)]
        exact ⟨_, _, _, rfl, rfl, Rel_sim (simC_V2 (simC_rf c) x) hs h⟩
      | succ d ih =>
        intro n n' q x m1 S hq hd hd' hs ha
        obtain ⟨n, rfl, hd2⟩ := fuel hd
        obtain ⟨n', rfl, hd3⟩ := fuel hd'
        have z5 : ¬ (19 : Int32) ≤ iI ((q : Nat) : Int) := by rw [show (19 : Int32) = iI ((19 : Nat) : Int) from rfl, iI_leN (by omega) (by omega)]; omega
        have z6 : ¬ (9 : Int32) < iI ((q : Int) - 9) := by rw [show (9 : Int32) = iI 9 from rfl, iI_lt (by omega) (by omega) (by omega) (by omega)]; omega
        have z7 : iI ((q : Int) - 9) + (9 : Int32) = iI (q : Int) := by rw [show (9 : Int32) = iI 9 from rfl, iI_add]; congr 1; omega
        have z8 : iI ((q : Int) - 9) + (1 : Int32) = iI (((q + 1 : Nat) : Int) - 9) := by rw [show (1 : Int32) = iI 1 from rfl, iI_add]; congr 1; omega
        have z9 : iI (q : Int) - (9 : Int32) = iI ((q : Int) - 9) := by rw [show (9 : Int32) = iI 9 from rfl, iI_sub]
        have hm1 := sim_rN hs v1.1 v3
        obtain ⟨z, ez, hz⟩ := c_becomeLike (x := x) v2 v1.1
        have okU : okV (SD V v ((q : Int) - 9)) := ok_SD v1.1 (by omega) (by omega)
        obtain ⟨x2, ex⟩ := c_rings (c := c) (j := j) (v := v) (i := k) (N := N) (V := SD V v ((q : Int) - 9)) hv (by omega) (by omega) _ (rC_SD (i := v) ((q : Int) - 9) hz) okU (by show v_y V ≤ _; omega)
        have hm2 : rN (s_Md_now m1 (upd (g_Md_now m1) (3 + 4 * v + 2) (iI ((q : Int) - 9)))) (SD V v ((q : Int) - 9)) := rM_SD _ hm1
        obtain ⟨m3, e3, s3, t3⟩ := m_isSo (m := m) (V := SD V v ((q : Int) - 9)) (o := 24 * j + k) (N := N) hv (by omega) (by omega) hm2 (AS_now ha _) okU (by show v_y V ≤ _; omega)
        rw [f_X7_heard_L78, if_neg (show ¬ iI 1 = 0 by decide), f_X7_heard_J91, if_neg z5, if_neg (show ¬ iI 1 = 0 by decide), f_X7_heard_J115, z9, show (2 : Int32) * iI 1 = iI ((2 : Nat) : Int) from rfl, m_tells (by omega) (by omega), Option.bind_some, ix24, e3, Option.bind_some, iI_s, ← hsame]
        rw [f_X6_driftsHeard_L7, if_neg z6, cV_s, cV_n _ _ (by omega), ez, Option.bind_some, nn_ixN (by omega) (by omega), Option.bind_some, cVs_s, cV_s, cVs_s, iI_cN (by omega), ex, Option.bind_some, z7, z8]
        dsimp only
        by_cases qq : HD (fun p => g_Sh_items (cS c j) (k + p)) v N 0 (SD V v ((q : Int) - 9)) = true
        · simp only [if_pos qq, if_neg one0]
          exact ih n n' (q + 1) x2 m3 _ (by omega) (by omega) (by omega) t3 s3
        · simp only [if_neg qq, if_true, or_zero]
          exact ih n n' (q + 1) x2 m3 S (by omega) (by omega) (by omega) t3 s3
    have := key 19 100000 100000 0 (cV c 2) m0 0 (by omega) (by omega) (by omega) t0 s0
    rw [cVs_id] at this
    obtain ⟨r, c', m', g1, g2, g3⟩ := this
    have g1' : f_X6_driftsHeard j c (iI v) (iI k) (iI N) = some (r, c') := g1
    rw [g1', Option.bind_some]
    exact ⟨r, c', m', rfl, g2, g3⟩
