def lk (U V : nSV) : Bool := al (fun u => decide (v_m U u = v_m V u)) 0 (v_n U)
theorem ix41 {j : Nat} : ((3 : Int32) + (4 : Int32) * iI (j : Int)) + (1 : Int32) = iI ((3 + 4 * j + 1 : Nat) : Int) := by
  rw [show (3 : Int32) = iI 3 from rfl, show (4 : Int32) = iI 4 from rfl, show (1 : Int32) = iI 1 from rfl, iI_mul, iI_add, iI_add]; congr 1
theorem m_asAside {m m1 : nMd} {U V : nSV} (hm : rN m1 U) (ha : AS m m1) (ok : okV U) (hV : rN m V) (okv : okV V) (hnn : v_n U = v_n V) : f_X7_isAsAside m1 = some (if lk U V = true then 1 else 0) := by
  have hn := ok.1
  have key : ∀ (d n j : Nat) (b : Bool), j + d = v_n U → d < n → f_X7_isAsAside_L4 m1 n (if b = true then 1 else 0) (iI j) (fun b1_7 b2_8 => nn_bo b1_7 (some (b1_7))) = some (if (b && al (fun u => decide (v_m U u = v_m V u)) j d) = true then 1 else 0) := by
    intro d
    induction d with
    | zero =>
      intro n j b hj hd
      obtain ⟨n, rfl, -⟩ := fuel hd
      rw [f_X7_isAsAside_L4, m_n hm, if_pos (by rw [iI_leN (by omega) (by omega)]; omega), al, Bool.and_true]
      cases b
      · exact nn_bo0
      · exact nn_bo1
    | succ d ih =>
      intro n j b hj hd
      obtain ⟨n, rfl, hd2⟩ := fuel hd
      have hj2 : j < v_n U := by omega
      have o1 := ok.2.1 j hj2
      have o2 := okv.2.1 j (by omega)
      rw [f_X7_isAsAside_L4, m_n hm, if_neg (by rw [iI_leN (by omega) (by omega)]; omega), al]
      cases b
      · have := ih n (j + 1) false (by omega) (by omega)
        simp only [Bool.false_and, if_neg (show ¬ false = true by decide)] at this ⊢
        rw [if_true, iI_s]; exact this
      · simp only [if_true, if_neg one0]
        rw [m_minute hm ok hj2, Option.bind_some, ix41, nn_ixN (by omega) (by omega), iI_cN (by omega), ha.1 _ (by omega), (m_at hV (show j < v_n V by omega)).2.1, iI_s]
        by_cases q : v_m U j = v_m V j
        · have := ih n (j + 1) true (by omega) (by omega)
          simp only [if_true] at this
          rw [if_pos (by rw [q]), this, decide_eq_true q]; rfl
        · have := ih n (j + 1) false (by omega) (by omega)
          simp only [if_neg (show ¬ false = true by decide)] at this
          rw [if_neg (by rw [iI_eq (by omega) (by omega) (by omega) (by omega)]; exact q), this, decide_eq_false q]; rfl
  have := key (v_n U) 100000 0 true (by omega) (by omega)
  exact this
theorem op_again {c : nCs} {m : nMd} (h : Rel c m) : OK2 (f_X6_again c) (f_X7_again m) := by
  obtain ⟨V, v1, v2, v3⟩ := h.1
  have hn := v1.1.1
  have hy := v1.2
  unfold f_X6_again f_X7_again
  obtain ⟨z, ez, hz⟩ := c_becomeLike (x := cV c 2) v2 v1.1
  obtain ⟨m0, e0, s0, n0⟩ := AS_start m
  rw [ez, Option.bind_some, e0, Option.bind_some]
  have key : ∀ (d n n' k : Nat) (x : nVl) (m1 : nMd) (U : nSV), k + d = 120 → 2 * d < n → d < n' → rC x U → rN m1 U → AS m m1 → okV U → v_n U = v_n V → v_y U + 2 * d ≤ 20000 → OK2 (f_X6_again_L13 n (cVs c 2 x) (iI ((2 * k + 1 : Nat) : Int)) (fun c_11 b1_10 => some ((-4 : Int32), c_11))) (f_X7_again_L9 n' m1 (-4 : Int32) (iI ((2 * k + 2 : Nat) : Int)) (fun m_12 b1_10 b2_11 => (f_X7_backs m_12).bind fun q_13 => some (b1_10, q_13))) := by
    intro d
    induction d with
    | zero =>
      intro n n' k x m1 U hk hd hd' hx hm ha ok hnn hy
      obtain ⟨n, rfl, -⟩ := fuel hd
      obtain ⟨n', rfl, -⟩ := fuel hd'
      obtain rfl : k = 120 := by omega
      obtain ⟨m2, eb, s2, t2, -⟩ := AS_backs ha
      rw [f_X6_again_L13, if_pos (by decide), f_X7_again_L9, if_pos (by decide), eb, Option.bind_some]
      exact ⟨_, _, _, rfl, rfl, Rel_sim (simC_V2 (simC_rf c) x) t2 h⟩
    | succ d ih =>
      intro n n' k x m1 U hk hd hd' hx hm ha ok hnn hy
      obtain ⟨n, rfl, hd2⟩ := fuel hd
      obtain ⟨n', rfl, hd3⟩ := fuel hd'
      obtain ⟨n, rfl, hd4⟩ := fuel (show 0 < n by omega)
      obtain ⟨y, e, hy2⟩ := c_passDay hx ok
      have ok2 := PD_ok ok (by omega)
      obtain ⟨y3, e3, hy3⟩ := c_passDay hy2 ok2
      have ok3 := PD_ok ok2 (by show v_y U + 1 < _; omega)
      obtain ⟨w, l, eg, hg⟩ := m_goesOn 2 (m := m1) (by omega) hm ok (by omega)
      have hg3 : rN (s_Md_later (s_Md_now m1 w) l) (PD (PD U)) := hg
      have n3 : v_n (PD (PD U)) = v_n V := hnn
      have er1 : iI ((2 * k + 1 : Nat) : Int) - iI ((2 * k + 1 : Nat) : Int) / (2 : Int32) * (2 : Int32) = iI 1 := by
        rw [show (2 : Int32) = iI 2 from rfl, iI_rem (by omega) (by omega) (by omega) (by omega)]; congr 1; omega
      have er2 : iI ((2 * k + 1 + 1 : Nat) : Int) - iI ((2 * k + 1 + 1 : Nat) : Int) / (2 : Int32) * (2 : Int32) = iI 0 := by
        rw [show (2 : Int32) = iI 2 from rfl, iI_rem (by omega) (by omega) (by omega) (by omega)]; congr 1; omega
      rw [f_X7_again_L9, if_neg (by rw [show (241 : Int32) = iI ((241 : Nat) : Int) from rfl, iI_leN (by omega) (by omega)]; omega), if_pos rfl, show (2 : Int32) = iI ((2 : Nat) : Int) from rfl, eg, Option.bind_some, m_asAside hg3 (AS_by ha w l) ok3 v3 v1.1 n3, Option.bind_some, iI_add]
      rw [f_X6_again_L13, show (240 : Int32) = iI ((240 : Nat) : Int) from rfl, if_neg (by rw [iI_ltN (by omega) (by omega)]; omega), cV_s, e, Option.bind_some, er1, if_neg (show ¬ iI 1 = 0 by decide), cVs_s, iI_s, f_X6_again_L13, show (240 : Int32) = iI ((240 : Nat) : Int) from rfl, if_neg (by rw [iI_ltN (by omega) (by omega)]; omega), cV_s, e3, Option.bind_some, er2, if_pos (show iI 0 = 0 by decide), cVs_s, cV_s, cV_n _ _ (by omega), c_ringsLike hy3 ok3 v2 v1.1 n3.symm, Option.bind_some, iI_s]
      show OK2 (if (if lk (PD (PD U)) V = true then (1 : Int32) else 0) = 0 then _ else _) _
      by_cases q : lk (PD (PD U)) V = true
      · simp only [if_pos q, if_neg one0]
        obtain ⟨m2, eb, s2, t2, -⟩ := AS_backs (AS_by ha w l)
        have hne : ¬ iI ((2 * k + 2 : Nat) : Int) = (-4 : Int32) := by
          rw [show (-4 : Int32) = iI (-4) from rfl, iI_eq (by omega) (by omega) (by omega) (by omega)]; omega
        obtain ⟨n', rfl⟩ : ∃ t, n' = t + 1 := by
          cases n' with
          | zero => omega
          | succ t => exact ⟨t, rfl⟩
        rw [f_X7_again_L9, if_neg hne, eb, Option.bind_some, ite_self]
        exact ⟨_, _, _, rfl, rfl, Rel_sim (simC_V2 (simC_rf c) y3) t2 h⟩
      · simp only [if_neg q, if_true]
        have := ih n n' (k + 1) y3 _ (PD (PD U)) (by omega) (by omega) (by omega) hy3 hg3 (AS_by ha w l) ok3 n3 (by show v_y U + 1 + 1 + 2 * d ≤ _; omega)
        rw [show 2 * (k + 1) + 1 = 2 * k + 1 + 1 + 1 from by omega, show ((2 * (k + 1) + 2 : Nat) : Int) = ((2 * k + 2 : Nat) : Int) + ((2 : Nat) : Int) from by omega] at this
        exact this
  exact key 120 100000 100000 0 z m0 V (by omega) (by omega) (by omega) hz (now_rN n0 v3) s0 v1.1 rfl (by omega)
/-- the reference's 'last' beside the class's 'latest' -/
def wl (a : Int) : Int := if a < 0 then -1 else if a = 61 then 99 else a
theorem op_worst {c : nCs} {m : nMd} (h : Rel c m) (a2 : Int32) : OK2 (f_X6_worst c a2) (f_X7_worst m a2) := by
  obtain ⟨b, b_1, b_2, rfl⟩ := iI_of a2
  obtain ⟨V, v1, v2, v3⟩ := h.1
  have hn := v1.1.1
  have hy := v1.2
  unfold f_X6_worst f_X7_worst
  rw [w_0_1 b_1 b_2, i_0_1 b_1 b_2]
  simp only [Option.bind_some]
  by_cases k2 : 0 ≤ b ∧ b ≤ 1
  rotate_left
  · simp only [if_neg k2, if_true]; exact ⟨_, _, _, rfl, rfl, h⟩
  simp only [if_neg one0, if_pos k2]
  obtain ⟨m0, e0, s0, n0⟩ := AS_start m
  rw [e0, Option.bind_some]
  have key : ∀ (K : nCs → Int32 → Int32 → Int32 → Int32 → Option (Int32 × nCs)) (K' : nMd → Int32 → Int32 → Int32 → Int32 → Option (Int32 × nMd)) (d n n' j : Nat) (x : nVl) (m1 : nMd) (f : Int32) (la : Int), j + d = v_n V → d < n → d < n' → rN m1 V → AS m m1 → (la = -4 ∨ 0 ≤ la) → la ≤ 61 → ∃ (f' : Int32) (la' : Int) (x' : nVl) (m' : nMd), f_X6_worst_L20 n (cVs c 2 x) (iI b) f (iI la) (iI j) K = K (cVs c 2 x') (iI b) f' (iI la') (iI (v_n V)) ∧ f_X7_worst_L24 n' m1 (iI b) f (iI (wl la)) (iI j) K' = K' m' (iI b) f' (iI (wl la')) (iI (v_n V)) ∧ (la' = -4 ∨ 0 ≤ la') ∧ la' ≤ 61 ∧ (d = 0 → m' = m1) ∧ (d ≠ 0 → simM m m') := by
    intro K K' d
    induction d with
    | zero =>
      intro n n' j x m1 f la hj hd hd' hm ha l1 l2
      obtain ⟨n, rfl, -⟩ := fuel hd
      obtain ⟨n', rfl, -⟩ := fuel hd'
      obtain rfl : j = v_n V := by omega
      refine ⟨f, la, x, m1, ?_, ?_, l1, l2, fun _ => rfl, fun q => absurd rfl q⟩
      · rw [f_X6_worst_L20, cV_n _ _ (by omega), v2.1, if_pos (by rw [iI_leN (by omega) (by omega)]; omega)]
      · rw [f_X7_worst_L24, m_n hm, if_pos (by rw [iI_leN (by omega) (by omega)]; omega)]
    | succ d ih =>
      intro n n' j x m1 f la hj hd hd' hm ha l1 l2
      obtain ⟨n, rfl, hd2⟩ := fuel hd
      obtain ⟨n', rfl, hd3⟩ := fuel hd'
      have hj2 : j < v_n V := by omega
      have okU : okV (SD V j 0) := ok_SD v1.1 (by omega) (by omega)
      obtain ⟨z, ez, hz⟩ := c_becomeLike (x := x) v2 v1.1
      obtain ⟨y, ey, hy2⟩ := c_until (rC_SD (i := j) 0 hz) okU (by show v_y V ≤ _; omega)
      have hm2 : rN (s_Md_now m1 (upd (g_Md_now m1) (3 + 4 * j + 2) (iI 0))) (SD V j 0) := rM_SD 0 hm
      obtain ⟨m2, e2, s2, t2, -⟩ := m_when hm2 (AS_now ha _) okU (by show v_y V ≤ _; omega)
      have hle := TG_le 61 (SD V j 0)
      generalize TG 61 (SD V j 0) = T at *
      have ec : f_X6_togetherWithoutDriftOf (cVs c 2 x) (iI j) = some (iI (T : Int), cVs c 2 y) := by
        unfold f_X6_togetherWithoutDriftOf
        rw [cV_s, cV_n _ _ (by omega), ez, Option.bind_some, nn_ixN (by omega) (by omega), Option.bind_some, cVs_s, cV_s, cVs_s, cV_s, iI_cN (by omega), show (0 : Int32) = iI 0 from rfl, ey, Option.bind_some]
        dsimp only
        simp only [cVs_s]
      rw [f_X7_worst_L24, m_n hm, if_neg (by rw [iI_leN (by omega) (by omega)]; omega), show (2 : Int32) = iI ((2 : Nat) : Int) from rfl, m_tells (by omega) (by omega), Option.bind_some, show (0 : Int32) = iI 0 from rfl, e2, Option.bind_some]
      dsimp only
      rw [f_X6_worst_L20, cV_n _ _ (by omega), v2.1, if_neg (by rw [iI_leN (by omega) (by omega)]; omega), ec, Option.bind_some, iI_s]
      dsimp only
      have hwl : -1 ≤ wl la ∧ wl la ≤ 99 := by
        unfold wl
        repeat' split
        all_goals omega
      have fin : ∀ (s0 : Int), s0 = wl (T : Int) → ∃ (f' : Int32) (la' : Int) (x' : nVl) (m' : nMd), (if iI (T : Int) ≤ iI la then f_X6_worst_L20 n (cVs c 2 y) (iI b) f (iI la) (iI ((j + 1 : Nat) : Int)) K else f_X6_worst_L20 n (cVs c 2 y) (iI b) (iI j) (iI (T : Int)) (iI ((j + 1 : Nat) : Int)) K) = K (cVs c 2 x') (iI b) f' (iI la') (iI (v_n V)) ∧ f_X7_worst_J63 m2 (iI b) f (iI (wl la)) (iI j) (iI s0) (fun m u1 u2 u3 u4 => f_X7_worst_L24 n' m u1 u2 u3 u4 K') K' = K' m' (iI b) f' (iI (wl la')) (iI (v_n V)) ∧ (la' = -4 ∨ 0 ≤ la') ∧ la' ≤ 61 ∧ simM m m' := by
        intro s0 hs0
        have hcmp : s0 ≤ wl la ↔ (T : Int) ≤ la := by
          rw [hs0]; unfold wl
          repeat' split
          all_goals omega
        have hsb : 0 ≤ s0 ∧ s0 ≤ 99 := by
          rw [hs0]; unfold wl
          repeat' split
          all_goals omega
        unfold f_X7_worst_J63 f_X7_worst_J77
        by_cases q : (T : Int) ≤ la
        · rw [if_pos (by rw [iI_le (by omega) (by omega) (by omega) (by omega)]; exact q), if_pos (by rw [iI_le (by omega) (by omega) (by omega) (by omega)]; exact hcmp.2 q), if_pos (by rw [iI_le (by omega) (by omega) (by omega) (by omega)]; exact hcmp.2 q), iI_s]
          obtain ⟨f', la', x', m', a1, a2, a3, a4, a5, a6⟩ := ih n n' (j + 1) y m2 f la (by omega) (by omega) (by omega) (sim_rN t2 v1.1 v3) s2 l1 l2
          refine ⟨f', la', x', m', a1, a2, a3, a4, ?_⟩
          by_cases d0 : d = 0
          · rw [a5 d0]; exact t2
          · exact a6 d0
        · rw [if_neg (by rw [iI_le (by omega) (by omega) (by omega) (by omega)]; exact q), if_neg (by rw [iI_le (by omega) (by omega) (by omega) (by omega)]; exact fun w => q (hcmp.1 w)), if_neg (by rw [iI_le (by omega) (by omega) (by omega) (by omega)]; exact fun w => q (hcmp.1 w)), iI_s, hs0]
          obtain ⟨f', la', x', m', a1, a2, a3, a4, a5, a6⟩ := ih n n' (j + 1) y m2 (iI j) (T : Int) (by omega) (by omega) (by omega) (sim_rN t2 v1.1 v3) s2 (by omega) (by omega)
          refine ⟨f', la', x', m', a1, a2, a3, a4, ?_⟩
          by_cases d0 : d = 0
          · rw [a5 d0]; exact t2
          · exact a6 d0
      by_cases hT : T < 61
      · rw [if_pos hT, if_neg (show ¬ iI (T : Int) = (-4 : Int32) by rw [show (-4 : Int32) = iI (-4) from rfl, iI_eq (by omega) (by omega) (by omega) (by omega)]; omega)]
        obtain ⟨f', la', x', m', a1, a2, a3, a4, a5⟩ := fin (T : Int) (by unfold wl; rw [if_neg (by omega), if_neg (by omega)])
        exact ⟨f', la', x', m', a1, a2, a3, a4, fun q => absurd q (by omega), fun _ => a5⟩
      · rw [if_neg hT, if_pos (show iI (-4) = (-4 : Int32) from rfl)]
        obtain ⟨f', la', x', m', a1, a2, a3, a4, a5⟩ := fin 99 (by unfold wl; rw [if_neg (by omega), if_pos (by omega)])
        exact ⟨f', la', x', m', a1, a2, a3, a4, fun q => absurd q (by omega), fun _ => a5⟩
  obtain ⟨f', la', x', m', a1, a2, a3, a4, a5, a6⟩ := key (fun c_12 b1_8 b2_9 b3_10 b4_11 => if b1_8 = 0 then some (b2_9, c_12) else if b3_10 = (61 : Int32) then some ((-4 : Int32), c_12) else some (b3_10, c_12)) (fun m_18 b1_14 b2_15 b3_16 b4_17 => if b1_14 = 0 then some (b2_15, m_18) else if b3_16 < 0 then some ((-4 : Int32), m_18) else if b3_16 = (99 : Int32) then some ((-4 : Int32), m_18) else some (b3_16, m_18)) (v_n V) 100000 100000 0 (cV c 2) m0 (-4 : Int32) (-4) (by omega) (by omega) (by omega) (now_rN n0 v3) s0 (by omega) (by omega)
  have hid : cVs c 2 (cV c 2) = c := by
    have e : va_up (g_Cs_V c) 2 (g_Cs_V c 2) = g_Cs_V c := by
      funext j
      by_cases hj : j = 2
      · rw [hj, va_up_self]
      · rw [va_up_ne _ _ hj]
    unfold cVs cV
    rw [e]
    rfl
  rw [hid] at a1
  have hsm : simM m m' := by
    by_cases d0 : v_n V = 0
    · rw [a5 d0]; exact ⟨fun j _ => by rw [n0], s0.2⟩
    · exact a6 d0
  have hR := Rel_sim (simC_V2 (simC_rf c) x') hsm h
  rw [show iI (wl (-4)) = (-1 : Int32) from rfl] at a2
  rw [show (-4 : Int32) = iI (-4) from rfl, show (0 : Int32) = iI ((0 : Nat) : Int) from rfl] at *
  rw [a1, a2]
  by_cases hb : iI b = iI ((0 : Nat) : Int)
  · rw [if_pos hb, if_pos hb]; exact ⟨_, _, _, rfl, rfl, hR⟩
  · rw [if_neg hb, if_neg hb]
    have hwl : -1 ≤ wl la' ∧ wl la' ≤ 99 := by
      unfold wl
      repeat' split
      all_goals omega
    simp (disch := omega) only [show (61 : Int32) = iI 61 from rfl, show (99 : Int32) = iI 99 from rfl, iI_eq, iI_lt]
    rcases a3 with rfl | a3
    · rw [if_neg (by omega), if_pos (by decide)]; exact ⟨_, _, _, rfl, rfl, hR⟩
    · by_cases q : la' = 61
      · subst q
        rw [if_pos rfl, if_neg (by decide), if_pos (by decide)]; exact ⟨_, _, _, rfl, rfl, hR⟩
      · have e : wl la' = la' := by unfold wl; rw [if_neg (by omega), if_neg q]
        rw [e, if_neg q, if_neg (by omega), if_neg (by omega)]
        exact ⟨_, _, _, rfl, rfl, hR⟩
