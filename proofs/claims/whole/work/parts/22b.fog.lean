theorem c_ways {c : nCs} {V : nSV} (h : rC (cV c 0) V) (ok : okV V) (C : Int) : f_X6_fogWaysApart c (iI C) = some (iI (fo (fun s (a : Int) => if RS (LV s (v_n V) V) = 0 then a + PW C (v_n V) s else a) 0 (2 ^ v_n V) 0)) := by
  have hn := ok.1
  have hp : 2 ^ v_n V ≤ 64 := Nat.pow_le_pow_right (n := 2) (by omega) hn
  have k39 : ∀ (s : Nat), s < 64 → ∀ (u2 u3 : Int32) (K : Int32 → Int32 → Int32 → Int32 → Int32 → Int32 → Option (Int32)) (d n j : Nat) (a : Int), j + d = v_n V → d < n → f_X6_fogWaysApart_L39 c n (iI C) u2 u3 (iI s) (iI a) (iI j) K = K (iI C) u2 u3 (iI s) (iI (fo (pf C s) j d a)) (iI (v_n V)) := by
    intro s hs u2 u3 K d
    induction d with
    | zero =>
      intro n j a hj hd
      obtain ⟨n, rfl, -⟩ := fuel hd
      obtain rfl : j = v_n V := by omega
      rw [f_X6_fogWaysApart_L39, h.1, if_pos (by rw [iI_leN (by omega) (by omega)]; omega), fo]
    | succ d ih =>
      intro n j a hj hd
      obtain ⟨n, rfl, hd2⟩ := fuel hd
      have z1 : ¬ iI ((v_n V : Nat) : Int) ≤ iI (j : Int) := by rw [iI_leN (by omega) (by omega)]; omega
      rw [f_X6_fogWaysApart_L39, h.1, if_neg z1, c_isIn hs (by omega), Option.bind_some, fo, iI_s, show (10 : Int32) = iI 10 from rfl, iI_sub, iI_mul, iI_mul]
      by_cases q : s.testBit j = true
      · simp only [if_pos q, if_neg one0]
        rw [ih n (j + 1) (a * C) (by omega) (by omega), show pf C s j a = a * C from by unfold pf; rw [if_pos q]]
      · simp only [if_neg q, if_true]
        rw [ih n (j + 1) (a * (10 - C)) (by omega) (by omega), show pf C s j a = a * (10 - C) from by unfold pf; rw [if_neg q]]
  have k15 : ∀ (d n s : Nat) (a : Int), s + d = 2 ^ v_n V → d < n → f_X6_fogWaysApart_L15 c n (iI C) (iI a) (iI ((2 ^ v_n V : Nat) : Int)) (iI s) (fun b1_15 b2_16 b3_17 b4_18 => some (b2_16)) = some (iI (fo (fun s (a : Int) => if RS (LV s (v_n V) V) = 0 then a + PW C (v_n V) s else a) s d a)) := by
    intro d
    induction d with
    | zero =>
      intro n s a hj hd
      obtain ⟨n, rfl, -⟩ := fuel hd
      rw [f_X6_fogWaysApart_L15, if_pos (by rw [iI_leN (by omega) (by omega)]; omega), fo]
    | succ d ih =>
      intro n s a hj hd
      obtain ⟨n, rfl, hd2⟩ := fuel hd
      have z1 : ¬ iI ((2 ^ v_n V : Nat) : Int) ≤ iI (s : Int) := by rw [iI_leN (by omega) (by omega)]; omega
      rw [f_X6_fogWaysApart_L15, if_neg z1, c_apart h ok (by omega), Option.bind_some, fo]
      by_cases q : RS (LV s (v_n V) V) = 0
      · simp only [if_pos q, if_neg one0]
        rw [show (1 : Int32) = iI 1 from rfl, show (0 : Int32) = iI ((0 : Nat) : Int) from rfl, k39 s (by omega) _ _ _ (v_n V) 100000 0 1 (by omega) (by omega), iI_add, show iI 1 = (1 : Int32) from rfl, iI_s]
        exact ih n (s + 1) _ (by omega) (by omega)
      · simp only [if_neg q, if_true]
        rw [iI_s]
        exact ih n (s + 1) a (by omega) (by omega)
  unfold f_X6_fogWaysApart
  rw [h.1, shl_tab _ (by omega)]
  exact k15 (2 ^ v_n V) 100000 0 0 (by omega) (by omega)
theorem m_ways {m m0 : nMd} {V : nSV} (v3 : rN m V) (ok : okV V) (s0 : AS m m0) (t0 : simM m m0) (C : Int) (u2 : Int32) (K : nMd → Int32 → Int32 → Int32 → Int32 → Int32 → Option (Int32 × nMd)) : ∃ m1, simM m m1 ∧ f_X7_fog_L36 100000 m0 (iI C) u2 (iI 0) (iI 0) (iI ((0 : Nat) : Int)) K = K m1 (iI C) u2 (iI (fo (fun s (a : Int) => if RS (LV s (v_n V) V) = 0 then a + PW C (v_n V) s else a) 0 (2 ^ v_n V) 0)) (iI (fo (fun s (a : Int) => a + PW C (v_n V) s) 0 (2 ^ v_n V) 0)) (iI ((2 ^ v_n V : Nat) : Int)) := by
  have hn := ok.1
  have hp : 2 ^ v_n V ≤ 64 := Nat.pow_le_pow_right (n := 2) (by omega) hn
  have k55 : ∀ (s : Nat), s < 64 → ∀ (u3 u4 : Int32) (K : nMd → Int32 → Int32 → Int32 → Int32 → Int32 → Int32 → Int32 → Option (Int32 × nMd)) (d n j : Nat) (a : Int) (m1 : nMd), j + d = v_n V → d < n → AS m m1 → rN m1 (LV s j V) → ∃ m2, AS m m2 ∧ rN m2 (LV s (v_n V) V) ∧ f_X7_fog_L55 n m1 (iI C) u2 u3 u4 (iI s) (iI a) (iI j) K = K m2 (iI C) u2 u3 u4 (iI s) (iI (fo (pf C s) j d a)) (iI (v_n V)) := by
    intro s hs u3 u4 K d
    induction d with
    | zero =>
      intro n j a m1 hj hd ha hm
      obtain ⟨n, rfl, -⟩ := fuel hd
      obtain rfl : j = v_n V := by omega
      refine ⟨m1, ha, hm, ?_⟩
      rw [f_X7_fog_L55, m_n hm, LV_n, if_pos (by rw [iI_leN (by omega) (by omega)]; omega), fo]
    | succ d ih =>
      intro n j a m1 hj hd ha hm
      obtain ⟨n, rfl, hd2⟩ := fuel hd
      have hj2 : j < v_n V := by omega
      have okj := LV_ok ok s j
      have hj3 : j < v_n (LV s j V) := by rw [LV_n]; exact hj2
      have o1 := okj.2.1 j hj3
      have z1 : ¬ iI ((v_n (LV s j V) : Nat) : Int) ≤ iI (j : Int) := by rw [LV_n, iI_leN (by omega) (by omega)]; omega
      rw [f_X7_fog_L55, m_n hm, if_neg z1, isIn_tab s hs j (by omega), fo]
      by_cases q : s.testBit j = true
      · have hm2 : rN (s_Md_now m1 (upd (g_Md_now m1) (3 + 4 * j + 1) (iI ((v_m (LV s j V) j + 1) % 60)))) (LV s (j + 1) V) := by
          have := rM_SM (i := j) ((v_m (LV s j V) j + (c01 (s.testBit j) : Nat)) % 60) hm
          rw [q] at this
          show rM (upd (g_Md_now m1) (3 + 4 * j + 1) (iI ((v_m (LV s j V) j + 1) % 60))) 0 (SM (LV s j V) j ((v_m (LV s j V) j + (c01 (s.testBit j) : Nat)) % 60))
          rw [q]
          exact this
        obtain ⟨m2, a2, r2, e2⟩ := ih n (j + 1) (a * C) _ (by omega) (by omega) (AS_now ha _) hm2
        refine ⟨m2, a2, r2, ?_⟩
        simp only [if_pos q, if_true]
        unfold f_X7_fog_J82 f_X7_fog_J99
        simp only [if_neg one0]
        rw [m_minute hm okj hj3, Option.bind_some, show (1 : Int32) = iI 1 from rfl, iI_add, m_round (by omega) (by omega), Option.bind_some, show iI 1 = iI ((1 : Nat) : Int) from rfl, m_tells (by omega) (by omega), Option.bind_some, iI_mul, show iI ((1 : Nat) : Int) = (1 : Int32) from rfl, iI_s, e2, show pf C s j a = a * C from by unfold pf; rw [if_pos q]]
      · have hm2 : rN (s_Md_now m1 (upd (g_Md_now m1) (3 + 4 * j + 1) (iI ((v_m (LV s j V) j + 0) % 60)))) (LV s (j + 1) V) := by
          have qf : s.testBit j = false := Bool.eq_false_iff.2 q
          have := rM_SM (i := j) ((v_m (LV s j V) j + (c01 (s.testBit j) : Nat)) % 60) hm
          rw [qf] at this
          show rM (upd (g_Md_now m1) (3 + 4 * j + 1) (iI ((v_m (LV s j V) j + 0) % 60))) 0 (SM (LV s j V) j ((v_m (LV s j V) j + (c01 (s.testBit j) : Nat)) % 60))
          rw [qf]
          exact this
        obtain ⟨m2, a2, r2, e2⟩ := ih n (j + 1) (a * (10 - C)) _ (by omega) (by omega) (AS_now ha _) hm2
        refine ⟨m2, a2, r2, ?_⟩
        simp only [if_neg q, if_neg (show ¬ (0 : Int32) = 1 by decide)]
        unfold f_X7_fog_J82 f_X7_fog_J99
        simp only [if_true]
        rw [m_minute hm okj hj3, Option.bind_some, show (0 : Int32) = iI 0 from rfl, iI_add, m_round (by omega) (by omega), Option.bind_some, show (1 : Int32) = iI ((1 : Nat) : Int) from rfl, m_tells (by omega) (by omega), Option.bind_some, show (10 : Int32) = iI 10 from rfl, iI_sub, iI_mul, show iI ((1 : Nat) : Int) = (1 : Int32) from rfl, iI_s, e2, show pf C s j a = a * (10 - C) from by unfold pf; rw [if_neg q]]
  have k36 : ∀ (d n s : Nat) (a b : Int) (m1 : nMd), s + d = 2 ^ v_n V → d < n → AS m m1 → simM m m1 → ∃ m2, simM m m2 ∧ f_X7_fog_L36 n m1 (iI C) u2 (iI a) (iI b) (iI s) K = K m2 (iI C) u2 (iI (fo (fun s (a : Int) => if RS (LV s (v_n V) V) = 0 then a + PW C (v_n V) s else a) s d a)) (iI (fo (fun s (a : Int) => a + PW C (v_n V) s) s d b)) (iI ((2 ^ v_n V : Nat) : Int)) := by
    intro d
    induction d with
    | zero =>
      intro n s a b m1 hj hd ha hs
      obtain ⟨n, rfl, -⟩ := fuel hd
      refine ⟨m1, hs, ?_⟩
      have hm1 := sim_rN hs ok v3
      obtain rfl : s = 2 ^ v_n V := by omega
      rw [f_X7_fog_L36, m_n hm1, shl_tab _ (by omega), if_pos (by rw [iI_leN (by omega) (by omega)]; omega), fo, fo]
    | succ d ih =>
      intro n s a b m1 hj hd ha hs
      obtain ⟨n, rfl, hd2⟩ := fuel hd
      have hm1 := sim_rN hs ok v3
      have z1 : ¬ iI ((2 ^ v_n V : Nat) : Int) ≤ iI (s : Int) := by rw [iI_leN (by omega) (by omega)]; omega
      obtain ⟨m2, a2, r2, e2⟩ := k55 s (by omega) (iI a) (iI b) (fun m_31 b1_24 b2_25 b3_26 b4_27 b5_28 b6_29 b7_30 => (f_X7_allAlike m_31).bind fun q_32 => if q_32 = 0 then (f_X7_backs m_31).bind fun q_37 => f_X7_fog_L36 n q_37 b1_24 b2_25 (b3_26 + b6_29) (b4_27 + b6_29) (b5_28 + (1 : Int32)) K else (f_X7_backs m_31).bind fun q_35 => f_X7_fog_L36 n q_35 b1_24 b2_25 (b3_26 + (0 : Int32)) (b4_27 + b6_29) (b5_28 + (1 : Int32)) K) (v_n V) 100000 0 1 m1 (by omega) (by omega) ha hm1
      obtain ⟨m3, eb, s3, t3, -⟩ := AS_backs a2
      have ez : iI a + (0 : Int32) = iI a := by
        rw [show (0 : Int32) = iI 0 from rfl, iI_add]; congr 1; omega
      rw [f_X7_fog_L36, m_n hm1, shl_tab _ (by omega), if_neg z1]
      rw [show iI 1 = (1 : Int32) from rfl, show iI ((0 : Nat) : Int) = (0 : Int32) from rfl] at e2
      rw [e2, m_allAlike r2 (LV_ok ok s _), Option.bind_some, eb, Option.bind_some, Option.bind_some, fo, fo, iI_s, iI_add, iI_add, ez]
      by_cases q : RS (LV s (v_n V) V) = 0
      · rw [if_pos q]
        simp only [if_pos q]
        exact ih n (s + 1) (a + PW C (v_n V) s) (b + PW C (v_n V) s) m3 (by omega) (by omega) s3 t3
      · rw [if_neg q]
        simp only [if_neg q]
        exact ih n (s + 1) a (b + PW C (v_n V) s) m3 (by omega) (by omega) s3 t3
  exact k36 (2 ^ v_n V) 100000 0 0 0 m0 (by omega) (by omega) s0 t0
theorem ways_le {C : Int} (h1 : 0 ≤ C) (h2 : C ≤ 10) (V : nSV) : ∀ (d s : Nat) (a b : Int), 0 ≤ a → a ≤ b → 0 ≤ fo (fun s (a : Int) => if RS (LV s (v_n V) V) = 0 then a + PW C (v_n V) s else a) s d a ∧ fo (fun s (a : Int) => if RS (LV s (v_n V) V) = 0 then a + PW C (v_n V) s else a) s d a ≤ fo (fun s (a : Int) => a + PW C (v_n V) s) s d b := by
  intro d
  induction d with
  | zero => intro s a b ha hb; exact ⟨ha, hb⟩
  | succ d ih =>
    intro s a b ha hb
    have := PW_nn h1 h2 (v_n V) s
    rw [fo, fo]
    by_cases q : RS (LV s (v_n V) V) = 0
    · simp only [if_pos q]; exact ih (s + 1) _ _ (by omega) (by omega)
    · simp only [if_neg q]; exact ih (s + 1) _ _ (by omega) (by omega)
theorem c_below {c : nCs} {V : nSV} (h : rC (cV c 0) V) (ok : okV V) (u2 u3 : Int32) (K : Int32 → Int32 → Int32 → Int32 → Option (Int32)) : f_X6_fog_L33 c 100000 u2 u3 (1 : Int32) (0 : Int32) K = K u2 u3 (iI (10 ^ v_n V)) (iI (v_n V)) := by
  have hn := ok.1
  have key : ∀ (d n j : Nat), j + d = v_n V → d < n → f_X6_fog_L33 c n u2 u3 (iI (10 ^ j)) (iI j) K = K u2 u3 (iI (10 ^ v_n V)) (iI (v_n V)) := by
    intro d
    induction d with
    | zero =>
      intro n j hj hd
      obtain ⟨n, rfl, -⟩ := fuel hd
      obtain rfl : j = v_n V := by omega
      rw [f_X6_fog_L33, h.1, if_pos (by rw [iI_leN (by omega) (by omega)]; omega)]
    | succ d ih =>
      intro n j hj hd
      obtain ⟨n, rfl, hd2⟩ := fuel hd
      have z1 : ¬ iI ((v_n V : Nat) : Int) ≤ iI (j : Int) := by rw [iI_leN (by omega) (by omega)]; omega
      rw [f_X6_fog_L33, h.1, if_neg z1, show (10 : Int32) = iI 10 from rfl, iI_mul, iI_s, ← Int.pow_succ]
      exact ih n (j + 1) (by omega) (by omega)
  exact key (v_n V) 100000 0 (by omega) (by omega)
theorem op_fog {c : nCs} {m : nMd} (h : Rel c m) (a1 a2 : Int32) : OK3 c (f_X6_fog c a1 a2) (f_X7_fog m a1 a2) := by
  obtain ⟨C, c_1, c_2, rfl⟩ := iI_of a1
  obtain ⟨w, w_1, w_2, rfl⟩ := iI_of a2
  obtain ⟨V, v1, v2, v3⟩ := h.1
  have hn := v1.1.1
  unfold f_X6_fog f_X7_fog
  rw [w_0_10 c_1 c_2, i_0_10 c_1 c_2, w_0_1 w_1 w_2, i_0_1 w_1 w_2]
  simp only [Option.bind_some]
  by_cases k1 : 0 ≤ C ∧ C ≤ 10
  rotate_left
  · simp only [if_neg k1, if_true]; exact ⟨_, _, rfl, rfl, h⟩
  by_cases k2 : 0 ≤ w ∧ w ≤ 1
  rotate_left
  · simp only [if_pos k1, if_neg one0, if_neg k2, if_true]; exact ⟨_, _, rfl, rfl, h⟩
  simp only [if_pos k1, if_neg one0, if_pos k2]
  obtain ⟨m0, e0, s0, n0⟩ := AS_start m
  have t0 : simM m m0 := ⟨fun j _ => by rw [n0], s0.2⟩
  obtain ⟨m1, t1, e1⟩ := m_ways v3 v1.1 s0 t0 C (iI w) (fun m_44 b1_39 b2_40 b3_41 b4_42 b5_43 => f_X7_fog_L175 100000 m_44 b2_40 b3_41 b4_42 b3_41 b4_42 (fun m_52 b2_47 b3_48 b4_49 b5_50 b6_51 => if b2_47 = 0 then nn_nz b5_50 (some (b3_48 / b5_50, m_52)) else nn_nz b5_50 (some (b4_49 / b5_50, m_52))))
  rw [show iI 0 = (0 : Int32) from rfl, zz] at e1
  rw [c_ways v2 v1.1 C, Option.bind_some, c_below v2 v1.1, e0, Option.bind_some, e1]
  have hsum := PW_sum C.toNat (by omega) (v_n V) (by omega)
  rw [show ((C.toNat : Nat) : Int) = C from by omega] at hsum
  have hb := ways_le k1.1 k1.2 V (2 ^ v_n V) 0 0 0 (by omega) (by omega)
  rw [hsum] at hb ⊢
  generalize fo (fun s (a : Int) => if RS (LV s (v_n V) V) = 0 then a + PW C (v_n V) s else a) 0 (2 ^ v_n V) 0 = W at hb ⊢
  have h10 : (10 : Int) ^ v_n V ≤ 1000000 ∧ 1 ≤ (10 : Int) ^ v_n V := by
    have : ∀ n, n < 7 → (10 : Int) ^ n ≤ 1000000 ∧ 1 ≤ (10 : Int) ^ n := by decide +kernel
    exact this _ (by omega)
  generalize (10 : Int) ^ v_n V = B at hb h10 ⊢
  obtain ⟨a, rfl⟩ : ∃ a : Nat, W = (a : Int) := ⟨W.toNat, by omega⟩
  obtain ⟨b, rfl⟩ : ∃ b : Nat, B = (b : Int) := ⟨B.toNat, by omega⟩
  have hc := c_gcd 20 100000 0 a b (by omega) (by omega) (by have : (2 : Nat) ^ 20 = 1048576 := rfl; omega) (by omega) (by omega)
  have hc' : f_X6_greatestDivisor (iI a) (iI b) = some (iI (Nat.gcd b a : Nat)) := hc
  rw [m_gcd _ 20 100000 a b (by omega) (by omega) (by have : (2 : Nat) ^ 20 = 1048576 := rfl; omega) (by omega), hc', Option.bind_some]
  have hg1 : 0 < Nat.gcd b a := Nat.gcd_pos_of_pos_left _ (by omega)
  have hg2 : Nat.gcd b a ≤ b := Nat.gcd_le_left _ (by omega)
  generalize Nat.gcd b a = G at hg1 hg2 ⊢
  rw [show (1 : Int32) = iI 1 from rfl, c_max (by omega) (by omega) (by omega) (by omega), Option.bind_some, show (if (1 : Int) < (G : Int) then (G : Int) else 1) = (G : Int) from by split <;> omega]
  have hR : Rel c m1 := Rel_sim (simC_rf c) t1 h
  rw [nn_nzo (by omega) (by omega) (by omega), nn_nzo (by omega) (by omega) (by omega), nn_nzo (by omega) (by omega) (by omega), nn_nzo (by omega) (by omega) (by omega)]
  by_cases w0 : iI w = 0
  · rw [if_pos w0, if_pos w0]; exact ⟨_, _, rfl, rfl, hR⟩
  · rw [if_neg w0, if_neg w0]; exact ⟨_, _, rfl, rfl, hR⟩
