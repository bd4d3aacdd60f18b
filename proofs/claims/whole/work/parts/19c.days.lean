theorem and31 (w : Int) : iI w &&& (2147483647 : Int32) = iI (w % 2147483648) := by
  rw [pk_and (iI w) 31 (m := (2147483647 : Int32)) (by decide), iI_nI]
  congr 1
  have e : (iI w).toBitVec.toNat = (w % 4294967296).toNat := by
    unfold iI
    rw [Int32.toBitVec_ofInt, BitVec.toNat_ofInt]; rfl
  rw [e]; omega
theorem and31L (w : Int) : (iL w &&& (2147483647 : Int64)).toInt32 = iI (w % 2147483648) := by
  apply Int32.toBitVec_inj.1
  apply BitVec.eq_of_toNat_eq
  rw [Int64.toBitVec_toInt32, BitVec.signExtend_eq_setWidth_of_le _ (by omega), BitVec.toNat_setWidth, Int64.toBitVec_and, BitVec.toNat_and]
  unfold iI iL
  rw [Int32.toBitVec_ofInt, Int64.toBitVec_ofInt, BitVec.toNat_ofInt, BitVec.toNat_ofInt, show (2147483647 : Int64).toBitVec.toNat = 2 ^ 31 - 1 from by decide, Nat.and_two_pow_sub_one_eq_mod]
  omega
def dw (w : Int) : Int := (w * 1103515245 + 12345) % 2147483648
theorem dw_b (w : Int) : 0 ≤ dw w ∧ dw w < 2147483648 := by unfold dw; omega
def dri (V : nSV) : Nat := (dw (v_w V) / 65536 % (v_n V : Int)).toNat
def DR (V : nSV) : nSV := if v_n V = 0 then SW V (dw (v_w V)) else SM (SW V (dw (v_w V))) (dri V) ((v_m V (dri V) + dw (v_w V) / 128 % 5) % 60)
theorem ok_SW {V : nSV} {t : Int} (ok : okV V) (h1 : 0 ≤ t) (h2 : t < 2147483648) : okV (SW V t) := ⟨ok.1, ok.2.1, ok.2.2.1, ok.2.2.2.1, h1, h2⟩
theorem DR_ok {V : nSV} (ok : okV V) : okV (DR V) := by
  have hb := dw_b (v_w V)
  unfold DR
  split
  · exact ok_SW ok hb.1 hb.2
  · exact ok_SM (ok_SW ok hb.1 hb.2) (by omega) (by omega)
theorem DR_y (V : nSV) : v_y (DR V) = v_y V := by unfold DR; split <;> rfl
theorem dri_lt {V : nSV} (h : v_n V ≠ 0) : dri V < v_n V := by
  unfold dri
  have : dw (v_w V) / 65536 % (v_n V : Int) < v_n V := Int.emod_lt_of_pos _ (by omega)
  have : 0 ≤ dw (v_w V) / 65536 % (v_n V : Int) := Int.emod_nonneg _ (by omega)
  omega
theorem dr_e1 {V : nSV} (ok : okV V) (h : v_n V ≠ 0) : iI (dw (v_w V)) / (65536 : Int32) - iI (dw (v_w V)) / (65536 : Int32) / iI (v_n V) * iI (v_n V) = iI (dri V) := by
  have hb := dw_b (v_w V)
  have hn := ok.1
  have hi := dri_lt h
  rw [show (65536 : Int32) = iI 65536 from rfl, iI_divn (by omega) (by omega) (by omega) (by omega), iI_rem (by omega) (by omega) (by omega) (by omega)]
  congr 1
  unfold dri
  have : 0 ≤ dw (v_w V) / 65536 % (v_n V : Int) := Int.emod_nonneg _ (by omega)
  omega
theorem dr_e2 (V : nSV) : iI (dw (v_w V)) / (128 : Int32) - iI (dw (v_w V)) / (128 : Int32) / (5 : Int32) * (5 : Int32) = iI (dw (v_w V) / 128 % 5) := by
  have hb := dw_b (v_w V)
  rw [show (128 : Int32) = iI 128 from rfl, show (5 : Int32) = iI 5 from rfl, iI_divn (by omega) (by omega) (by omega) (by omega), iI_rem (by omega) (by omega) (by omega) (by omega)]
theorem c_draw {x : nVl} {V : nSV} (h : rC x V) (ok : okV V) : ∃ y, f_X5_drawRinger x = some y ∧ rC y (DR V) := by
  have hn := ok.1
  have hb := dw_b (v_w V)
  unfold f_X5_drawRinger
  rw [h.2.2.1, show (1103515245 : Int32) = iI 1103515245 from rfl, show (12345 : Int32) = iI 12345 from rfl, iI_mul, iI_add, and31, show (v_w V * 1103515245 + 12345) % 2147483648 = dw (v_w V) from rfl, Option.bind_some]
  have hx : rC (s_Vl_draw x (iI (dw (v_w V)))) (SW V (dw (v_w V))) := ⟨h.1, h.2.1, rfl, h.2.2.2⟩
  have e0 : g_Vl_villages (s_Vl_draw x (iI (dw (v_w V)))) = iI (v_n V) := h.1
  have e00 : g_Vl_draw (s_Vl_draw x (iI (dw (v_w V)))) = iI (dw (v_w V)) := rfl
  rw [e0, e00]
  by_cases h0 : v_n V = 0
  · rw [if_pos (by rw [h0]; decide)]
    refine ⟨_, rfl, ?_⟩
    unfold DR; rw [if_pos h0]; exact hx
  · rw [if_neg (by rw [show (0 : Int32) = iI ((0 : Nat) : Int) from rfl, iI_leN (by omega) (by omega)]; omega), nn_nzo (by omega) (by omega) (by omega)]
    have hi := dri_lt h0
    have o1 := ok.2.1 _ hi
    rw [dr_e1 ok h0, dr_e2, nn_ixN (by omega) (by omega), iI_cN (by omega)]
    rw [show g_Vl_minutes (s_Vl_draw x (iI (dw (v_w V)))) (dri V) = iI (v_m V (dri V)) from (h.2.2.2 _ hi).2.1, iI_add, c_round (by omega) (by omega), Option.bind_some, nn_ixN (by omega) (by omega)]
    refine ⟨_, rfl, ?_⟩
    unfold DR; rw [if_neg h0]
    exact rC_SM _ hx
theorem day_step {c : nCs} {m : nMd} {V : nSV} (h : Rel c m) (hV : NW c m V) (hy : v_y V < 9999) : ∃ c1 y m1 m2, f_X1_remember 0 0 c = some c1 ∧ f_X5_passDay (cV c1 0) = some y ∧ f_X7_notes m = some m1 ∧ f_X7_goesBy m1 = some m2 ∧ Rel (cVs c1 0 y) m2 ∧ NW (cVs c1 0 y) m2 (PD V) := by
  obtain ⟨v1, v2, v3⟩ := id hV
  obtain ⟨c1, w, u, e1, e2, e3, e4, f1, hH⟩ := noted h hV
  obtain ⟨y, ey, hy2⟩ := c_passDay (x := cV c1 0) (V := V) (by rw [e3]; exact v2) v1.1
  obtain ⟨z, l, ez, hz⟩ := m_goesBy (m := s_Md_undos (s_Md_undone m w) u) (V := V) v3 v1.1
  have hU : okY (PD V) := ⟨PD_ok v1.1 (by omega), by show v_y V + 1 ≤ 9999; omega⟩
  refine ⟨c1, y, _, _, e1, ey, e2, ez, ?_, hU, ?_, hz⟩
  · exact noted_to h f1 hH hU hy2 ⟨rfl, rfl, rfl, rfl, rfl, rfl, rfl, rfl⟩ rfl rfl hz
  · rw [cV_s]; exact hy2
theorem op_days {c : nCs} {m : nMd} (h : Rel c m) (a1 : Int32) : OK2 (f_X6_days c a1) (f_X7_days m a1) := by
  obtain ⟨a, a_1, a_2, rfl⟩ := iI_of a1
  obtain ⟨V, v1, v2, v3⟩ := h.1
  have ok := v1.1.2.2
  unfold f_X6_days f_X6_passDays f_X7_days
  rw [w_1_40 a_1 a_2, i_1_40 a_1 a_2]
  simp only [Option.bind_some]
  by_cases k1 : 1 ≤ a ∧ a ≤ 40
  rotate_left
  · simp only [if_neg k1, if_true]; exact ⟨_, _, _, rfl, rfl, h⟩
  simp only [if_pos k1, if_neg one0]
  rw [v2.2.1, m_y v3, iI_add, show (9999 : Int32) = iI 9999 from rfl]
  by_cases k2 : v_y V + a ≤ 9999
  rotate_left
  · rw [if_neg (by rw [iI_le (by omega) (by omega) (by omega) (by omega)]; exact k2), if_neg (by rw [iI_le (by omega) (by omega) (by omega) (by omega)]; exact k2)]
    exact ⟨_, _, _, rfl, rfl, h⟩
  rw [if_pos (by rw [iI_le (by omega) (by omega) (by omega) (by omega)]; exact k2), if_pos (by rw [iI_le (by omega) (by omega) (by omega) (by omega)]; exact k2)]
  obtain ⟨N, rfl⟩ : ∃ N : Nat, a = (N : Int) := ⟨a.toNat, by omega⟩
  have key : ∀ (K : nCs → Int32 → Int32 → Int32 → Option (Int32 × nCs)) (K' : nMd → Int32 → Int32 → Option (Int32 × nMd)) (d n n' j : Nat) (c : nCs) (m : nMd) (V : nSV), j + d = N → d < n → d < n' → Rel c m → NW c m V → v_y V + d ≤ 9999 → ∃ c' m' V', f_X6_passDays_L32 n c (iI N) 0 (iI j) K = K c' (iI N) 0 (iI N) ∧ f_X7_days_L33 n' m (iI N) (iI j) K' = K' m' (iI N) (iI N) ∧ Rel c' m' ∧ NW c' m' V' := by
    intro K K' d
    induction d with
    | zero =>
      intro n n' j c m V hj hd hd' h hV hy
      obtain ⟨n, rfl, -⟩ := fuel hd
      obtain ⟨n', rfl, -⟩ := fuel hd'
      obtain rfl : j = N := by omega
      refine ⟨c, m, V, ?_, ?_, h, hV⟩
      · rw [f_X6_passDays_L32, if_pos (by rw [iI_leN (by omega) (by omega)]; omega)]
      · rw [f_X7_days_L33, if_pos (by rw [iI_leN (by omega) (by omega)]; omega)]
    | succ d ih =>
      intro n n' j c m V hj hd hd' h hV hy
      obtain ⟨n, rfl, hd2⟩ := fuel hd
      obtain ⟨n', rfl, hd3⟩ := fuel hd'
      obtain ⟨c1, y, m1, m2, e1, e2, e3, e4, hR, hN⟩ := day_step h hV (by omega)
      rw [f_X6_passDays_L32, if_neg (by rw [iI_leN (by omega) (by omega)]; omega), f_X7_days_L33, if_neg (by rw [iI_leN (by omega) (by omega)]; omega), e1, Option.bind_some, if_pos rfl, e2, Option.bind_some, e3, Option.bind_some, e4, Option.bind_some, iI_s]
      exact ih n n' (j + 1) _ _ (PD V) (by omega) (by omega) (by omega) hR hN (by show v_y V + 1 + d ≤ 9999; omega)
  obtain ⟨c', m', V', e1, e2, hR, hN⟩ := key (fun c_18 b1_15 b2_16 b3_17 => (f_X5_leastGap (cV c_18 0)).bind fun q_19 => some (q_19, c_18)) (fun m_12 b1_10 b2_11 => (f_X7_leastGap m_12).bind fun q_13 => some (q_13, m_12)) N 100000 100000 0 c m V (by omega) (by omega) (by omega) h ⟨v1, v2, v3⟩ (by omega)
  rw [show (0 : Int32) = iI ((0 : Nat) : Int) from rfl] at e1 ⊢
  rw [e1, e2, c_leastGap hN.2.1 hN.1.1, m_leastGap hN.2.2 hN.1.1]
  exact ⟨_, _, _, rfl, rfl, hR⟩
theorem m_drawn {m : nMd} {V : nSV} (v3 : rN m V) (ok : okV V) (K : nMd → Option (Int32 × nMd)) : ∃ z, rM z 0 (DR V) ∧ ((some (s_Md_now m (upd (g_Md_now m) (2 : Int32).toNatClampNeg (((((((g_Md_now m) (2 : Int32).toNatClampNeg).toInt64) * (1103515245 : Int64)) + (12345 : Int64)) &&& (2147483647 : Int64)).toInt32)))).bind fun m_8 => if ((g_Md_now m_8) (0 : Int32).toNatClampNeg) ≤ 0 then (f_X7_goesBy m_8).bind fun q_11 => K q_11 else nn_nz ((g_Md_now m_8) (0 : Int32).toNatClampNeg) ((f_X7_minuteOf m_8 ((((g_Md_now m_8) (2 : Int32).toNatClampNeg) / (65536 : Int32)) - (((g_Md_now m_8) (2 : Int32).toNatClampNeg) / (65536 : Int32)) / ((g_Md_now m_8) (0 : Int32).toNatClampNeg) * ((g_Md_now m_8) (0 : Int32).toNatClampNeg))).bind fun q_14 => (f_X7_round (q_14 + ((((g_Md_now m_8) (2 : Int32).toNatClampNeg) / (128 : Int32)) - (((g_Md_now m_8) (2 : Int32).toNatClampNeg) / (128 : Int32)) / (5 : Int32) * (5 : Int32)))).bind fun q_16 => (f_X7_tells m_8 ((((g_Md_now m_8) (2 : Int32).toNatClampNeg) / (65536 : Int32)) - (((g_Md_now m_8) (2 : Int32).toNatClampNeg) / (65536 : Int32)) / ((g_Md_now m_8) (0 : Int32).toNatClampNeg) * ((g_Md_now m_8) (0 : Int32).toNatClampNeg)) (1 : Int32) q_16).bind fun q_18 => (f_X7_goesBy q_18).bind fun q_20 => K q_20)) = (f_X7_goesBy (s_Md_now m z)).bind K := by
  have hn := ok.1
  have o2 := ok.2.2.2.2
  have hb := dw_b (v_w V)
  have ew : ((((((g_Md_now m) (2 : Int32).toNatClampNeg).toInt64) * (1103515245 : Int64)) + (12345 : Int64)) &&& (2147483647 : Int64)).toInt32 = iI (dw (v_w V)) := by
    rw [show g_Md_now m (2 : Int32).toNatClampNeg = iI (v_w V) from v3.2.2.1, iI_L (by omega) (by omega), show (1103515245 : Int64) = iL 1103515245 from rfl, show (12345 : Int64) = iL 12345 from rfl, iL_mul, iL_add, and31L]
    rfl
  rw [ew, Option.bind_some]
  have hx : rM (upd (g_Md_now m) (2 : Int32).toNatClampNeg (iI (dw (v_w V)))) 0 (SW V (dw (v_w V))) := by
    rw [show (2 : Int32).toNatClampNeg = 2 from rfl]
    refine ⟨(pk_un (by omega)).trans v3.1, (pk_un (by omega)).trans v3.2.1, pk_us, fun i hi => ?_⟩
    have q := v3.2.2.2 i hi
    exact ⟨(pk_un (by omega)).trans q.1, (pk_un (by omega)).trans q.2.1, (pk_un (by omega)).trans q.2.2.1, (pk_un (by omega)).trans q.2.2.2⟩
  generalize hz : upd (g_Md_now m) (2 : Int32).toNatClampNeg (iI (dw (v_w V))) = z at hx ⊢
  have e0 : g_Md_now (s_Md_now m z) (0 : Int32).toNatClampNeg = iI (v_n V) := hx.1
  have e00 : g_Md_now (s_Md_now m z) (2 : Int32).toNatClampNeg = iI (dw (v_w V)) := hx.2.2.1
  rw [e0, e00]
  by_cases h0 : v_n V = 0
  · rw [if_pos (by rw [h0]; decide)]
    refine ⟨z, ?_, rfl⟩
    unfold DR; rw [if_pos h0]; exact hx
  · rw [if_neg (by rw [show (0 : Int32) = iI ((0 : Nat) : Int) from rfl, iI_leN (by omega) (by omega)]; omega), nn_nzo (by omega) (by omega) (by omega)]
    have hi := dri_lt h0
    have o1 := ok.2.1 _ hi
    rw [dr_e1 ok h0, dr_e2, m_minute (m := s_Md_now m z) (V := SW V (dw (v_w V))) hx (ok_SW ok hb.1 hb.2) hi, Option.bind_some, show v_m (SW V (dw (v_w V))) (dri V) = v_m V (dri V) from rfl, iI_add, m_round (by omega) (by omega), Option.bind_some, show (1 : Int32) = iI ((1 : Nat) : Int) from rfl, m_tells (by omega) (by omega), Option.bind_some]
    refine ⟨upd z (3 + 4 * dri V + 1) (iI ((v_m V (dri V) + dw (v_w V) / 128 % 5) % 60)), ?_, rfl⟩
    unfold DR; rw [if_neg h0]
    exact rM_SM _ hx
theorem op_storm {c : nCs} {m : nMd} (h : Rel c m) (a1 : Int32) : OK2 (f_X6_storm c a1) (f_X7_storm m a1) := by
  obtain ⟨a, a_1, a_2, rfl⟩ := iI_of a1
  obtain ⟨V, v1, v2, v3⟩ := h.1
  have ok := v1.1.2.2
  unfold f_X6_storm f_X6_passDays f_X7_storm
  rw [w_1_40 a_1 a_2, i_1_40 a_1 a_2]
  simp only [Option.bind_some]
  by_cases k1 : 1 ≤ a ∧ a ≤ 40
  rotate_left
  · simp only [if_neg k1, if_true]; exact ⟨_, _, _, rfl, rfl, h⟩
  simp only [if_pos k1, if_neg one0]
  rw [v2.2.1, m_y v3, iI_add, show (9999 : Int32) = iI 9999 from rfl]
  by_cases k2 : v_y V + a ≤ 9999
  rotate_left
  · rw [if_neg (by rw [iI_le (by omega) (by omega) (by omega) (by omega)]; exact k2), if_neg (by rw [iI_le (by omega) (by omega) (by omega) (by omega)]; exact k2)]
    exact ⟨_, _, _, rfl, rfl, h⟩
  rw [if_pos (by rw [iI_le (by omega) (by omega) (by omega) (by omega)]; exact k2), if_pos (by rw [iI_le (by omega) (by omega) (by omega) (by omega)]; exact k2)]
  obtain ⟨N, rfl⟩ : ∃ N : Nat, a = (N : Int) := ⟨a.toNat, by omega⟩
  have key : ∀ (K : nCs → Int32 → Int32 → Int32 → Option (Int32 × nCs)) (K' : nMd → Int32 → Int32 → Option (Int32 × nMd)) (d n n' j : Nat) (c : nCs) (m : nMd) (V : nSV), j + d = N → d < n → d < n' → Rel c m → NW c m V → v_y V + d ≤ 9999 → ∃ c' m' V', f_X6_passDays_L32 n c (iI N) 1 (iI j) K = K c' (iI N) 1 (iI N) ∧ f_X7_storm_L33 n' m (iI N) (iI j) K' = K' m' (iI N) (iI N) ∧ Rel c' m' ∧ NW c' m' V' := by
    intro K K' d
    induction d with
    | zero =>
      intro n n' j c m V hj hd hd' h hV hy
      obtain ⟨n, rfl, -⟩ := fuel hd
      obtain ⟨n', rfl, -⟩ := fuel hd'
      obtain rfl : j = N := by omega
      refine ⟨c, m, V, ?_, ?_, h, hV⟩
      · rw [f_X6_passDays_L32, if_pos (by rw [iI_leN (by omega) (by omega)]; omega)]
      · rw [f_X7_storm_L33, if_pos (by rw [iI_leN (by omega) (by omega)]; omega)]
    | succ d ih =>
      intro n n' j c m V hj hd hd' h hV hy
      obtain ⟨n, rfl, hd2⟩ := fuel hd
      obtain ⟨n', rfl, hd3⟩ := fuel hd'
      obtain ⟨v1, v2, v3⟩ := id hV
      obtain ⟨c1, w, u, e1, e2, e3, e4, f1, hH⟩ := noted h hV
      obtain ⟨y, ey, hy2⟩ := c_draw (x := cV c1 0) (V := V) (by rw [e3]; exact v2) v1.1
      obtain ⟨x, ex, hx⟩ := c_passDay hy2 (DR_ok v1.1)
      rw [f_X6_passDays_L32, if_neg (by rw [iI_leN (by omega) (by omega)]; omega), f_X7_storm_L33, if_neg (by rw [iI_leN (by omega) (by omega)]; omega), e1, Option.bind_some, if_neg one0, ey, Option.bind_some, cV_s, ex, Option.bind_some, cVs_s, e2, Option.bind_some, iI_s]
      obtain ⟨z, hz, ez⟩ := m_drawn (m := s_Md_undos (s_Md_undone m w) u) v3 v1.1 (fun q => f_X7_storm_L33 n' q (iI N) (iI ((j + 1 : Nat) : Int)) K')
      obtain ⟨z2, l, eg, hg⟩ := m_goesBy (m := s_Md_now (s_Md_undos (s_Md_undone m w) u) z) (V := DR V) hz (DR_ok v1.1)
      rw [ez, eg, Option.bind_some]
      have hU : okY (PD (DR V)) := ⟨PD_ok (DR_ok v1.1) (by rw [DR_y]; omega), by show v_y (DR V) + 1 ≤ 9999; rw [DR_y]; omega⟩
      refine ih n n' (j + 1) _ _ (PD (DR V)) (by omega) (by omega) (by omega) ?_ ⟨hU, ?_, hg⟩ (by show v_y (DR V) + 1 + d ≤ 9999; rw [DR_y]; omega)
      · exact noted_to h f1 hH hU hx ⟨rfl, rfl, rfl, rfl, rfl, rfl, rfl, rfl⟩ rfl rfl hg
      · rw [cV_s]; exact hx
  obtain ⟨c', m', V', e1, e2, hR, hN⟩ := key (fun c_18 b1_15 b2_16 b3_17 => (f_X5_leastGap (cV c_18 0)).bind fun q_19 => some (q_19, c_18)) (fun m_12 b1_10 b2_11 => (f_X7_leastGap m_12).bind fun q_13 => some (q_13, m_12)) N 100000 100000 0 c m V (by omega) (by omega) (by omega) h ⟨v1, v2, v3⟩ (by omega)
  rw [show (0 : Int32) = iI ((0 : Nat) : Int) from rfl]
  rw [e1, e2, c_leastGap hN.2.1 hN.1.1, m_leastGap hN.2.2 hN.1.1]
  exact ⟨_, _, _, rfl, rfl, hR⟩
