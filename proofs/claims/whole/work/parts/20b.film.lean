theorem md_its (m : nMd) (a b : Nat → Int64) : s_Md_items (s_Md_items m a) b = s_Md_items m b := rfl
theorem md_itg (m : nMd) (a : Nat → Int64) : g_Md_items (s_Md_items m a) = a := rfl
theorem md_iti (m : nMd) : s_Md_items m (g_Md_items m) = m := rfl
theorem AS_its {m m1 : nMd} {a : Nat → Int64} (ha : AS (s_Md_items m a) m1) (w l : Nat → Int32) (b : Nat → Int64) : AS (s_Md_items m b) (s_Md_items (s_Md_later (s_Md_now m1 w) l) b) := by
  unfold AS simR at ha ⊢
  simp only [gsMd0, gsMd1, gsMd2, gsMd3, gsMd4, gsMd5, gsMd6] at ha ⊢
  exact ⟨ha.1, ha.2.1, ha.2.2.1, ha.2.2.2.1, ha.2.2.2.2.1, ha.2.2.2.2.2.1, ha.2.2.2.2.2.2.1, ha.2.2.2.2.2.2.2.1, ha.2.2.2.2.2.2.2.2.1, ha.2.2.2.2.2.2.2.2.2.1, trivial⟩
theorem AS_ite {m m1 : nMd} {a : Nat → Int64} (ha : AS (s_Md_items m a) m1) : g_Md_items m1 = a := ha.2.2.2.2.2.2.2.2.2.2
theorem op_film {c : nCs} {m : nMd} (h : Rel c m) (a1 a2 a3 a4 a5 : Int32) : OK2 (f_X6_film c a1 a2 a3 a4 a5) (f_X7_film m a1 a2 a3 a4 a5) := by
  obtain ⟨a, a_1, a_2, rfl⟩ := iI_of a1
  obtain ⟨N, n_1, n_2, rfl⟩ := iI_of a2
  obtain ⟨s, s_1, s_2, rfl⟩ := iI_of a3
  obtain ⟨b, b_1, b_2, rfl⟩ := iI_of a4
  obtain ⟨i, i_1, i_2, rfl⟩ := iI_of a5
  obtain ⟨V, v1, v2, v3⟩ := h.1
  have hn := v1.1.1
  have hy := v1.2
  unfold f_X6_film f_X7_film
  rw [c_has v2 v1.1 a_1 a_2, m_isV v3 v1.1 a_1 a_2, w_1_24 n_1 n_2, i_1_24 n_1 n_2, c_sal s_1 s_2 b_1 b_2, m_isSheet s_1 s_2, m_isLane b_1 b_2]
  simp only [Option.bind_some]
  by_cases k0 : 0 ≤ a ∧ a < v_n V
  rotate_left
  · simp only [if_neg k0, if_true]; exact ⟨_, _, _, rfl, rfl, h⟩
  by_cases kN : 1 ≤ N ∧ N ≤ 24
  rotate_left
  · simp only [if_pos k0, if_neg one0, if_neg kN, if_true]; exact ⟨_, _, _, rfl, rfl, h⟩
  by_cases k1 : 0 ≤ s ∧ s ≤ 3
  rotate_left
  · simp only [if_pos k0, if_pos kN, if_neg one0, if_neg k1, if_true, if_neg (fun q : (0 ≤ s ∧ s ≤ 3) ∧ (0 ≤ b ∧ b ≤ 3) => k1 q.1)]; exact ⟨_, _, _, rfl, rfl, h⟩
  by_cases k2 : 0 ≤ b ∧ b ≤ 3
  rotate_left
  · simp only [if_pos k0, if_pos kN, if_neg k2, if_pos k1, if_neg one0, if_true, if_neg (fun q : (0 ≤ s ∧ s ≤ 3) ∧ (0 ≤ b ∧ b ≤ 3) => k2 q.2)]; exact ⟨_, _, _, rfl, rfl, h⟩
  simp only [if_pos k0, if_pos kN, if_pos k1, if_pos k2, if_neg one0, if_pos (And.intro k1 k2)]
  obtain ⟨j, hj, rfl⟩ := inS k1
  obtain ⟨v, hv, rfl⟩ := inV k0
  simp only [nn_ixN (show j < 4 from hj) (show 4 < 2147483648 by omega), iI_cN (show j < 2147483648 by omega)]
  obtain ⟨r, e1, e2, hr⟩ := why_both hj (h.2.2.2.2 j hj) k2.1 k2.2 i_1 i_2 n_1 n_2
  rw [e1, e2, Option.bind_some, Option.bind_some]
  have bad : ∀ (X : Option (Int32 × nCs)) (Y : Option (Int32 × nMd)), r < 0 → -14 < r → OK2 (if iI r = 0 then X else some (iI r, c)) (if 0 ≤ iI r then Y else some (iI r, m)) := by
    intro X Y q1 q2
    rw [if_neg (show ¬ iI r = 0 by rw [show (0 : Int32) = iI 0 from rfl, iI_eq (by omega) (by omega) (by omega) (by omega)]; omega), if_neg (show ¬ 0 ≤ iI r by rw [show (0 : Int32) = iI 0 from rfl, iI_le (by omega) (by omega) (by omega) (by omega)]; omega)]
    exact ⟨_, _, _, rfl, rfl, h⟩
  rcases hr with rfl | rfl | rfl | ⟨rfl, i0, -, sz, i3, s24, b3, b4, b5, b6, b7⟩
  · exact bad _ _ (by omega) (by omega)
  · exact bad _ _ (by omega) (by omega)
  · exact bad _ _ (by omega) (by omega)
  · obtain ⟨k, rfl⟩ : ∃ k : Nat, i = (k : Int) := ⟨i.toNat, by omega⟩
    obtain ⟨ln, rfl⟩ : ∃ ln : Nat, b = (ln : Int) := ⟨b.toNat, by omega⟩
    obtain ⟨N, rfl⟩ : ∃ q : Nat, N = (q : Int) := ⟨N.toNat, by omega⟩
    rw [if_pos (show iI 0 = 0 from rfl), if_pos (show 0 ≤ iI 0 by decide)]
    obtain ⟨z, ez, hz⟩ := c_becomeLike (x := cV c 2) v2 v1.1
    obtain ⟨m0, e0, s0, n0⟩ := AS_start m
    rw [ez, Option.bind_some, e0, Option.bind_some]
    have key : ∀ (d n n' q : Nat) (x : nVl) (y : nSh) (its : Nat → Int64) (m1 : nMd) (U : nSV), q + d = N → d < n → d < n' → rC x U → rN m1 U → AS (s_Md_items m its) m1 → okV U → v_n U = v_n V → v_y U + d ≤ 20000 → Rel (cSs c j y) (s_Md_items m its) → g_Sh_lane y = iI ln → g_Sh_length y = iI sz → (∀ k, k < 24 → g_Sh_items y k = its (24 * j + k)) → OK2 (f_X6_film_L70 n (cSs (cVs c 2 x) j y) (iI v) (iI N) (iI j) (iI k) (iI q) (fun c_28 b1_23 b2_24 b3_25 b5_26 b7_27 => some (b2_24, c_28))) (f_X7_film_L64 n' m1 (iI v) (iI N) (iI j) (iI k) (iI q) (fun m_31 b1_26 b2_27 b3_28 b5_29 b7_30 => (f_X7_backs m_31).bind fun q_32 => some (b2_27, q_32))) := by
      intro d
      induction d with
      | zero =>
        intro n n' q x y its m1 U hq hd hd' hx hm ha ok hnn hyy hR l1 l2 l3
        obtain ⟨n, rfl, -⟩ := fuel hd
        obtain ⟨n', rfl, -⟩ := fuel hd'
        obtain rfl : q = N := by omega
        obtain ⟨m2, eb, s2, t2, -⟩ := AS_backs ha
        have z1 : iI ((q : Nat) : Int) ≤ iI ((q : Nat) : Int) := by rw [iI_leN (by omega) (by omega)]; omega
        rw [f_X6_film_L70, if_pos z1, f_X7_film_L64, if_pos z1, eb, Option.bind_some]
        have hR3 := Rel_sim (simC_V2 (simC_rf (cSs c j y)) x) t2 hR
        rw [cVS] at hR3
        exact ⟨_, _, _, rfl, rfl, hR3⟩
      | succ d ih =>
        intro n n' q x y its m1 U hq hd hd' hx hm ha ok hnn hyy hR l1 l2 l3
        obtain ⟨n, rfl, hd2⟩ := fuel hd
        obtain ⟨n', rfl, hd3⟩ := fuel hd'
        have z1 : ¬ iI ((N : Nat) : Int) ≤ iI ((q : Nat) : Int) := by rw [iI_leN (by omega) (by omega)]; omega
        obtain ⟨x2, ex, hx2⟩ := c_passDay hx ok
        obtain ⟨w, l, eg, hg⟩ := m_goesBy hm ok
        have okP := PD_ok ok (by omega)
        have hvP : v < v_n (PD U) := by show v < v_n U; omega
        have o1 := okP.2.1 v hvP
        rw [f_X7_film_L64, if_neg z1, eg, Option.bind_some, m_minute (m := s_Md_later (s_Md_now m1 w) l) hg okP hvP, Option.bind_some, ix24k, nn_ixN (by omega) (by omega), iI_cN (by omega), Option.bind_some, iI_s]
        rw [f_X6_film_L70, if_neg z1, cV_Ss, cV_s, ex, Option.bind_some, nn_ixN (by omega) (by omega), nn_ixN (by omega) (by omega), cVS, cVs_s, iI_cN (by omega), iI_cN (by omega), cS_s, cV_Ss, cV_s, (hx2.2.2.2 v hvP).2.1, ixk, c_putmin (by omega) (by omega) (by omega), Option.bind_some, cSs_s, iI_s]
        have hR2 := item_set (c := cSs c j y) (m := s_Md_items m its) hR hj (show k + q < 24 by omega) (iI (v_m (PD U) v)).toInt64 (show ln ≤ 3 by omega) s24 (by rw [cS_s]; exact l1) b4 (by rw [cS_s]; exact l2) b6 (by rw [cS_s]; exact l3)
        rw [cS_s, cSs_s, md_its, md_itg] at hR2
        have hit : g_Md_items (s_Md_later (s_Md_now m1 w) l) = its := AS_ite ha
        rw [hit]
        rw [show 24 * j + k + q = 24 * j + (k + q) from by omega]
        refine ih n n' (q + 1) x2 (s_Sh_items y (vp_updL (g_Sh_items y) (k + q) (iI (v_m (PD U) v)).toInt64)) (vp_updL its (24 * j + (k + q)) (iI (v_m (PD U) v)).toInt64) (s_Md_items (s_Md_later (s_Md_now m1 w) l) (vp_updL its (24 * j + (k + q)) (iI (v_m (PD U) v)).toInt64)) (PD U) (by omega) (by omega) (by omega) hx2 hg (AS_its ha w l _) okP hnn (by show v_y U + 1 + d ≤ _; omega) hR2 l1 l2 (fun t ht => ?_)
        show vp_updL (g_Sh_items y) (k + q) (iI (v_m (PD U) v)).toInt64 t = _
        by_cases e : t = k + q
        · subst e
          rw [pk_uLs, pk_uLs]
        · rw [pk_uLn e, pk_uLn (by omega)]; exact l3 t ht
    have hst : cVs c 2 z = cSs (cVs c 2 z) j (cS c j) := by
      rw [show cS c j = cS (cVs c 2 z) j from rfl, cSs_id]
    have hfin := key N 100000 100000 0 z (cS c j) (g_Md_items m) m0 V (by omega) (by omega) (by omega) hz (now_rN n0 v3) (by rw [md_iti]; exact s0) v1.1 rfl (by omega) (by rw [cSs_id, md_iti]; exact h) b3 b5 b7
    rw [← hst] at hfin
    rw [show (0 : Int32) = iI ((0 : Nat) : Int) from rfl]
    exact hfin
