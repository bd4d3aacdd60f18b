theorem c_reaches {x : nSh} {sz : Nat} (hs : sz ≤ 24) (a5 : g_Sh_length x = iI sz) {i n : Int} (i1 : -2147483648 ≤ i) (i2 : i < 2147483648) (n1 : -2147483648 ≤ n) (n2 : n < 2147483648) : f_X3_reaches x (iI i) (iI n) = some (if 0 ≤ i ∧ 0 ≤ n ∧ i + n ≤ sz then 1 else 0) := by
  unfold f_X3_reaches
  have z0 : (iI i < (0 : Int32)) = (i < 0) := by rw [show (0 : Int32) = iI 0 from rfl, iI_lt (by omega) (by omega) (by omega) (by omega)]
  have z1 : (iI n < (0 : Int32)) = (n < 0) := by rw [show (0 : Int32) = iI 0 from rfl, iI_lt (by omega) (by omega) (by omega) (by omega)]
  have z2 : (g_Sh_length x < iI n) = ((sz : Int) < n) := by rw [a5, iI_lt (by omega) (by omega) (by omega) (by omega)]
  simp only [z0, z1, z2]
  by_cases k1 : i < 0
  · rw [if_pos k1, if_neg (by omega)]
  by_cases k2 : n < 0
  · rw [if_neg k1, if_pos k2, if_neg (by omega)]
  by_cases k4 : (sz : Int) < n
  · rw [if_neg k1, if_neg k2, if_pos k4, if_neg (by omega)]
  have z4 : (g_Sh_length x - iI n < iI i) = ((sz : Int) - n < i) := by rw [a5, iI_sub, iI_lt (by omega) (by omega) (by omega) (by omega)]
  simp only [z4]
  by_cases k3 : i + n ≤ sz
  · rw [if_neg k1, if_neg k2, if_neg k4, if_neg (by omega), if_pos (by omega)]
  · rw [if_neg k1, if_neg k2, if_neg k4, if_pos (by omega), if_neg (by omega)]
theorem m_why {m : nMd} {j ln sz : Nat} (hj : j < 4) (hl : ln ≤ 3) (hs : sz ≤ 24) (a4 : g_Md_lanes m j = iI ln) (a6 : g_Md_sizes m j = iI sz) {b i n : Int} (b1 : 0 ≤ b) (b2 : b ≤ 3) (i1 : -2147483648 ≤ i) (i2 : i < 2147483648) (n1 : -2147483648 ≤ n) (n2 : n < 2147483648) : f_X7_why m (iI j) (iI b) (iI i) (iI n) = some (if (ln : Int) = b then if 0 ≤ i ∧ 0 ≤ n ∧ i + n ≤ sz then 0 else -13 else -12) := by
  unfold f_X7_why
  simp only [nn_ixN (show j < 4 from hj) (show 4 < 2147483648 by omega), iI_cN (show j < 2147483648 by omega)]
  have p2 : (0 : Int32) ≤ g_Md_lanes m j := by rw [a4, show (0 : Int32) = iI 0 from rfl, iI_le (by omega) (by omega) (by omega) (by omega)]; omega
  have p3 : (g_Md_lanes m j = iI b) = ((ln : Int) = b) := by rw [a4, iI_eq (by omega) (by omega) (by omega) (by omega)]
  have z0 : (iI i < (0 : Int32)) = (i < 0) := by rw [show (0 : Int32) = iI 0 from rfl, iI_lt (by omega) (by omega) (by omega) (by omega)]
  have z1 : (iI n < (0 : Int32)) = (n < 0) := by rw [show (0 : Int32) = iI 0 from rfl, iI_lt (by omega) (by omega) (by omega) (by omega)]
  have z3 : (lg_cmp ((iI i).toInt64 + (iI n).toInt64) ((g_Md_sizes m j).toInt64) ≤ 0) = (i + n ≤ sz) := by
    rw [a6, iI_L i1 i2, iI_L n1 n2, iI_L (by omega) (by omega), iL_add, lg_le0 (by omega) (by omega) (by omega) (by omega)]
  simp only [if_pos p2, p3, z0, z1, z3]
  by_cases e : (ln : Int) = b
  · rw [if_pos e, if_pos e]
    by_cases k1 : i < 0
    · rw [if_pos k1, if_neg (by omega)]
    by_cases k2 : n < 0
    · rw [if_neg k1, if_pos k2, if_neg (by omega)]
    by_cases k3 : i + n ≤ sz
    · rw [if_neg k1, if_neg k2, if_pos k3, if_pos (by omega)]
    · rw [if_neg k1, if_neg k2, if_neg k3, if_neg (by omega)]
  · rw [if_neg e, if_neg e]
theorem l_mv (m : nMd) {f i N : Nat} (hf : 24 * f + i + N ≤ 96) (hN : N ≤ 24) (u3 u4 : Int32) (K : nMd → Int32 → Int32 → Int32 → Int32 → Int32 → Int32 → Option (Int32 × nMd)) : ∀ (d n k : Nat) (g : Nat → Int64), k + d = N → d < n → (∀ p, p < k → g p = g_Md_items m (24 * f + i + p)) → ∃ g', (∀ p, p < N → g' p = g_Md_items m (24 * f + i + p)) ∧ f_X7_copy_L91 n (s_Md_moved m g) (iI f) (iI i) u3 u4 (iI N) (iI k) K = K (s_Md_moved m g') (iI f) (iI i) u3 u4 (iI N) (iI N) := by
  intro d
  induction d with
  | zero =>
    intro n k g hk hd hg
    obtain ⟨n, rfl, -⟩ := fuel hd
    obtain rfl : k = N := by omega
    refine ⟨g, hg, ?_⟩
    rw [f_X7_copy_L91, if_pos (by rw [iI_leN (by omega) (by omega)]; omega)]
  | succ d ih =>
    intro n k g hk hd hg
    obtain ⟨n, rfl, hd2⟩ := fuel hd
    rw [f_X7_copy_L91, if_neg (by rw [iI_leN (by omega) (by omega)]; omega), ix24k, nn_ixN (by omega) (by omega), nn_ixN (by omega) (by omega), Option.bind_some, iI_cN (by omega), iI_cN (by omega), iI_s]
    refine ih n (k + 1) (vp_updL g k (g_Md_items m (24 * f + i + k))) (by omega) (by omega) (fun p hp => ?_)
    by_cases e : p = k
    · rw [e, pk_uLs]
    · rw [pk_uLn e]; exact hg p (by omega)
theorem l_pt (m : nMd) {t j N : Nat} (hf : 24 * t + j + N ≤ 96) (hN : N ≤ 24) (K : nMd → Int32 → Int32 → Int32 → Int32 → Option (Int32 × nMd)) : ∀ (d n k : Nat) (g : Nat → Int64), k + d = N → d < n → (∀ p, g p = if 24 * t + j ≤ p ∧ p < 24 * t + j + k then g_Md_moved m (p - (24 * t + j)) else g_Md_items m p) → ∃ g', (∀ p, g' p = if 24 * t + j ≤ p ∧ p < 24 * t + j + N then g_Md_moved m (p - (24 * t + j)) else g_Md_items m p) ∧ f_X7_copy_L128 n (s_Md_items m g) (iI t) (iI j) (iI N) (iI k) K = K (s_Md_items m g') (iI t) (iI j) (iI N) (iI N) := by
  intro d
  induction d with
  | zero =>
    intro n k g hk hd hg
    obtain ⟨n, rfl, -⟩ := fuel hd
    obtain rfl : k = N := by omega
    refine ⟨g, hg, ?_⟩
    rw [f_X7_copy_L128, if_pos (by rw [iI_leN (by omega) (by omega)]; omega)]
  | succ d ih =>
    intro n k g hk hd hg
    obtain ⟨n, rfl, hd2⟩ := fuel hd
    rw [f_X7_copy_L128, if_neg (by rw [iI_leN (by omega) (by omega)]; omega), ix24k, nn_ixN (by omega) (by omega), nn_ixN (by omega) (by omega), Option.bind_some, iI_cN (by omega), iI_cN (by omega), iI_s]
    refine ih n (k + 1) (vp_updL g (24 * t + j + k) (g_Md_moved m k)) (by omega) (by omega) (fun p => ?_)
    by_cases e : p = 24 * t + j + k
    · rw [e, pk_uLs, if_pos (by omega), show 24 * t + j + k - (24 * t + j) = k from by omega]
    · rw [pk_uLn e, hg p]
      by_cases q : 24 * t + j ≤ p ∧ p < 24 * t + j + k
      · rw [if_pos q, if_pos (by omega)]
      · rw [if_neg q, if_neg (by omega)]
theorem op_copy {c : nCs} {m : nMd} (h : Rel c m) (a1 a2 a3 a4 a5 : Int32) : OK2 (f_X6_copy c a1 a2 a3 a4 a5) (f_X7_copy m a1 a2 a3 a4 a5) := by
  obtain ⟨a, a_1, a_2, rfl⟩ := iI_of a1
  obtain ⟨i, i_1, i_2, rfl⟩ := iI_of a2
  obtain ⟨b, b_1, b_2, rfl⟩ := iI_of a3
  obtain ⟨j, j_1, j_2, rfl⟩ := iI_of a4
  obtain ⟨n, n_1, n_2, rfl⟩ := iI_of a5
  unfold f_X6_copy f_X7_copy
  rw [w_0_3 a_1 a_2, w_0_3 b_1 b_2, m_isSheet a_1 a_2, m_isSheet b_1 b_2]
  simp only [Option.bind_some]
  by_cases k1 : 0 ≤ a ∧ a ≤ 3
  rotate_left
  · simp only [if_neg k1, if_true]; exact ⟨_, _, _, rfl, rfl, h⟩
  by_cases k2 : 0 ≤ b ∧ b ≤ 3
  rotate_left
  · simp only [if_neg k2, if_pos k1, if_neg one0, if_true]; exact ⟨_, _, _, rfl, rfl, h⟩
  simp only [if_pos k1, if_pos k2, if_neg one0]
  obtain ⟨f, hf, rfl⟩ := inS k1
  obtain ⟨t, ht, rfl⟩ := inS k2
  simp only [nn_ixN (show f < 4 from hf) (show 4 < 2147483648 by omega), nn_ixN (show t < 4 from ht) (show 4 < 2147483648 by omega), iI_cN (show f < 2147483648 by omega), iI_cN (show t < 2147483648 by omega)]
  have hm : ∀ {x : nSh} {m : nMd} {q : Nat}, SHj x m q → (f_X3_isMissing x = some 1 ∧ g_Md_lanes m q < 0 ∧ ¬ 0 ≤ g_Md_lanes m q) ∨ (f_X3_isMissing x = some 0 ∧ ¬ g_Md_lanes m q < 0 ∧ 0 ≤ g_Md_lanes m q ∧ ∃ ln sz : Nat, ln ≤ 3 ∧ sz ≤ 24 ∧ g_Sh_lane x = iI ln ∧ g_Md_lanes m q = iI ln ∧ g_Sh_length x = iI sz ∧ g_Md_sizes m q = iI sz ∧ ∀ i, i < 24 → g_Sh_items x i = g_Md_items m (24 * q + i)) := by
    intro x m q hh
    unfold f_X3_isMissing
    rcases hh with ⟨h1, h2⟩ | ⟨ln, sz, a1, a2, a3, a4, a5, a6, a7⟩
    · have p1 : g_Sh_lane x = (-1 : Int32) := h1
      refine Or.inl ⟨by rw [if_pos p1], by rw [h2]; decide, by rw [h2]; decide⟩
    · have p1 : ¬ g_Sh_lane x = (-1 : Int32) := by rw [a3, show (-1 : Int32) = iI (-1) from rfl, iI_eq (by omega) (by omega) (by omega) (by omega)]; omega
      have p2 : (0 : Int32) ≤ g_Md_lanes m q := by rw [a4, show (0 : Int32) = iI 0 from rfl, iI_le (by omega) (by omega) (by omega) (by omega)]; omega
      have p3 : ¬ g_Md_lanes m q < (0 : Int32) := by rw [a4, show (0 : Int32) = iI 0 from rfl, iI_lt (by omega) (by omega) (by omega) (by omega)]; omega
      exact Or.inr ⟨by rw [if_neg p1], p3, p2, ln, sz, a1, a2, a3, a4, a5, a6, a7⟩
  rcases hm (h.2.2.2.2 f hf) with ⟨f1, f2, -⟩ | ⟨f1, f2, f3, lf, sf, l1, l2, l3, l4, l5, l6, l7⟩
  · rw [f1, Option.bind_some, if_neg one0, if_pos f2]; exact ⟨_, _, _, rfl, rfl, h⟩
  rcases hm (h.2.2.2.2 t ht) with ⟨t1, -, t2⟩ | ⟨t1, -, t3, lt, st, q1, q2, q3, q4, q5, q6, q7⟩
  · rw [f1, Option.bind_some, if_pos rfl, t1, Option.bind_some, if_neg one0, if_neg f2, if_neg t2]; exact ⟨_, _, _, rfl, rfl, h⟩
  rw [f1, Option.bind_some, if_pos rfl, t1, Option.bind_some, if_pos rfl, if_neg f2, if_pos t3, l4, m_why ht q1 q2 q4 q6 (b := (lf : Int)) (by omega) (by omega) j_1 j_2 n_1 n_2, m_why hf l1 l2 l4 l6 (b := (lf : Int)) (by omega) (by omega) i_1 i_2 n_1 n_2, if_pos (show ((lf : Nat) : Int) = lf from rfl), c_reaches l2 l5 i_1 i_2 n_1 n_2, c_reaches q2 q5 j_1 j_2 n_1 n_2]
  simp only [Option.bind_some]
  have z1 : (g_Sh_lane (cS c f) = g_Sh_lane (cS c t)) = ((lt : Int) = lf) := by
    rw [l3, q3, iI_eq (by omega) (by omega) (by omega) (by omega)]
    exact propext ⟨fun e => e.symm, fun e => e.symm⟩
  simp only [z1]
  by_cases k3 : (lt : Int) = lf
  rotate_left
  · simp only [if_neg k3, if_neg (show ¬ (-12 : Int32) = 0 by decide), if_neg (show ¬ (0 : Int32) ≤ -12 by decide)]
    exact ⟨_, _, _, rfl, rfl, h⟩
  simp only [if_pos k3]
  by_cases k4 : 0 ≤ j ∧ 0 ≤ n ∧ j + n ≤ st
  rotate_left
  · simp only [if_neg k4, if_neg (show ¬ (-13 : Int32) = 0 by decide), if_neg (show ¬ (0 : Int32) ≤ -13 by decide), if_true, ite_self]
    exact ⟨_, _, _, rfl, rfl, h⟩
  by_cases k5 : 0 ≤ i ∧ 0 ≤ n ∧ i + n ≤ sf
  rotate_left
  · simp only [if_neg k5, if_pos k4, if_neg (show ¬ (0 : Int32) ≤ -13 by decide), if_true]
    exact ⟨_, _, _, rfl, rfl, h⟩
  simp only [if_pos k5, if_pos k4, if_true, if_neg one0, if_pos (show (0 : Int32) ≤ 0 by decide)]
  obtain ⟨i, rfl⟩ : ∃ q : Nat, i = (q : Int) := ⟨i.toNat, by omega⟩
  obtain ⟨j, rfl⟩ : ∃ q : Nat, j = (q : Int) := ⟨j.toNat, by omega⟩
  obtain ⟨N, rfl⟩ : ∃ q : Nat, n = (q : Int) := ⟨n.toNat, by omega⟩
  have ecp : ∀ X : Option (Int32 × nCs), nn_cp (iI i) (iI j) (iI N) 24 24 X = X := by
    intro X
    unfold nn_cp
    rw [if_neg]
    rw [iI_cN (by omega), iI_cN (by omega), iI_cN (by omega), show (0 : Int32) = iI ((0 : Nat) : Int) from rfl, iI_ltN (by omega) (by omega), iI_ltN (by omega) (by omega), iI_ltN (by omega) (by omega)]
    omega
  rw [ecp, iI_cN (by omega), iI_cN (by omega), iI_cN (by omega)]
  obtain ⟨g, hg, eg⟩ := l_mv m (f := f) (i := i) (N := N) (by omega) (by omega) (iI t) (iI j) (fun m_48 b1_42 b2_43 b3_44 b4_45 b5_46 b7_47 => f_X7_copy_L128 100000 m_48 b3_44 b4_45 b5_46 (0 : Int32) (fun m_53 b3_49 b4_50 b5_51 b7_52 => some (b5_51, m_53))) N 100000 0 (g_Md_moved m) (by omega) (by omega) (fun p hp => absurd hp (by omega))
  obtain ⟨u, hu, eu⟩ := l_pt (s_Md_moved m g) (t := t) (j := j) (N := N) (by omega) (by omega) (fun m_53 b3_49 b4_50 b5_51 b7_52 => some (b5_51, m_53)) N 100000 0 (g_Md_items m) (by omega) (by omega) (fun p => by rw [if_neg (by omega)]; rfl)
  have e3 := eg.trans eu
  have e4 : f_X7_copy_L91 100000 m (iI f) (iI i) (iI t) (iI j) (iI N) (0 : Int32) (fun m_48 b1_42 b2_43 b3_44 b4_45 b5_46 b7_47 => f_X7_copy_L128 100000 m_48 b3_44 b4_45 b5_46 (0 : Int32) (fun m_53 b3_49 b4_50 b5_51 b7_52 => some (b5_51, m_53))) = some (iI N, s_Md_items (s_Md_moved m g) u) := e3
  rw [e4]
  refine ⟨_, _, _, rfl, rfl, Rel_S h (fun w hw => rfl) (fun g => rfl) rfl ⟨fun j _ => rfl, rfl, rfl, rfl, rfl, rfl⟩ (TP_same h.2.2.2.1 rfl rfl rfl) (SH_set h.2.2.2.2 (Or.inr ⟨lt, st, q1, q2, q3, q4, q5, q6, fun k hk => ?_⟩) (fun k hk => rfl) (fun k hk => rfl) (fun k hk => ?_))⟩
  · show va_cpy (g_Sh_items (cS c f)) (g_Sh_items (cS c t)) i j N k = u (24 * t + k)
    rw [hu]
    by_cases q : j ≤ k ∧ k < j + N
    · rw [pk_cpy_in q.1 q.2, if_pos (by omega), l7 _ (by omega), show 24 * t + k - (24 * t + j) = k - j from by omega]
      show _ = g (k - j)
      rw [hg _ (by omega), show 24 * f + (i + (k - j)) = 24 * f + i + (k - j) from by omega]
    · rw [pk_cpy_out (by omega), if_neg (by omega), q7 _ hk]; rfl
  · show u k = g_Md_items m k
    rw [hu, if_neg (by omega)]; rfl
