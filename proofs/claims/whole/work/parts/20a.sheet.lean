def keepS (m m' : nMd) : Prop := (∀ j, j < 27 → g_Md_now m' j = g_Md_now m j) ∧ g_Md_undone m' = g_Md_undone m ∧ g_Md_undos m' = g_Md_undos m ∧ g_Md_kept m' = g_Md_kept m ∧ g_Md_keptUndos m' = g_Md_keptUndos m ∧ g_Md_isKept m' = g_Md_isKept m
theorem Rel_S {c c' : nCs} {m m' : nMd} (h : Rel c m) (hV : ∀ w, w ≠ 2 → cV c' w = cV c w) (hH : ∀ g, cH c' g = cH c g) (him : g_Cs_im c' = g_Cs_im c) (hm : keepS m m') (ht : TP c' m') (hs : SH c' m') : Rel c' m' := by
  obtain ⟨⟨V, v1, v2, v3⟩, ⟨kn, hs0, q1, q2, q3⟩, hi, -, -⟩ := h
  obtain ⟨m1, m2, m3, m4, m5, m6⟩ := hm
  have hc : simC c (cVs c 2 (cV c 2)) := simC_V2 (simC_rf c) _
  have hh : ∀ {g kn : Nat} {hs : Nat → nSV}, HC c g kn hs → HC c' g kn hs := by
    intro g kn hs q
    obtain ⟨p, hp, e, q⟩ := q
    exact ⟨p, hp, (hH g).trans e, fun k hk => by rw [hV _ (by omega)]; exact q k hk⟩
  refine ⟨⟨V, v1, by rw [hV 0 (by omega)]; exact v2, rM_congr v1.1.1 v3 (fun j hj => by simp only [Nat.zero_add]; exact m1 j hj)⟩, ⟨kn, hs0, q1, hh q2, by rw [m2, m3]; exact q3⟩, ?_, ht, hs⟩
  rcases hi with i1 | ⟨i1, i2, U, kn, hs, i3, i4, i5, i6, i7, i8⟩
  · exact Or.inl ⟨him.trans i1.1, m6.trans i1.2⟩
  · exact Or.inr ⟨him.trans i1, m6.trans i2, U, kn, hs, i3, by rw [hV 1 (by omega)]; exact i4, by rw [m4]; exact i5, i6, hh i7, by rw [m4, m5]; exact i8⟩
theorem TP_same {c c' : nCs} {m m' : nMd} (h : TP c m) (h1 : g_Cs_ta c' = g_Cs_ta c) (h2 : g_Md_tape m' = g_Md_tape m) (h3 : g_Md_typed m' = g_Md_typed m) : TP c' m' := by
  obtain ⟨t, t1, t2, t3, t4⟩ := h
  exact ⟨t, t1, by rw [h1]; exact t2, by rw [h3]; exact t3, by rw [h1, h2]; exact t4⟩
theorem SH_set {c : nCs} {m m' : nMd} {j : Nat} {y : nSh} (h : SH c m) (hy : SHj y m' j) (hl : ∀ k, k ≠ j → g_Md_lanes m' k = g_Md_lanes m k) (hz : ∀ k, k ≠ j → g_Md_sizes m' k = g_Md_sizes m k) (hi : ∀ k, (k < 24 * j ∨ 24 * j + 24 ≤ k) → g_Md_items m' k = g_Md_items m k) : SH (cSs c j y) m' := by
  intro k hk
  by_cases e : k = j
  · subst e; rw [cS_s]; exact hy
  · rw [cS_n _ _ e]
    exact SHj_congr hk (hl k e) (hz k e) (fun i hi2 => hi _ (by omega)) (h k hk)
theorem c_sal {a b : Int} (h1 : -2147483648 ≤ a) (h2 : a < 2147483648) (h3 : -2147483648 ≤ b) (h4 : b < 2147483648) : f_X6_isSheetAndLane (iI a) (iI b) = some (if (0 ≤ a ∧ a ≤ 3) ∧ (0 ≤ b ∧ b ≤ 3) then 1 else 0) := by
  unfold f_X6_isSheetAndLane
  rw [w_0_3 h1 h2, w_0_3 h3 h4]
  simp only [Option.bind_some]
  by_cases k1 : 0 ≤ a ∧ a ≤ 3
  · by_cases k2 : 0 ≤ b ∧ b ≤ 3
    · simp only [if_pos k1, if_pos k2, if_neg one0, if_pos (And.intro k1 k2)]
    · simp only [if_pos k1, if_neg k2, if_neg one0, if_true, if_neg (fun q : (0 ≤ a ∧ a ≤ 3) ∧ (0 ≤ b ∧ b ≤ 3) => k2 q.2)]
  · simp only [if_neg k1, if_true, if_neg (fun q : (0 ≤ a ∧ a ≤ 3) ∧ (0 ≤ b ∧ b ≤ 3) => k1 q.1)]
theorem m_isSheet {a : Int} (h1 : -2147483648 ≤ a) (h2 : a < 2147483648) : f_X7_isSheet (iI a) = some (if 0 ≤ a ∧ a ≤ 3 then 1 else 0) := by
  unfold f_X7_isSheet
  rw [i_0_3 h1 h2, Option.bind_some]
  split
  · exact nn_bo1
  · exact nn_bo0
theorem m_isLane {a : Int} (h1 : -2147483648 ≤ a) (h2 : a < 2147483648) : f_X7_isLane (iI a) = some (if 0 ≤ a ∧ a ≤ 3 then 1 else 0) := m_isSheet h1 h2
theorem inS {a : Int} (h : 0 ≤ a ∧ a ≤ 3) : ∃ i : Nat, i < 4 ∧ a = (i : Int) := ⟨a.toNat, by omega, by omega⟩
/-- both say why alike -/
theorem why_both {x : nSh} {m : nMd} {j : Nat} (hj : j < 4) (h : SHj x m j) {b i n : Int} (b1 : 0 ≤ b) (b2 : b ≤ 3) (i1 : -2147483648 ≤ i) (i2 : i < 2147483648) (n1 : -2147483648 ≤ n) (n2 : n < 2147483648) : ∃ r : Int, f_X3_refusal x (iI b) (iI i) (iI n) = some (iI r) ∧ f_X7_why m (iI j) (iI b) (iI i) (iI n) = some (iI r) ∧ (r = -11 ∨ r = -12 ∨ r = -13 ∨ (r = 0 ∧ 0 ≤ i ∧ 0 ≤ n ∧ ∃ sz : Nat, i + n ≤ sz ∧ sz ≤ 24 ∧ g_Sh_lane x = iI b ∧ g_Md_lanes m j = iI b ∧ g_Sh_length x = iI sz ∧ g_Md_sizes m j = iI sz ∧ ∀ k, k < 24 → g_Sh_items x k = g_Md_items m (24 * j + k))) := by
  unfold f_X3_refusal f_X3_isMissing f_X7_why
  simp only [nn_ixN (show j < 4 from hj) (show 4 < 2147483648 by omega), iI_cN (show j < 2147483648 by omega)]
  rcases h with ⟨h1, h2⟩ | ⟨ln, sz, a1, a2, a3, a4, a5, a6, a7⟩
  · refine ⟨-11, ?_, ?_, Or.inl rfl⟩
    · rw [if_pos (by rw [h1]; rfl), Option.bind_some, if_neg one0]; rfl
    · rw [if_neg (by rw [h2]; decide)]; rfl
  · have p1 : ¬ g_Sh_lane x = (-1 : Int32) := by rw [a3, show (-1 : Int32) = iI (-1) from rfl, iI_eq (by omega) (by omega) (by omega) (by omega)]; omega
    have p2 : (0 : Int32) ≤ g_Md_lanes m j := by rw [a4, show (0 : Int32) = iI 0 from rfl, iI_le (by omega) (by omega) (by omega) (by omega)]; omega
    rw [if_neg p1, if_pos p2, Option.bind_some, if_pos rfl]
    by_cases e : (ln : Int) = b
    rotate_left
    · have p3 : ¬ g_Sh_lane x = iI b := by rw [a3, iI_eq (by omega) (by omega) (by omega) (by omega)]; exact e
      have p4 : ¬ g_Md_lanes m j = iI b := by rw [a4, iI_eq (by omega) (by omega) (by omega) (by omega)]; exact e
      rw [if_neg p3, if_neg p4]
      exact ⟨-12, rfl, rfl, Or.inr (Or.inl rfl)⟩
    · rw [e] at a3 a4
      rw [if_pos a3, if_pos a4]
      unfold f_X3_reaches
      have z0 : (iI i < (0 : Int32)) = (i < 0) := by rw [show (0 : Int32) = iI 0 from rfl, iI_lt (by omega) (by omega) (by omega) (by omega)]
      have z1 : (iI n < (0 : Int32)) = (n < 0) := by rw [show (0 : Int32) = iI 0 from rfl, iI_lt (by omega) (by omega) (by omega) (by omega)]
      have z2 : (g_Sh_length x < iI n) = ((sz : Int) < n) := by rw [a5, iI_lt (by omega) (by omega) (by omega) (by omega)]
      have z3 : (lg_cmp ((iI i).toInt64 + (iI n).toInt64) ((g_Md_sizes m j).toInt64) ≤ 0) = (i + n ≤ sz) := by
        rw [a6, iI_L i1 i2, iI_L n1 n2, iI_L (by omega) (by omega), iL_add, lg_le0 (by omega) (by omega) (by omega) (by omega)]
      simp only [z0, z1, z2, z3]
      by_cases k1 : i < 0
      · simp only [if_pos k1, Option.bind_some, if_true]
        exact ⟨-13, rfl, rfl, Or.inr (Or.inr (Or.inl rfl))⟩
      by_cases k2 : n < 0
      · simp only [if_neg k1, if_pos k2, Option.bind_some, if_true]
        exact ⟨-13, rfl, rfl, Or.inr (Or.inr (Or.inl rfl))⟩
      simp only [if_neg k1, if_neg k2]
      by_cases k4 : (sz : Int) < n
      · have k5 : ¬ i + n ≤ sz := by omega
        simp only [if_pos k4, if_neg k5, Option.bind_some, if_true]
        exact ⟨-13, rfl, rfl, Or.inr (Or.inr (Or.inl rfl))⟩
      have z4 : (g_Sh_length x - iI n < iI i) = ((sz : Int) - n < i) := by rw [a5, iI_sub, iI_lt (by omega) (by omega) (by omega) (by omega)]
      simp only [if_neg k4, z4]
      by_cases k3 : i + n ≤ sz
      · have k5 : ¬ (sz : Int) - n < i := by omega
        simp only [if_pos k3, if_neg k5, Option.bind_some, if_neg one0]
        exact ⟨0, rfl, rfl, Or.inr (Or.inr (Or.inr ⟨rfl, by omega, by omega, sz, k3, a2, a3, a4, a5, a6, a7⟩))⟩
      · have k5 : (sz : Int) - n < i := by omega
        simp only [if_neg k3, if_pos k5, Option.bind_some, if_true]
        exact ⟨-13, rfl, rfl, Or.inr (Or.inr (Or.inl rfl))⟩
theorem ix24 {j i : Nat} : ((24 : Int32) * iI (j : Int)) + iI (i : Int) = iI ((24 * j + i : Nat) : Int) := by
  rw [show (24 : Int32) = iI 24 from rfl, iI_mul, iI_add]; congr 1
theorem op_sheet {c : nCs} {m : nMd} (h : Rel c m) (a1 a2 a3 : Int32) : OK2 (f_X6_sheet c a1 a2 a3) (f_X7_sheet m a1 a2 a3) := by
  obtain ⟨a, a_1, a_2, rfl⟩ := iI_of a1
  obtain ⟨b, b_1, b_2, rfl⟩ := iI_of a2
  obtain ⟨n, n_1, n_2, rfl⟩ := iI_of a3
  unfold f_X6_sheet f_X7_sheet
  rw [c_sal a_1 a_2 b_1 b_2, m_isSheet a_1 a_2, m_isLane b_1 b_2]
  simp only [Option.bind_some]
  by_cases k1 : 0 ≤ a ∧ a ≤ 3
  rotate_left
  · simp only [if_neg k1, if_true, if_neg (fun q : (0 ≤ a ∧ a ≤ 3) ∧ (0 ≤ b ∧ b ≤ 3) => k1 q.1)]; exact ⟨_, _, _, rfl, rfl, h⟩
  by_cases k2 : 0 ≤ b ∧ b ≤ 3
  rotate_left
  · simp only [if_neg k2, if_pos k1, if_neg one0, if_true, if_neg (fun q : (0 ≤ a ∧ a ≤ 3) ∧ (0 ≤ b ∧ b ≤ 3) => k2 q.2)]; exact ⟨_, _, _, rfl, rfl, h⟩
  simp only [if_pos k1, if_pos k2, if_neg one0, if_pos (And.intro k1 k2)]
  have z3 : (iI n ≤ (24 : Int32)) = (n ≤ 24) := by rw [show (24 : Int32) = iI 24 from rfl, iI_le (by omega) (by omega) (by omega) (by omega)]
  have z4 : ((0 : Int32) ≤ iI n) = (0 ≤ n) := by rw [show (0 : Int32) = iI 0 from rfl, iI_le (by omega) (by omega) (by omega) (by omega)]
  simp only [z3, z4]
  by_cases k3 : n ≤ 24
  rotate_left
  · simp only [if_neg k3]
    exact ⟨_, _, _, rfl, rfl, h⟩
  by_cases k4 : 0 ≤ n
  rotate_left
  · simp only [if_pos k3, if_neg k4]
    exact ⟨_, _, _, rfl, rfl, h⟩
  simp only [if_pos k3, if_pos k4]
  obtain ⟨j, hj, rfl⟩ := inS k1
  simp only [nn_ixN (show j < 4 from hj) (show 4 < 2147483648 by omega), iI_cN (show j < 2147483648 by omega), Option.bind_some]
  have kc : ∀ (d n j : Nat) (y : nSh) (u1 u2 : Int32) (K : nSh → Int32 → Int32 → Int32 → Option nSh), j + d = 24 → d < n → (∀ i, i < j → g_Sh_items y i = 0) → ∃ f : Nat → Int64, (∀ i, i < 24 → f i = 0) ∧ f_X3_renew_L2 n y u1 u2 (iI j) K = K (s_Sh_items y f) u1 u2 (iI ((24 : Nat) : Int)) := by
    intro d
    induction d with
    | zero =>
      intro n j y u1 u2 K hj hd hz
      obtain ⟨n, rfl, -⟩ := fuel hd
      obtain rfl : j = 24 := by omega
      refine ⟨g_Sh_items y, hz, ?_⟩
      rw [f_X3_renew_L2, if_pos (by decide)]; rfl
    | succ d ih =>
      intro n j y u1 u2 K hj hd hz
      obtain ⟨n, rfl, hd2⟩ := fuel hd
      rw [f_X3_renew_L2, show (24 : Int32) = iI ((24 : Nat) : Int) from rfl, if_neg (by rw [iI_leN (by omega) (by omega)]; omega), nn_ixN (by omega) (by omega), iI_s, iI_cN (by omega)]
      obtain ⟨f, hf, e⟩ := ih n (j + 1) (s_Sh_items y (vp_updL (g_Sh_items y) j 0)) u1 u2 K (by omega) (by omega) (fun i hi => by
        show vp_updL (g_Sh_items y) j 0 i = 0
        by_cases q : i = j
        · rw [q, pk_uLs]
        · rw [pk_uLn q]; exact hz i (by omega))
      exact ⟨f, hf, e⟩
  have km : ∀ (d n i : Nat) (m1 : nMd) (u3 : Int32) (K : nMd → Int32 → Int32 → Int32 → Option (Int32 × nMd)), i + d = 24 → d < n → (∀ k, k < i → g_Md_items m1 (24 * j + k) = 0) → ∃ f : Nat → Int64, (∀ k, k < 24 → f (24 * j + k) = 0) ∧ (∀ k, (k < 24 * j ∨ 24 * j + 24 ≤ k) → f k = g_Md_items m1 k) ∧ f_X7_sheet_L46 n m1 (iI j) u3 (iI i) K = K (s_Md_items m1 f) (iI j) u3 (iI ((24 : Nat) : Int)) := by
    intro d
    induction d with
    | zero =>
      intro n i m1 u3 K hi hd hz
      obtain ⟨n, rfl, -⟩ := fuel hd
      obtain rfl : i = 24 := by omega
      refine ⟨g_Md_items m1, hz, fun k _ => rfl, ?_⟩
      rw [f_X7_sheet_L46, if_pos (by decide)]; rfl
    | succ d ih =>
      intro n i m1 u3 K hi hd hz
      obtain ⟨n, rfl, hd2⟩ := fuel hd
      rw [f_X7_sheet_L46, if_neg (by rw [show (24 : Int32) = iI ((24 : Nat) : Int) from rfl, iI_leN (by omega) (by omega)]; omega), ix24, nn_ixN (by omega) (by omega), iI_s, iI_cN (by omega), Option.bind_some]
      obtain ⟨f, hf, hf2, e⟩ := ih n (i + 1) (s_Md_items m1 (vp_updL (g_Md_items m1) (24 * j + i) 0)) u3 K (by omega) (by omega) (fun k hk => by
        show vp_updL (g_Md_items m1) (24 * j + i) 0 (24 * j + k) = 0
        by_cases q : k = i
        · rw [q, pk_uLs]
        · rw [pk_uLn (by omega)]; exact hz k (by omega))
      refine ⟨f, hf, fun k hk => ?_, e⟩
      rw [hf2 k hk]
      exact pk_uLn (by omega)
  obtain ⟨f, hf, ef⟩ := kc 24 100000 0 (cS c j) (iI b) (iI n) (fun sh_6 b1_3 b2_4 b3_5 => some ((s_Sh_length (s_Sh_lane sh_6 b1_3) b2_4))) (by omega) (by omega) (fun i hi => absurd hi (by omega))
  obtain ⟨g, hg, hg2, eg⟩ := km 24 100000 0 (s_Md_sizes (s_Md_lanes m (upd (g_Md_lanes m) j (iI b))) (upd (g_Md_sizes (s_Md_lanes m (upd (g_Md_lanes m) j (iI b)))) j (iI n))) (iI n) (fun m_20 b1_17 b3_18 b4_19 => some (b3_18, m_20)) (by omega) (by omega) (fun i hi => absurd hi (by omega))
  unfold f_X3_renew
  rw [show (0 : Int32) = iI ((0 : Nat) : Int) from rfl, ef, eg, Option.bind_some]
  refine ⟨_, _, _, rfl, rfl, Rel_S h (fun w hw => rfl) (fun g => rfl) rfl ⟨fun j _ => rfl, rfl, rfl, rfl, rfl, rfl⟩ (TP_same h.2.2.2.1 rfl rfl rfl) (SH_set h.2.2.2.2 ?_ (fun k hk => ?_) (fun k hk => ?_) (fun k hk => ?_))⟩
  · refine Or.inr ⟨b.toNat, n.toNat, by omega, by omega, ?_, ?_, ?_, ?_, fun i hi => ?_⟩
    · rw [show ((b.toNat : Nat) : Int) = b from by omega]; rfl
    · rw [show ((b.toNat : Nat) : Int) = b from by omega]; exact pk_us
    · rw [show ((n.toNat : Nat) : Int) = n from by omega]; rfl
    · rw [show ((n.toNat : Nat) : Int) = n from by omega]; exact pk_us
    · exact (hf i hi).trans (hg i hi).symm
  · exact pk_un hk
  · exact pk_un hk
  · exact hg2 k hk
theorem op_drop {c : nCs} {m : nMd} (h : Rel c m) (a1 : Int32) : OK2 (f_X6_drop c a1) (f_X7_drop m a1) := by
  obtain ⟨a, a_1, a_2, rfl⟩ := iI_of a1
  unfold f_X6_drop f_X7_drop
  rw [w_0_3 a_1 a_2, m_isSheet a_1 a_2]
  simp only [Option.bind_some]
  by_cases k1 : 0 ≤ a ∧ a ≤ 3
  rotate_left
  · simp only [if_neg k1, if_true]; exact ⟨_, _, _, rfl, rfl, h⟩
  simp only [if_pos k1, if_neg one0]
  obtain ⟨j, hj, rfl⟩ := inS k1
  simp only [nn_ixN (show j < 4 from hj) (show 4 < 2147483648 by omega), iI_cN (show j < 2147483648 by omega)]
  unfold f_X3_isMissing
  rcases h.2.2.2.2 j hj with ⟨h1, h2⟩ | ⟨ln, sz, a1, a2, a3, a4, a5, a6, a7⟩
  · have p1 : g_Sh_lane (cS c j) = (-1 : Int32) := h1
    have p2 : ¬ (0 : Int32) ≤ g_Md_lanes m j := by rw [h2]; decide
    rw [if_pos p1, if_neg p2, Option.bind_some, if_neg one0]
    exact ⟨_, _, _, rfl, rfl, h⟩
  · have p1 : ¬ g_Sh_lane (cS c j) = (-1 : Int32) := by rw [a3, show (-1 : Int32) = iI (-1) from rfl, iI_eq (by omega) (by omega) (by omega) (by omega)]; omega
    have p2 : (0 : Int32) ≤ g_Md_lanes m j := by rw [a4, show (0 : Int32) = iI 0 from rfl, iI_le (by omega) (by omega) (by omega) (by omega)]; omega
    rw [if_neg p1, if_pos p2, Option.bind_some, if_pos rfl, a5]
    have hm1 : (-1 : Int32) = iI (-1) := rfl
    have hy : SHj (s_Sh_length (s_Sh_lane (cS c j) (-1 : Int32)) (0 : Int32)) (s_Md_lanes m (upd (g_Md_lanes m) j (-1 : Int32))) j := by
      rw [hm1]
      exact Or.inl ⟨rfl, pk_us⟩
    have hR : Rel (cSs c j (s_Sh_length (s_Sh_lane (cS c j) (-1 : Int32)) (0 : Int32))) (s_Md_lanes m (upd (g_Md_lanes m) j (-1 : Int32))) := Rel_S h (fun w hw => rfl) (fun g => rfl) rfl ⟨fun j _ => rfl, rfl, rfl, rfl, rfl, rfl⟩ (TP_same h.2.2.2.1 rfl rfl rfl) (SH_set h.2.2.2.2 hy (fun k hk => pk_un hk) (fun k hk => rfl) (fun k hk => rfl))
    unfold f_X3_remove
    rw [Option.bind_some, show g_Md_sizes (s_Md_lanes m (upd (g_Md_lanes m) j (-1 : Int32))) j = iI sz from a6]
    exact ⟨_, _, _, rfl, rfl, hR⟩
theorem item_set {c : nCs} {m : nMd} (h : Rel c m) {j i : Nat} (hj : j < 4) (hi : i < 24) (v : Int64) {ln sz : Nat} (l3 : ln ≤ 3) (s24 : sz ≤ 24) (a3 : g_Sh_lane (cS c j) = iI ln) (a4 : g_Md_lanes m j = iI ln) (a5 : g_Sh_length (cS c j) = iI sz) (a6 : g_Md_sizes m j = iI sz) (a7 : ∀ k, k < 24 → g_Sh_items (cS c j) k = g_Md_items m (24 * j + k)) : Rel (cSs c j (s_Sh_items (cS c j) (vp_updL (g_Sh_items (cS c j)) i v))) (s_Md_items m (vp_updL (g_Md_items m) (24 * j + i) v)) := by
  refine Rel_S h (fun w hw => rfl) (fun g => rfl) rfl ⟨fun j _ => rfl, rfl, rfl, rfl, rfl, rfl⟩ (TP_same h.2.2.2.1 rfl rfl rfl) (SH_set h.2.2.2.2 (Or.inr ⟨ln, sz, l3, s24, a3, a4, a5, a6, fun k hk => ?_⟩) (fun k hk => rfl) (fun k hk => rfl) (fun k hk => pk_uLn (by omega)))
  show vp_updL (g_Sh_items (cS c j)) i v k = vp_updL (g_Md_items m) (24 * j + i) v (24 * j + k)
  by_cases e : k = i
  · rw [e, pk_uLs, pk_uLs]
  · rw [pk_uLn e, pk_uLn (by omega)]; exact a7 k hk
theorem op_item {c : nCs} {m : nMd} (h : Rel c m) (a1 a2 a3 : Int32) (v : Int64) : OK2 (f_X6_item c a1 a2 a3 v) (f_X7_item m a1 a2 a3 v) := by
  obtain ⟨a, a_1, a_2, rfl⟩ := iI_of a1
  obtain ⟨b, b_1, b_2, rfl⟩ := iI_of a2
  obtain ⟨i, i_1, i_2, rfl⟩ := iI_of a3
  unfold f_X6_item f_X7_item
  rw [c_sal a_1 a_2 b_1 b_2, m_isSheet a_1 a_2, m_isLane b_1 b_2]
  simp only [Option.bind_some]
  by_cases k1 : 0 ≤ a ∧ a ≤ 3
  rotate_left
  · simp only [if_neg k1, if_true, if_neg (fun q : (0 ≤ a ∧ a ≤ 3) ∧ (0 ≤ b ∧ b ≤ 3) => k1 q.1)]; exact ⟨_, _, _, rfl, rfl, h⟩
  by_cases k2 : 0 ≤ b ∧ b ≤ 3
  rotate_left
  · simp only [if_neg k2, if_pos k1, if_neg one0, if_true, if_neg (fun q : (0 ≤ a ∧ a ≤ 3) ∧ (0 ≤ b ∧ b ≤ 3) => k2 q.2)]; exact ⟨_, _, _, rfl, rfl, h⟩
  simp only [if_pos k1, if_pos k2, if_neg one0, if_pos (And.intro k1 k2)]
  obtain ⟨j, hj, rfl⟩ := inS k1
  simp only [nn_ixN (show j < 4 from hj) (show 4 < 2147483648 by omega), iI_cN (show j < 2147483648 by omega)]
  obtain ⟨r, e1, e2, hr⟩ := why_both hj (h.2.2.2.2 j hj) k2.1 k2.2 i_1 i_2 (n := 1) (by omega) (by omega)
  rw [show iI 1 = (1 : Int32) from rfl] at e1 e2
  rw [e1, e2, Option.bind_some, Option.bind_some]
  have bad : r < 0 → -14 < r → OK2 (if iI r = 0 then (f_X3_put (cS c j) (iI i) v).bind fun q_9 => some ((1 : Int32), (cSs c j q_9)) else some (iI r, c)) (if 0 ≤ iI r then if iI b = 0 then nn_ix (((24 : Int32) * iI j) + iI i) 96 ((some (s_Md_items m (vp_updL (g_Md_items m) (((24 : Int32) * iI j) + iI i).toNatClampNeg v.toInt32.toInt8.toInt32.toInt64))).bind fun m_23 => some ((1 : Int32), m_23)) else if iI b = (1 : Int32) then nn_ix (((24 : Int32) * iI j) + iI i) 96 ((some (s_Md_items m (vp_updL (g_Md_items m) (((24 : Int32) * iI j) + iI i).toNatClampNeg v.toInt32.toInt16.toInt32.toInt64))).bind fun m_20 => some ((1 : Int32), m_20)) else if iI b = (2 : Int32) then nn_ix (((24 : Int32) * iI j) + iI i) 96 ((some (s_Md_items m (vp_updL (g_Md_items m) (((24 : Int32) * iI j) + iI i).toNatClampNeg v.toInt32.toInt64))).bind fun m_17 => some ((1 : Int32), m_17)) else nn_ix (((24 : Int32) * iI j) + iI i) 96 ((some (s_Md_items m (vp_updL (g_Md_items m) (((24 : Int32) * iI j) + iI i).toNatClampNeg v))).bind fun m_14 => some ((1 : Int32), m_14)) else some (iI r, m)) := by
    intro q1 q2
    rw [if_neg (show ¬ iI r = 0 by rw [show (0 : Int32) = iI 0 from rfl, iI_eq (by omega) (by omega) (by omega) (by omega)]; omega), if_neg (show ¬ 0 ≤ iI r by rw [show (0 : Int32) = iI 0 from rfl, iI_le (by omega) (by omega) (by omega) (by omega)]; omega)]
    exact ⟨_, _, _, rfl, rfl, h⟩
  rcases hr with rfl | rfl | rfl | ⟨rfl, i0, -, sz, i3, s24, b3, b4, b5, b6, b7⟩
  · exact bad (by omega) (by omega)
  · exact bad (by omega) (by omega)
  · exact bad (by omega) (by omega)
  · obtain ⟨k, rfl⟩ : ∃ k : Nat, i = (k : Int) := ⟨i.toNat, by omega⟩
    obtain ⟨ln, rfl⟩ : ∃ ln : Nat, b = (ln : Int) := ⟨b.toNat, by omega⟩
    have hR := fun v => item_set h hj (show k < 24 by omega) v (show ln ≤ 3 by omega) s24 b3 b4 b5 b6 b7
    unfold f_X3_put
    simp only [ix24, nn_ixN (show k < 24 by omega) (show 24 < 2147483648 by omega), nn_ixN (show 24 * j + k < 96 by omega) (show 96 < 2147483648 by omega), iI_cN (show k < 2147483648 by omega), iI_cN (show 24 * j + k < 2147483648 by omega), b3]
    rw [if_pos (show iI 0 = 0 from rfl), if_pos (show 0 ≤ iI 0 by decide)]
    by_cases q0 : iI (ln : Int) = 0
    · rw [if_pos q0, if_pos q0]; exact ⟨_, _, _, rfl, rfl, hR _⟩
    rw [if_neg q0, if_neg q0]
    by_cases q1 : iI (ln : Int) = 1
    · rw [if_pos q1, if_pos q1]; exact ⟨_, _, _, rfl, rfl, hR _⟩
    rw [if_neg q1, if_neg q1]
    by_cases q2 : iI (ln : Int) = 2
    · rw [if_pos q2, if_pos q2]; exact ⟨_, _, _, rfl, rfl, hR _⟩
    rw [if_neg q2, if_neg q2]
    exact ⟨_, _, _, rfl, rfl, hR _⟩
theorem op_type {c : nCs} {m : nMd} (h : Rel c m) (a1 : Int32) : OK2 (f_X6_type c a1) (f_X7_type m a1) := by
  obtain ⟨a, a_1, a_2, rfl⟩ := iI_of a1
  obtain ⟨t, t1, t2, t3, t4⟩ := h.2.2.2.1
  unfold f_X6_type f_X7_type f_X4_put
  rw [w_32_126 a_1 a_2, i_32_126 a_1 a_2]
  simp only [Option.bind_some]
  by_cases k1 : 32 ≤ a ∧ a ≤ 126
  rotate_left
  · simp only [if_neg k1, if_true]; exact ⟨_, _, _, rfl, rfl, h⟩
  simp only [if_pos k1, if_neg one0]
  rw [t2, t3, show (60 : Int32) = iI ((60 : Nat) : Int) from rfl]
  have e1 : ((iI a).toUInt32 % 65536).toInt32 = iI a := by
    rw [pk_char, iI_nI]
    congr 1
    have e : (iI a).toBitVec.toNat = (a % 4294967296).toNat := by
      unfold iI
      rw [Int32.toBitVec_ofInt, BitVec.toNat_ofInt]; rfl
    rw [e]; omega
  have e2 := pk_vc (iI a)
  have z1 : (iI ((t : Nat) : Int) < iI ((60 : Nat) : Int)) = (t < 60) := iI_ltN (by omega) (by omega)
  have z2 : (iI ((t : Nat) : Int) = iI ((60 : Nat) : Int)) = (t = 60) := iI_eqN (by omega) (by omega)
  simp only [z1, z2]
  by_cases k2 : t < 60
  · rw [if_pos k2, if_neg (show ¬ t = 60 by omega), nn_ixN k2 (by omega), nn_ixN k2 (by omega), iI_cN (by omega), e2, e1]
    simp only [Option.bind_some]
    rw [show g_Ta_length (s_Ta_letters (g_Cs_ta c) (upd (g_Ta_letters (g_Cs_ta c)) t (iI a))) = iI t from t2, show g_Md_typed (s_Md_tape m (upd (g_Md_tape m) t (iI a))) = iI t from t3, iI_s, if_neg one0]
    refine ⟨iI ((t + 1 : Nat) : Int), _, _, rfl, rfl, Rel_S h (fun w hw => rfl) (fun g => rfl) rfl ⟨fun j _ => rfl, rfl, rfl, rfl, rfl, rfl⟩ ⟨t + 1, by omega, rfl, rfl, fun i hi => ?_⟩ (fun j hj => SHj_congr hj rfl rfl (fun _ _ => rfl) (h.2.2.2.2 j hj))⟩
    show ∃ z : Int, 32 ≤ z ∧ z ≤ 126 ∧ upd (g_Ta_letters (g_Cs_ta c)) t (iI a) i = iI z ∧ upd (g_Md_tape m) t (iI a) i = iI z
    by_cases e : i = t
    · subst e; exact ⟨a, k1.1, k1.2, pk_us, pk_us⟩
    · rw [pk_un e, pk_un e]; exact t4 i (by omega)
  · rw [if_neg k2, if_pos (show t = 60 by omega), Option.bind_some, if_pos rfl]
    exact ⟨_, _, _, rfl, rfl, h⟩
