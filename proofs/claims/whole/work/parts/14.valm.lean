/-! the reference's valley against the numbers -/
def rM (w : Nat → Int32) (o : Nat) (V : nSV) : Prop := w o = iI (v_n V) ∧ w (o + 1) = iI (v_y V) ∧ w (o + 2) = iI (v_w V) ∧ ∀ i, i < v_n V → w (o + (3 + 4 * i)) = iI (v_k V i) ∧ w (o + (3 + 4 * i + 1)) = iI (v_m V i) ∧ w (o + (3 + 4 * i + 2)) = iI (v_d V i) ∧ w (o + (3 + 4 * i + 3)) = iI (v_l V i)
theorem rM_congr {w w' : Nat → Int32} {o o' : Nat} {V : nSV} (hn : v_n V ≤ 6) (h : rM w o V) (e : ∀ j, j < 27 → w' (o' + j) = w (o + j)) : rM w' o' V := by
  refine ⟨(e 0 (by omega)).trans h.1, (e 1 (by omega)).trans h.2.1, (e 2 (by omega)).trans h.2.2.1, fun i hi => ?_⟩
  have h4 := h.2.2.2 i hi
  exact ⟨(e _ (by omega)).trans h4.1, (e _ (by omega)).trans h4.2.1, (e _ (by omega)).trans h4.2.2.1, (e _ (by omega)).trans h4.2.2.2⟩
abbrev rN (m : nMd) (V : nSV) : Prop := rM (g_Md_now m) 0 V
theorem m_n {m : nMd} {V : nSV} (h : rN m V) : g_Md_now m (0 : Int32).toNatClampNeg = iI (v_n V) := h.1
theorem m_y {m : nMd} {V : nSV} (h : rN m V) : g_Md_now m (1 : Int32).toNatClampNeg = iI (v_y V) := h.2.1
theorem m_at {m : nMd} {V : nSV} (h : rN m V) {i : Nat} (hi : i < v_n V) : g_Md_now m (3 + 4 * i) = iI (v_k V i) ∧ g_Md_now m (3 + 4 * i + 1) = iI (v_m V i) ∧ g_Md_now m (3 + 4 * i + 2) = iI (v_d V i) ∧ g_Md_now m (3 + 4 * i + 3) = iI (v_l V i) := by
  have h4 := h.2.2.2 i hi
  simp only [Nat.zero_add] at h4
  exact h4
theorem m_told {m : nMd} {i k : Nat} (hi : i < 6) (hk : k < 4) : f_X7_told m (iI i) (iI k) = some (g_Md_now m (3 + 4 * i + k)) := by
  unfold f_X7_told
  rw [show (3 : Int32) = iI 3 from rfl, show (4 : Int32) = iI 4 from rfl, iI_mul, iI_add, iI_add, show (3 : Int) + 4 * (i : Int) + (k : Int) = ((3 + 4 * i + k : Nat) : Int) from by omega, nn_ixN (by omega) (by omega), iI_cN (by omega)]
theorem m_tells {m : nMd} {i k : Nat} {v : Int32} (hi : i < 6) (hk : k < 4) : f_X7_tells m (iI i) (iI k) v = some (s_Md_now m (upd (g_Md_now m) (3 + 4 * i + k) v)) := by
  unfold f_X7_tells
  rw [show (3 : Int32) = iI 3 from rfl, show (4 : Int32) = iI 4 from rfl, iI_mul, iI_add, iI_add, show (3 : Int) + 4 * (i : Int) + (k : Int) = ((3 + 4 * i + k : Nat) : Int) from by omega, nn_ixN (by omega) (by omega), iI_cN (by omega)]
  rfl
theorem m_minute {m : nMd} {V : nSV} (h : rN m V) (ok : okV V) {i : Nat} (hi : i < v_n V) : f_X7_minuteOf m (iI i) = some (iI (v_m V i)) := by
  have hn := ok.1
  unfold f_X7_minuteOf
  rw [show (1 : Int32) = iI ((1 : Nat) : Int) from rfl, m_told (by omega) (by omega), Option.bind_some, (m_at h hi).2.1]
theorem m_isV {m : nMd} {V : nSV} (h : rN m V) (ok : okV V) {a : Int} (h1 : -2147483648 ≤ a) (h2 : a < 2147483648) : f_X7_isVillage m (iI a) = some (if 0 ≤ a ∧ a < v_n V then 1 else 0) := by
  have hn := ok.1
  unfold f_X7_isVillage
  rw [m_n h, show (1 : Int32) = iI 1 from rfl, iI_sub, iI_L h1 h2, iI_L (by omega) (by omega), show (0 : Int64) = iL 0 from rfl, m_in h1 h2 (by omega) (by omega) (by omega) (by omega), Option.bind_some]
  by_cases h3 : 0 ≤ a ∧ a < v_n V
  · rw [if_pos h3, if_pos (by omega)]; exact nn_bo1
  · rw [if_neg h3, if_neg (by omega)]; exact nn_bo0
theorem m_areTwo {m : nMd} {V : nSV} (h : rN m V) (ok : okV V) {a b : Int} (h1 : -2147483648 ≤ a) (h2 : a < 2147483648) (h3 : -2147483648 ≤ b) (h4 : b < 2147483648) : f_X7_areTwo m (iI a) (iI b) = some (if (0 ≤ a ∧ a < v_n V) ∧ (0 ≤ b ∧ b < v_n V) ∧ a ≠ b then 1 else 0) := by
  unfold f_X7_areTwo
  rw [m_isV h ok h1 h2, Option.bind_some]
  by_cases h5 : 0 ≤ a ∧ a < v_n V
  · rw [if_pos h5, if_neg (by decide), m_isV h ok h3 h4, Option.bind_some]
    by_cases h6 : 0 ≤ b ∧ b < v_n V
    · rw [if_pos h6, if_neg (by decide)]
      simp (disch := omega) only [iI_eq]
      by_cases h7 : a = b
      · rw [if_pos h7, if_neg (by omega)]
      · rw [if_neg h7, if_pos (by omega)]
    · rw [if_neg h6, if_pos rfl, if_neg (by omega)]
  · rw [if_neg h5, if_pos rfl, if_neg (by omega)]
theorem m_miles {m : nMd} {V : nSV} (h : rN m V) (ok : okV V) {i j : Nat} (hi : i < v_n V) (hj : j < v_n V) : f_X7_milesBetween m (iI i) (iI j) = some (iI (if 0 ≤ v_l V i - v_l V j then v_l V i - v_l V j else -(v_l V i - v_l V j))) := by
  have hn := ok.1
  have o1 := ok.2.1 i hi
  have o2 := ok.2.1 j hj
  unfold f_X7_milesBetween
  rw [show (3 : Int32) = iI ((3 : Nat) : Int) from rfl, m_told (by omega) (by omega), m_told (by omega) (by omega), Option.bind_some, Option.bind_some, (m_at h hi).2.2.2, (m_at h hj).2.2.2, iI_sub, show (0 : Int32) = iI 0 from rfl]
  simp (disch := omega) only [iI_le, iI_neg]
  split <;> rfl
theorem m_hears {m : nMd} {V : nSV} (h : rN m V) (ok : okV V) {i : Nat} (hi : i < v_n V) : f_X7_hearsAnother m (iI i) = some (if HR V i = true then 0 else 1) := by
  have hn := ok.1
  have o1 := ok.2.1 i hi
  have key1 : ∀ (d n j : Nat), j + d = v_n V → d < n → f_X7_hearsAnother_L4 m n (iI i) 1 (iI j) (fun b1_11 b2_12 b3_13 => nn_bo b2_12 (some (b2_12))) = some 1 := by
    intro d
    induction d with
    | zero =>
      intro n j hj hd
      obtain ⟨n, rfl, -⟩ := fuel hd
      rw [f_X7_hearsAnother_L4, m_n h, if_pos (by rw [iI_leN (by omega) (by omega)]; omega)]
      exact nn_bo1
    | succ d ih =>
      intro n j hj hd
      obtain ⟨n, rfl, hd2⟩ := fuel hd
      rw [f_X7_hearsAnother_L4, m_n h, if_neg (by rw [iI_leN (by omega) (by omega)]; omega), if_neg (by decide), iI_s]
      exact ih n (j + 1) (by omega) (by omega)
  have key : ∀ (d n j : Nat), j + d = v_n V → d < n → f_X7_hearsAnother_L4 m n (iI i) 0 (iI j) (fun b1_11 b2_12 b3_13 => nn_bo b2_12 (some (b2_12))) = some (if al (hrp V i) j d = true then 0 else 1) := by
    intro d
    induction d with
    | zero =>
      intro n j hj hd
      obtain ⟨n, rfl, -⟩ := fuel hd
      rw [f_X7_hearsAnother_L4, m_n h, if_pos (by rw [iI_leN (by omega) (by omega)]; omega)]
      exact nn_bo0
    | succ d ih =>
      intro n j hj hd
      obtain ⟨n, rfl, hd2⟩ := fuel hd
      have hj2 : j < v_n V := by omega
      have o2 := ok.2.1 j hj2
      have hb := gapI_b (v_m V i) (v_m V j)
      rw [f_X7_hearsAnother_L4, m_n h, if_neg (by rw [iI_leN (by omega) (by omega)]; omega), if_pos rfl, iI_s, ih n (j + 1) (by omega) (by omega), key1 d n (j + 1) (by omega) (by omega)]
      rw [show al (hrp V i) j (d + 1) = (hrp V i j && al (hrp V i) (j + 1) d) from rfl]
      by_cases h3 : j = i
      · rw [if_pos (by rw [h3]), show hrp V i j = true from by simp [hrp, h3]]; rfl
      · rw [if_neg (by rw [iI_eqN (by omega) (by omega)]; exact h3), m_minute h ok hj2, m_minute h ok hi, Option.bind_some, Option.bind_some, m_between (by omega) (by omega) (by omega) (by omega), Option.bind_some, gapI_comm, show (3 : Int32) = iI 3 from rfl]
        simp (disch := omega) only [iI_lt]
        by_cases h5 : 3 < gapI (v_m V i) (v_m V j)
        · rw [if_pos h5, show hrp V i j = true from by simp [hrp, h5]]; rfl
        · rw [if_neg h5, show hrp V i j = false from by simp [hrp, h3, h5]]; rfl
  unfold f_X7_hearsAnother
  exact key (v_n V) 100000 0 (by omega) (by omega)
theorem m_later {m : nMd} {V : nSV} (h : rN m V) (ok : okV V) {i : Nat} (hi : i < v_n V) : f_X7_laterBy m (iI i) = some (iI (LT V i)) := by
  have hn := ok.1
  have o1 := ok.2.1 i hi
  have o4 := ok.2.2
  have hbf : bef V i < v_n V := by unfold bef; split <;> omega
  have o2 := ok.2.1 _ hbf
  have hJ : ∀ z : Int, (byB V i → f_X7_laterBy_J104 m (iI i) (iI z) (iI (bef V i)) = some (iI (z + 1))) ∧ (¬ byB V i → f_X7_laterBy_J104 m (iI i) (iI z) (iI (bef V i)) = some (iI (z + 0))) := by
    intro z
    unfold f_X7_laterBy_J104
    rw [show (0 : Int32) = iI 0 from rfl, show (1 : Int32) = iI 1 from rfl, iI_add, iI_add]
    by_cases h3 : bef V i = i
    · rw [if_pos (by rw [h3])]
      exact ⟨fun q => absurd h3 q.1, fun _ => rfl⟩
    · rw [if_neg (by rw [iI_eqN (by omega) (by omega)]; exact h3), m_miles h ok hbf hi, Option.bind_some, show (10 : Int32) = iI 10 from rfl]
      have e := iI_lt (a := 10) (b := (if 0 ≤ v_l V (bef V i) - v_l V i then v_l V (bef V i) - v_l V i else -(v_l V (bef V i) - v_l V i))) (by omega) (by omega) (by split <;> omega) (by split <;> omega)
      simp only [e]
      constructor
      · intro q
        rw [if_neg (by have := q.2; split <;> omega)]
      · intro q
        rw [if_pos]
        unfold byB at q
        split <;> omega
  have hJ20 : ∀ z : Int, f_X7_laterBy_J20 m (iI i) (iI (v_d V i)) (iI z) = some (iI (if v_k V i = 0 then v_d V i else if v_k V i = 1 then (v_d V i).tdiv 2 else if v_k V i = 2 then z else if v_k V i = 3 then (if v_y V % 2 = 0 then (v_d V i).tdiv 2 else -(v_d V i).tdiv 2) else z + @ite Int (byB V i) (Classical.propDecidable _) 1 0)) := by
    intro z
    unfold f_X7_laterBy_J20
    rw [m_n h, m_y h, show (0 : Int32) = iI ((0 : Nat) : Int) from rfl, m_told (by omega) (by omega), Option.bind_some, Nat.add_zero, (m_at h hi).1]
    rw [show iI ((0 : Nat) : Int) = iI 0 from rfl, show (3 : Int32) = iI 3 from rfl, show (2 : Int32) = iI 2 from rfl, show (1 : Int32) = iI 1 from rfl, iI_rem (by omega) (by omega) (by omega) (by omega), iI_div (by omega) (by omega) (by omega) (by omega)]
    simp (disch := omega) only [iI_eq, iI_neg, iI_sub]
    by_cases k0 : v_k V i = 0
    · rw [if_pos k0, if_pos k0]
    rw [if_neg k0, if_neg k0]
    by_cases k1 : v_k V i = 1
    · rw [if_pos k1, if_pos k1]
    rw [if_neg k1, if_neg k1]
    by_cases k2 : v_k V i = 2
    · rw [if_pos k2, if_pos k2]
    rw [if_neg k2, if_neg k2]
    by_cases k3 : v_k V i = 3
    · rw [if_pos k3, if_pos k3]
      split <;> rfl
    rw [if_neg k3, if_neg k3]
    have e : (if (i : Int) = 0 then f_X7_laterBy_J104 m (iI i) (iI z) (iI ((v_n V : Int) - 1)) else f_X7_laterBy_J104 m (iI i) (iI z) (iI ((i : Int) - 1))) = f_X7_laterBy_J104 m (iI i) (iI z) (iI (bef V i)) := by
      unfold bef
      by_cases h0 : i = 0
      · rw [if_pos (by omega), if_pos h0]; congr 2; omega
      · rw [if_neg (by omega), if_neg h0]; congr 2; omega
    rw [e]
    by_cases hb : byB V i
    · rw [(hJ z).1 hb, if_pos hb]
    · rw [(hJ z).2 hb, if_neg hb]
  unfold f_X7_laterBy
  rw [show (2 : Int32) = iI ((2 : Nat) : Int) from rfl, m_told (by omega) (by omega), Option.bind_some, (m_at h hi).2.2.1, m_hears h ok hi, Option.bind_some]
  unfold LT
  by_cases hr : HR V i = true
  · rw [if_pos hr, if_pos (by decide), hJ20]
    simp only [if_pos hr]
  · rw [if_neg hr, if_neg (by decide), show (0 : Int32) = iI 0 from rfl, hJ20]
    simp only [if_neg hr]
theorem m_goesBy {m : nMd} {V : nSV} (h : rN m V) (ok : okV V) : ∃ w l, f_X7_goesBy m = some (s_Md_later (s_Md_now m w) l) ∧ rM w 0 (PD V) := by
  have hn := ok.1
  have o4 := ok.2.2
  have key1 : ∀ (K : nMd → Int32 → Option nMd) (d n j : Nat) (f : Nat → Int32), j + d = v_n V → d < n → (∀ i, i < j → f i = iI (LT V i)) → ∃ g, (∀ i, i < v_n V → g i = iI (LT V i)) ∧ f_X7_goesBy_L2 n (s_Md_later m f) (iI j) K = K (s_Md_later m g) (iI (v_n V)) := by
    intro K d
    induction d with
    | zero =>
      intro n j f hj hd hs
      obtain ⟨n, rfl, -⟩ := fuel hd
      obtain rfl : j = v_n V := by omega
      refine ⟨f, hs, ?_⟩
      rw [f_X7_goesBy_L2, m_n (m := s_Md_later m f) h, if_pos (by rw [iI_leN (by omega) (by omega)]; omega)]
    | succ d ih =>
      intro n j f hj hd hs
      obtain ⟨n, rfl, hd2⟩ := fuel hd
      have hj2 : j < v_n V := by omega
      rw [f_X7_goesBy_L2, m_n (m := s_Md_later m f) h, if_neg (by rw [iI_leN (by omega) (by omega)]; omega), m_later (m := s_Md_later m f) h ok hj2, Option.bind_some, nn_ixN (by omega) (by omega), iI_cN (by omega), iI_s]
      refine ih n (j + 1) (upd f j (iI (LT V j))) (by omega) (by omega) (fun i hi => ?_)
      by_cases hij : i = j
      · rw [hij, pk_us]
      · rw [pk_un hij, hs i (by omega)]
  have key2 : ∀ (g : Nat → Int32), (∀ i, i < v_n V → g i = iI (LT V i)) → ∀ (K : nMd → Int32 → Option nMd) (d n j : Nat) (w : Nat → Int32), j + d = v_n V → d < n → (w 0 = iI (v_n V) ∧ w 1 = iI (v_y V) ∧ w 2 = iI (v_w V)) → (∀ i, i < v_n V → w (3 + 4 * i) = iI (v_k V i) ∧ w (3 + 4 * i + 2) = iI (v_d V i) ∧ w (3 + 4 * i + 3) = iI (v_l V i)) → (∀ i, i < j → w (3 + 4 * i + 1) = iI ((v_m V i + LT V i) % 60)) → (∀ i, j ≤ i → i < v_n V → w (3 + 4 * i + 1) = iI (v_m V i)) → ∃ z, (z 0 = iI (v_n V) ∧ z 1 = iI (v_y V) ∧ z 2 = iI (v_w V)) ∧ (∀ i, i < v_n V → z (3 + 4 * i) = iI (v_k V i) ∧ z (3 + 4 * i + 2) = iI (v_d V i) ∧ z (3 + 4 * i + 3) = iI (v_l V i)) ∧ (∀ i, i < v_n V → z (3 + 4 * i + 1) = iI ((v_m V i + LT V i) % 60)) ∧ f_X7_goesBy_L31 n (s_Md_now (s_Md_later m g) w) (iI j) K = K (s_Md_now (s_Md_later m g) z) (iI (v_n V)) := by
    intro g hg K d
    induction d with
    | zero =>
      intro n j w hj hd h1 h2 h3 h4
      obtain ⟨n, rfl, -⟩ := fuel hd
      obtain rfl : j = v_n V := by omega
      refine ⟨w, h1, h2, h3, ?_⟩
      rw [f_X7_goesBy_L31, show g_Md_now (s_Md_now (s_Md_later m g) w) (0 : Int32).toNatClampNeg = iI (v_n V) from h1.1, if_pos (by rw [iI_leN (by omega) (by omega)]; omega)]
    | succ d ih =>
      intro n j w hj hd h1 h2 h3 h4
      obtain ⟨n, rfl, hd2⟩ := fuel hd
      have hj2 : j < v_n V := by omega
      have o1 := ok.2.1 j hj2
      have lb := LT_b ok hj2
      rw [f_X7_goesBy_L31, show g_Md_now (s_Md_now (s_Md_later m g) w) (0 : Int32).toNatClampNeg = iI (v_n V) from h1.1, if_neg (by rw [iI_leN (by omega) (by omega)]; omega)]
      unfold f_X7_minuteOf
      rw [show (1 : Int32) = iI ((1 : Nat) : Int) from rfl, m_told (by omega) (by omega), Option.bind_some, Option.bind_some, nn_ixN (by omega) (by omega), iI_cN (by omega)]
      rw [show g_Md_now (s_Md_now (s_Md_later m g) w) (3 + 4 * j + 1) = iI (v_m V j) from h4 j (by omega) hj2, show g_Md_later (s_Md_now (s_Md_later m g) w) j = iI (LT V j) from hg j hj2, iI_add, m_round (by omega) (by omega), Option.bind_some, m_tells (by omega) (by omega), Option.bind_some, show iI ((1 : Nat) : Int) = (1 : Int32) from rfl, iI_s]
      refine ih n (j + 1) (upd w (3 + 4 * j + 1) (iI ((v_m V j + LT V j) % 60))) (by omega) (by omega) ?_ (fun i hi => ?_) (fun i hi => ?_) (fun i hi hi2 => ?_)
      · rw [pk_un (by omega), pk_un (by omega), pk_un (by omega)]; exact h1
      · rw [pk_un (by omega), pk_un (by omega), pk_un (by omega)]; exact h2 i hi
      · by_cases hij : i = j
        · rw [hij, pk_us]
        · rw [pk_un (by omega), h3 i (by omega)]
      · rw [pk_un (by omega), h4 i (by omega) hi2]
  unfold f_X7_goesBy
  obtain ⟨g, hg, e⟩ := key1 (fun m_6 b1_5 => f_X7_goesBy_L31 100000 m_6 (0 : Int32) (fun m_16 b1_15 => some ((s_Md_now m_16 (upd (g_Md_now m_16) (1 : Int32).toNatClampNeg (((g_Md_now m_16) (1 : Int32).toNatClampNeg) + (1 : Int32))))))) (v_n V) 100000 0 (g_Md_later m) (by omega) (by omega) (fun i hi => absurd hi (by omega))
  obtain ⟨z, z1, z2, z3, e2⟩ := key2 g hg (fun m_16 b1_15 => some ((s_Md_now m_16 (upd (g_Md_now m_16) (1 : Int32).toNatClampNeg (((g_Md_now m_16) (1 : Int32).toNatClampNeg) + (1 : Int32)))))) (v_n V) 100000 0 (g_Md_now m) (by omega) (by omega) ⟨h.1, h.2.1, h.2.2.1⟩ (fun i hi => ⟨(m_at h hi).1, (m_at h hi).2.2.1, (m_at h hi).2.2.2⟩) (fun i hi => absurd hi (by omega)) (fun i _ hi => (m_at h hi).2.1)
  refine ⟨upd z 1 (z 1 + 1), g, e.trans e2, ?_⟩
  refine ⟨(pk_un (by omega)).trans z1.1, ?_, (pk_un (by omega)).trans z1.2.2, fun i hi => ?_⟩
  · show upd z 1 (z 1 + 1) 1 = iI (v_y V + 1)
    rw [pk_us, z1.2.1, show (1 : Int32) = iI 1 from rfl, iI_add]
  · have a := z2 i hi
    have b := z3 i hi
    simp only [Nat.zero_add]
    refine ⟨(pk_un (by omega)).trans a.1, (pk_un (by omega)).trans b, (pk_un (by omega)).trans a.2.1, (pk_un (by omega)).trans a.2.2⟩
