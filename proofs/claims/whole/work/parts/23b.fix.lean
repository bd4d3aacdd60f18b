/-! the reference -/
theorem m_setsIn {m : nMd} {V : nSV} (h : rN m V) (ok : okV V) {g : Int} (g1 : 1 ≤ g) (g2 : g ≤ 12) {k : Nat} (hk : k < 100000) : ∃ b : Nat → Int32, f_X7_setsIn m (iI k) (iI g) = some (iI (if VB V g (v_n V) k = true then ((cs (v_n V) k : Nat) : Int) else -4), s_Md_by m b) ∧ ∀ v, v < v_n V → b v = iI ((dg (v_n V) k v : Nat) : Int) := by
  have hn := ok.1
  have k15 : ∀ (K : nMd → Int32 → Int32 → Int32 → Int32 → Option (Int32 × nMd)) (j n q s : Nat) (f : Nat → Int32), j ≤ v_n V → j < n → q < 100000 → ∃ f' : Nat → Int32, f_X7_setsIn_L15 n (s_Md_by m f) (iI g) (iI q) (iI s) (iI ((j : Int) - 1)) K = K (s_Md_by m f') (iI g) (iI ((q / 5 ^ j : Nat) : Int)) (iI ((s + cs j q : Nat) : Int)) (iI (-1)) ∧ (∀ v, v < j → f' v = iI ((dg j q v : Nat) : Int)) ∧ (∀ v, j ≤ v → f' v = f v) := by
    intro K j
    induction j with
    | zero =>
      intro n q s f hj hd hq
      obtain ⟨n, rfl, -⟩ := fuel hd
      refine ⟨f, ?_, fun v hv => absurd hv (by omega), fun v _ => rfl⟩
      rw [f_X7_setsIn_L15, if_pos (by decide), Nat.pow_zero, Nat.div_one, cs, Nat.add_zero]; rfl
    | succ j ih =>
      intro n q s f hj hd hq
      obtain ⟨n, rfl, hd2⟩ := fuel hd
      have z0 : ¬ iI (((j + 1 : Nat) : Int) - 1) < 0 := by rw [show (0 : Int32) = iI 0 from rfl, iI_lt (by omega) (by omega) (by omega) (by omega)]; omega
      have em : iI (q : Int) - iI (q : Int) / (5 : Int32) * (5 : Int32) = iI ((q % 5 : Nat) : Int) := iI_remN (b := 5) (by omega) (by omega) (by omega)
      have ed : iI (q : Int) / (5 : Int32) = iI ((q / 5 : Nat) : Int) := by rw [show (5 : Int32) = iI 5 from rfl, iI_divn (by omega) (by omega) (by omega) (by omega)]; congr 1
      have ej : iI (j : Int) + (-1 : Int32) = iI ((j : Int) - 1) := by rw [show (-1 : Int32) = iI (-1) from rfl, iI_add]; congr 1
      rw [f_X7_setsIn_L15, if_neg z0, show ((j + 1 : Nat) : Int) - 1 = (j : Int) from by omega, nn_ixN (by omega) (by omega), em, ed, iI_cN (by omega), Option.bind_some, nn_ixN (by omega) (by omega), nn_ixN (by omega) (by omega), nn_ixN (by omega) (by omega), ej]
      rw [show g_Md_by (s_Md_by (s_Md_by m f) (upd (g_Md_by (s_Md_by m f)) j (iI ((q % 5 : Nat) : Int)))) j = iI ((q % 5 : Nat) : Int) from pk_us, show s_Md_by (s_Md_by m f) (upd (g_Md_by (s_Md_by m f)) j (iI ((q % 5 : Nat) : Int))) = s_Md_by m (upd f j (iI ((q % 5 : Nat) : Int))) from rfl]
      have fin : ∀ s' : Nat, s' = s + ab (q % 5) → ∃ f' : Nat → Int32, f_X7_setsIn_L15 n (s_Md_by m (upd f j (iI ((q % 5 : Nat) : Int)))) (iI g) (iI ((q / 5 : Nat) : Int)) (iI s') (iI ((j : Int) - 1)) K = K (s_Md_by m f') (iI g) (iI ((q / 5 ^ (j + 1) : Nat) : Int)) (iI ((s + cs (j + 1) q : Nat) : Int)) (iI (-1)) ∧ (∀ v, v < j + 1 → f' v = iI ((dg (j + 1) q v : Nat) : Int)) ∧ (∀ v, j + 1 ≤ v → f' v = f v) := by
        intro s' hs'
        obtain ⟨f', e', p1, p2⟩ := ih n (q / 5) s' (upd f j (iI ((q % 5 : Nat) : Int))) (by omega) (by omega) (by omega)
        refine ⟨f', ?_, fun v hv => ?_, fun v hv => ?_⟩
        · rw [e', hs', cs, Nat.div_div_eq_div_mul, show 5 * 5 ^ j = 5 ^ (j + 1) from by rw [Nat.pow_succ, Nat.mul_comm], show s + ab (q % 5) + cs j (q / 5) = s + (cs j (q / 5) + ab (q % 5)) from by omega]
        · rw [dg]
          by_cases e : v = j
          · subst e; rw [if_pos rfl, p2 v (by omega), pk_us]
          · rw [if_neg e]; exact p1 v (by omega)
        · rw [p2 v (by omega), pk_un (by omega)]
      by_cases q2 : 2 ≤ q % 5
      · rw [if_pos (by rw [show (2 : Int32) = iI ((2 : Nat) : Int) from rfl, iI_leN (by omega) (by omega)]; exact q2), show (2 : Int32) = iI 2 from rfl, iI_sub, iI_add, show (s : Int) + (((q % 5 : Nat) : Int) - 2) = ((s + ab (q % 5) : Nat) : Int) from by unfold ab; rw [if_neg (by omega)]; omega]
        exact fin _ rfl
      · rw [if_neg (by rw [show (2 : Int32) = iI ((2 : Nat) : Int) from rfl, iI_leN (by omega) (by omega)]; exact q2), show (2 : Int32) = iI 2 from rfl, iI_sub, iI_add, show (s : Int) + (2 - ((q % 5 : Nat) : Int)) = ((s + ab (q % 5) : Nat) : Int) from by unfold ab; rw [if_pos (by omega)]; omega]
        exact fin _ rfl
  obtain ⟨f', e', p1, -⟩ := k15 (fun m_13 b2_9 b3_10 b4_11 b5_12 => f_X7_setsIn_L80 100000 m_13 b2_9 b4_11 (0 : Int32) (fun m_33 b2_30 b4_31 b5_32 => some (b4_31, m_33))) (v_n V) 100000 k 0 (g_Md_by m) (by omega) (by omega) hk
  refine ⟨f', ?_, p1⟩
  have hm : rN (s_Md_by m f') V := h
  have k94 : ∀ (v : Nat) (u4 : Int32) (K : nMd → Int32 → Int32 → Int32 → Int32 → Option (Int32 × nMd)), v < v_n V → ∀ (d n u : Nat), u + d = v → d < n → f_X7_setsIn_L94 n (s_Md_by m f') (iI g) u4 (iI v) (iI u) K = if al (fun u => decide (g ≤ gp V (v_n V) k v u)) u d = true then K (s_Md_by m f') (iI g) u4 (iI v) (iI v) else some ((-4 : Int32), s_Md_by m f') := by
    intro v u4 K hv d
    have o1 := ok.2.1 v hv
    have d1 := dg_lt (v_n V) k v
    induction d with
    | zero =>
      intro n u hu hd
      obtain ⟨n, rfl, -⟩ := fuel hd
      obtain rfl : u = v := by omega
      rw [f_X7_setsIn_L94, if_pos (by rw [iI_leN (by omega) (by omega)]; omega), al, if_pos rfl]
    | succ d ih =>
      intro n u hu hd
      obtain ⟨n, rfl, hd2⟩ := fuel hd
      have o2 := ok.2.1 u (by omega)
      have d2 := dg_lt (v_n V) k u
      have gb := gapI_b (v_m V v + (dg (v_n V) k v : Nat)) (v_m V u + (dg (v_n V) k u : Nat))
      have z1 : ¬ iI (v : Int) ≤ iI (u : Int) := by rw [iI_leN (by omega) (by omega)]; omega
      rw [f_X7_setsIn_L94, if_neg z1, m_minute hm ok hv, Option.bind_some, nn_ixN (by omega) (by omega), m_minute hm ok (by omega), Option.bind_some, nn_ixN (by omega) (by omega), iI_cN (by omega), iI_cN (by omega), show g_Md_by (s_Md_by m f') v = iI ((dg (v_n V) k v : Nat) : Int) from p1 v hv, show g_Md_by (s_Md_by m f') u = iI ((dg (v_n V) k u : Nat) : Int) from p1 u (by omega), iI_add, iI_add, m_between (by omega) (by omega) (by omega) (by omega), Option.bind_some, iI_s, al]
      by_cases q : g ≤ gapI (v_m V v + (dg (v_n V) k v : Nat)) (v_m V u + (dg (v_n V) k u : Nat))
      · rw [if_pos (by rw [iI_le (by omega) (by omega) (by omega) (by omega)]; exact q), ih n (u + 1) (by omega) (by omega), show decide (g ≤ gp V (v_n V) k v u) = true from decide_eq_true q, Bool.true_and]
      · rw [if_neg (by rw [iI_le (by omega) (by omega) (by omega) (by omega)]; exact q), show decide (g ≤ gp V (v_n V) k v u) = false from decide_eq_false q, Bool.false_and, if_neg (by decide)]
  have k80 : ∀ (u4 : Int32) (d n v : Nat), v + d = v_n V → d < n → f_X7_setsIn_L80 n (s_Md_by m f') (iI g) u4 (iI v) (fun m_33 b2_30 b4_31 b5_32 => some (b4_31, m_33)) = if al (fun v => al (fun u => decide (g ≤ gp V (v_n V) k v u)) 0 v) v d = true then some (u4, s_Md_by m f') else some ((-4 : Int32), s_Md_by m f') := by
    intro u4 d
    induction d with
    | zero =>
      intro n v hv hd
      obtain ⟨n, rfl, -⟩ := fuel hd
      rw [f_X7_setsIn_L80, m_n hm, if_pos (by rw [iI_leN (by omega) (by omega)]; omega), al, if_pos rfl]
    | succ d ih =>
      intro n v hv hd
      obtain ⟨n, rfl, hd2⟩ := fuel hd
      have z1 : ¬ iI ((v_n V : Nat) : Int) ≤ iI (v : Int) := by rw [iI_leN (by omega) (by omega)]; omega
      have e94 := k94 v u4 (fun m_29 b2_25 b4_26 b5_27 b6_28 => f_X7_setsIn_L80 n m_29 b2_25 b4_26 (b5_27 + (1 : Int32)) (fun m_33 b2_30 b4_31 b5_32 => some (b4_31, m_33))) (by omega) v 100000 0 (by omega) (by omega)
      rw [zz] at e94
      rw [f_X7_setsIn_L80, m_n hm, if_neg z1, e94, iI_s, al, ih n (v + 1) (by omega) (by omega)]
      by_cases q : al (fun u => decide (g ≤ gp V (v_n V) k v u)) 0 v = true
      · rw [if_pos q, q, Bool.true_and]
      · rw [if_neg q, Bool.eq_false_iff.2 q, Bool.false_and, if_neg (by decide)]
  have e80 := k80 (iI ((0 + cs (v_n V) k : Nat) : Int)) (v_n V) 100000 0 (by omega) (by omega)
  rw [zz] at e80
  unfold f_X7_setsIn
  rw [m_n h, show iI ((v_n V : Nat) : Int) - (1 : Int32) = iI ((v_n V : Int) - 1) from by rw [show (1 : Int32) = iI 1 from rfl, iI_sub]]
  have e1 := e'.trans e80
  rw [zz, show s_Md_by m (g_Md_by m) = m from rfl] at e1
  rw [e1, Nat.zero_add]
  unfold VB
  by_cases q : al (fun v => al (fun u => decide (g ≤ gp V (v_n V) k v u)) 0 v) 0 (v_n V) = true
  · rw [if_pos q, if_pos q]
  · rw [if_neg q, if_neg q]; rfl
/-- what the reference holds of the best so far -/
def BH (V : nSV) (m1 : nMd) (u4 : Int32) (acc : Option (Nat × Nat)) : Prop := (acc = none ∧ u4 = iI (-4)) ∨ ∃ c i, acc = some (c, i) ∧ c ≤ 12 ∧ u4 = iI (c : Int) ∧ ∀ v, v < v_n V → g_Md_best m1 v = iI ((dg (v_n V) i v : Nat) : Int)
theorem m_copy6 {m : nMd} (u1 u2 u3 u4 u5 : Int32) (K : nMd → Int32 → Int32 → Int32 → Int32 → Int32 → Int32 → Option (Int32 × nMd)) : ∀ (d n j : Nat) (f : Nat → Int32), j + d = 6 → d < n → (∀ v, v < j → f v = g_Md_by m v) → ∃ f' : Nat → Int32, (∀ v, v < 6 → f' v = g_Md_by m v) ∧ f_X7_fix_L110 n (s_Md_best m f) u1 u2 u3 u4 u5 (iI j) K = K (s_Md_best m f') u1 u2 u3 u4 u5 (iI ((6 : Nat) : Int)) := by
  intro d
  induction d with
  | zero =>
    intro n j f hj hd hh
    obtain ⟨n, rfl, -⟩ := fuel hd
    obtain rfl : j = 6 := by omega
    exact ⟨f, hh, by rw [f_X7_fix_L110, if_pos (by decide)]⟩
  | succ d ih =>
    intro n j f hj hd hh
    obtain ⟨n, rfl, hd2⟩ := fuel hd
    have z1 : ¬ (6 : Int32) ≤ iI (j : Int) := by rw [show (6 : Int32) = iI ((6 : Nat) : Int) from rfl, iI_leN (by omega) (by omega)]; omega
    rw [f_X7_fix_L110, if_neg z1, nn_ixN (by omega) (by omega), nn_ixN (by omega) (by omega), Option.bind_some, iI_cN (by omega), iI_s]
    refine ih n (j + 1) (upd f j (g_Md_by m j)) (by omega) (by omega) (fun v hv => ?_)
    by_cases e : v = j
    · rw [e, pk_us]
    · rw [pk_un e]; exact hh v (by omega)
theorem m_fix67 {m : nMd} {V : nSV} (v3 : rN m V) (ok : okV V) {g : Int} (g1 : 1 ≤ g) (g2 : g ≤ 12) (u2 : Int32) (K : nMd → Int32 → Int32 → Int32 → Int32 → Int32 → Option (Int32 × nMd)) : ∀ (d n k : Nat) (b s : Nat → Int32) (u4 : Int32) (acc : Option (Nat × Nat)), k + d = 5 ^ v_n V → d < n → BH V (s_Md_best (s_Md_by m b) s) u4 acc → ∃ b' s' u4', f_X7_fix_L67 n (s_Md_best (s_Md_by m b) s) (iI g) u2 (iI ((5 ^ v_n V : Nat) : Int)) u4 (iI k) K = K (s_Md_best (s_Md_by m b') s') (iI g) u2 (iI ((5 ^ v_n V : Nat) : Int)) u4' (iI ((5 ^ v_n V : Nat) : Int)) ∧ BH V (s_Md_best (s_Md_by m b') s') u4' (fo (st67 V g) k d acc) := by
  have hn := ok.1
  have hp : 5 ^ v_n V ≤ 15625 := Nat.pow_le_pow_right (n := 5) (by omega) hn
  intro d
  induction d with
  | zero =>
    intro n k b s u4 acc hk hd hB
    obtain ⟨n, rfl, -⟩ := fuel hd
    obtain rfl : k = 5 ^ v_n V := by omega
    exact ⟨b, s, u4, by rw [f_X7_fix_L67, if_pos (by rw [iI_leN (by omega) (by omega)]; omega)], hB⟩
  | succ d ih =>
    intro n k b s u4 acc hk hd hB
    obtain ⟨n, rfl, hd2⟩ := fuel hd
    have z1 : ¬ iI ((5 ^ v_n V : Nat) : Int) ≤ iI (k : Int) := by rw [iI_leN (by omega) (by omega)]; omega
    obtain ⟨b2, e2, p2⟩ := m_setsIn (m := s_Md_best (s_Md_by m b) s) (V := V) v3 ok g1 g2 (k := k) (by omega)
    rw [show s_Md_by (s_Md_best (s_Md_by m b) s) b2 = s_Md_best (s_Md_by m b2) s from rfl] at e2
    have hle := cs_le (v_n V) k
    rw [f_X7_fix_L67, if_neg z1, e2, Option.bind_some, fo]
    dsimp only
    have put : ∀ (K2 : nMd → Option (Int32 × nMd)), (∀ s2 : Nat → Int32, (∀ v, v < 6 → s2 v = b2 v) → K2 (s_Md_best (s_Md_by m b2) s2) = f_X7_fix_L67 n (s_Md_best (s_Md_by m b2) s2) (iI g) u2 (iI ((5 ^ v_n V : Nat) : Int)) (iI ((cs (v_n V) k : Nat) : Int)) (iI ((k + 1 : Nat) : Int)) K) → VB V g (v_n V) k = true → st67 V g k acc = some (cs (v_n V) k, k) → ∀ (s2 : Nat → Int32), (∀ v, v < 6 → s2 v = b2 v) → ∃ b' s' u4', K2 (s_Md_best (s_Md_by m b2) s2) = K (s_Md_best (s_Md_by m b') s') (iI g) u2 (iI ((5 ^ v_n V : Nat) : Int)) u4' (iI ((5 ^ v_n V : Nat) : Int)) ∧ BH V (s_Md_best (s_Md_by m b') s') u4' (fo (st67 V g) (k + 1) d (st67 V g k acc)) := by
      intro K2 hK2 hv hst s2 hs2
      rw [hK2 s2 hs2, hst]
      exact ih n (k + 1) b2 s2 (iI ((cs (v_n V) k : Nat) : Int)) _ (by omega) (by omega) (Or.inr ⟨cs (v_n V) k, k, rfl, by omega, rfl, fun v hv2 => by show s2 v = _; rw [hs2 v (by omega)]; exact p2 v hv2⟩)
    have keep : ∀ acc2, st67 V g k acc = acc2 → BH V (s_Md_best (s_Md_by m b2) s) u4 acc2 → ∃ b' s' u4', f_X7_fix_L67 n (s_Md_best (s_Md_by m b2) s) (iI g) u2 (iI ((5 ^ v_n V : Nat) : Int)) u4 (iI ((k + 1 : Nat) : Int)) K = K (s_Md_best (s_Md_by m b') s') (iI g) u2 (iI ((5 ^ v_n V : Nat) : Int)) u4' (iI ((5 ^ v_n V : Nat) : Int)) ∧ BH V (s_Md_best (s_Md_by m b') s') u4' (fo (st67 V g) (k + 1) d (st67 V g k acc)) := by
      intro acc2 hst hB2
      rw [hst]
      exact ih n (k + 1) b2 s u4 acc2 (by omega) (by omega) hB2
    have cp := fun K2 => m_copy6 (m := s_Md_by m b2) (iI g) u2 (iI ((5 ^ v_n V : Nat) : Int)) (iI ((cs (v_n V) k : Nat) : Int)) (iI k) K2 6 100000 0 s (by omega) (by omega) (fun v hv => absurd hv (by omega))
    rw [iI_s]
    by_cases q : VB V g (v_n V) k = true
    · rw [if_pos q, if_neg (show ¬ iI ((cs (v_n V) k : Nat) : Int) = (-4 : Int32) by rw [show (-4 : Int32) = iI (-4) from rfl, iI_eq (by omega) (by omega) (by omega) (by omega)]; omega)]
      rcases hB with ⟨ha, hu⟩ | ⟨c, i, ha, hc, hu, hb⟩
      · rw [if_pos (show u4 = (-4 : Int32) from hu)]
        obtain ⟨s2, hs2, e3⟩ := cp (fun m_29 b1_23 b2_24 b3_25 b4_26 b5_27 b7_28 => f_X7_fix_L67 n m_29 b1_23 b2_24 b3_25 b4_26 (b5_27 + (1 : Int32)) K)
        rw [zz] at e3
        rw [e3, iI_s]
        exact put (fun m => f_X7_fix_L67 n m (iI g) u2 (iI ((5 ^ v_n V : Nat) : Int)) (iI ((cs (v_n V) k : Nat) : Int)) (iI ((k + 1 : Nat) : Int)) K) (fun s2 _ => rfl) q (by unfold st67; rw [if_pos q, ha]) s2 hs2
      · rw [if_neg (show ¬ u4 = (-4 : Int32) by rw [hu, show (-4 : Int32) = iI (-4) from rfl, iI_eq (by omega) (by omega) (by omega) (by omega)]; omega)]
        by_cases w : cs (v_n V) k < c
        · rw [if_neg (show ¬ u4 ≤ iI ((cs (v_n V) k : Nat) : Int) by rw [hu, iI_leN (by omega) (by omega)]; omega)]
          obtain ⟨s2, hs2, e3⟩ := cp (fun m_29 b1_23 b2_24 b3_25 b4_26 b5_27 b7_28 => f_X7_fix_L67 n m_29 b1_23 b2_24 b3_25 b4_26 (b5_27 + (1 : Int32)) K)
          rw [zz] at e3
          rw [e3, iI_s]
          exact put (fun m => f_X7_fix_L67 n m (iI g) u2 (iI ((5 ^ v_n V : Nat) : Int)) (iI ((cs (v_n V) k : Nat) : Int)) (iI ((k + 1 : Nat) : Int)) K) (fun s2 _ => rfl) q (by unfold st67; rw [if_pos q, ha]; show (if cs (v_n V) k < c then some (cs (v_n V) k, k) else some (c, i)) = _; rw [if_pos w]) s2 hs2
        · rw [if_pos (show u4 ≤ iI ((cs (v_n V) k : Nat) : Int) by rw [hu, iI_leN (by omega) (by omega)]; omega)]
          exact keep (some (c, i)) (by unfold st67; rw [if_pos q, ha]; show (if cs (v_n V) k < c then some (cs (v_n V) k, k) else some (c, i)) = _; rw [if_neg w]) (Or.inr ⟨c, i, rfl, hc, hu, hb⟩)
    · rw [if_neg q, if_pos (show iI (-4) = (-4 : Int32) from rfl)]
      exact keep acc (by unfold st67; rw [if_neg q]) hB
theorem op_fix {c : nCs} {m : nMd} (h : Rel c m) (a1 a2 : Int32) : OK2 (f_X6_fix c a1 a2) (f_X7_fix m a1 a2) := by
  obtain ⟨g, g_1, g_2, rfl⟩ := iI_of a1
  obtain ⟨b, b_1, b_2, rfl⟩ := iI_of a2
  obtain ⟨V, v1, v2, v3⟩ := h.1
  have hn := v1.1.1
  have hp : 5 ^ v_n V ≤ 15625 := Nat.pow_le_pow_right (n := 5) (by omega) hn
  unfold f_X6_fix f_X7_fix
  rw [w_1_12 g_1 g_2, i_1_12 g_1 g_2, m_n v3, show iI ((v_n V : Nat) : Int) - (1 : Int32) = iI ((v_n V : Int) - 1) from by rw [show (1 : Int32) = iI 1 from rfl, iI_sub], iI_L (z := (v_n V : Int) - 1) (by omega) (by omega), iI_L b_1 b_2, show (-1 : Int64) = iL (-1) from rfl, m_in b_1 b_2 (by omega) (by omega) (by omega) (by omega), c_has v2 v1.1 b_1 b_2]
  simp only [Option.bind_some]
  by_cases k1 : 1 ≤ g ∧ g ≤ 12
  rotate_left
  · simp only [if_neg k1, if_true]; exact ⟨_, _, _, rfl, rfl, h⟩
  simp only [if_pos k1, if_neg one0]
  have zb : (iI b = (-1 : Int32)) = (b = -1) := by rw [show (-1 : Int32) = iI (-1) from rfl, iI_eq (by omega) (by omega) (by omega) (by omega)]
  simp only [zb]
  have main : -1 ≤ b → b ≤ (v_n V : Int) - 1 → OK2 (f_X6_fix_J28 c (iI g) (iI b)) (f_X7_fix_L39 100000 m (iI g) (iI b) (1 : Int32) (0 : Int32) (fun m_12 b1_8 b2_9 b3_10 b4_11 => f_X7_fix_L67 100000 m_12 b1_8 b2_9 b3_10 (-4 : Int32) (0 : Int32) (fun m_43 b1_38 b2_39 b3_40 b4_41 b5_42 => if b2_39 < 0 then some (b4_41, m_43) else if b4_41 = (-4 : Int32) then some (b4_41, m_43) else nn_ix b2_39 6 (some ((g_Md_best m_43) b2_39.toNatClampNeg, m_43))))) := by
    intro hb1 hb2
    have k39 : ∀ (K : nMd → Int32 → Int32 → Int32 → Int32 → Option (Int32 × nMd)) (d n j : Nat), j + d = v_n V → d < n → f_X7_fix_L39 n m (iI g) (iI b) (iI ((5 ^ j : Nat) : Int)) (iI j) K = K m (iI g) (iI b) (iI ((5 ^ v_n V : Nat) : Int)) (iI (v_n V)) := by
      intro K d
      induction d with
      | zero =>
        intro n j hj hd
        obtain ⟨n, rfl, -⟩ := fuel hd
        obtain rfl : j = v_n V := by omega
        rw [f_X7_fix_L39, m_n v3, if_pos (by rw [iI_leN (by omega) (by omega)]; omega)]
      | succ d ih =>
        intro n j hj hd
        obtain ⟨n, rfl, hd2⟩ := fuel hd
        have z1 : ¬ iI ((v_n V : Nat) : Int) ≤ iI (j : Int) := by rw [iI_leN (by omega) (by omega)]; omega
        rw [f_X7_fix_L39, m_n v3, if_neg z1, iI_s, show iI ((5 ^ j : Nat) : Int) * (5 : Int32) = iI ((5 ^ (j + 1) : Nat) : Int) from by rw [show (5 : Int32) = iI 5 from rfl, iI_mul, Nat.pow_succ]; congr 1]
        exact ih n (j + 1) (by omega) (by omega)
    have e39 := k39 (fun m_12 b1_8 b2_9 b3_10 b4_11 => f_X7_fix_L67 100000 m_12 b1_8 b2_9 b3_10 (-4 : Int32) (0 : Int32) (fun m_43 b1_38 b2_39 b3_40 b4_41 b5_42 => if b2_39 < 0 then some (b4_41, m_43) else if b4_41 = (-4 : Int32) then some (b4_41, m_43) else nn_ix b2_39 6 (some ((g_Md_best m_43) b2_39.toNatClampNeg, m_43)))) (v_n V) 100000 0 (by omega) (by omega)
    rw [show iI ((5 ^ 0 : Nat) : Int) = (1 : Int32) from rfl, zz] at e39
    rw [e39]
    obtain ⟨b', s', u4, e67, hB⟩ := m_fix67 v3 v1.1 k1.1 k1.2 (iI b) (fun m_43 b1_38 b2_39 b3_40 b4_41 b5_42 => if b2_39 < 0 then some (b4_41, m_43) else if b4_41 = (-4 : Int32) then some (b4_41, m_43) else nn_ix b2_39 6 (some ((g_Md_best m_43) b2_39.toNatClampNeg, m_43))) (5 ^ v_n V) 100000 0 (g_Md_by m) (g_Md_best m) (iI (-4)) none (by omega) (by omega) (Or.inl ⟨rfl, rfl⟩)
    rw [zz, show s_Md_best (s_Md_by m (g_Md_by m)) (g_Md_best m) = m from rfl, show iI (-4) = (-4 : Int32) from rfl] at e67
    rw [e67]
    unfold f_X6_fix_J28
    obtain ⟨se, es, hse⟩ := c_least v2 v1.1 k1.1 k1.2 (g_Cs_se c)
    have hsm : simM m (s_Md_best (s_Md_by m b') s') := ⟨fun _ _ => rfl, rfl, rfl, rfl, rfl, rfl, rfl, rfl, rfl, rfl, rfl⟩
    have hR : Rel (s_Cs_se c se) (s_Md_best (s_Md_by m b') s') := Rel_sim (c' := s_Cs_se c se) ⟨fun _ _ => rfl, fun _ => rfl, rfl, rfl, rfl⟩ hsm h
    have zneg : (iI b < (0 : Int32)) = (b < 0) := by rw [show (0 : Int32) = iI 0 from rfl, iI_lt (by omega) (by omega) (by omega) (by omega)]
    simp only [zneg, zb]
    rw [es, Option.bind_some]
    dsimp only
    rcases hB with ⟨ha, hu⟩ | ⟨cc, i, ha, hc, hu, hb⟩
    · rw [ha] at hse
      rcases hse with ⟨-, hbt⟩ | ⟨_, _, hq, _⟩
      rotate_left
      · cases hq
      rw [hbt, if_pos (show iI 13 = (13 : Int32) from rfl), if_pos (show (-4 : Int32) = (-4 : Int32) from rfl), hu]
      by_cases w : b < 0
      · rw [if_pos w]; exact ⟨_, _, _, rfl, rfl, hR⟩
      · rw [if_neg w, if_pos (show iI (-4) = (-4 : Int32) from rfl)]; exact ⟨_, _, _, rfl, rfl, hR⟩
    · rw [ha] at hse
      rcases hse with ⟨hq, _⟩ | ⟨c2, i2, hq, hc2, hbt, hbo⟩
      · cases hq
      cases hq
      have zS : ¬ iI (cc : Int) = (13 : Int32) := by rw [show (13 : Int32) = iI 13 from rfl, iI_eq (by omega) (by omega) (by omega) (by omega)]; omega
      have zT : ¬ iI (cc : Int) = (-4 : Int32) := by rw [show (-4 : Int32) = iI (-4) from rfl, iI_eq (by omega) (by omega) (by omega) (by omega)]; omega
      rw [hbt, if_neg zS, if_neg zT, hu]
      by_cases w : b < 0
      · rw [if_pos w, if_pos (show b = -1 by omega)]; exact ⟨_, _, _, rfl, rfl, hR⟩
      · obtain ⟨v, rfl⟩ : ∃ v : Nat, b = (v : Int) := ⟨b.toNat, by omega⟩
        rw [if_neg w, if_neg (show ¬ (v : Int) = -1 by omega), if_neg zT, nn_ixN (by omega) (by omega), nn_ixN (by omega) (by omega), iI_cN (by omega), hb v (by omega)]
        rw [show g_Se_bestShifts (g_Cs_se (s_Cs_se c se)) v = iI ((dg (v_n V) i v : Nat) - 2) from hbo v (by omega), show iI (((dg (v_n V) i v : Nat) : Int) - 2) + (2 : Int32) = iI ((dg (v_n V) i v : Nat) : Int) from by rw [show (2 : Int32) = iI 2 from rfl, iI_add]; congr 1; omega]
        exact ⟨_, _, _, rfl, rfl, hR⟩
  by_cases kb : b = -1
  · rw [if_pos kb, if_pos (show -1 ≤ b ∧ b ≤ (v_n V : Int) - 1 by omega), if_neg one0]
    exact main (by omega) (by omega)
  · rw [if_neg kb]
    by_cases kc : 0 ≤ b ∧ b < v_n V
    · rw [if_pos kc, if_pos (show -1 ≤ b ∧ b ≤ (v_n V : Int) - 1 by omega), if_neg one0, if_neg one0]
      exact main (by omega) (by omega)
    · rw [if_neg kc, if_neg (show ¬ (-1 ≤ b ∧ b ≤ (v_n V : Int) - 1) by omega), if_pos rfl, if_pos rfl]
      exact ⟨_, _, _, rfl, rfl, h⟩
