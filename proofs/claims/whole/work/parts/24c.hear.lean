/-! the reference -/
theorem full_tab : ∀ s, s < 64 → ∀ n, n < 7 → (s = 2 ^ n - 1 ↔ ∀ u, u < 6 → s.testBit u = decide (u < n)) := by decide +kernel
theorem m_isOrder {m : nMd} {V : nSV} (h : rN m V) (ok : okV V) (hB : 0 < v_n V) {k : Nat} (hk : k < 100000) : ∃ b : Nat → Int32, f_X7_isOrder m (iI k) = some (if ha_D (db (v_n V) (v_n V) k) (v_n V) = true then 1 else 0, s_Md_order m b) ∧ ∀ v, v < v_n V → b v = iI ((db (v_n V) (v_n V) k v : Nat) : Int) := by
  have hn := ok.1
  have k14 : ∀ (K : nMd → Int32 → Int32 → Int32 → Option (Int32 × nMd)) (j n q mk : Nat) (f : Nat → Int32), j ≤ v_n V → j < n → q < 100000 → mk < 64 → ∃ (f' : Nat → Int32) (u2 : Int32) (mk' : Nat), f_X7_isOrder_L14 n (s_Md_order m f) (iI q) (iI mk) (iI ((j : Int) - 1)) K = K (s_Md_order m f') u2 (iI mk') (iI (-1)) ∧ (∀ v, v < j → f' v = iI ((db (v_n V) j q v : Nat) : Int)) ∧ (∀ v, j ≤ v → f' v = f v) ∧ mk' < 64 ∧ ∀ u, mk'.testBit u = (mk.testBit u || ha_C (db (v_n V) j q) j u) := by
    intro K j
    induction j with
    | zero =>
      intro n q mk f hj hd hq hmk
      obtain ⟨n, rfl, -⟩ := fuel hd
      refine ⟨f, iI q, mk, ?_, fun v hv => absurd hv (by omega), fun v _ => rfl, hmk, fun u => by rw [ha_C, Bool.or_false]⟩
      rw [f_X7_isOrder_L14, if_pos (by decide)]; rfl
    | succ j ih =>
      intro n q mk f hj hd hq hmk
      obtain ⟨n, rfl, hd2⟩ := fuel hd
      have z0 : ¬ iI (((j + 1 : Nat) : Int) - 1) < 0 := by rw [show (0 : Int32) = iI 0 from rfl, iI_lt (by omega) (by omega) (by omega) (by omega)]; omega
      have hm1 : ∀ f2 : Nat → Int32, g_Md_now (s_Md_order m f2) (0 : Int32).toNatClampNeg = iI (v_n V) := fun f2 => h.1
      have em : iI (q : Int) - iI (q : Int) / iI (v_n V) * iI (v_n V) = iI ((q % v_n V : Nat) : Int) := iI_remN (by omega) hB (by omega)
      have ed : iI (q : Int) / iI (v_n V) = iI ((q / v_n V : Nat) : Int) := by rw [iI_divn (by omega) (by omega) (by omega) (by omega)]; congr 1
      have ej : iI (j : Int) + (-1 : Int32) = iI ((j : Int) - 1) := by rw [show (-1 : Int32) = iI (-1) from rfl, iI_add]; congr 1
      have hlt : q % v_n V < v_n V := Nat.mod_lt _ hB
      have hle : q / v_n V ≤ q := Nat.div_le_self _ _
      rw [f_X7_isOrder_L14, if_neg z0, show ((j + 1 : Nat) : Int) - 1 = (j : Int) from by omega, hm1, nn_nzo (by omega) (by omega) (by omega), nn_ixN (by omega) (by omega), em, iI_cN (by omega), Option.bind_some, nn_ixN (by omega) (by omega)]
      rw [show s_Md_order (s_Md_order m f) (upd (g_Md_order (s_Md_order m f)) j (iI ((q % v_n V : Nat) : Int))) = s_Md_order m (upd f j (iI ((q % v_n V : Nat) : Int))) from rfl, hm1, nn_nzo (by omega) (by omega) (by omega), ed, ej]
      rw [show g_Md_order (s_Md_order m (upd f j (iI ((q % v_n V : Nat) : Int)))) j = iI ((q % v_n V : Nat) : Int) from pk_us, or_tab mk hmk (q % v_n V) (by omega)]
      obtain ⟨f', u2, mk', e1, p1, p2, p3, p4⟩ := ih n (q / v_n V) (mk ||| 2 ^ (q % v_n V)) (upd f j (iI ((q % v_n V : Nat) : Int))) (by omega) (by omega) (by omega) (or_lt hmk (by omega))
      refine ⟨f', u2, mk', e1, fun v hv => ?_, fun v hv => ?_, p3, fun u => ?_⟩
      · rw [db]
        by_cases e : v = j
        · subst e; rw [if_pos rfl, p2 v (by omega), pk_us]
        · rw [if_neg e]; exact p1 v (by omega)
      · rw [p2 v (by omega), pk_un (by omega)]
      · rw [p4, or_tb, ha_C, ha_Cc (f := db (v_n V) (j + 1) q) (g := db (v_n V) j (q / v_n V)) j u (fun v hv => by rw [db, if_neg (by omega)]), show db (v_n V) (j + 1) q j = q % v_n V from by rw [db, if_pos rfl], Bool.or_assoc, Bool.or_comm (decide _)]
  obtain ⟨f', u2, mk', e', p1, -, p3, p4⟩ := k14 (fun m_11 b2_8 b3_9 b4_10 => if b3_9 = (((1 : Int32) <<< (((g_Md_now m_11) (0 : Int32).toNatClampNeg) &&& 31)) - (1 : Int32)) then some ((1 : Int32), m_11) else some ((0 : Int32), m_11)) (v_n V) 100000 k 0 (g_Md_order m) (by omega) (by omega) hk (by omega)
  refine ⟨f', ?_, p1⟩
  unfold f_X7_isOrder
  rw [m_n h, show iI ((v_n V : Nat) : Int) - (1 : Int32) = iI ((v_n V : Int) - 1) from by rw [show (1 : Int32) = iI 1 from rfl, iI_sub]]
  rw [zz, show s_Md_order m (g_Md_order m) = m from rfl] at e'
  rw [e']
  have hfull : (iI (mk' : Int) = ((1 : Int32) <<< (((g_Md_now (s_Md_order m f')) (0 : Int32).toNatClampNeg) &&& 31)) - (1 : Int32)) ↔ ha_D (db (v_n V) (v_n V) k) (v_n V) = true := by
    have hp : 2 ^ v_n V ≤ 2 ^ 6 := Nat.pow_le_pow_right (by omega) hn
    have hp0 : 0 < 2 ^ v_n V := Nat.pow_pos (by omega)
    rw [show g_Md_now (s_Md_order m f') (0 : Int32).toNatClampNeg = iI (v_n V) from h.1, shl_tab (v_n V) (by omega), show iI ((2 ^ v_n V : Nat) : Int) - (1 : Int32) = iI ((2 ^ v_n V - 1 : Nat) : Int) from by rw [show (1 : Int32) = iI 1 from rfl, iI_sub]; congr 1; omega, iI_eqN (by omega) (by omega), full_tab mk' p3 (v_n V) (by omega), ← ha_CD (fun v => db_lt hB _ _ _)]
    constructor
    · intro hh u hu
      have := hh u (by omega)
      rw [p4, Nat.zero_testBit, Bool.false_or, decide_eq_true hu] at this
      exact this
    · intro hh u hu
      rw [p4, Nat.zero_testBit, Bool.false_or]
      by_cases q : u < v_n V
      · rw [hh u q, decide_eq_true q]
      · rw [decide_eq_false q]
        exact Bool.eq_false_iff.2 (fun z => q (ha_Clt (fun v => db_lt hB _ _ _) _ _ z))
  by_cases q : ha_D (db (v_n V) (v_n V) k) (v_n V) = true
  · rw [if_pos (hfull.2 q), if_pos q]
  · rw [if_neg (fun z => q (hfull.1 z)), if_neg q]
theorem m_hearsT {m : nMd} {V : nSV} (h : rN m V) (ok : okV V) {w mi : Int} (w1 : 1 ≤ w) (w2 : w ≤ 9) (m1 : 0 ≤ mi) (m2 : mi ≤ 59) {vi : Nat} (hv : vi < v_n V) {f : Nat → Nat} (hf : ∀ v, f v < v_n V) (ho : ∀ v, v < v_n V → g_Md_order m v = iI ((f v : Nat) : Int)) : f_X7_hears m (iI vi) (iI mi) (iI w) = some (iI ((ha_T V w (v_l V vi, mi) f (v_n V)).2 - mi)) := by
  have hn := ok.1
  have o0 := ok.2.1 vi hv
  have key : ∀ (d n j at_ : Nat), j + d = v_n V → d < n → at_ < v_n V → v_l V at_ = (ha_T V w (v_l V vi, mi) f j).1 → f_X7_hears_L9 m n (iI mi) (iI w) (iI at_) (iI ((ha_T V w (v_l V vi, mi) f j).2 - mi)) (iI j) (fun b2_9 b3_10 b4_11 b5_12 b6_13 => some (b5_12)) = some (iI ((ha_T V w (v_l V vi, mi) f (v_n V)).2 - mi)) := by
    intro d
    induction d with
    | zero =>
      intro n j a hj hd ha hl
      obtain ⟨n, rfl, -⟩ := fuel hd
      obtain rfl : j = v_n V := by omega
      rw [f_X7_hears_L9, m_n h, if_pos (by rw [iI_leN (by omega) (by omega)]; omega)]
    | succ d ih =>
      intro n j a hj hd ha hl
      obtain ⟨n, rfl, hd2⟩ := fuel hd
      have z2 : ¬ iI ((v_n V : Nat) : Int) ≤ iI (j : Int) := by rw [iI_leN (by omega) (by omega)]; omega
      have hb := ha_Tb ok w1 w2 (p := (v_l V vi, mi)) ⟨o0.2.2.2.2.2.2.1, o0.2.2.2.2.2.2.2⟩ ⟨m1, m2⟩ hf j
      have hp : ((v_l V vi, mi) : Int × Int).2 = mi := rfl
      rw [hp] at hb
      have o := ok.2.1 (f j) (hf j)
      have hd0 := ha_db o.2.2.2.2.2.2.1 o.2.2.2.2.2.2.2 hb.1.1 hb.1.2
      have hm0 := ha_m hd0.1 hd0.2 w1 w2
      rw [f_X7_hears_L9, m_n h, if_neg z2, nn_ixN (by omega) (by omega), iI_cN (by omega), ho j (by omega), m_miles h ok ha (hf j), Option.bind_some, m_minute h ok (hf j), Option.bind_some]
      rw [show (if (0 : Int) ≤ v_l V a - v_l V (f j) then v_l V a - v_l V (f j) else -(v_l V a - v_l V (f j))) = ha_d (v_l V (f j)) (ha_T V w (v_l V vi, mi) f j).1 from by rw [← hl, ha_dc]; rfl]
      rw [iI_mul, iI_add, iI_sub, iI_sub, Int.mul_comm w]
      have eA : (ha_T V w (v_l V vi, mi) f j).2 - mi + ha_d (v_l V (f j)) (ha_T V w (v_l V vi, mi) f j).1 * w = ha_A V w (ha_T V w (v_l V vi, mi) f j) (f j) - mi := by unfold ha_A; omega
      rw [eA]
      have bA : 0 ≤ ha_A V w (ha_T V w (v_l V vi, mi) f j) (f j) ∧ ha_A V w (ha_T V w (v_l V vi, mi) f j) (f j) ≤ 4000 := by unfold ha_A; omega
      rw [m_round (by omega) (by omega), Option.bind_some, iI_add, iI_s]
      rw [show ha_A V w (ha_T V w (v_l V vi, mi) f j) (f j) - mi + (v_m V (f j) - mi - (ha_A V w (ha_T V w (v_l V vi, mi) f j) (f j) - mi)) % 60 = (ha_T V w (v_l V vi, mi) f (j + 1)).2 - mi from by
        rw [ha_T]
        show _ = ha_A V w (ha_T V w (v_l V vi, mi) f j) (f j) + (v_m V (f j) - ha_A V w (ha_T V w (v_l V vi, mi) f j) (f j)) % 60 - mi
        rw [show v_m V (f j) - mi - (ha_A V w (ha_T V w (v_l V vi, mi) f j) (f j) - mi) = v_m V (f j) - ha_A V w (ha_T V w (v_l V vi, mi) f j) (f j) from by omega]; omega]
      exact ih n (j + 1) (f j) (by omega) (by omega) (hf j) rfl
  have := key (v_n V) 100000 0 vi (by omega) (by omega) hv rfl
  unfold f_X7_hears
  rw [show (ha_T V w (v_l V vi, mi) f 0).2 - mi = 0 from by show mi - mi = 0; omega] at this
  exact this
def ha_M (V : nSV) (mi : Int) (m1 : nMd) (u6 : Int32) (acc : Option (Int × Nat)) : Prop := (acc = none ∧ u6 = iI (-1)) ∨ ∃ c i, acc = some (c, i) ∧ mi ≤ c ∧ c < 1000000 ∧ u6 = iI (c - mi) ∧ ∀ v, v < v_n V → g_Md_best m1 v = iI ((db (v_n V) (v_n V) i v : Nat) : Int)
theorem m_copyH {m : nMd} (u1 u2 u3 u4 u5 u6 u7 : Int32) (K : nMd → Int32 → Int32 → Int32 → Int32 → Int32 → Int32 → Int32 → Int32 → Option (Int32 × nMd)) : ∀ (d n j : Nat) (f : Nat → Int32), j + d = 6 → d < n → (∀ v, v < j → f v = g_Md_order m v) → ∃ f' : Nat → Int32, (∀ v, v < 6 → f' v = g_Md_order m v) ∧ f_X7_hear_L124 n (s_Md_best m f) u1 u2 u3 u4 u5 u6 u7 (iI j) K = K (s_Md_best m f') u1 u2 u3 u4 u5 u6 u7 (iI ((6 : Nat) : Int)) := by
  intro d
  induction d with
  | zero =>
    intro n j f hj hd hh
    obtain ⟨n, rfl, -⟩ := fuel hd
    obtain rfl : j = 6 := by omega
    exact ⟨f, hh, by rw [f_X7_hear_L124, if_pos (by decide)]⟩
  | succ d ih =>
    intro n j f hj hd hh
    obtain ⟨n, rfl, hd2⟩ := fuel hd
    have z1 : ¬ (6 : Int32) ≤ iI (j : Int) := by rw [show (6 : Int32) = iI ((6 : Nat) : Int) from rfl, iI_leN (by omega) (by omega)]; omega
    rw [f_X7_hear_L124, if_neg z1, nn_ixN (by omega) (by omega), nn_ixN (by omega) (by omega), Option.bind_some, iI_cN (by omega), iI_s]
    refine ih n (j + 1) (upd f j (g_Md_order m j)) (by omega) (by omega) (fun v hv => ?_)
    by_cases e : v = j
    · rw [e, pk_us]
    · rw [pk_un e]; exact hh v (by omega)
theorem m_hear80 {m : nMd} {V : nSV} (v3 : rN m V) (ok : okV V) {w mi : Int} (w1 : 1 ≤ w) (w2 : w ≤ 9) (m1 : 0 ≤ mi) (m2 : mi ≤ 59) {vi : Nat} (hvi : vi < v_n V) {N : Nat} (hN : N < 100000) (u4 : Int32) (K : nMd → Int32 → Int32 → Int32 → Int32 → Int32 → Int32 → Int32 → Option (Int32 × nMd)) : ∀ (d n k : Nat) (b s : Nat → Int32) (u6 : Int32) (acc : Option (Int × Nat)), k + d = N → d < n → ha_M V mi (s_Md_best (s_Md_order m b) s) u6 acc → ∃ b' s' u6', f_X7_hear_L80 n (s_Md_best (s_Md_order m b) s) (iI vi) (iI mi) (iI w) u4 (iI N) u6 (iI k) K = K (s_Md_best (s_Md_order m b') s') (iI vi) (iI mi) (iI w) u4 (iI N) u6' (iI N) ∧ ha_M V mi (s_Md_best (s_Md_order m b') s') u6' (fo (ha_P V w (v_l V vi, mi)) k d acc) := by
  have hn := ok.1
  have hB : 0 < v_n V := by omega
  have o0 := ok.2.1 vi hvi
  intro d
  induction d with
  | zero =>
    intro n k b s u6 acc hk hd hM
    obtain ⟨n, rfl, -⟩ := fuel hd
    obtain rfl : k = N := by omega
    exact ⟨b, s, u6, by rw [f_X7_hear_L80, if_pos (by rw [iI_leN (by omega) (by omega)]; omega)], hM⟩
  | succ d ih =>
    intro n k b s u6 acc hk hd hM
    obtain ⟨n, rfl, hd2⟩ := fuel hd
    have z1 : ¬ iI (N : Int) ≤ iI (k : Int) := by rw [iI_leN (by omega) (by omega)]; omega
    obtain ⟨b2, e2, p2⟩ := m_isOrder (m := s_Md_best (s_Md_order m b) s) (V := V) v3 ok hB (k := k) (by omega)
    rw [show s_Md_order (s_Md_best (s_Md_order m b) s) b2 = s_Md_best (s_Md_order m b2) s from rfl] at e2
    rw [f_X7_hear_L80, if_neg z1, e2, Option.bind_some, fo]
    dsimp only
    rw [iI_s]
    by_cases q : ha_D (db (v_n V) (v_n V) k) (v_n V) = true
    rotate_left
    · rw [if_neg q, if_pos rfl, show ha_P V w (v_l V vi, mi) k acc = acc from by unfold ha_P; rw [if_neg q]]
      exact ih n (k + 1) b2 s u6 acc (by omega) (by omega) hM
    · rw [if_pos q, if_neg one0]
      have eh := m_hearsT (m := s_Md_best (s_Md_order m b2) s) (V := V) v3 ok w1 w2 m1 m2 hvi (f := db (v_n V) (v_n V) k) (fun v => db_lt hB _ _ _) p2
      rw [eh, Option.bind_some]
      have hb := ha_Tb ok w1 w2 (p := (v_l V vi, mi)) ⟨o0.2.2.2.2.2.2.1, o0.2.2.2.2.2.2.2⟩ ⟨m1, m2⟩ (f := db (v_n V) (v_n V) k) (fun v => db_lt hB _ _ _) (v_n V)
      have hp : ((v_l V vi, mi) : Int × Int).2 = mi := rfl
      rw [hp] at hb
      have put : ∀ s2 : Nat → Int32, (∀ v, v < 6 → s2 v = b2 v) → ha_P V w (v_l V vi, mi) k acc = some ((ha_T V w (v_l V vi, mi) (db (v_n V) (v_n V) k) (v_n V)).2, k) → ∃ b' s' u6', f_X7_hear_L80 n (s_Md_best (s_Md_order m b2) s2) (iI vi) (iI mi) (iI w) u4 (iI N) (iI ((ha_T V w (v_l V vi, mi) (db (v_n V) (v_n V) k) (v_n V)).2 - mi)) (iI ((k + 1 : Nat) : Int)) K = K (s_Md_best (s_Md_order m b') s') (iI vi) (iI mi) (iI w) u4 (iI N) u6' (iI N) ∧ ha_M V mi (s_Md_best (s_Md_order m b') s') u6' (fo (ha_P V w (v_l V vi, mi)) (k + 1) d (ha_P V w (v_l V vi, mi) k acc)) := by
        intro s2 hs2 hst
        rw [hst]
        exact ih n (k + 1) b2 s2 _ _ (by omega) (by omega) (Or.inr ⟨_, k, rfl, by omega, by omega, rfl, fun v hv2 => by show s2 v = _; rw [hs2 v (by omega)]; exact p2 v hv2⟩)
      obtain ⟨s2, hs2, e3⟩ := m_copyH (m := s_Md_order m b2) (iI vi) (iI mi) (iI w) u4 (iI N) (iI ((ha_T V w (v_l V vi, mi) (db (v_n V) (v_n V) k) (v_n V)).2 - mi)) (iI k) (fun m_39 b1_31 b2_32 b3_33 b4_34 b5_35 b6_36 b7_37 b9_38 => f_X7_hear_L80 n m_39 b1_31 b2_32 b3_33 b4_34 b5_35 b6_36 (b7_37 + (1 : Int32)) K) 6 100000 0 s (by omega) (by omega) (fun v hv => absurd hv (by omega))
      rw [zz] at e3
      rw [iI_s] at e3
      rcases hM with ⟨ha, hu⟩ | ⟨c, i, ha, c1, c2, hu, hbo⟩
      · rw [if_pos (show u6 < 0 by rw [hu]; decide), e3]
        exact put s2 hs2 (by unfold ha_P; rw [if_pos q, ha])
      · rw [if_neg (show ¬ u6 < 0 by rw [hu, show (0 : Int32) = iI 0 from rfl, iI_lt (by omega) (by omega) (by omega) (by omega)]; omega)]
        by_cases x : c ≤ (ha_T V w (v_l V vi, mi) (db (v_n V) (v_n V) k) (v_n V)).2
        · rw [if_pos (show u6 ≤ _ by rw [hu, iI_le (by omega) (by omega) (by omega) (by omega)]; omega)]
          rw [show ha_P V w (v_l V vi, mi) k acc = acc from by
            unfold ha_P; rw [if_pos q, ha]
            show (if _ < c then _ else some (c, i)) = _
            rw [if_neg (by omega)]]
          exact ih n (k + 1) b2 s u6 acc (by omega) (by omega) (Or.inr ⟨c, i, ha, c1, c2, hu, hbo⟩)
        · rw [if_neg (show ¬ u6 ≤ _ by rw [hu, iI_le (by omega) (by omega) (by omega) (by omega)]; omega), e3]
          exact put s2 hs2 (by
            unfold ha_P; rw [if_pos q, ha]
            show (if _ < c then _ else some (c, i)) = _
            rw [if_pos (by omega)])
theorem ha_ex : ∀ n, 0 < n → n ≤ 6 → ∃ i, i < n ^ n ∧ ha_D (db n n i) n = true := by
  intro n h1 h2
  match n, h1, h2 with
  | 1, _, _ => exact ⟨0, by decide, by decide⟩
  | 2, _, _ => exact ⟨1, by decide, by decide⟩
  | 3, _, _ => exact ⟨5, by decide, by decide⟩
  | 4, _, _ => exact ⟨27, by decide, by decide⟩
  | 5, _, _ => exact ⟨194, by decide, by decide⟩
  | 6, _, _ => exact ⟨1865, by decide, by decide⟩
theorem ha_some {V : nSV} {w : Int} {p : Int × Int} (hB : 0 < v_n V) (hn : v_n V ≤ 6) : ∃ c i, fo (ha_P V w p) 0 (v_n V ^ v_n V) none = some (c, i) := by
  obtain ⟨i, hi, hD⟩ := ha_ex (v_n V) hB hn
  have keep : ∀ d j c y, ∃ c' y', fo (ha_P V w p) j d (some (c, y)) = some (c', y') := by
    intro d
    induction d with
    | zero => intro j c y; exact ⟨c, y, rfl⟩
    | succ d ih =>
      intro j c y
      rw [fo]
      unfold ha_P
      split
      · show ∃ c' y', fo (ha_P V w p) (j + 1) d (if _ < c then _ else some (c, y)) = _
        split
        · exact ih _ _ _
        · exact ih _ _ _
      · exact ih _ _ _
  have one : ∀ acc, ∃ c y, ha_P V w p i acc = some (c, y) := by
    intro acc
    unfold ha_P
    rw [if_pos hD]
    rcases acc with _ | ⟨c, y⟩
    · exact ⟨_, _, rfl⟩
    · show ∃ c' y', (if _ < c then _ else some (c, y)) = _
      split
      · exact ⟨_, _, rfl⟩
      · exact ⟨_, _, rfl⟩
  rw [show v_n V ^ v_n V = i + ((v_n V ^ v_n V - i - 1) + 1) from by omega, fo_app, fo, Nat.zero_add]
  obtain ⟨c, y, e⟩ := one (fo (ha_P V w p) 0 i none)
  rw [e]
  exact keep _ _ _ _
theorem op_hear {c : nCs} {m : nMd} (h : Rel c m) (a1 a2 a3 a4 : Int32) : OK2 (f_X6_hear c a1 a2 a3 a4) (f_X7_hear m a1 a2 a3 a4) := by
  obtain ⟨a, a_1, a_2, rfl⟩ := iI_of a1
  obtain ⟨mi, b_1, b_2, rfl⟩ := iI_of a2
  obtain ⟨w, w_1, w_2, rfl⟩ := iI_of a3
  obtain ⟨k, k_1, k_2, rfl⟩ := iI_of a4
  obtain ⟨V, v1, v2, v3⟩ := h.1
  have hn := v1.1.1
  unfold f_X6_hear f_X7_hear
  rw [c_has v2 v1.1 a_1 a_2, m_isV v3 v1.1 a_1 a_2, c_isMinute b_1 b_2, i_0_59 b_1 b_2, w_1_9 w_1 w_2, i_1_9 w_1 w_2]
  simp only [Option.bind_some]
  by_cases q1 : 0 ≤ a ∧ a < v_n V
  rotate_left
  · simp only [if_neg q1, if_true]; exact ⟨_, _, _, rfl, rfl, h⟩
  by_cases q2 : 0 ≤ mi ∧ mi ≤ 59
  rotate_left
  · simp only [if_pos q1, if_neg q2, if_neg one0, if_true]; exact ⟨_, _, _, rfl, rfl, h⟩
  by_cases q3 : 1 ≤ w ∧ w ≤ 9
  rotate_left
  · simp only [if_pos q1, if_pos q2, if_neg q3, if_neg one0, if_true]; exact ⟨_, _, _, rfl, rfl, h⟩
  simp only [if_pos q1, if_pos q2, if_pos q3, if_neg one0]
  obtain ⟨vi, hvi, rfl⟩ := inV q1
  by_cases q4 : -1 ≤ k
  rotate_left
  · rw [if_neg (show ¬ (-1 : Int32) ≤ iI k by rw [show (-1 : Int32) = iI (-1) from rfl, iI_le (by omega) (by omega) (by omega) (by omega)]; exact q4), if_neg (show ¬ (-1 : Int32) ≤ iI k by rw [show (-1 : Int32) = iI (-1) from rfl, iI_le (by omega) (by omega) (by omega) (by omega)]; exact q4)]
    exact ⟨_, _, _, rfl, rfl, h⟩
  have z4 : (-1 : Int32) ≤ iI k := by rw [show (-1 : Int32) = iI (-1) from rfl, iI_le (by omega) (by omega) (by omega) (by omega)]; exact q4
  rw [if_pos z4, if_pos z4, v2.1]
  have hB : 0 < v_n V := by omega
  have hN : v_n V ^ v_n V < 100000 := by
    have h1 : v_n V ^ v_n V ≤ 6 ^ v_n V := Nat.pow_le_pow_left hn _
    have h2 : 6 ^ v_n V ≤ 6 ^ 6 := Nat.pow_le_pow_right (by omega) hn
    omega
  have k46 : ∀ (K : nMd → Int32 → Int32 → Int32 → Int32 → Int32 → Int32 → Option (Int32 × nMd)) (d n j : Nat), j + d = v_n V → d < n → f_X7_hear_L46 n m (iI vi) (iI mi) (iI w) (iI k) (iI ((v_n V ^ j : Nat) : Int)) (iI j) K = K m (iI vi) (iI mi) (iI w) (iI k) (iI ((v_n V ^ v_n V : Nat) : Int)) (iI (v_n V)) := by
    intro K d
    induction d with
    | zero =>
      intro n j hj hd
      obtain ⟨n, rfl, -⟩ := fuel hd
      obtain rfl : j = v_n V := by omega
      rw [f_X7_hear_L46, m_n v3, if_pos (by rw [iI_leN (by omega) (by omega)]; omega)]
    | succ d ih =>
      intro n j hj hd
      obtain ⟨n, rfl, hd2⟩ := fuel hd
      have z1 : ¬ iI ((v_n V : Nat) : Int) ≤ iI (j : Int) := by rw [iI_leN (by omega) (by omega)]; omega
      rw [f_X7_hear_L46, m_n v3, if_neg z1, iI_s, show iI ((v_n V ^ j : Nat) : Int) * iI (v_n V) = iI ((v_n V ^ (j + 1) : Nat) : Int) from by rw [iI_mul, Nat.pow_succ]; congr 1]
      exact ih n (j + 1) (by omega) (by omega)
  have e46 := k46 (fun m_18 b1_12 b2_13 b3_14 b4_15 b5_16 b6_17 => f_X7_hear_L80 100000 m_18 b1_12 b2_13 b3_14 b4_15 b5_16 (-1 : Int32) (0 : Int32) (fun m_57 b1_50 b2_51 b3_52 b4_53 b5_54 b6_55 b7_56 => if 0 ≤ b4_53 then if ((g_Md_now m_57) (0 : Int32).toNatClampNeg) ≤ b4_53 then some ((-4 : Int32), m_57) else nn_ix b4_53 6 (some ((g_Md_best m_57) b4_53.toNatClampNeg, m_57)) else some (b6_55, m_57))) (v_n V) 100000 0 (by omega) (by omega)
  rw [show iI ((v_n V ^ 0 : Nat) : Int) = (1 : Int32) from rfl, zz] at e46
  rw [e46]
  obtain ⟨b', s', u6, e80, hM⟩ := m_hear80 v3 v1.1 q3.1 q3.2 q2.1 q2.2 hvi hN (iI k) (fun m_57 b1_50 b2_51 b3_52 b4_53 b5_54 b6_55 b7_56 => if 0 ≤ b4_53 then if ((g_Md_now m_57) (0 : Int32).toNatClampNeg) ≤ b4_53 then some ((-4 : Int32), m_57) else nn_ix b4_53 6 (some ((g_Md_best m_57) b4_53.toNatClampNeg, m_57)) else some (b6_55, m_57)) (v_n V ^ v_n V) 100000 0 (g_Md_order m) (g_Md_best m) (iI (-1)) none (by omega) (by omega) (Or.inl ⟨rfl, rfl⟩)
  rw [zz, show s_Md_best (s_Md_order m (g_Md_order m)) (g_Md_best m) = m from rfl, show iI (-1) = (-1 : Int32) from rfl] at e80
  rw [e80]
  obtain ⟨ca, ec, hC⟩ := c_soonest v2 v1.1 q3.1 q3.2 q2.1 q2.2 hvi (g_Cs_ca c)
  obtain ⟨cc, ii, eacc⟩ := ha_some (V := V) (w := w) (p := (v_l V vi, mi)) hB hn
  rw [eacc] at hM hC
  rcases hM with ⟨hx, _⟩ | ⟨c1, i1, hx, d1, d2, hu, hbo⟩
  · cases hx
  cases hx
  rcases hC with ⟨hx, _⟩ | ⟨c1, i1, hx, d3, d4, hbt, hbo2⟩
  · cases hx
  cases hx
  have hsm : simM m (s_Md_best (s_Md_order m b') s') := ⟨fun _ _ => rfl, rfl, rfl, rfl, rfl, rfl, rfl, rfl, rfl, rfl, rfl⟩
  have hR0 : Rel c (s_Md_best (s_Md_order m b') s') := Rel_sim (simC_rf c) hsm h
  have hR : Rel (s_Cs_ca c ca) (s_Md_best (s_Md_order m b') s') := Rel_sim (c' := s_Cs_ca c ca) ⟨fun _ _ => rfl, fun _ => rfl, rfl, rfl, rfl⟩ hsm h
  have hnow : g_Md_now (s_Md_best (s_Md_order m b') s') (0 : Int32).toNatClampNeg = iI (v_n V) := v3.1
  rw [hnow, hu]
  by_cases q5 : k < v_n V
  rotate_left
  · rw [if_neg (show ¬ iI k < iI (v_n V) by rw [iI_lt (by omega) (by omega) (by omega) (by omega)]; exact q5), if_pos (show (0 : Int32) ≤ iI k by rw [show (0 : Int32) = iI 0 from rfl, iI_le (by omega) (by omega) (by omega) (by omega)]; omega), if_pos (show iI (v_n V) ≤ iI k by rw [iI_le (by omega) (by omega) (by omega) (by omega)]; omega)]
    exact ⟨_, _, _, rfl, rfl, hR0⟩
  rw [if_pos (show iI k < iI (v_n V) by rw [iI_lt (by omega) (by omega) (by omega) (by omega)]; exact q5), ec, Option.bind_some]
  dsimp only
  by_cases q6 : k = -1
  · rw [if_pos (show iI k = (-1 : Int32) by rw [q6]; rfl), if_neg (show ¬ (0 : Int32) ≤ iI k by rw [q6]; decide), hbt, iI_sub]
    exact ⟨_, _, _, rfl, rfl, hR⟩
  · obtain ⟨v, rfl⟩ : ∃ v : Nat, k = (v : Int) := ⟨k.toNat, by omega⟩
    rw [if_neg (show ¬ iI (v : Int) = (-1 : Int32) by rw [show (-1 : Int32) = iI (-1) from rfl, iI_eq (by omega) (by omega) (by omega) (by omega)]; exact q6), if_pos (show (0 : Int32) ≤ iI (v : Int) by rw [show (0 : Int32) = iI 0 from rfl, iI_le (by omega) (by omega) (by omega) (by omega)]; omega), if_neg (show ¬ iI (v_n V) ≤ iI (v : Int) by rw [iI_le (by omega) (by omega) (by omega) (by omega)]; omega), nn_ixN (by omega) (by omega), nn_ixN (by omega) (by omega), iI_cN (by omega)]
    refine ⟨_, _, _, rfl, ?_, hR⟩
    rw [show g_Md_best (s_Md_best (s_Md_order m b') s') v = iI ((db (v_n V) (v_n V) ii v : Nat) : Int) from hbo v (by omega), show g_Ca_bestOrder (g_Cs_ca (s_Cs_ca c ca)) v = iI ((db (v_n V) (v_n V) ii v : Nat) : Int) from hbo2 v (by omega)]
