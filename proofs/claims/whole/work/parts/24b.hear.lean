theorem or_tab : ∀ s, s < 64 → ∀ v, v < 6 → (iI ((s : Nat) : Int) ||| ((1 : Int32) <<< (iI ((v : Nat) : Int) &&& 31))) = iI ((s ||| 2 ^ v : Nat) : Int) := by decide +kernel
theorem or_lt {s v : Nat} (hs : s < 64) (hv : v < 6) : s ||| 2 ^ v < 64 := by
  have : 2 ^ v < 2 ^ 6 := Nat.pow_lt_pow_right (by omega) hv
  exact Nat.or_lt_two_pow (n := 6) hs this
theorem or_tb (s v u : Nat) : (s ||| 2 ^ v).testBit u = (s.testBit u || decide (v = u)) := by
  rw [Nat.testBit_or, Nat.testBit_two_pow]
def ha_B (V : nSV) (ca : nCa) (acc : Option (Int × Nat)) : Prop := (acc = none ∧ g_Ca_bestTime ca = iI 1000000) ∨ ∃ c i, acc = some (c, i) ∧ 0 ≤ c ∧ c < 1000000 ∧ g_Ca_bestTime ca = iI c ∧ ∀ v, v < v_n V → g_Ca_bestOrder ca v = iI ((db (v_n V) (v_n V) i v : Nat) : Int)
theorem c_rest {x : nVl} {V : nSV} (h : rC x V) (ok : okV V) {w : Int} (w1 : 1 ≤ w) (w2 : w ≤ 9) {p : Int × Int} (p1 : 0 ≤ p.1 ∧ p.1 ≤ 40) (p2 : 0 ≤ p.2 ∧ p.2 ≤ 59) (hB : 0 < v_n V) : ∀ (d f j k mk : Nat) (ca : nCa) (acc : Option (Int × Nat)), j + d = v_n V → d < f → ha_D (db (v_n V) j k) j = true → (∀ v, v < j → g_Ca_order ca v = iI ((db (v_n V) j k v : Nat) : Int)) → mk < 64 → (∀ u, u < 6 → mk.testBit u = ha_C (db (v_n V) j k) j u) → g_Ca_minutesAMile ca = iI w → ha_B V ca acc → (∀ c y, acc = some (c, y) → (ha_T V w p (db (v_n V) j k) j).2 < c) → ∃ ca', f_X0_hearRest f ca x (iI (ha_T V w p (db (v_n V) j k) j).1) (iI (ha_T V w p (db (v_n V) j k) j).2) (iI mk) (iI j) = some ca' ∧ (∀ v, v < j → g_Ca_order ca' v = g_Ca_order ca v) ∧ g_Ca_minutesAMile ca' = iI w ∧ ha_B V ca' (fo (ha_P V w p) (k * v_n V ^ d) (v_n V ^ d) acc) := by
  have hn := ok.1
  intro d
  induction d with
  | zero =>
    intro f j k mk ca acc hj hf hD hO hmk hbit hmin hBB hT
    obtain ⟨f, rfl, -⟩ := fuel hf
    obtain rfl : j = v_n V := by omega
    have z1 : ¬ iI ((v_n V : Nat) : Int) < iI ((v_n V : Nat) : Int) := by rw [iI_ltN (by omega) (by omega)]; omega
    have hb := ha_Tb ok w1 w2 p1 p2 (f := db (v_n V) (v_n V) k) (fun v => db_lt hB _ _ _) (v_n V)
    rw [f_X0_hearRest, f_X0_hearRest_o, h.1, if_neg z1, Option.bind_some, Nat.pow_zero, Nat.mul_one]
    refine ⟨_, rfl, fun v _ => rfl, hmin, Or.inr ⟨(ha_T V w p (db (v_n V) (v_n V) k) (v_n V)).2, k, ?_, by omega, by omega, rfl, fun v hv => ?_⟩⟩
    · show ha_P V w p k acc = _
      unfold ha_P
      rw [if_pos hD]
      rcases acc with _ | ⟨c, y⟩
      · rfl
      · show (if _ < c then _ else some (c, y)) = _
        rw [if_pos (hT c y rfl)]
    · show va_cpy (g_Ca_order ca) _ (0 : Int32).toNatClampNeg (0 : Int32).toNatClampNeg (6 : Int32).toNatClampNeg v = _
      rw [cpy6 (by omega)]
      exact hO v hv
  | succ d ih =>
    intro f j k mk ca acc hj hf hD hO hmk hbit hmin hBB hT
    obtain ⟨f, rfl, hf2⟩ := fuel hf
    have hjn : j < v_n V := by omega
    have z1 : iI (j : Int) < iI ((v_n V : Nat) : Int) := by rw [iI_ltN (by omega) (by omega)]; omega
    have hb := ha_Tb ok w1 w2 p1 p2 (f := db (v_n V) j k) (fun v => db_lt hB _ _ _) j
    rw [f_X0_hearRest, f_X0_hearRest_o, h.1, if_pos z1]
    have loop : ∀ (e n t : Nat) (ca1 : nCa) (acc1 : Option (Int × Nat)), t + e = v_n V → e < n → (∀ v, v < j → g_Ca_order ca1 v = g_Ca_order ca v) → g_Ca_minutesAMile ca1 = iI w → ha_B V ca1 acc1 → ∃ ca', f_X0_hearRest_L33 (f_X0_hearRest f) x n ca1 (iI (ha_T V w p (db (v_n V) j k) j).1) (iI (ha_T V w p (db (v_n V) j k) j).2) (iI mk) (iI j) (iI t) (fun ca_16 b2_11 b3_12 b4_13 b5_14 b6_15 => some (ca_16)) = some ca' ∧ (∀ v, v < j → g_Ca_order ca' v = g_Ca_order ca v) ∧ g_Ca_minutesAMile ca' = iI w ∧ ha_B V ca' (fo (ha_P V w p) ((v_n V * k + t) * v_n V ^ d) (e * v_n V ^ d) acc1) := by
      intro e
      induction e with
      | zero =>
        intro n t ca1 acc1 ht hd hs1 hm1 hB1
        obtain ⟨n, rfl, -⟩ := fuel hd
        obtain rfl : t = v_n V := by omega
        rw [f_X0_hearRest_L33, h.1, if_pos (by rw [iI_leN (by omega) (by omega)]; omega), Nat.zero_mul]
        exact ⟨ca1, rfl, hs1, hm1, hB1⟩
      | succ e ihe =>
        intro n t ca1 acc1 ht hd hs1 hm1 hB1
        obtain ⟨n, rfl, hd2⟩ := fuel hd
        have htn : t < v_n V := by omega
        have o := ok.2.1 t htn
        have z2 : ¬ iI ((v_n V : Nat) : Int) ≤ iI (t : Int) := by rw [iI_leN (by omega) (by omega)]; omega
        have esp : fo (ha_P V w p) ((v_n V * k + t) * v_n V ^ d) ((e + 1) * v_n V ^ d) acc1 = fo (ha_P V w p) ((v_n V * k + (t + 1)) * v_n V ^ d) (e * v_n V ^ d) (fo (ha_P V w p) ((v_n V * k + t) * v_n V ^ d) (v_n V ^ d) acc1) := by
          rw [show (e + 1) * v_n V ^ d = v_n V ^ d + e * v_n V ^ d from by rw [Nat.add_mul, Nat.one_mul, Nat.add_comm], fo_app, show (v_n V * k + (t + 1)) * v_n V ^ d = (v_n V * k + t) * v_n V ^ d + v_n V ^ d from by rw [show v_n V * k + (t + 1) = (v_n V * k + t) + 1 from rfl, Nat.add_mul (v_n V * k + t) 1, Nat.one_mul]]
        have hch : ∀ v, v < j → db (v_n V) (j + 1) (v_n V * k + t) v = db (v_n V) j k v := fun v hv => db_ch htn hv
        have hct : db (v_n V) (j + 1) (v_n V * k + t) j = t := db_ct htn
        have hDn : ha_D (db (v_n V) (j + 1) (v_n V * k + t)) (j + 1) = !ha_C (db (v_n V) j k) j t := by
          rw [ha_D, hct, ha_Dc j hch, hD, ha_Cc j t hch, Bool.true_and]
        rw [f_X0_hearRest_L33, h.1, if_neg z2, c_isIn hmk (by omega), Option.bind_some, iI_s, hbit t (by omega), esp]
        by_cases q : ha_C (db (v_n V) j k) j t = true
        · rw [if_pos q, if_neg one0, ha_no hB (show j + 1 + d = v_n V by omega) (by rw [hDn, q]; rfl)]
          exact ihe n (t + 1) ca1 acc1 (by omega) (by omega) hs1 hm1 hB1
        · rw [if_neg q, if_pos rfl, nn_ixN (by omega) (by omega), iI_cN (by omega), (h.2.2.2 t htn).2.2.2, iI_sub, c_abs (by omega) (by omega), Option.bind_some, hm1, iI_mul, iI_add]
          have hd0 := ha_db o.2.2.2.2.2.2.1 o.2.2.2.2.2.2.2 hb.1.1 hb.1.2
          have hm0 := ha_m hd0.1 hd0.2 w1 w2
          have eA : (ha_T V w p (db (v_n V) j k) j).2 + (if (0 : Int) ≤ v_l V t - (ha_T V w p (db (v_n V) j k) j).1 then v_l V t - (ha_T V w p (db (v_n V) j k) j).1 else -(v_l V t - (ha_T V w p (db (v_n V) j k) j).1)) * w = ha_A V w (ha_T V w p (db (v_n V) j k) j) t := rfl
          rw [eA]
          have bA : 0 ≤ ha_A V w (ha_T V w p (db (v_n V) j k) j) t ∧ ha_A V w (ha_T V w p (db (v_n V) j k) j) t ≤ 4000 := by unfold ha_A; omega
          have eT : ha_T V w p (db (v_n V) (j + 1) (v_n V * k + t)) (j + 1) = ha_S V w (ha_T V w p (db (v_n V) j k) j) t := by
            rw [ha_T, hct, ha_Tc V w p j hch]
          have eS1 : (ha_S V w (ha_T V w p (db (v_n V) j k) j) t).1 = v_l V t := rfl
          have eS2 : (ha_S V w (ha_T V w p (db (v_n V) j k) j) t).2 = ha_A V w (ha_T V w p (db (v_n V) j k) j) t + (v_m V t - ha_A V w (ha_T V w p (db (v_n V) j k) j) t) % 60 := rfl
          unfold f_X0_hearFirst_o
          rw [nn_ixN (by omega) (by omega), iI_cN (by omega), (h.2.2.2 t htn).2.1, iI_sub, c_round (by omega) (by omega), Option.bind_some, iI_add, ← eS2]
          have bS : 0 ≤ (ha_S V w (ha_T V w p (db (v_n V) j k) j) t).2 ∧ (ha_S V w (ha_T V w p (db (v_n V) j k) j) t).2 < 1000000 := by rw [eS2]; omega
          have go : (∀ c y, acc1 = some (c, y) → (ha_S V w (ha_T V w p (db (v_n V) j k) j) t).2 < c) → ∃ ca', ((nn_ix (iI (j : Int)) 6 (nn_ix (iI (t : Int)) 6 ((f_X0_hearRest f (s_Ca_order ca1 (upd (g_Ca_order ca1) (iI (j : Int)).toNatClampNeg (iI (t : Int)))) x (g_Vl_miles x t) (iI (ha_S V w (ha_T V w p (db (v_n V) j k) j) t).2) (iI (mk : Int) ||| ((1 : Int32) <<< (iI (t : Int) &&& 31))) (iI (j : Int) + (1 : Int32))).bind fun q_7 => some (q_7)))).bind fun q_9 => f_X0_hearRest_L33 (f_X0_hearRest f) x n q_9 (iI (ha_T V w p (db (v_n V) j k) j).1) (iI (ha_T V w p (db (v_n V) j k) j).2) (iI mk) (iI j) (iI ((t + 1 : Nat) : Int)) (fun ca_16 b2_11 b3_12 b4_13 b5_14 b6_15 => some (ca_16))) = some ca' ∧ (∀ v, v < j → g_Ca_order ca' v = g_Ca_order ca v) ∧ g_Ca_minutesAMile ca' = iI w ∧ ha_B V ca' (fo (ha_P V w p) ((v_n V * k + (t + 1)) * v_n V ^ d) (e * v_n V ^ d) (fo (ha_P V w p) ((v_n V * k + t) * v_n V ^ d) (v_n V ^ d) acc1)) := by
            intro hlt
            rw [nn_ixN (by omega) (by omega), nn_ixN (by omega) (by omega), iI_cN (by omega), (h.2.2.2 t htn).2.2.2, or_tab mk hmk t (by omega), iI_s]
            have r := ih f (j + 1) (v_n V * k + t) (mk ||| 2 ^ t) (s_Ca_order ca1 (upd (g_Ca_order ca1) j (iI (t : Int)))) acc1 (by omega) (by omega) (by rw [hDn, Bool.eq_false_iff.2 q]; rfl) (fun v hv => by
              show upd (g_Ca_order ca1) j (iI (t : Int)) v = _
              by_cases ev : v = j
              · subst ev; rw [pk_us, hct]
              · rw [pk_un ev, hch v (by omega), hs1 v (by omega), hO v (by omega)]) (or_lt hmk (by omega)) (fun u hu => by
              rw [or_tb, hbit u hu, ha_C, hct, ha_Cc j u hch]) hm1 hB1 (fun c y hc => by rw [eT]; exact hlt c y hc)
            obtain ⟨ca2, e2, r1, r2, r3⟩ := r
            rw [eT, eS1] at e2
            rw [e2, Option.bind_some, Option.bind_some]
            refine ihe n (t + 1) ca2 _ (by omega) (by omega) (fun v hv => ?_) r2 r3
            rw [r1 v (by omega)]
            show upd (g_Ca_order ca1) j (iI (t : Int)) v = _
            rw [pk_un (by omega)]
            exact hs1 v hv
          rcases hB1 with ⟨ha, hbt⟩ | ⟨c, i, ha, c1, c2, hbt, hbo⟩
          · rw [if_neg (by rw [hbt, iI_le (by omega) (by omega) (by omega) (by omega)]; omega)]
            exact go (fun c y hc => by rw [ha] at hc; cases hc)
          · by_cases q2 : c ≤ (ha_S V w (ha_T V w p (db (v_n V) j k) j) t).2
            · rw [if_pos (by rw [hbt, iI_le (by omega) (by omega) (by omega) (by omega)]; exact q2), Option.bind_some]
              rw [ha, ha_late ok w1 w2 p1 p2 hB (show j + 1 + d = v_n V by omega) (by rw [eT]; exact q2)]
              exact ihe n (t + 1) ca1 _ (by omega) (by omega) hs1 hm1 (Or.inr ⟨c, i, rfl, c1, c2, hbt, hbo⟩)
            · rw [if_neg (by rw [hbt, iI_le (by omega) (by omega) (by omega) (by omega)]; exact q2)]
              exact go (fun c' y hc => by rw [ha] at hc; cases hc; omega)
    obtain ⟨ca', e1, r1, r2, r3⟩ := loop (v_n V) 100000 0 ca acc (by omega) (by omega) (fun v _ => rfl) hmin hBB
    refine ⟨ca', e1, r1, r2, ?_⟩
    rw [show k * v_n V ^ (d + 1) = (v_n V * k + 0) * v_n V ^ d from by rw [Nat.pow_succ, Nat.add_zero, Nat.mul_comm (v_n V ^ d) (v_n V), ← Nat.mul_assoc, Nat.mul_comm k (v_n V)], show v_n V ^ (d + 1) = v_n V * v_n V ^ d from by rw [Nat.pow_succ, Nat.mul_comm]]
    exact r3
theorem c_soonest {x : nVl} {V : nSV} (h : rC x V) (ok : okV V) {w mi : Int} (w1 : 1 ≤ w) (w2 : w ≤ 9) (m1 : 0 ≤ mi) (m2 : mi ≤ 59) {vi : Nat} (hv : vi < v_n V) (ca : nCa) : ∃ ca', f_X0_soonest ca x (iI vi) (iI mi) (iI w) = some (g_Ca_bestTime ca' - iI mi, ca') ∧ ha_B V ca' (fo (ha_P V w (v_l V vi, mi)) 0 (v_n V ^ v_n V) none) := by
  have hn := ok.1
  have o := ok.2.1 vi hv
  unfold f_X0_soonest
  rw [nn_ixN (by omega) (by omega), iI_cN (by omega), (h.2.2.2 vi hv).2.2.2]
  obtain ⟨ca', e1, -, -, r3⟩ := c_rest h ok w1 w2 (p := (v_l V vi, mi)) ⟨o.2.2.2.2.2.2.1, o.2.2.2.2.2.2.2⟩ ⟨m1, m2⟩ (by omega) (v_n V) 10 0 0 0 (s_Ca_minutesAMile (s_Ca_bestTime ca (1000000 : Int32)) (iI w)) none (by omega) (by omega) rfl (fun v hv => absurd hv (by omega)) (by omega) (fun u _ => by rw [Nat.zero_testBit]; rfl) rfl (Or.inl ⟨rfl, rfl⟩) (fun c y hc => by cases hc)
  rw [Nat.zero_mul] at r3
  have e2 : f_X0_hearRest 10 (s_Ca_minutesAMile (s_Ca_bestTime ca (1000000 : Int32)) (iI w)) x (iI (v_l V vi)) (iI mi) (0 : Int32) (0 : Int32) = some ca' := e1
  rw [e2, Option.bind_some]
  exact ⟨ca', rfl, r3⟩
