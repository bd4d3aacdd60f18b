theorem c_ringsLike {x y : nVl} {V U : nSV} (h : rC x V) (ok : okV V) (hu : rC y U) (oku : okV U) (hn2 : v_n U = v_n V) : f_X5_ringsLike x y = some (if al (fun u => decide (v_m V u = v_m U u)) 0 (v_n V) = true then 1 else 0) := by
  have hn := ok.1
  have key : ∀ (d n j : Nat), j + d = v_n V → d < n → f_X5_ringsLike_L2 x y n (iI j) (fun b2_5 => some ((1 : Int32))) = some (if al (fun u => decide (v_m V u = v_m U u)) j d = true then 1 else 0) := by
    intro d
    induction d with
    | zero =>
      intro n j hj hd
      obtain ⟨n, rfl, -⟩ := fuel hd
      rw [f_X5_ringsLike_L2, h.1, if_pos (by rw [iI_leN (by omega) (by omega)]; omega)]
      rfl
    | succ d ih =>
      intro n j hj hd
      obtain ⟨n, rfl, hd2⟩ := fuel hd
      have hj2 : j < v_n V := by omega
      have o2 := ok.2.1 j hj2
      have o3 := oku.2.1 j (by omega)
      rw [f_X5_ringsLike_L2, h.1, if_neg (by rw [iI_leN (by omega) (by omega)]; omega), nn_ixN (by omega) (by omega), nn_ixN (by omega) (by omega), iI_cN (by omega), (h.2.2.2 j hj2).2.1, (hu.2.2.2 j (by omega)).2.1, iI_s, ih n (j + 1) (by omega) (by omega)]
      rw [show al (fun u => decide (v_m V u = v_m U u)) j (d + 1) = (decide (v_m V j = v_m U j) && al (fun u => decide (v_m V u = v_m U u)) (j + 1) d) from rfl]
      simp (disch := omega) only [iI_eq]
      by_cases h5 : v_m V j = v_m U j
      · rw [if_pos h5, decide_eq_true h5]; rfl
      · rw [if_neg h5, decide_eq_false h5]; rfl
  unfold f_X5_ringsLike
  exact key (v_n V) 100000 0 (by omega) (by omega)
/-- hears none: no other one within 3 -/
def hrp (V : nSV) (i u : Nat) : Bool := decide (u = i) || decide (3 < gapI (v_m V i) (v_m V u))
def HR (V : nSV) (i : Nat) : Bool := al (hrp V i) 0 (v_n V)
theorem c_slow {x : nVl} {V : nSV} (h : rC x V) (ok : okV V) {i : Nat} (hi : i < v_n V) : f_X5_slowShift x (iI i) = some (iI ((v_d V i).tdiv 2)) := by
  have hn := ok.1
  have o1 := ok.2.1 i hi
  unfold f_X5_slowShift
  rw [nn_ixN (by omega) (by omega), iI_cN (by omega), (h.2.2.2 i hi).2.2.1, show (2 : Int32) = iI 2 from rfl, iI_div (by omega) (by omega) (by omega) (by omega)]
theorem c_hearer {x : nVl} {V : nSV} (h : rC x V) (ok : okV V) {i : Nat} (hi : i < v_n V) : f_X5_hearerShift x (iI i) = some (iI (if HR V i = true then v_d V i else 0)) := by
  have hn := ok.1
  have o1 := ok.2.1 i hi
  have key : ∀ (d n j : Nat), j + d = v_n V → d < n → f_X5_hearerShift_L2 x n (iI i) (iI j) (fun b1_8 b2_9 => nn_ix b1_8 6 (some ((g_Vl_drifts x) b1_8.toNatClampNeg))) = some (iI (if al (hrp V i) j d = true then v_d V i else 0)) := by
    intro d
    induction d with
    | zero =>
      intro n j hj hd
      obtain ⟨n, rfl, -⟩ := fuel hd
      rw [f_X5_hearerShift_L2, h.1, if_pos (by rw [iI_leN (by omega) (by omega)]; omega), nn_ixN (by omega) (by omega), iI_cN (by omega), (h.2.2.2 i hi).2.2.1]
      rfl
    | succ d ih =>
      intro n j hj hd
      obtain ⟨n, rfl, hd2⟩ := fuel hd
      have hj2 : j < v_n V := by omega
      have o2 := ok.2.1 j hj2
      have hb := gapI_b (v_m V i) (v_m V j)
      rw [f_X5_hearerShift_L2, h.1, if_neg (by rw [iI_leN (by omega) (by omega)]; omega), iI_s, ih n (j + 1) (by omega) (by omega)]
      rw [show al (hrp V i) j (d + 1) = (hrp V i j && al (hrp V i) (j + 1) d) from rfl]
      by_cases h3 : j = i
      · rw [if_pos (by rw [h3]), show hrp V i j = true from by simp [hrp, h3]]; rfl
      · rw [if_neg (by rw [iI_eqN (by omega) (by omega)]; exact h3), nn_ixN (by omega) (by omega), nn_ixN (by omega) (by omega), iI_cN (by omega), iI_cN (by omega), (h.2.2.2 i hi).2.1, (h.2.2.2 j hj2).2.1, c_shorter (by omega) (by omega) (by omega) (by omega), Option.bind_some, show (3 : Int32) = iI 3 from rfl]
        simp (disch := omega) only [iI_lt]
        by_cases h5 : 3 < gapI (v_m V i) (v_m V j)
        · rw [if_pos h5, show hrp V i j = true from by simp [hrp, h5]]; rfl
        · rw [if_neg h5, show hrp V i j = false from by simp [hrp, h3, h5]]; rfl
  unfold f_X5_hearerShift
  exact key (v_n V) 100000 0 (by omega) (by omega)
def bef (V : nSV) (i : Nat) : Nat := if i = 0 then v_n V - 1 else i - 1
def byB (V : nSV) (i : Nat) : Prop := bef V i ≠ i ∧ v_l V i - v_l V (bef V i) ≤ 10 ∧ v_l V (bef V i) - v_l V i ≤ 10
theorem c_by {x : nVl} {V : nSV} (h : rC x V) (ok : okV V) {i : Nat} (hi : i < v_n V) : (byB V i → f_X5_isByTheOneBefore x (iI i) = some 1) ∧ (¬ byB V i → f_X5_isByTheOneBefore x (iI i) = some 0) := by
  have hn := ok.1
  have o1 := ok.2.1 i hi
  have hbf : bef V i < v_n V := by unfold bef; split <;> omega
  have o2 := ok.2.1 _ hbf
  have key : f_X5_isByTheOneBefore x (iI i) = f_X5_isByTheOneBefore_J16 x (iI i) (iI (bef V i)) := by
    unfold f_X5_isByTheOneBefore bef
    by_cases h0 : i = 0
    · rw [if_pos (by rw [h0]; rfl), if_pos h0, h.1, show (1 : Int32) = iI 1 from rfl, iI_sub]
      congr 2; omega
    · rw [if_neg (by rw [show (0 : Int32) = iI ((0 : Nat) : Int) from rfl, iI_eqN (by omega) (by omega)]; exact h0), if_neg h0, show (1 : Int32) = iI 1 from rfl, iI_sub]
      congr 2; omega
  rw [key]
  unfold f_X5_isByTheOneBefore_J16
  by_cases h3 : bef V i = i
  · rw [if_pos (by rw [h3])]
    exact ⟨fun q => absurd h3 q.1, fun _ => rfl⟩
  · rw [if_neg (by rw [iI_eqN (by omega) (by omega)]; exact h3), nn_ixN (by omega) (by omega), nn_ixN (by omega) (by omega), iI_cN (by omega), iI_cN (by omega), (h.2.2.2 i hi).2.2.2, (h.2.2.2 _ hbf).2.2.2, iI_sub, c_abs (by omega) (by omega), Option.bind_some, show (10 : Int32) = iI 10 from rfl]
    rw [show (if iI 10 < iI (if 0 ≤ v_l V i - v_l V (bef V i) then v_l V i - v_l V (bef V i) else -(v_l V i - v_l V (bef V i))) then some (0 : Int32) else some 1) = if 10 < (if 0 ≤ v_l V i - v_l V (bef V i) then v_l V i - v_l V (bef V i) else -(v_l V i - v_l V (bef V i))) then some (0 : Int32) else some 1 from by
      have e := iI_lt (a := 10) (b := (if 0 ≤ v_l V i - v_l V (bef V i) then v_l V i - v_l V (bef V i) else -(v_l V i - v_l V (bef V i)))) (by omega) (by omega) (by split <;> omega) (by split <;> omega)
      simp only [e]]
    constructor
    · intro q
      rw [if_neg (by have := q.2; split <;> omega)]
    · intro q
      rw [if_pos]
      unfold byB at q
      split <;> omega
/-- by how many minutes a village is later -/
noncomputable def LT (V : nSV) (i : Nat) : Int := if v_k V i = 0 then v_d V i else if v_k V i = 1 then (v_d V i).tdiv 2 else if v_k V i = 2 then (if HR V i = true then v_d V i else 0) else if v_k V i = 3 then (if v_y V % 2 = 0 then (v_d V i).tdiv 2 else -(v_d V i).tdiv 2) else (if HR V i = true then v_d V i else 0) + @ite Int (byB V i) (Classical.propDecidable _) 1 0
theorem td2 {d : Int} (h1 : -9 ≤ d) (h2 : d ≤ 9) : -4 ≤ d.tdiv 2 ∧ d.tdiv 2 ≤ 4 := by
  by_cases h : 0 ≤ d
  · rw [Int.tdiv_eq_ediv_of_nonneg h]; omega
  · have h5 : d.tdiv 2 = -((-d) / 2) := by rw [← Int.tdiv_eq_ediv_of_nonneg (by omega), Int.neg_tdiv, Int.neg_neg]
    rw [h5]; omega
theorem LT_b {V : nSV} (ok : okV V) {i : Nat} (hi : i < v_n V) : -10 ≤ LT V i ∧ LT V i ≤ 10 := by
  have o1 := ok.2.1 i hi
  have t := td2 o1.2.2.2.2.1 o1.2.2.2.2.2.1
  unfold LT
  repeat' split
  all_goals omega
theorem c_later {x : nVl} {V : nSV} (h : rC x V) (ok : okV V) {i : Nat} (hi : i < v_n V) : f_X5_laterBy x (iI i) = some (iI (LT V i)) := by
  have hn := ok.1
  have o1 := ok.2.1 i hi
  have o4 := ok.2.2
  unfold f_X5_laterBy
  rw [nn_ixN (by omega) (by omega), nn_ixN (by omega) (by omega), iI_cN (by omega), (h.2.2.2 i hi).1, (h.2.2.2 i hi).2.2.1, h.2.1, c_slow h ok hi, c_hearer h ok hi]
  rw [show (4 : Int32) = iI 4 from rfl, show (3 : Int32) = iI 3 from rfl, show (2 : Int32) = iI 2 from rfl, show (1 : Int32) = iI 1 from rfl, show (0 : Int32) = iI 0 from rfl, iI_rem (by omega) (by omega) (by omega) (by omega)]
  simp (disch := omega) only [iI_eq, Option.bind_some, iI_neg, iI_add]
  unfold LT
  by_cases k0 : v_k V i = 0
  · rw [if_pos k0, if_pos k0]
  rw [if_neg k0, if_neg k0]
  by_cases k1 : v_k V i = 1
  · rw [if_pos k1, if_pos k1]
  rw [if_neg k1, if_neg k1]
  by_cases k2 : v_k V i = 2
  · rw [if_pos k2, if_pos k2]
  rw [if_neg k2, if_neg k2]
  by_cases k3 : v_k V i = 3
  · rw [if_pos k3, if_pos k3]
    split <;> rfl
  rw [if_neg k3, if_neg k3, if_pos (by omega)]
  by_cases hb : byB V i
  · rw [(c_by h ok hi).1 hb, Option.bind_some, if_neg (by decide), if_pos hb]
  · rw [(c_by h ok hi).2 hb, Option.bind_some, if_pos (by decide), if_neg hb]
/-- a day goes by -/
noncomputable def PD (V : nSV) : nSV := (v_n V, v_k V, fun i => (v_m V i + LT V i) % 60, v_d V, v_l V, v_y V + 1, v_w V)
theorem PD_ok {V : nSV} (ok : okV V) (h : v_y V < 20000) : okV (PD V) := by
  refine ⟨ok.1, fun i hi => ?_, ?_⟩
  · have o1 := ok.2.1 i hi
    have e : v_m (PD V) i = (v_m V i + LT V i) % 60 := rfl
    rw [e]
    refine ⟨o1.1, o1.2.1, by omega, by omega, o1.2.2.2.2.1, o1.2.2.2.2.2.1, o1.2.2.2.2.2.2.1, o1.2.2.2.2.2.2.2⟩
  · have o4 := ok.2.2
    have e : v_y (PD V) = v_y V + 1 := rfl
    have e2 : v_w (PD V) = v_w V := rfl
    rw [e, e2]; omega
theorem c_passDay {x : nVl} {V : nSV} (h : rC x V) (ok : okV V) : ∃ y, f_X5_passDay x = some y ∧ rC y (PD V) := by
  have hn := ok.1
  have o4 := ok.2.2
  -- the shifts
  have key1 : ∀ (K : nVl → Int32 → Option nVl) (d n j : Nat) (y : nVl), j + d = v_n V → d < n → rC y V → (∀ i, i < j → g_Vl_shifts y i = iI (LT V i)) → ∃ z, rC z V ∧ (∀ i, i < v_n V → g_Vl_shifts z i = iI (LT V i)) ∧ f_X5_passDay_L2 n y (iI j) K = K z (iI (v_n V)) := by
    intro K d
    induction d with
    | zero =>
      intro n j y hj hd hy hs
      obtain ⟨n, rfl, -⟩ := fuel hd
      obtain rfl : j = v_n V := by omega
      refine ⟨y, hy, hs, ?_⟩
      rw [f_X5_passDay_L2, hy.1, if_pos (by rw [iI_leN (by omega) (by omega)]; omega)]
    | succ d ih =>
      intro n j y hj hd hy hs
      obtain ⟨n, rfl, hd2⟩ := fuel hd
      have hj2 : j < v_n V := by omega
      rw [f_X5_passDay_L2, hy.1, if_neg (by rw [iI_leN (by omega) (by omega)]; omega), c_later hy ok hj2, Option.bind_some, nn_ixN (by omega) (by omega), iI_cN (by omega), iI_s]
      refine ih n (j + 1) _ (by omega) (by omega) hy (fun i hi => ?_)
      show upd (g_Vl_shifts y) j (iI (LT V j)) i = _
      by_cases hij : i = j
      · rw [hij, pk_us]
      · rw [pk_un hij, hs i (by omega)]
  have key2 : ∀ (K : nVl → Int32 → Option nVl) (d n j : Nat) (y : nVl), j + d = v_n V → d < n → (g_Vl_villages y = iI (v_n V) ∧ g_Vl_day y = iI (v_y V) ∧ g_Vl_draw y = iI (v_w V)) → (∀ i, i < v_n V → g_Vl_kinds y i = iI (v_k V i) ∧ g_Vl_drifts y i = iI (v_d V i) ∧ g_Vl_miles y i = iI (v_l V i) ∧ g_Vl_shifts y i = iI (LT V i)) → (∀ i, i < j → g_Vl_minutes y i = iI ((v_m V i + LT V i) % 60)) → (∀ i, j ≤ i → i < v_n V → g_Vl_minutes y i = iI (v_m V i)) → ∃ z, (g_Vl_villages z = iI (v_n V) ∧ g_Vl_day z = iI (v_y V) ∧ g_Vl_draw z = iI (v_w V)) ∧ (∀ i, i < v_n V → g_Vl_kinds z i = iI (v_k V i) ∧ g_Vl_drifts z i = iI (v_d V i) ∧ g_Vl_miles z i = iI (v_l V i)) ∧ (∀ i, i < v_n V → g_Vl_minutes z i = iI ((v_m V i + LT V i) % 60)) ∧ f_X5_passDay_L29 n y (iI j) K = K z (iI (v_n V)) := by
    intro K d
    induction d with
    | zero =>
      intro n j y hj hd h1 h2 h3 h4
      obtain ⟨n, rfl, -⟩ := fuel hd
      obtain rfl : j = v_n V := by omega
      refine ⟨y, h1, fun i hi => ⟨(h2 i hi).1, (h2 i hi).2.1, (h2 i hi).2.2.1⟩, h3, ?_⟩
      rw [f_X5_passDay_L29, h1.1, if_pos (by rw [iI_leN (by omega) (by omega)]; omega)]
    | succ d ih =>
      intro n j y hj hd h1 h2 h3 h4
      obtain ⟨n, rfl, hd2⟩ := fuel hd
      have hj2 : j < v_n V := by omega
      have o1 := ok.2.1 j hj2
      have lb := LT_b ok hj2
      rw [f_X5_passDay_L29, h1.1, if_neg (by rw [iI_leN (by omega) (by omega)]; omega), nn_ixN (by omega) (by omega), nn_ixN (by omega) (by omega), iI_cN (by omega), h4 j (by omega) hj2, (h2 j hj2).2.2.2, iI_add, c_round (by omega) (by omega), Option.bind_some, nn_ixN (by omega) (by omega), iI_s]
      refine ih n (j + 1) _ (by omega) (by omega) h1 h2 (fun i hi => ?_) (fun i hi hi2 => ?_)
      · show upd (g_Vl_minutes y) j _ i = _
        by_cases hij : i = j
        · rw [hij, pk_us]
        · rw [pk_un hij, h3 i (by omega)]
      · show upd (g_Vl_minutes y) j _ i = _
        rw [pk_un (by omega), h4 i (by omega) hi2]
  unfold f_X5_passDay
  obtain ⟨z, hz, hs, e⟩ := key1 (fun x_6 b1_5 => f_X5_passDay_L29 100000 x_6 (0 : Int32) (fun x_14 b1_13 => some ((s_Vl_day x_14 ((g_Vl_day x_14) + (1 : Int32)))))) (v_n V) 100000 0 x (by omega) (by omega) h (fun i hi => absurd hi (by omega))
  obtain ⟨y, y1, y2, y3, e2⟩ := key2 (fun x_14 b1_13 => some ((s_Vl_day x_14 ((g_Vl_day x_14) + (1 : Int32))))) (v_n V) 100000 0 z (by omega) (by omega) ⟨hz.1, hz.2.1, hz.2.2.1⟩ (fun i hi => ⟨(hz.2.2.2 i hi).1, (hz.2.2.2 i hi).2.2.1, (hz.2.2.2 i hi).2.2.2, hs i hi⟩) (fun i hi => absurd hi (by omega)) (fun i _ hi => (hz.2.2.2 i hi).2.1)
  refine ⟨s_Vl_day y ((g_Vl_day y) + (1 : Int32)), e.trans e2, ?_⟩
  refine ⟨y1.1, ?_, y1.2.2, fun i hi => ⟨(y2 i hi).1, y3 i hi, (y2 i hi).2.1, (y2 i hi).2.2⟩⟩
  show g_Vl_day y + 1 = iI (v_y V + 1)
  rw [y1.2.1, show (1 : Int32) = iI 1 from rfl, iI_add]
/-- behind days -/
noncomputable def PDn : Nat → nSV → nSV
  | 0, V => V
  | n + 1, V => PDn n (PD V)
theorem PDn_s (n : Nat) : ∀ V : nSV, PDn (n + 1) V = PD (PDn n V) := by
  induction n with
  | zero => intro V; rfl
  | succ n ih => intro V; exact ih (PD V)
theorem PDn_y (n : Nat) : ∀ V : nSV, v_y (PDn n V) = v_y V + n := by
  induction n with
  | zero => intro V; simp [PDn]
  | succ n ih => intro V; rw [PDn, ih]; show v_y V + 1 + n = _; omega
theorem PDn_n (n : Nat) : ∀ V : nSV, v_n (PDn n V) = v_n V := by
  induction n with
  | zero => intro V; rfl
  | succ n ih => intro V; rw [PDn, ih]; rfl
theorem PDn_ok (n : Nat) : ∀ V : nSV, okV V → v_y V + n ≤ 20000 → okV (PDn n V) := by
  induction n with
  | zero => intro V h _; exact h
  | succ n ih => intro V h h2; exact ih _ (PD_ok h (by omega)) (by show v_y V + 1 + n ≤ _; omega)
/-- the first day, of d from now on, on which two ring together; d: none -/
noncomputable def TG : Nat → nSV → Nat
  | 0, _ => 0
  | d + 1, V => if RS V = 0 then TG d (PD V) + 1 else 0
theorem TG_le : ∀ (d : Nat) (V : nSV), TG d V ≤ d := by
  intro d
  induction d with
  | zero => intro V; exact Nat.le_refl _
  | succ d ih => intro V; rw [TG]; split
                 · have := ih (PD V); omega
                 · omega
theorem c_until {x : nVl} {V : nSV} (h : rC x V) (ok : okV V) (hy : v_y V ≤ 19900) : ∃ y, f_X5_passDaysUntilTogether x = some (iI (TG 61 V), y) ∧ rC y (PDn (TG 61 V) V) := by
  have key : ∀ (d n j : Nat) (x : nVl) (V : nSV), j + d = 61 → d < n → rC x V → okV V → v_y V + d ≤ 20000 → ∃ y, f_X5_passDaysUntilTogether_L2 n x (iI j) (fun x_8 b1_7 => some ((61 : Int32), x_8)) = some (iI ((j + TG d V : Nat) : Int), y) ∧ rC y (PDn (TG d V) V) := by
    intro d
    induction d with
    | zero =>
      intro n j x V hj hd h ok hy
      obtain ⟨n, rfl, -⟩ := fuel hd
      refine ⟨x, ?_, h⟩
      rw [f_X5_passDaysUntilTogether_L2, show (60 : Int32) = iI ((60 : Nat) : Int) from rfl, if_pos (by rw [iI_ltN (by omega) (by omega)]; omega)]
      obtain rfl : j = 61 := by omega
      rfl
    | succ d ih =>
      intro n j x V hj hd h ok hy
      obtain ⟨n, rfl, hd2⟩ := fuel hd
      rw [f_X5_passDaysUntilTogether_L2, show (60 : Int32) = iI ((60 : Nat) : Int) from rfl, if_neg (by rw [iI_ltN (by omega) (by omega)]; omega), c_ringers h ok, Option.bind_some, TG]
      by_cases h0 : RS V = 0
      · rw [if_pos h0, if_pos h0]
        obtain ⟨y, e, hy2⟩ := c_passDay h ok
        rw [e, Option.bind_some, iI_s]
        obtain ⟨z, e3, hz⟩ := ih n (j + 1) y (PD V) (by omega) (by omega) hy2 (PD_ok ok (by omega)) (by show v_y V + 1 + d ≤ _; omega)
        refine ⟨z, ?_, hz⟩
        rw [e3, show j + 1 + TG d (PD V) = j + (TG d (PD V) + 1) from by omega]
      · rw [if_neg h0, if_neg h0]
        exact ⟨x, rfl, h⟩
  unfold f_X5_passDaysUntilTogether
  obtain ⟨y, e, hy⟩ := key 61 100000 0 x V (by omega) (by omega) h ok (by omega)
  refine ⟨y, ?_, hy⟩
  rw [show (0 : Nat) + TG 61 V = TG 61 V from by omega] at e
  exact e
theorem cpy6 {f g : Nat → Int32} {i : Nat} (h : i < 6) : va_cpy f g (0 : Int32).toNatClampNeg (0 : Int32).toNatClampNeg (6 : Int32).toNatClampNeg i = f i := by
  show va_cpy f g 0 0 6 i = f i
  rw [pk_cpy_in (by omega) (by omega)]
  congr 1; omega
theorem c_becomeLike {x y : nVl} {V : nSV} (h : rC y V) (ok : okV V) : ∃ z, f_X5_becomeLike x y = some z ∧ rC z V := by
  have hn := ok.1
  refine ⟨_, rfl, h.1, h.2.1, h.2.2.1, fun i hi => ?_⟩
  have h4 := h.2.2.2 i hi
  exact ⟨(cpy6 (by omega)).trans h4.1, (cpy6 (by omega)).trans h4.2.1, (cpy6 (by omega)).trans h4.2.2.1, (cpy6 (by omega)).trans h4.2.2.2⟩
def clr (V : nSV) : nSV := (0, v_k V, v_m V, v_d V, v_l V, 0, v_w V)
theorem c_clear {x : nVl} {V : nSV} (h : rC x V) : ∃ z, f_X5_clear x = some z ∧ rC z (clr V) := ⟨_, rfl, rfl, rfl, h.2.2.1, fun i hi => absurd hi (Nat.not_lt_zero i)⟩
/-- one village more -/
def ADD (V : nSV) (k t d l : Int) : nSV := (v_n V + 1, fun i => if i = v_n V then k else v_k V i, fun i => if i = v_n V then t else v_m V i, fun i => if i = v_n V then d else v_d V i, fun i => if i = v_n V then l else v_l V i, v_y V, v_w V)
theorem ADD_ok {V : nSV} (ok : okV V) (hn : v_n V < 6) {k t d l : Int} (hk : 0 ≤ k ∧ k ≤ 4) (ht : 0 ≤ t ∧ t ≤ 59) (hd : -9 ≤ d ∧ d ≤ 9) (hl : 0 ≤ l ∧ l ≤ 40) : okV (ADD V k t d l) := by
  refine ⟨by show v_n V + 1 ≤ 6; omega, fun i hi => ?_, ok.2.2⟩
  have hi2 : i < v_n V + 1 := hi
  show 0 ≤ (if i = v_n V then k else v_k V i) ∧ (if i = v_n V then k else v_k V i) ≤ 4 ∧ 0 ≤ (if i = v_n V then t else v_m V i) ∧ (if i = v_n V then t else v_m V i) ≤ 59 ∧ -9 ≤ (if i = v_n V then d else v_d V i) ∧ (if i = v_n V then d else v_d V i) ≤ 9 ∧ 0 ≤ (if i = v_n V then l else v_l V i) ∧ (if i = v_n V then l else v_l V i) ≤ 40
  by_cases h : i = v_n V
  · simp only [if_pos h]; omega
  · simp only [if_neg h]; exact ok.2.1 i (by omega)
theorem c_build {x : nVl} {V : nSV} (h : rC x V) (ok : okV V) (hn : v_n V < 6) (k t d l : Int) : ∃ z, f_X5_build x (iI k) (iI t) (iI d) (iI l) = some z ∧ rC z (ADD V k t d l) := by
  unfold f_X5_build
  rw [h.1, show (6 : Int32) = iI ((6 : Nat) : Int) from rfl, if_neg (by rw [iI_leN (by omega) (by omega)]; omega)]
  simp only [Option.bind_some, gsVl, h.1]
  repeat rw [nn_ixN (by omega) (by omega)]
  simp only [iI_cN (show v_n V < 2147483648 by omega)]
  refine ⟨_, rfl, ?_⟩
  refine ⟨?_, ?_, ?_, fun i hi => ?_⟩
  · simp only [gsVl]; rw [iI_s]; rfl
  · simp only [gsVl]; exact h.2.1
  · simp only [gsVl]; exact h.2.2.1
  · have hi2 : i < v_n V + 1 := hi
    simp only [gsVl]
    show _ = iI (if i = v_n V then k else v_k V i) ∧ _ = iI (if i = v_n V then t else v_m V i) ∧ _ = iI (if i = v_n V then d else v_d V i) ∧ _ = iI (if i = v_n V then l else v_l V i)
    by_cases hi3 : i = v_n V
    · subst hi3; simp only [pk_us, if_pos]; exact ⟨trivial, trivial, trivial, trivial⟩
    · rw [pk_un hi3, pk_un hi3, pk_un hi3, pk_un hi3, if_neg hi3, if_neg hi3, if_neg hi3, if_neg hi3]
      exact h.2.2.2 i (by omega)
