def ps_K : nTa → nVl → Int32 → Int32 → Option (Int32 × nTa × nVl) := fun ta_13 x_14 b2_11 b3_12 => if (g_Ta_fault ta_13) = 0 then (f_X4_comingLetter ta_13).bind fun q_16 => if q_16.1 = 0 then some (g_Ta_fault q_16.2, q_16.2, x_14) else (f_X4_faultAt q_16.2 (g_Ta_place q_16.2)).bind fun q_19 => some (g_Ta_fault q_19, q_19, x_14) else some (g_Ta_fault ta_13, ta_13, x_14)
def ps_M : nMd → Int32 → Option (Int32 × nMd) := fun m_54 b1_53 => some (b1_53, m_54)
def ps_R (r : Nat → Int32) (V : nSV) : Prop := ∀ i, i < v_n V → r (4 * i) = iI (v_k V i) ∧ r (4 * i + 1) = iI (v_m V i) ∧ r (4 * i + 2) = iI (v_d V i) ∧ r (4 * i + 3) = iI (v_l V i)
theorem ps_R4 {r : Nat → Int32} {V : nSV} {n : Nat} (hn : v_n V = n) (h : ps_R r V) (k mn d l : Int) : ps_R (r4 r n k mn d l) (ADD V k mn d l) := by
  intro i hi
  have hi2 : i < v_n V + 1 := hi
  show r4 r n k mn d l (4 * i) = iI (if i = v_n V then k else v_k V i) ∧ r4 r n k mn d l (4 * i + 1) = iI (if i = v_n V then mn else v_m V i) ∧ r4 r n k mn d l (4 * i + 2) = iI (if i = v_n V then d else v_d V i) ∧ r4 r n k mn d l (4 * i + 3) = iI (if i = v_n V then l else v_l V i)
  unfold r4
  by_cases e : i = v_n V
  · rw [if_pos e, if_pos e, if_pos e, if_pos e]
    obtain rfl : i = n := by omega
    refine ⟨?_, ?_, ?_, ?_⟩
    · rw [pk_un (by omega), pk_un (by omega), pk_un (by omega), pk_us]
    · rw [pk_un (by omega), pk_un (by omega), pk_us]
    · rw [pk_un (by omega), pk_us]
    · rw [pk_us]
  · rw [if_neg e, if_neg e, if_neg e, if_neg e]
    have q := h i (by omega)
    refine ⟨?_, ?_, ?_, ?_⟩
    · rw [pk_un (by omega), pk_un (by omega), pk_un (by omega), pk_un (by omega)]; exact q.1
    · rw [pk_un (by omega), pk_un (by omega), pk_un (by omega), pk_un (by omega)]; exact q.2.1
    · rw [pk_un (by omega), pk_un (by omega), pk_un (by omega), pk_un (by omega)]; exact q.2.2.1
    · rw [pk_un (by omega), pk_un (by omega), pk_un (by omega), pk_un (by omega)]; exact q.2.2.2
theorem ps_KF (L : Nat → Int32) (t p : Nat) {q : Nat} (hq : q ≤ 60) (x : nVl) (a b : Int32) : ps_K (tz L t p (-20 - (q : Int))) x a b = some (iI (-20 - (q : Int)), tz L t p (-20 - (q : Int)), x) := by
  unfold ps_K
  rw [tz_f, if_neg (fz hq)]
theorem ps_KG {L : Nat → Int32} {Z : Nat → Int} {t : Nat} (hz : ps_ok Z t) (hL : ∀ i, i < t → L i = iI (Z i)) {p : Nat} (hp : p ≤ t) (x : nVl) (a b : Int32) : ps_K (tz L t p 0) x a b = if ps_h Z t p = 0 then some (iI 0, tz L t (ps_k Z t p) 0, x) else some (iI (-20 - (ps_k Z t p : Nat)), tz L t (ps_k Z t p) (-20 - (ps_k Z t p : Nat)), x) := by
  have hh := ps_hb hz p
  unfold ps_K
  rw [tz_f, if_pos i00, c_coming hz hL hp, Option.bind_some]
  dsimp only
  by_cases q : ps_h Z t p = 0
  · rw [if_pos (by rw [q]; rfl), if_pos q, tz_f]
  · rw [if_neg (by rw [show (0 : Int32) = iI 0 from rfl, iI_eq (by omega) (by omega) (by omega) (by omega)]; exact q), if_neg q, tz_p, c_fault0, Option.bind_some, tz_f]
def ps_end (m : nMd) (L : Nat → Int32) (Z : Nat → Int) (t n : Nat) (V : nSV) (cl : Option (Int32 × nTa × nVl)) (rf : Option (Int32 × nMd)) : Prop := (∃ (q p' : Nat) (x' : nVl) (nn : Int32) (mp : Nat) (fl : Int32) (r' : Nat → Int32), q ≤ t ∧ cl = some (iI (-20 - (q : Int)), tz L t p' (-20 - (q : Int)), x') ∧ rf = some (nn, mm m mp fl r') ∧ ((fl = 1 ∧ mp = q) ∨ (fl = 0 ∧ mp ≤ t ∧ ps_h Z t mp ≠ 0 ∧ ps_k Z t mp = q))) ∨ (∃ (p' : Nat) (x' : nVl) (V' : nSV) (r' : Nat → Int32) (mp : Nat), cl = some (iI 0, tz L t p' 0, x') ∧ rC x' V' ∧ okV V' ∧ n < v_n V' ∧ v_y V' = v_y V ∧ v_w V' = v_w V ∧ ps_R r' V' ∧ rf = some (iI (v_n V'), mm m mp 0 r') ∧ mp ≤ t ∧ ps_h Z t mp = 0)
/-- no , follows: the end of both -/
theorem j_fin {m : nMd} {L : Nat → Int32} {Z : Nat → Int} {t : Nat} (hz : ps_ok Z t) (hL : ∀ i, i < t → L i = iI (Z i)) {p pc n : Nat} (hp : p ≤ t) (hpc : pc = p ∨ pc = ps_k Z t p) {x : nVl} {V U : nSV} {r : Nat → Int32} (hx : rC x U) (ok : okV U) (hn : n < v_n U) (hy : v_y U = v_y V) (hw : v_w U = v_w V) (hr : ps_R r U) (a b : Int32) : ps_end m L Z t n V (ps_K (tz L t pc 0) x a b) (ps_M (mm m (ps_k Z t p) 0 r) (iI (v_n U))) := by
  have hb := ps_kb Z hp
  have e : ps_K (tz L t pc 0) x a b = if ps_h Z t p = 0 then some (iI 0, tz L t (ps_k Z t p) 0, x) else some (iI (-20 - (ps_k Z t p : Nat)), tz L t (ps_k Z t p) (-20 - (ps_k Z t p : Nat)), x) := by
    rcases hpc with rfl | rfl
    · exact ps_KG hz hL hp x a b
    · rw [ps_KG hz hL hb.2 x a b, ps_hk Z hp, ps_kk Z hp]
  rw [e]
  by_cases q : ps_h Z t p = 0
  · rw [if_pos q]
    exact Or.inr ⟨_, x, U, r, ps_k Z t p, rfl, hx, ok, hn, hy, hw, hr, rfl, hb.2, by rw [ps_hk Z hp]; exact q⟩
  · rw [if_neg q]
    exact Or.inl ⟨ps_k Z t p, _, x, iI (v_n U), ps_k Z t p, 0, r, hb.2, rfl, rfl, Or.inr ⟨rfl, hb.2, by rw [ps_hk Z hp]; exact q, ps_kk Z hp⟩⟩
theorem j_loop {m : nMd} {L : Nat → Int32} {Z : Nat → Int} {t : Nat} (hz : ps_ok Z t) (hL : ∀ i, i < t → L i = iI (Z i)) (hT : g_Md_typed m = iI t) (hA : ∀ i, i < t → g_Md_tape m i = iI (Z i)) : ∀ (d n p fA fB : Nat) (x : nVl) (V : nSV) (r : Nat → Int32), n + d = 5 → d + 1 < fA → d + 1 < fB → p ≤ t → rC x V → okV V → v_n V = n → ps_R r V → ps_end m L Z t n V (f_X4_readInto_L18 fA (tz L t p 0) x (1 : Int32) (iI ((n + 1 : Nat) : Int)) ps_K) (f_X7_villagesRead_J41 (mm m p 0 r) (iI n) (fun m u1 => f_X7_villagesRead_L2 fB m u1 ps_M) ps_M) := by
  have ht := hz.1
  intro d
  induction d with
  | zero =>
    intro n p fA fB x V r hn hfA hfB hp hx ok hv hr
    obtain ⟨fA, rfl⟩ : ∃ k, fA = k + 1 + 1 := ⟨fA - 2, by omega⟩
    obtain ⟨fB, rfl⟩ : ∃ k, fB = k + 1 := ⟨fB - 1, by omega⟩
    obtain rfl : n = 5 := by omega
    have z6 : ¬ (6 : Int32) < iI ((5 + 1 : Nat) : Int) := by decide
    have z7 : (6 : Int32) ≤ iI ((5 + 1 : Nat) : Int) := by decide
    have z0 : ¬ iI ((5 + 1 : Nat) : Int) = (0 : Int32) := by decide
    rw [f_X4_readInto_L18, if_neg one0, if_neg z6]
    rcases j_vill hz hL hT hA hp r (n := 5) (by omega) x (fun m u1 => f_X7_villagesRead_L2 (fB + 1) m u1 ps_M) ps_M with ⟨q, p', h1, h2, e1, e2⟩ | ⟨k, mn, dd, l, p', hk, hm, hd, hl, h2, e1, e2⟩
    · rw [e1, e2, Option.bind_some, if_pos z7, f_X4_readInto_L18, if_pos rfl, f_X7_villagesRead_L2, mm_f, if_neg one0]
      dsimp only
      rw [ps_KF L t p' (by omega)]
      exact Or.inl ⟨q, p', x, _, q, 1, r, h1, rfl, rfl, Or.inl ⟨rfl, rfl⟩⟩
    · obtain ⟨x', ex, hx'⟩ := c_build hx ok (by omega) k mn dd l
      have ok' := ADD_ok ok (by omega) hk hm hd hl
      have hb := ps_kb Z h2
      have hh := ps_hb hz p'
      rw [e1, e2, ex, Option.bind_some, Option.bind_some, if_pos z7, f_X4_readInto_L18, if_pos rfl, f_X7_villagesRead_L2, mm_f, if_pos rfl, if_neg z0, m_here hz hT hA h2, Option.bind_some]
      dsimp only
      by_cases q : ps_h Z t p' = 44
      · rw [if_pos (by rw [q]; rfl)]
        unfold f_X7_villagesRead_J22 f_X7_villagesRead_J38
        rw [if_neg (show ¬ iI ((5 + 1 : Nat) : Int) ≤ 0 by decide), if_pos z7, m_must0, Option.bind_some, m_F41, ps_KG hz hL h2, if_neg (by omega)]
        obtain ⟨fB, rfl⟩ : ∃ k, fB = k + 1 := ⟨fB - 1, by omega⟩
        rw [f_X7_villagesRead_L2, mm_f, if_neg one0]
        exact Or.inl ⟨ps_k Z t p', _, x', _, ps_k Z t p', 1, _, hb.2, rfl, rfl, Or.inl ⟨rfl, rfl⟩⟩
      · rw [if_neg (by rw [show (44 : Int32) = iI 44 from rfl, iI_eq (by omega) (by omega) (by omega) (by omega)]; exact q)]
        have ev : iI ((5 + 1 : Nat) : Int) = iI (v_n (ADD V k mn dd l)) := by
          show _ = iI ((v_n V + 1 : Nat) : Int)
          rw [hv]
        rw [ev]
        exact j_fin hz hL h2 (Or.inl rfl) hx' ok' (by show 5 < v_n V + 1; omega) rfl rfl (ps_R4 hv hr k mn dd l) _ _
  | succ d ih =>
    intro n p fA fB x V r hn hfA hfB hp hx ok hv hr
    obtain ⟨fA, rfl⟩ : ∃ k, fA = k + 1 + 1 := ⟨fA - 2, by omega⟩
    obtain ⟨fB, rfl⟩ : ∃ k, fB = k + 1 := ⟨fB - 1, by omega⟩
    have z6 : ¬ (6 : Int32) < iI ((n + 1 : Nat) : Int) := by rw [show (6 : Int32) = iI ((6 : Nat) : Int) from rfl, iI_ltN (by omega) (by omega)]; omega
    have z7 : ¬ (6 : Int32) ≤ iI ((n + 1 : Nat) : Int) := by rw [show (6 : Int32) = iI ((6 : Nat) : Int) from rfl, iI_leN (by omega) (by omega)]; omega
    have z0 : ¬ iI ((n + 1 : Nat) : Int) = (0 : Int32) := by rw [show (0 : Int32) = iI ((0 : Nat) : Int) from rfl, iI_eqN (by omega) (by omega)]; omega
    have z8 : ¬ iI ((n + 1 : Nat) : Int) ≤ (0 : Int32) := by rw [show (0 : Int32) = iI ((0 : Nat) : Int) from rfl, iI_leN (by omega) (by omega)]; omega
    rw [f_X4_readInto_L18, if_neg one0, if_neg z6]
    rcases j_vill hz hL hT hA hp r (n := n) (by omega) x (fun m u1 => f_X7_villagesRead_L2 (fB + 1) m u1 ps_M) ps_M with ⟨q, p', h1, h2, e1, e2⟩ | ⟨k, mn, dd, l, p', hk, hm, hd, hl, h2, e1, e2⟩
    · rw [e1, e2, Option.bind_some, if_neg z7]
      dsimp only
      rw [c_takesF L t p' (by omega), Option.bind_some, if_pos rfl, f_X4_readInto_L18, if_pos rfl, f_X7_villagesRead_L2, mm_f, if_neg one0, ps_KF L t p' (by omega)]
      exact Or.inl ⟨q, p', x, _, q, 1, r, h1, rfl, rfl, Or.inl ⟨rfl, rfl⟩⟩
    · obtain ⟨x', ex, hx'⟩ := c_build hx ok (by omega) k mn dd l
      have ok' := ADD_ok ok (by omega) hk hm hd hl
      have hb := ps_kb Z h2
      have hh := ps_hb hz p'
      have et : f_X4_takes (tz L t p' 0) (44 : Int32) = if ps_h Z t p' = 44 then some (1, tz L t (ps_k Z t p' + 1) 0) else some (0, tz L t (ps_k Z t p') 0) := c_takes0 hz hL h2 (a := 44) (by omega) (by omega)
      rw [e1, e2, ex, Option.bind_some, Option.bind_some, if_neg z7]
      dsimp only
      rw [et, f_X7_villagesRead_L2, mm_f, if_pos rfl, if_neg z0, m_here hz hT hA h2, Option.bind_some]
      dsimp only
      by_cases q : ps_h Z t p' = 44
      · obtain ⟨hq, -⟩ := ps_hi (Z := Z) (t := t) (p := p') (by omega)
        rw [if_pos q, Option.bind_some, if_neg one0, if_pos (show iI (ps_h Z t p') = (44 : Int32) by rw [q]; rfl)]
        unfold f_X7_villagesRead_J22 f_X7_villagesRead_J38
        rw [if_neg z8, if_neg z7, m_must1, Option.bind_some]
        dsimp only
        rw [iI_s]
        have := ih (n + 1) (ps_k Z t p' + 1) (fA + 1) fB x' (ADD V k mn dd l) (r4 r n k mn dd l) (by omega) (by omega) (by omega) (by omega) hx' ok' (by show v_n V + 1 = n + 1; omega) (ps_R4 hv hr k mn dd l)
        rcases this with h3 | ⟨p3, x3, V3, r3, mp, g1, g2, g3, g4, g5, g6, g7, g8, g9, g10⟩
        · exact Or.inl h3
        · exact Or.inr ⟨p3, x3, V3, r3, mp, g1, g2, g3, by omega, g5, g6, g7, g8, g9, g10⟩
      · rw [if_neg q, Option.bind_some, if_pos rfl, if_neg (show ¬ iI (ps_h Z t p') = (44 : Int32) by rw [show (44 : Int32) = iI 44 from rfl, iI_eq (by omega) (by omega) (by omega) (by omega)]; exact q), f_X4_readInto_L18, if_pos rfl]
        have ev : iI ((n + 1 : Nat) : Int) = iI (v_n (ADD V k mn dd l)) := by
          show _ = iI ((v_n V + 1 : Nat) : Int)
          rw [hv]
        rw [ev]
        exact j_fin hz hL h2 (Or.inr rfl) hx' ok' (by show n < v_n V + 1; omega) rfl rfl (ps_R4 hv hr k mn dd l) _ _
def pre (j : Nat) (V : nSV) : nSV := (j, v_k V, v_m V, v_d V, v_l V, v_y V, v_w V)
theorem pre_s (j : Nat) (V : nSV) : ADD (pre j V) (v_k V j) (v_m V j) (v_d V j) (v_l V j) = pre (j + 1) V := by
  unfold ADD pre
  have e : ∀ f : Nat → Int, (fun i => if i = j then f j else f i) = f := by
    intro f; funext i; split
    · rename_i h; rw [h]
    · rfl
  show (j + 1, (fun i => if i = j then v_k V j else v_k V i), (fun i => if i = j then v_m V j else v_m V i), (fun i => if i = j then v_d V j else v_d V i), (fun i => if i = j then v_l V j else v_l V i), v_y V, v_w V) = _
  rw [e, e, e, e]
theorem m_val74 {M : nMd} {V : nSV} (ok : okV V) (hr : ps_R (g_Md_read M) V) (K : nMd → Int32 → Int32 → Option (Int32 × nMd)) : ∀ (d n j : Nat) (w : Nat → Int32) (u : Int32), j + d = v_n V → d < n → rM w 0 (pre j V) → ∃ (w' : Nat → Int32) (u' : Int32), u' = (if d = 0 then u else 0) ∧ f_X7_valley_L74 n (s_Md_undos (s_Md_now M w) u) (iI (v_n V)) (iI j) K = K (s_Md_undos (s_Md_now M w') u') (iI (v_n V)) (iI (v_n V)) ∧ rM w' 0 (pre (v_n V) V) := by
  have hn := ok.1
  intro d
  induction d with
  | zero =>
    intro n j w u hj hd hw
    obtain ⟨n, rfl, -⟩ := fuel hd
    obtain rfl : j = v_n V := by omega
    exact ⟨w, u, by rw [if_pos rfl], by rw [f_X7_valley_L74, if_pos (by rw [iI_leN (by omega) (by omega)]; omega)], hw⟩
  | succ d ih =>
    intro n j w u hj hd hw
    obtain ⟨n, rfl, hd2⟩ := fuel hd
    have e0 : (4 : Int32) * iI (j : Int) = iI ((4 * j : Nat) : Int) := by rw [show (4 : Int32) = iI 4 from rfl, iI_mul]; congr 1
    have e1 : iI ((4 * j : Nat) : Int) + (1 : Int32) = iI ((4 * j + 1 : Nat) : Int) := iI_s _
    have e2 : iI ((4 * j : Nat) : Int) + (2 : Int32) = iI ((4 * j + 2 : Nat) : Int) := by rw [show (2 : Int32) = iI 2 from rfl, iI_add]; rfl
    have e3 : iI ((4 * j : Nat) : Int) + (3 : Int32) = iI ((4 * j + 3 : Nat) : Int) := by rw [show (3 : Int32) = iI 3 from rfl, iI_add]; rfl
    have q := hr j (by omega)
    have hM : rN (s_Md_undos (s_Md_now M w) u) (pre j V) := hw
    obtain ⟨w2, ew, hw2⟩ := m_comes hM (show j < 6 by omega) (v_k V j) (v_m V j) (v_d V j) (v_l V j)
    have zl : ¬ iI ((v_n V : Nat) : Int) ≤ iI (j : Int) := by rw [iI_leN (by omega) (by omega)]; omega
    rw [f_X7_valley_L74, if_neg zl, e0, e1, e2, e3, nn_ixN (by omega) (by omega), nn_ixN (by omega) (by omega), nn_ixN (by omega) (by omega), nn_ixN (by omega) (by omega), iI_cN (by omega), iI_cN (by omega), iI_cN (by omega), iI_cN (by omega)]
    rw [show g_Md_read (s_Md_undos (s_Md_now M w) u) = g_Md_read M from rfl, q.1, q.2.1, q.2.2.1, q.2.2.2, ew, Option.bind_some, iI_s, show s_Md_undos (s_Md_now (s_Md_undos (s_Md_now M w) u) w2) 0 = s_Md_undos (s_Md_now M w2) 0 from rfl]
    rw [pre_s] at hw2
    obtain ⟨w', u', h1, h2, h3⟩ := ih n (j + 1) w2 0 (by omega) (by omega) hw2
    refine ⟨w', u', ?_, h2, h3⟩
    rw [h1, ite_self, if_neg (Nat.succ_ne_zero d)]
theorem op_valley {c : nCs} {m : nMd} (h : Rel c m) : OK2 (f_X6_valley c) (f_X7_valley m) := by
  obtain ⟨V, v1, v2, v3⟩ := h.1
  obtain ⟨t, t1, t2, t3, t4⟩ := h.2.2.2.1
  have hn := v1.1.1
  obtain ⟨Z, hZ⟩ : ∃ Z : Nat → Int, ∀ i, i < t → 32 ≤ Z i ∧ Z i ≤ 126 ∧ g_Ta_letters (g_Cs_ta c) i = iI (Z i) ∧ g_Md_tape m i = iI (Z i) := by
    refine ⟨fun i => (g_Md_tape m i).toInt, fun i hi => ?_⟩
    obtain ⟨z, z1, z2, z3, z4⟩ := t4 i hi
    show 32 ≤ (g_Md_tape m i).toInt ∧ (g_Md_tape m i).toInt ≤ 126 ∧ g_Ta_letters (g_Cs_ta c) i = iI ((g_Md_tape m i).toInt) ∧ g_Md_tape m i = iI ((g_Md_tape m i).toInt)
    rw [z3, z4, iI_toInt (by omega) (by omega)]
    exact ⟨z1, z2, rfl, rfl⟩
  have hz : ps_ok Z t := ⟨t1, fun i hi => ⟨(hZ i hi).1, (hZ i hi).2.1⟩⟩
  have hL : ∀ i, i < t → g_Ta_letters (g_Cs_ta c) i = iI (Z i) := fun i hi => (hZ i hi).2.2.1
  have hA : ∀ i, i < t → g_Md_tape m i = iI (Z i) := fun i hi => (hZ i hi).2.2.2
  obtain ⟨x1, ex1, hx1⟩ := c_becomeLike (x := cV c 2) v2 v1.1
  obtain ⟨x0, ex0, hx0⟩ := c_clear hx1
  have okc : okV (clr V) := ⟨by show 0 ≤ 6; omega, fun i hi => absurd hi (Nat.not_lt_zero i), by show (0 : Int) ≤ 0; omega, by show (0 : Int) ≤ 20000; omega, v1.1.2.2.2.2.1, v1.1.2.2.2.2.2⟩
  have J := j_loop hz hL t3 hA 5 0 0 100000 99999 x0 (clr V) (g_Md_read m) rfl (by omega) (by omega) (Nat.zero_le t) hx0 okc rfl (fun i hi => absurd hi (Nat.not_lt_zero i))
  have etz : tz (g_Ta_letters (g_Cs_ta c)) t 0 0 = s_Ta_fault (s_Ta_place (g_Cs_ta c) (0 : Int32)) (0 : Int32) := by unfold tz; rw [← t2]; rfl
  have ecl : f_X4_readInto (g_Cs_ta (cVs c 2 x1)) (cV (cVs c 2 x1) 2) = f_X4_readInto_L18 100000 (tz (g_Ta_letters (g_Cs_ta c)) t 0 0) x0 (1 : Int32) (iI ((0 + 1 : Nat) : Int)) ps_K := by
    unfold f_X4_readInto
    rw [cV_s, ex0, Option.bind_some, etz]; rfl
  have erf : f_X7_villagesRead (s_Md_isFault (s_Md_place m (0 : Int32)) (0 : Int32)) = f_X7_villagesRead_J41 (mm m 0 0 (g_Md_read m)) (iI ((0 : Nat) : Int)) (fun m u1 => f_X7_villagesRead_L2 99999 m u1 ps_M) ps_M := by
    unfold f_X7_villagesRead
    rw [show (100000 : Nat) = 99999 + 1 from rfl, f_X7_villagesRead_L2, if_pos (show g_Md_isFault (s_Md_isFault (s_Md_place m (0 : Int32)) (0 : Int32)) = 0 from rfl), if_pos rfl]
    unfold f_X7_villagesRead_J22
    rw [if_pos (by decide)]; rfl
  unfold f_X6_valley f_X7_valley
  rw [ex1, Option.bind_some, ecl, erf]
  rcases J with ⟨q, p', x', nn, mp, fl, r', hq, e1, e2, e3⟩ | ⟨p', x', U, r', mp, e1, hx', okU, hnU, hyU, hwU, hrU, e2, hmp, hh0⟩
  · rw [e1, e2, Option.bind_some, Option.bind_some, Option.bind_some]
    dsimp only
    rw [if_neg (fz (by omega))]
    have fin : ∃ m', (if g_Md_isFault (mm m mp fl r') = 0 then (f_X7_here (mm m mp fl r')).bind fun q_18 => if q_18.1 = 0 then f_X7_valley_J35 q_18.2 nn (0 : Int32) else f_X7_valley_J30 q_18.2 nn else f_X7_valley_J30 (mm m mp fl r') nn) = some (iI (-20 - (q : Int)), m') ∧ m' = s_Md_typed (mm m q 1 r') 0 := by
      refine ⟨_, ?_, rfl⟩
      have f35 : f_X7_valley_J30 (mm m q fl r') nn = some (iI (-20 - (q : Int)), s_Md_typed (mm m q 1 r') 0) := by
        unfold f_X7_valley_J30 f_X7_valley_J35
        rw [nn_bo1, mm_sf, if_neg (show ¬ g_Md_isFault (s_Md_typed (mm m q 1 r') 0) = 0 from one0), show g_Md_place (s_Md_typed (mm m q 1 r') 0) = iI q from rfl, show (-20 : Int32) = iI (-20) from rfl, iI_sub]
      rw [mm_f]
      rcases e3 with ⟨rfl, rfl⟩ | ⟨rfl, h1, h2, h3⟩
      · rw [if_neg one0]; exact f35
      · have hh := ps_hb hz mp
        rw [if_pos rfl, m_here hz t3 hA h1, Option.bind_some]
        dsimp only
        rw [if_neg (by rw [show (0 : Int32) = iI 0 from rfl, iI_eq (by omega) (by omega) (by omega) (by omega)]; exact h2), h3]
        exact f35
    obtain ⟨m', e4, rfl⟩ := fin
    rw [e4]
    refine ⟨_, _, _, rfl, rfl, Rel_S h (fun w hw => ?_) (fun g => rfl) rfl ⟨fun j _ => rfl, rfl, rfl, rfl, rfl, rfl⟩ ⟨0, by omega, rfl, rfl, fun i hi => absurd hi (Nat.not_lt_zero i)⟩ (fun j hj => SHj_congr hj rfl rfl (fun _ _ => rfl) (h.2.2.2.2 j hj))⟩
    show cV (cVs (cVs c 2 x1) 2 x') w = cV c w
    rw [cV_n _ _ hw, cV_n _ _ hw]
  · rw [e1, e2, Option.bind_some, Option.bind_some, Option.bind_some]
    dsimp only
    rw [if_pos i00, mm_f, if_pos rfl, m_here hz t3 hA hmp, Option.bind_some]
    dsimp only
    rw [if_pos (by rw [hh0]; rfl)]
    have hyU0 : v_y U = 0 := hyU
    have hnU6 := okU.1
    have hwU0 : v_w U = v_w V := hwU
    -- the reference
    obtain ⟨w', u', hu', e74, hw'⟩ := m_val74 (M := s_Md_typed (mm m (ps_k Z t mp) 0 r') 0) okU hrU (fun m_17 b1_15 b2_16 => some (b1_15, m_17)) (v_n U) 100000 0 (upd (upd (g_Md_now m) 0 0) 1 0) (g_Md_undos m) (by omega) (by omega) (by
      refine ⟨?_, ?_, ?_, fun i hi => absurd hi (Nat.not_lt_zero i)⟩
      · rw [pk_un (by omega), pk_us]; rfl
      · rw [pk_us]; show (0 : Int32) = iI (v_y U); rw [hyU0]; rfl
      · rw [pk_un (by omega), pk_un (by omega)]; show _ = iI (v_w U); rw [hwU0]; exact v3.2.2.1)
    rw [if_neg (by omega)] at hu'
    have e35 : f_X7_valley_J35 (mm m (ps_k Z t mp) 0 r') (iI (v_n U)) (0 : Int32) = some (iI (v_n U), s_Md_undos (s_Md_now (s_Md_typed (mm m (ps_k Z t mp) 0 r') 0) w') u') := by
      unfold f_X7_valley_J35
      rw [nn_bo0, mm_sf, if_pos (show g_Md_isFault (s_Md_typed (mm m (ps_k Z t mp) 0 r') 0) = 0 from rfl), Option.bind_some]
      exact e74
    rw [e35]
    -- the class
    obtain ⟨x3, ex3, hx3⟩ := c_becomeLike (x := cV c 0) hx' okU
    have e5 : f_X5_becomeLike (cV (s_Cs_ta (cVs (s_Cs_ta (cVs c 2 x1) (tz (g_Ta_letters (g_Cs_ta c)) t p' 0)) 2 x') (s_Ta_length (g_Cs_ta (cVs (s_Cs_ta (cVs c 2 x1) (tz (g_Ta_letters (g_Cs_ta c)) t p' 0)) 2 x')) (0 : Int32))) 0) (cV (s_Cs_ta (cVs (s_Cs_ta (cVs c 2 x1) (tz (g_Ta_letters (g_Cs_ta c)) t p' 0)) 2 x') (s_Ta_length (g_Cs_ta (cVs (s_Cs_ta (cVs c 2 x1) (tz (g_Ta_letters (g_Cs_ta c)) t p' 0)) 2 x')) (0 : Int32))) 2) = some x3 := by
      show f_X5_becomeLike (cV (cVs (cVs c 2 x1) 2 x') 0) (cV (cVs (cVs c 2 x1) 2 x') 2) = some x3
      rw [cV_s, cV_n _ _ (by omega), cV_n _ _ (by omega)]; exact ex3
    rw [e5, Option.bind_some]
    obtain ⟨kn, hs, q1, q2, q3⟩ := h.2.1
    generalize hc5 : s_Cs_ta (cVs (s_Cs_ta (cVs c 2 x1) (tz (g_Ta_letters (g_Cs_ta c)) t p' 0)) 2 x') (s_Ta_length (g_Cs_ta (cVs (s_Cs_ta (cVs c 2 x1) (tz (g_Ta_letters (g_Cs_ta c)) t p' 0)) 2 x')) (0 : Int32)) = c5
    have k1 : ∀ w, w ≠ 2 → cV c5 w = cV c w := by
      intro w hw
      rw [← hc5]
      show cV (cVs (cVs c 2 x1) 2 x') w = cV c w
      rw [cV_n _ _ hw, cV_n _ _ hw]
    have k2 : ∀ g, cH c5 g = cH c g := fun g => by rw [← hc5]; rfl
    have k3 : g_Cs_im c5 = g_Cs_im c := by rw [← hc5]; rfl
    have k4 : g_Cs_sh c5 = g_Cs_sh c := by rw [← hc5]; rfl
    have k5 : g_Ta_length (g_Cs_ta c5) = iI ((0 : Nat) : Int) := by rw [← hc5]; rfl
    have HCc5 : ∀ (g kn : Nat) (hs : Nat → nSV), HC c g kn hs → HC (cVs c5 0 x3) g kn hs := by
      intro g kn hs hH
      obtain ⟨p, hp, e, qq⟩ := hH
      refine ⟨p, hp, (k2 g).trans e, fun k hk => ?_⟩
      rw [cV_n _ _ (by omega), k1 _ (by omega)]; exact qq k hk
    obtain ⟨c', ec, hc1, hc2, hc3⟩ := c_forget (cVs c5 0 x3) 0 kn hs (HCc5 0 kn hs q2) hs
    rw [ec, Option.bind_some, hc2 0, cV_s, hx3.1]
    refine ⟨_, c', _, rfl, rfl, ⟨U, ⟨okU, by omega⟩, ?_, hw'⟩, ⟨0, hs, ⟨by omega, fun k hk => absurd hk (by omega)⟩, hc1, ⟨hu', fun k hk => absurd hk (by omega)⟩⟩, ?_, ?_, ?_⟩
    · rw [hc2 0, cV_s]; exact hx3
    · rcases h.2.2.1 with i1 | ⟨i1, i2, U2, kn2, hs2, i3, i4, i5, i6, i7, i8⟩
      · exact Or.inl ⟨hc3.2.2.1.trans (k3.trans i1.1), i1.2⟩
      · refine Or.inr ⟨hc3.2.2.1.trans (k3.trans i1), i2, U2, kn2, hs2, i3, ?_, i5, i6, ?_, i8⟩
        · rw [hc2 1, cV_n _ _ (by omega), k1 1 (by omega)]; exact i4
        · exact HC_fr hc3 (by omega) (HCc5 1 kn2 hs2 i7)
    · have e : g_Cs_ta c' = g_Cs_ta c5 := hc3.2.2.2.2.2.1
      exact ⟨0, by omega, by rw [e]; exact k5, rfl, fun i hi => absurd hi (Nat.not_lt_zero i)⟩
    · intro j hj
      have e : g_Cs_sh c' = g_Cs_sh c := (show g_Cs_sh c' = g_Cs_sh c5 from hc3.2.2.2.2.2.2).trans k4
      rw [show cS c' j = cS c j from by unfold cS; rw [e]]
      exact SHj_congr hj rfl rfl (fun _ _ => rfl) (h.2.2.2.2 j hj)
