/-! the valley as numbers, and the class's valley against it -/
abbrev nSV : Type := Nat × (Nat → Int) × (Nat → Int) × (Nat → Int) × (Nat → Int) × Int × Int
def v_n (V : nSV) : Nat := V.1
def v_k (V : nSV) : Nat → Int := V.2.1
def v_m (V : nSV) : Nat → Int := V.2.2.1
def v_d (V : nSV) : Nat → Int := V.2.2.2.1
def v_l (V : nSV) : Nat → Int := V.2.2.2.2.1
def v_y (V : nSV) : Int := V.2.2.2.2.2.1
def v_w (V : nSV) : Int := V.2.2.2.2.2.2
def okV (V : nSV) : Prop := v_n V ≤ 6 ∧ (∀ i, i < v_n V → 0 ≤ v_k V i ∧ v_k V i ≤ 4 ∧ 0 ≤ v_m V i ∧ v_m V i ≤ 59 ∧ -9 ≤ v_d V i ∧ v_d V i ≤ 9 ∧ 0 ≤ v_l V i ∧ v_l V i ≤ 40) ∧ 0 ≤ v_y V ∧ v_y V ≤ 20000 ∧ 0 ≤ v_w V ∧ v_w V < 2147483648
def rC (x : nVl) (V : nSV) : Prop := g_Vl_villages x = iI (v_n V) ∧ g_Vl_day x = iI (v_y V) ∧ g_Vl_draw x = iI (v_w V) ∧ ∀ i, i < v_n V → g_Vl_kinds x i = iI (v_k V i) ∧ g_Vl_minutes x i = iI (v_m V i) ∧ g_Vl_drifts x i = iI (v_d V i) ∧ g_Vl_miles x i = iI (v_l V i)
/-- d steps from j on -/
def fo {α : Type} (f : Nat → α → α) : Nat → Nat → α → α
  | _, 0, a => a
  | j, d + 1, a => fo f (j + 1) d (f j a)
def al (p : Nat → Bool) : Nat → Nat → Bool
  | _, 0 => true
  | j, d + 1 => p j && al p (j + 1) d
theorem iI_s (j : Nat) : iI (j : Int) + (1 : Int32) = iI ((j + 1 : Nat) : Int) := by
  rw [show (1 : Int32) = iI 1 from rfl, iI_add]; rfl
theorem iI_cN {j : Nat} (h : j < 2147483648) : (iI (j : Int)).toNatClampNeg = j := by rw [iI_clamp (by omega) (by omega)]; omega
theorem iI_leN {a b : Nat} (h1 : a < 2147483648) (h2 : b < 2147483648) : (iI (a : Int) ≤ iI (b : Int)) = (a ≤ b) := by
  rw [iI_le (by omega) (by omega) (by omega) (by omega)]; simp
theorem iI_ltN {a b : Nat} (h1 : a < 2147483648) (h2 : b < 2147483648) : (iI (a : Int) < iI (b : Int)) = (a < b) := by
  rw [iI_lt (by omega) (by omega) (by omega) (by omega)]; simp
theorem iI_eqN {a b : Nat} (h1 : a < 2147483648) (h2 : b < 2147483648) : (iI (a : Int) = iI (b : Int)) = (a = b) := by
  rw [iI_eq (by omega) (by omega) (by omega) (by omega)]; simp; omega
theorem nn_ixN {α : Type} {j n : Nat} {x : Option α} (h : j < n) (hn : n < 2147483648) : nn_ix (iI (j : Int)) n x = x := nn_ixo (by omega) (by omega) hn
theorem fuel {n d : Nat} (h : d < n) : ∃ k, n = k + 1 ∧ (0 < d → d - 1 < k) := ⟨n - 1, by omega, fun _ => by omega⟩
theorem c_has {x : nVl} {V : nSV} (h : rC x V) (ok : okV V) {a : Int} (h1 : -2147483648 ≤ a) (h2 : a < 2147483648) : f_X5_has x (iI a) = some (if 0 ≤ a ∧ a < v_n V then 1 else 0) := by
  have hn := ok.1
  unfold f_X5_has
  rw [h.1, show (a : Int) = a from rfl]
  simp (disch := omega) only [show (0 : Int32) = iI 0 from rfl, show (1 : Int32) = iI 1 from rfl, iI_lt, iI_le]
  by_cases h3 : 0 ≤ a <;> by_cases h4 : a < v_n V <;> simp [h3, h4, Int.not_lt.mpr, Int.not_le.mp] <;> omega
theorem c_hasBoth {x : nVl} {V : nSV} (h : rC x V) (ok : okV V) {a b : Int} (h1 : -2147483648 ≤ a) (h2 : a < 2147483648) (h3 : -2147483648 ≤ b) (h4 : b < 2147483648) : f_X5_hasBoth x (iI a) (iI b) = some (if (0 ≤ a ∧ a < v_n V) ∧ (0 ≤ b ∧ b < v_n V) ∧ a ≠ b then 1 else 0) := by
  unfold f_X5_hasBoth
  rw [c_has h ok h1 h2, Option.bind_some]
  by_cases h5 : 0 ≤ a ∧ a < v_n V
  · rw [if_pos h5, if_neg (by decide), c_has h ok h3 h4, Option.bind_some]
    by_cases h6 : 0 ≤ b ∧ b < v_n V
    · rw [if_pos h6, if_neg (by decide)]
      simp (disch := omega) only [iI_eq]
      by_cases h7 : a = b
      · rw [if_pos h7, if_neg (by omega)]
      · rw [if_neg h7, if_pos (by omega)]
    · rw [if_neg h6, if_pos rfl, if_neg (by omega)]
  · rw [if_neg h5, if_pos rfl, if_neg (by omega)]
theorem c_gapB {x : nVl} {V : nSV} (h : rC x V) (ok : okV V) {i j : Nat} (hi : i < v_n V) (hj : j < v_n V) : f_X5_gapBetween x (iI i) (iI j) = some (iI (gapI (v_m V i) (v_m V j))) := by
  have hn := ok.1
  have o1 := ok.2.1 i hi
  have o2 := ok.2.1 j hj
  unfold f_X5_gapBetween
  rw [nn_ixN (by omega) (by omega), nn_ixN (by omega) (by omega), iI_cN (by omega), iI_cN (by omega), (h.2.2.2 i hi).2.1, (h.2.2.2 j hj).2.1, c_shorter (by omega) (by omega) (by omega) (by omega)]
  rfl
def lgf (V : nSV) (i u : Nat) (a : Int) : Int := if gapI (v_m V i) (v_m V u) < a then gapI (v_m V i) (v_m V u) else a
theorem lgf_b (V : nSV) (i u : Nat) {a : Int} (h1 : 0 ≤ a) (h2 : a ≤ 30) : 0 ≤ lgf V i u a ∧ lgf V i u a ≤ 30 := by
  have := gapI_b (v_m V i) (v_m V u)
  unfold lgf; split <;> omega
theorem fo_lgf_b (V : nSV) (i : Nat) : ∀ (d j : Nat) (a : Int), 0 ≤ a → a ≤ 30 → 0 ≤ fo (lgf V i) j d a ∧ fo (lgf V i) j d a ≤ 30 := by
  intro d
  induction d with
  | zero => intro j a h1 h2; exact ⟨h1, h2⟩
  | succ d ih => intro j a h1 h2; exact ih (j + 1) _ (lgf_b V i j h1 h2).1 (lgf_b V i j h1 h2).2
theorem c_lg15 {x : nVl} {V : nSV} (h : rC x V) (ok : okV V) {i : Nat} (hi : i < v_n V) (K : Int32 → Int32 → Int32 → Option Int32) : ∀ (d n j : Nat) (a : Int), j + d = i → d < n → 0 ≤ a → a ≤ 30 → f_X5_leastGap_L15 x n (iI a) (iI i) (iI j) K = K (iI (fo (lgf V i) j d a)) (iI i) (iI i) := by
  have hn := ok.1
  intro d
  induction d with
  | zero =>
    intro n j a hj hd h1 h2
    obtain ⟨n, rfl, -⟩ := fuel hd
    rw [f_X5_leastGap_L15, if_pos (by rw [iI_leN (by omega) (by omega)]; omega)]
    obtain rfl : j = i := by omega
    rfl
  | succ d ih =>
    intro n j a hj hd h1 h2
    obtain ⟨n, rfl, hd2⟩ := fuel hd
    rw [f_X5_leastGap_L15, if_neg (by rw [iI_leN (by omega) (by omega)]; omega), c_gapB h ok hi (by omega), Option.bind_some]
    have hb := gapI_b (v_m V i) (v_m V j)
    rw [c_min (by omega) (by omega) (by omega) (by omega), Option.bind_some, iI_s]
    exact ih n (j + 1) _ (by omega) (by omega) (lgf_b V i j h1 h2).1 (lgf_b V i j h1 h2).2
def lgo (V : nSV) (i : Nat) (a : Int) : Int := fo (lgf V i) 0 i a
theorem lgo_b (V : nSV) (i : Nat) {a : Int} (h1 : 0 ≤ a) (h2 : a ≤ 30) : 0 ≤ lgo V i a ∧ lgo V i a ≤ 30 := fo_lgf_b V i i 0 a h1 h2
theorem c_lg5 {x : nVl} {V : nSV} (h : rC x V) (ok : okV V) (K : Int32 → Int32 → Option Int32) : ∀ (d n j : Nat) (a : Int), j + d = v_n V → d < n → 0 ≤ a → a ≤ 30 → f_X5_leastGap_L5 x n (iI a) (iI j) K = K (iI (fo (lgo V) j d a)) (iI (v_n V)) := by
  have hn := ok.1
  intro d
  induction d with
  | zero =>
    intro n j a hj hd h1 h2
    obtain ⟨n, rfl, -⟩ := fuel hd
    rw [f_X5_leastGap_L5, h.1, if_pos (by rw [iI_leN (by omega) (by omega)]; omega)]
    obtain rfl : j = v_n V := by omega
    rfl
  | succ d ih =>
    intro n j a hj hd h1 h2
    obtain ⟨n, rfl, hd2⟩ := fuel hd
    rw [f_X5_leastGap_L5, h.1, if_neg (by rw [iI_leN (by omega) (by omega)]; omega)]
    rw [show (0 : Int32) = iI ((0 : Nat) : Int) from rfl, c_lg15 h ok (by omega) _ j 100000 0 a (by omega) (by omega) h1 h2, iI_s]
    exact ih n (j + 1) _ (by omega) (by omega) (lgo_b V j h1 h2).1 (lgo_b V j h1 h2).2
/-- the least GAP -/
def LG (V : nSV) : Int := fo (lgo V) 0 (v_n V) 30
theorem fo_lgo_b (V : nSV) : ∀ (d j : Nat) (a : Int), 0 ≤ a → a ≤ 30 → 0 ≤ fo (lgo V) j d a ∧ fo (lgo V) j d a ≤ 30 := by
  intro d
  induction d with
  | zero => intro j a h1 h2; exact ⟨h1, h2⟩
  | succ d ih => intro j a h1 h2; exact ih (j + 1) _ (lgo_b V j h1 h2).1 (lgo_b V j h1 h2).2
theorem LG_b (V : nSV) : 0 ≤ LG V ∧ LG V ≤ 30 := fo_lgo_b V _ 0 30 (by omega) (by omega)
theorem c_leastGap {x : nVl} {V : nSV} (h : rC x V) (ok : okV V) : f_X5_leastGap x = some (iI (LG V)) := by
  have hn := ok.1
  unfold f_X5_leastGap
  rw [show (30 : Int32) = iI 30 from rfl, show (1 : Int32) = iI ((1 : Nat) : Int) from rfl]
  unfold LG
  by_cases h0 : v_n V = 0
  · rw [show (100000 : Nat) = 99999 + 1 from rfl, f_X5_leastGap_L5, h.1, if_pos (by rw [iI_leN (by omega) (by omega)]; omega), h0]; rfl
  · rw [c_lg5 h ok _ (v_n V - 1) 100000 1 30 (by omega) (by omega) (by omega) (by omega)]
    obtain ⟨n, hn1⟩ : ∃ n, v_n V = n + 1 := ⟨v_n V - 1, by omega⟩
    rw [hn1]; rfl
/-- with whom a village rings together -/
def rwf (V : nSV) (i u : Nat) (s : Int32) : Int32 := if u ≠ i ∧ v_m V u = v_m V i then s ||| ((1 : Int32) <<< (iI u &&& 31)) else s
def RW (V : nSV) (i : Nat) : Int32 := fo (rwf V i) 0 (v_n V) 0
theorem c_rw4 {x : nVl} {V : nSV} (h : rC x V) (ok : okV V) {i : Nat} (hi : i < v_n V) (K : Int32 → Int32 → Int32 → Option Int32) : ∀ (d n j : Nat) (a : Int32), j + d = v_n V → d < n → f_X5_ringersWith_L4 x n (iI i) a (iI j) K = K (iI i) (fo (rwf V i) j d a) (iI (v_n V)) := by
  have hn := ok.1
  intro d
  induction d with
  | zero =>
    intro n j a hj hd
    obtain ⟨n, rfl, -⟩ := fuel hd
    rw [f_X5_ringersWith_L4, h.1, if_pos (by rw [iI_leN (by omega) (by omega)]; omega)]
    obtain rfl : j = v_n V := by omega
    rfl
  | succ d ih =>
    intro n j a hj hd
    obtain ⟨n, rfl, hd2⟩ := fuel hd
    have hj2 : j < v_n V := by omega
    have o1 := ok.2.1 i hi
    have o2 := ok.2.1 j hj2
    rw [f_X5_ringersWith_L4, h.1, if_neg (by rw [iI_leN (by omega) (by omega)]; omega), iI_s]
    have e := ih n (j + 1) (rwf V i j a) (by omega) (by omega)
    rw [show fo (rwf V i) j (d + 1) a = fo (rwf V i) (j + 1) d (rwf V i j a) from rfl, ← e]
    by_cases h3 : j = i
    · rw [if_pos (by rw [h3]), rwf, if_neg (by omega)]
    · rw [if_neg (by rw [iI_eqN (by omega) (by omega)]; exact h3), nn_ixN (by omega) (by omega), nn_ixN (by omega) (by omega), iI_cN (by omega), iI_cN (by omega), (h.2.2.2 i hi).2.1, (h.2.2.2 j hj2).2.1]
      by_cases h4 : v_m V j = v_m V i
      · rw [if_pos (by rw [h4]), rwf, if_pos ⟨h3, h4⟩]
      · rw [if_neg (by rw [iI_eq (by omega) (by omega) (by omega) (by omega)]; exact h4), rwf, if_neg (fun q => h4 q.2)]
theorem c_ringersWith {x : nVl} {V : nSV} (h : rC x V) (ok : okV V) {i : Nat} (hi : i < v_n V) : f_X5_ringersWith x (iI i) = some (RW V i) := by
  have hn := ok.1
  unfold f_X5_ringersWith
  have e := c_rw4 h ok hi (fun b1_6 b2_7 b3_8 => some (b2_7)) (v_n V) 100000 0 0 (by omega) (by omega)
  exact e
def RS (V : nSV) : Int32 := fo (fun u s => s ||| RW V u) 0 (v_n V) 0
theorem c_ri4 {x : nVl} {V : nSV} (h : rC x V) (ok : okV V) (K : Int32 → Int32 → Option Int32) : ∀ (d n j : Nat) (a : Int32), j + d = v_n V → d < n → f_X5_ringers_L4 x n a (iI j) K = K (fo (fun u s => s ||| RW V u) j d a) (iI (v_n V)) := by
  have hn := ok.1
  intro d
  induction d with
  | zero =>
    intro n j a hj hd
    obtain ⟨n, rfl, -⟩ := fuel hd
    rw [f_X5_ringers_L4, h.1, if_pos (by rw [iI_leN (by omega) (by omega)]; omega)]
    obtain rfl : j = v_n V := by omega
    rfl
  | succ d ih =>
    intro n j a hj hd
    obtain ⟨n, rfl, hd2⟩ := fuel hd
    rw [f_X5_ringers_L4, h.1, if_neg (by rw [iI_leN (by omega) (by omega)]; omega), c_ringersWith h ok (by omega), Option.bind_some, iI_s]
    exact ih n (j + 1) _ (by omega) (by omega)
theorem c_ringers {x : nVl} {V : nSV} (h : rC x V) (ok : okV V) : f_X5_ringers x = some (RS V) := by
  have hn := ok.1
  unfold f_X5_ringers
  exact c_ri4 h ok (fun b1_4 b2_5 => some (b1_4)) (v_n V) 100000 0 0 (by omega) (by omega)
def smf (g : Nat → Int) (u : Nat) (s : Int) : Int := s + g u
theorem c_sumOf {fa : Nat → Int32} {g : Nat → Int} {x : nVl} {V : nSV} (h : rC x V) (ok : okV V) (hg : ∀ i, i < v_n V → fa i = iI (g i)) : f_X5_sumOf fa x = some (iI (fo (smf g) 0 (v_n V) 0)) := by
  have hn := ok.1
  have key : ∀ (K : Int32 → Int32 → Option Int32) (d n j : Nat) (a : Int), j + d = v_n V → d < n → f_X5_sumOf_L4 fa x n (iI a) (iI j) K = K (iI (fo (smf g) j d a)) (iI (v_n V)) := by
    intro K d
    induction d with
    | zero =>
      intro n j a hj hd
      obtain ⟨n, rfl, -⟩ := fuel hd
      rw [f_X5_sumOf_L4, h.1, if_pos (by rw [iI_leN (by omega) (by omega)]; omega)]
      obtain rfl : j = v_n V := by omega
      rfl
    | succ d ih =>
      intro n j a hj hd
      obtain ⟨n, rfl, hd2⟩ := fuel hd
      rw [f_X5_sumOf_L4, h.1, if_neg (by rw [iI_leN (by omega) (by omega)]; omega), nn_ixN (by omega) (by omega), iI_cN (by omega), hg j (by omega), iI_s, iI_add]
      exact ih n (j + 1) _ (by omega) (by omega)
  unfold f_X5_sumOf
  exact key (fun b2_3 b3_4 => some (b2_3)) (v_n V) 100000 0 0 (by omega) (by omega)
/-- minutes that are free -/
def frp (V : nSV) (t g : Int) (u : Nat) : Bool := decide (g ≤ gapI t (v_m V u))