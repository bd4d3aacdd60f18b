theorem al_iff (p : Nat → Bool) : ∀ d j, al p j d = true ↔ ∀ i, j ≤ i → i < j + d → p i = true := by
  intro d
  induction d with
  | zero => intro j; exact ⟨fun _ i h1 h2 => absurd h2 (by omega), fun _ => rfl⟩
  | succ d ih =>
    intro j
    rw [al, Bool.and_eq_true, ih]
    constructor
    · rintro ⟨h1, h2⟩ i h3 h4
      by_cases e : i = j
      · subst e; exact h1
      · exact h2 i (by omega) (by omega)
    · intro hh
      exact ⟨hh j (by omega) (by omega), fun i h3 h4 => hh i (by omega) (by omega)⟩
def dg : Nat → Nat → Nat → Nat
  | 0, _, _ => 0
  | n + 1, k, v => if v = n then k % 5 else dg n (k / 5) v
def ab (t : Nat) : Nat := if t < 2 then 2 - t else t - 2
def cs : Nat → Nat → Nat
  | 0, _ => 0
  | n + 1, k => cs n (k / 5) + ab (k % 5)
theorem dg_lt : ∀ n k v, dg n k v < 5 := by
  intro n
  induction n with
  | zero => intro k v; show 0 < 5; omega
  | succ n ih => intro k v; rw [dg]; split
                 · exact Nat.mod_lt _ (by omega)
                 · exact ih _ _
theorem ab_le (t : Nat) : ab (t % 5) ≤ 2 := by unfold ab; split <;> omega
theorem five_div (A d r : Nat) : (A * 5 ^ (d + 1) + r) / 5 = A * 5 ^ d + r / 5 := by
  rw [Nat.pow_succ, ← Nat.mul_assoc]; generalize A * 5 ^ d = B; omega
theorem dg_blk : ∀ d j k r v, v < j → r < 5 ^ d → dg (j + d) (k * 5 ^ d + r) v = dg j k v := by
  intro d
  induction d with
  | zero => intro j k r v hv hr; rw [Nat.pow_zero] at hr ⊢; rw [show k * 1 + r = k from by omega]; rfl
  | succ d ih =>
    intro j k r v hv hr
    rw [Nat.pow_succ] at hr
    rw [show j + (d + 1) = (j + d) + 1 from rfl, dg, if_neg (by omega), five_div]
    exact ih j k (r / 5) v hv (by omega)
theorem cs_blk : ∀ d j k r, r < 5 ^ d → cs j k ≤ cs (j + d) (k * 5 ^ d + r) ∧ cs (j + d) (k * 5 ^ d + r) ≤ cs j k + 2 * d := by
  intro d
  induction d with
  | zero => intro j k r hr; rw [Nat.pow_zero] at hr ⊢; rw [show k * 1 + r = k from by omega]; exact ⟨Nat.le_refl _, by rw [Nat.add_zero]; omega⟩
  | succ d ih =>
    intro j k r hr
    rw [Nat.pow_succ] at hr
    have h1 := ih j k (r / 5) (by omega)
    have h2 := ab_le (k * 5 ^ (d + 1) + r)
    rw [show j + (d + 1) = (j + d) + 1 from rfl, cs, five_div]
    omega
def gp (V : nSV) (j k v u : Nat) : Int := gapI (v_m V v + (dg j k v : Nat)) (v_m V u + (dg j k u : Nat))
def VB (V : nSV) (g : Int) (j k : Nat) : Bool := al (fun v => al (fun u => decide (g ≤ gp V j k v u)) 0 v) 0 j
theorem VB_iff (V : nSV) (g : Int) (j k : Nat) : VB V g j k = true ↔ ∀ v u, u < v → v < j → g ≤ gp V j k v u := by
  unfold VB
  rw [al_iff]
  constructor
  · intro hh v u h1 h2
    have := (al_iff _ _ _).1 (hh v (by omega) (by omega)) u (by omega) (by omega)
    exact of_decide_eq_true this
  · intro hh v h1 h2
    rw [al_iff]
    intro u h3 h4
    exact decide_eq_true (hh v u (by omega) (by omega))
theorem VB_blk {V : nSV} {g : Int} {d j k r : Nat} (hr : r < 5 ^ d) (h : VB V g (j + d) (k * 5 ^ d + r) = true) : VB V g j k = true := by
  rw [VB_iff] at h ⊢
  intro v u h1 h2
  have := h v u h1 (by omega)
  unfold gp at this ⊢
  rw [dg_blk d j k r v h2 hr, dg_blk d j k r u (by omega) hr] at this
  exact this
theorem dg_ch {j k t v : Nat} (ht : t < 5) (hv : v < j) : dg (j + 1) (5 * k + t) v = dg j k v := by
  rw [dg, if_neg (by omega), show (5 * k + t) / 5 = k from by omega]
theorem dg_ct {j k t : Nat} (ht : t < 5) : dg (j + 1) (5 * k + t) j = t := by
  rw [dg, if_pos rfl]; omega
theorem VB_ch {V : nSV} {g : Int} {j k t : Nat} (ht : t < 5) (hk : VB V g j k = true) : VB V g (j + 1) (5 * k + t) = al (fun u => decide (g ≤ gp V (j + 1) (5 * k + t) j u)) 0 j := by
  rw [Bool.eq_iff_iff, VB_iff, al_iff]
  rw [VB_iff] at hk
  constructor
  · intro hh u h1 h2
    exact decide_eq_true (hh j u (by omega) (by omega))
  · intro hh v u h1 h2
    by_cases e : v = j
    · subst e; exact of_decide_eq_true (hh u (by omega) (by omega))
    · have := hk v u h1 (by omega)
      unfold gp at this ⊢
      rw [dg_ch ht (by omega), dg_ch ht (by omega)]
      exact this
theorem gapI_sh (a b s t : Int) : gapI ((a + (s - 2)) % 60) ((b + (t - 2)) % 60) = gapI (a + s) (b + t) := by
  unfold gapI
  have : ((a + (s - 2)) % 60 - (b + (t - 2)) % 60) % 60 = (a + s - (b + t)) % 60 := by omega
  rw [this]
theorem gapI_r (a b : Int) : gapI a (b % 60) = gapI a b := by
  unfold gapI
  have : (a - b % 60) % 60 = (a - b) % 60 := by omega
  rw [this]
theorem gapI_s2 (a b s t : Int) : gapI ((a + (s - 2)) % 60) (b + (t - 2)) = gapI (a + s) (b + t) := by
  unfold gapI
  have : ((a + (s - 2)) % 60 - (b + (t - 2))) % 60 = (a + s - (b + t)) % 60 := by omega
  rw [this]
theorem cs_le (n : Nat) : ∀ k, cs n k ≤ 2 * n := by
  induction n with
  | zero => intro k; exact Nat.le_refl _
  | succ n ih => intro k; rw [cs]; have := ih (k / 5); have := ab_le k; omega
def st67 (V : nSV) (g : Int) (i : Nat) (acc : Option (Nat × Nat)) : Option (Nat × Nat) := if VB V g (v_n V) i = true then (match acc with
  | none => some (cs (v_n V) i, i)
  | some (c, y) => if cs (v_n V) i < c then some (cs (v_n V) i, i) else some (c, y)) else acc
theorem fo_app {α : Type} (f : Nat → α → α) : ∀ a j b x, fo f j (a + b) x = fo f (j + a) b (fo f j a x) := by
  intro a
  induction a with
  | zero => intro j b x; rw [Nat.zero_add, fo, Nat.add_zero]
  | succ a ih =>
    intro j b x
    rw [show a + 1 + b = (a + b) + 1 from by omega, fo, fo, ih, show j + 1 + a = j + (a + 1) from by omega]
theorem fo_id {α : Type} (f : Nat → α → α) (x : α) : ∀ d s, (∀ r, r < d → f (s + r) x = x) → fo f s d x = x := by
  intro d
  induction d with
  | zero => intro s _; rfl
  | succ d ih =>
    intro s hh
    have h0 := hh 0 (by omega)
    rw [Nat.add_zero] at h0
    rw [fo, h0]
    exact ih (s + 1) (fun r hr => by rw [show s + 1 + r = s + (r + 1) from by omega]; exact hh (r + 1) (by omega))
/-! the class: ways from the first on, each kept only if it is less -/
theorem st_no {V : nSV} {g : Int} {acc : Option (Nat × Nat)} {d j k : Nat} (hj : j + d = v_n V) (hv : VB V g j k = false) : fo (st67 V g) (k * 5 ^ d) (5 ^ d) acc = acc := by
  refine fo_id _ _ _ _ (fun r hr => ?_)
  unfold st67
  rw [if_neg]
  intro hh
  rw [← hj] at hh
  rw [VB_blk hr hh] at hv
  cases hv
theorem st_late {V : nSV} {g : Int} {c y d j k : Nat} (hj : j + d = v_n V) (hc : c ≤ cs j k) : fo (st67 V g) (k * 5 ^ d) (5 ^ d) (some (c, y)) = some (c, y) := by
  refine fo_id _ _ _ _ (fun r hr => ?_)
  have h1 := (cs_blk d j k r hr).1
  rw [hj] at h1
  unfold st67
  split
  · show (if _ < c then _ else some (c, y)) = _
    rw [if_neg (by omega)]
  · rfl
def sB (V : nSV) (se : nSe) (acc : Option (Nat × Nat)) : Prop := (acc = none ∧ g_Se_bestTotal se = iI 13) ∨ ∃ c i, acc = some (c, i) ∧ c ≤ 12 ∧ g_Se_bestTotal se = iI (c : Int) ∧ ∀ v, v < v_n V → g_Se_bestShifts se v = iI ((dg (v_n V) i v : Nat) - 2)
/-- the minutes that are still free -/
def FR (V : nSV) (g : Int) (j k : Nat) (fr : Int64) : Prop := ∀ t : Nat, t < 60 → (bitL fr t ↔ ∀ u, u < j → g ≤ gapI (t : Int) (v_m V u + (((dg j k u : Nat) : Int) - 2)))
theorem FR_VB {V : nSV} {g : Int} {j k t mm : Nat} {fr : Int64} (hf : FR V g j k fr) (hv : VB V g j k = true) (t5 : t < 5) (hm60 : mm < 60) (hm : (v_m V j + ((t : Int) - 2)) % 60 = (mm : Int)) : bitL fr mm ↔ VB V g (j + 1) (5 * k + t) = true := by
  rw [hf mm hm60, VB_ch t5 hv, al_iff]
  have e : ∀ u, u < j → gapI (mm : Int) (v_m V u + (((dg j k u : Nat) : Int) - 2)) = gp V (j + 1) (5 * k + t) j u := by
    intro u hu
    unfold gp
    rw [dg_ct t5, dg_ch t5 hu, ← hm, gapI_s2]
  constructor
  · intro hh u h1 h2
    exact decide_eq_true (by rw [← e u (by omega)]; exact hh u (by omega))
  · intro hh u hu
    rw [e u hu]
    exact of_decide_eq_true (hh u (by omega) (by omega))
theorem FR_step {V : nSV} {g : Int} {j k t mm : Nat} {fr s : Int64} (hf : FR V g j k fr) (t5 : t < 5) (hm : (v_m V j + ((t : Int) - 2)) % 60 = (mm : Int)) (hs : ∀ q : Nat, q < 64 → (bitL s q ↔ (q < 60 ∧ gapI (q : Int) (mm : Int) < g))) : FR V g (j + 1) (5 * k + t) (fr &&& (s ^^^ (-1 : Int64))) := by
  intro q hq
  rw [bitL_and, bitL_not s (show q < 64 by omega), hf q hq, hs q (by omega)]
  have e : gapI (q : Int) (v_m V j + (((dg (j + 1) (5 * k + t) j : Nat) : Int) - 2)) = gapI (q : Int) (mm : Int) := by rw [dg_ct t5, ← hm, gapI_r]
  constructor
  · rintro ⟨h1, h2⟩ u hu
    by_cases eu : u = j
    · rw [eu, e]
      exact Int.not_lt.1 (fun z => h2 ⟨hq, z⟩)
    · rw [dg_ch t5 (show u < j by omega)]
      exact h1 u (by omega)
  · intro hh
    refine ⟨fun u hu => ?_, fun z => ?_⟩
    · have := hh u (by omega)
      rw [dg_ch t5 hu] at this
      exact this
    · have := hh j (by omega)
      rw [e] at this
      omega
theorem c_settle {x : nVl} {V : nSV} (h : rC x V) (ok : okV V) {g : Int} (g1 : 1 ≤ g) (g2 : g ≤ 12) : ∀ (d f j k : Nat) (fr : Int64) (se : nSe) (acc : Option (Nat × Nat)), j + d = v_n V → d < f → VB V g j k = true → FR V g j k fr → (∀ v, v < j → g_Se_shifts se v = iI ((dg j k v : Nat) - 2)) → sB V se acc → (∀ c y, acc = some (c, y) → cs j k < c) → ∃ se', f_X2_settleRest f se x (iI g) (iI j) fr (iI ((cs j k : Nat) : Int)) = some se' ∧ (∀ v, v < j → g_Se_shifts se' v = g_Se_shifts se v) ∧ sB V se' (fo (st67 V g) (k * 5 ^ d) (5 ^ d) acc) := by
  have hn := ok.1
  intro d
  induction d with
  | zero =>
    intro f j k fr se acc hj hf hv hF hs hB hT
    obtain ⟨f, rfl, -⟩ := fuel hf
    obtain rfl : j = v_n V := by omega
    have z1 : ¬ iI ((v_n V : Nat) : Int) < iI ((v_n V : Nat) : Int) := by rw [iI_ltN (by omega) (by omega)]; omega
    have hcl := cs_le (v_n V) k
    rw [f_X2_settleRest, f_X2_settleRest_o, h.1, if_neg z1, Option.bind_some, Nat.pow_zero, Nat.mul_one]
    refine ⟨_, rfl, fun v _ => rfl, Or.inr ⟨cs (v_n V) k, k, ?_, by omega, rfl, fun v hv2 => ?_⟩⟩
    · show st67 V g k acc = _
      unfold st67
      rw [if_pos hv]
      rcases acc with _ | ⟨c, y⟩
      · rfl
      · show (if _ < c then _ else some (c, y)) = _
        rw [if_pos (hT c y rfl)]
    · show va_cpy (g_Se_shifts se) _ (0 : Int32).toNatClampNeg (0 : Int32).toNatClampNeg (6 : Int32).toNatClampNeg v = _
      rw [cpy6 (by omega)]
      exact hs v hv2
  | succ d ih =>
    intro f j k fr se acc hj hf hv hF hs hB hT
    obtain ⟨f, rfl, hf2⟩ := fuel hf
    have hjn : j < v_n V := by omega
    have o := ok.2.1 j hjn
    have hcj := cs_le j k
    have z1 : iI (j : Int) < iI ((v_n V : Nat) : Int) := by rw [iI_ltN (by omega) (by omega)]; omega
    rw [f_X2_settleRest, f_X2_settleRest_o, h.1, if_pos z1]
    have loop : ∀ (e n t : Nat) (se1 : nSe) (acc1 : Option (Nat × Nat)), t + e = 5 → e < n → (∀ v, v < j → g_Se_shifts se1 v = g_Se_shifts se v) → sB V se1 acc1 → ∃ se', f_X2_settleRest_L34 (f_X2_settleRest f) x n se1 (iI g) (iI j) fr (iI ((cs j k : Nat) : Int)) (iI ((t : Int) - 2)) (fun se_13 b2_8 b3_9 b4_10 b6_11 b7_12 => some (se_13)) = some se' ∧ (∀ v, v < j → g_Se_shifts se' v = g_Se_shifts se v) ∧ sB V se' (fo (st67 V g) ((5 * k + t) * 5 ^ d) (e * 5 ^ d) acc1) := by
      intro e
      induction e with
      | zero =>
        intro n t se1 acc1 ht hd hs1 hB1
        obtain ⟨n, rfl, -⟩ := fuel hd
        obtain rfl : t = 5 := by omega
        rw [f_X2_settleRest_L34, if_pos (show (2 : Int32) < iI (((5 : Nat) : Int) - 2) by decide), Nat.zero_mul]
        exact ⟨se1, rfl, hs1, hB1⟩
      | succ e ihe =>
        intro n t se1 acc1 ht hd hs1 hB1
        obtain ⟨n, rfl, hd2⟩ := fuel hd
        have t5 : t < 5 := by omega
        have z2 : ¬ (2 : Int32) < iI ((t : Int) - 2) := by rw [show (2 : Int32) = iI 2 from rfl, iI_lt (by omega) (by omega) (by omega) (by omega)]; omega
        have zt : iI ((t : Int) - 2) + (1 : Int32) = iI (((t + 1 : Nat) : Int) - 2) := by rw [show (1 : Int32) = iI 1 from rfl, iI_add]; congr 1; omega
        have eab : (if (0 : Int) ≤ (t : Int) - 2 then (t : Int) - 2 else -((t : Int) - 2)) = ((ab t : Nat) : Int) := by
          unfold ab; split <;> split <;> omega
        have ab2 : ab t ≤ 2 := by unfold ab; split <;> omega
        have hcsk : cs (j + 1) (5 * k + t) = cs j k + ab t := by rw [cs, show (5 * k + t) / 5 = k from by omega, show (5 * k + t) % 5 = t from by omega]
        have hdn : j + 1 + d = v_n V := by omega
        have hc1 := cs_le (j + 1) (5 * k + t)
        have esp : fo (st67 V g) ((5 * k + t) * 5 ^ d) ((e + 1) * 5 ^ d) acc1 = fo (st67 V g) ((5 * k + (t + 1)) * 5 ^ d) (e * 5 ^ d) (fo (st67 V g) ((5 * k + t) * 5 ^ d) (5 ^ d) acc1) := by
          rw [show (e + 1) * 5 ^ d = 5 ^ d + e * 5 ^ d from by rw [Nat.add_mul, Nat.one_mul, Nat.add_comm], fo_app, show (5 * k + (t + 1)) * 5 ^ d = (5 * k + t) * 5 ^ d + 5 ^ d from by rw [show 5 * k + (t + 1) = (5 * k + t) + 1 from rfl, Nat.add_mul (5 * k + t) 1, Nat.one_mul]]
        rw [f_X2_settleRest_L34, if_neg z2, c_abs (by omega) (by omega), Option.bind_some, eab, iI_add, zt, esp, show ((cs j k : Nat) : Int) + ((ab t : Nat) : Int) = ((cs (j + 1) (5 * k + t) : Nat) : Int) from by rw [hcsk]; omega]
        have go : (∀ c y, acc1 = some (c, y) → cs (j + 1) (5 * k + t) < c) → ∃ se', ((f_X2_settleBy_o (f_X2_settleRest f) se1 x (iI g) (iI j) (iI ((t : Int) - 2)) fr (iI ((cs (j + 1) (5 * k + t) : Nat) : Int))).bind fun q_6 => f_X2_settleRest_L34 (f_X2_settleRest f) x n q_6 (iI g) (iI j) fr (iI ((cs j k : Nat) : Int)) (iI (((t + 1 : Nat) : Int) - 2)) (fun se_13 b2_8 b3_9 b4_10 b6_11 b7_12 => some (se_13))) = some se' ∧ (∀ v, v < j → g_Se_shifts se' v = g_Se_shifts se v) ∧ sB V se' (fo (st67 V g) ((5 * k + (t + 1)) * 5 ^ d) (e * 5 ^ d) (fo (st67 V g) ((5 * k + t) * 5 ^ d) (5 ^ d) acc1)) := by
          intro hlt
          obtain ⟨mm, hm60, hm⟩ : ∃ mm : Nat, mm < 60 ∧ (v_m V j + ((t : Int) - 2)) % 60 = (mm : Int) := ⟨((v_m V j + ((t : Int) - 2)) % 60).toNat, by omega, by omega⟩
          unfold f_X2_settleBy_o
          rw [nn_ixN (by omega) (by omega), iI_cN (by omega), (h.2.2.2 j hjn).2.1, iI_add, c_round (by omega) (by omega), Option.bind_some, hm]
          by_cases q : VB V g (j + 1) (5 * k + t) = true
          rotate_left
          · rw [if_pos ((bit_test fr (show mm < 64 by omega)).2 (fun z => q ((FR_VB hF hv t5 hm60 hm).1 z))), Option.bind_some, st_no hdn (Bool.eq_false_iff.2 q)]
            exact ihe n (t + 1) se1 acc1 (by omega) (by omega) hs1 hB1
          · rw [if_neg (fun z => (bit_test fr (show mm < 64 by omega)).1 z ((FR_VB hF hv t5 hm60 hm).2 q)), nn_ixN (by omega) (by omega)]
            obtain ⟨s, es, hs9⟩ := c_near (m := (mm : Int)) (g := g) (by omega) (by omega) g1 (by omega)
            rw [es, Option.bind_some, iI_s]
            obtain ⟨se2, e2, r1, r2⟩ := ih f (j + 1) (5 * k + t) (fr &&& (s ^^^ (-1 : Int64))) (s_Se_shifts se1 (upd (g_Se_shifts se1) j (iI ((t : Int) - 2)))) acc1 (by omega) (by omega) q (FR_step hF t5 hm hs9) (fun v hv2 => by
              show upd (g_Se_shifts se1) j (iI ((t : Int) - 2)) v = _
              by_cases ev : v = j
              · subst ev; rw [pk_us, dg_ct t5]
              · rw [pk_un ev, dg_ch t5 (by omega), hs1 v (by omega), hs v (by omega)]) hB1 hlt
            rw [e2, Option.bind_some, Option.bind_some]
            refine ihe n (t + 1) se2 _ (by omega) (by omega) (fun v hv2 => ?_) r2
            rw [r1 v (by omega)]
            show upd (g_Se_shifts se1) j (iI ((t : Int) - 2)) v = _
            rw [pk_un (by omega)]
            exact hs1 v hv2
        rcases hB1 with ⟨ha, hbt⟩ | ⟨c, i, ha, c1, hbt, hbo⟩
        · rw [if_neg (by rw [hbt, iI_le (by omega) (by omega) (by omega) (by omega)]; omega)]
          exact go (fun c y hc => by rw [ha] at hc; cases hc)
        · by_cases q2 : c ≤ cs (j + 1) (5 * k + t)
          · rw [if_pos (by rw [hbt, iI_leN (by omega) (by omega)]; exact q2), ha, st_late hdn q2]
            exact ihe n (t + 1) se1 _ (by omega) (by omega) hs1 (Or.inr ⟨c, i, rfl, c1, hbt, hbo⟩)
          · rw [if_neg (by rw [hbt, iI_leN (by omega) (by omega)]; exact q2)]
            exact go (fun c' y hc => by rw [ha] at hc; cases hc; omega)
    obtain ⟨se', e1, r1, r2⟩ := loop 5 100000 0 se acc (by omega) (by omega) (fun v _ => rfl) hB
    rw [show iI (((0 : Nat) : Int) - 2) = (-2 : Int32) from by decide] at e1
    refine ⟨se', e1, r1, ?_⟩
    rw [show k * 5 ^ (d + 1) = (5 * k + 0) * 5 ^ d from by rw [Nat.pow_succ, Nat.add_zero, Nat.mul_comm (5 ^ d) 5, ← Nat.mul_assoc, Nat.mul_comm k 5], show 5 ^ (d + 1) = 5 * 5 ^ d from by rw [Nat.pow_succ, Nat.mul_comm]]
    exact r2
theorem c_least {x : nVl} {V : nSV} (h : rC x V) (ok : okV V) {g : Int} (g1 : 1 ≤ g) (g2 : g ≤ 12) (se : nSe) : ∃ se', f_X2_leastTotal se x (iI g) = some (if g_Se_bestTotal se' = (13 : Int32) then (-4 : Int32) else g_Se_bestTotal se', se') ∧ sB V se' (fo (st67 V g) 0 (5 ^ v_n V) none) := by
  have hn := ok.1
  obtain ⟨se', e1, -, r2⟩ := c_settle h ok g1 g2 (v_n V) 10 0 0 (1152921504606846975 : Int64) (s_Se_bestTotal se (13 : Int32)) none (by omega) (by omega) rfl (fun t ht => by rw [all_bit (show t < 64 by omega)]; exact ⟨fun _ u hu => absurd hu (by omega), fun _ => ht⟩) (fun v hv => absurd hv (by omega)) (Or.inl ⟨rfl, rfl⟩) (fun c y hc => by cases hc)
  rw [Nat.zero_mul] at r2
  have e2 : f_X2_settleRest 10 (s_Se_bestTotal se (13 : Int32)) x (iI g) (0 : Int32) (1152921504606846975 : Int64) (0 : Int32) = some se' := e1
  refine ⟨se', ?_, r2⟩
  unfold f_X2_leastTotal
  rw [e2, Option.bind_some]
  by_cases q : g_Se_bestTotal se' = (13 : Int32)
  · rw [if_pos q, if_pos q]
  · rw [if_neg q, if_neg q]
