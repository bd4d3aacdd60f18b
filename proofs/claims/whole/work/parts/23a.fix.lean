theorem al_iff (p : Nat → Bool) : ∀ d j, al p j d = true ↔ ∀ i, j ≤ i → i < j + d → p i = true := by
  intro d
  induction d with
  | zero => intro j; exact ⟨fun _ i h1 h2 => absurd h2 (by omega), fun _ => rfl⟩
  | succ d ih =>
    intro j
    rw [al, Bool.and_eq_true, ih]
    constructor
    · rintro ⟨h1, h2⟩ i h3 h4
      by_cases e : i = j
      · subst e; exact h1
      · exact h2 i (by omega) (by omega)
    · intro hh
      exact ⟨hh j (by omega) (by omega), fun i h3 h4 => hh i (by omega) (by omega)⟩
def dg : Nat → Nat → Nat → Nat
  | 0, _, _ => 0
  | n + 1, k, v => if v = n then k % 5 else dg n (k / 5) v
def ab (t : Nat) : Nat := if t < 2 then 2 - t else t - 2
def cs : Nat → Nat → Nat
  | 0, _ => 0
  | n + 1, k => cs n (k / 5) + ab (k % 5)
theorem dg_lt : ∀ n k v, dg n k v < 5 := by
  intro n
  induction n with
  | zero => intro k v; show 0 < 5; omega
  | succ n ih => intro k v; rw [dg]; split
                 · exact Nat.mod_lt _ (by omega)
                 · exact ih _ _
theorem ab_le (t : Nat) : ab (t % 5) ≤ 2 := by unfold ab; split <;> omega
theorem five_div (A d r : Nat) : (A * 5 ^ (d + 1) + r) / 5 = A * 5 ^ d + r / 5 := by
  rw [Nat.pow_succ, ← Nat.mul_assoc]; generalize A * 5 ^ d = B; omega
theorem dg_blk : ∀ d j k r v, v < j → r < 5 ^ d → dg (j + d) (k * 5 ^ d + r) v = dg j k v := by
  intro d
  induction d with
  | zero => intro j k r v hv hr; rw [Nat.pow_zero] at hr ⊢; rw [show k * 1 + r = k from by omega]; rfl
  | succ d ih =>
    intro j k r v hv hr
    rw [Nat.pow_succ] at hr
    rw [show j + (d + 1) = (j + d) + 1 from rfl, dg, if_neg (by omega), five_div]
    exact ih j k (r / 5) v hv (by omega)
theorem cs_blk : ∀ d j k r, r < 5 ^ d → cs j k ≤ cs (j + d) (k * 5 ^ d + r) ∧ cs (j + d) (k * 5 ^ d + r) ≤ cs j k + 2 * d := by
  intro d
  induction d with
  | zero => intro j k r hr; rw [Nat.pow_zero] at hr ⊢; rw [show k * 1 + r = k from by omega]; exact ⟨Nat.le_refl _, by rw [Nat.add_zero]; omega⟩
  | succ d ih =>
    intro j k r hr
    rw [Nat.pow_succ] at hr
    have h1 := ih j k (r / 5) (by omega)
    have h2 := ab_le (k * 5 ^ (d + 1) + r)
    rw [show j + (d + 1) = (j + d) + 1 from rfl, cs, five_div]
    omega
def gp (V : nSV) (j k v u : Nat) : Int := gapI (v_m V v + (dg j k v : Nat)) (v_m V u + (dg j k u : Nat))
def VB (V : nSV) (g : Int) (j k : Nat) : Bool := al (fun v => al (fun u => decide (g ≤ gp V j k v u)) 0 v) 0 j
theorem VB_iff (V : nSV) (g : Int) (j k : Nat) : VB V g j k = true ↔ ∀ v u, u < v → v < j → g ≤ gp V j k v u := by
  unfold VB
  rw [al_iff]
  constructor
  · intro hh v u h1 h2
    have := (al_iff _ _ _).1 (hh v (by omega) (by omega)) u (by omega) (by omega)
    exact of_decide_eq_true this
  · intro hh v h1 h2
    rw [al_iff]
    intro u h3 h4
    exact decide_eq_true (hh v u (by omega) (by omega))
theorem VB_blk {V : nSV} {g : Int} {d j k r : Nat} (hr : r < 5 ^ d) (h : VB V g (j + d) (k * 5 ^ d + r) = true) : VB V g j k = true := by
  rw [VB_iff] at h ⊢
  intro v u h1 h2
  have := h v u h1 (by omega)
  unfold gp at this ⊢
  rw [dg_blk d j k r v h2 hr, dg_blk d j k r u (by omega) hr] at this
  exact this
theorem dg_ch {j k t v : Nat} (ht : t < 5) (hv : v < j) : dg (j + 1) (5 * k + t) v = dg j k v := by
  rw [dg, if_neg (by omega), show (5 * k + t) / 5 = k from by omega]
theorem dg_ct {j k t : Nat} (ht : t < 5) : dg (j + 1) (5 * k + t) j = t := by
  rw [dg, if_pos rfl]; omega
theorem VB_ch {V : nSV} {g : Int} {j k t : Nat} (ht : t < 5) (hk : VB V g j k = true) : VB V g (j + 1) (5 * k + t) = al (fun u => decide (g ≤ gp V (j + 1) (5 * k + t) j u)) 0 j := by
  rw [Bool.eq_iff_iff, VB_iff, al_iff]
  rw [VB_iff] at hk
  constructor
  · intro hh u h1 h2
    exact decide_eq_true (hh j u (by omega) (by omega))
  · intro hh v u h1 h2
    by_cases e : v = j
    · subst e; exact of_decide_eq_true (hh u (by omega) (by omega))
    · have := hk v u h1 (by omega)
      unfold gp at this ⊢
      rw [dg_ch ht (by omega), dg_ch ht (by omega)]
      exact this
def FI (p : Nat → Bool) : Nat → Nat → Option Nat
  | _, 0 => none
  | k, d + 1 => if p k = true then some k else FI p (k + 1) d
theorem FI_app (p : Nat → Bool) : ∀ a k b, FI p k (a + b) = (FI p k a).or (FI p (k + a) b) := by
  intro a
  induction a with
  | zero => intro k b; rw [Nat.zero_add, FI, Nat.add_zero]; rfl
  | succ a ih =>
    intro k b
    rw [show a + 1 + b = (a + b) + 1 from by omega, FI, FI]
    by_cases q : p k = true
    · rw [if_pos q, if_pos q]; rfl
    · rw [if_neg q, if_neg q, ih, show k + 1 + a = k + (a + 1) from by omega]
theorem FI_none {p : Nat → Bool} : ∀ d k, (∀ i, i < d → p (k + i) = false) → FI p k d = none := by
  intro d
  induction d with
  | zero => intro k _; rfl
  | succ d ih =>
    intro k hh
    have h0 := hh 0 (by omega)
    rw [Nat.add_zero] at h0
    rw [FI, h0, if_neg (by decide)]
    exact ih (k + 1) (fun i hi => by have := hh (i + 1) (by omega); rw [show k + 1 + i = k + (i + 1) from by omega]; exact this)
theorem FI_true {p : Nat → Bool} : ∀ d k i, FI p k d = some i → p i = true := by
  intro d
  induction d with
  | zero => intro k i h; cases h
  | succ d ih =>
    intro k i h
    rw [FI] at h
    by_cases q : p k = true
    · rw [if_pos q] at h; cases h; exact q
    · rw [if_neg q] at h; exact ih _ _ h
def PP (V : nSV) (g : Int) (T i : Nat) : Bool := VB V g (v_n V) i && decide (cs (v_n V) i = T)
theorem gapI_sh (a b s t : Int) : gapI ((a + (s - 2)) % 60) ((b + (t - 2)) % 60) = gapI (a + s) (b + t) := by
  unfold gapI
  have : ((a + (s - 2)) % 60 - (b + (t - 2)) % 60) % 60 = (a + s - (b + t)) % 60 := by omega
  rw [this]
theorem c_minThen {x : nVl} {V : nSV} (h : rC x V) (ok : okV V) {se : Nat → Int32} {v : Nat} {t : Int} (hv : v < v_n V) (hs : se v = iI t) (t1 : -10 ≤ t) (t2 : t ≤ 10) : f_X2_minuteThen se x (iI v) = some (iI ((v_m V v + t) % 60)) := by
  have hn := ok.1
  have o1 := ok.2.1 v hv
  unfold f_X2_minuteThen
  rw [nn_ixN (by omega) (by omega), nn_ixN (by omega) (by omega), iI_cN (by omega), (h.2.2.2 v hv).2.1, hs, iI_add, c_round (by omega) (by omega)]
  rfl
theorem c_clr2 {x : nVl} {V : nSV} (h : rC x V) (ok : okV V) {g : Int} (g1 : 1 ≤ g) (g2 : g ≤ 12) {se : Nat → Int32} {j K : Nat} (hj : j < v_n V) (hs : ∀ v, v < j + 1 → se v = iI ((dg (j + 1) K v : Nat) - 2)) : f_X2_isClearOfEarlier se x (iI g) (iI j) = some (if al (fun u => decide (g ≤ gp V (j + 1) K j u)) 0 j = true then 1 else 0) := by
  have hn := ok.1
  have dj := dg_lt (j + 1) K j
  unfold f_X2_isClearOfEarlier
  rw [c_minThen h ok hj (hs j (by omega)) (by omega) (by omega), Option.bind_some]
  have key : ∀ (d n u : Nat), u + d = j → d < n → f_X2_isClearOfEarlier_L11 se x n (iI g) (iI j) (iI ((v_m V j + ((dg (j + 1) K j : Nat) - 2)) % 60)) (iI u) (fun b2_9 b3_10 b4_11 b5_12 => some ((1 : Int32))) = some (if al (fun u => decide (g ≤ gp V (j + 1) K j u)) u d = true then 1 else 0) := by
    intro d
    induction d with
    | zero =>
      intro n u hu hd
      obtain ⟨n, rfl, -⟩ := fuel hd
      rw [f_X2_isClearOfEarlier_L11, if_pos (by rw [iI_leN (by omega) (by omega)]; omega), al, if_pos rfl]
    | succ d ih =>
      intro n u hu hd
      obtain ⟨n, rfl, hd2⟩ := fuel hd
      have du := dg_lt (j + 1) K u
      have z1 : ¬ iI (j : Int) ≤ iI (u : Int) := by rw [iI_leN (by omega) (by omega)]; omega
      have gb := gapI_b (v_m V j + (dg (j + 1) K j : Nat)) (v_m V u + (dg (j + 1) K u : Nat))
      rw [f_X2_isClearOfEarlier_L11, if_neg z1, c_minThen h ok (by omega) (hs u (by omega)) (by omega) (by omega), Option.bind_some, c_shorter (by omega) (by omega) (by omega) (by omega), Option.bind_some, gapI_sh, iI_s, al]
      by_cases q : g ≤ gapI (v_m V j + (dg (j + 1) K j : Nat)) (v_m V u + (dg (j + 1) K u : Nat))
      · rw [if_pos (by rw [iI_le (by omega) (by omega) (by omega) (by omega)]; exact q), ih n (u + 1) (by omega) (by omega), show decide (g ≤ gp V (j + 1) K j u) = true from decide_eq_true q, Bool.true_and]
      · rw [if_neg (by rw [iI_le (by omega) (by omega) (by omega) (by omega)]; exact q), show decide (g ≤ gp V (j + 1) K j u) = false from decide_eq_false q, Bool.false_and, if_neg (by decide)]
  exact key j 100000 0 (by omega) (by omega)
def RZ (V : nSV) (j : Nat) (se : Nat → Int32) (fi : Option Nat) (b : Int32) (se' : Nat → Int32) : Prop := (fi = none ∧ b = 0 ∧ ∀ v, v < j → se' v = se v) ∨ (∃ i, fi = some i ∧ b = 1 ∧ ∀ v, v < v_n V → se' v = iI ((dg (v_n V) i v : Nat) - 2))
theorem c_settle {x : nVl} {V : nSV} (h : rC x V) (ok : okV V) {g : Int} (g1 : 1 ≤ g) (g2 : g ≤ 12) (T : Nat) : ∀ (d f j k left : Nat) (se : Nat → Int32), j + d = v_n V → d < f → VB V g j k = true → cs j k + left = T → left ≤ 100 → (∀ v, v < j → se v = iI ((dg j k v : Nat) - 2)) → ∃ b se', f_X2_settle f se x (iI g) (iI j) (iI left) = some (b, se') ∧ RZ V j se (FI (PP V g T) (k * 5 ^ d) (5 ^ d)) b se' := by
  have hn := ok.1
  intro d
  induction d with
  | zero =>
    intro f j k left se hj hf hv hc hl hs
    obtain ⟨f, rfl, -⟩ := fuel hf
    obtain rfl : j = v_n V := by omega
    have z1 : ¬ iI ((v_n V : Nat) : Int) < iI ((v_n V : Nat) : Int) := by rw [iI_ltN (by omega) (by omega)]; omega
    rw [f_X2_settle, f_X2_settle_o, h.1, if_neg z1, Nat.pow_zero, Nat.mul_one, show (1 : Nat) = 0 + 1 from rfl, FI]
    by_cases l0 : left = 0
    · subst l0
      have hp : PP V g T k = true := by unfold PP; rw [hv, decide_eq_true (by omega)]; rfl
      rw [if_pos zz, if_pos hp]
      exact ⟨1, se, rfl, Or.inr ⟨k, rfl, rfl, hs⟩⟩
    · have hp : ¬ PP V g T k = true := by unfold PP; rw [decide_eq_false (by omega), Bool.and_false]; decide
      rw [if_neg (show ¬ iI (left : Int) = 0 by rw [show (0 : Int32) = iI ((0 : Nat) : Int) from rfl, iI_eqN (by omega) (by omega)]; exact l0), if_neg hp]
      exact ⟨0, se, rfl, Or.inl ⟨rfl, rfl, fun v _ => rfl⟩⟩
  | succ d ih =>
    intro f j k left se hj hf hv hc hl hs
    obtain ⟨f, rfl, hf2⟩ := fuel hf
    have hjn : j < v_n V := by omega
    have z1 : iI (j : Int) < iI ((v_n V : Nat) : Int) := by rw [iI_ltN (by omega) (by omega)]; omega
    rw [f_X2_settle, f_X2_settle_o, h.1, if_pos z1]
    have hP5 : 0 < 5 ^ d := Nat.pow_pos (by omega)
    have loop : ∀ (e n t : Nat) (se1 : Nat → Int32), t + e = 5 → e < n → (∀ v, v < j → se1 v = se v) → ∃ b se', f_X2_settle_L23 (f_X2_settle f) x n se1 (iI g) (iI j) (iI left) (iI ((t : Int) - 2)) (fun se_10 b2_6 b3_7 b4_8 b5_9 => some ((0 : Int32), se_10)) = some (b, se') ∧ RZ V j se (FI (PP V g T) ((5 * k + t) * 5 ^ d) (e * 5 ^ d)) b se' := by
      intro e
      induction e with
      | zero =>
        intro n t se1 ht hd hs1
        obtain ⟨n, rfl, -⟩ := fuel hd
        obtain rfl : t = 5 := by omega
        rw [f_X2_settle_L23, if_pos (show (2 : Int32) < iI (((5 : Nat) : Int) - 2) by decide), Nat.zero_mul, FI]
        exact ⟨0, se1, rfl, Or.inl ⟨rfl, rfl, hs1⟩⟩
      | succ e ihe =>
        intro n t se1 ht hd hs1
        obtain ⟨n, rfl, hd2⟩ := fuel hd
        have t5 : t < 5 := by omega
        have z2 : ¬ (2 : Int32) < iI ((t : Int) - 2) := by rw [show (2 : Int32) = iI 2 from rfl, iI_lt (by omega) (by omega) (by omega) (by omega)]; omega
        have zt : iI ((t : Int) - 2) + (1 : Int32) = iI (((t + 1 : Nat) : Int) - 2) := by rw [show (1 : Int32) = iI 1 from rfl, iI_add]; congr 1; omega
        have eab : (if (0 : Int) ≤ (t : Int) - 2 then (t : Int) - 2 else -((t : Int) - 2)) = ((ab t : Nat) : Int) := by
          unfold ab; split <;> split <;> omega
        have ab2 : ab t ≤ 2 := by unfold ab; split <;> omega
        have hcsk : cs (j + 1) (5 * k + t) = cs j k + ab t := by rw [cs, show (5 * k + t) / 5 = k from by omega, show (5 * k + t) % 5 = t from by omega]
        have hnn : v_n V = j + 1 + d := by omega
        -- one child
        have one : ∃ b se', f_X2_settleBy_o (f_X2_settle f) se1 x (iI g) (iI j) (iI ((t : Int) - 2)) (iI left) = some (b, se') ∧ RZ V j se (FI (PP V g T) ((5 * k + t) * 5 ^ d) (5 ^ d)) b se' := by
          unfold f_X2_settleBy_o
          rw [c_abs (by omega) (by omega), Option.bind_some, eab, iI_sub, h.1, iI_sub, show (1 : Int32) = iI 1 from rfl, iI_sub, show (2 : Int32) = iI 2 from rfl, iI_mul]
          by_cases q1 : (left : Int) - (ab t : Nat) < 0
          · rw [if_pos (by rw [show (0 : Int32) = iI 0 from rfl, iI_lt (by omega) (by omega) (by omega) (by omega)]; exact q1)]
            refine ⟨0, se1, rfl, Or.inl ⟨FI_none _ _ (fun i hi => ?_), rfl, hs1⟩⟩
            have := (cs_blk d (j + 1) (5 * k + t) i hi).1
            unfold PP
            rw [decide_eq_false (by rw [hnn]; omega), Bool.and_false]
          rw [if_neg (by rw [show (0 : Int32) = iI 0 from rfl, iI_lt (by omega) (by omega) (by omega) (by omega)]; exact q1)]
          by_cases q2 : (left : Int) - (ab t : Nat) ≤ 2 * ((v_n V : Int) - j - 1)
          rotate_left
          · rw [if_neg (by rw [iI_le (by omega) (by omega) (by omega) (by omega)]; exact q2)]
            refine ⟨0, se1, rfl, Or.inl ⟨FI_none _ _ (fun i hi => ?_), rfl, hs1⟩⟩
            have := (cs_blk d (j + 1) (5 * k + t) i hi).2
            unfold PP
            rw [decide_eq_false (by rw [hnn]; omega), Bool.and_false]
          rw [if_pos (by rw [iI_le (by omega) (by omega) (by omega) (by omega)]; exact q2), nn_ixN (by omega) (by omega), iI_cN (by omega)]
          have hse : ∀ v, v < j + 1 → upd se1 j (iI ((t : Int) - 2)) v = iI ((dg (j + 1) (5 * k + t) v : Nat) - 2) := by
            intro v hv2
            by_cases ev : v = j
            · subst ev; rw [pk_us, dg_ct t5]
            · rw [pk_un ev, dg_ch t5 (by omega), hs1 v (by omega), hs v (by omega)]
          rw [c_clr2 h ok g1 g2 hjn hse, Option.bind_some, ← VB_ch t5 hv]
          by_cases q3 : VB V g (j + 1) (5 * k + t) = true
          rotate_left
          · simp only [if_neg q3, if_true]
            refine ⟨0, _, rfl, Or.inl ⟨FI_none _ _ (fun i hi => ?_), rfl, fun v hv2 => by rw [pk_un (by omega)]; exact hs1 v hv2⟩⟩
            unfold PP
            rw [hnn]
            rw [show VB V g (j + 1 + d) ((5 * k + t) * 5 ^ d + i) = false from Bool.eq_false_iff.2 (fun z => q3 (VB_blk hi z)), Bool.false_and]
          · simp only [if_pos q3, if_neg (show ¬ iI 1 = 0 by decide)]
            obtain ⟨b, se2, e2, r2⟩ := ih f (j + 1) (5 * k + t) (left - ab t) (upd se1 j (iI ((t : Int) - 2))) (by omega) (by omega) q3 (by omega) (by omega) hse
            rw [show (left : Int) - ((ab t : Nat) : Int) = ((left - ab t : Nat) : Int) from by omega, show iI 1 = (1 : Int32) from rfl, iI_s, e2, Option.bind_some]
            rcases r2 with ⟨r3, rfl, r4⟩ | ⟨i, r3, rfl, r4⟩
            · refine ⟨0, se2, rfl, Or.inl ⟨r3, rfl, fun v hv2 => ?_⟩⟩
              rw [r4 v (by omega), pk_un (by omega)]; exact hs1 v hv2
            · exact ⟨1, se2, rfl, Or.inr ⟨i, r3, rfl, r4⟩⟩
        obtain ⟨b, se2, e2, r2⟩ := one
        rw [f_X2_settle_L23, if_neg z2, e2, Option.bind_some, zt]
        have esp : FI (PP V g T) ((5 * k + t) * 5 ^ d) ((e + 1) * 5 ^ d) = (FI (PP V g T) ((5 * k + t) * 5 ^ d) (5 ^ d)).or (FI (PP V g T) ((5 * k + (t + 1)) * 5 ^ d) (e * 5 ^ d)) := by
          rw [show (e + 1) * 5 ^ d = 5 ^ d + e * 5 ^ d from by rw [Nat.add_mul, Nat.one_mul, Nat.add_comm], FI_app, show (5 * k + (t + 1)) * 5 ^ d = (5 * k + t) * 5 ^ d + 5 ^ d from by rw [show 5 * k + (t + 1) = (5 * k + t) + 1 from rfl, Nat.add_mul (5 * k + t) 1, Nat.one_mul]]
        rw [esp]
        rcases r2 with ⟨r3, rfl, r4⟩ | ⟨i, r3, rfl, r4⟩
        · rw [r3, if_pos rfl, Option.none_or]
          exact ihe n (t + 1) se2 (by omega) (by omega) r4
        · rw [r3, if_neg one0]
          exact ⟨1, se2, rfl, Or.inr ⟨i, rfl, rfl, r4⟩⟩
    obtain ⟨b, se', e1, r1⟩ := loop 5 100000 0 se (by omega) (by omega) (fun v _ => rfl)
    refine ⟨b, se', e1, ?_⟩
    rw [show k * 5 ^ (d + 1) = (5 * k + 0) * 5 ^ d from by rw [Nat.pow_succ, Nat.add_zero, Nat.mul_comm (5 ^ d) 5, ← Nat.mul_assoc, Nat.mul_comm k 5], show 5 ^ (d + 1) = 5 * 5 ^ d from by rw [Nat.pow_succ, Nat.mul_comm]]
    exact r1
