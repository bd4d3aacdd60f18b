/-! hear: orders as numbers by digits -/
def db (B : Nat) : Nat → Nat → Nat → Nat
  | 0, _, _ => 0
  | j + 1, k, v => if v = j then k % B else db B j (k / B) v
theorem db_lt {B : Nat} (hB : 0 < B) : ∀ j k v, db B j k v < B := by
  intro j
  induction j with
  | zero => intro k v; exact hB
  | succ j ih => intro k v; rw [db]; split
                 · exact Nat.mod_lt _ hB
                 · exact ih _ _
theorem b_div {B : Nat} (hB : 0 < B) (A d r : Nat) : (A * B ^ (d + 1) + r) / B = A * B ^ d + r / B := by
  rw [Nat.pow_succ, ← Nat.mul_assoc, Nat.mul_comm _ B, Nat.mul_add_div hB]
theorem db_blk {B : Nat} (hB : 0 < B) : ∀ d j k r v, v < j → r < B ^ d → db B (j + d) (k * B ^ d + r) v = db B j k v := by
  intro d
  induction d with
  | zero => intro j k r v hv hr; rw [Nat.pow_zero] at hr ⊢; rw [show k * 1 + r = k from by omega]; rfl
  | succ d ih =>
    intro j k r v hv hr
    rw [show j + (d + 1) = (j + d) + 1 from rfl, db, if_neg (by omega), b_div hB]
    refine ih j k (r / B) v hv (Nat.div_lt_of_lt_mul ?_)
    rw [Nat.pow_succ, Nat.mul_comm] at hr; exact hr
theorem db_ch {B j k t v : Nat} (ht : t < B) (hv : v < j) : db B (j + 1) (B * k + t) v = db B j k v := by
  rw [db, if_neg (by omega), Nat.mul_add_div (by omega), Nat.div_eq_of_lt ht, Nat.add_zero]
theorem db_ct {B j k t : Nat} (ht : t < B) : db B (j + 1) (B * k + t) j = t := by
  rw [db, if_pos rfl, Nat.mul_add_mod, Nat.mod_eq_of_lt ht]
def ha_d (a b : Int) : Int := if 0 ≤ a - b then a - b else -(a - b)
theorem ha_db {a b : Int} (h1 : 0 ≤ a) (h2 : a ≤ 40) (h3 : 0 ≤ b) (h4 : b ≤ 40) : 0 ≤ ha_d a b ∧ ha_d a b ≤ 40 := by unfold ha_d; split <;> omega
theorem ha_dc (a b : Int) : ha_d a b = ha_d b a := by unfold ha_d; split <;> split <;> omega
theorem ha_m {a w : Int} (h1 : 0 ≤ a) (h2 : a ≤ 40) (h3 : 1 ≤ w) (h4 : w ≤ 9) : 0 ≤ a * w ∧ a * w ≤ 360 := by
  refine ⟨Int.mul_nonneg h1 (by omega), ?_⟩
  have := Int.mul_le_mul h2 h4 (by omega) (by omega : (0 : Int) ≤ 40)
  omega
def ha_A (V : nSV) (w : Int) (p : Int × Int) (t : Nat) : Int := p.2 + ha_d (v_l V t) p.1 * w
def ha_S (V : nSV) (w : Int) (p : Int × Int) (t : Nat) : Int × Int := (v_l V t, ha_A V w p t + (v_m V t - ha_A V w p t) % 60)
def ha_T (V : nSV) (w : Int) (p : Int × Int) (f : Nat → Nat) : Nat → Int × Int
  | 0 => p
  | j + 1 => ha_S V w (ha_T V w p f j) (f j)
theorem ha_Tc (V : nSV) (w : Int) (p : Int × Int) {f g : Nat → Nat} : ∀ j, (∀ v, v < j → f v = g v) → ha_T V w p f j = ha_T V w p g j := by
  intro j
  induction j with
  | zero => intro _; rfl
  | succ j ih => intro hh; rw [ha_T, ha_T, ih (fun v hv => hh v (by omega)), hh j (by omega)]
theorem ha_Tb {V : nSV} (ok : okV V) {w : Int} (w1 : 1 ≤ w) (w2 : w ≤ 9) {p : Int × Int} (p1 : 0 ≤ p.1 ∧ p.1 ≤ 40) (p2 : 0 ≤ p.2 ∧ p.2 ≤ 59) {f : Nat → Nat} (hf : ∀ v, f v < v_n V) : ∀ j, (0 ≤ (ha_T V w p f j).1 ∧ (ha_T V w p f j).1 ≤ 40) ∧ p.2 ≤ (ha_T V w p f j).2 ∧ (ha_T V w p f j).2 ≤ 59 + 419 * j := by
  intro j
  induction j with
  | zero => exact ⟨p1, by show p.2 ≤ p.2; omega, by show p.2 ≤ _; omega⟩
  | succ j ih =>
    have o := ok.2.1 (f j) (hf j)
    have hd := ha_db o.2.2.2.2.2.2.1 o.2.2.2.2.2.2.2 ih.1.1 ih.1.2
    have hm := ha_m hd.1 hd.2 w1 w2
    rw [ha_T]
    refine ⟨⟨o.2.2.2.2.2.2.1, o.2.2.2.2.2.2.2⟩, ?_, ?_⟩
    · show p.2 ≤ ha_A V w (ha_T V w p f j) (f j) + (v_m V (f j) - ha_A V w (ha_T V w p f j) (f j)) % 60
      have : ha_A V w (ha_T V w p f j) (f j) = (ha_T V w p f j).2 + ha_d (v_l V (f j)) (ha_T V w p f j).1 * w := rfl
      omega
    · show ha_A V w (ha_T V w p f j) (f j) + (v_m V (f j) - ha_A V w (ha_T V w p f j) (f j)) % 60 ≤ _
      have : ha_A V w (ha_T V w p f j) (f j) = (ha_T V w p f j).2 + ha_d (v_l V (f j)) (ha_T V w p f j).1 * w := rfl
      omega
theorem ha_Tm {V : nSV} (ok : okV V) {w : Int} (w1 : 1 ≤ w) (w2 : w ≤ 9) {p : Int × Int} (p1 : 0 ≤ p.1 ∧ p.1 ≤ 40) (p2 : 0 ≤ p.2 ∧ p.2 ≤ 59) {f : Nat → Nat} (hf : ∀ v, f v < v_n V) (j : Nat) : ∀ d, (ha_T V w p f j).2 ≤ (ha_T V w p f (j + d)).2 := by
  intro d
  induction d with
  | zero => exact Int.le_refl _
  | succ d ih =>
    have o := ok.2.1 (f (j + d)) (hf (j + d))
    have hb := ha_Tb ok w1 w2 p1 p2 hf (j + d)
    have hd := ha_db o.2.2.2.2.2.2.1 o.2.2.2.2.2.2.2 hb.1.1 hb.1.2
    have hm := ha_m hd.1 hd.2 w1 w2
    rw [show j + (d + 1) = (j + d) + 1 from rfl, ha_T]
    show _ ≤ ha_A V w (ha_T V w p f (j + d)) (f (j + d)) + (v_m V (f (j + d)) - ha_A V w (ha_T V w p f (j + d)) (f (j + d))) % 60
    have : ha_A V w (ha_T V w p f (j + d)) (f (j + d)) = (ha_T V w p f (j + d)).2 + ha_d (v_l V (f (j + d))) (ha_T V w p f (j + d)).1 * w := rfl
    omega
def ha_C (f : Nat → Nat) : Nat → Nat → Bool
  | 0, _ => false
  | j + 1, u => ha_C f j u || decide (f j = u)
def ha_D (f : Nat → Nat) : Nat → Bool
  | 0 => true
  | j + 1 => ha_D f j && !ha_C f j (f j)
theorem ha_Cc {f g : Nat → Nat} : ∀ j u, (∀ v, v < j → f v = g v) → ha_C f j u = ha_C g j u := by
  intro j u
  induction j with
  | zero => intro _; rfl
  | succ j ih => intro hh; rw [ha_C, ha_C, ih (fun v hv => hh v (by omega)), hh j (by omega)]
theorem ha_Dc {f g : Nat → Nat} : ∀ j, (∀ v, v < j → f v = g v) → ha_D f j = ha_D g j := by
  intro j
  induction j with
  | zero => intro _; rfl
  | succ j ih => intro hh; rw [ha_D, ha_D, ih (fun v hv => hh v (by omega)), hh j (by omega), ha_Cc j _ (fun v hv => hh v (by omega))]
theorem ha_Dm {f : Nat → Nat} (j : Nat) : ∀ d, ha_D f (j + d) = true → ha_D f j = true := by
  intro d
  induction d with
  | zero => exact id
  | succ d ih => intro hh; rw [show j + (d + 1) = (j + d) + 1 from rfl, ha_D, Bool.and_eq_true] at hh; exact ih hh.1
theorem ha_Clt {f : Nat → Nat} {B : Nat} (hf : ∀ v, f v < B) : ∀ j u, ha_C f j u = true → u < B := by
  intro j u
  induction j with
  | zero => intro h; cases h
  | succ j ih =>
    intro h
    rw [ha_C, Bool.or_eq_true] at h
    rcases h with h | h
    · exact ih h
    · rw [← of_decide_eq_true h]; exact hf j
/-! as many as there are places -/
def ha_N (p : Nat → Bool) : Nat → Nat
  | 0 => 0
  | d + 1 => ha_N p d + (if p d = true then 1 else 0)
theorem ha_Nle (p : Nat → Bool) : ∀ d, ha_N p d ≤ d := by
  intro d
  induction d with
  | zero => exact Nat.le_refl _
  | succ d ih => rw [ha_N]; split <;> omega
theorem ha_Nfull (p : Nat → Bool) : ∀ d, ha_N p d = d ↔ ∀ u, u < d → p u = true := by
  intro d
  induction d with
  | zero => exact ⟨fun _ u hu => absurd hu (by omega), fun _ => rfl⟩
  | succ d ih =>
    have := ha_Nle p d
    rw [ha_N]
    constructor
    · intro hh u hu
      by_cases q : p d = true
      · rw [if_pos q] at hh
        by_cases e : u = d
        · subst e; exact q
        · exact ih.1 (by omega) u (by omega)
      · rw [if_neg q] at hh; omega
    · intro hh
      rw [if_pos (hh d (by omega)), ih.2 (fun u hu => hh u (by omega))]
theorem ha_Nc {p q : Nat → Bool} : ∀ d, (∀ u, u < d → q u = p u) → ha_N q d = ha_N p d := by
  intro d
  induction d with
  | zero => intro _; rfl
  | succ d ih => intro hh; rw [ha_N, ha_N, ih (fun u hu => hh u (by omega)), hh d (by omega)]
theorem ha_Nu {p q : Nat → Bool} {t : Nat} (h1 : p t = false) (h2 : q t = true) (h3 : ∀ u, u ≠ t → q u = p u) : ∀ d, t < d → ha_N q d = ha_N p d + 1 := by
  intro d
  induction d with
  | zero => intro h; omega
  | succ d ih =>
    intro h
    rw [ha_N, ha_N]
    by_cases e : t = d
    · subst e
      rw [h1, h2, ha_Nc t (fun u hu => h3 u (by omega)), if_pos rfl, if_neg (by decide)]
    · rw [ih (by omega), h3 d (by omega)]; omega
theorem ha_ND {f : Nat → Nat} {B : Nat} (hf : ∀ v, f v < B) : ∀ j, ha_N (ha_C f j) B ≤ j ∧ (ha_N (ha_C f j) B = j ↔ ha_D f j = true) := by
  intro j
  induction j with
  | zero =>
    have : ∀ d, ha_N (ha_C f 0) d = 0 := by
      intro d
      induction d with
      | zero => rfl
      | succ d ih => rw [ha_N, ih]; rfl
    rw [this]
    exact ⟨Nat.le_refl _, fun _ => rfl, fun _ => rfl⟩
  | succ j ih =>
    by_cases q : ha_C f j (f j) = true
    · have e : ha_N (ha_C f (j + 1)) B = ha_N (ha_C f j) B := by
        refine ha_Nc B (fun u _ => ?_)
        rw [ha_C]
        by_cases e : f j = u
        · subst e; rw [q]; rfl
        · rw [decide_eq_false e, Bool.or_false]
      rw [e, ha_D, q]
      refine ⟨by omega, fun hh => by omega, fun hh => ?_⟩
      rw [show (!true) = false from rfl, Bool.and_false] at hh; cases hh
    · have e : ha_N (ha_C f (j + 1)) B = ha_N (ha_C f j) B + 1 := by
        refine ha_Nu (t := f j) (Bool.eq_false_iff.2 q) ?_ (fun u hu => ?_) B (hf j)
        · rw [ha_C, decide_eq_true rfl, Bool.or_true]
        · rw [ha_C, decide_eq_false (fun z => hu z.symm), Bool.or_false]
      rw [e, ha_D, Bool.eq_false_iff.2 q, show (!false) = true from rfl, Bool.and_true, ← ih.2]
      exact ⟨by omega, by omega⟩
theorem ha_CD {f : Nat → Nat} {B : Nat} (hf : ∀ v, f v < B) : (∀ u, u < B → ha_C f B u = true) ↔ ha_D f B = true := by
  rw [← (ha_ND hf B).2, ha_Nfull]
/-! the best so far, number by number -/
def ha_P (V : nSV) (w : Int) (p : Int × Int) (i : Nat) (acc : Option (Int × Nat)) : Option (Int × Nat) := if ha_D (db (v_n V) (v_n V) i) (v_n V) = true then (match acc with
  | none => some ((ha_T V w p (db (v_n V) (v_n V) i) (v_n V)).2, i)
  | some (c, y) => if (ha_T V w p (db (v_n V) (v_n V) i) (v_n V)).2 < c then some ((ha_T V w p (db (v_n V) (v_n V) i) (v_n V)).2, i) else some (c, y)) else acc
theorem ha_no {V : nSV} {w : Int} {p : Int × Int} {acc : Option (Int × Nat)} {d j k : Nat} (hB : 0 < v_n V) (hj : j + d = v_n V) (hD : ha_D (db (v_n V) j k) j = false) : fo (ha_P V w p) (k * v_n V ^ d) (v_n V ^ d) acc = acc := by
  refine fo_id _ _ _ _ (fun r hr => ?_)
  unfold ha_P
  rw [if_neg]
  intro hh
  have h2 := ha_Dm j d (by rw [hj]; exact hh)
  rw [ha_Dc (g := db (v_n V) j k) j (fun v hv => by have := db_blk hB d j k r v hv hr; rw [hj] at this; exact this), hD] at h2
  cases h2
theorem ha_late {V : nSV} (ok : okV V) {w : Int} (w1 : 1 ≤ w) (w2 : w ≤ 9) {p : Int × Int} (p1 : 0 ≤ p.1 ∧ p.1 ≤ 40) (p2 : 0 ≤ p.2 ∧ p.2 ≤ 59) {c : Int} {y d j k : Nat} (hB : 0 < v_n V) (hj : j + d = v_n V) (hc : c ≤ (ha_T V w p (db (v_n V) j k) j).2) : fo (ha_P V w p) (k * v_n V ^ d) (v_n V ^ d) (some (c, y)) = some (c, y) := by
  refine fo_id _ _ _ _ (fun r hr => ?_)
  have h1 := ha_Tm ok w1 w2 p1 p2 (f := db (v_n V) (v_n V) (k * v_n V ^ d + r)) (fun v => db_lt hB _ _ _) j d
  rw [hj, ha_Tc V w p (g := db (v_n V) j k) j (fun v hv => by have := db_blk hB d j k r v hv hr; rw [hj] at this; exact this)] at h1
  unfold ha_P
  split
  · show (if _ < c then _ else some (c, y)) = _
    rw [if_neg (by omega)]
  · rfl
