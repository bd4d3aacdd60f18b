/-! the law's loop, over its pure function: always 1 -/
theorem ite1 {p : Prop} [Decidable p] {x y r : Option Int32} (h1 : x = r) (h2 : y = r) : (if p then x else y) = r := by
  split
  · exact h1
  · exact h2
theorem la_1 (u : Nat) : iI (u : Int) + (1 : Int32) = iI ((u + 1 : Nat) : Int) := by
  rw [show (1 : Int32) = iI 1 from rfl, iI_add]; rfl
theorem la_2 (u : Nat) : iI (u : Int) + (2 : Int32) = iI ((u + 2 : Nat) : Int) := by
  rw [show (2 : Int32) = iI 2 from rfl, iI_add]; rfl
theorem la_3 (u : Nat) : iI (u : Int) + (3 : Int32) = iI ((u + 3 : Nat) : Int) := by
  rw [show (3 : Int32) = iI 3 from rfl, iI_add]; rfl
theorem la_4 (u : Nat) : iI (u : Int) + (4 : Int32) = iI ((u + 4 : Nat) : Int) := by
  rw [show (4 : Int32) = iI 4 from rfl, iI_add]; rfl
theorem la_5 (u : Nat) : iI (u : Int) + (5 : Int32) = iI ((u + 5 : Nat) : Int) := by
  rw [show (5 : Int32) = iI 5 from rfl, iI_add]; rfl
theorem la_6 (u : Nat) : iI (u : Int) + (6 : Int32) = iI ((u + 6 : Nat) : Int) := by
  rw [show (6 : Int32) = iI 6 from rfl, iI_add]; rfl
theorem la_7 (u : Nat) : iI (u : Int) + (7 : Int32) = iI ((u + 7 : Nat) : Int) := by
  rw [show (7 : Int32) = iI 7 from rfl, iI_add]; rfl
theorem lz_0 {xs : Nat → Int32} {L u : Nat} (hu : u + 7 ≤ L) (hL : L ≤ 3584) {c : nCs} {m : nMd} (h : Rel c m) {NEXT : nCs → nMd → Option Int32} (hN : ∀ c' m', Rel c' m' → NEXT c' m' = some 1) : f_law_0 xs L c m (iI u) NEXT = some 1 := by
  unfold f_law_0
  simp only [la_1 u, la_2 u, la_3 u, nn_ixN (show u + 1 < L by omega) (show L < 2147483648 by omega), nn_ixN (show u + 2 < L by omega) (show L < 2147483648 by omega), nn_ixN (show u + 3 < L by omega) (show L < 2147483648 by omega), iI_cN (show u + 1 < 2147483648 by omega), iI_cN (show u + 2 < 2147483648 by omega), iI_cN (show u + 3 < 2147483648 by omega)]
  obtain ⟨r, c', m', e1, e2, hR⟩ := op_village h (xs (u + 1)) (xs (u + 2)) (xs (u + 3))
  rw [e1, e2, Option.bind_some, Option.bind_some, if_pos rfl]
  exact hN _ _ hR
theorem lz_1 {xs : Nat → Int32} {L u : Nat} (hu : u + 7 ≤ L) (hL : L ≤ 3584) {c : nCs} {m : nMd} (h : Rel c m) {NEXT : nCs → nMd → Option Int32} (hN : ∀ c' m', Rel c' m' → NEXT c' m' = some 1) : f_law_1 xs L c m (iI u) NEXT = some 1 := by
  unfold f_law_1
  simp only [la_1 u, la_2 u, nn_ixN (show u + 1 < L by omega) (show L < 2147483648 by omega), nn_ixN (show u + 2 < L by omega) (show L < 2147483648 by omega), iI_cN (show u + 1 < 2147483648 by omega), iI_cN (show u + 2 < 2147483648 by omega)]
  obtain ⟨r, e1, e2⟩ := op_of h (xs (u + 1)) (xs (u + 2))
  rw [e1, e2, Option.bind_some, Option.bind_some, if_pos rfl]
  exact hN _ _ h
theorem lz_2 {xs : Nat → Int32} {L u : Nat} (hu : u + 7 ≤ L) (hL : L ≤ 3584) {c : nCs} {m : nMd} (h : Rel c m) {NEXT : nCs → nMd → Option Int32} (hN : ∀ c' m', Rel c' m' → NEXT c' m' = some 1) : f_law_2 xs L c m (iI u) NEXT = some 1 := by
  unfold f_law_2
  simp only [la_1 u, la_2 u, nn_ixN (show u + 1 < L by omega) (show L < 2147483648 by omega), nn_ixN (show u + 2 < L by omega) (show L < 2147483648 by omega), iI_cN (show u + 1 < 2147483648 by omega), iI_cN (show u + 2 < 2147483648 by omega)]
  obtain ⟨r, e1, e2⟩ := op_gap h (xs (u + 1)) (xs (u + 2))
  rw [e1, e2, Option.bind_some, Option.bind_some, if_pos rfl]
  exact hN _ _ h
theorem lz_3 {xs : Nat → Int32} {L u : Nat} (hu : u + 7 ≤ L) (hL : L ≤ 3584) {c : nCs} {m : nMd} (h : Rel c m) {NEXT : nCs → nMd → Option Int32} (hN : ∀ c' m', Rel c' m' → NEXT c' m' = some 1) : f_law_3 xs L c m (iI u) NEXT = some 1 := by
  unfold f_law_3
  simp only [la_1 u, nn_ixN (show u + 1 < L by omega) (show L < 2147483648 by omega), iI_cN (show u + 1 < 2147483648 by omega)]
  obtain ⟨r, c', m', e1, e2, hR⟩ := op_type h (xs (u + 1))
  rw [e1, e2, Option.bind_some, Option.bind_some, if_pos rfl]
  exact hN _ _ hR
theorem lz_4 {xs : Nat → Int32} {L u : Nat} (hu : u + 7 ≤ L) (hL : L ≤ 3584) {c : nCs} {m : nMd} (h : Rel c m) {NEXT : nCs → nMd → Option Int32} (hN : ∀ c' m', Rel c' m' → NEXT c' m' = some 1) : f_law_4 xs L c m (iI u) NEXT = some 1 := by
  unfold f_law_4
  obtain ⟨r, c', m', e1, e2, hR⟩ := op_valley h 
  rw [e1, e2, Option.bind_some, Option.bind_some, if_pos rfl]
  exact hN _ _ hR
theorem lz_5 {xs : Nat → Int32} {L u : Nat} (hu : u + 7 ≤ L) (hL : L ≤ 3584) {c : nCs} {m : nMd} (h : Rel c m) {NEXT : nCs → nMd → Option Int32} (hN : ∀ c' m', Rel c' m' → NEXT c' m' = some 1) : f_law_5 xs L c m (iI u) NEXT = some 1 := by
  unfold f_law_5
  simp only [la_1 u, nn_ixN (show u + 1 < L by omega) (show L < 2147483648 by omega), iI_cN (show u + 1 < 2147483648 by omega)]
  obtain ⟨r, e1, e2⟩ := op_count h (xs (u + 1))
  rw [e1, e2, Option.bind_some, Option.bind_some, if_pos rfl]
  exact hN _ _ h
theorem lz_6 {xs : Nat → Int32} {L u : Nat} (hu : u + 7 ≤ L) (hL : L ≤ 3584) {c : nCs} {m : nMd} (h : Rel c m) {NEXT : nCs → nMd → Option Int32} (hN : ∀ c' m', Rel c' m' → NEXT c' m' = some 1) : f_law_6 xs L c m (iI u) NEXT = some 1 := by
  unfold f_law_6
  simp only [la_1 u, nn_ixN (show u + 1 < L by omega) (show L < 2147483648 by omega), iI_cN (show u + 1 < 2147483648 by omega)]
  obtain ⟨r, c', m', e1, e2, hR⟩ := op_days h (xs (u + 1))
  rw [e1, e2, Option.bind_some, Option.bind_some, if_pos rfl]
  exact hN _ _ hR
theorem lz_7 {xs : Nat → Int32} {L u : Nat} (hu : u + 7 ≤ L) (hL : L ≤ 3584) {c : nCs} {m : nMd} (h : Rel c m) {NEXT : nCs → nMd → Option Int32} (hN : ∀ c' m', Rel c' m' → NEXT c' m' = some 1) : f_law_7 xs L c m (iI u) NEXT = some 1 := by
  unfold f_law_7
  simp only [la_1 u, la_2 u, nn_ixN (show u + 1 < L by omega) (show L < 2147483648 by omega), nn_ixN (show u + 2 < L by omega) (show L < 2147483648 by omega), iI_cN (show u + 1 < 2147483648 by omega), iI_cN (show u + 2 < 2147483648 by omega)]
  obtain ⟨r, c', m', e1, e2, hR⟩ := op_set h (xs (u + 1)) (xs (u + 2))
  rw [e1, e2, Option.bind_some, Option.bind_some, if_pos rfl]
  exact hN _ _ hR
theorem lz_8 {xs : Nat → Int32} {L u : Nat} (hu : u + 7 ≤ L) (hL : L ≤ 3584) {c : nCs} {m : nMd} (h : Rel c m) {NEXT : nCs → nMd → Option Int32} (hN : ∀ c' m', Rel c' m' → NEXT c' m' = some 1) : f_law_8 xs L c m (iI u) NEXT = some 1 := by
  unfold f_law_8
  simp only [la_1 u, la_2 u, nn_ixN (show u + 1 < L by omega) (show L < 2147483648 by omega), nn_ixN (show u + 2 < L by omega) (show L < 2147483648 by omega), iI_cN (show u + 1 < 2147483648 by omega), iI_cN (show u + 2 < 2147483648 by omega)]
  obtain ⟨r, c', m', e1, e2, hR⟩ := op_move h (xs (u + 1)) (xs (u + 2))
  rw [e1, e2, Option.bind_some, Option.bind_some, if_pos rfl]
  exact hN _ _ hR
theorem lz_9 {xs : Nat → Int32} {L u : Nat} (hu : u + 7 ≤ L) (hL : L ≤ 3584) {c : nCs} {m : nMd} (h : Rel c m) {NEXT : nCs → nMd → Option Int32} (hN : ∀ c' m', Rel c' m' → NEXT c' m' = some 1) : f_law_9 xs L c m (iI u) NEXT = some 1 := by
  unfold f_law_9
  simp only [la_1 u, la_2 u, nn_ixN (show u + 1 < L by omega) (show L < 2147483648 by omega), nn_ixN (show u + 2 < L by omega) (show L < 2147483648 by omega), iI_cN (show u + 1 < 2147483648 by omega), iI_cN (show u + 2 < 2147483648 by omega)]
  obtain ⟨r, c', m', e1, e2, hR⟩ := op_tune h (xs (u + 1)) (xs (u + 2))
  rw [e1, e2, Option.bind_some, Option.bind_some, if_pos rfl]
  exact hN _ _ hR
theorem lz_10 {xs : Nat → Int32} {L u : Nat} (hu : u + 7 ≤ L) (hL : L ≤ 3584) {c : nCs} {m : nMd} (h : Rel c m) {NEXT : nCs → nMd → Option Int32} (hN : ∀ c' m', Rel c' m' → NEXT c' m' = some 1) : f_law_10 xs L c m (iI u) NEXT = some 1 := by
  unfold f_law_10
  simp only [la_1 u, nn_ixN (show u + 1 < L by omega) (show L < 2147483648 by omega), iI_cN (show u + 1 < 2147483648 by omega)]
  obtain ⟨r, c', m', e1, e2, hR⟩ := op_storm h (xs (u + 1))
  rw [e1, e2, Option.bind_some, Option.bind_some, if_pos rfl]
  exact hN _ _ hR
theorem lz_11 {xs : Nat → Int32} {L u : Nat} (hu : u + 7 ≤ L) (hL : L ≤ 3584) {c : nCs} {m : nMd} (h : Rel c m) {NEXT : nCs → nMd → Option Int32} (hN : ∀ c' m', Rel c' m' → NEXT c' m' = some 1) : f_law_11 xs L c m (iI u) NEXT = some 1 := by
  unfold f_law_11
  obtain ⟨r, c', m', e1, e2, hR⟩ := op_undo h 
  rw [e1, e2, Option.bind_some, Option.bind_some, if_pos rfl]
  exact hN _ _ hR
theorem lz_12 {xs : Nat → Int32} {L u : Nat} (hu : u + 7 ≤ L) (hL : L ≤ 3584) {c : nCs} {m : nMd} (h : Rel c m) {NEXT : nCs → nMd → Option Int32} (hN : ∀ c' m', Rel c' m' → NEXT c' m' = some 1) : f_law_12 xs L c m (iI u) NEXT = some 1 := by
  unfold f_law_12
  simp only [la_1 u, nn_ixN (show u + 1 < L by omega) (show L < 2147483648 by omega), iI_cN (show u + 1 < 2147483648 by omega)]
  obtain ⟨r, c', m', e1, e2, hR⟩ := op_seed h (xs (u + 1))
  rw [e1, e2, Option.bind_some, Option.bind_some, if_pos rfl]
  exact hN _ _ hR
theorem lz_13 {xs : Nat → Int32} {L u : Nat} (hu : u + 7 ≤ L) (hL : L ≤ 3584) {c : nCs} {m : nMd} (h : Rel c m) {NEXT : nCs → nMd → Option Int32} (hN : ∀ c' m', Rel c' m' → NEXT c' m' = some 1) : f_law_13 xs L c m (iI u) NEXT = some 1 := by
  unfold f_law_13
  simp only [la_1 u, la_2 u, nn_ixN (show u + 1 < L by omega) (show L < 2147483648 by omega), nn_ixN (show u + 2 < L by omega) (show L < 2147483648 by omega), iI_cN (show u + 1 < 2147483648 by omega), iI_cN (show u + 2 < 2147483648 by omega)]
  obtain ⟨r, c', m', e1, e2, hR⟩ := op_ahead h (xs (u + 1)) (xs (u + 2))
  rw [e1, e2, Option.bind_some, Option.bind_some, if_pos rfl]
  exact hN _ _ hR
theorem lz_14 {xs : Nat → Int32} {L u : Nat} (hu : u + 7 ≤ L) (hL : L ≤ 3584) {c : nCs} {m : nMd} (h : Rel c m) {NEXT : nCs → nMd → Option Int32} (hN : ∀ c' m', Rel c' m' → NEXT c' m' = some 1) : f_law_14 xs L c m (iI u) NEXT = some 1 := by
  unfold f_law_14
  simp only [la_1 u, nn_ixN (show u + 1 < L by omega) (show L < 2147483648 by omega), iI_cN (show u + 1 < 2147483648 by omega)]
  obtain ⟨r, c', m', e1, e2, hR⟩ := op_near h (xs (u + 1))
  rw [e1, e2, Option.bind_some, Option.bind_some, if_pos rfl]
  exact hN _ _ hR
theorem lz_15 {xs : Nat → Int32} {L u : Nat} (hu : u + 7 ≤ L) (hL : L ≤ 3584) {c : nCs} {m : nMd} (h : Rel c m) {NEXT : nCs → nMd → Option Int32} (hN : ∀ c' m', Rel c' m' → NEXT c' m' = some 1) : f_law_15 xs L c m (iI u) NEXT = some 1 := by
  unfold f_law_15
  simp only [la_1 u, la_2 u, nn_ixN (show u + 1 < L by omega) (show L < 2147483648 by omega), nn_ixN (show u + 2 < L by omega) (show L < 2147483648 by omega), iI_cN (show u + 1 < 2147483648 by omega), iI_cN (show u + 2 < 2147483648 by omega)]
  obtain ⟨r, c', m', e1, e2, hR⟩ := op_meet h (xs (u + 1)) (xs (u + 2))
  rw [e1, e2, Option.bind_some, Option.bind_some, if_pos rfl]
  exact hN _ _ hR
theorem lz_16 {xs : Nat → Int32} {L u : Nat} (hu : u + 7 ≤ L) (hL : L ≤ 3584) {c : nCs} {m : nMd} (h : Rel c m) {NEXT : nCs → nMd → Option Int32} (hN : ∀ c' m', Rel c' m' → NEXT c' m' = some 1) : f_law_16 xs L c m (iI u) NEXT = some 1 := by
  unfold f_law_16
  simp only [la_1 u, nn_ixN (show u + 1 < L by omega) (show L < 2147483648 by omega), iI_cN (show u + 1 < 2147483648 by omega)]
  obtain ⟨r, c', m', e1, e2, hR⟩ := op_together h (xs (u + 1))
  rw [e1, e2, Option.bind_some, Option.bind_some, if_pos rfl]
  exact hN _ _ hR
theorem lz_17 {xs : Nat → Int32} {L u : Nat} (hu : u + 7 ≤ L) (hL : L ≤ 3584) {c : nCs} {m : nMd} (h : Rel c m) {NEXT : nCs → nMd → Option Int32} (hN : ∀ c' m', Rel c' m' → NEXT c' m' = some 1) : f_law_17 xs L c m (iI u) NEXT = some 1 := by
  unfold f_law_17
  simp only [la_1 u, la_2 u, nn_ixN (show u + 1 < L by omega) (show L < 2147483648 by omega), nn_ixN (show u + 2 < L by omega) (show L < 2147483648 by omega), iI_cN (show u + 1 < 2147483648 by omega), iI_cN (show u + 2 < 2147483648 by omega)]
  obtain ⟨r, c', m', e1, e2, hR⟩ := op_fix h (xs (u + 1)) (xs (u + 2))
  rw [e1, e2, Option.bind_some, Option.bind_some, if_pos rfl]
  exact hN _ _ hR
theorem lz_18 {xs : Nat → Int32} {L u : Nat} (hu : u + 7 ≤ L) (hL : L ≤ 3584) {c : nCs} {m : nMd} (h : Rel c m) {NEXT : nCs → nMd → Option Int32} (hN : ∀ c' m', Rel c' m' → NEXT c' m' = some 1) : f_law_18 xs L c m (iI u) NEXT = some 1 := by
  unfold f_law_18
  simp only [la_1 u, la_2 u, nn_ixN (show u + 1 < L by omega) (show L < 2147483648 by omega), nn_ixN (show u + 2 < L by omega) (show L < 2147483648 by omega), iI_cN (show u + 1 < 2147483648 by omega), iI_cN (show u + 2 < 2147483648 by omega)]
  obtain ⟨r, e1, e2⟩ := op_free h (xs (u + 1)) (xs (u + 2))
  rw [e1, e2, Option.bind_some, Option.bind_some, if_pos (by rw [lg_eq0])]
  exact hN _ _ h
theorem lz_19 {xs : Nat → Int32} {L u : Nat} (hu : u + 7 ≤ L) (hL : L ≤ 3584) {c : nCs} {m : nMd} (h : Rel c m) {NEXT : nCs → nMd → Option Int32} (hN : ∀ c' m', Rel c' m' → NEXT c' m' = some 1) : f_law_19 xs L c m (iI u) NEXT = some 1 := by
  unfold f_law_19
  simp only [la_1 u, la_2 u, la_3 u, la_4 u, nn_ixN (show u + 1 < L by omega) (show L < 2147483648 by omega), nn_ixN (show u + 2 < L by omega) (show L < 2147483648 by omega), nn_ixN (show u + 3 < L by omega) (show L < 2147483648 by omega), nn_ixN (show u + 4 < L by omega) (show L < 2147483648 by omega), iI_cN (show u + 1 < 2147483648 by omega), iI_cN (show u + 2 < 2147483648 by omega), iI_cN (show u + 3 < 2147483648 by omega), iI_cN (show u + 4 < 2147483648 by omega)]
  obtain ⟨r, c', m', e1, e2, hR⟩ := op_hear h (xs (u + 1)) (xs (u + 2)) (xs (u + 3)) (xs (u + 4))
  rw [e1, e2, Option.bind_some, Option.bind_some, if_pos rfl]
  exact hN _ _ hR
theorem lz_20 {xs : Nat → Int32} {L u : Nat} (hu : u + 7 ≤ L) (hL : L ≤ 3584) {c : nCs} {m : nMd} (h : Rel c m) {NEXT : nCs → nMd → Option Int32} (hN : ∀ c' m', Rel c' m' → NEXT c' m' = some 1) : f_law_20 xs L c m (iI u) NEXT = some 1 := by
  unfold f_law_20
  obtain ⟨r, c', m', e1, e2, hR⟩ := op_again h 
  rw [e1, e2, Option.bind_some, Option.bind_some, if_pos rfl]
  exact hN _ _ hR
theorem lz_21 {xs : Nat → Int32} {L u : Nat} (hu : u + 7 ≤ L) (hL : L ≤ 3584) {c : nCs} {m : nMd} (h : Rel c m) {NEXT : nCs → nMd → Option Int32} (hN : ∀ c' m', Rel c' m' → NEXT c' m' = some 1) : f_law_21 xs L c m (iI u) NEXT = some 1 := by
  unfold f_law_21
  simp only [la_1 u, nn_ixN (show u + 1 < L by omega) (show L < 2147483648 by omega), iI_cN (show u + 1 < 2147483648 by omega)]
  obtain ⟨r, c', m', e1, e2, hR⟩ := op_worst h (xs (u + 1))
  rw [e1, e2, Option.bind_some, Option.bind_some, if_pos rfl]
  exact hN _ _ hR
theorem lz_22 {xs : Nat → Int32} {L u : Nat} (hu : u + 7 ≤ L) (hL : L ≤ 3584) {c : nCs} {m : nMd} (h : Rel c m) {NEXT : nCs → nMd → Option Int32} (hN : ∀ c' m', Rel c' m' → NEXT c' m' = some 1) : f_law_22 xs L c m (iI u) NEXT = some 1 := by
  unfold f_law_22
  simp only [la_1 u, la_2 u, nn_ixN (show u + 1 < L by omega) (show L < 2147483648 by omega), nn_ixN (show u + 2 < L by omega) (show L < 2147483648 by omega), iI_cN (show u + 1 < 2147483648 by omega), iI_cN (show u + 2 < 2147483648 by omega)]
  obtain ⟨r, m', e1, e2, hR⟩ := op_fog h (xs (u + 1)) (xs (u + 2))
  rw [e1, e2, Option.bind_some, Option.bind_some, if_pos rfl]
  exact hN _ _ hR
theorem lz_23 {xs : Nat → Int32} {L u : Nat} (hu : u + 7 ≤ L) (hL : L ≤ 3584) {c : nCs} {m : nMd} (h : Rel c m) {NEXT : nCs → nMd → Option Int32} (hN : ∀ c' m', Rel c' m' → NEXT c' m' = some 1) : f_law_23 xs L c m (iI u) NEXT = some 1 := by
  unfold f_law_23
  obtain ⟨r, c', m', e1, e2, hR⟩ := op_image h 
  rw [e1, e2, Option.bind_some, Option.bind_some, if_pos rfl]
  exact hN _ _ hR
theorem lz_24 {xs : Nat → Int32} {L u : Nat} (hu : u + 7 ≤ L) (hL : L ≤ 3584) {c : nCs} {m : nMd} (h : Rel c m) {NEXT : nCs → nMd → Option Int32} (hN : ∀ c' m', Rel c' m' → NEXT c' m' = some 1) : f_law_24 xs L c m (iI u) NEXT = some 1 := by
  unfold f_law_24
  obtain ⟨r, c', m', e1, e2, hR⟩ := op_restore h 
  rw [e1, e2, Option.bind_some, Option.bind_some, if_pos rfl]
  exact hN _ _ hR
theorem lz_25 {xs : Nat → Int32} {L u : Nat} (hu : u + 7 ≤ L) (hL : L ≤ 3584) {c : nCs} {m : nMd} (h : Rel c m) {NEXT : nCs → nMd → Option Int32} (hN : ∀ c' m', Rel c' m' → NEXT c' m' = some 1) : f_law_25 xs L c m (iI u) NEXT = some 1 := by
  unfold f_law_25
  simp only [la_1 u, la_2 u, la_3 u, la_4 u, la_5 u, la_6 u, nn_ixN (show u + 1 < L by omega) (show L < 2147483648 by omega), nn_ixN (show u + 2 < L by omega) (show L < 2147483648 by omega), nn_ixN (show u + 3 < L by omega) (show L < 2147483648 by omega), nn_ixN (show u + 4 < L by omega) (show L < 2147483648 by omega), nn_ixN (show u + 5 < L by omega) (show L < 2147483648 by omega), nn_ixN (show u + 6 < L by omega) (show L < 2147483648 by omega), iI_cN (show u + 1 < 2147483648 by omega), iI_cN (show u + 2 < 2147483648 by omega), iI_cN (show u + 3 < 2147483648 by omega), iI_cN (show u + 4 < 2147483648 by omega), iI_cN (show u + 5 < 2147483648 by omega), iI_cN (show u + 6 < 2147483648 by omega)]
  obtain ⟨r, c', m', e1, e2, hR⟩ := op_heard h (xs (u + 1)) (xs (u + 2)) (xs (u + 3)) (xs (u + 4)) (xs (u + 5)) (xs (u + 6))
  rw [e1, e2, Option.bind_some, Option.bind_some, if_pos rfl]
  exact hN _ _ hR
theorem lz_26 {xs : Nat → Int32} {L u : Nat} (hu : u + 7 ≤ L) (hL : L ≤ 3584) {c : nCs} {m : nMd} (h : Rel c m) {NEXT : nCs → nMd → Option Int32} (hN : ∀ c' m', Rel c' m' → NEXT c' m' = some 1) : f_law_26 xs L c m (iI u) NEXT = some 1 := by
  unfold f_law_26
  simp only [la_1 u, la_2 u, la_3 u, la_4 u, la_5 u, nn_ixN (show u + 1 < L by omega) (show L < 2147483648 by omega), nn_ixN (show u + 2 < L by omega) (show L < 2147483648 by omega), nn_ixN (show u + 3 < L by omega) (show L < 2147483648 by omega), nn_ixN (show u + 4 < L by omega) (show L < 2147483648 by omega), nn_ixN (show u + 5 < L by omega) (show L < 2147483648 by omega), iI_cN (show u + 1 < 2147483648 by omega), iI_cN (show u + 2 < 2147483648 by omega), iI_cN (show u + 3 < 2147483648 by omega), iI_cN (show u + 4 < 2147483648 by omega), iI_cN (show u + 5 < 2147483648 by omega)]
  obtain ⟨r, c', m', e1, e2, hR⟩ := op_film h (xs (u + 1)) (xs (u + 2)) (xs (u + 3)) (xs (u + 4)) (xs (u + 5))
  rw [e1, e2, Option.bind_some, Option.bind_some, if_pos rfl]
  exact hN _ _ hR
theorem lz_27 {xs : Nat → Int32} {L u : Nat} (hu : u + 7 ≤ L) (hL : L ≤ 3584) {c : nCs} {m : nMd} (h : Rel c m) {NEXT : nCs → nMd → Option Int32} (hN : ∀ c' m', Rel c' m' → NEXT c' m' = some 1) : f_law_27 xs L c m (iI u) NEXT = some 1 := by
  unfold f_law_27
  simp only [la_1 u, la_2 u, la_3 u, nn_ixN (show u + 1 < L by omega) (show L < 2147483648 by omega), nn_ixN (show u + 2 < L by omega) (show L < 2147483648 by omega), nn_ixN (show u + 3 < L by omega) (show L < 2147483648 by omega), iI_cN (show u + 1 < 2147483648 by omega), iI_cN (show u + 2 < 2147483648 by omega), iI_cN (show u + 3 < 2147483648 by omega)]
  obtain ⟨r, c', m', e1, e2, hR⟩ := op_sheet h (xs (u + 1)) (xs (u + 2)) (xs (u + 3))
  rw [e1, e2, Option.bind_some, Option.bind_some, if_pos rfl]
  exact hN _ _ hR
theorem lz_28 {xs : Nat → Int32} {L u : Nat} (hu : u + 7 ≤ L) (hL : L ≤ 3584) {c : nCs} {m : nMd} (h : Rel c m) {NEXT : nCs → nMd → Option Int32} (hN : ∀ c' m', Rel c' m' → NEXT c' m' = some 1) : f_law_28 xs L c m (iI u) NEXT = some 1 := by
  unfold f_law_28
  simp only [la_1 u, nn_ixN (show u + 1 < L by omega) (show L < 2147483648 by omega), iI_cN (show u + 1 < 2147483648 by omega)]
  obtain ⟨r, c', m', e1, e2, hR⟩ := op_drop h (xs (u + 1))
  rw [e1, e2, Option.bind_some, Option.bind_some, if_pos rfl]
  exact hN _ _ hR
theorem lz_29 {xs : Nat → Int32} {L u : Nat} (hu : u + 7 ≤ L) (hL : L ≤ 3584) {c : nCs} {m : nMd} (h : Rel c m) {NEXT : nCs → nMd → Option Int32} (hN : ∀ c' m', Rel c' m' → NEXT c' m' = some 1) : f_law_29 xs L c m (iI u) NEXT = some 1 := by
  unfold f_law_29
  simp only [la_1 u, la_2 u, la_3 u, la_4 u, la_5 u, nn_ixN (show u + 1 < L by omega) (show L < 2147483648 by omega), nn_ixN (show u + 2 < L by omega) (show L < 2147483648 by omega), nn_ixN (show u + 3 < L by omega) (show L < 2147483648 by omega), nn_ixN (show u + 4 < L by omega) (show L < 2147483648 by omega), nn_ixN (show u + 5 < L by omega) (show L < 2147483648 by omega), iI_cN (show u + 1 < 2147483648 by omega), iI_cN (show u + 2 < 2147483648 by omega), iI_cN (show u + 3 < 2147483648 by omega), iI_cN (show u + 4 < 2147483648 by omega), iI_cN (show u + 5 < 2147483648 by omega)]
  obtain ⟨r, c', m', e1, e2, hR⟩ := op_item h (xs (u + 1)) (xs (u + 2)) (xs (u + 3)) ((((xs (u + 4)).toInt64) <<< ((32 : Int32).toInt64 &&& 63)) ||| (((xs (u + 5)).toInt64) &&& (4294967295 : Int64)))
  rw [e1, e2, Option.bind_some, Option.bind_some, if_pos rfl]
  exact hN _ _ hR
theorem lz_30 {xs : Nat → Int32} {L u : Nat} (hu : u + 7 ≤ L) (hL : L ≤ 3584) {c : nCs} {m : nMd} (h : Rel c m) {NEXT : nCs → nMd → Option Int32} (hN : ∀ c' m', Rel c' m' → NEXT c' m' = some 1) : f_law_30 xs L c m (iI u) NEXT = some 1 := by
  unfold f_law_30
  simp only [la_1 u, la_2 u, la_3 u, la_4 u, la_5 u, nn_ixN (show u + 1 < L by omega) (show L < 2147483648 by omega), nn_ixN (show u + 2 < L by omega) (show L < 2147483648 by omega), nn_ixN (show u + 3 < L by omega) (show L < 2147483648 by omega), nn_ixN (show u + 4 < L by omega) (show L < 2147483648 by omega), nn_ixN (show u + 5 < L by omega) (show L < 2147483648 by omega), iI_cN (show u + 1 < 2147483648 by omega), iI_cN (show u + 2 < 2147483648 by omega), iI_cN (show u + 3 < 2147483648 by omega), iI_cN (show u + 4 < 2147483648 by omega), iI_cN (show u + 5 < 2147483648 by omega)]
  obtain ⟨r, c', m', e1, e2, hR⟩ := op_copy h (xs (u + 1)) (xs (u + 2)) (xs (u + 3)) (xs (u + 4)) (xs (u + 5))
  rw [e1, e2, Option.bind_some, Option.bind_some, if_pos rfl]
  exact hN _ _ hR
theorem law_pure {xs : Nat → Int32} {L : Nat} (hL : L ≤ 3584) : ∀ (n u : Nat) (c : nCs) (m : nMd), Rel c m → u ≤ L → L < u + 7 * n → f_law_L xs L n c m (iI u) = some 1 := by
  intro n
  induction n with
  | zero => intro u c m h h1 h2; omega
  | succ n ih =>
    intro u c m h h1 h2
    rw [f_law_L, iI_ofNat, show (7 : Int32) = iI 7 from rfl, iI_sub]
    by_cases q : (L : Int) - 7 < u
    · rw [if_pos (by rw [iI_lt (by omega) (by omega) (by omega) (by omega)]; exact q)]
    have hu : u + 7 ≤ L := by omega
    rw [if_neg (by rw [iI_lt (by omega) (by omega) (by omega) (by omega)]; exact q), nn_ixN (by omega) (by omega), show iI (u : Int) + iI 7 = iI ((u + 7 : Nat) : Int) from la_7 u]
    have hN : ∀ c' m', Rel c' m' → (fun c m => f_law_L xs L n c m (iI ((u + 7 : Nat) : Int))) c' m' = some 1 := fun c' m' hR => ih (u + 7) c' m' hR hu (by omega)
    refine ite1 (lz_0 hu hL h hN) ?_
    refine ite1 (lz_1 hu hL h hN) ?_
    refine ite1 (lz_2 hu hL h hN) ?_
    refine ite1 (lz_3 hu hL h hN) ?_
    refine ite1 (lz_4 hu hL h hN) ?_
    refine ite1 (lz_5 hu hL h hN) ?_
    refine ite1 (lz_6 hu hL h hN) ?_
    refine ite1 (lz_7 hu hL h hN) ?_
    refine ite1 (lz_8 hu hL h hN) ?_
    refine ite1 (lz_9 hu hL h hN) ?_
    refine ite1 (lz_10 hu hL h hN) ?_
    refine ite1 (lz_11 hu hL h hN) ?_
    refine ite1 (lz_12 hu hL h hN) ?_
    refine ite1 (lz_13 hu hL h hN) ?_
    refine ite1 (lz_14 hu hL h hN) ?_
    refine ite1 (lz_15 hu hL h hN) ?_
    refine ite1 (lz_16 hu hL h hN) ?_
    refine ite1 (lz_17 hu hL h hN) ?_
    refine ite1 (lz_18 hu hL h hN) ?_
    refine ite1 (lz_19 hu hL h hN) ?_
    refine ite1 (lz_20 hu hL h hN) ?_
    refine ite1 (lz_21 hu hL h hN) ?_
    refine ite1 (lz_22 hu hL h hN) ?_
    refine ite1 (lz_23 hu hL h hN) ?_
    refine ite1 (lz_24 hu hL h hN) ?_
    refine ite1 (lz_25 hu hL h hN) ?_
    refine ite1 (lz_26 hu hL h hN) ?_
    refine ite1 (lz_27 hu hL h hN) ?_
    refine ite1 (lz_28 hu hL h hN) ?_
    refine ite1 (lz_29 hu hL h hN) ?_
    refine ite1 (lz_30 hu hL h hN) ?_
    exact hN c m h
