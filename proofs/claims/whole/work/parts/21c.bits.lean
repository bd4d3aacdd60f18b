theorem sum4 {s0 s1 s2 s3 s4 s5 s6 s7 : Nat} (h0 : s0 ≤ 8) (h1 : s1 ≤ 8) (h2 : s2 ≤ 8) (h3 : s3 ≤ 8) (h4 : s4 ≤ 8) (h5 : s5 ≤ 8) (h6 : s6 ≤ 8) (h7 : s7 ≤ 8) {x x4 x5 x6 : Nat} (hx : x = s0 + 256 * (s1 + 256 * (s2 + 256 * (s3 + 256 * (s4 + 256 * (s5 + 256 * (s6 + 256 * s7))))))) (e4 : x4 = (x + x / 256) % 18446744073709551616) (e5 : x5 = (x4 + x4 / 65536) % 18446744073709551616) (e6 : x6 = (x5 + x5 / 4294967296) % 18446744073709551616) : x6 % 128 = s0 + s1 + s2 + s3 + s4 + s5 + s6 + s7 := by
  obtain ⟨y6, hy6⟩ : ∃ y, y = s6 + 256 * s7 := ⟨_, rfl⟩
  obtain ⟨y5, hy5⟩ : ∃ y, y = s5 + 256 * y6 := ⟨_, rfl⟩
  obtain ⟨y4, hy4⟩ : ∃ y, y = s4 + 256 * y5 := ⟨_, rfl⟩
  obtain ⟨y3, hy3⟩ : ∃ y, y = s3 + 256 * y4 := ⟨_, rfl⟩
  obtain ⟨y2, hy2⟩ : ∃ y, y = s2 + 256 * y3 := ⟨_, rfl⟩
  obtain ⟨y1, hy1⟩ : ∃ y, y = s1 + 256 * y2 := ⟨_, rfl⟩
  rw [← hy6, ← hy5, ← hy4, ← hy3, ← hy2, ← hy1] at hx
  have b6 : y6 ≤ 2056 := by clear hx hy5 hy4 hy3 hy2 hy1 e4 e5 e6; omega
  have b5 : y5 ≤ 526344 := by clear hx hy6 hy4 hy3 hy2 hy1 e4 e5 e6; omega
  have b4 : y4 ≤ 134744072 := by clear hx hy6 hy5 hy3 hy2 hy1 e4 e5 e6; omega
  have b3 : y3 ≤ 34494482440 := by clear hx hy6 hy5 hy4 hy2 hy1 e4 e5 e6; omega
  have b2 : y2 ≤ 8830587504648 := by clear hx hy6 hy5 hy4 hy3 hy1 e4 e5 e6; omega
  have b1 : y1 ≤ 2260630401189896 := by clear hx hy6 hy5 hy4 hy3 hy2 e4 e5 e6; omega
  have b0 : x ≤ 578721382704613384 := by clear hy6 hy5 hy4 hy3 hy2 hy1 e4 e5 e6; omega
  have a4 : x4 = x + y1 := by
    have : x / 256 = y1 := by clear hy6 hy5 hy4 hy3 hy2 hy1 e4 e5 e6; omega
    rw [e4, this]
    exact Nat.mod_eq_of_lt (by clear hx hy6 hy5 hy4 hy3 hy2 hy1 e4 e5 e6; omega)
  obtain ⟨z1, hz1⟩ : ∃ z, z = y1 + y2 := ⟨_, rfl⟩
  obtain ⟨z2, hz2⟩ : ∃ z, z = y2 + y3 := ⟨_, rfl⟩
  obtain ⟨z3, hz3⟩ : ∃ z, z = y3 + y4 := ⟨_, rfl⟩
  obtain ⟨z4, hz4⟩ : ∃ z, z = y4 + y5 := ⟨_, rfl⟩
  obtain ⟨z5, hz5⟩ : ∃ z, z = y5 + y6 := ⟨_, rfl⟩
  obtain ⟨z6, hz6⟩ : ∃ z, z = y6 + s7 := ⟨_, rfl⟩
  have q0 : x4 = (s0 + s1) + 256 * z1 := by rw [a4, hx, hz1]; clear hx hz1 e4 e5 e6; omega
  have q1 : z1 = (s1 + s2) + 256 * z2 := by rw [hz1, hz2]; clear hx e4 e5 e6 hy3 hy4 hy5 hy6; omega
  have q2 : z2 = (s2 + s3) + 256 * z3 := by rw [hz2, hz3]; clear hx e4 e5 e6 hy1 hy4 hy5 hy6; omega
  have q3 : z3 = (s3 + s4) + 256 * z4 := by rw [hz3, hz4]; clear hx e4 e5 e6 hy1 hy2 hy5 hy6; omega
  have q4 : z4 = (s4 + s5) + 256 * z5 := by rw [hz4, hz5]; clear hx e4 e5 e6 hy1 hy2 hy3 hy6; omega
  have q5 : z5 = (s5 + s6) + 256 * z6 := by rw [hz5, hz6]; clear hx e4 e5 e6 hy1 hy2 hy3 hy4; omega
  have bx4 : x4 ≤ 1157442765409226768 := by clear hx q0 e4 e5 e6; omega
  have a5 : x5 = x4 + z2 := by
    have : x4 / 65536 = z2 := by
      rw [q0, q1]; clear hx q0 q1 q2 q3 q4 q5 e4 e5 e6 hz1 hz2 hz3 hz4 hz5 hz6 hy1 hy2 hy3 hy4 hy5 hy6 a4 b0 b1 b2 b3 b4 b5 b6 bx4; omega
    rw [e5, this]
    exact Nat.mod_eq_of_lt (by clear hx q0 q1 q2 q3 q4 q5 e4 e5 e6 hy1 hy2 hy3 hy4 hy5 hy6 this; omega)
  obtain ⟨w1, hw1⟩ : ∃ w, w = z1 + z3 := ⟨_, rfl⟩
  obtain ⟨w2, hw2⟩ : ∃ w, w = z2 + z4 := ⟨_, rfl⟩
  obtain ⟨w3, hw3⟩ : ∃ w, w = z3 + z5 := ⟨_, rfl⟩
  obtain ⟨w4, hw4⟩ : ∃ w, w = z4 + z6 := ⟨_, rfl⟩
  obtain ⟨w5, hw5⟩ : ∃ w, w = z5 + s7 := ⟨_, rfl⟩
  have r6 : z6 = (s6 + s7) + 256 * s7 := by clear hx q0 q1 q2 q3 q4 q5 e4 e5 e6; omega
  have r0 : x5 = (s0 + s1 + (s2 + s3)) + 256 * w1 := by rw [a5, q0, q2, hw1]; omega
  have r1 : w1 = (s1 + s2 + (s3 + s4)) + 256 * w2 := by rw [hw1, q1, q3, hw2]; omega
  have r2 : w2 = (s2 + s3 + (s4 + s5)) + 256 * w3 := by rw [hw2, q2, q4, hw3]; omega
  have r3 : w3 = (s3 + s4 + (s5 + s6)) + 256 * w4 := by rw [hw3, q3, q5, hw4]; omega
  have r4 : w4 = (s4 + s5 + (s6 + s7)) + 256 * w5 := by rw [hw4, q4, r6, hw5]; omega
  have bx5 : x5 ≤ 2314885530818453536 := by
    have : z2 ≤ x4 := by clear hx q2 q3 q4 q5 e4 e5 e6 hw1 hw2 hw3 hw4 hw5 r0 r1 r2 r3 r4 a5 hz1 hz2 hz3 hz4 hz5 hz6 hy1 hy2 hy3 hy4 hy5 hy6; omega
    clear hx q0 q1 q2 q3 q4 q5 e4 e5 e6 hw1 hw2 hw3 hw4 hw5 r0 r1 r2 r3 r4 hz1 hz2 hz3 hz4 hz5 hz6 hy1 hy2 hy3 hy4 hy5 hy6
    omega
  clear hx q0 q1 q2 q3 q4 q5 e4 e5 hw1 hw2 hw3 hw4 hw5 hz1 hz2 hz3 hz4 hz5 hz6 hy1 hy2 hy3 hy4 hy5 hy6 a4 a5 b0 b1 b2 b3 b4 b5 b6 bx4 r6
  have a6 : x6 = x5 + w4 := by
    have : x5 / 4294967296 = w4 := by
      have g1 : x5 / 256 = w1 := by clear r1 r2 r3 r4 e6; omega
      have g2 : w1 / 256 = w2 := by clear r0 r2 r3 r4 e6; omega
      have g3 : w2 / 256 = w3 := by clear r0 r1 r3 r4 e6; omega
      have g4 : w3 / 256 = w4 := by clear r0 r1 r2 r4 e6; omega
      rw [← g4, ← g3, ← g2, ← g1, Nat.div_div_eq_div_mul, Nat.div_div_eq_div_mul, Nat.div_div_eq_div_mul]
    have h7 : w4 ≤ x5 := by rw [← this]; exact Nat.div_le_self _ _
    rw [e6, this]
    exact Nat.mod_eq_of_lt (by clear r0 r1 r2 r3 r4 e6 this; omega)
  clear e6 bx5
  rw [a6, r0, r4]
  clear r0 r1 r2 r3 r4 a6
  omega
