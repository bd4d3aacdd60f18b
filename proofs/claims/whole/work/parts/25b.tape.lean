theorem j_num {m : nMd} {L : Nat → Int32} {Z : Nat → Int} {t : Nat} (hz : ps_ok Z t) (hL : ∀ i, i < t → L i = iI (Z i)) (hT : g_Md_typed m = iI t) (hA : ∀ i, i < t → g_Md_tape m i = iI (Z i)) {p : Nat} (hp : p ≤ t) {hi : Int} (h1 : 9 ≤ hi) (h2 : hi ≤ 99) (r : Nat → Int32) : (∃ q v v2 p', q ≤ t ∧ p' ≤ t ∧ f_X4_readNumber (tz L t p 0) (iI hi) = some (v, tz L t p' (-20 - (q : Int))) ∧ f_X7_number (mm m p 0 r) (iI hi) = some (v2, mm m q 1 r)) ∨ (∃ (a : Int) (p' : Nat), 0 ≤ a ∧ a ≤ hi ∧ p' ≤ t ∧ f_X4_readNumber (tz L t p 0) (iI hi) = some (iI a, tz L t p' 0) ∧ f_X7_number (mm m p 0 r) (iI hi) = some (iI a, mm m p' 0 r)) := by
  have ht := hz.1
  have hb := ps_kb Z hp
  have hh := ps_hb hz p
  by_cases dg : 48 ≤ ps_h Z t p ∧ ps_h Z t p ≤ 57
  rotate_left
  · obtain ⟨v, e⟩ := c_numF hz hL hb.2 (show ps_k Z t p ≤ 60 by omega) (show 0 ≤ hi by omega) (show hi ≤ 1000 by omega)
    refine Or.inl ⟨ps_k Z t p, v, 0, ps_k Z t p, hb.2, hb.2, ?_, ?_⟩
    · unfold f_X4_readNumber
      rw [c_coming hz hL hp, Option.bind_some]
      dsimp only
      rw [c_isDig (by omega) (by omega), Option.bind_some, if_neg dg, if_pos rfl, tz_p, c_fault0, Option.bind_some]
      exact e
    · unfold f_X7_number f_X7_number_J15
      rw [mm_f, if_pos rfl, m_here hz hT hA hp, Option.bind_some]
      dsimp only
      rw [mm_f, if_pos rfl, i_48_57 (by omega) (by omega), Option.bind_some, if_neg dg, if_pos rfl, mm_sf, show (100000 : Nat) = 99999 + 1 from rfl, f_X7_number_L54, mm_f, if_neg one0, if_neg one0]
  · obtain ⟨hq, he⟩ := ps_hi (Z := Z) (t := t) (p := p) (by omega)
    have ec : f_X4_readNumber (tz L t p 0) (iI hi) = f_X4_readNumber_J18 (tz L t (ps_k Z t p) 0) (iI hi) := by
      unfold f_X4_readNumber
      rw [c_coming hz hL hp, Option.bind_some]
      dsimp only
      rw [c_isDig (by omega) (by omega), Option.bind_some, if_pos dg, if_neg one0]
    rw [he] at dg
    have em : f_X7_number (mm m p 0 r) (iI hi) = f_X7_number_L54 (99997 + 1 + 1) (mm m (ps_k Z t p + 1) 0 r) (iI hi) (iI (ps_k Z t p)) (iI (Z (ps_k Z t p) - 48)) (fun m_25 b1_22 b3_23 b4_24 => if (g_Md_isFault m_25) = 0 then if b4_24 ≤ b1_22 then some (b4_24, m_25) else some (b4_24, (s_Md_place (s_Md_isFault m_25 (1 : Int32)) b3_23)) else some (b4_24, m_25)) := by
      unfold f_X7_number f_X7_number_J15
      rw [mm_f, if_pos rfl, m_here hz hT hA hp, Option.bind_some]
      dsimp only
      rw [mm_f, if_pos rfl, i_48_57 (by omega) (by omega), Option.bind_some, he, if_pos dg, if_neg one0, mm_sf, show (100000 : Nat) = 99997 + 1 + 1 + 1 from rfl, f_X7_number_L54, mm_f, if_pos rfl, mm_t, hT, mm_p, if_neg (by rw [iI_leN (by omega) (by omega)]; omega), if_neg (by rw [iI_sub, show (2 : Int32) = iI 2 from rfl, iI_le (by omega) (by omega) (by omega) (by omega)]; omega), nn_ixN (by omega) (by omega), nn_ixN (by omega) (by omega), mm_a, iI_cN (by omega), hA _ hq, i_48_57 (by omega) (by omega), Option.bind_some, if_pos dg, if_neg one0, iI_s, mm_sp]
      rw [show (10 : Int32) * (0 : Int32) + iI (Z (ps_k Z t p)) - (48 : Int32) = iI (Z (ps_k Z t p) - 48) from by rw [show (10 : Int32) * (0 : Int32) = iI 0 from rfl, show (48 : Int32) = iI 48 from rfl, iI_add, iI_sub, Int.zero_add]]
    generalize ps_k Z t p = q at *
    have hle : iI (Z q - 48) ≤ iI hi := by rw [iI_le (by omega) (by omega) (by omega) (by omega)]; omega
    have z2 : ¬ (2 : Int32) ≤ iI ((q + 1 : Nat) : Int) - iI (q : Int) := by rw [iI_sub, show (2 : Int32) = iI 2 from rfl, iI_le (by omega) (by omega) (by omega) (by omega)]; omega
    have z3 : (2 : Int32) ≤ iI ((q + 1 + 1 : Nat) : Int) - iI (q : Int) := by rw [iI_sub, show (2 : Int32) = iI 2 from rfl, iI_le (by omega) (by omega) (by omega) (by omega)]; omega
    by_cases k : t ≤ q + 1
    · have zk : iI (t : Int) ≤ iI ((q + 1 : Nat) : Int) := by rw [iI_leN (by omega) (by omega)]; exact k
      refine Or.inr ⟨Z q - 48, q + 1, by omega, by omega, by omega, ?_, ?_⟩
      · rw [ec]
        unfold f_X4_readNumber_J18
        rw [c_dig0 hz hL hq dg, Option.bind_some]
        dsimp only
        rw [tz_n, tz_p, if_pos zk, if_pos hle]
      · rw [em, f_X7_number_L54, mm_f, if_pos rfl, mm_t, hT, mm_p, if_pos zk, if_pos rfl, if_pos hle]
    have zk : ¬ iI (t : Int) ≤ iI ((q + 1 : Nat) : Int) := by rw [iI_leN (by omega) (by omega)]; exact k
    have hb1 := hz.2 (q + 1) (by omega)
    by_cases dg2 : 48 ≤ Z (q + 1) ∧ Z (q + 1) ≤ 57
    rotate_left
    · refine Or.inr ⟨Z q - 48, q + 1, by omega, by omega, by omega, ?_, ?_⟩
      · rw [ec]
        unfold f_X4_readNumber_J18
        rw [c_dig0 hz hL hq dg, Option.bind_some]
        dsimp only
        rw [tz_n, tz_p, if_neg zk, nn_ixN (by omega) (by omega), tz_l, iI_cN (by omega), hL _ (by omega), c_isDig (by omega) (by omega), Option.bind_some, if_neg dg2, if_pos rfl, if_pos hle]
      · rw [em, f_X7_number_L54, mm_f, if_pos rfl, mm_t, hT, mm_p, if_neg zk, if_neg z2, nn_ixN (by omega) (by omega), mm_a, iI_cN (by omega), hA _ (by omega), i_48_57 (by omega) (by omega), Option.bind_some, if_neg dg2, if_pos rfl, if_pos rfl, if_pos hle]
    have ev1 : iI (Z q - 48) * (10 : Int32) + iI (Z (q + 1) - 48) = iI ((Z q - 48) * 10 + (Z (q + 1) - 48)) := by rw [show (10 : Int32) = iI 10 from rfl, iI_mul, iI_add]
    have ev2 : (10 : Int32) * iI (Z q - 48) + iI (Z (q + 1)) - (48 : Int32) = iI ((Z q - 48) * 10 + (Z (q + 1) - 48)) := by rw [show (10 : Int32) = iI 10 from rfl, show (48 : Int32) = iI 48 from rfl, iI_mul, iI_add, iI_sub]; congr 1; omega
    have ecc : f_X4_readNumber (tz L t p 0) (iI hi) = if iI ((Z q - 48) * 10 + (Z (q + 1) - 48)) ≤ iI hi then some (iI ((Z q - 48) * 10 + (Z (q + 1) - 48)), tz L t (q + 1 + 1) 0) else some (iI ((Z q - 48) * 10 + (Z (q + 1) - 48)), tz L t (q + 1 + 1) (-20 - (q : Int))) := by
      rw [ec]
      unfold f_X4_readNumber_J18
      rw [c_dig0 hz hL hq dg, Option.bind_some]
      dsimp only
      rw [tz_n, tz_p, if_neg zk, nn_ixN (by omega) (by omega), tz_l, iI_cN (by omega), hL _ (by omega), c_isDig (by omega) (by omega), Option.bind_some, if_pos dg2, if_neg one0, c_dig0 hz hL (by omega) dg2, Option.bind_some]
      dsimp only
      rw [ev1, tz_p, c_fault0, Option.bind_some]
    have emm : f_X7_number (mm m p 0 r) (iI hi) = if iI ((Z q - 48) * 10 + (Z (q + 1) - 48)) ≤ iI hi then some (iI ((Z q - 48) * 10 + (Z (q + 1) - 48)), mm m (q + 1 + 1) 0 r) else some (iI ((Z q - 48) * 10 + (Z (q + 1) - 48)), mm m q 1 r) := by
      rw [em, f_X7_number_L54, mm_f, if_pos rfl, mm_t, hT, mm_p, if_neg zk, if_neg z2, nn_ixN (by omega) (by omega), nn_ixN (by omega) (by omega), mm_a, iI_cN (by omega), hA _ (by omega), i_48_57 (by omega) (by omega), Option.bind_some, if_pos dg2, if_neg one0, iI_s, mm_sp, ev2, f_X7_number_L54, mm_f, if_pos rfl, mm_t, hT, mm_p]
      by_cases k2 : t ≤ q + 1 + 1
      · rw [if_pos (by rw [iI_leN (by omega) (by omega)]; exact k2), if_pos rfl, mm_sf, mm_sp]
      · rw [if_neg (by rw [iI_leN (by omega) (by omega)]; exact k2), if_pos z3, if_pos rfl, mm_sf, mm_sp]
    by_cases k3 : (Z q - 48) * 10 + (Z (q + 1) - 48) ≤ hi
    · have z4 : iI ((Z q - 48) * 10 + (Z (q + 1) - 48)) ≤ iI hi := by rw [iI_le (by omega) (by omega) (by omega) (by omega)]; exact k3
      rw [if_pos z4] at ecc emm
      exact Or.inr ⟨_, q + 1 + 1, by omega, k3, by omega, ecc, emm⟩
    · have z4 : ¬ iI ((Z q - 48) * 10 + (Z (q + 1) - 48)) ≤ iI hi := by rw [iI_le (by omega) (by omega) (by omega) (by omega)]; exact k3
      rw [if_neg z4] at ecc emm
      exact Or.inl ⟨q, _, _, q + 1 + 1, by omega, by omega, ecc, emm⟩
theorem m_F241 (m : nMd) (q : Nat) (r : Nat → Int32) (u1 u3 u4 u5 u6 u7 : Int32) (RC K : nMd → Int32 → Option (Int32 × nMd)) : f_X7_villagesRead_J241 (mm m q 1 r) u1 u3 u4 u5 u6 u7 RC K = RC (mm m q 1 r) (u1 + 1) := by
  unfold f_X7_villagesRead_J241
  rw [mm_f, if_neg one0]
theorem m_F188 (m : nMd) (q : Nat) (r : Nat → Int32) (u1 u3 u4 u5 s0 : Int32) (RC K : nMd → Int32 → Option (Int32 × nMd)) : f_X7_villagesRead_J188 (mm m q 1 r) u1 u3 u4 u5 s0 RC K = RC (mm m q 1 r) (u1 + 1) := by
  obtain ⟨z, z1, z2, rfl⟩ := iI_of s0
  unfold f_X7_villagesRead_J188
  rw [i_0_9 z1 z2, Option.bind_some, m_mustF, Option.bind_some, mm_f, if_neg one0, m_F241]
theorem m_F167 (m : nMd) (q : Nat) (r : Nat → Int32) (u1 u3 u4 u5 s0 : Int32) (RC K : nMd → Int32 → Option (Int32 × nMd)) : f_X7_villagesRead_J167 (mm m q 1 r) u1 u3 u4 u5 s0 RC K = RC (mm m q 1 r) (u1 + 1) := by
  unfold f_X7_villagesRead_J167
  rw [m_mustF, Option.bind_some, mm_f, if_neg one0, m_F188]
theorem m_F145 (m : nMd) (q : Nat) (r : Nat → Int32) (u1 u3 u4 s0 : Int32) (RC K : nMd → Int32 → Option (Int32 × nMd)) : f_X7_villagesRead_J145 (mm m q 1 r) u1 u3 u4 s0 RC K = RC (mm m q 1 r) (u1 + 1) := by
  unfold f_X7_villagesRead_J145 f_X7_villagesRead_J162
  split
  · exact m_F167 ..
  · split
    · exact m_F167 ..
    · exact m_F167 ..
theorem m_F119 (m : nMd) (q : Nat) (r : Nat → Int32) (u1 u3 s0 : Int32) (RC K : nMd → Int32 → Option (Int32 × nMd)) : f_X7_villagesRead_J119 (mm m q 1 r) u1 u3 s0 RC K = RC (mm m q 1 r) (u1 + 1) := by
  unfold f_X7_villagesRead_J119
  obtain ⟨v, e⟩ := m_numF m q r (59 : Int32)
  rw [m_mustF, Option.bind_some, e, Option.bind_some]
  dsimp only
  rw [mm_f, if_neg one0, m_F145]
theorem m_F41 (m : nMd) (q : Nat) (r : Nat → Int32) (u1 : Int32) (RC K : nMd → Int32 → Option (Int32 × nMd)) : f_X7_villagesRead_J41 (mm m q 1 r) u1 RC K = RC (mm m q 1 r) (u1 + 1) := by
  unfold f_X7_villagesRead_J41 f_X7_villagesRead_J56 f_X7_villagesRead_J108
  rw [mm_f, if_neg one0]
  simp only [m_F119, ite_self]
def r4 (r : Nat → Int32) (n : Nat) (k mn d l : Int) : Nat → Int32 := upd (upd (upd (upd r (4 * n) (iI k)) (4 * n + 1) (iI mn)) (4 * n + 2) (iI d)) (4 * n + 3) (iI l)
theorem m_G241 (m : nMd) (p : Nat) (r : Nat → Int32) {n : Nat} (hn : n < 6) (k mn d l : Int) (u5 : Int32) (RC K : nMd → Int32 → Option (Int32 × nMd)) : f_X7_villagesRead_J241 (mm m p 0 r) (iI n) (iI k) (iI mn) u5 (iI d) (iI l) RC K = RC (mm m p 0 (r4 r n k mn (if u5 = (43 : Int32) then d else -d) l)) (iI ((n + 1 : Nat) : Int)) := by
  have e0 : (4 : Int32) * iI (n : Int) = iI ((4 * n : Nat) : Int) := by rw [show (4 : Int32) = iI 4 from rfl, iI_mul]; congr 1
  have e1 : iI ((4 * n : Nat) : Int) + (1 : Int32) = iI ((4 * n + 1 : Nat) : Int) := iI_s _
  have e2 : iI ((4 * n : Nat) : Int) + (2 : Int32) = iI ((4 * n + 2 : Nat) : Int) := by rw [show (2 : Int32) = iI 2 from rfl, iI_add]; rfl
  have e3 : iI ((4 * n : Nat) : Int) + (3 : Int32) = iI ((4 * n + 3 : Nat) : Int) := by rw [show (3 : Int32) = iI 3 from rfl, iI_add]; rfl
  unfold f_X7_villagesRead_J241 f_X7_villagesRead_J293
  rw [mm_f, if_pos rfl]
  simp only [e0, e1, e2, e3]
  simp only [nn_ixN (show 4 * n < 24 by omega) (show 24 < 2147483648 by omega), nn_ixN (show 4 * n + 1 < 24 by omega) (show 24 < 2147483648 by omega), nn_ixN (show 4 * n + 2 < 24 by omega) (show 24 < 2147483648 by omega), nn_ixN (show 4 * n + 3 < 24 by omega) (show 24 < 2147483648 by omega), Option.bind_some, mm_sr, mm_r, iI_cN (show 4 * n < 2147483648 by omega), iI_cN (show 4 * n + 1 < 2147483648 by omega), iI_cN (show 4 * n + 2 < 2147483648 by omega), iI_cN (show 4 * n + 3 < 2147483648 by omega), iI_s, iI_neg]
  split
  · rfl
  · rfl
theorem c_kind {L : Nat → Int32} {Z : Nat → Int} {t : Nat} (hz : ps_ok Z t) (hL : ∀ i, i < t → L i = iI (Z i)) {p : Nat} (hp : p ≤ t) : f_X4_readKind (tz L t p 0) = if ps_h Z t p = 112 then some (iI 0, tz L t (ps_k Z t p + 1) 0) else if ps_h Z t p = 115 then some (iI 1, tz L t (ps_k Z t p + 1) 0) else if ps_h Z t p = 104 then some (iI 2, tz L t (ps_k Z t p + 1) 0) else if ps_h Z t p = 102 then some (iI 3, tz L t (ps_k Z t p + 1) 0) else if ps_h Z t p = 99 then some (iI 4, tz L t (ps_k Z t p + 1) 0) else some (0, tz L t (ps_k Z t p) (-20 - (ps_k Z t p : Nat))) := by
  have hb := ps_kb Z hp
  have tk : ∀ (p2 : Nat) (a : Int), p2 ≤ t → 0 ≤ a → a ≤ 126 → f_X4_takes (tz L t p2 0) (iI a) = if ps_h Z t p2 = a then some (1, tz L t (ps_k Z t p2 + 1) 0) else some (0, tz L t (ps_k Z t p2) 0) := fun p2 a h1 h2 h3 => c_takes0 hz hL h1 h2 h3
  unfold f_X4_readKind
  rw [show (112 : Int32) = iI 112 from rfl, show (115 : Int32) = iI 115 from rfl, show (104 : Int32) = iI 104 from rfl, show (102 : Int32) = iI 102 from rfl, show (99 : Int32) = iI 99 from rfl, tk p 112 hp (by omega) (by omega)]
  by_cases q1 : ps_h Z t p = 112
  · rw [if_pos q1, if_pos q1, Option.bind_some, if_neg one0]; rfl
  rw [if_neg q1, if_neg q1, Option.bind_some, if_pos rfl]
  dsimp only
  rw [tk _ 115 hb.2 (by omega) (by omega), ps_hk Z hp, ps_kk Z hp]
  by_cases q2 : ps_h Z t p = 115
  · rw [if_pos q2, if_pos q2, Option.bind_some, if_neg one0]; rfl
  rw [if_neg q2, if_neg q2, Option.bind_some, if_pos rfl]
  dsimp only
  rw [tk _ 104 hb.2 (by omega) (by omega), ps_hk Z hp, ps_kk Z hp]
  by_cases q3 : ps_h Z t p = 104
  · rw [if_pos q3, if_pos q3, Option.bind_some, if_neg one0]; rfl
  rw [if_neg q3, if_neg q3, Option.bind_some, if_pos rfl]
  dsimp only
  rw [tk _ 102 hb.2 (by omega) (by omega), ps_hk Z hp, ps_kk Z hp]
  by_cases q4 : ps_h Z t p = 102
  · rw [if_pos q4, if_pos q4, Option.bind_some, if_neg one0]; rfl
  rw [if_neg q4, if_neg q4, Option.bind_some, if_pos rfl]
  dsimp only
  rw [tk _ 99 hb.2 (by omega) (by omega), ps_hk Z hp, ps_kk Z hp]
  by_cases q5 : ps_h Z t p = 99
  · rw [if_pos q5, if_pos q5, Option.bind_some, if_neg one0]; rfl
  rw [if_neg q5, if_neg q5, Option.bind_some, if_pos rfl]
  dsimp only
  rw [tz_p, c_fault0, Option.bind_some]
