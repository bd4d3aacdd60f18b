theorem c_J33F {L : Nat → Int32} {Z : Nat → Int} {t : Nat} (hz : ps_ok Z t) (hL : ∀ i, i < t → L i = iI (Z i)) {p q : Nat} (hp : p ≤ t) (hq : q ≤ 60) (u1 : Int32) : ∃ v p', p' ≤ t ∧ f_X4_readDrift_J33 (tz L t p (-20 - (q : Int))) u1 = some (v, tz L t p' (-20 - (q : Int))) := by
  have hb := ps_kb Z hp
  have hh := ps_hb hz p
  unfold f_X4_readDrift_J33
  rw [c_coming hz hL hp, Option.bind_some]
  dsimp only
  rw [c_isDig (by omega) (by omega), Option.bind_some, c_faultF L t _ hq, Option.bind_some, c_digF L t _ hq, Option.bind_some]
  split
  · exact ⟨_, _, hb.2, rfl⟩
  · exact ⟨_, _, hb.2, rfl⟩
theorem c_driftF {L : Nat → Int32} {Z : Nat → Int} {t : Nat} (hz : ps_ok Z t) (hL : ∀ i, i < t → L i = iI (Z i)) {p q : Nat} (hp : p ≤ t) (hq : q ≤ 60) : ∃ v p', p' ≤ t ∧ f_X4_readDrift (tz L t p (-20 - (q : Int))) = some (v, tz L t p' (-20 - (q : Int))) := by
  unfold f_X4_readDrift
  rw [c_takesF L t p hq, Option.bind_some, if_pos rfl]
  dsimp only
  rw [c_takesF L t p hq, Option.bind_some, if_pos rfl]
  dsimp only
  rw [c_faultF L t p hq, Option.bind_some]
  exact c_J33F hz hL hp hq _
/-- behind a fault nothing more is read -/
theorem c_villF4 {L : Nat → Int32} {Z : Nat → Int} {t : Nat} (hz : ps_ok Z t) (hL : ∀ i, i < t → L i = iI (Z i)) {p q : Nat} (hp : p ≤ t) (hq : q ≤ 60) (x : nVl) (k mn d : Int32) : ((f_X4_takes (tz L t p (-20 - (q : Int))) (64 : Int32)).bind fun q_7 => if q_7.1 = 0 then f_X4_readVillage_J37 q_7.2 x k mn d (0 : Int32) else (f_X4_readNumber q_7.2 (40 : Int32)).bind fun q_13 => f_X4_readVillage_J37 q_13.2 x k mn d q_13.1) = some (tz L t p (-20 - (q : Int)), x) := by
  rw [c_takesF L t p hq, Option.bind_some, if_pos rfl]
  unfold f_X4_readVillage_J37
  dsimp only
  rw [tz_f, if_neg (fz hq)]
theorem c_villF3 {L : Nat → Int32} {Z : Nat → Int} {t : Nat} (hz : ps_ok Z t) (hL : ∀ i, i < t → L i = iI (Z i)) {p q : Nat} (hp : p ≤ t) (hq : q ≤ 60) (x : nVl) (k mn : Int32) : ∃ p', p' ≤ t ∧ ((f_X4_readDrift (tz L t p (-20 - (q : Int)))).bind fun q_5 => (f_X4_takes q_5.2 (64 : Int32)).bind fun q_7 => if q_7.1 = 0 then f_X4_readVillage_J37 q_7.2 x k mn q_5.1 (0 : Int32) else (f_X4_readNumber q_7.2 (40 : Int32)).bind fun q_13 => f_X4_readVillage_J37 q_13.2 x k mn q_5.1 q_13.1) = some (tz L t p' (-20 - (q : Int)), x) := by
  obtain ⟨v, p', h1, e⟩ := c_driftF hz hL hp hq
  rw [e, Option.bind_some]
  exact ⟨p', h1, c_villF4 hz hL h1 hq x k mn v⟩
theorem c_villF2 {L : Nat → Int32} {Z : Nat → Int} {t : Nat} (hz : ps_ok Z t) (hL : ∀ i, i < t → L i = iI (Z i)) {p q : Nat} (hp : p ≤ t) (hq : q ≤ 60) (x : nVl) (k : Int32) : ∃ p', p' ≤ t ∧ ((f_X4_readNumber (tz L t p (-20 - (q : Int))) (59 : Int32)).bind fun q_3 => (f_X4_readDrift q_3.2).bind fun q_5 => (f_X4_takes q_5.2 (64 : Int32)).bind fun q_7 => if q_7.1 = 0 then f_X4_readVillage_J37 q_7.2 x k q_3.1 q_5.1 (0 : Int32) else (f_X4_readNumber q_7.2 (40 : Int32)).bind fun q_13 => f_X4_readVillage_J37 q_13.2 x k q_3.1 q_5.1 q_13.1) = some (tz L t p' (-20 - (q : Int)), x) := by
  obtain ⟨v, p', h1, e⟩ := c_numFF hz hL hp hq (hi := 59) (by omega) (by omega)
  rw [show (59 : Int32) = iI 59 from rfl, e, Option.bind_some]
  exact c_villF3 hz hL h1 hq x k v
/-- what may follow the DRIFT -/
theorem j_at {m : nMd} {L : Nat → Int32} {Z : Nat → Int} {t : Nat} (hz : ps_ok Z t) (hL : ∀ i, i < t → L i = iI (Z i)) (hT : g_Md_typed m = iI t) (hA : ∀ i, i < t → g_Md_tape m i = iI (Z i)) {p : Nat} (hp : p ≤ t) (r : Nat → Int32) {n : Nat} (hn : n < 6) (x : nVl) (k mn d dd : Int) (u5 : Int32) (hd : (if u5 = (43 : Int32) then dd else -dd) = d) (RC K : nMd → Int32 → Option (Int32 × nMd)) : (∃ q p', q ≤ t ∧ p' ≤ t ∧ ((f_X4_takes (tz L t p 0) (64 : Int32)).bind fun q_7 => if q_7.1 = 0 then f_X4_readVillage_J37 q_7.2 x (iI k) (iI mn) (iI d) (0 : Int32) else (f_X4_readNumber q_7.2 (40 : Int32)).bind fun q_13 => f_X4_readVillage_J37 q_13.2 x (iI k) (iI mn) (iI d) q_13.1) = some (tz L t p' (-20 - (q : Int)), x) ∧ ((f_X7_here (mm m p 0 r)).bind fun q_41 => if q_41.1 = (64 : Int32) then (f_X7_number (s_Md_place q_41.2 ((g_Md_place q_41.2) + (1 : Int32))) (40 : Int32)).bind fun q_44 => f_X7_villagesRead_J241 q_44.2 (iI n) (iI k) (iI mn) u5 (iI dd) q_44.1 RC K else f_X7_villagesRead_J241 q_41.2 (iI n) (iI k) (iI mn) u5 (iI dd) (0 : Int32) RC K) = RC (mm m q 1 r) (iI ((n + 1 : Nat) : Int))) ∨ (∃ (l : Int) (p' : Nat), 0 ≤ l ∧ l ≤ 40 ∧ p' ≤ t ∧ ((f_X4_takes (tz L t p 0) (64 : Int32)).bind fun q_7 => if q_7.1 = 0 then f_X4_readVillage_J37 q_7.2 x (iI k) (iI mn) (iI d) (0 : Int32) else (f_X4_readNumber q_7.2 (40 : Int32)).bind fun q_13 => f_X4_readVillage_J37 q_13.2 x (iI k) (iI mn) (iI d) q_13.1) = ((f_X5_build x (iI k) (iI mn) (iI d) (iI l)).bind fun q_11 => some (tz L t p' 0, q_11)) ∧ ((f_X7_here (mm m p 0 r)).bind fun q_41 => if q_41.1 = (64 : Int32) then (f_X7_number (s_Md_place q_41.2 ((g_Md_place q_41.2) + (1 : Int32))) (40 : Int32)).bind fun q_44 => f_X7_villagesRead_J241 q_44.2 (iI n) (iI k) (iI mn) u5 (iI dd) q_44.1 RC K else f_X7_villagesRead_J241 q_41.2 (iI n) (iI k) (iI mn) u5 (iI dd) (0 : Int32) RC K) = RC (mm m p' 0 (r4 r n k mn d l)) (iI ((n + 1 : Nat) : Int))) := by
  have ht := hz.1
  have hb := ps_kb Z hp
  have hh := ps_hb hz p
  have z64 : (iI (ps_h Z t p) = (64 : Int32)) = (ps_h Z t p = 64) := by rw [show (64 : Int32) = iI 64 from rfl, iI_eq (by omega) (by omega) (by omega) (by omega)]
  have ec : f_X4_takes (tz L t p 0) (64 : Int32) = if ps_h Z t p = 64 then some (1, tz L t (ps_k Z t p + 1) 0) else some (0, tz L t (ps_k Z t p) 0) := c_takes0 hz hL hp (a := 64) (by omega) (by omega)
  rw [ec, m_here hz hT hA hp]
  by_cases q1 : ps_h Z t p = 64
  rotate_left
  · refine Or.inr ⟨0, ps_k Z t p, by omega, by omega, hb.2, ?_, ?_⟩
    · rw [if_neg q1, Option.bind_some, if_pos rfl]
      unfold f_X4_readVillage_J37
      dsimp only
      rw [tz_f, if_pos i00]; rfl
    · rw [Option.bind_some]
      dsimp only
      rw [if_neg (by rw [z64]; exact q1)]
      have eg := m_G241 m (ps_k Z t p) r hn k mn dd 0 u5 RC K
      rw [hd] at eg
      exact eg
  · obtain ⟨hq, -⟩ := ps_hi (Z := Z) (t := t) (p := p) (by omega)
    rw [if_pos q1, Option.bind_some, Option.bind_some]
    dsimp only
    rw [if_neg one0, if_pos (by rw [z64]; exact q1), mm_p, iI_s, mm_sp, show (40 : Int32) = iI 40 from rfl]
    rcases j_num hz hL hT hA (show ps_k Z t p + 1 ≤ t by omega) (hi := 40) (by omega) (by omega) r with ⟨q, v, v2, p', h1, h2, e1, e2⟩ | ⟨l, p', h0, h1, h2, e1, e2⟩
    · refine Or.inl ⟨q, p', h1, h2, ?_, ?_⟩
      · rw [e1, Option.bind_some]
        unfold f_X4_readVillage_J37
        dsimp only
        rw [tz_f, if_neg (fz (by omega))]
      · rw [e2, Option.bind_some, m_F241, iI_s]
    · refine Or.inr ⟨l, p', h0, h1, h2, ?_, ?_⟩
      · rw [e1, Option.bind_some]
        unfold f_X4_readVillage_J37
        dsimp only
        rw [tz_f, if_pos i00]
      · rw [e2, Option.bind_some, m_G241 m _ r hn, hd]
/-- DRIFT and what follows -/
theorem j_drift {m : nMd} {L : Nat → Int32} {Z : Nat → Int} {t : Nat} (hz : ps_ok Z t) (hL : ∀ i, i < t → L i = iI (Z i)) (hT : g_Md_typed m = iI t) (hA : ∀ i, i < t → g_Md_tape m i = iI (Z i)) {p : Nat} (hp : p ≤ t) (r : Nat → Int32) {n : Nat} (hn : n < 6) (x : nVl) (k mn : Int) (RC K : nMd → Int32 → Option (Int32 × nMd)) : (∃ q p', q ≤ t ∧ p' ≤ t ∧ ((f_X4_readDrift (tz L t p 0)).bind fun q_5 => (f_X4_takes q_5.2 (64 : Int32)).bind fun q_7 => if q_7.1 = 0 then f_X4_readVillage_J37 q_7.2 x (iI k) (iI mn) q_5.1 (0 : Int32) else (f_X4_readNumber q_7.2 (40 : Int32)).bind fun q_13 => f_X4_readVillage_J37 q_13.2 x (iI k) (iI mn) q_5.1 q_13.1) = some (tz L t p' (-20 - (q : Int)), x) ∧ f_X7_villagesRead_J145 (mm m (ps_k Z t p) 0 r) (iI n) (iI k) (iI mn) (iI (ps_h Z t p)) RC K = RC (mm m q 1 r) (iI ((n + 1 : Nat) : Int))) ∨ (∃ (d l : Int) (p' : Nat), -9 ≤ d ∧ d ≤ 9 ∧ 0 ≤ l ∧ l ≤ 40 ∧ p' ≤ t ∧ ((f_X4_readDrift (tz L t p 0)).bind fun q_5 => (f_X4_takes q_5.2 (64 : Int32)).bind fun q_7 => if q_7.1 = 0 then f_X4_readVillage_J37 q_7.2 x (iI k) (iI mn) q_5.1 (0 : Int32) else (f_X4_readNumber q_7.2 (40 : Int32)).bind fun q_13 => f_X4_readVillage_J37 q_13.2 x (iI k) (iI mn) q_5.1 q_13.1) = ((f_X5_build x (iI k) (iI mn) (iI d) (iI l)).bind fun q_11 => some (tz L t p' 0, q_11)) ∧ f_X7_villagesRead_J145 (mm m (ps_k Z t p) 0 r) (iI n) (iI k) (iI mn) (iI (ps_h Z t p)) RC K = RC (mm m p' 0 (r4 r n k mn d l)) (iI ((n + 1 : Nat) : Int))) := by
  have ht := hz.1
  have hb := ps_kb Z hp
  have hh := ps_hb hz p
  have z43 : (iI (ps_h Z t p) = (43 : Int32)) = (ps_h Z t p = 43) := by rw [show (43 : Int32) = iI 43 from rfl, iI_eq (by omega) (by omega) (by omega) (by omega)]
  have z45 : (iI (ps_h Z t p) = (45 : Int32)) = (ps_h Z t p = 45) := by rw [show (45 : Int32) = iI 45 from rfl, iI_eq (by omega) (by omega) (by omega) (by omega)]
  have e45 : ∀ p2, p2 ≤ t → f_X4_takes (tz L t p2 0) (45 : Int32) = if ps_h Z t p2 = 45 then some (1, tz L t (ps_k Z t p2 + 1) 0) else some (0, tz L t (ps_k Z t p2) 0) := fun p2 h => c_takes0 hz hL h (a := 45) (by omega) (by omega)
  have e43 : ∀ p2, p2 ≤ t → f_X4_takes (tz L t p2 0) (43 : Int32) = if ps_h Z t p2 = 43 then some (1, tz L t (ps_k Z t p2 + 1) 0) else some (0, tz L t (ps_k Z t p2) 0) := fun p2 h => c_takes0 hz hL h (a := 43) (by omega) (by omega)
  by_cases qs : ps_h Z t p = 43 ∨ ps_h Z t p = 45
  rotate_left
  · -- no sign
    refine Or.inl ?_
    have n43 : ¬ ps_h Z t p = 43 := fun z => qs (Or.inl z)
    have n45 : ¬ ps_h Z t p = 45 := fun z => qs (Or.inr z)
    have er : f_X7_villagesRead_J145 (mm m (ps_k Z t p) 0 r) (iI n) (iI k) (iI mn) (iI (ps_h Z t p)) RC K = RC (mm m (ps_k Z t p) 1 r) (iI ((n + 1 : Nat) : Int)) := by
      unfold f_X7_villagesRead_J145 f_X7_villagesRead_J167
      rw [if_neg (by rw [z43]; exact n43), if_neg (by rw [z45]; exact n45), m_must0, Option.bind_some, mm_f, if_neg one0, m_F188, iI_s]
    obtain ⟨v, p', h1, e⟩ := c_J33F hz hL hb.2 (show ps_k Z t p ≤ 60 by omega) (1 : Int32)
    refine ⟨ps_k Z t p, p', hb.2, h1, ?_, er⟩
    have ed : f_X4_readDrift (tz L t p 0) = some (v, tz L t p' (-20 - ((ps_k Z t p : Nat) : Int))) := by
      unfold f_X4_readDrift
      rw [e45 p hp, if_neg n45, Option.bind_some, if_pos rfl]
      dsimp only
      rw [e43 _ hb.2, ps_hk Z hp, ps_kk Z hp, if_neg n43, Option.bind_some, if_pos rfl]
      dsimp only
      rw [tz_p, c_fault0, Option.bind_some]
      exact e
    rw [ed, Option.bind_some]
    exact c_villF4 hz hL h1 (by omega) x (iI k) (iI mn) v
  · obtain ⟨hq, -⟩ := ps_hi (Z := Z) (t := t) (p := p) (by omega)
    have hp1 : ps_k Z t p + 1 ≤ t := by omega
    have hb1 := ps_kb Z hp1
    have hh1 := ps_hb hz (ps_k Z t p + 1)
    -- sign
    obtain ⟨sg, hsg, ecd⟩ : ∃ sg : Int, ((sg = 1 ∧ ps_h Z t p = 43) ∨ (sg = -1 ∧ ps_h Z t p = 45)) ∧ f_X4_readDrift (tz L t p 0) = f_X4_readDrift_J33 (tz L t (ps_k Z t p + 1) 0) (iI sg) := by
      unfold f_X4_readDrift
      rw [e45 p hp]
      rcases qs with qs | qs
      · refine ⟨1, Or.inl ⟨rfl, qs⟩, ?_⟩
        rw [if_neg (by omega), Option.bind_some, if_pos rfl]
        dsimp only
        rw [e43 _ hb.2, ps_hk Z hp, ps_kk Z hp, if_pos qs, Option.bind_some, if_neg one0]; rfl
      · refine ⟨-1, Or.inr ⟨rfl, qs⟩, ?_⟩
        rw [if_pos qs, Option.bind_some, if_neg one0]; rfl
    have er : f_X7_villagesRead_J145 (mm m (ps_k Z t p) 0 r) (iI n) (iI k) (iI mn) (iI (ps_h Z t p)) RC K = f_X7_villagesRead_J188 (mm m (ps_k Z t (ps_k Z t p + 1)) 0 r) (iI n) (iI k) (iI mn) (iI (ps_h Z t p)) (iI (ps_h Z t (ps_k Z t p + 1) - 48)) RC K := by
      have e1 : f_X7_villagesRead_J145 (mm m (ps_k Z t p) 0 r) (iI n) (iI k) (iI mn) (iI (ps_h Z t p)) RC K = f_X7_villagesRead_J167 (mm m (ps_k Z t p) 0 r) (iI n) (iI k) (iI mn) (iI (ps_h Z t p)) (1 : Int32) RC K := by
        unfold f_X7_villagesRead_J145 f_X7_villagesRead_J162
        rcases qs with qs | qs
        · rw [if_pos (by rw [z43]; exact qs)]
        · rw [if_neg (by rw [z43]; omega), if_pos (by rw [z45]; exact qs)]
      rw [e1]
      unfold f_X7_villagesRead_J167
      rw [m_must1, Option.bind_some, mm_f, if_pos rfl, m_here hz hT hA hp1, Option.bind_some]
      dsimp only
      rw [show (48 : Int32) = iI 48 from rfl, iI_sub]
    rw [er, ecd]
    by_cases dg : 48 ≤ ps_h Z t (ps_k Z t p + 1) ∧ ps_h Z t (ps_k Z t p + 1) ≤ 57
    rotate_left
    · refine Or.inl ⟨ps_k Z t (ps_k Z t p + 1), ps_k Z t (ps_k Z t p + 1), hb1.2, hb1.2, ?_, ?_⟩
      · have e1 : f_X4_readDrift_J33 (tz L t (ps_k Z t p + 1) 0) (iI sg) = some (iI sg * 0, tz L t (ps_k Z t (ps_k Z t p + 1)) (-20 - ((ps_k Z t (ps_k Z t p + 1) : Nat) : Int))) := by
          unfold f_X4_readDrift_J33
          rw [c_coming hz hL hp1, Option.bind_some]
          dsimp only
          rw [c_isDig (by omega) (by omega), Option.bind_some, if_neg dg, if_pos rfl, tz_p, c_fault0, Option.bind_some, c_digF L t _ (by omega), Option.bind_some]
        rw [e1, Option.bind_some]
        exact c_villF4 hz hL hb1.2 (by omega) x (iI k) (iI mn) _
      · unfold f_X7_villagesRead_J188
        rw [i_0_9 (by omega) (by omega), Option.bind_some, if_neg (by omega), m_must0, Option.bind_some, mm_f, if_neg one0, m_F241, iI_s]
    · obtain ⟨hq1, he1⟩ := ps_hi (Z := Z) (t := t) (p := ps_k Z t p + 1) (by omega)
      have e1 : f_X4_readDrift_J33 (tz L t (ps_k Z t p + 1) 0) (iI sg) = some (iI (sg * (ps_h Z t (ps_k Z t p + 1) - 48)), tz L t (ps_k Z t (ps_k Z t p + 1) + 1) 0) := by
        unfold f_X4_readDrift_J33
        rw [c_coming hz hL hp1, Option.bind_some]
        dsimp only
        rw [c_isDig (by omega) (by omega), Option.bind_some, if_pos dg, if_neg one0, c_dig0 hz hL hq1 (by rw [← he1]; exact dg), Option.bind_some]
        dsimp only
        rw [iI_mul, ← he1]
      have e2 : f_X7_villagesRead_J188 (mm m (ps_k Z t (ps_k Z t p + 1)) 0 r) (iI n) (iI k) (iI mn) (iI (ps_h Z t p)) (iI (ps_h Z t (ps_k Z t p + 1) - 48)) RC K = ((f_X7_here (mm m (ps_k Z t (ps_k Z t p + 1) + 1) 0 r)).bind fun q_41 => if q_41.1 = (64 : Int32) then (f_X7_number (s_Md_place q_41.2 ((g_Md_place q_41.2) + (1 : Int32))) (40 : Int32)).bind fun q_44 => f_X7_villagesRead_J241 q_44.2 (iI n) (iI k) (iI mn) (iI (ps_h Z t p)) (iI (ps_h Z t (ps_k Z t p + 1) - 48)) q_44.1 RC K else f_X7_villagesRead_J241 q_41.2 (iI n) (iI k) (iI mn) (iI (ps_h Z t p)) (iI (ps_h Z t (ps_k Z t p + 1) - 48)) (0 : Int32) RC K) := by
        unfold f_X7_villagesRead_J188
        rw [i_0_9 (by omega) (by omega), Option.bind_some, if_pos (by omega), m_must1, Option.bind_some, mm_f, if_pos rfl]
      rw [e1, e2, Option.bind_some]
      have hd : (if iI (ps_h Z t p) = (43 : Int32) then ps_h Z t (ps_k Z t p + 1) - 48 else -(ps_h Z t (ps_k Z t p + 1) - 48)) = sg * (ps_h Z t (ps_k Z t p + 1) - 48) := by
        rcases hsg with ⟨rfl, h⟩ | ⟨rfl, h⟩
        · rw [if_pos (by rw [z43]; exact h), Int.one_mul]
        · rw [if_neg (by rw [z43]; omega)]; omega
      have hdb : -9 ≤ sg * (ps_h Z t (ps_k Z t p + 1) - 48) ∧ sg * (ps_h Z t (ps_k Z t p + 1) - 48) ≤ 9 := by
        rcases hsg with ⟨rfl, h⟩ | ⟨rfl, h⟩ <;> omega
      rcases j_at hz hL hT hA (show ps_k Z t (ps_k Z t p + 1) + 1 ≤ t by omega) r hn x k mn _ _ (iI (ps_h Z t p)) hd RC K with ⟨q, p', h1, h2, e3, e4⟩ | ⟨l, p', l1, l2, h2, e3, e4⟩
      · exact Or.inl ⟨q, p', h1, h2, e3, e4⟩
      · exact Or.inr ⟨_, l, p', hdb.1, hdb.2, l1, l2, h2, e3, e4⟩
/-- one VILLAGE of the TEXT -/
theorem j_vill {m : nMd} {L : Nat → Int32} {Z : Nat → Int} {t : Nat} (hz : ps_ok Z t) (hL : ∀ i, i < t → L i = iI (Z i)) (hT : g_Md_typed m = iI t) (hA : ∀ i, i < t → g_Md_tape m i = iI (Z i)) {p : Nat} (hp : p ≤ t) (r : Nat → Int32) {n : Nat} (hn : n < 6) (x : nVl) (RC K : nMd → Int32 → Option (Int32 × nMd)) : (∃ q p', q ≤ t ∧ p' ≤ t ∧ f_X4_readVillage (tz L t p 0) x = some (tz L t p' (-20 - (q : Int)), x) ∧ f_X7_villagesRead_J41 (mm m p 0 r) (iI n) RC K = RC (mm m q 1 r) (iI ((n + 1 : Nat) : Int))) ∨ (∃ (k mn d l : Int) (p' : Nat), (0 ≤ k ∧ k ≤ 4) ∧ (0 ≤ mn ∧ mn ≤ 59) ∧ (-9 ≤ d ∧ d ≤ 9) ∧ (0 ≤ l ∧ l ≤ 40) ∧ p' ≤ t ∧ f_X4_readVillage (tz L t p 0) x = ((f_X5_build x (iI k) (iI mn) (iI d) (iI l)).bind fun q_11 => some (tz L t p' 0, q_11)) ∧ f_X7_villagesRead_J41 (mm m p 0 r) (iI n) RC K = RC (mm m p' 0 (r4 r n k mn d l)) (iI ((n + 1 : Nat) : Int))) := by
  have ht := hz.1
  have hb := ps_kb Z hp
  have hh := ps_hb hz p
  have zc : ∀ a : Int, 0 ≤ a → a ≤ 126 → (iI (ps_h Z t p) = iI a) = (ps_h Z t p = a) := fun a h1 h2 => by rw [iI_eq (by omega) (by omega) (by omega) (by omega)]
  have kd : (f_X4_readKind (tz L t p 0) = some (0, tz L t (ps_k Z t p) (-20 - (ps_k Z t p : Nat))) ∧ f_X7_villagesRead_J41 (mm m p 0 r) (iI n) RC K = f_X7_villagesRead_J119 (mm m (ps_k Z t p) 0 r) (iI n) (-1) 0 RC K) ∨ ∃ k : Int, 0 ≤ k ∧ k ≤ 4 ∧ ps_k Z t p < t ∧ f_X4_readKind (tz L t p 0) = some (iI k, tz L t (ps_k Z t p + 1) 0) ∧ f_X7_villagesRead_J41 (mm m p 0 r) (iI n) RC K = f_X7_villagesRead_J119 (mm m (ps_k Z t p) 0 r) (iI n) (iI k) 1 RC K := by
    rw [c_kind hz hL hp]
    unfold f_X7_villagesRead_J41
    rw [mm_f, if_pos rfl, m_here hz hT hA hp, Option.bind_some]
    dsimp only
    unfold f_X7_villagesRead_J56
    rw [show (112 : Int32) = iI 112 from rfl, show (115 : Int32) = iI 115 from rfl, show (104 : Int32) = iI 104 from rfl, show (102 : Int32) = iI 102 from rfl, show (99 : Int32) = iI 99 from rfl]
    simp only [zc 112 (by omega) (by omega), zc 115 (by omega) (by omega), zc 104 (by omega) (by omega), zc 102 (by omega) (by omega), zc 99 (by omega) (by omega)]
    unfold f_X7_villagesRead_J108
    by_cases q1 : ps_h Z t p = 112
    · exact Or.inr ⟨0, by omega, by omega, (ps_hi (by omega)).1, by rw [if_pos q1], by rw [if_pos q1, if_neg (by decide)]; rfl⟩
    by_cases q2 : ps_h Z t p = 115
    · exact Or.inr ⟨1, by omega, by omega, (ps_hi (by omega)).1, by rw [if_neg q1, if_pos q2], by rw [if_neg q1, if_pos q2, if_neg (by decide)]; rfl⟩
    by_cases q3 : ps_h Z t p = 104
    · exact Or.inr ⟨2, by omega, by omega, (ps_hi (by omega)).1, by rw [if_neg q1, if_neg q2, if_pos q3], by rw [if_neg q1, if_neg q2, if_pos q3, if_neg (by decide)]; rfl⟩
    by_cases q4 : ps_h Z t p = 102
    · exact Or.inr ⟨3, by omega, by omega, (ps_hi (by omega)).1, by rw [if_neg q1, if_neg q2, if_neg q3, if_pos q4], by rw [if_neg q1, if_neg q2, if_neg q3, if_pos q4, if_neg (by decide)]; rfl⟩
    by_cases q5 : ps_h Z t p = 99
    · exact Or.inr ⟨4, by omega, by omega, (ps_hi (by omega)).1, by rw [if_neg q1, if_neg q2, if_neg q3, if_neg q4, if_pos q5], by rw [if_neg q1, if_neg q2, if_neg q3, if_neg q4, if_pos q5, if_neg (by decide)]; rfl⟩
    exact Or.inl ⟨by rw [if_neg q1, if_neg q2, if_neg q3, if_neg q4, if_neg q5], by rw [if_neg q1, if_neg q2, if_neg q3, if_neg q4, if_neg q5, if_pos (by decide)]⟩
  unfold f_X4_readVillage
  rcases kd with ⟨e1, e2⟩ | ⟨k, k1, k2, hq, e1, e2⟩
  · rw [e1, e2, Option.bind_some]
    obtain ⟨p', h1, e3⟩ := c_villF2 hz hL hb.2 (show ps_k Z t p ≤ 60 by omega) x (0 : Int32)
    refine Or.inl ⟨ps_k Z t p, p', hb.2, h1, e3, ?_⟩
    unfold f_X7_villagesRead_J119
    obtain ⟨v, e⟩ := m_numF m (ps_k Z t p) r (59 : Int32)
    rw [m_must0, Option.bind_some, e, Option.bind_some]
    dsimp only
    rw [mm_f, if_neg one0, m_F145, iI_s]
  · rw [e1, e2, Option.bind_some]
    unfold f_X7_villagesRead_J119
    rw [m_must1, Option.bind_some, show (59 : Int32) = iI 59 from rfl]
    rcases j_num hz hL hT hA (show ps_k Z t p + 1 ≤ t by omega) (hi := 59) (by omega) (by omega) r with ⟨q, v, v2, p', h1, h2, e3, e4⟩ | ⟨mn, p2, m1, m2, hp2, e3, e4⟩
    · obtain ⟨p3, h3, e5⟩ := c_villF3 hz hL h2 (show q ≤ 60 by omega) x (iI k) v
      refine Or.inl ⟨q, p3, h1, h3, ?_, ?_⟩
      · dsimp only
        rw [e3, Option.bind_some]; exact e5
      · rw [e4, Option.bind_some]
        dsimp only
        rw [mm_f, if_neg one0, m_F145, iI_s]
    · dsimp only
      rw [e3, e4, Option.bind_some, Option.bind_some]
      dsimp only
      rw [mm_f, if_pos rfl, m_here hz hT hA hp2, Option.bind_some]
      dsimp only
      rcases j_drift hz hL hT hA hp2 r hn x k mn RC K with ⟨q, p', h1, h2, e5, e6⟩ | ⟨d, l, p', d1, d2, l1, l2, h2, e5, e6⟩
      · exact Or.inl ⟨q, p', h1, h2, e5, e6⟩
      · exact Or.inr ⟨k, mn, d, l, p', ⟨k1, k2⟩, ⟨m1, m2⟩, ⟨d1, d2⟩, ⟨l1, l2⟩, h2, e5, e6⟩
