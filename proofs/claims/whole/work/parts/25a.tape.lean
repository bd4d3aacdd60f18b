/-! the tape: both read it letter by letter -/
def ps_s (Z : Nat → Int) : Nat → Nat → Nat
  | 0, p => p
  | d + 1, p => if Z p = 32 then ps_s Z d (p + 1) else p
theorem ps_sb (Z : Nat → Int) : ∀ d p, p ≤ ps_s Z d p ∧ ps_s Z d p ≤ p + d := by
  intro d
  induction d with
  | zero => intro p; exact ⟨Nat.le_refl _, Nat.le_refl _⟩
  | succ d ih =>
    intro p
    rw [ps_s]
    split
    · have := ih (p + 1); omega
    · omega
theorem ps_st (Z : Nat → Int) : ∀ d p, ps_s Z d p = p + d ∨ Z (ps_s Z d p) ≠ 32 := by
  intro d
  induction d with
  | zero => intro p; exact Or.inl rfl
  | succ d ih =>
    intro p
    rw [ps_s]
    split
    · rcases ih (p + 1) with h | h
      · exact Or.inl (by omega)
      · exact Or.inr h
    · exact Or.inr ‹_›
def ps_k (Z : Nat → Int) (t p : Nat) : Nat := ps_s Z (t - p) p
theorem ps_kb (Z : Nat → Int) {t p : Nat} (h : p ≤ t) : p ≤ ps_k Z t p ∧ ps_k Z t p ≤ t := by
  have := ps_sb Z (t - p) p
  unfold ps_k; omega
theorem ps_kk (Z : Nat → Int) {t p : Nat} (h : p ≤ t) : ps_k Z t (ps_k Z t p) = ps_k Z t p := by
  have hb := ps_kb Z h
  have h1 := ps_st Z (t - p) p
  have e : ps_k Z t p = ps_s Z (t - p) p := rfl
  rw [← e] at h1
  generalize ps_k Z t p = q at *
  unfold ps_k
  by_cases h2 : q = t
  · rw [h2, Nat.sub_self]; rfl
  · rcases h1 with h1 | h1
    · omega
    · obtain ⟨d, hd⟩ : ∃ d, t - q = d + 1 := ⟨t - q - 1, by omega⟩
      rw [hd, ps_s, if_neg h1]
def ps_h (Z : Nat → Int) (t p : Nat) : Int := if ps_k Z t p < t then Z (ps_k Z t p) else 0
theorem ps_hk (Z : Nat → Int) {t p : Nat} (h : p ≤ t) : ps_h Z t (ps_k Z t p) = ps_h Z t p := by
  unfold ps_h; rw [ps_kk Z h]
def ps_ok (Z : Nat → Int) (t : Nat) : Prop := t ≤ 60 ∧ ∀ i, i < t → 32 ≤ Z i ∧ Z i ≤ 126
theorem ps_hb {Z : Nat → Int} {t : Nat} (hz : ps_ok Z t) (p : Nat) : 0 ≤ ps_h Z t p ∧ ps_h Z t p ≤ 126 := by
  unfold ps_h; split
  · have := hz.2 _ ‹_›; omega
  · omega
theorem ps_hi {Z : Nat → Int} {t p : Nat} (h : ps_h Z t p ≠ 0) : ps_k Z t p < t ∧ ps_h Z t p = Z (ps_k Z t p) := by
  unfold ps_h at *
  by_cases q : ps_k Z t p < t
  · rw [if_pos q] at *; exact ⟨q, rfl⟩
  · rw [if_neg q] at h; exact absurd rfl h
def tz (L : Nat → Int32) (t p : Nat) (F : Int) : nTa := (L, iI t, iI p, iI F)
theorem tz_l (L : Nat → Int32) (t p : Nat) (F : Int) : g_Ta_letters (tz L t p F) = L := rfl
theorem tz_n (L : Nat → Int32) (t p : Nat) (F : Int) : g_Ta_length (tz L t p F) = iI t := rfl
theorem tz_p (L : Nat → Int32) (t p : Nat) (F : Int) : g_Ta_place (tz L t p F) = iI p := rfl
theorem tz_f (L : Nat → Int32) (t p : Nat) (F : Int) : g_Ta_fault (tz L t p F) = iI F := rfl
theorem tz_sp (L : Nat → Int32) (t p q : Nat) (F : Int) : s_Ta_place (tz L t p F) (iI q) = tz L t q F := rfl
theorem tz_sf (L : Nat → Int32) (t p : Nat) (F G : Int) : s_Ta_fault (tz L t p F) (iI G) = tz L t p G := rfl
def mm (m : nMd) (p : Nat) (fl : Int32) (r : Nat → Int32) : nMd := s_Md_read (s_Md_isFault (s_Md_place m (iI p)) fl) r
theorem mm_p (m : nMd) (p : Nat) (fl : Int32) (r : Nat → Int32) : g_Md_place (mm m p fl r) = iI p := rfl
theorem mm_f (m : nMd) (p : Nat) (fl : Int32) (r : Nat → Int32) : g_Md_isFault (mm m p fl r) = fl := rfl
theorem mm_r (m : nMd) (p : Nat) (fl : Int32) (r : Nat → Int32) : g_Md_read (mm m p fl r) = r := rfl
theorem mm_t (m : nMd) (p : Nat) (fl : Int32) (r : Nat → Int32) : g_Md_typed (mm m p fl r) = g_Md_typed m := rfl
theorem mm_a (m : nMd) (p : Nat) (fl : Int32) (r : Nat → Int32) : g_Md_tape (mm m p fl r) = g_Md_tape m := rfl
theorem mm_sp (m : nMd) (p q : Nat) (fl : Int32) (r : Nat → Int32) : s_Md_place (mm m p fl r) (iI q) = mm m q fl r := rfl
theorem mm_sf (m : nMd) (p : Nat) (fl gl : Int32) (r : Nat → Int32) : s_Md_isFault (mm m p fl r) gl = mm m p gl r := rfl
theorem mm_sr (m : nMd) (p : Nat) (fl : Int32) (r s : Nat → Int32) : s_Md_read (mm m p fl r) s = mm m p fl s := rfl
theorem ch_tab : ∀ k, k < 127 → (iI ((k : Nat) : Int)).toUInt32.toUInt16.toUInt32.toInt32 = iI ((k : Nat) : Int) := by decide +kernel
theorem nn_chz {α : Type} {z : Int} (h1 : 0 ≤ z) (h2 : z ≤ 126) (x : Option α) : nn_ch (iI z) x = x := by
  obtain ⟨k, rfl⟩ : ∃ k : Nat, z = (k : Int) := ⟨z.toNat, by omega⟩
  unfold nn_ch
  rw [if_pos (ch_tab k (by omega))]
theorem c_coming {L : Nat → Int32} {Z : Nat → Int} {t : Nat} (hz : ps_ok Z t) (hL : ∀ i, i < t → L i = iI (Z i)) {p : Nat} (hp : p ≤ t) (F : Int) : f_X4_comingLetter (tz L t p F) = some (iI (ps_h Z t p), tz L t (ps_k Z t p) F) := by
  have ht := hz.1
  have key : ∀ (K : nTa → Option (Int32 × nTa)) (d n p : Nat), p + d = t → d < n → f_X4_comingLetter_L0 n (tz L t p F) K = K (tz L t (ps_s Z d p) F) := by
    intro K d
    induction d with
    | zero =>
      intro n p hp hd
      obtain ⟨n, rfl, -⟩ := fuel hd
      rw [f_X4_comingLetter_L0, tz_n, tz_p, if_pos (by rw [iI_leN (by omega) (by omega)]; omega), ps_s]
    | succ d ih =>
      intro n p hp hd
      obtain ⟨n, rfl, hd2⟩ := fuel hd
      have hb := hz.2 p (by omega)
      rw [f_X4_comingLetter_L0, tz_n, tz_p, if_neg (by rw [iI_leN (by omega) (by omega)]; omega), nn_ixN (by omega) (by omega), tz_l, iI_cN (by omega), hL p (by omega), iI_s, tz_sp, ps_s]
      by_cases q : Z p = 32
      · rw [if_pos (by rw [q]; rfl), if_pos q]
        exact ih n (p + 1) (by omega) (by omega)
      · rw [if_neg (by rw [show (32 : Int32) = iI 32 from rfl, iI_eq (by omega) (by omega) (by omega) (by omega)]; exact q), if_neg q]
  unfold f_X4_comingLetter
  rw [key _ (t - p) 100000 p (by omega) (by omega)]
  have hb := ps_kb Z hp
  show (if g_Ta_length (tz L t (ps_k Z t p) F) ≤ g_Ta_place (tz L t (ps_k Z t p) F) then some ((0 : Int32), tz L t (ps_k Z t p) F) else nn_ix (g_Ta_place (tz L t (ps_k Z t p) F)) 60 (nn_ch ((g_Ta_letters (tz L t (ps_k Z t p) F)) (g_Ta_place (tz L t (ps_k Z t p) F)).toNatClampNeg) (some ((g_Ta_letters (tz L t (ps_k Z t p) F)) (g_Ta_place (tz L t (ps_k Z t p) F)).toNatClampNeg, tz L t (ps_k Z t p) F)))) = _
  rw [tz_n, tz_p, tz_l]
  unfold ps_h
  by_cases q : ps_k Z t p < t
  · have hb2 := hz.2 _ q
    rw [if_neg (by rw [iI_leN (by omega) (by omega)]; omega), nn_ixN (by omega) (by omega), iI_cN (by omega), hL _ q, nn_chz (by omega) (by omega), if_pos q]
  · rw [if_pos (by rw [iI_leN (by omega) (by omega)]; omega), if_neg q]; rfl
theorem m_here {m : nMd} {Z : Nat → Int} {t : Nat} (hz : ps_ok Z t) (hT : g_Md_typed m = iI t) (hL : ∀ i, i < t → g_Md_tape m i = iI (Z i)) {p : Nat} (hp : p ≤ t) (fl : Int32) (r : Nat → Int32) : f_X7_here (mm m p fl r) = some (iI (ps_h Z t p), mm m (ps_k Z t p) fl r) := by
  have ht := hz.1
  have key : ∀ (K : nMd → Option (Int32 × nMd)) (d n p : Nat), p + d = t → d < n → f_X7_here_L0 n (mm m p fl r) K = K (mm m (ps_s Z d p) fl r) := by
    intro K d
    induction d with
    | zero =>
      intro n p hp hd
      obtain ⟨n, rfl, -⟩ := fuel hd
      rw [f_X7_here_L0, mm_t, mm_p, hT, if_pos (by rw [iI_leN (by omega) (by omega)]; omega), ps_s]
    | succ d ih =>
      intro n p hp hd
      obtain ⟨n, rfl, hd2⟩ := fuel hd
      have hb := hz.2 p (by omega)
      rw [f_X7_here_L0, mm_t, mm_p, hT, if_neg (by rw [iI_leN (by omega) (by omega)]; omega), nn_ixN (by omega) (by omega), mm_a, iI_cN (by omega), hL p (by omega), iI_s, mm_sp, ps_s]
      by_cases q : Z p = 32
      · rw [if_pos (by rw [q]; rfl), if_pos q]
        exact ih n (p + 1) (by omega) (by omega)
      · rw [if_neg (by rw [show (32 : Int32) = iI 32 from rfl, iI_eq (by omega) (by omega) (by omega) (by omega)]; exact q), if_neg q]
  unfold f_X7_here
  rw [key _ (t - p) 100000 p (by omega) (by omega)]
  have hb := ps_kb Z hp
  show (if g_Md_typed (mm m (ps_k Z t p) fl r) ≤ g_Md_place (mm m (ps_k Z t p) fl r) then some ((0 : Int32), mm m (ps_k Z t p) fl r) else nn_ix (g_Md_place (mm m (ps_k Z t p) fl r)) 60 (some ((g_Md_tape (mm m (ps_k Z t p) fl r)) (g_Md_place (mm m (ps_k Z t p) fl r)).toNatClampNeg, mm m (ps_k Z t p) fl r))) = _
  rw [mm_t, mm_p, mm_a, hT]
  unfold ps_h
  by_cases q : ps_k Z t p < t
  · rw [if_neg (by rw [iI_leN (by omega) (by omega)]; omega), nn_ixN (by omega) (by omega), iI_cN (by omega), hL _ q, if_pos q]
  · rw [if_pos (by rw [iI_leN (by omega) (by omega)]; omega), if_neg q]; rfl
theorem fz {q : Nat} (h : q ≤ 60) : ¬ iI (-20 - (q : Int)) = 0 := by
  rw [show (0 : Int32) = iI 0 from rfl, iI_eq (by omega) (by omega) (by omega) (by omega)]; omega
theorem i00 : iI 0 = (0 : Int32) := rfl
theorem c_takes0 {L : Nat → Int32} {Z : Nat → Int} {t : Nat} (hz : ps_ok Z t) (hL : ∀ i, i < t → L i = iI (Z i)) {p : Nat} (hp : p ≤ t) {a : Int} (a1 : 0 ≤ a) (a2 : a ≤ 126) : f_X4_takes (tz L t p 0) (iI a) = if ps_h Z t p = a then some (1, tz L t (ps_k Z t p + 1) 0) else some (0, tz L t (ps_k Z t p) 0) := by
  have hb := ps_hb hz p
  unfold f_X4_takes
  rw [tz_f, if_pos i00, c_coming hz hL hp, Option.bind_some]
  dsimp only
  rw [tz_p, iI_s, tz_sp]
  by_cases q : ps_h Z t p = a
  · rw [if_pos (by rw [q]), if_pos q]
  · rw [if_neg (by rw [iI_eq (by omega) (by omega) (by omega) (by omega)]; exact q), if_neg q]
theorem c_takesF (L : Nat → Int32) (t p : Nat) {q : Nat} (hq : q ≤ 60) (a : Int32) : f_X4_takes (tz L t p (-20 - (q : Int))) a = some (0, tz L t p (-20 - (q : Int))) := by
  unfold f_X4_takes
  rw [tz_f, if_neg (fz hq)]
theorem c_fault0 (L : Nat → Int32) (t p q : Nat) : f_X4_faultAt (tz L t p 0) (iI q) = some (tz L t p (-20 - (q : Int))) := by
  unfold f_X4_faultAt
  rw [tz_f, if_pos i00, show (-20 : Int32) = iI (-20) from rfl, iI_sub, tz_sf]
theorem c_faultF (L : Nat → Int32) (t p : Nat) {q : Nat} (hq : q ≤ 60) (a : Int32) : f_X4_faultAt (tz L t p (-20 - (q : Int))) a = some (tz L t p (-20 - (q : Int))) := by
  unfold f_X4_faultAt
  rw [tz_f, if_neg (fz hq)]
theorem c_isDig {a : Int} (h1 : -1000 ≤ a) (h2 : a ≤ 1000) : f_X4_isDigit (iI a) = some (if 48 ≤ a ∧ a ≤ 57 then 1 else 0) := by
  unfold f_X4_isDigit
  rw [show (48 : Int32) = iI 48 from rfl, show (57 : Int32) = iI 57 from rfl]
  simp (disch := omega) only [iI_lt]
  by_cases h3 : 48 ≤ a <;> by_cases h4 : a ≤ 57 <;> simp [h3, h4, Int.not_lt.mpr, Int.not_le.mp] <;> omega
theorem c_digF (L : Nat → Int32) (t p : Nat) {q : Nat} (hq : q ≤ 60) : f_X4_takeDigit (tz L t p (-20 - (q : Int))) = some (0, tz L t p (-20 - (q : Int))) := by
  unfold f_X4_takeDigit
  rw [tz_f, if_neg (fz hq)]
theorem c_dig0 {L : Nat → Int32} {Z : Nat → Int} {t : Nat} (hz : ps_ok Z t) (hL : ∀ i, i < t → L i = iI (Z i)) {p : Nat} (hp : p < t) (hd : 48 ≤ Z p ∧ Z p ≤ 57) : f_X4_takeDigit (tz L t p 0) = some (iI (Z p - 48), tz L t (p + 1) 0) := by
  have ht := hz.1
  unfold f_X4_takeDigit
  rw [tz_f, if_pos i00, tz_n, tz_p, if_neg (by rw [iI_leN (by omega) (by omega)]; omega), nn_ixN (by omega) (by omega), tz_l, iI_cN (by omega), hL p hp, c_isDig (by omega) (by omega), Option.bind_some, if_pos hd, if_neg one0, nn_ixN (by omega) (by omega), iI_s, tz_sp, show (48 : Int32) = iI 48 from rfl, iI_sub]
theorem c_numF {L : Nat → Int32} {Z : Nat → Int} {t : Nat} (hz : ps_ok Z t) (hL : ∀ i, i < t → L i = iI (Z i)) {p q : Nat} (hp : p ≤ t) (hq : q ≤ 60) {hi : Int} (h1 : 0 ≤ hi) (h2 : hi ≤ 1000) : ∃ v, f_X4_readNumber_J18 (tz L t p (-20 - (q : Int))) (iI hi) = some (v, tz L t p (-20 - (q : Int))) := by
  have ht := hz.1
  have z0 : (0 : Int32) ≤ iI hi := by rw [show (0 : Int32) = iI 0 from rfl, iI_le (by omega) (by omega) (by omega) (by omega)]; exact h1
  have z1 : (0 : Int32) * (10 : Int32) + 0 ≤ iI hi := z0
  unfold f_X4_readNumber_J18
  rw [c_digF L t p hq, Option.bind_some]
  dsimp only
  rw [tz_n, tz_p, tz_l]
  by_cases k : t ≤ p
  · rw [if_pos (by rw [iI_leN (by omega) (by omega)]; exact k), if_pos z0]; exact ⟨_, rfl⟩
  · have hb := hz.2 p (by omega)
    rw [if_neg (by rw [iI_leN (by omega) (by omega)]; exact k), nn_ixN (by omega) (by omega), iI_cN (by omega), hL p (by omega), c_isDig (by omega) (by omega), Option.bind_some, c_digF L t p hq, Option.bind_some]
    dsimp only
    rw [if_pos z0, if_pos z1]
    split
    · exact ⟨_, rfl⟩
    · exact ⟨_, rfl⟩
theorem c_numFF {L : Nat → Int32} {Z : Nat → Int} {t : Nat} (hz : ps_ok Z t) (hL : ∀ i, i < t → L i = iI (Z i)) {p q : Nat} (hp : p ≤ t) (hq : q ≤ 60) {hi : Int} (h1 : 0 ≤ hi) (h2 : hi ≤ 1000) : ∃ v p', p' ≤ t ∧ f_X4_readNumber (tz L t p (-20 - (q : Int))) (iI hi) = some (v, tz L t p' (-20 - (q : Int))) := by
  have hb := ps_kb Z hp
  have hh := ps_hb hz p
  unfold f_X4_readNumber
  rw [c_coming hz hL hp, Option.bind_some]
  dsimp only
  rw [c_isDig (by omega) (by omega), Option.bind_some, c_faultF L t _ hq, Option.bind_some]
  obtain ⟨v, e⟩ := c_numF hz hL hb.2 hq h1 h2
  rw [e]
  split
  · exact ⟨v, _, hb.2, rfl⟩
  · exact ⟨v, _, hb.2, rfl⟩
/-! the reference's steps -/
theorem m_mustF (m : nMd) (p : Nat) (r : Nat → Int32) (a : Int32) : f_X7_must (mm m p 1 r) a = some (mm m p 1 r) := by
  unfold f_X7_must f_X7_must_J12 f_X7_must_J17
  rw [mm_f, if_neg one0, nn_bo1, mm_sf, mm_f, if_neg one0, mm_p, show iI (p : Int) + (0 : Int32) = iI p from Int32.add_zero _, mm_sp, Option.bind_some]
theorem m_must0 (m : nMd) (p : Nat) (r : Nat → Int32) : f_X7_must (mm m p 0 r) 0 = some (mm m p 1 r) := by
  unfold f_X7_must f_X7_must_J12 f_X7_must_J17
  rw [mm_f, if_pos rfl, if_pos rfl, nn_bo1, mm_sf, mm_f, if_neg one0, mm_p, show iI (p : Int) + (0 : Int32) = iI p from Int32.add_zero _, mm_sp, Option.bind_some]
theorem m_must1 (m : nMd) (p : Nat) (r : Nat → Int32) : f_X7_must (mm m p 0 r) 1 = some (mm m (p + 1) 0 r) := by
  unfold f_X7_must f_X7_must_J12 f_X7_must_J17
  rw [mm_f, if_pos rfl, if_neg one0, nn_bo0, mm_sf, mm_f, if_pos rfl, mm_p, iI_s, mm_sp, Option.bind_some]
theorem m_numF (m : nMd) (p : Nat) (r : Nat → Int32) (hi : Int32) : ∃ v, f_X7_number (mm m p 1 r) hi = some (v, mm m p 1 r) := by
  unfold f_X7_number f_X7_number_J15
  rw [mm_f, if_neg one0, if_neg one0, mm_sf, show (100000 : Nat) = 99999 + 1 from rfl, f_X7_number_L54, mm_f, if_neg one0, if_neg one0]
  exact ⟨_, rfl⟩
