/-! the two states together -/
def NW (c : nCs) (m : nMd) (V : nSV) : Prop := okY V ∧ rC (cV c 0) V ∧ rN m V
def HS (c : nCs) (m : nMd) : Prop := ∃ (kn : Nat) (hs : Nat → nSV), okH kn hs ∧ HC c 0 kn hs ∧ HM (g_Md_undone m) (g_Md_undos m) kn hs
def IM (c : nCs) (m : nMd) : Prop := (g_Cs_im c = 0 ∧ g_Md_isKept m = 0) ∨ (g_Cs_im c = 1 ∧ g_Md_isKept m = 1 ∧ ∃ (V : nSV) (kn : Nat) (hs : Nat → nSV), okY V ∧ rC (cV c 1) V ∧ rM (g_Md_kept m) 0 V ∧ okH kn hs ∧ HC c 1 kn hs ∧ HM (fun j => g_Md_kept m (27 + j)) (g_Md_keptUndos m) kn hs)
def TP (c : nCs) (m : nMd) : Prop := ∃ t : Nat, t ≤ 60 ∧ g_Ta_length (g_Cs_ta c) = iI t ∧ g_Md_typed m = iI t ∧ ∀ i, i < t → ∃ z : Int, 32 ≤ z ∧ z ≤ 126 ∧ g_Ta_letters (g_Cs_ta c) i = iI z ∧ g_Md_tape m i = iI z
def SHj (x : nSh) (m : nMd) (j : Nat) : Prop := (g_Sh_lane x = iI (-1) ∧ g_Md_lanes m j = iI (-1)) ∨ ∃ ln sz : Nat, ln ≤ 3 ∧ sz ≤ 24 ∧ g_Sh_lane x = iI ln ∧ g_Md_lanes m j = iI ln ∧ g_Sh_length x = iI sz ∧ g_Md_sizes m j = iI sz ∧ ∀ i, i < 24 → g_Sh_items x i = g_Md_items m (24 * j + i)
def SH (c : nCs) (m : nMd) : Prop := ∀ j, j < 4 → SHj (cS c j) m j
def Rel (c : nCs) (m : nMd) : Prop := (∃ V, NW c m V) ∧ HS c m ∧ IM c m ∧ TP c m ∧ SH c m
def simC (c c' : nCs) : Prop := (∀ w, w ≠ 2 → cV c' w = cV c w) ∧ (∀ g, cH c' g = cH c g) ∧ g_Cs_im c' = g_Cs_im c ∧ g_Cs_ta c' = g_Cs_ta c ∧ g_Cs_sh c' = g_Cs_sh c
def simM (m m' : nMd) : Prop := (∀ j, j < 27 → g_Md_now m' j = g_Md_now m j) ∧ g_Md_undone m' = g_Md_undone m ∧ g_Md_undos m' = g_Md_undos m ∧ g_Md_kept m' = g_Md_kept m ∧ g_Md_keptUndos m' = g_Md_keptUndos m ∧ g_Md_isKept m' = g_Md_isKept m ∧ g_Md_tape m' = g_Md_tape m ∧ g_Md_typed m' = g_Md_typed m ∧ g_Md_lanes m' = g_Md_lanes m ∧ g_Md_sizes m' = g_Md_sizes m ∧ g_Md_items m' = g_Md_items m
theorem simC_rf (c : nCs) : simC c c := ⟨fun _ _ => rfl, fun _ => rfl, rfl, rfl, rfl⟩
theorem simM_rf (m : nMd) : simM m m := ⟨fun _ _ => rfl, rfl, rfl, rfl, rfl, rfl, rfl, rfl, rfl, rfl, rfl⟩
theorem simC_V2 {c c' : nCs} (h : simC c c') (x : nVl) : simC c (cVs c' 2 x) := ⟨fun w hw => (cV_n _ _ hw).trans (h.1 w hw), h.2.1, h.2.2.1, h.2.2.2.1, h.2.2.2.2⟩
theorem HC_sim {c c' : nCs} (h : simC c c') {g kn : Nat} {hs : Nat → nSV} (hH : HC c g kn hs) : HC c' g kn hs := by
  obtain ⟨p, hp, e, q⟩ := hH
  exact ⟨p, hp, (h.2.1 g).trans e, fun k hk => by rw [h.1 _ (by omega)]; exact q k hk⟩
theorem SHj_congr {x : nSh} {m m' : nMd} {j : Nat} (hj : j < 4) (h1 : g_Md_lanes m' j = g_Md_lanes m j) (h2 : g_Md_sizes m' j = g_Md_sizes m j) (h3 : ∀ i, i < 24 → g_Md_items m' (24 * j + i) = g_Md_items m (24 * j + i)) (h : SHj x m j) : SHj x m' j := by
  rcases h with h | ⟨ln, sz, a1, a2, a3, a4, a5, a6, a7⟩
  · exact Or.inl ⟨h.1, h1.trans h.2⟩
  · exact Or.inr ⟨ln, sz, a1, a2, a3, h1.trans a4, a5, h2.trans a6, fun i hi => (a7 i hi).trans (h3 i hi).symm⟩
theorem Rel_sim {c c' : nCs} {m m' : nMd} (hc : simC c c') (hm : simM m m') (h : Rel c m) : Rel c' m' := by
  obtain ⟨⟨V, v1, v2, v3⟩, ⟨kn, hs, q1, q2, q3⟩, him, ⟨t, t1, t2, t3, t4⟩, hsh⟩ := h
  obtain ⟨m1, m2, m3, m4, m5, m6, m7, m8, m9, m10, m11⟩ := hm
  refine ⟨⟨V, v1, ?_, rM_congr v1.1.1 v3 (fun j hj => by simp only [Nat.zero_add]; exact m1 j hj)⟩, ⟨kn, hs, q1, HC_sim hc q2, ?_⟩, ?_, ⟨t, t1, ?_, ?_, ?_⟩, ?_⟩
  · rw [hc.1 0 (by omega)]; exact v2
  · rw [m2, m3]; exact q3
  · rcases him with i1 | ⟨i1, i2, U, kn, hs, i3, i4, i5, i6, i7, i8⟩
    · exact Or.inl ⟨hc.2.2.1.trans i1.1, m6.trans i1.2⟩
    · refine Or.inr ⟨hc.2.2.1.trans i1, m6.trans i2, U, kn, hs, i3, ?_, ?_, i6, HC_sim hc i7, ?_⟩
      · rw [hc.1 1 (by omega)]; exact i4
      · rw [m4]; exact i5
      · rw [m4, m5]; exact i8
  · rw [hc.2.2.2.1]; exact t2
  · rw [m8]; exact t3
  · rw [hc.2.2.2.1, m7]; exact t4
  · intro j hj
    have := hsh j hj
    rw [show cS c' j = cS c j from by unfold cS; rw [hc.2.2.2.2]]
    exact SHj_congr hj (by rw [m9]) (by rw [m10]) (fun i _ => by rw [m11]) this
def OK2 (x : Option (Int32 × nCs)) (y : Option (Int32 × nMd)) : Prop := ∃ (r : Int32) (c' : nCs) (m' : nMd), x = some (r, c') ∧ y = some (r, m') ∧ Rel c' m'
def OK1 {α : Type} (x y : Option α) : Prop := ∃ r, x = some r ∧ y = some r
theorem c_isMinute {a : Int} (h1 : -2147483648 ≤ a) (h2 : a < 2147483648) : f_X6_isMinute (iI a) = some (if 0 ≤ a ∧ a ≤ 59 then 1 else 0) := by
  unfold f_X6_isMinute
  rw [show (0 : Int32) = iI 0 from rfl, show (59 : Int32) = iI 59 from rfl, c_within h1 h2 (by omega) (by omega) (by omega) (by omega), Option.bind_some]
  split
  · exact nn_bo1
  · exact nn_bo0
theorem m_comes {m : nMd} {V : nSV} (h : rN m V) (hn : v_n V < 6) (k t d l : Int) : ∃ w, f_X7_villageComes m (iI k) (iI t) (iI d) (iI l) = some (s_Md_undos (s_Md_now m w) 0) ∧ rM w 0 (ADD V k t d l) := by
  unfold f_X7_villageComes
  rw [m_n h]
  rw [show (3 : Int32) = iI ((3 : Nat) : Int) from rfl, show (2 : Int32) = iI ((2 : Nat) : Int) from rfl, show (1 : Int32) = iI ((1 : Nat) : Int) from rfl, show (0 : Int32) = iI ((0 : Nat) : Int) from rfl]
  rw [m_tells hn (by omega), Option.bind_some, m_tells hn (by omega), Option.bind_some, m_tells hn (by omega), Option.bind_some, m_tells hn (by omega), Option.bind_some, Option.bind_some]
  refine ⟨_, rfl, ?_⟩
  simp only [gsMd0, gsMd1, gsMd2, gsMd3, gsMd4, gsMd5, gsMd6, Nat.add_zero]
  rw [show (iI ((0 : Nat) : Int)).toNatClampNeg = 0 from rfl]
  refine ⟨?_, ?_, ?_, fun i hi => ?_⟩
  · rw [pk_us]
    repeat rw [pk_un (by omega)]
    rw [h.1]; exact iI_s _
  · repeat rw [pk_un (by omega)]
    exact h.2.1
  · repeat rw [pk_un (by omega)]
    exact h.2.2.1
  · have hi2 : i < v_n V + 1 := hi
    show _ = iI (if i = v_n V then k else v_k V i) ∧ _ = iI (if i = v_n V then t else v_m V i) ∧ _ = iI (if i = v_n V then d else v_d V i) ∧ _ = iI (if i = v_n V then l else v_l V i)
    simp only [Nat.zero_add]
    by_cases hi3 : i = v_n V
    · subst hi3
      rw [if_pos rfl, if_pos rfl, if_pos rfl, if_pos rfl]
      refine ⟨?_, ?_, ?_, ?_⟩
      · repeat rw [pk_un (by omega)]
        exact pk_us
      · repeat rw [pk_un (by omega)]
        exact pk_us
      · repeat rw [pk_un (by omega)]
        exact pk_us
      · repeat rw [pk_un (by omega)]
        exact pk_us
    · rw [if_neg hi3, if_neg hi3, if_neg hi3, if_neg hi3]
      have h4 := m_at h (show i < v_n V by omega)
      refine ⟨?_, ?_, ?_, ?_⟩
      · repeat rw [pk_un (by omega)]
        exact h4.1
      · repeat rw [pk_un (by omega)]
        exact h4.2.1
      · repeat rw [pk_un (by omega)]
        exact h4.2.2.1
      · repeat rw [pk_un (by omega)]
        exact h4.2.2.2
theorem op_village {c : nCs} {m : nMd} (h : Rel c m) (a1 a2 a3 : Int32) : OK2 (f_X6_village c a1 a2 a3) (f_X7_village m a1 a2 a3) := by
  obtain ⟨a, a_1, a_2, rfl⟩ := iI_of a1
  obtain ⟨b, b_1, b_2, rfl⟩ := iI_of a2
  obtain ⟨d, d_1, d_2, rfl⟩ := iI_of a3
  have hR := h
  obtain ⟨⟨V, v1, v2, v3⟩, ⟨kn, hs, q1, q2, q3⟩, him, htp, hsh⟩ := h
  have hn := v1.1.1
  unfold f_X6_village f_X7_village
  rw [w_0_4 a_1 a_2, i_0_4 a_1 a_2, c_isMinute b_1 b_2, i_0_59 b_1 b_2, w_m9_9 d_1 d_2, i_m9_9 d_1 d_2]
  simp only [Option.bind_some]
  by_cases k1 : 0 ≤ a ∧ a ≤ 4
  rotate_left
  · simp only [if_neg k1, if_true]; exact ⟨_, _, _, rfl, rfl, hR⟩
  by_cases k2 : 0 ≤ b ∧ b ≤ 59
  rotate_left
  · simp only [if_neg k2, if_true, if_pos k1, if_neg (show ¬ (1 : Int32) = 0 by decide)]; exact ⟨_, _, _, rfl, rfl, hR⟩
  by_cases k3 : -9 ≤ d ∧ d ≤ 9
  rotate_left
  · simp only [if_neg k3, if_true, if_pos k1, if_pos k2, if_neg (show ¬ (1 : Int32) = 0 by decide)]; exact ⟨_, _, _, rfl, rfl, hR⟩
  simp only [if_pos k1, if_pos k2, if_pos k3, if_neg (show ¬ (1 : Int32) = 0 by decide)]
  rw [v2.1, m_n v3, show (6 : Int32) = iI ((6 : Nat) : Int) from rfl]
  by_cases k4 : v_n V < 6
  · rw [if_pos (by rw [iI_ltN (by omega) (by omega)]; exact k4), if_neg (by rw [iI_eqN (by omega) (by omega)]; omega)]
    obtain ⟨z, ez, hz⟩ := c_build v2 v1.1 k4 a b d 0
    obtain ⟨w, ew, hw⟩ := m_comes v3 k4 a b d 0
    rw [show (0 : Int32) = iI 0 from rfl, ez, ew, Option.bind_some, Option.bind_some]
    have q2' : HC (cVs c 0 z) 0 kn hs := by
      obtain ⟨p, hp, e, q⟩ := q2
      exact ⟨p, hp, e, fun k hk => by rw [cV_n _ _ (by omega)]; exact q k hk⟩
    obtain ⟨c', ec, hc1, hc2, hc3⟩ := c_forget (cVs c 0 z) 0 kn hs q2' hs
    rw [ec, Option.bind_some, hc2 0, cV_s, hz.1]
    refine ⟨_, c', s_Md_undos (s_Md_now m w) 0, rfl, ?_, ⟨ADD V a b d 0, ⟨ADD_ok v1.1 k4 k1 k2 k3 (by omega), v1.2⟩, ?_, hw⟩, ⟨0, hs, ⟨by omega, fun k hk => absurd hk (by omega)⟩, hc1, ⟨rfl, fun k hk => absurd hk (by omega)⟩⟩, ?_, ?_, ?_⟩
    · show some (g_Md_now (s_Md_undos (s_Md_now m w) 0) (0 : Int32).toNatClampNeg - 1, _) = _
      rw [show g_Md_now (s_Md_undos (s_Md_now m w) 0) (0 : Int32).toNatClampNeg = iI ((v_n (ADD V a b d 0) : Nat) : Int) from hw.1]
    · rw [hc2 0, cV_s]; exact hz
    · rcases him with i1 | ⟨i1, i2, U, kn2, hs2, i3, i4, i5, i6, i7, i8⟩
      · exact Or.inl ⟨hc3.2.2.1.trans i1.1, i1.2⟩
      · refine Or.inr ⟨hc3.2.2.1.trans i1, i2, U, kn2, hs2, i3, ?_, i5, i6, ?_, i8⟩
        · rw [hc2 1, cV_n _ _ (by omega)]; exact i4
        · refine HC_fr hc3 (by omega) ?_
          obtain ⟨p, hp, e, q⟩ := i7
          exact ⟨p, hp, e, fun k hk => by rw [cV_n _ _ (by omega)]; exact q k hk⟩
    · obtain ⟨t, t1, t2, t3, t4⟩ := htp
      have e : g_Cs_ta c' = g_Cs_ta c := hc3.2.2.2.2.2.1
      exact ⟨t, t1, by rw [e]; exact t2, t3, by rw [e]; exact t4⟩
    · intro j hj
      have e : g_Cs_sh c' = g_Cs_sh c := hc3.2.2.2.2.2.2
      rw [show cS c' j = cS c j from by unfold cS; rw [e]]
      exact hsh j hj
  · rw [if_neg (by rw [iI_ltN (by omega) (by omega)]; exact k4), if_pos (by rw [iI_eqN (by omega) (by omega)]; omega)]
    exact ⟨_, _, _, rfl, rfl, hR⟩
