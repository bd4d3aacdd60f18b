/-! the class's history -/
theorem cV_s (c : nCs) (v : Nat) (x : nVl) : cV (cVs c v x) v = x := va_up_self _ _ _
theorem cV_n (c : nCs) {v w : Nat} (x : nVl) (h : w ≠ v) : cV (cVs c v x) w = cV c w := va_up_ne _ _ h
theorem cVs_s (c : nCs) (v : Nat) (x y : nVl) : cVs (cVs c v x) v y = cVs c v y := by
  show s_Cs_V c (va_up (va_up (g_Cs_V c) v x) v y) = _
  rw [bx_uu]; rfl
theorem cH_s (c : nCs) (v : Nat) (x : nHi) : cH (cHs c v x) v = x := va_up_self _ _ _
theorem cH_n (c : nCs) {v w : Nat} (x : nHi) (h : w ≠ v) : cH (cHs c v x) w = cH c w := va_up_ne _ _ h
theorem cHs_s (c : nCs) (v : Nat) (x y : nHi) : cHs (cHs c v x) v y = cHs c v y := by
  show s_Cs_H c (va_up (va_up (g_Cs_H c) v x) v y) = _
  rw [bx_uu]; rfl
theorem cS_s (c : nCs) (v : Nat) (x : nSh) : cS (cSs c v x) v = x := va_up_self _ _ _
theorem cS_n (c : nCs) {v w : Nat} (x : nSh) (h : w ≠ v) : cS (cSs c v x) w = cS c w := va_up_ne _ _ h
theorem cH_Vs (c : nCs) (v h : Nat) (x : nVl) : cH (cVs c v x) h = cH c h := rfl
theorem cV_Hs (c : nCs) (v h : Nat) (x : nHi) : cV (cHs c h x) v = cV c v := rfl
theorem cS_Vs (c : nCs) (v h : Nat) (x : nVl) : cS (cVs c v x) h = cS c h := rfl
theorem cV_Ss (c : nCs) (v h : Nat) (x : nSh) : cV (cSs c h x) v = cV c v := rfl
/-- the rest of the class's state -/
def rest5 (c c' : nCs) : Prop := g_Cs_im c' = g_Cs_im c ∧ g_Cs_se c' = g_Cs_se c ∧ g_Cs_ca c' = g_Cs_ca c ∧ g_Cs_ta c' = g_Cs_ta c ∧ g_Cs_sh c' = g_Cs_sh c
def frH (h : Nat) (c c' : nCs) : Prop := (∀ w, (w < 3 + 8 * h ∨ 3 + 8 * h + 8 ≤ w) → cV c' w = cV c w) ∧ (∀ g, g ≠ h → cH c' g = cH c g) ∧ rest5 c c'
def HC (c : nCs) (h kn : Nat) (hs : Nat → nSV) : Prop := ∃ p : Nat, p < 8 ∧ cH c h = (iI p, iI kn) ∧ ∀ k, k < kn → rC (cV c (3 + 8 * h + (p + 7 - k) % 8)) (hs k)
theorem HC_fr {c c' : nCs} {h g kn : Nat} {hs : Nat → nSV} (hf : frH h c c') (hg : g ≠ h) (hH : HC c g kn hs) : HC c' g kn hs := by
  obtain ⟨p, hp, e, q⟩ := hH
  refine ⟨p, hp, (hf.2.1 g hg).trans e, fun k hk => ?_⟩
  rw [hf.1 _ (by omega)]
  exact q k hk
theorem c_forget (c : nCs) (h kn : Nat) (hs : Nat → nSV) (hH : HC c h kn hs) (hs' : Nat → nSV) : ∃ c', f_X1_forget h c = some c' ∧ HC c' h 0 hs' ∧ (∀ w, cV c' w = cV c w) ∧ frH h c c' := by
  obtain ⟨p, hp, e, q⟩ := hH
  refine ⟨_, rfl, ⟨p, hp, ?_, fun k hk => absurd hk (by omega)⟩, fun w => rfl, fun w _ => rfl, fun g hg => cH_n _ _ hg, rfl, rfl, rfl, rfl, rfl⟩
  rw [cH_s, e]; rfl
theorem c_remember {c : nCs} {h v kn : Nat} {hs : Nat → nSV} {V : nSV} (hh : h < 2) (hv : v < 3) (hH : HC c h kn hs) (ok : okH kn hs) (hV : rC (cV c v) V) (okv : okV V) : ∃ c', f_X1_remember h v c = some c' ∧ HC c' h (kn1 kn) (psh V hs) ∧ frH h c c' := by
  obtain ⟨p, hp, e, q⟩ := hH
  have hk := ok.1
  obtain ⟨z, ez, hz⟩ := c_becomeLike (x := cV c (3 + 8 * h + p)) hV okv
  have en : g_Hi_next (cH c h) = iI p := by rw [e]; rfl
  have ek : g_Hi_known (cH c h) = iI kn := by rw [e]; rfl
  unfold f_X1_remember
  rw [en, nn_ixN hp (by omega), iI_cN (by omega), ez, Option.bind_some]
  simp only [cH_Vs]
  rw [en, Option.bind_some, cH_s]
  have e1 : (iI (p : Int) + 1 - (iI (p : Int) + 1) / 8 * 8) = iI ((((p + 1) % 8 : Nat)) : Int) := by
    rw [iI_s, show (8 : Int32) = iI 8 from rfl, iI_rem (by omega) (by omega) (by omega) (by omega)]; rfl
  rw [show g_Hi_known (s_Hi_next (cH c h) (iI (p : Int) + 1 - (iI (p : Int) + 1) / 8 * 8)) = iI kn from ek, iI_s, show (8 : Int32) = iI 8 from rfl, c_min (by omega) (by omega) (by omega) (by omega), Option.bind_some]
  refine ⟨_, rfl, ⟨(p + 1) % 8, by omega, ?_, fun k hk => ?_⟩, fun w hw => ?_, fun g hg => ?_, rfl, rfl, rfl, rfl, rfl⟩
  · rw [cH_s]
    show (_, _) = _
    rw [show iI 8 = (8 : Int32) from rfl]
    rw [show (iI (p : Int) + 1 - (iI (p : Int) + 1) / 8 * 8) = iI ((((p + 1) % 8 : Nat)) : Int) from e1]
    congr 2
    unfold kn1
    split <;> split <;> omega
  · rw [cV_Hs, cV_Hs]
    cases k with
    | zero =>
      rw [show ((p + 1) % 8 + 7 - 0) % 8 = p from by omega, cV_s]
      exact hz
    | succ k =>
      have hk9 : k < kn ∧ k < 7 := by unfold kn1 at hk; split at hk <;> omega
      rw [show ((p + 1) % 8 + 7 - (k + 1)) % 8 = (p + 7 - k) % 8 from by omega, cV_n _ _ (by omega)]
      exact q k hk9.1
  · rw [cV_Hs, cV_Hs, cV_n _ _ (by omega)]
  · rw [cH_n _ _ hg, cH_n _ _ hg, cH_Vs]
theorem c_takeBack {c : nCs} {h v kn : Nat} {hs : Nat → nSV} (hh : h < 2) (hv : v < 3) (hH : HC c h (kn + 1) hs) (ok : okH (kn + 1) hs) : ∃ c', f_X1_takeBack h v c = some (1, c') ∧ HC c' h kn (fun k => hs (k + 1)) ∧ rC (cV c' v) (hs 0) ∧ (∀ w, w ≠ v → cV c' w = cV c w) ∧ (∀ g, g ≠ h → cH c' g = cH c g) ∧ rest5 c c' := by
  obtain ⟨p, hp, e, q⟩ := hH
  have hk := ok.1
  have en : g_Hi_next (cH c h) = iI p := by rw [e]; rfl
  have ek : g_Hi_known (cH c h) = iI ((kn + 1 : Nat) : Int) := by rw [e]; rfl
  obtain ⟨z, ez, hz⟩ := c_becomeLike (x := cV c v) (q 0 (by omega)) (ok.2 0 (by omega)).1
  unfold f_X1_takeBack
  rw [ek, if_neg (by rw [show (0 : Int32) = iI ((0 : Nat) : Int) from rfl, iI_eqN (by omega) (by omega)]; omega), Option.bind_some]
  have e1 : iI (p : Int) + 8 - 1 - (iI (p : Int) + 8 - 1) / 8 * 8 = iI (((p + 7) % 8 : Nat) : Int) := by
    rw [show (8 : Int32) = iI 8 from rfl, show (1 : Int32) = iI 1 from rfl, iI_add, iI_sub, show (p : Int) + 8 - 1 = ((p + 7 : Nat) : Int) from by omega, iI_rem (by omega) (by omega) (by omega) (by omega)]; rfl
  rw [en, e1]
  simp only [cH_s, cV_Hs]
  rw [show g_Hi_next (s_Hi_known (s_Hi_next (cH c h) (iI (((p + 7) % 8 : Nat) : Int))) (g_Hi_known (s_Hi_next (cH c h) (iI (((p + 7) % 8 : Nat) : Int))) - 1)) = iI (((p + 7) % 8 : Nat) : Int) from rfl, nn_ixN (by omega) (by omega), iI_cN (by omega)]
  have ez2 : f_X5_becomeLike (cV c v) (cV c (3 + 8 * h + (p + 7) % 8)) = some z := ez
  rw [ez2, Option.bind_some]
  refine ⟨_, rfl, ⟨(p + 7) % 8, by omega, ?_, fun k hk => ?_⟩, ?_, fun w hw => ?_, fun g hg => ?_, rfl, rfl, rfl, rfl, rfl⟩
  · rw [cH_Vs, cH_s]
    show (iI (((p + 7) % 8 : Nat) : Int), g_Hi_known (cH c h) - 1) = _
    rw [ek, show (1 : Int32) = iI 1 from rfl, iI_sub]
    congr 2; omega
  · rw [cV_n _ _ (by omega)]
    have := q (k + 1) (by omega)
    rw [show (p + 7 - (k + 1)) % 8 = ((p + 7) % 8 + 7 - k) % 8 from by omega] at this
    exact this
  · rw [cV_s]; exact hz
  · rw [cV_n _ _ hw]; rfl
  · rw [cH_Vs, cH_n _ _ hg, cH_n _ _ hg]
theorem c_histLike {c : nCs} {h g kn : Nat} {hs : Nat → nSV} (hh : h < 2) (hg : g < 2) (hne : g ≠ h) (hH : HC c g kn hs) (ok : okH kn hs) : ∃ c', f_X1_becomeLike h g c = some c' ∧ HC c' h kn hs ∧ frH h c c' := by
  obtain ⟨p, hp, e, q⟩ := hH
  have hk := ok.1
  have key : ∀ (K : nCs → Int32 → Option nCs) (d n j : Nat) (c1 : nCs), j + d = 8 → d < n → frH h c c1 → cH c1 h = cH c h → (∀ i V, i < j → rC (cV c (3 + 8 * g + i)) V → okV V → rC (cV c1 (3 + 8 * h + i)) V) → ∃ c2, f_X1_becomeLike_L2 h g n c1 (iI j) K = K c2 (iI ((8 : Nat) : Int)) ∧ frH h c c2 ∧ (∀ i V, i < 8 → rC (cV c (3 + 8 * g + i)) V → okV V → rC (cV c2 (3 + 8 * h + i)) V) := by
    intro K d
    induction d with
    | zero =>
      intro n j c1 hj hd hf h1 h2
      obtain ⟨n, rfl, -⟩ := fuel hd
      obtain rfl : j = 8 := by omega
      refine ⟨c1, ?_, hf, h2⟩
      rw [f_X1_becomeLike_L2, show (8 : Int32) = iI ((8 : Nat) : Int) from rfl, if_pos (by rw [iI_leN (by omega) (by omega)]; omega)]
    | succ d ih =>
      intro n j c1 hj hd hf h1 h2
      obtain ⟨n, rfl, hd2⟩ := fuel hd
      rw [f_X1_becomeLike_L2, show (8 : Int32) = iI ((8 : Nat) : Int) from rfl, if_neg (by rw [iI_leN (by omega) (by omega)]; omega), nn_ixN (by omega) (by omega), nn_ixN (by omega) (by omega), iI_cN (by omega), iI_s]
      have hbl : ∃ z, f_X5_becomeLike (cV c1 (3 + 8 * h + j)) (cV c1 (3 + 8 * g + j)) = some z ∧ ∀ V, rC (cV c (3 + 8 * g + j)) V → okV V → rC z V := by
        refine ⟨_, rfl, fun V hV hok => ?_⟩
        have hV2 : rC (cV c1 (3 + 8 * g + j)) V := by rw [hf.1 _ (by omega)]; exact hV
        obtain ⟨z, ez, hz⟩ := c_becomeLike (x := cV c1 (3 + 8 * h + j)) hV2 hok
        cases ez
        exact hz
      obtain ⟨z, ez, hz⟩ := hbl
      rw [ez, Option.bind_some]
      refine ih n (j + 1) (cVs c1 (3 + 8 * h + j) z) (by omega) (by omega) ⟨fun w hw => ?_, hf.2.1, hf.2.2⟩ h1 (fun i V hi hV hok => ?_)
      · rw [cV_n _ _ (by omega)]; exact hf.1 w hw
      · by_cases hij : i = j
        · subst hij; rw [cV_s]; exact hz V hV hok
        · rw [cV_n _ _ (by omega)]; exact h2 i V (by omega) hV hok
  unfold f_X1_becomeLike
  obtain ⟨c2, e2, hf2, h2⟩ := key (fun c_7 b2_6 => (some (cHs (cHs c_7 h (s_Hi_next (cH c_7 h) (g_Hi_next (cH c_7 g)))) h (s_Hi_known (cH (cHs c_7 h (s_Hi_next (cH c_7 h) (g_Hi_next (cH c_7 g)))) h) (g_Hi_known (cH (cHs c_7 h (s_Hi_next (cH c_7 h) (g_Hi_next (cH c_7 g)))) g))))).bind fun c_8 => some (c_8)) 8 100000 0 c (by omega) (by omega) ⟨fun w _ => rfl, fun g _ => rfl, rfl, rfl, rfl, rfl, rfl⟩ rfl (fun i V hi => absurd hi (by omega))
  refine ⟨_, e2, ⟨p, hp, ?_, fun k hk => ?_⟩, fun w hw => hf2.1 w hw, fun g2 hg2 => ?_, hf2.2.2⟩
  · rw [cH_s, cH_s, cH_n _ _ hne]
    show (g_Hi_next (cH c2 g), g_Hi_known (cH c2 g)) = _
    rw [hf2.2.1 g hne, e]; rfl
  · exact h2 _ _ (by omega) (q k hk) (ok.2 k hk).1
  · rw [cH_n _ _ hg2, cH_n _ _ hg2]; exact hf2.2.1 g2 hg2
