/-! rows that are copied -/
def ow {α : Type} (f src : Nat → α) (o s j N : Nat) : Nat → α := fun i => if o + j ≤ i ∧ i < o + N then src (s + (i - o)) else f i
theorem ow_end {α : Type} (f src : Nat → α) (o s N : Nat) : ow f src o s N N = f := by
  funext i; unfold ow; rw [if_neg (by omega)]
theorem ow_step (f src : Nat → Int32) (o s : Nat) {j N : Nat} (h : j < N) : ow (upd f (o + j) (src (s + j))) src o s (j + 1) N = ow f src o s j N := by
  funext i; unfold ow
  by_cases h1 : o + (j + 1) ≤ i ∧ i < o + N
  · rw [if_pos h1, if_pos (by omega)]
  · rw [if_neg h1]
    by_cases h2 : i = o + j
    · rw [h2, pk_us, if_pos (by omega)]; congr 1; omega
    · rw [pk_un h2, if_neg (by omega)]
theorem ow_in {α : Type} {f src : Nat → α} {o s N i : Nat} (h : i < N) : ow f src o s 0 N (o + i) = src (s + i) := by
  unfold ow; rw [if_pos (by omega)]; congr 1; omega
theorem ow_out {α : Type} {f src : Nat → α} {o s N i : Nat} (h : i < o ∨ o + N ≤ i) : ow f src o s 0 N i = f i := by
  unfold ow; rw [if_neg (by omega)]
theorem l_asides (m : nMd) (K : nMd → Int32 → Option (nMd)) : ∀ (d n j : Nat) (f : Nat → Int32), j + d = 27 → d < n → f_X7_asides_L2 n (s_Md_aside m f) (iI j) K = K (s_Md_aside m (ow f (g_Md_now m) 0 0 j 27)) (iI ((27 : Nat) : Int)) := by
  intro d
  induction d with
  | zero =>
    intro n j f hj hd
    obtain ⟨n, rfl, -⟩ := fuel hd
    obtain rfl : j = 27 := by omega
    rw [f_X7_asides_L2, show (27 : Int32) = iI ((27 : Nat) : Int) from rfl, if_pos (by rw [iI_leN (by omega) (by omega)]; omega), ow_end]
  | succ d ih =>
    intro n j f hj hd
    obtain ⟨n, rfl, hd2⟩ := fuel hd
    rw [f_X7_asides_L2, show (27 : Int32) = iI ((27 : Nat) : Int) from rfl, if_neg (by rw [iI_leN (by omega) (by omega)]; omega)]
    rw [nn_ixN (by omega) (by omega), nn_ixN (by omega) (by omega), iI_cN (by omega)]
    rw [Option.bind_some, iI_s, ← ow_step f (g_Md_now m) 0 0 (show j < 27 by omega)]
    have e := ih n (j + 1) (upd f (0 + j) (g_Md_now m (0 + j))) (by omega) (by omega)
    simp only [Nat.zero_add] at e ⊢
    exact e
theorem l_backs (m : nMd) (K : nMd → Int32 → Option (nMd)) : ∀ (d n j : Nat) (f : Nat → Int32), j + d = 27 → d < n → f_X7_backs_L2 n (s_Md_now m f) (iI j) K = K (s_Md_now m (ow f (g_Md_aside m) 0 0 j 27)) (iI ((27 : Nat) : Int)) := by
  intro d
  induction d with
  | zero =>
    intro n j f hj hd
    obtain ⟨n, rfl, -⟩ := fuel hd
    obtain rfl : j = 27 := by omega
    rw [f_X7_backs_L2, show (27 : Int32) = iI ((27 : Nat) : Int) from rfl, if_pos (by rw [iI_leN (by omega) (by omega)]; omega), ow_end]
  | succ d ih =>
    intro n j f hj hd
    obtain ⟨n, rfl, hd2⟩ := fuel hd
    rw [f_X7_backs_L2, show (27 : Int32) = iI ((27 : Nat) : Int) from rfl, if_neg (by rw [iI_leN (by omega) (by omega)]; omega)]
    rw [nn_ixN (by omega) (by omega), nn_ixN (by omega) (by omega), iI_cN (by omega)]
    rw [Option.bind_some, iI_s, ← ow_step f (g_Md_aside m) 0 0 (show j < 27 by omega)]
    have e := ih n (j + 1) (upd f (0 + j) (g_Md_aside m (0 + j))) (by omega) (by omega)
    simp only [Nat.zero_add] at e ⊢
    exact e
theorem l_image2 (m : nMd) (K : nMd → Int32 → Option (Int32 × nMd)) : ∀ (d n j : Nat) (f : Nat → Int32), j + d = 27 → d < n → f_X7_image_L2 n (s_Md_kept m f) (iI j) K = K (s_Md_kept m (ow f (g_Md_now m) 0 0 j 27)) (iI ((27 : Nat) : Int)) := by
  intro d
  induction d with
  | zero =>
    intro n j f hj hd
    obtain ⟨n, rfl, -⟩ := fuel hd
    obtain rfl : j = 27 := by omega
    rw [f_X7_image_L2, show (27 : Int32) = iI ((27 : Nat) : Int) from rfl, if_pos (by rw [iI_leN (by omega) (by omega)]; omega), ow_end]
  | succ d ih =>
    intro n j f hj hd
    obtain ⟨n, rfl, hd2⟩ := fuel hd
    rw [f_X7_image_L2, show (27 : Int32) = iI ((27 : Nat) : Int) from rfl, if_neg (by rw [iI_leN (by omega) (by omega)]; omega)]
    rw [nn_ixN (by omega) (by omega), nn_ixN (by omega) (by omega), iI_cN (by omega)]
    rw [Option.bind_some, iI_s, ← ow_step f (g_Md_now m) 0 0 (show j < 27 by omega)]
    have e := ih n (j + 1) (upd f (0 + j) (g_Md_now m (0 + j))) (by omega) (by omega)
    simp only [Nat.zero_add] at e ⊢
    exact e
theorem l_restore12 (m : nMd) (K : nMd → Int32 → Option (Int32 × nMd)) : ∀ (d n j : Nat) (f : Nat → Int32), j + d = 27 → d < n → f_X7_restore_L12 n (s_Md_now m f) (iI j) K = K (s_Md_now m (ow f (g_Md_kept m) 0 0 j 27)) (iI ((27 : Nat) : Int)) := by
  intro d
  induction d with
  | zero =>
    intro n j f hj hd
    obtain ⟨n, rfl, -⟩ := fuel hd
    obtain rfl : j = 27 := by omega
    rw [f_X7_restore_L12, show (27 : Int32) = iI ((27 : Nat) : Int) from rfl, if_pos (by rw [iI_leN (by omega) (by omega)]; omega), ow_end]
  | succ d ih =>
    intro n j f hj hd
    obtain ⟨n, rfl, hd2⟩ := fuel hd
    rw [f_X7_restore_L12, show (27 : Int32) = iI ((27 : Nat) : Int) from rfl, if_neg (by rw [iI_leN (by omega) (by omega)]; omega)]
    rw [nn_ixN (by omega) (by omega), nn_ixN (by omega) (by omega), iI_cN (by omega)]
    rw [Option.bind_some, iI_s, ← ow_step f (g_Md_kept m) 0 0 (show j < 27 by omega)]
    have e := ih n (j + 1) (upd f (0 + j) (g_Md_kept m (0 + j))) (by omega) (by omega)
    simp only [Nat.zero_add] at e ⊢
    exact e
theorem l_image28 (m : nMd) (K : nMd → Int32 → Option (Int32 × nMd)) : ∀ (d n j : Nat) (f : Nat → Int32), j + d = 216 → d < n → f_X7_image_L28 n (s_Md_kept m f) (iI j) K = K (s_Md_kept m (ow f (g_Md_undone m) 27 0 j 216)) (iI ((216 : Nat) : Int)) := by
  intro d
  induction d with
  | zero =>
    intro n j f hj hd
    obtain ⟨n, rfl, -⟩ := fuel hd
    obtain rfl : j = 216 := by omega
    rw [f_X7_image_L28, show (216 : Int32) = iI ((216 : Nat) : Int) from rfl, if_pos (by rw [iI_leN (by omega) (by omega)]; omega), ow_end]
  | succ d ih =>
    intro n j f hj hd
    obtain ⟨n, rfl, hd2⟩ := fuel hd
    rw [f_X7_image_L28, show (216 : Int32) = iI ((216 : Nat) : Int) from rfl, if_neg (by rw [iI_leN (by omega) (by omega)]; omega)]
    rw [nn_ixN (by omega) (by omega), show (27 : Int32) = iI 27 from rfl, iI_add, show (27 : Int) + (j : Int) = ((27 + j : Nat) : Int) from by omega, nn_ixN (by omega) (by omega), iI_cN (by omega), iI_cN (by omega)]
    rw [Option.bind_some, iI_s, ← ow_step f (g_Md_undone m) 27 0 (show j < 216 by omega)]
    have e := ih n (j + 1) (upd f (27 + j) (g_Md_undone m (0 + j))) (by omega) (by omega)
    simp only [Nat.zero_add] at e ⊢
    exact e
theorem l_restore38 (m : nMd) (K : nMd → Int32 → Option (Int32 × nMd)) : ∀ (d n j : Nat) (f : Nat → Int32), j + d = 216 → d < n → f_X7_restore_L38 n (s_Md_undone m f) (iI j) K = K (s_Md_undone m (ow f (g_Md_kept m) 0 27 j 216)) (iI ((216 : Nat) : Int)) := by
  intro d
  induction d with
  | zero =>
    intro n j f hj hd
    obtain ⟨n, rfl, -⟩ := fuel hd
    obtain rfl : j = 216 := by omega
    rw [f_X7_restore_L38, show (216 : Int32) = iI ((216 : Nat) : Int) from rfl, if_pos (by rw [iI_leN (by omega) (by omega)]; omega), ow_end]
  | succ d ih =>
    intro n j f hj hd
    obtain ⟨n, rfl, hd2⟩ := fuel hd
    rw [f_X7_restore_L38, show (216 : Int32) = iI ((216 : Nat) : Int) from rfl, if_neg (by rw [iI_leN (by omega) (by omega)]; omega)]
    rw [show (27 : Int32) = iI 27 from rfl, iI_add, show (27 : Int) + (j : Int) = ((27 + j : Nat) : Int) from by omega, nn_ixN (by omega) (by omega), nn_ixN (by omega) (by omega), iI_cN (by omega), iI_cN (by omega)]
    rw [Option.bind_some, iI_s, ← ow_step f (g_Md_kept m) 0 27 (show j < 216 by omega)]
    have e := ih n (j + 1) (upd f (0 + j) (g_Md_kept m (27 + j))) (by omega) (by omega)
    simp only [Nat.zero_add] at e ⊢
    exact e
theorem l_notes48 (m : nMd) (K : nMd → Int32 → Option (nMd)) {u : Nat} (hu : g_Md_undos m = iI u) (hu8 : u < 8) : ∀ (d n j : Nat) (f : Nat → Int32), j + d = 27 → d < n → f_X7_notes_L48 n (s_Md_undone m f) (iI j) K = K (s_Md_undone m (ow f (g_Md_now m) (27 * u) 0 j 27)) (iI ((27 : Nat) : Int)) := by
  intro d
  induction d with
  | zero =>
    intro n j f hj hd
    obtain ⟨n, rfl, -⟩ := fuel hd
    obtain rfl : j = 27 := by omega
    rw [f_X7_notes_L48, show (27 : Int32) = iI ((27 : Nat) : Int) from rfl, if_pos (by rw [iI_leN (by omega) (by omega)]; omega), ow_end]
  | succ d ih =>
    intro n j f hj hd
    obtain ⟨n, rfl, hd2⟩ := fuel hd
    rw [f_X7_notes_L48, show (27 : Int32) = iI ((27 : Nat) : Int) from rfl, if_neg (by rw [iI_leN (by omega) (by omega)]; omega)]
    rw [show g_Md_undos (s_Md_undone m f) = iI u from hu, show iI ((27 : Nat) : Int) * iI (u : Int) = iI ((27 * u : Nat) : Int) from by rw [iI_mul]; rfl, iI_add, show ((27 * u : Nat) : Int) + (j : Int) = ((27 * u + j : Nat) : Int) from by omega, nn_ixN (by omega) (by omega), nn_ixN (by omega) (by omega), iI_cN (by omega), iI_cN (by omega)]
    rw [Option.bind_some, iI_s, ← ow_step f (g_Md_now m) (27 * u) 0 (show j < 27 by omega)]
    have e := ih n (j + 1) (upd f ((27 * u) + j) (g_Md_now m (0 + j))) (by omega) (by omega)
    simp only [Nat.zero_add] at e ⊢
    exact e
theorem l_undo22 (m : nMd) (K : nMd → Int32 → Option (Int32 × nMd)) {u : Nat} (hu : g_Md_undos m = iI u) (hu8 : u < 8) : ∀ (d n j : Nat) (f : Nat → Int32), j + d = 27 → d < n → f_X7_undo_L22 n (s_Md_now m f) (iI j) K = K (s_Md_now m (ow f (g_Md_undone m) 0 (27 * u) j 27)) (iI ((27 : Nat) : Int)) := by
  intro d
  induction d with
  | zero =>
    intro n j f hj hd
    obtain ⟨n, rfl, -⟩ := fuel hd
    obtain rfl : j = 27 := by omega
    rw [f_X7_undo_L22, show (27 : Int32) = iI ((27 : Nat) : Int) from rfl, if_pos (by rw [iI_leN (by omega) (by omega)]; omega), ow_end]
  | succ d ih =>
    intro n j f hj hd
    obtain ⟨n, rfl, hd2⟩ := fuel hd
    rw [f_X7_undo_L22, show (27 : Int32) = iI ((27 : Nat) : Int) from rfl, if_neg (by rw [iI_leN (by omega) (by omega)]; omega)]
    rw [show g_Md_undos (s_Md_now m f) = iI u from hu, show iI ((27 : Nat) : Int) * iI (u : Int) = iI ((27 * u : Nat) : Int) from by rw [iI_mul]; rfl, iI_add, show ((27 * u : Nat) : Int) + (j : Int) = ((27 * u + j : Nat) : Int) from by omega, nn_ixN (by omega) (by omega), nn_ixN (by omega) (by omega), iI_cN (by omega), iI_cN (by omega)]
    rw [Option.bind_some, iI_s, ← ow_step f (g_Md_undone m) 0 (27 * u) (show j < 27 by omega)]
    have e := ih n (j + 1) (upd f (0 + j) (g_Md_undone m ((27 * u) + j))) (by omega) (by omega)
    simp only [Nat.zero_add] at e ⊢
    exact e
theorem m_asides (m : nMd) : f_X7_asides m = some (s_Md_aside m (ow (g_Md_aside m) (g_Md_now m) 0 0 0 27)) := l_asides m (fun m_7 b1_6 => some (m_7)) 27 100000 0 (g_Md_aside m) (by omega) (by omega)
theorem m_backs (m : nMd) : f_X7_backs m = some (s_Md_now m (ow (g_Md_now m) (g_Md_aside m) 0 0 0 27)) := l_backs m (fun m_7 b1_6 => some (m_7)) 27 100000 0 (g_Md_now m) (by omega) (by omega)
theorem m_goesOn : ∀ (n : Nat) {m : nMd} {V : nSV}, n ≤ 1000 → rN m V → okV V → v_y V + n ≤ 20000 → ∃ w l, f_X7_goesOn m (iI n) = some (s_Md_later (s_Md_now m w) l) ∧ rM w 0 (PDn n V) := by
  intro n m V hn h ok hy
  have key : ∀ (K : nMd → Int32 → Int32 → Option nMd) (d f j : Nat) (m : nMd) (V : nSV), j + d = n → d < f → rN m V → okV V → v_y V + d ≤ 20000 → ∃ w l, f_X7_goesOn_L2 f m (iI n) (iI j) K = K (s_Md_later (s_Md_now m w) l) (iI n) (iI n) ∧ rM w 0 (PDn d V) := by
    intro K d
    induction d with
    | zero =>
      intro f j m V hj hd h ok hy
      obtain ⟨f, rfl, -⟩ := fuel hd
      obtain rfl : j = n := by omega
      refine ⟨g_Md_now m, g_Md_later m, ?_, h⟩
      rw [f_X7_goesOn_L2, if_pos (by rw [iI_leN (by omega) (by omega)]; omega)]
      rfl
    | succ d ih =>
      intro f j m V hj hd h ok hy
      obtain ⟨f, rfl, hd2⟩ := fuel hd
      obtain ⟨w, l, e, hw⟩ := m_goesBy h ok
      rw [f_X7_goesOn_L2, if_neg (by rw [iI_leN (by omega) (by omega)]; omega), e, Option.bind_some, iI_s]
      obtain ⟨w2, l2, e2, hw2⟩ := ih f (j + 1) (s_Md_later (s_Md_now m w) l) (PD V) (by omega) (by omega) hw (PD_ok ok (by omega)) (by show v_y V + 1 + d ≤ _; omega)
      exact ⟨w2, l2, e2, hw2⟩
  unfold f_X7_goesOn
  obtain ⟨w, l, e, hw⟩ := key (fun m_6 b1_4 b2_5 => some (m_6)) n 100000 0 m V (by omega) (by omega) h ok hy
  exact ⟨w, l, e, hw⟩
theorem l_notes12 (m : nMd) (K : nMd → Int32 → Option nMd) : ∀ (d n j : Nat) (f : Nat → Int32), j + d = 216 → 27 ≤ j → d < n → f_X7_notes_L12 n (s_Md_undone m f) (iI j) K = K (s_Md_undone m (fun i => if j - 27 ≤ i ∧ i < 189 then f (i + 27) else f i)) (iI ((216 : Nat) : Int)) := by
  intro d
  induction d with
  | zero =>
    intro n j f hj hj2 hd
    obtain ⟨n, rfl, -⟩ := fuel hd
    obtain rfl : j = 216 := by omega
    rw [f_X7_notes_L12, show (216 : Int32) = iI ((216 : Nat) : Int) from rfl, if_pos (by rw [iI_leN (by omega) (by omega)]; omega)]
    congr 2
    funext i; rw [if_neg (by omega)]
  | succ d ih =>
    intro n j f hj hj2 hd
    obtain ⟨n, rfl, hd2⟩ := fuel hd
    rw [f_X7_notes_L12, show (216 : Int32) = iI ((216 : Nat) : Int) from rfl, if_neg (by rw [iI_leN (by omega) (by omega)]; omega)]
    rw [show (27 : Int32) = iI 27 from rfl, iI_sub, show (j : Int) - 27 = ((j - 27 : Nat) : Int) from by omega, nn_ixN (by omega) (by omega), nn_ixN (by omega) (by omega), iI_cN (by omega), iI_cN (by omega), Option.bind_some, iI_s]
    refine (ih n (j + 1) (upd f (j - 27) (f j)) (by omega) (by omega) (by omega)).trans ?_
    congr 2
    funext i
    by_cases h1 : i = j - 27
    · rw [if_neg (by omega), if_pos (by omega), h1, pk_us]; congr 1; omega
    · by_cases h2 : j + 1 - 27 ≤ i ∧ i < 189
      · rw [if_pos h2, if_pos (by omega), pk_un (by omega)]
      · rw [if_neg h2, if_neg (by omega), pk_un h1]
/-- what may be undone, the latest first -/
def HM (w : Nat → Int32) (u : Int32) (kn : Nat) (hs : Nat → nSV) : Prop := u = iI kn ∧ ∀ k, k < kn → rM w (27 * (kn - 1 - k)) (hs k)
def okY (V : nSV) : Prop := okV V ∧ v_y V ≤ 9999
def okH (kn : Nat) (hs : Nat → nSV) : Prop := kn ≤ 8 ∧ ∀ k, k < kn → okY (hs k)
/-- one more -/
def psh (V : nSV) (hs : Nat → nSV) : Nat → nSV := fun k => match k with
  | 0 => V
  | k + 1 => hs k
def kn1 (kn : Nat) : Nat := if kn = 8 then 8 else kn + 1
theorem okH_psh {kn : Nat} {hs : Nat → nSV} {V : nSV} (h : okH kn hs) (hV : okY V) : okH (kn1 kn) (psh V hs) := by
  have h1 := h.1
  refine ⟨by unfold kn1; split <;> omega, fun k hk => ?_⟩
  cases k with
  | zero => exact hV
  | succ k => exact h.2 k (by unfold kn1 at hk; split at hk <;> omega)
theorem m_notes {m : nMd} {V : nSV} {kn : Nat} {hs : Nat → nSV} (h : rN m V) (hV : okY V) (ok : okH kn hs) (hH : HM (g_Md_undone m) (g_Md_undos m) kn hs) : ∃ w, f_X7_notes m = some (s_Md_undos (s_Md_undone m w) (iI (kn1 kn))) ∧ HM w (iI (kn1 kn)) (kn1 kn) (psh V hs) := by
  have hn := hV.1.1
  have hk := ok.1
  unfold f_X7_notes kn1
  rw [hH.1]
  by_cases h8 : kn = 8
  · subst h8
    rw [if_pos rfl, if_pos (show iI ((8 : Nat) : Int) = (8 : Int32) from rfl)]
    refine ⟨ow (fun i => if 27 - 27 ≤ i ∧ i < 189 then g_Md_undone m (i + 27) else g_Md_undone m i) (g_Md_now m) (27 * 7) 0 0 27, ?_, rfl, fun k hk => ?_⟩
    · have e1 := l_notes12 m (fun m_15 b1_14 => f_X7_notes_L48 100000 (s_Md_undos m_15 (7 : Int32)) (0 : Int32) (fun m_17 b1_16 => some ((s_Md_undos m_17 ((g_Md_undos m_17) + (1 : Int32)))))) 189 100000 27 (g_Md_undone m) (by omega) (by omega) (by omega)
      refine Eq.trans e1 ?_
      exact l_notes48 (s_Md_undos m 7) (fun m_17 b1_16 => some ((s_Md_undos m_17 ((g_Md_undos m_17) + (1 : Int32))))) (u := 7) rfl (by omega) 27 100000 0 _ (by omega) (by omega)
    · cases k with
      | zero =>
        refine rM_congr hn h (fun j hj => ?_)
        rw [show 27 * (8 - 1 - 0) + j = 27 * 7 + j from by omega, ow_in hj]
      | succ k =>
        have hq := hH.2 k (by omega)
        refine rM_congr (ok.2 k (by omega)).1.1 hq (fun j hj => ?_)
        rw [ow_out (by omega), if_pos (by omega)]
        congr 1; omega
  · rw [if_neg (by rw [show (8 : Int32) = iI ((8 : Nat) : Int) from rfl, iI_eqN (by omega) (by omega)]; exact h8), if_neg h8]
    refine ⟨ow (g_Md_undone m) (g_Md_now m) (27 * kn) 0 0 27, ?_, rfl, fun k hk => ?_⟩
    · refine (l_notes48 m (fun m_8 b1_7 => some ((s_Md_undos m_8 ((g_Md_undos m_8) + (1 : Int32))))) (u := kn) hH.1 (by omega) 27 100000 0 (g_Md_undone m) (by omega) (by omega)).trans ?_
      show some (s_Md_undos (s_Md_undone m _) (g_Md_undos m + 1)) = _
      rw [hH.1, iI_s]
    · cases k with
      | zero =>
        refine rM_congr hn h (fun j hj => ?_)
        rw [show 27 * (kn + 1 - 1 - 0) + j = 27 * kn + j from by omega, ow_in hj]
      | succ k =>
        have hq := hH.2 k (by omega)
        refine rM_congr (ok.2 k (by omega)).1.1 hq (fun j hj => ?_)
        rw [ow_out (by omega)]
        congr 1; omega
