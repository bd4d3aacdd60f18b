def SK (V : nSV) (i : Nat) (t : Int) : nSV := (v_n V, (fun j => if j = i then t else v_k V j), v_m V, v_d V, v_l V, v_y V, v_w V)
theorem ok_SK {V : nSV} {i : Nat} {t : Int} (ok : okV V) (h1 : 0 ≤ t) (h2 : t ≤ 4) : okV (SK V i t) := by
  refine ⟨ok.1, fun j hj => ?_, ok.2.2⟩
  have o := ok.2.1 j hj
  have e : v_k (SK V i t) j = if j = i then t else v_k V j := rfl
  by_cases hji : j = i
  · rw [if_pos hji] at e
    exact ⟨by rw [e]; exact h1, by rw [e]; exact h2, o.2.2.1, o.2.2.2.1, o.2.2.2.2.1, o.2.2.2.2.2.1, o.2.2.2.2.2.2.1, o.2.2.2.2.2.2.2⟩
  · rw [if_neg hji] at e
    exact ⟨by rw [e]; exact o.1, by rw [e]; exact o.2.1, o.2.2.1, o.2.2.2.1, o.2.2.2.2.1, o.2.2.2.2.2.1, o.2.2.2.2.2.2.1, o.2.2.2.2.2.2.2⟩
theorem rC_SK {x : nVl} {V : nSV} {i : Nat} (t : Int) (h : rC x V) : rC (s_Vl_kinds x (upd (g_Vl_kinds x) i (iI t))) (SK V i t) := by
  refine ⟨h.1, h.2.1, h.2.2.1, fun j hj => ?_⟩
  have q := h.2.2.2 j hj
  have e : upd (g_Vl_kinds x) i (iI t) j = iI (if j = i then t else v_k V j) := by
    by_cases hji : j = i
    · rw [hji, pk_us, if_pos rfl]
    · rw [pk_un hji, if_neg hji]; exact q.1
  exact ⟨e, q.2.1, q.2.2.1, q.2.2.2⟩
theorem rM_SK {w : Nat → Int32} {V : nSV} {i : Nat} (t : Int) (h : rM w 0 V) : rM (upd w (3 + 4 * i + 0) (iI t)) 0 (SK V i t) := by
  refine ⟨(pk_un (by omega)).trans h.1, (pk_un (by omega)).trans h.2.1, (pk_un (by omega)).trans h.2.2.1, fun j hj => ?_⟩
  have q := h.2.2.2 j hj
  simp only [Nat.zero_add] at q ⊢
  have e : upd w (3 + 4 * i + 0) (iI t) (3 + 4 * j + 0) = iI (if j = i then t else v_k V j) := by
    by_cases hji : j = i
    · rw [hji, pk_us, if_pos rfl]
    · rw [pk_un (by omega), if_neg hji]; exact q.1
  exact ⟨e, (pk_un (by omega)).trans q.2.1, (pk_un (by omega)).trans q.2.2.1, (pk_un (by omega)).trans q.2.2.2⟩
def SM (V : nSV) (i : Nat) (t : Int) : nSV := (v_n V, v_k V, (fun j => if j = i then t else v_m V j), v_d V, v_l V, v_y V, v_w V)
theorem ok_SM {V : nSV} {i : Nat} {t : Int} (ok : okV V) (h1 : 0 ≤ t) (h2 : t ≤ 59) : okV (SM V i t) := by
  refine ⟨ok.1, fun j hj => ?_, ok.2.2⟩
  have o := ok.2.1 j hj
  have e : v_m (SM V i t) j = if j = i then t else v_m V j := rfl
  by_cases hji : j = i
  · rw [if_pos hji] at e
    exact ⟨o.1, o.2.1, by rw [e]; exact h1, by rw [e]; exact h2, o.2.2.2.2.1, o.2.2.2.2.2.1, o.2.2.2.2.2.2.1, o.2.2.2.2.2.2.2⟩
  · rw [if_neg hji] at e
    exact ⟨o.1, o.2.1, by rw [e]; exact o.2.2.1, by rw [e]; exact o.2.2.2.1, o.2.2.2.2.1, o.2.2.2.2.2.1, o.2.2.2.2.2.2.1, o.2.2.2.2.2.2.2⟩
theorem rC_SM {x : nVl} {V : nSV} {i : Nat} (t : Int) (h : rC x V) : rC (s_Vl_minutes x (upd (g_Vl_minutes x) i (iI t))) (SM V i t) := by
  refine ⟨h.1, h.2.1, h.2.2.1, fun j hj => ?_⟩
  have q := h.2.2.2 j hj
  have e : upd (g_Vl_minutes x) i (iI t) j = iI (if j = i then t else v_m V j) := by
    by_cases hji : j = i
    · rw [hji, pk_us, if_pos rfl]
    · rw [pk_un hji, if_neg hji]; exact q.2.1
  exact ⟨q.1, e, q.2.2.1, q.2.2.2⟩
theorem rM_SM {w : Nat → Int32} {V : nSV} {i : Nat} (t : Int) (h : rM w 0 V) : rM (upd w (3 + 4 * i + 1) (iI t)) 0 (SM V i t) := by
  refine ⟨(pk_un (by omega)).trans h.1, (pk_un (by omega)).trans h.2.1, (pk_un (by omega)).trans h.2.2.1, fun j hj => ?_⟩
  have q := h.2.2.2 j hj
  simp only [Nat.zero_add] at q ⊢
  have e : upd w (3 + 4 * i + 1) (iI t) (3 + 4 * j + 1) = iI (if j = i then t else v_m V j) := by
    by_cases hji : j = i
    · rw [hji, pk_us, if_pos rfl]
    · rw [pk_un (by omega), if_neg hji]; exact q.2.1
  exact ⟨(pk_un (by omega)).trans q.1, e, (pk_un (by omega)).trans q.2.2.1, (pk_un (by omega)).trans q.2.2.2⟩
def SD (V : nSV) (i : Nat) (t : Int) : nSV := (v_n V, v_k V, v_m V, (fun j => if j = i then t else v_d V j), v_l V, v_y V, v_w V)
theorem ok_SD {V : nSV} {i : Nat} {t : Int} (ok : okV V) (h1 : -9 ≤ t) (h2 : t ≤ 9) : okV (SD V i t) := by
  refine ⟨ok.1, fun j hj => ?_, ok.2.2⟩
  have o := ok.2.1 j hj
  have e : v_d (SD V i t) j = if j = i then t else v_d V j := rfl
  by_cases hji : j = i
  · rw [if_pos hji] at e
    exact ⟨o.1, o.2.1, o.2.2.1, o.2.2.2.1, by rw [e]; exact h1, by rw [e]; exact h2, o.2.2.2.2.2.2.1, o.2.2.2.2.2.2.2⟩
  · rw [if_neg hji] at e
    exact ⟨o.1, o.2.1, o.2.2.1, o.2.2.2.1, by rw [e]; exact o.2.2.2.2.1, by rw [e]; exact o.2.2.2.2.2.1, o.2.2.2.2.2.2.1, o.2.2.2.2.2.2.2⟩
theorem rC_SD {x : nVl} {V : nSV} {i : Nat} (t : Int) (h : rC x V) : rC (s_Vl_drifts x (upd (g_Vl_drifts x) i (iI t))) (SD V i t) := by
  refine ⟨h.1, h.2.1, h.2.2.1, fun j hj => ?_⟩
  have q := h.2.2.2 j hj
  have e : upd (g_Vl_drifts x) i (iI t) j = iI (if j = i then t else v_d V j) := by
    by_cases hji : j = i
    · rw [hji, pk_us, if_pos rfl]
    · rw [pk_un hji, if_neg hji]; exact q.2.2.1
  exact ⟨q.1, q.2.1, e, q.2.2.2⟩
theorem rM_SD {w : Nat → Int32} {V : nSV} {i : Nat} (t : Int) (h : rM w 0 V) : rM (upd w (3 + 4 * i + 2) (iI t)) 0 (SD V i t) := by
  refine ⟨(pk_un (by omega)).trans h.1, (pk_un (by omega)).trans h.2.1, (pk_un (by omega)).trans h.2.2.1, fun j hj => ?_⟩
  have q := h.2.2.2 j hj
  simp only [Nat.zero_add] at q ⊢
  have e : upd w (3 + 4 * i + 2) (iI t) (3 + 4 * j + 2) = iI (if j = i then t else v_d V j) := by
    by_cases hji : j = i
    · rw [hji, pk_us, if_pos rfl]
    · rw [pk_un (by omega), if_neg hji]; exact q.2.2.1
  exact ⟨(pk_un (by omega)).trans q.1, (pk_un (by omega)).trans q.2.1, e, (pk_un (by omega)).trans q.2.2.2⟩
def SL (V : nSV) (i : Nat) (t : Int) : nSV := (v_n V, v_k V, v_m V, v_d V, (fun j => if j = i then t else v_l V j), v_y V, v_w V)
theorem ok_SL {V : nSV} {i : Nat} {t : Int} (ok : okV V) (h1 : 0 ≤ t) (h2 : t ≤ 40) : okV (SL V i t) := by
  refine ⟨ok.1, fun j hj => ?_, ok.2.2⟩
  have o := ok.2.1 j hj
  have e : v_l (SL V i t) j = if j = i then t else v_l V j := rfl
  by_cases hji : j = i
  · rw [if_pos hji] at e
    exact ⟨o.1, o.2.1, o.2.2.1, o.2.2.2.1, o.2.2.2.2.1, o.2.2.2.2.2.1, by rw [e]; exact h1, by rw [e]; exact h2⟩
  · rw [if_neg hji] at e
    exact ⟨o.1, o.2.1, o.2.2.1, o.2.2.2.1, o.2.2.2.2.1, o.2.2.2.2.2.1, by rw [e]; exact o.2.2.2.2.2.2.1, by rw [e]; exact o.2.2.2.2.2.2.2⟩
theorem rC_SL {x : nVl} {V : nSV} {i : Nat} (t : Int) (h : rC x V) : rC (s_Vl_miles x (upd (g_Vl_miles x) i (iI t))) (SL V i t) := by
  refine ⟨h.1, h.2.1, h.2.2.1, fun j hj => ?_⟩
  have q := h.2.2.2 j hj
  have e : upd (g_Vl_miles x) i (iI t) j = iI (if j = i then t else v_l V j) := by
    by_cases hji : j = i
    · rw [hji, pk_us, if_pos rfl]
    · rw [pk_un hji, if_neg hji]; exact q.2.2.2
  exact ⟨q.1, q.2.1, q.2.2.1, e⟩
theorem rM_SL {w : Nat → Int32} {V : nSV} {i : Nat} (t : Int) (h : rM w 0 V) : rM (upd w (3 + 4 * i + 3) (iI t)) 0 (SL V i t) := by
  refine ⟨(pk_un (by omega)).trans h.1, (pk_un (by omega)).trans h.2.1, (pk_un (by omega)).trans h.2.2.1, fun j hj => ?_⟩
  have q := h.2.2.2 j hj
  simp only [Nat.zero_add] at q ⊢
  have e : upd w (3 + 4 * i + 3) (iI t) (3 + 4 * j + 3) = iI (if j = i then t else v_l V j) := by
    by_cases hji : j = i
    · rw [hji, pk_us, if_pos rfl]
    · rw [pk_un (by omega), if_neg hji]; exact q.2.2.2
  exact ⟨(pk_un (by omega)).trans q.1, (pk_un (by omega)).trans q.2.1, (pk_un (by omega)).trans q.2.2.1, e⟩
def keepM (m m' : nMd) : Prop := g_Md_kept m' = g_Md_kept m ∧ g_Md_keptUndos m' = g_Md_keptUndos m ∧ g_Md_isKept m' = g_Md_isKept m ∧ g_Md_tape m' = g_Md_tape m ∧ g_Md_typed m' = g_Md_typed m ∧ g_Md_lanes m' = g_Md_lanes m ∧ g_Md_sizes m' = g_Md_sizes m ∧ g_Md_items m' = g_Md_items m
theorem Rel_mk {c c' : nCs} {m m' : nMd} {V : nSV} (h : Rel c m) (hN : NW c' m' V) (hH : HS c' m') (hv1 : cV c' 1 = cV c 1) (hh1 : ∀ (kn : Nat) (hs : Nat → nSV), HC c 1 kn hs → HC c' 1 kn hs) (him : g_Cs_im c' = g_Cs_im c) (hta : g_Cs_ta c' = g_Cs_ta c) (hsh : g_Cs_sh c' = g_Cs_sh c) (hm : keepM m m') : Rel c' m' := by
  obtain ⟨-, -, hi, ⟨t, t1, t2, t3, t4⟩, hs⟩ := h
  obtain ⟨k1, k2, k3, k4, k5, k6, k7, k8⟩ := hm
  refine ⟨⟨V, hN⟩, hH, ?_, ⟨t, t1, by rw [hta]; exact t2, by rw [k5]; exact t3, by rw [hta, k4]; exact t4⟩, fun j hj => ?_⟩
  · rcases hi with i1 | ⟨i1, i2, U, kn, hs, i3, i4, i5, i6, i7, i8⟩
    · exact Or.inl ⟨him.trans i1.1, k3.trans i1.2⟩
    · exact Or.inr ⟨him.trans i1, k3.trans i2, U, kn, hs, i3, by rw [hv1]; exact i4, by rw [k1]; exact i5, i6, hh1 _ _ i7, by rw [k1, k2]; exact i8⟩
  · rw [show cS c' j = cS c j from by unfold cS; rw [hsh]]
    exact SHj_congr hj (by rw [k6]) (by rw [k7]) (fun i _ => by rw [k8]) (hs j hj)
/-- behind 'remember' and 'notes' both hold one more, and now is as it was -/
theorem noted {c : nCs} {m : nMd} {V : nSV} (h : Rel c m) (hV : NW c m V) : ∃ c1 w u, f_X1_remember 0 0 c = some c1 ∧ f_X7_notes m = some (s_Md_undos (s_Md_undone m w) u) ∧ cV c1 0 = cV c 0 ∧ cV c1 1 = cV c 1 ∧ frH 0 c c1 ∧ HS c1 (s_Md_undos (s_Md_undone m w) u) := by
  obtain ⟨-, ⟨kn, hs, q1, q2, q3⟩, -⟩ := h
  obtain ⟨v1, v2, v3⟩ := hV
  obtain ⟨c1, e1, h1, f1⟩ := c_remember (h := 0) (v := 0) (by omega) (by omega) q2 q1 v2 v1.1
  obtain ⟨w, e2, h2⟩ := m_notes v3 v1 q1 q3
  exact ⟨c1, w, _, e1, e2, f1.1 0 (by omega), f1.1 1 (by omega), f1, kn1 kn, psh V hs, okH_psh q1 v1, h1, h2⟩
theorem HC_V0 {c : nCs} {g kn : Nat} {hs : Nat → nSV} (x : nVl) {v : Nat} (hv : v < 3) (h : HC c g kn hs) : HC (cVs c v x) g kn hs := by
  obtain ⟨p, hp, e, q⟩ := h
  exact ⟨p, hp, e, fun k hk => by rw [cV_n _ _ (by omega)]; exact q k hk⟩
/-- and then now is changed -/
theorem noted_set {c c1 : nCs} {m : nMd} {w : Nat → Int32} {u : Int32} {x : nVl} {z : Nat → Int32} {V U : nSV} (h : Rel c m) (hV : NW c m V) (f1 : frH 0 c c1) (hH : HS c1 (s_Md_undos (s_Md_undone m w) u)) (hU : okY U) (hx : rC x U) (hz : rM z 0 U) : Rel (cVs c1 0 x) (s_Md_now (s_Md_undos (s_Md_undone m w) u) z) := by
  refine Rel_mk (V := U) h ⟨hU, by rw [cV_s]; exact hx, hz⟩ ?_ ?_ (fun kn hs q => ?_) f1.2.2.1 f1.2.2.2.2.2.1 f1.2.2.2.2.2.2 ⟨rfl, rfl, rfl, rfl, rfl, rfl, rfl, rfl⟩
  · obtain ⟨kn, hs, a1, a2, a3⟩ := hH
    exact ⟨kn, hs, a1, HC_V0 x (by omega) a2, a3⟩
  · rw [cV_n _ _ (by omega)]; exact f1.1 1 (by omega)
  · exact HC_V0 x (by omega) (HC_fr f1 (by omega) q)
theorem inV {a : Int} {V : nSV} (h : 0 ≤ a ∧ a < v_n V) : ∃ i : Nat, i < v_n V ∧ a = (i : Int) := ⟨a.toNat, by omega, by omega⟩
theorem op_set {c : nCs} {m : nMd} (h : Rel c m) (a1 a2 : Int32) : OK2 (f_X6_set c a1 a2) (f_X7_set m a1 a2) := by
  obtain ⟨a, a_1, a_2, rfl⟩ := iI_of a1
  obtain ⟨b, b_1, b_2, rfl⟩ := iI_of a2
  obtain ⟨V, hV⟩ := h.1
  obtain ⟨v1, v2, v3⟩ := hV
  have hn := v1.1.1
  unfold f_X6_set f_X7_set f_X7_becomes
  rw [c_has v2 v1.1 a_1 a_2, m_isV v3 v1.1 a_1 a_2, c_isMinute b_1 b_2, show (0 : Int32).toInt64 = 0 from rfl, show (59 : Int32).toInt64 = 59 from rfl, i_0_59 b_1 b_2]
  simp only [Option.bind_some]
  by_cases k1 : 0 ≤ a ∧ a < v_n V
  rotate_left
  · simp only [if_neg k1, if_true]; exact ⟨_, _, _, rfl, rfl, h⟩
  by_cases k2 : 0 ≤ b ∧ b ≤ 59
  rotate_left
  · simp only [if_pos k1, if_neg one0, if_neg k2, if_true]; exact ⟨_, _, _, rfl, rfl, h⟩
  simp only [if_pos k1, if_neg one0, if_pos k2]
  obtain ⟨i, hi, rfl⟩ := inV k1
  have o1 := v1.1.2.1 i hi
  simp only [nn_ixN (show i < 6 by omega) (show 6 < 2147483648 by omega), iI_cN (show i < 2147483648 by omega)]
  rw [(v2.2.2.2 i hi).2.1, show (1 : Int32) = iI ((1 : Nat) : Int) from rfl, m_told (by omega) (by omega), Option.bind_some, (m_at v3 hi).2.1]
  by_cases k3 : v_m V i = b
  · rw [if_pos (by rw [k3]), if_pos (by rw [k3])]; exact ⟨_, _, _, rfl, rfl, h⟩
  rw [if_neg (by rw [iI_eq (by omega) (by omega) (by omega) (by omega)]; exact k3), if_neg (by rw [iI_eq (by omega) (by omega) (by omega) (by omega)]; exact k3)]
  obtain ⟨c1, w, u, e1, e2, e3, e4, f1, hH⟩ := noted h ⟨v1, v2, v3⟩
  rw [e1, e2, Option.bind_some, Option.bind_some, m_tells (by omega) (by omega), Option.bind_some, e3]
  exact ⟨_, _, _, rfl, rfl, noted_set h ⟨v1, v2, v3⟩ f1 hH ⟨ok_SM v1.1 k2.1 k2.2, v1.2⟩ (rC_SM b v2) (rM_SM b v3)⟩
theorem op_move {c : nCs} {m : nMd} (h : Rel c m) (a1 a2 : Int32) : OK2 (f_X6_move c a1 a2) (f_X7_move m a1 a2) := by
  obtain ⟨a, a_1, a_2, rfl⟩ := iI_of a1
  obtain ⟨b, b_1, b_2, rfl⟩ := iI_of a2
  obtain ⟨V, hV⟩ := h.1
  obtain ⟨v1, v2, v3⟩ := hV
  have hn := v1.1.1
  unfold f_X6_move f_X7_move f_X7_becomes
  rw [c_has v2 v1.1 a_1 a_2, m_isV v3 v1.1 a_1 a_2, w_0_40 b_1 b_2, show (0 : Int32).toInt64 = 0 from rfl, show (40 : Int32).toInt64 = 40 from rfl, i_0_40 b_1 b_2]
  simp only [Option.bind_some]
  by_cases k1 : 0 ≤ a ∧ a < v_n V
  rotate_left
  · simp only [if_neg k1, if_true]; exact ⟨_, _, _, rfl, rfl, h⟩
  by_cases k2 : 0 ≤ b ∧ b ≤ 40
  rotate_left
  · simp only [if_pos k1, if_neg one0, if_neg k2, if_true]; exact ⟨_, _, _, rfl, rfl, h⟩
  simp only [if_pos k1, if_neg one0, if_pos k2]
  obtain ⟨i, hi, rfl⟩ := inV k1
  have o1 := v1.1.2.1 i hi
  simp only [nn_ixN (show i < 6 by omega) (show 6 < 2147483648 by omega), iI_cN (show i < 2147483648 by omega)]
  rw [(v2.2.2.2 i hi).2.2.2, show (3 : Int32) = iI ((3 : Nat) : Int) from rfl, m_told (by omega) (by omega), Option.bind_some, (m_at v3 hi).2.2.2]
  by_cases k3 : v_l V i = b
  · rw [if_pos (by rw [k3]), if_pos (by rw [k3])]; exact ⟨_, _, _, rfl, rfl, h⟩
  rw [if_neg (by rw [iI_eq (by omega) (by omega) (by omega) (by omega)]; exact k3), if_neg (by rw [iI_eq (by omega) (by omega) (by omega) (by omega)]; exact k3)]
  obtain ⟨c1, w, u, e1, e2, e3, e4, f1, hH⟩ := noted h ⟨v1, v2, v3⟩
  rw [e1, e2, Option.bind_some, Option.bind_some, m_tells (by omega) (by omega), Option.bind_some, e3]
  exact ⟨_, _, _, rfl, rfl, noted_set h ⟨v1, v2, v3⟩ f1 hH ⟨ok_SL v1.1 k2.1 k2.2, v1.2⟩ (rC_SL b v2) (rM_SL b v3)⟩
theorem op_tune {c : nCs} {m : nMd} (h : Rel c m) (a1 a2 : Int32) : OK2 (f_X6_tune c a1 a2) (f_X7_tune m a1 a2) := by
  obtain ⟨a, a_1, a_2, rfl⟩ := iI_of a1
  obtain ⟨b, b_1, b_2, rfl⟩ := iI_of a2
  obtain ⟨V, hV⟩ := h.1
  obtain ⟨v1, v2, v3⟩ := hV
  have hn := v1.1.1
  unfold f_X6_tune f_X7_tune
  rw [c_has v2 v1.1 a_1 a_2, m_isV v3 v1.1 a_1 a_2, w_0_18 b_1 b_2, i_0_18 b_1 b_2]
  simp only [Option.bind_some]
  by_cases k1 : 0 ≤ a ∧ a < v_n V
  rotate_left
  · simp only [if_neg k1, if_true]; exact ⟨_, _, _, rfl, rfl, h⟩
  by_cases k2 : 0 ≤ b ∧ b ≤ 18
  rotate_left
  · simp only [if_pos k1, if_neg one0, if_neg k2, if_true]; exact ⟨_, _, _, rfl, rfl, h⟩
  simp only [if_pos k1, if_neg one0, if_pos k2]
  obtain ⟨i, hi, rfl⟩ := inV k1
  have o1 := v1.1.2.1 i hi
  simp only [nn_ixN (show i < 6 by omega) (show 6 < 2147483648 by omega), iI_cN (show i < 2147483648 by omega)]
  rw [(v2.2.2.2 i hi).2.2.1, show (2 : Int32) = iI ((2 : Nat) : Int) from rfl, m_told (by omega) (by omega), Option.bind_some, (m_at v3 hi).2.2.1, show (9 : Int32) = iI 9 from rfl, iI_add, iI_sub]
  by_cases k3 : v_d V i + 9 = b
  · rw [if_pos (by rw [k3]), if_pos (by rw [k3])]; exact ⟨_, _, _, rfl, rfl, h⟩
  rw [if_neg (by rw [iI_eq (by omega) (by omega) (by omega) (by omega)]; exact k3), if_neg (by rw [iI_eq (by omega) (by omega) (by omega) (by omega)]; exact k3)]
  obtain ⟨c1, w, u, e1, e2, e3, e4, f1, hH⟩ := noted h ⟨v1, v2, v3⟩
  rw [e1, e2, Option.bind_some, Option.bind_some, m_tells (by omega) (by omega), Option.bind_some, e3]
  exact ⟨_, _, _, rfl, rfl, noted_set h ⟨v1, v2, v3⟩ f1 hH ⟨ok_SD v1.1 (by omega) (by omega), v1.2⟩ (rC_SD (b - 9) v2) (rM_SD (b - 9) v3)⟩
def SW (V : nSV) (t : Int) : nSV := (v_n V, v_k V, v_m V, v_d V, v_l V, v_y V, t)
theorem op_seed {c : nCs} {m : nMd} (h : Rel c m) (a1 : Int32) : OK2 (f_X6_seed c a1) (f_X7_seed m a1) := by
  obtain ⟨a, a_1, a_2, rfl⟩ := iI_of a1
  obtain ⟨V, hV⟩ := h.1
  obtain ⟨v1, v2, v3⟩ := hV
  unfold f_X6_seed f_X7_seed
  by_cases k1 : 0 ≤ a
  · rw [if_pos (by rw [show (0 : Int32) = iI 0 from rfl, iI_le (by omega) (by omega) (by omega) (by omega)]; exact k1), if_pos (by rw [show (0 : Int32) = iI 0 from rfl, iI_le (by omega) (by omega) (by omega) (by omega)]; exact k1), v2.2.2.1, show g_Md_now m (2 : Int32).toNatClampNeg = iI (v_w V) from v3.2.2.1]
    refine ⟨_, _, _, rfl, rfl, Rel_mk (V := SW V a) h ⟨⟨⟨v1.1.1, v1.1.2.1, v1.1.2.2.1, v1.1.2.2.2.1, k1, a_2⟩, v1.2⟩, ?_, ?_⟩ ?_ ?_ (fun kn hs q => HC_V0 _ (by omega) q) rfl rfl rfl ⟨rfl, rfl, rfl, rfl, rfl, rfl, rfl, rfl⟩⟩
    · rw [cV_s]; exact ⟨v2.1, v2.2.1, rfl, v2.2.2.2⟩
    · show rM (upd (g_Md_now m) 2 (iI a)) 0 (SW V a)
      refine ⟨(pk_un (by omega)).trans v3.1, (pk_un (by omega)).trans v3.2.1, pk_us, fun i hi => ?_⟩
      have q := v3.2.2.2 i hi
      exact ⟨(pk_un (by omega)).trans q.1, (pk_un (by omega)).trans q.2.1, (pk_un (by omega)).trans q.2.2.1, (pk_un (by omega)).trans q.2.2.2⟩
    · obtain ⟨kn, hs, q1, q2, q3⟩ := h.2.1
      exact ⟨kn, hs, q1, HC_V0 _ (by omega) q2, q3⟩
    · rw [cV_n _ _ (by omega)]
  · rw [if_neg (by rw [show (0 : Int32) = iI 0 from rfl, iI_le (by omega) (by omega) (by omega) (by omega)]; exact k1), if_neg (by rw [show (0 : Int32) = iI 0 from rfl, iI_le (by omega) (by omega) (by omega) (by omega)]; exact k1)]
    exact ⟨_, _, _, rfl, rfl, h⟩
