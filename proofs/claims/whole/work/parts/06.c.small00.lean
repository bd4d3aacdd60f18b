set_option maxRecDepth 100000 in
set_option maxHeartbeats 4000000 in
theorem c_X1_forget (l : Launch) (D : va_G) (cy : Nat → ClassId) (ad : Nat → Nat) (A : Nat → Prop) (σ : nG) (h : Nat) (hn_h : h < 2) (c : nCs) (hx_C : gC σ = c) (q : nCs) (hf : f_X1_forget h c = some q) (σ' : nG) (hσ : (sC σ q) = σ') : nn_V l yX1_forget (nn_ws yX1_forget cX1_forget 1 none) (nn_R 0) D cy ad A [.ref (ad (114+2*h))] σ σ' := by
  refine nn_enterV (plainFor_of_name (by decide +kernel)) (Nat.le_of_ble_eq_true rfl) (lv := [(0, .ref (ad (114+2*h)))]) rfl ?_
  intro pp ee ss mm bb me co S hr hlk hK hw ls hl
  have hx := S.1
  have hb := S.2.1
  have hw : nn_W D cy ad A ss.heap (sC σ c) ss.heap [] := nn_W.eq (by rw [← hx_C]; rfl) hw
  unfold f_X1_forget at hf
  refine lv_aload_n hx hb dX1_forget_0 rfl (lv_at hl 0 rfl) ?_
  refine lv_iconst (v := 0) hx hb dX1_forget_1 (by decide) ?_
  refine pf_Hi_known S hK hw (v := h) hn_h (x := (cH c h)) rfl (τ' := (sC σ (cHs c h (s_Hi_known (cH c h) (0 : Int32))))) rfl tb_1_76 dX1_forget_2 (fun H locs hw => ?_)
  obtain rfl := Option.some.inj hf
  exact nn_vret S hr hlk hw hσ dX1_forget_5
set_option maxRecDepth 100000 in
set_option maxHeartbeats 4000000 in
theorem c_X1_remember (l : Launch) (D : va_G) (cy : Nat → ClassId) (ad : Nat → Nat) (A : Nat → Prop) (σ : nG) (h : Nat) (hn_h : h < 2) (v : Nat) (hn_v : v < 3) (c : nCs) (hx_C : gC σ = c) (q : nCs) (hf : f_X1_remember h v c = some q) (σ' : nG) (hσ : (sC σ q) = σ') : nn_V l yX1_remember (nn_ws yX1_remember cX1_remember 2 none) (nn_R 2) D cy ad A [.ref (ad (114+2*h)), .ref (ad (6*v))] σ σ' := by
  refine nn_enterV (plainFor_of_name (by decide +kernel)) (Nat.le_of_ble_eq_true rfl) (lv := [(0, .ref (ad (114+2*h))), (1, .ref (ad (6*v)))]) rfl ?_
  intro pp ee ss mm bb me co S hr hlk hK hw ls hl
  have hx := S.1
  have hb := S.2.1
  have hw : nn_W D cy ad A ss.heap (sC σ c) ss.heap [] := nn_W.eq (by rw [← hx_C]; rfl) hw
  unfold f_X1_remember at hf
  refine lv_aload_n hx hb dX1_remember_0 rfl (lv_at hl 0 rfl) ?_
  refine gf_Hi_past S hK hw (v := h) hn_h tb_1_74 dX1_remember_1 ?_
  refine lv_aload_n hx hb dX1_remember_4 rfl (lv_at hl 0 rfl) ?_
  refine gf_Hi_next S hK hw (v := h) hn_h (x := (cH c h)) rfl tb_1_75 dX1_remember_5 ?_
  obtain ⟨g_1, hf⟩ := nn_ix_some hf
  have hg_1 := nn_ix_lt g_1
  refine nn_aldV S hK hw (h := h) hn_h g_1 dX1_remember_8 ?_
  refine lv_aload_n hx hb dX1_remember_9 rfl (lv_at hl 1 rfl) ?_
  obtain ⟨q_2, h_3, hf⟩ := nn_bind hf
  refine nn_callvV S (As := [.ref (ad (6*v))]) (rest := []) (ce_V (k := 0) (v := (3+8*h+(g_Hi_next (cH c h)).toNatClampNeg)) (by omega) (by decide)) (by omega) rfl rfl (c_X5_becomeLike l D cy ad A (sC σ c) (3+8*h+(g_Hi_next (cH c h)).toNatClampNeg) (by omega) v (by omega) (by omega) (cV c (3+8*h+(g_Hi_next (cH c h)).toNatClampNeg)) rfl (cV c v) rfl q_2 h_3 (sC σ (cVs c (3+8*h+(g_Hi_next (cH c h)).toNatClampNeg) q_2)) rfl) mv_X5_becomeLike tb_2_111 hK hw ⟨Nat.le_of_ble_eq_true rfl, Nat.le_of_ble_eq_true rfl⟩ ⟨Nat.zero_le _, Nat.zero_le _⟩ rfl hl.1 rfl (Nat.le_of_ble_eq_true rfl) dX1_remember_10 (fun H locs hw => ?_)
  refine lv_aload_n hx hb dX1_remember_13 rfl (lv_at hl 0 rfl) ?_
  refine lv_aload_n hx hb dX1_remember_14 rfl (lv_at hl 0 rfl) ?_
  refine gf_Hi_next S hK hw (v := h) hn_h (x := (cH (cVs c (3+8*h+(g_Hi_next (cH c h)).toNatClampNeg) q_2) h)) rfl tb_1_75 dX1_remember_15 ?_
  refine lv_iconst (v := 1) hx hb dX1_remember_18 (by decide) ?_
  refine lv_iadd hx hb dX1_remember_19 ?_
  refine lv_bipush (v := 8) hx hb dX1_remember_20 (by decide) ?_
  refine lv_irem hx hb dX1_remember_22 (by decide) ?_
  refine pf_Hi_next S hK hw (v := h) hn_h (x := (cH (cVs c (3+8*h+(g_Hi_next (cH c h)).toNatClampNeg) q_2) h)) rfl (τ' := (sC σ (cHs (cVs c (3+8*h+(g_Hi_next (cH c h)).toNatClampNeg) q_2) h (s_Hi_next (cH (cVs c (3+8*h+(g_Hi_next (cH c h)).toNatClampNeg) q_2) h) (((g_Hi_next (cH (cVs c (3+8*h+(g_Hi_next (cH c h)).toNatClampNeg) q_2) h)) + (1 : Int32)) - ((g_Hi_next (cH (cVs c (3+8*h+(g_Hi_next (cH c h)).toNatClampNeg) q_2) h)) + (1 : Int32)) / (8 : Int32) * (8 : Int32)))))) rfl tb_1_75 dX1_remember_23 (fun H locs hw => ?_)
  refine lv_aload_n hx hb dX1_remember_26 rfl (lv_at hl 0 rfl) ?_
  refine lv_aload_n hx hb dX1_remember_27 rfl (lv_at hl 0 rfl) ?_
  refine gf_Hi_known S hK hw (v := h) hn_h (x := (cH (cHs (cVs c (3+8*h+(g_Hi_next (cH c h)).toNatClampNeg) q_2) h (s_Hi_next (cH (cVs c (3+8*h+(g_Hi_next (cH c h)).toNatClampNeg) q_2) h) (((g_Hi_next (cH (cVs c (3+8*h+(g_Hi_next (cH c h)).toNatClampNeg) q_2) h)) + (1 : Int32)) - ((g_Hi_next (cH (cVs c (3+8*h+(g_Hi_next (cH c h)).toNatClampNeg) q_2) h)) + (1 : Int32)) / (8 : Int32) * (8 : Int32)))) h)) rfl tb_1_76 dX1_remember_28 ?_
  refine lv_iconst (v := 1) hx hb dX1_remember_31 (by decide) ?_
  refine lv_iadd hx hb dX1_remember_32 ?_
  refine lv_bipush (v := 8) hx hb dX1_remember_33 (by decide) ?_
  obtain ⟨q_4, h_5, hf⟩ := nn_bind hf
  refine nn_calliS S (As := [.int ((g_Hi_known (cH (cHs (cVs c (3+8*h+(g_Hi_next (cH c h)).toNatClampNeg) q_2) h (s_Hi_next (cH (cVs c (3+8*h+(g_Hi_next (cH c h)).toNatClampNeg) q_2) h) (((g_Hi_next (cH (cVs c (3+8*h+(g_Hi_next (cH c h)).toNatClampNeg) q_2) h)) + (1 : Int32)) - ((g_Hi_next (cH (cVs c (3+8*h+(g_Hi_next (cH c h)).toNatClampNeg) q_2) h)) + (1 : Int32)) / (8 : Int32) * (8 : Int32)))) h)) + (1 : Int32)), .int ((8 : Int32))]) (rest := [.ref (ad (114+2*h))]) (c_J9_min_7cf53 l D cy ad A (sC σ (cHs (cVs c (3+8*h+(g_Hi_next (cH c h)).toNatClampNeg) q_2) h (s_Hi_next (cH (cVs c (3+8*h+(g_Hi_next (cH c h)).toNatClampNeg) q_2) h) (((g_Hi_next (cH (cVs c (3+8*h+(g_Hi_next (cH c h)).toNatClampNeg) q_2) h)) + (1 : Int32)) - ((g_Hi_next (cH (cVs c (3+8*h+(g_Hi_next (cH c h)).toNatClampNeg) q_2) h)) + (1 : Int32)) / (8 : Int32) * (8 : Int32))))) ((g_Hi_known (cH (cHs (cVs c (3+8*h+(g_Hi_next (cH c h)).toNatClampNeg) q_2) h (s_Hi_next (cH (cVs c (3+8*h+(g_Hi_next (cH c h)).toNatClampNeg) q_2) h) (((g_Hi_next (cH (cVs c (3+8*h+(g_Hi_next (cH c h)).toNatClampNeg) q_2) h)) + (1 : Int32)) - ((g_Hi_next (cH (cVs c (3+8*h+(g_Hi_next (cH c h)).toNatClampNeg) q_2) h)) + (1 : Int32)) / (8 : Int32) * (8 : Int32)))) h)) + (1 : Int32)) (8 : Int32) q_4 h_5) mv_J9_min_7cf53 tb_2_112 hK hw ⟨Nat.le_of_ble_eq_true rfl, Nat.le_of_ble_eq_true rfl⟩ ⟨Nat.zero_le _, Nat.zero_le _⟩ rfl hl.1 rfl (Nat.le_of_ble_eq_true rfl) dX1_remember_35 (fun H locs hw => ?_)
  refine pf_Hi_known S hK hw (v := h) hn_h (x := (cH (cHs (cVs c (3+8*h+(g_Hi_next (cH c h)).toNatClampNeg) q_2) h (s_Hi_next (cH (cVs c (3+8*h+(g_Hi_next (cH c h)).toNatClampNeg) q_2) h) (((g_Hi_next (cH (cVs c (3+8*h+(g_Hi_next (cH c h)).toNatClampNeg) q_2) h)) + (1 : Int32)) - ((g_Hi_next (cH (cVs c (3+8*h+(g_Hi_next (cH c h)).toNatClampNeg) q_2) h)) + (1 : Int32)) / (8 : Int32) * (8 : Int32)))) h)) rfl (τ' := (sC σ (cHs (cHs (cVs c (3+8*h+(g_Hi_next (cH c h)).toNatClampNeg) q_2) h (s_Hi_next (cH (cVs c (3+8*h+(g_Hi_next (cH c h)).toNatClampNeg) q_2) h) (((g_Hi_next (cH (cVs c (3+8*h+(g_Hi_next (cH c h)).toNatClampNeg) q_2) h)) + (1 : Int32)) - ((g_Hi_next (cH (cVs c (3+8*h+(g_Hi_next (cH c h)).toNatClampNeg) q_2) h)) + (1 : Int32)) / (8 : Int32) * (8 : Int32)))) h (s_Hi_known (cH (cHs (cVs c (3+8*h+(g_Hi_next (cH c h)).toNatClampNeg) q_2) h (s_Hi_next (cH (cVs c (3+8*h+(g_Hi_next (cH c h)).toNatClampNeg) q_2) h) (((g_Hi_next (cH (cVs c (3+8*h+(g_Hi_next (cH c h)).toNatClampNeg) q_2) h)) + (1 : Int32)) - ((g_Hi_next (cH (cVs c (3+8*h+(g_Hi_next (cH c h)).toNatClampNeg) q_2) h)) + (1 : Int32)) / (8 : Int32) * (8 : Int32)))) h) q_4)))) rfl tb_1_76 dX1_remember_38 (fun H locs hw => ?_)
  obtain rfl := Option.some.inj hf
  exact nn_vret S hr hlk hw hσ dX1_remember_41
set_option maxRecDepth 100000 in
set_option maxHeartbeats 4000000 in
theorem c_X1_takeBack (l : Launch) (D : va_G) (cy : Nat → ClassId) (ad : Nat → Nat) (A : Nat → Prop) (σ : nG) (h : Nat) (hn_h : h < 2) (v : Nat) (hn_v : v < 3) (c : nCs) (hx_C : gC σ = c) (q : Int32 × nCs) (hf : f_X1_takeBack h v c = some q) (σ' : nG) (hσ : (sC σ q.2) = σ') : nn_I l yX1_takeBack (nn_ws yX1_takeBack cX1_takeBack 2 (some .boolean)) (nn_R 2) D cy ad A [.ref (ad (114+2*h)), .ref (ad (6*v))] σ q.1 σ' := by
  refine nn_enterI (plainFor_of_name (by decide +kernel)) (Nat.le_of_ble_eq_true rfl) (lv := [(0, .ref (ad (114+2*h))), (1, .ref (ad (6*v)))]) rfl ?_
  intro pp ee ss mm bb me co S hr hlk hK hw ls hl
  have hx := S.1
  have hb := S.2.1
  have hw : nn_W D cy ad A ss.heap (sC σ c) ss.heap [] := nn_W.eq (by rw [← hx_C]; rfl) hw
  unfold f_X1_takeBack at hf
  refine lv_aload_n hx hb dX1_takeBack_0 rfl (lv_at hl 0 rfl) ?_
  refine gf_Hi_known S hK hw (v := h) hn_h (x := (cH c h)) rfl tb_1_76 dX1_takeBack_1 ?_
  refine lv_if_ne (tgt := 9) hx hb dX1_takeBack_4 (by decide) (fun c_1 => ?_) (fun c_1 => ?_)
  · rw [if_neg c_1] at hf
    refine lv_aload_n hx hb dX1_takeBack_9 rfl (lv_at hl 0 rfl) ?_
    refine lv_aload_n hx hb dX1_takeBack_10 rfl (lv_at hl 0 rfl) ?_
    refine gf_Hi_next S hK hw (v := h) hn_h (x := (cH c h)) rfl tb_1_75 dX1_takeBack_11 ?_
    refine lv_bipush (v := 8) hx hb dX1_takeBack_14 (by decide) ?_
    refine lv_iadd hx hb dX1_takeBack_16 ?_
    refine lv_iconst (v := 1) hx hb dX1_takeBack_17 (by decide) ?_
    refine lv_isub hx hb dX1_takeBack_18 ?_
    refine lv_bipush (v := 8) hx hb dX1_takeBack_19 (by decide) ?_
    refine lv_irem hx hb dX1_takeBack_21 (by decide) ?_
    refine pf_Hi_next S hK hw (v := h) hn_h (x := (cH c h)) rfl (τ' := (sC σ (cHs c h (s_Hi_next (cH c h) ((((g_Hi_next (cH c h)) + (8 : Int32)) - (1 : Int32)) - (((g_Hi_next (cH c h)) + (8 : Int32)) - (1 : Int32)) / (8 : Int32) * (8 : Int32)))))) rfl tb_1_75 dX1_takeBack_22 (fun H locs hw => ?_)
    refine lv_aload_n hx hb dX1_takeBack_25 rfl (lv_at hl 0 rfl) ?_
    refine lv_dup hx hb dX1_takeBack_26 rfl ?_
    refine gf_Hi_known S hK hw (v := h) hn_h (x := (cH (cHs c h (s_Hi_next (cH c h) ((((g_Hi_next (cH c h)) + (8 : Int32)) - (1 : Int32)) - (((g_Hi_next (cH c h)) + (8 : Int32)) - (1 : Int32)) / (8 : Int32) * (8 : Int32)))) h)) rfl tb_1_76 dX1_takeBack_27 ?_
    refine lv_iconst (v := 1) hx hb dX1_takeBack_30 (by decide) ?_
    refine lv_isub hx hb dX1_takeBack_31 ?_
    refine pf_Hi_known S hK hw (v := h) hn_h (x := (cH (cHs c h (s_Hi_next (cH c h) ((((g_Hi_next (cH c h)) + (8 : Int32)) - (1 : Int32)) - (((g_Hi_next (cH c h)) + (8 : Int32)) - (1 : Int32)) / (8 : Int32) * (8 : Int32)))) h)) rfl (τ' := (sC σ (cHs (cHs c h (s_Hi_next (cH c h) ((((g_Hi_next (cH c h)) + (8 : Int32)) - (1 : Int32)) - (((g_Hi_next (cH c h)) + (8 : Int32)) - (1 : Int32)) / (8 : Int32) * (8 : Int32)))) h (s_Hi_known (cH (cHs c h (s_Hi_next (cH c h) ((((g_Hi_next (cH c h)) + (8 : Int32)) - (1 : Int32)) - (((g_Hi_next (cH c h)) + (8 : Int32)) - (1 : Int32)) / (8 : Int32) * (8 : Int32)))) h) ((g_Hi_known (cH (cHs c h (s_Hi_next (cH c h) ((((g_Hi_next (cH c h)) + (8 : Int32)) - (1 : Int32)) - (((g_Hi_next (cH c h)) + (8 : Int32)) - (1 : Int32)) / (8 : Int32) * (8 : Int32)))) h)) - (1 : Int32)))))) rfl tb_1_76 dX1_takeBack_32 (fun H locs hw => ?_)
    refine lv_aload_n hx hb dX1_takeBack_35 rfl (lv_at hl 1 rfl) ?_
    refine lv_aload_n hx hb dX1_takeBack_36 rfl (lv_at hl 0 rfl) ?_
    refine gf_Hi_past S hK hw (v := h) hn_h tb_1_74 dX1_takeBack_37 ?_
    refine lv_aload_n hx hb dX1_takeBack_40 rfl (lv_at hl 0 rfl) ?_
    refine gf_Hi_next S hK hw (v := h) hn_h (x := (cH (cHs (cHs c h (s_Hi_next (cH c h) ((((g_Hi_next (cH c h)) + (8 : Int32)) - (1 : Int32)) - (((g_Hi_next (cH c h)) + (8 : Int32)) - (1 : Int32)) / (8 : Int32) * (8 : Int32)))) h (s_Hi_known (cH (cHs c h (s_Hi_next (cH c h) ((((g_Hi_next (cH c h)) + (8 : Int32)) - (1 : Int32)) - (((g_Hi_next (cH c h)) + (8 : Int32)) - (1 : Int32)) / (8 : Int32) * (8 : Int32)))) h) ((g_Hi_known (cH (cHs c h (s_Hi_next (cH c h) ((((g_Hi_next (cH c h)) + (8 : Int32)) - (1 : Int32)) - (((g_Hi_next (cH c h)) + (8 : Int32)) - (1 : Int32)) / (8 : Int32) * (8 : Int32)))) h)) - (1 : Int32)))) h)) rfl tb_1_75 dX1_takeBack_41 ?_
    obtain ⟨g_2, hf⟩ := nn_ix_some hf
    have hg_2 := nn_ix_lt g_2
    refine nn_aldV S hK hw (h := h) hn_h g_2 dX1_takeBack_44 ?_
    obtain ⟨q_3, h_4, hf⟩ := nn_bind hf
    refine nn_callvV S (As := [.ref (ad (6*(3+8*h+(g_Hi_next (cH (cHs (cHs c h (s_Hi_next (cH c h) ((((g_Hi_next (cH c h)) + (8 : Int32)) - (1 : Int32)) - (((g_Hi_next (cH c h)) + (8 : Int32)) - (1 : Int32)) / (8 : Int32) * (8 : Int32)))) h (s_Hi_known (cH (cHs c h (s_Hi_next (cH c h) ((((g_Hi_next (cH c h)) + (8 : Int32)) - (1 : Int32)) - (((g_Hi_next (cH c h)) + (8 : Int32)) - (1 : Int32)) / (8 : Int32) * (8 : Int32)))) h) ((g_Hi_known (cH (cHs c h (s_Hi_next (cH c h) ((((g_Hi_next (cH c h)) + (8 : Int32)) - (1 : Int32)) - (((g_Hi_next (cH c h)) + (8 : Int32)) - (1 : Int32)) / (8 : Int32) * (8 : Int32)))) h)) - (1 : Int32)))) h)).toNatClampNeg)))]) (rest := []) (ce_V (k := 0) (v := v) (by omega) (by decide)) (by omega) rfl rfl (c_X5_becomeLike l D cy ad A (sC σ (cHs (cHs c h (s_Hi_next (cH c h) ((((g_Hi_next (cH c h)) + (8 : Int32)) - (1 : Int32)) - (((g_Hi_next (cH c h)) + (8 : Int32)) - (1 : Int32)) / (8 : Int32) * (8 : Int32)))) h (s_Hi_known (cH (cHs c h (s_Hi_next (cH c h) ((((g_Hi_next (cH c h)) + (8 : Int32)) - (1 : Int32)) - (((g_Hi_next (cH c h)) + (8 : Int32)) - (1 : Int32)) / (8 : Int32) * (8 : Int32)))) h) ((g_Hi_known (cH (cHs c h (s_Hi_next (cH c h) ((((g_Hi_next (cH c h)) + (8 : Int32)) - (1 : Int32)) - (((g_Hi_next (cH c h)) + (8 : Int32)) - (1 : Int32)) / (8 : Int32) * (8 : Int32)))) h)) - (1 : Int32))))) v (by omega) (3+8*h+(g_Hi_next (cH (cHs (cHs c h (s_Hi_next (cH c h) ((((g_Hi_next (cH c h)) + (8 : Int32)) - (1 : Int32)) - (((g_Hi_next (cH c h)) + (8 : Int32)) - (1 : Int32)) / (8 : Int32) * (8 : Int32)))) h (s_Hi_known (cH (cHs c h (s_Hi_next (cH c h) ((((g_Hi_next (cH c h)) + (8 : Int32)) - (1 : Int32)) - (((g_Hi_next (cH c h)) + (8 : Int32)) - (1 : Int32)) / (8 : Int32) * (8 : Int32)))) h) ((g_Hi_known (cH (cHs c h (s_Hi_next (cH c h) ((((g_Hi_next (cH c h)) + (8 : Int32)) - (1 : Int32)) - (((g_Hi_next (cH c h)) + (8 : Int32)) - (1 : Int32)) / (8 : Int32) * (8 : Int32)))) h)) - (1 : Int32)))) h)).toNatClampNeg) (by omega) (by omega) (cV (cHs (cHs c h (s_Hi_next (cH c h) ((((g_Hi_next (cH c h)) + (8 : Int32)) - (1 : Int32)) - (((g_Hi_next (cH c h)) + (8 : Int32)) - (1 : Int32)) / (8 : Int32) * (8 : Int32)))) h (s_Hi_known (cH (cHs c h (s_Hi_next (cH c h) ((((g_Hi_next (cH c h)) + (8 : Int32)) - (1 : Int32)) - (((g_Hi_next (cH c h)) + (8 : Int32)) - (1 : Int32)) / (8 : Int32) * (8 : Int32)))) h) ((g_Hi_known (cH (cHs c h (s_Hi_next (cH c h) ((((g_Hi_next (cH c h)) + (8 : Int32)) - (1 : Int32)) - (((g_Hi_next (cH c h)) + (8 : Int32)) - (1 : Int32)) / (8 : Int32) * (8 : Int32)))) h)) - (1 : Int32)))) v) rfl (cV (cHs (cHs c h (s_Hi_next (cH c h) ((((g_Hi_next (cH c h)) + (8 : Int32)) - (1 : Int32)) - (((g_Hi_next (cH c h)) + (8 : Int32)) - (1 : Int32)) / (8 : Int32) * (8 : Int32)))) h (s_Hi_known (cH (cHs c h (s_Hi_next (cH c h) ((((g_Hi_next (cH c h)) + (8 : Int32)) - (1 : Int32)) - (((g_Hi_next (cH c h)) + (8 : Int32)) - (1 : Int32)) / (8 : Int32) * (8 : Int32)))) h) ((g_Hi_known (cH (cHs c h (s_Hi_next (cH c h) ((((g_Hi_next (cH c h)) + (8 : Int32)) - (1 : Int32)) - (((g_Hi_next (cH c h)) + (8 : Int32)) - (1 : Int32)) / (8 : Int32) * (8 : Int32)))) h)) - (1 : Int32)))) (3+8*h+(g_Hi_next (cH (cHs (cHs c h (s_Hi_next (cH c h) ((((g_Hi_next (cH c h)) + (8 : Int32)) - (1 : Int32)) - (((g_Hi_next (cH c h)) + (8 : Int32)) - (1 : Int32)) / (8 : Int32) * (8 : Int32)))) h (s_Hi_known (cH (cHs c h (s_Hi_next (cH c h) ((((g_Hi_next (cH c h)) + (8 : Int32)) - (1 : Int32)) - (((g_Hi_next (cH c h)) + (8 : Int32)) - (1 : Int32)) / (8 : Int32) * (8 : Int32)))) h) ((g_Hi_known (cH (cHs c h (s_Hi_next (cH c h) ((((g_Hi_next (cH c h)) + (8 : Int32)) - (1 : Int32)) - (((g_Hi_next (cH c h)) + (8 : Int32)) - (1 : Int32)) / (8 : Int32) * (8 : Int32)))) h)) - (1 : Int32)))) h)).toNatClampNeg)) rfl q_3 h_4 (sC σ (cVs (cHs (cHs c h (s_Hi_next (cH c h) ((((g_Hi_next (cH c h)) + (8 : Int32)) - (1 : Int32)) - (((g_Hi_next (cH c h)) + (8 : Int32)) - (1 : Int32)) / (8 : Int32) * (8 : Int32)))) h (s_Hi_known (cH (cHs c h (s_Hi_next (cH c h) ((((g_Hi_next (cH c h)) + (8 : Int32)) - (1 : Int32)) - (((g_Hi_next (cH c h)) + (8 : Int32)) - (1 : Int32)) / (8 : Int32) * (8 : Int32)))) h) ((g_Hi_known (cH (cHs c h (s_Hi_next (cH c h) ((((g_Hi_next (cH c h)) + (8 : Int32)) - (1 : Int32)) - (((g_Hi_next (cH c h)) + (8 : Int32)) - (1 : Int32)) / (8 : Int32) * (8 : Int32)))) h)) - (1 : Int32)))) v q_3)) rfl) mv_X5_becomeLike tb_2_111 hK hw ⟨Nat.le_of_ble_eq_true rfl, Nat.le_of_ble_eq_true rfl⟩ ⟨Nat.zero_le _, Nat.zero_le _⟩ rfl hl.1 rfl (Nat.le_of_ble_eq_true rfl) dX1_takeBack_45 (fun H locs hw => ?_)
    refine lv_iconst (v := 1) hx hb dX1_takeBack_48 (by decide) ?_
    obtain rfl := Option.some.inj hf
    exact nn_zret S hr hlk hw rfl rfl hσ dX1_takeBack_49
  · rw [if_pos c_1] at hf
    refine lv_iconst (v := 0) hx hb dX1_takeBack_7 (by decide) ?_
    obtain rfl := Option.some.inj hf
    exact nn_zret S hr hlk hw rfl rfl hσ dX1_takeBack_8
set_option maxRecDepth 100000 in
set_option maxHeartbeats 4000000 in
theorem c_X1_becomeLike (l : Launch) (D : va_G) (cy : Nat → ClassId) (ad : Nat → Nat) (A : Nat → Prop) (σ : nG) (h : Nat) (hn_h : h < 2) (h2 : Nat) (hn_h2 : h2 < 2) (hne : h2 ≠ h) (c : nCs) (hx_C : gC σ = c) (q : nCs) (hf : f_X1_becomeLike h h2 c = some q) (σ' : nG) (hσ : (sC σ q) = σ') : nn_V l yX1_becomeLike (nn_ws yX1_becomeLike cX1_becomeLike 3 none) (nn_R 2) D cy ad A [.ref (ad (114+2*h)), .ref (ad (114+2*h2))] σ σ' := by
  refine nn_enterV (plainFor_of_name (by decide +kernel)) (Nat.le_of_ble_eq_true rfl) (lv := [(0, .ref (ad (114+2*h))), (1, .ref (ad (114+2*h2)))]) rfl ?_
  intro pp ee ss mm bb me co S hr hlk hK hw ls hl
  have hx := S.1
  have hb := S.2.1
  have hw : nn_W D cy ad A ss.heap (sC σ c) ss.heap [] := nn_W.eq (by rw [← hx_C]; rfl) hw
  unfold f_X1_becomeLike at hf
  have L2 : ∀ (n : Nat) (c : nCs) (u2 : Int32) (K : nCs → Int32 → Option (nCs)), (∀ (c : nCs) (u2 : Int32), K c u2 = some q → ∀ (H : Heap) (locs : List Loc) (ls : Array Slot), nn_W D cy ad A ss.heap (sC σ c) H locs → lv_has ls 3 [(0, .ref (ad (114+2*h))), (1, .ref (ad (114+2*h2))), (2, .int (u2))] → W pp l ee (nn_R 2) ss mm ([.ref (ad (114+2*h)), .ref (ad (114+2*h2))] : List Value).toArray bb me co H locs 0 0 (MQ bb (nn_qv D cy ad A σ') ([.ref (ad (114+2*h)), .ref (ad (114+2*h2))] : List Value).toArray ss 0 0 A) (F0 mm 29 ls [])) → f_X1_becomeLike_L2 h h2 n c u2 K = some q → ∀ (H : Heap) (locs : List Loc) (ls : Array Slot), nn_W D cy ad A ss.heap (sC σ c) H locs → lv_has ls 3 [(0, .ref (ad (114+2*h))), (1, .ref (ad (114+2*h2))), (2, .int (u2))] → W pp l ee (nn_R 2) ss mm ([.ref (ad (114+2*h)), .ref (ad (114+2*h2))] : List Value).toArray bb me co H locs 0 0 (MQ bb (nn_qv D cy ad A σ') ([.ref (ad (114+2*h)), .ref (ad (114+2*h2))] : List Value).toArray ss 0 0 A) (F0 mm 2 ls []) := by
    intro n
    induction n with
    | zero => intro c u2 K hKK hf; exact absurd hf (by simp [f_X1_becomeLike_L2])
    | succ n ih =>
      intro c u2 K hKK hf H locs ls hw hl
      rw [f_X1_becomeLike_L2] at hf
      refine lv_iload_n hx hb dX1_becomeLike_2 rfl (lv_at hl 2 rfl) ?_
      refine lv_bipush (v := 8) hx hb dX1_becomeLike_3 (by decide) ?_
      refine lv_icmp_ge (tgt := 29) hx hb dX1_becomeLike_5 (by decide) (fun c_1 => ?_) (fun c_1 => ?_)
      · rw [if_pos c_1] at hf
        exact hKK c u2 hf _ _ _ hw (lv_sub hl [0, 1, 2] rfl)
      · rw [if_neg c_1] at hf
        refine lv_aload_n hx hb dX1_becomeLike_8 rfl (lv_at hl 0 rfl) ?_
        refine gf_Hi_past S hK hw (v := h) hn_h tb_1_74 dX1_becomeLike_9 ?_
        refine lv_iload_n hx hb dX1_becomeLike_12 rfl (lv_at hl 2 rfl) ?_
        obtain ⟨g_2, hf⟩ := nn_ix_some hf
        have hg_2 := nn_ix_lt g_2
        refine nn_aldV S hK hw (h := h) hn_h g_2 dX1_becomeLike_13 ?_
        refine lv_aload_n hx hb dX1_becomeLike_14 rfl (lv_at hl 1 rfl) ?_
        refine gf_Hi_past S hK hw (v := h2) hn_h2 tb_1_74 dX1_becomeLike_15 ?_
        refine lv_iload_n hx hb dX1_becomeLike_18 rfl (lv_at hl 2 rfl) ?_
        obtain ⟨g_3, hf⟩ := nn_ix_some hf
        have hg_3 := nn_ix_lt g_3
        refine nn_aldV S hK hw (h := h2) hn_h2 g_3 dX1_becomeLike_19 ?_
        obtain ⟨q_4, h_5, hf⟩ := nn_bind hf
        refine nn_callvV S (As := [.ref (ad (6*(3+8*h2+u2.toNatClampNeg)))]) (rest := []) (ce_V (k := 0) (v := (3+8*h+u2.toNatClampNeg)) (by omega) (by decide)) (by omega) rfl rfl (c_X5_becomeLike l D cy ad A (sC σ c) (3+8*h+u2.toNatClampNeg) (by omega) (3+8*h2+u2.toNatClampNeg) (by omega) (by omega) (cV c (3+8*h+u2.toNatClampNeg)) rfl (cV c (3+8*h2+u2.toNatClampNeg)) rfl q_4 h_5 (sC σ (cVs c (3+8*h+u2.toNatClampNeg) q_4)) rfl) mv_X5_becomeLike tb_2_111 hK hw ⟨Nat.le_of_ble_eq_true rfl, Nat.le_of_ble_eq_true rfl⟩ ⟨Nat.zero_le _, Nat.zero_le _⟩ rfl hl.1 rfl (Nat.le_of_ble_eq_true rfl) dX1_becomeLike_20 (fun H locs hw => ?_)
        refine lv_iinc (v := u2 + (1 : Int32)) (lv' := [(2, .int (u2 + (1 : Int32))), (0, .ref (ad (114+2*h))), (1, .ref (ad (114+2*h2)))]) hx hb dX1_becomeLike_23 hl (k := 2) rfl (congrArg (fun z => u2 + z) (by decide)) (by decide) rfl (fun ls hl => ?_)
        refine lv_goto (tgt := 2) hx hb dX1_becomeLike_26 (by decide) ?_
        exact ih (cVs c (3+8*h+u2.toNatClampNeg) q_4) (u2 + (1 : Int32)) K hKK hf _ _ _ hw (lv_sub hl [1, 2, 0] rfl)
  refine lv_iconst (v := 0) hx hb dX1_becomeLike_0 (by decide) ?_
  refine lv_istore_n (lv' := [(2, .int ((0 : Int32))), (0, .ref (ad (114+2*h))), (1, .ref (ad (114+2*h2)))]) hx hb dX1_becomeLike_1 rfl hl (by decide) rfl (fun ls hl => ?_)
  refine L2 100000 c (0 : Int32) _ (fun c_7 b2_6 hf H locs ls hw hl => ?_) hf _ _ _ hw (lv_sub hl [1, 2, 0] rfl)
  refine lv_aload_n hx hb dX1_becomeLike_29 rfl (lv_at hl 0 rfl) ?_
  refine lv_aload_n hx hb dX1_becomeLike_30 rfl (lv_at hl 1 rfl) ?_
  refine gf_Hi_next S hK hw (v := h2) hn_h2 (x := (cH c_7 h2)) rfl tb_1_75 dX1_becomeLike_31 ?_
  refine pf_Hi_next S hK hw (v := h) hn_h (x := (cH c_7 h)) rfl (τ' := (sC σ (cHs c_7 h (s_Hi_next (cH c_7 h) (g_Hi_next (cH c_7 h2)))))) rfl tb_1_75 dX1_becomeLike_34 (fun H locs hw => ?_)
  refine lv_aload_n hx hb dX1_becomeLike_37 rfl (lv_at hl 0 rfl) ?_
  refine lv_aload_n hx hb dX1_becomeLike_38 rfl (lv_at hl 1 rfl) ?_
  refine gf_Hi_known S hK hw (v := h2) hn_h2 (x := (cH (cHs c_7 h (s_Hi_next (cH c_7 h) (g_Hi_next (cH c_7 h2)))) h2)) rfl tb_1_76 dX1_becomeLike_39 ?_
  refine pf_Hi_known S hK hw (v := h) hn_h (x := (cH (cHs c_7 h (s_Hi_next (cH c_7 h) (g_Hi_next (cH c_7 h2)))) h)) rfl (τ' := (sC σ (cHs (cHs c_7 h (s_Hi_next (cH c_7 h) (g_Hi_next (cH c_7 h2)))) h (s_Hi_known (cH (cHs c_7 h (s_Hi_next (cH c_7 h) (g_Hi_next (cH c_7 h2)))) h) (g_Hi_known (cH (cHs c_7 h (s_Hi_next (cH c_7 h) (g_Hi_next (cH c_7 h2)))) h2)))))) rfl tb_1_76 dX1_becomeLike_42 (fun H locs hw => ?_)
  obtain rfl := Option.some.inj hf
  exact nn_vret S hr hlk hw hσ dX1_becomeLike_45
set_option maxRecDepth 100000 in
set_option maxHeartbeats 4000000 in
theorem c_X2_minuteThen (l : Launch) (D : va_G) (cy : Nat → ClassId) (ad : Nat → Nat) (A : Nat → Prop) (σ : nG) (v : Nat) (hn_v : v < 19) (se : (Nat → Int32)) (hx_Se : gSe σ = se) (x : nVl) (hx_Vv : gV σ v = x) (a2 : Int32) (q : Int32) (hf : f_X2_minuteThen se x a2 = some q) : nn_I l yX2_minuteThen (nn_ws yX2_minuteThen cX2_minuteThen 3 (some .int)) (nn_R 2) D cy ad A [.ref (ad (119)), .ref (ad (6*v)), .int (a2)] σ q σ := by
  refine nn_enterI (plainFor_of_name (by decide +kernel)) (Nat.le_of_ble_eq_true rfl) (lv := [(0, .ref (ad (119))), (1, .ref (ad (6*v))), (2, .int (a2))]) rfl ?_
  intro pp ee ss mm bb me co S hr hlk hK hw ls hl
  have hx := S.1
  have hb := S.2.1
  unfold f_X2_minuteThen at hf
  refine lv_aload_n hx hb dX2_minuteThen_0 rfl (lv_at hl 1 rfl) ?_
  refine gf_Vl_minutes S hK hw (v := v) hn_v tb_1_32 dX2_minuteThen_1 ?_
  refine lv_iload_n hx hb dX2_minuteThen_4 rfl (lv_at hl 2 rfl) ?_
  obtain ⟨g_1, hf⟩ := nn_ix_some hf
  refine al_Vl_minutes S hK hw (v := v) hn_v (x := x) hx_Vv g_1 dX2_minuteThen_5 ?_
  refine lv_aload_n hx hb dX2_minuteThen_6 rfl (lv_at hl 0 rfl) ?_
  refine gf_Se_shifts S hK hw tb_1_91 dX2_minuteThen_7 ?_
  refine lv_iload_n hx hb dX2_minuteThen_10 rfl (lv_at hl 2 rfl) ?_
  obtain ⟨g_2, hf⟩ := nn_ix_some hf
  refine al_Se_shifts S hK hw (x := se) hx_Se g_2 dX2_minuteThen_11 ?_
  refine lv_iadd hx hb dX2_minuteThen_12 ?_
  obtain ⟨q_3, h_4, hf⟩ := nn_bind hf
  refine nn_calliN S (As := [.int (((g_Vl_minutes x) a2.toNatClampNeg) + (se a2.toNatClampNeg))]) (rest := []) (c_X6_roundTheHour l D cy ad A σ (((g_Vl_minutes x) a2.toNatClampNeg) + (se a2.toNatClampNeg)) q_3 h_4) mv_X6_roundTheHour (nw_9 hK.2) hK hw ⟨Nat.le_of_ble_eq_true rfl, Nat.le_of_ble_eq_true rfl⟩ ⟨Nat.zero_le _, Nat.zero_le _⟩ rfl hl.1 rfl (Nat.le_of_ble_eq_true rfl) dX2_minuteThen_13 (fun H locs hw => ?_)
  obtain rfl := Option.some.inj hf
  exact nn_iret S hr hlk hw rfl rfl dX2_minuteThen_16
set_option maxRecDepth 100000 in
set_option maxHeartbeats 4000000 in
theorem c_X2_isClearOfEarlier (l : Launch) (D : va_G) (cy : Nat → ClassId) (ad : Nat → Nat) (A : Nat → Prop) (σ : nG) (v : Nat) (hn_v : v < 19) (se : (Nat → Int32)) (hx_Se : gSe σ = se) (x : nVl) (hx_Vv : gV σ v = x) (a2 : Int32) (a3 : Int32) (q : Int32) (hf : f_X2_isClearOfEarlier se x a2 a3 = some q) : nn_I l yX2_isClearOfEarlier (nn_ws yX2_isClearOfEarlier cX2_isClearOfEarlier 6 (some .boolean)) (nn_R 3) D cy ad A [.ref (ad (119)), .ref (ad (6*v)), .int (a2), .int (a3)] σ q σ := by
  refine nn_enterI (plainFor_of_name (by decide +kernel)) (Nat.le_of_ble_eq_true rfl) (lv := [(0, .ref (ad (119))), (1, .ref (ad (6*v))), (2, .int (a2)), (3, .int (a3))]) rfl ?_
  intro pp ee ss mm bb me co S hr hlk hK hw ls hl
  have hx := S.1
  have hb := S.2.1
  unfold f_X2_isClearOfEarlier at hf
  have L11 : ∀ (n : Nat) (u2 : Int32) (u3 : Int32) (u4 : Int32) (u5 : Int32) (K : Int32 → Int32 → Int32 → Int32 → Option (Int32)), (∀ (u2 : Int32) (u3 : Int32) (u4 : Int32) (u5 : Int32), K u2 u3 u4 u5 = some q → ∀ (H : Heap) (locs : List Loc) (ls : Array Slot), nn_W D cy ad A ss.heap σ H locs → lv_has ls 6 [(0, .ref (ad (119))), (1, .ref (ad (6*v))), (2, .int (u2)), (3, .int (u3)), (4, .int (u4)), (5, .int (u5))] → W pp l ee (nn_R 3) ss mm ([.ref (ad (119)), .ref (ad (6*v)), .int (a2), .int (a3)] : List Value).toArray bb me co H locs 0 0 (MQ bb (nn_qi D cy ad A q σ) ([.ref (ad (119)), .ref (ad (6*v)), .int (a2), .int (a3)] : List Value).toArray ss 0 0 A) (F0 mm 41 ls [])) → f_X2_isClearOfEarlier_L11 se x n u2 u3 u4 u5 K = some q → ∀ (H : Heap) (locs : List Loc) (ls : Array Slot), nn_W D cy ad A ss.heap σ H locs → lv_has ls 6 [(0, .ref (ad (119))), (1, .ref (ad (6*v))), (2, .int (u2)), (3, .int (u3)), (4, .int (u4)), (5, .int (u5))] → W pp l ee (nn_R 3) ss mm ([.ref (ad (119)), .ref (ad (6*v)), .int (a2), .int (a3)] : List Value).toArray bb me co H locs 0 0 (MQ bb (nn_qi D cy ad A q σ) ([.ref (ad (119)), .ref (ad (6*v)), .int (a2), .int (a3)] : List Value).toArray ss 0 0 A) (F0 mm 11 ls []) := by
    intro n
    induction n with
    | zero => intro u2 u3 u4 u5 K hKK hf; exact absurd hf (by simp [f_X2_isClearOfEarlier_L11])
    | succ n ih =>
      intro u2 u3 u4 u5 K hKK hf H locs ls hw hl
      rw [f_X2_isClearOfEarlier_L11] at hf
      refine lv_iload hx hb dX2_isClearOfEarlier_11 (lv_at hl 5 rfl) ?_
      refine lv_iload_n hx hb dX2_isClearOfEarlier_13 rfl (lv_at hl 3 rfl) ?_
      refine lv_icmp_ge (tgt := 41) hx hb dX2_isClearOfEarlier_14 (by decide) (fun c_3 => ?_) (fun c_3 => ?_)
      · rw [if_pos c_3] at hf
        exact hKK u2 u3 u4 u5 hf _ _ _ hw (lv_sub hl [0, 1, 2, 3, 4, 5] rfl)
      · rw [if_neg c_3] at hf
        refine lv_iload hx hb dX2_isClearOfEarlier_17 (lv_at hl 4 rfl) ?_
        refine lv_aload_n hx hb dX2_isClearOfEarlier_19 rfl (lv_at hl 0 rfl) ?_
        refine lv_aload_n hx hb dX2_isClearOfEarlier_20 rfl (lv_at hl 1 rfl) ?_
        refine lv_iload hx hb dX2_isClearOfEarlier_21 (lv_at hl 5 rfl) ?_
        obtain ⟨q_4, h_5, hf⟩ := nn_bind hf
        refine nn_calliV S (As := [.ref (ad (6*v)), .int (u5)]) (rest := [.int (u4)]) (ce_O (k := 1) (by decide)) (by decide) rfl rfl (c_X2_minuteThen l D cy ad A σ v hn_v se hx_Se x hx_Vv u5 q_4 h_5) mv_X2_minuteThen tb_2_206 hK hw ⟨Nat.le_of_ble_eq_true rfl, Nat.le_of_ble_eq_true rfl⟩ ⟨Nat.zero_le _, Nat.zero_le _⟩ rfl hl.1 rfl (Nat.le_of_ble_eq_true rfl) dX2_isClearOfEarlier_23 (fun H locs hw => ?_)
        obtain ⟨q_6, h_7, hf⟩ := nn_bind hf
        refine nn_calliN S (As := [.int (u4), .int (q_4)]) (rest := []) (c_X6_shorterWay l D cy ad A σ u4 q_4 q_6 h_7) mv_X6_shorterWay (nw_10 hK.2) hK hw ⟨Nat.le_of_ble_eq_true rfl, Nat.le_of_ble_eq_true rfl⟩ ⟨Nat.zero_le _, Nat.zero_le _⟩ rfl hl.1 rfl (Nat.le_of_ble_eq_true rfl) dX2_isClearOfEarlier_26 (fun H locs hw => ?_)
        refine lv_iload_n hx hb dX2_isClearOfEarlier_29 rfl (lv_at hl 2 rfl) ?_
        refine lv_icmp_ge (tgt := 35) hx hb dX2_isClearOfEarlier_30 (by decide) (fun c_8 => ?_) (fun c_8 => ?_)
        · rw [if_pos c_8] at hf
          refine lv_iinc (v := u5 + (1 : Int32)) (lv' := [(5, .int (u5 + (1 : Int32))), (0, .ref (ad (119))), (1, .ref (ad (6*v))), (2, .int (u2)), (3, .int (u3)), (4, .int (u4))]) hx hb dX2_isClearOfEarlier_35 hl (k := 5) rfl (congrArg (fun z => u5 + z) (by decide)) (by decide) rfl (fun ls hl => ?_)
          refine lv_goto (tgt := 11) hx hb dX2_isClearOfEarlier_38 (by decide) ?_
          exact ih u2 u3 u4 (u5 + (1 : Int32)) K hKK hf _ _ _ hw (lv_sub hl [1, 2, 3, 4, 5, 0] rfl)
        · rw [if_neg c_8] at hf
          refine lv_iconst (v := 0) hx hb dX2_isClearOfEarlier_33 (by decide) ?_
          obtain rfl := Option.some.inj hf
          exact nn_zret S hr hlk hw rfl rfl rfl dX2_isClearOfEarlier_34
  refine lv_aload_n hx hb dX2_isClearOfEarlier_0 rfl (lv_at hl 0 rfl) ?_
  refine lv_aload_n hx hb dX2_isClearOfEarlier_1 rfl (lv_at hl 1 rfl) ?_
  refine lv_iload_n hx hb dX2_isClearOfEarlier_2 rfl (lv_at hl 3 rfl) ?_
  obtain ⟨q_1, h_2, hf⟩ := nn_bind hf
  refine nn_calliV S (As := [.ref (ad (6*v)), .int (a3)]) (rest := []) (ce_O (k := 1) (by decide)) (by decide) rfl rfl (c_X2_minuteThen l D cy ad A σ v hn_v se hx_Se x hx_Vv a3 q_1 h_2) mv_X2_minuteThen tb_2_206 hK hw ⟨Nat.le_of_ble_eq_true rfl, Nat.le_of_ble_eq_true rfl⟩ ⟨Nat.zero_le _, Nat.zero_le _⟩ rfl hl.1 rfl (Nat.le_of_ble_eq_true rfl) dX2_isClearOfEarlier_3 (fun H locs hw => ?_)
  refine lv_istore (lv' := [(4, .int (q_1)), (0, .ref (ad (119))), (1, .ref (ad (6*v))), (2, .int (a2)), (3, .int (a3))]) hx hb dX2_isClearOfEarlier_6 hl (by decide) rfl (fun ls hl => ?_)
  refine lv_iconst (v := 0) hx hb dX2_isClearOfEarlier_8 (by decide) ?_
  refine lv_istore (lv' := [(5, .int ((0 : Int32))), (4, .int (q_1)), (0, .ref (ad (119))), (1, .ref (ad (6*v))), (2, .int (a2)), (3, .int (a3))]) hx hb dX2_isClearOfEarlier_9 hl (by decide) rfl (fun ls hl => ?_)
  refine L11 100000 a2 a3 q_1 (0 : Int32) _ (fun b2_9 b3_10 b4_11 b5_12 hf H locs ls hw hl => ?_) hf _ _ _ hw (lv_sub hl [2, 3, 4, 5, 1, 0] rfl)
  refine lv_iconst (v := 1) hx hb dX2_isClearOfEarlier_41 (by decide) ?_
  obtain rfl := Option.some.inj hf
  exact nn_zret S hr hlk hw rfl rfl rfl dX2_isClearOfEarlier_42
set_option maxRecDepth 100000 in
set_option maxHeartbeats 4000000 in
theorem c_X3_renew (l : Launch) (D : va_G) (cy : Nat → ClassId) (ad : Nat → Nat) (A : Nat → Prop) (σ : nG) (j : Nat) (hn_j : j < 4) (sh : nSh) (hx_Shj : gSh σ j = sh) (a1 : Int32) (a2 : Int32) (q : nSh) (hf : f_X3_renew sh a1 a2 = some q) (σ' : nG) (hσ : (sSh σ j q) = σ') : nn_V l yX3_renew (nn_ws yX3_renew cX3_renew 4 none) (nn_R 0) D cy ad A [.ref (ad (127+2*j)), .int (a1), .int (a2)] σ σ' := by
  refine nn_enterV (plainFor_of_name (by decide +kernel)) (Nat.le_of_ble_eq_true rfl) (lv := [(0, .ref (ad (127+2*j))), (1, .int (a1)), (2, .int (a2))]) rfl ?_
  intro pp ee ss mm bb me co S hr hlk hK hw ls hl
  have hx := S.1
  have hb := S.2.1
  have hw : nn_W D cy ad A ss.heap (sSh σ j sh) ss.heap [] := nn_W.eq (by rw [← hx_Shj]; exact (esS σ j).symm) hw
  unfold f_X3_renew at hf
  have L2 : ∀ (n : Nat) (sh : nSh) (u1 : Int32) (u2 : Int32) (u3 : Int32) (K : nSh → Int32 → Int32 → Int32 → Option (nSh)), (∀ (sh : nSh) (u1 : Int32) (u2 : Int32) (u3 : Int32), K sh u1 u2 u3 = some q → ∀ (H : Heap) (locs : List Loc) (ls : Array Slot), nn_W D cy ad A ss.heap (sSh σ j sh) H locs → lv_has ls 4 [(0, .ref (ad (127+2*j))), (1, .int (u1)), (2, .int (u2)), (3, .int (u3))] → W pp l ee (nn_R 0) ss mm ([.ref (ad (127+2*j)), .int (a1), .int (a2)] : List Value).toArray bb me co H locs 0 0 (MQ bb (nn_qv D cy ad A σ') ([.ref (ad (127+2*j)), .int (a1), .int (a2)] : List Value).toArray ss 0 0 A) (F0 mm 21 ls [])) → f_X3_renew_L2 n sh u1 u2 u3 K = some q → ∀ (H : Heap) (locs : List Loc) (ls : Array Slot), nn_W D cy ad A ss.heap (sSh σ j sh) H locs → lv_has ls 4 [(0, .ref (ad (127+2*j))), (1, .int (u1)), (2, .int (u2)), (3, .int (u3))] → W pp l ee (nn_R 0) ss mm ([.ref (ad (127+2*j)), .int (a1), .int (a2)] : List Value).toArray bb me co H locs 0 0 (MQ bb (nn_qv D cy ad A σ') ([.ref (ad (127+2*j)), .int (a1), .int (a2)] : List Value).toArray ss 0 0 A) (F0 mm 2 ls []) := by
    intro n
    induction n with
    | zero => intro sh u1 u2 u3 K hKK hf; exact absurd hf (by simp [f_X3_renew_L2])
    | succ n ih =>
      intro sh u1 u2 u3 K hKK hf H locs ls hw hl
      rw [f_X3_renew_L2] at hf
      refine lv_iload_n hx hb dX3_renew_2 rfl (lv_at hl 3 rfl) ?_
      refine lv_bipush (v := 24) hx hb dX3_renew_3 (by decide) ?_
      refine lv_icmp_ge (tgt := 21) hx hb dX3_renew_5 (by decide) (fun c_1 => ?_) (fun c_1 => ?_)
      · rw [if_pos c_1] at hf
        exact hKK sh u1 u2 u3 hf _ _ _ hw (lv_sub hl [0, 1, 2, 3] rfl)
      · rw [if_neg c_1] at hf
        refine lv_aload_n hx hb dX3_renew_8 rfl (lv_at hl 0 rfl) ?_
        refine gf_Sh_items S hK hw (v := j) hn_j tb_1_145 dX3_renew_9 ?_
        refine lv_iload_n hx hb dX3_renew_12 rfl (lv_at hl 3 rfl) ?_
        refine lv_lconst (v := 0) hx hb dX3_renew_13 (by decide) ?_
        obtain ⟨g_2, hf⟩ := nn_ix_some hf
        refine as_Sh_items S hK hw (v := j) hn_j (x := sh) (gsS _ _ _) g_2 (τ' := (sSh σ j (s_Sh_items sh (vp_updL (g_Sh_items sh) u3.toNatClampNeg (0 : Int64))))) (ssS σ j sh (s_Sh_items sh (vp_updL (g_Sh_items sh) u3.toNatClampNeg (0 : Int64)))) dX3_renew_14 (fun H locs hw => ?_)
        refine lv_iinc (v := u3 + (1 : Int32)) (lv' := [(3, .int (u3 + (1 : Int32))), (0, .ref (ad (127+2*j))), (1, .int (u1)), (2, .int (u2))]) hx hb dX3_renew_15 hl (k := 3) rfl (congrArg (fun z => u3 + z) (by decide)) (by decide) rfl (fun ls hl => ?_)
        refine lv_goto (tgt := 2) hx hb dX3_renew_18 (by decide) ?_
        exact ih (s_Sh_items sh (vp_updL (g_Sh_items sh) u3.toNatClampNeg (0 : Int64))) u1 u2 (u3 + (1 : Int32)) K hKK hf _ _ _ hw (lv_sub hl [1, 2, 3, 0] rfl)
  refine lv_iconst (v := 0) hx hb dX3_renew_0 (by decide) ?_
  refine lv_istore_n (lv' := [(3, .int ((0 : Int32))), (0, .ref (ad (127+2*j))), (1, .int (a1)), (2, .int (a2))]) hx hb dX3_renew_1 rfl hl (by decide) rfl (fun ls hl => ?_)
  refine L2 100000 sh a1 a2 (0 : Int32) _ (fun sh_6 b1_3 b2_4 b3_5 hf H locs ls hw hl => ?_) hf _ _ _ hw (lv_sub hl [1, 2, 3, 0] rfl)
  refine lv_aload_n hx hb dX3_renew_21 rfl (lv_at hl 0 rfl) ?_
  refine lv_iload_n hx hb dX3_renew_22 rfl (lv_at hl 1 rfl) ?_
  refine pf_Sh_lane S hK hw (v := j) hn_j (x := sh_6) (gsS _ _ _) (τ' := (sSh σ j (s_Sh_lane sh_6 b1_3))) (ssS σ j sh_6 (s_Sh_lane sh_6 b1_3)) tb_1_147 dX3_renew_23 (fun H locs hw => ?_)
  refine lv_aload_n hx hb dX3_renew_26 rfl (lv_at hl 0 rfl) ?_
  refine lv_iload_n hx hb dX3_renew_27 rfl (lv_at hl 2 rfl) ?_
  refine pf_Sh_length S hK hw (v := j) hn_j (x := (s_Sh_lane sh_6 b1_3)) (gsS _ _ _) (τ' := (sSh σ j (s_Sh_length (s_Sh_lane sh_6 b1_3) b2_4))) (ssS σ j (s_Sh_lane sh_6 b1_3) (s_Sh_length (s_Sh_lane sh_6 b1_3) b2_4)) tb_1_149 dX3_renew_28 (fun H locs hw => ?_)
  obtain rfl := Option.some.inj hf
  exact nn_vret S hr hlk hw hσ dX3_renew_31
set_option maxRecDepth 100000 in
set_option maxHeartbeats 4000000 in
theorem c_X3_remove (l : Launch) (D : va_G) (cy : Nat → ClassId) (ad : Nat → Nat) (A : Nat → Prop) (σ : nG) (j : Nat) (hn_j : j < 4) (sh : nSh) (hx_Shj : gSh σ j = sh) (q : nSh) (hf : f_X3_remove sh = some q) (σ' : nG) (hσ : (sSh σ j q) = σ') : nn_V l yX3_remove (nn_ws yX3_remove cX3_remove 1 none) (nn_R 0) D cy ad A [.ref (ad (127+2*j))] σ σ' := by
  refine nn_enterV (plainFor_of_name (by decide +kernel)) (Nat.le_of_ble_eq_true rfl) (lv := [(0, .ref (ad (127+2*j)))]) rfl ?_
  intro pp ee ss mm bb me co S hr hlk hK hw ls hl
  have hx := S.1
  have hb := S.2.1
  have hw : nn_W D cy ad A ss.heap (sSh σ j sh) ss.heap [] := nn_W.eq (by rw [← hx_Shj]; exact (esS σ j).symm) hw
  unfold f_X3_remove at hf
  refine lv_aload_n hx hb dX3_remove_0 rfl (lv_at hl 0 rfl) ?_
  refine lv_iconst (v := -1) hx hb dX3_remove_1 (by decide) ?_
  refine pf_Sh_lane S hK hw (v := j) hn_j (x := sh) (gsS _ _ _) (τ' := (sSh σ j (s_Sh_lane sh (-1 : Int32)))) (ssS σ j sh (s_Sh_lane sh (-1 : Int32))) tb_1_147 dX3_remove_2 (fun H locs hw => ?_)
  refine lv_aload_n hx hb dX3_remove_5 rfl (lv_at hl 0 rfl) ?_
  refine lv_iconst (v := 0) hx hb dX3_remove_6 (by decide) ?_
  refine pf_Sh_length S hK hw (v := j) hn_j (x := (s_Sh_lane sh (-1 : Int32))) (gsS _ _ _) (τ' := (sSh σ j (s_Sh_length (s_Sh_lane sh (-1 : Int32)) (0 : Int32)))) (ssS σ j (s_Sh_lane sh (-1 : Int32)) (s_Sh_length (s_Sh_lane sh (-1 : Int32)) (0 : Int32))) tb_1_149 dX3_remove_7 (fun H locs hw => ?_)
  obtain rfl := Option.some.inj hf
  exact nn_vret S hr hlk hw hσ dX3_remove_10
set_option maxRecDepth 100000 in
set_option maxHeartbeats 4000000 in
theorem c_X3_isMissing (l : Launch) (D : va_G) (cy : Nat → ClassId) (ad : Nat → Nat) (A : Nat → Prop) (σ : nG) (j : Nat) (hn_j : j < 4) (sh : nSh) (hx_Shj : gSh σ j = sh) (q : Int32) (hf : f_X3_isMissing sh = some q) : nn_I l yX3_isMissing (nn_ws yX3_isMissing cX3_isMissing 1 (some .boolean)) (nn_R 0) D cy ad A [.ref (ad (127+2*j))] σ q σ := by
  refine nn_enterI (plainFor_of_name (by decide +kernel)) (Nat.le_of_ble_eq_true rfl) (lv := [(0, .ref (ad (127+2*j)))]) rfl ?_
  intro pp ee ss mm bb me co S hr hlk hK hw ls hl
  have hx := S.1
  have hb := S.2.1
  unfold f_X3_isMissing at hf
  refine lv_aload_n hx hb dX3_isMissing_0 rfl (lv_at hl 0 rfl) ?_
  refine gf_Sh_lane S hK hw (v := j) hn_j (x := sh) hx_Shj tb_1_147 dX3_isMissing_1 ?_
  refine lv_iconst (v := -1) hx hb dX3_isMissing_4 (by decide) ?_
  refine lv_icmp_ne (tgt := 12) hx hb dX3_isMissing_5 (by decide) (fun c_1 => ?_) (fun c_1 => ?_)
  · rw [if_neg c_1] at hf
    refine lv_iconst (v := 0) hx hb dX3_isMissing_12 (by decide) ?_
    obtain rfl := Option.some.inj hf
    exact nn_zret S hr hlk hw rfl rfl rfl dX3_isMissing_13
  · rw [if_pos c_1] at hf
    refine lv_iconst (v := 1) hx hb dX3_isMissing_8 (by decide) ?_
    refine lv_goto (tgt := 13) hx hb dX3_isMissing_9 (by decide) ?_
    obtain rfl := Option.some.inj hf
    exact nn_zret S hr hlk hw rfl rfl rfl dX3_isMissing_13
set_option maxRecDepth 100000 in
set_option maxHeartbeats 4000000 in
theorem c_X3_reaches (l : Launch) (D : va_G) (cy : Nat → ClassId) (ad : Nat → Nat) (A : Nat → Prop) (σ : nG) (j : Nat) (hn_j : j < 4) (sh : nSh) (hx_Shj : gSh σ j = sh) (a1 : Int32) (a2 : Int32) (q : Int32) (hf : f_X3_reaches sh a1 a2 = some q) : nn_I l yX3_reaches (nn_ws yX3_reaches cX3_reaches 3 (some .boolean)) (nn_R 0) D cy ad A [.ref (ad (127+2*j)), .int (a1), .int (a2)] σ q σ := by
  refine nn_enterI (plainFor_of_name (by decide +kernel)) (Nat.le_of_ble_eq_true rfl) (lv := [(0, .ref (ad (127+2*j))), (1, .int (a1)), (2, .int (a2))]) rfl ?_
  intro pp ee ss mm bb me co S hr hlk hK hw ls hl
  have hx := S.1
  have hb := S.2.1
  unfold f_X3_reaches at hf
  refine lv_iload_n hx hb dX3_reaches_0 rfl (lv_at hl 1 rfl) ?_
  refine lv_if_lt (tgt := 30) hx hb dX3_reaches_1 (by decide) (fun c_1 => ?_) (fun c_1 => ?_)
  · rw [if_pos c_1] at hf
    refine lv_iconst (v := 0) hx hb dX3_reaches_30 (by decide) ?_
    obtain rfl := Option.some.inj hf
    exact nn_zret S hr hlk hw rfl rfl rfl dX3_reaches_31
  · rw [if_neg c_1] at hf
    refine lv_iload_n hx hb dX3_reaches_4 rfl (lv_at hl 2 rfl) ?_
    refine lv_if_lt (tgt := 30) hx hb dX3_reaches_5 (by decide) (fun c_2 => ?_) (fun c_2 => ?_)
    · rw [if_pos c_2] at hf
      refine lv_iconst (v := 0) hx hb dX3_reaches_30 (by decide) ?_
      obtain rfl := Option.some.inj hf
      exact nn_zret S hr hlk hw rfl rfl rfl dX3_reaches_31
    · rw [if_neg c_2] at hf
      refine lv_iload_n hx hb dX3_reaches_8 rfl (lv_at hl 2 rfl) ?_
      refine lv_aload_n hx hb dX3_reaches_9 rfl (lv_at hl 0 rfl) ?_
      refine gf_Sh_length S hK hw (v := j) hn_j (x := sh) hx_Shj tb_1_149 dX3_reaches_10 ?_
      refine lv_icmp_gt (tgt := 30) hx hb dX3_reaches_13 (by decide) (fun c_3 => ?_) (fun c_3 => ?_)
      · rw [if_pos c_3] at hf
        refine lv_iconst (v := 0) hx hb dX3_reaches_30 (by decide) ?_
        obtain rfl := Option.some.inj hf
        exact nn_zret S hr hlk hw rfl rfl rfl dX3_reaches_31
      · rw [if_neg c_3] at hf
        refine lv_iload_n hx hb dX3_reaches_16 rfl (lv_at hl 1 rfl) ?_
        refine lv_aload_n hx hb dX3_reaches_17 rfl (lv_at hl 0 rfl) ?_
        refine gf_Sh_length S hK hw (v := j) hn_j (x := sh) hx_Shj tb_1_149 dX3_reaches_18 ?_
        refine lv_iload_n hx hb dX3_reaches_21 rfl (lv_at hl 2 rfl) ?_
        refine lv_isub hx hb dX3_reaches_22 ?_
        refine lv_icmp_gt (tgt := 30) hx hb dX3_reaches_23 (by decide) (fun c_4 => ?_) (fun c_4 => ?_)
        · rw [if_pos c_4] at hf
          refine lv_iconst (v := 0) hx hb dX3_reaches_30 (by decide) ?_
          obtain rfl := Option.some.inj hf
          exact nn_zret S hr hlk hw rfl rfl rfl dX3_reaches_31
        · rw [if_neg c_4] at hf
          refine lv_iconst (v := 1) hx hb dX3_reaches_26 (by decide) ?_
          refine lv_goto (tgt := 31) hx hb dX3_reaches_27 (by decide) ?_
          obtain rfl := Option.some.inj hf
          exact nn_zret S hr hlk hw rfl rfl rfl dX3_reaches_31
set_option maxRecDepth 100000 in
set_option maxHeartbeats 4000000 in
theorem c_X3_refusal (l : Launch) (D : va_G) (cy : Nat → ClassId) (ad : Nat → Nat) (A : Nat → Prop) (σ : nG) (j : Nat) (hn_j : j < 4) (sh : nSh) (hx_Shj : gSh σ j = sh) (a1 : Int32) (a2 : Int32) (a3 : Int32) (q : Int32) (hf : f_X3_refusal sh a1 a2 a3 = some q) : nn_I l yX3_refusal (nn_ws yX3_refusal cX3_refusal 4 (some .int)) (nn_R 1) D cy ad A [.ref (ad (127+2*j)), .int (a1), .int (a2), .int (a3)] σ q σ := by
  refine nn_enterI (plainFor_of_name (by decide +kernel)) (Nat.le_of_ble_eq_true rfl) (lv := [(0, .ref (ad (127+2*j))), (1, .int (a1)), (2, .int (a2)), (3, .int (a3))]) rfl ?_
  intro pp ee ss mm bb me co S hr hlk hK hw ls hl
  have hx := S.1
  have hb := S.2.1
  unfold f_X3_refusal at hf
  refine lv_aload_n hx hb dX3_refusal_0 rfl (lv_at hl 0 rfl) ?_
  obtain ⟨q_1, h_2, hf⟩ := nn_bind hf
  refine nn_calliV S (As := []) (rest := []) (ce_S (k := 0) (v := j) hn_j (by decide)) (by omega) rfl rfl (c_X3_isMissing l D cy ad A σ j hn_j sh hx_Shj q_1 h_2) mv_X3_isMissing tb_3_80 hK hw ⟨Nat.le_of_ble_eq_true rfl, Nat.le_of_ble_eq_true rfl⟩ ⟨Nat.zero_le _, Nat.zero_le _⟩ rfl hl.1 rfl (Nat.le_of_ble_eq_true rfl) dX3_refusal_1 (fun H locs hw => ?_)
  refine lv_if_eq (tgt := 10) hx hb dX3_refusal_4 (by decide) (fun c_3 => ?_) (fun c_3 => ?_)
  · rw [if_pos c_3] at hf
    refine lv_aload_n hx hb dX3_refusal_10 rfl (lv_at hl 0 rfl) ?_
    refine gf_Sh_lane S hK hw (v := j) hn_j (x := sh) hx_Shj tb_1_147 dX3_refusal_11 ?_
    refine lv_iload_n hx hb dX3_refusal_14 rfl (lv_at hl 1 rfl) ?_
    refine lv_icmp_eq (tgt := 21) hx hb dX3_refusal_15 (by decide) (fun c_4 => ?_) (fun c_4 => ?_)
    · rw [if_pos c_4] at hf
      refine lv_aload_n hx hb dX3_refusal_21 rfl (lv_at hl 0 rfl) ?_
      refine lv_iload_n hx hb dX3_refusal_22 rfl (lv_at hl 2 rfl) ?_
      refine lv_iload_n hx hb dX3_refusal_23 rfl (lv_at hl 3 rfl) ?_
      obtain ⟨q_5, h_6, hf⟩ := nn_bind hf
      refine nn_calliV S (As := [.int (a2), .int (a3)]) (rest := []) (ce_S (k := 0) (v := j) hn_j (by decide)) (by omega) rfl rfl (c_X3_reaches l D cy ad A σ j hn_j sh hx_Shj a2 a3 q_5 h_6) mv_X3_reaches tb_3_84 hK hw ⟨Nat.le_of_ble_eq_true rfl, Nat.le_of_ble_eq_true rfl⟩ ⟨Nat.zero_le _, Nat.zero_le _⟩ rfl hl.1 rfl (Nat.le_of_ble_eq_true rfl) dX3_refusal_24 (fun H locs hw => ?_)
      refine lv_if_eq (tgt := 34) hx hb dX3_refusal_27 (by decide) (fun c_7 => ?_) (fun c_7 => ?_)
      · rw [if_pos c_7] at hf
        refine lv_bipush (v := -13) hx hb dX3_refusal_34 (by decide) ?_
        obtain rfl := Option.some.inj hf
        exact nn_iret S hr hlk hw rfl rfl dX3_refusal_36
      · rw [if_neg c_7] at hf
        refine lv_iconst (v := 0) hx hb dX3_refusal_30 (by decide) ?_
        refine lv_goto (tgt := 36) hx hb dX3_refusal_31 (by decide) ?_
        obtain rfl := Option.some.inj hf
        exact nn_iret S hr hlk hw rfl rfl dX3_refusal_36
    · rw [if_neg c_4] at hf
      refine lv_bipush (v := -12) hx hb dX3_refusal_18 (by decide) ?_
      obtain rfl := Option.some.inj hf
      exact nn_iret S hr hlk hw rfl rfl dX3_refusal_20
  · rw [if_neg c_3] at hf
    refine lv_bipush (v := -11) hx hb dX3_refusal_7 (by decide) ?_
    obtain rfl := Option.some.inj hf
    exact nn_iret S hr hlk hw rfl rfl dX3_refusal_9
set_option maxRecDepth 100000 in
set_option maxHeartbeats 4000000 in
theorem c_X3_put (l : Launch) (D : va_G) (cy : Nat → ClassId) (ad : Nat → Nat) (A : Nat → Prop) (σ : nG) (j : Nat) (hn_j : j < 4) (sh : nSh) (hx_Shj : gSh σ j = sh) (a1 : Int32) (a2 : Int64) (q : nSh) (hf : f_X3_put sh a1 a2 = some q) (σ' : nG) (hσ : (sSh σ j q) = σ') : nn_V l yX3_put (nn_ws yX3_put cX3_put 4 none) (nn_R 0) D cy ad A [.ref (ad (127+2*j)), .int (a1), .long (a2)] σ σ' := by
  refine nn_enterV (plainFor_of_name (by decide +kernel)) (Nat.le_of_ble_eq_true rfl) (lv := [(0, .ref (ad (127+2*j))), (1, .int (a1)), (2, .long (a2))]) rfl ?_
  intro pp ee ss mm bb me co S hr hlk hK hw ls hl
  have hx := S.1
  have hb := S.2.1
  have hw : nn_W D cy ad A ss.heap (sSh σ j sh) ss.heap [] := nn_W.eq (by rw [← hx_Shj]; exact (esS σ j).symm) hw
  unfold f_X3_put at hf
  refine lv_aload_n hx hb dX3_put_0 rfl (lv_at hl 0 rfl) ?_
  refine gf_Sh_lane S hK hw (v := j) hn_j (x := sh) (gsS _ _ _) tb_1_147 dX3_put_1 ?_
  by_cases c_1 : (g_Sh_lane sh) = (0 : Int32)
  · rw [if_pos c_1] at hf
    refine lv_tableIn (tgt := 32) hx hb dX3_put_4 (by rw [c_1]; decide) (by rw [c_1]; decide) (by rw [c_1]; rfl) (by decide) ?_
    refine lv_aload_n hx hb dX3_put_32 rfl (lv_at hl 0 rfl) ?_
    refine gf_Sh_items S hK hw (v := j) hn_j tb_1_145 dX3_put_33 ?_
    refine lv_iload_n hx hb dX3_put_36 rfl (lv_at hl 1 rfl) ?_
    refine lv_lload_n hx hb dX3_put_37 rfl (lv_at hl 2 rfl) ?_
    refine lv_l2i (v := a2.toInt32) hx hb dX3_put_38 rfl ?_
    refine lv_i2b (v := a2.toInt32.toInt8.toInt32) hx hb dX3_put_39 rfl ?_
    refine lv_i2l (v := a2.toInt32.toInt8.toInt32.toInt64) hx hb dX3_put_40 rfl ?_
    obtain ⟨g_2, hf⟩ := nn_ix_some hf
    refine as_Sh_items S hK hw (v := j) hn_j (x := sh) (gsS _ _ _) g_2 (τ' := (sSh σ j (s_Sh_items sh (vp_updL (g_Sh_items sh) a1.toNatClampNeg a2.toInt32.toInt8.toInt32.toInt64)))) (ssS σ j sh (s_Sh_items sh (vp_updL (g_Sh_items sh) a1.toNatClampNeg a2.toInt32.toInt8.toInt32.toInt64))) dX3_put_41 (fun H locs hw => ?_)
    refine lv_goto (tgt := 77) hx hb dX3_put_42 (by decide) ?_
    obtain rfl := Option.some.inj hf
    exact nn_vret S hr hlk hw hσ dX3_put_77
  · rw [if_neg c_1] at hf
    by_cases c_3 : (g_Sh_lane sh) = (1 : Int32)
    · rw [if_pos c_3] at hf
      refine lv_tableIn (tgt := 45) hx hb dX3_put_4 (by rw [c_3]; decide) (by rw [c_3]; decide) (by rw [c_3]; rfl) (by decide) ?_
      refine lv_aload_n hx hb dX3_put_45 rfl (lv_at hl 0 rfl) ?_
      refine gf_Sh_items S hK hw (v := j) hn_j tb_1_145 dX3_put_46 ?_
      refine lv_iload_n hx hb dX3_put_49 rfl (lv_at hl 1 rfl) ?_
      refine lv_lload_n hx hb dX3_put_50 rfl (lv_at hl 2 rfl) ?_
      refine lv_l2i (v := a2.toInt32) hx hb dX3_put_51 rfl ?_
      refine lv_i2s (v := a2.toInt32.toInt16.toInt32) hx hb dX3_put_52 rfl ?_
      refine lv_i2l (v := a2.toInt32.toInt16.toInt32.toInt64) hx hb dX3_put_53 rfl ?_
      obtain ⟨g_4, hf⟩ := nn_ix_some hf
      refine as_Sh_items S hK hw (v := j) hn_j (x := sh) (gsS _ _ _) g_4 (τ' := (sSh σ j (s_Sh_items sh (vp_updL (g_Sh_items sh) a1.toNatClampNeg a2.toInt32.toInt16.toInt32.toInt64)))) (ssS σ j sh (s_Sh_items sh (vp_updL (g_Sh_items sh) a1.toNatClampNeg a2.toInt32.toInt16.toInt32.toInt64))) dX3_put_54 (fun H locs hw => ?_)
      refine lv_goto (tgt := 77) hx hb dX3_put_55 (by decide) ?_
      obtain rfl := Option.some.inj hf
      exact nn_vret S hr hlk hw hσ dX3_put_77
    · rw [if_neg c_3] at hf
      by_cases c_5 : (g_Sh_lane sh) = (2 : Int32)
      · rw [if_pos c_5] at hf
        refine lv_tableIn (tgt := 58) hx hb dX3_put_4 (by rw [c_5]; decide) (by rw [c_5]; decide) (by rw [c_5]; rfl) (by decide) ?_
        refine lv_aload_n hx hb dX3_put_58 rfl (lv_at hl 0 rfl) ?_
        refine gf_Sh_items S hK hw (v := j) hn_j tb_1_145 dX3_put_59 ?_
        refine lv_iload_n hx hb dX3_put_62 rfl (lv_at hl 1 rfl) ?_
        refine lv_lload_n hx hb dX3_put_63 rfl (lv_at hl 2 rfl) ?_
        refine lv_l2i (v := a2.toInt32) hx hb dX3_put_64 rfl ?_
        refine lv_i2l (v := a2.toInt32.toInt64) hx hb dX3_put_65 rfl ?_
        obtain ⟨g_6, hf⟩ := nn_ix_some hf
        refine as_Sh_items S hK hw (v := j) hn_j (x := sh) (gsS _ _ _) g_6 (τ' := (sSh σ j (s_Sh_items sh (vp_updL (g_Sh_items sh) a1.toNatClampNeg a2.toInt32.toInt64)))) (ssS σ j sh (s_Sh_items sh (vp_updL (g_Sh_items sh) a1.toNatClampNeg a2.toInt32.toInt64))) dX3_put_66 (fun H locs hw => ?_)
        refine lv_goto (tgt := 77) hx hb dX3_put_67 (by decide) ?_
        obtain rfl := Option.some.inj hf
        exact nn_vret S hr hlk hw hσ dX3_put_77
      · rw [if_neg c_5] at hf
        refine lv_tableOut (tgt := 70) hx hb dX3_put_4 (nn_swout 2 (by decide) (fun k hk => by have h9 : k = 0 ∨ k = 1 ∨ k = 2 := (by omega); rcases h9 with rfl | rfl | rfl <;> assumption)) (by decide) ?_
        refine lv_aload_n hx hb dX3_put_70 rfl (lv_at hl 0 rfl) ?_
        refine gf_Sh_items S hK hw (v := j) hn_j tb_1_145 dX3_put_71 ?_
        refine lv_iload_n hx hb dX3_put_74 rfl (lv_at hl 1 rfl) ?_
        refine lv_lload_n hx hb dX3_put_75 rfl (lv_at hl 2 rfl) ?_
        obtain ⟨g_7, hf⟩ := nn_ix_some hf
        refine as_Sh_items S hK hw (v := j) hn_j (x := sh) (gsS _ _ _) g_7 (τ' := (sSh σ j (s_Sh_items sh (vp_updL (g_Sh_items sh) a1.toNatClampNeg a2)))) (ssS σ j sh (s_Sh_items sh (vp_updL (g_Sh_items sh) a1.toNatClampNeg a2))) dX3_put_76 (fun H locs hw => ?_)
        obtain rfl := Option.some.inj hf
        exact nn_vret S hr hlk hw hσ dX3_put_77
