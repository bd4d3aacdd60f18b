set_option maxRecDepth 100000 in
set_option maxHeartbeats 4000000 in
theorem c_X4_put (l : Launch) (D : va_G) (cy : Nat → ClassId) (ad : Nat → Nat) (A : Nat → Prop) (σ : nG) (ta : nTa) (hx_Ta : gTa σ = ta) (a1 : Int32) (q : Int32 × nTa) (hf : f_X4_put ta a1 = some q) (σ' : nG) (hσ : (sTa σ q.2) = σ') : nn_I l yX4_put (nn_ws yX4_put cX4_put 2 (some .boolean)) (nn_R 0) D cy ad A [.ref (ad (125)), .int (a1)] σ q.1 σ' := by
  refine nn_enterI (plainFor_of_name (by decide +kernel)) (Nat.le_of_ble_eq_true rfl) (lv := [(0, .ref (ad (125))), (1, .int (a1))]) rfl ?_
  intro pp ee ss mm bb me co S hr hlk hK hw ls hl
  have hx := S.1
  have hb := S.2.1
  have hw : nn_W D cy ad A ss.heap (sTa σ ta) ss.heap [] := nn_W.eq (by rw [← hx_Ta]; rfl) hw
  unfold f_X4_put at hf
  refine lv_aload_n hx hb dX4_put_0 rfl (lv_at hl 0 rfl) ?_
  refine gf_Ta_length S hK hw (x := ta) rfl tb_1_130 dX4_put_1 ?_
  refine lv_bipush (v := 60) hx hb dX4_put_4 (by decide) ?_
  refine lv_icmp_lt (tgt := 11) hx hb dX4_put_6 (by decide) (fun c_1 => ?_) (fun c_1 => ?_)
  · rw [if_pos c_1] at hf
    refine lv_aload_n hx hb dX4_put_11 rfl (lv_at hl 0 rfl) ?_
    refine gf_Ta_letters S hK hw tb_1_129 dX4_put_12 ?_
    refine lv_aload_n hx hb dX4_put_15 rfl (lv_at hl 0 rfl) ?_
    refine gf_Ta_length S hK hw (x := ta) rfl tb_1_130 dX4_put_16 ?_
    refine lv_iload_n hx hb dX4_put_19 rfl (lv_at hl 1 rfl) ?_
    obtain ⟨g_2, hf⟩ := nn_ix_some hf
    obtain ⟨ta_3, h_4, hf⟩ := nn_bind hf
    replace h_4 := Option.some.inj h_4
    refine as_Ta_letters S hK hw (x := ta) rfl g_2 (τ' := (sTa σ ta_3)) ((rfl : _ = (sTa σ (s_Ta_letters ta (upd (g_Ta_letters ta) (g_Ta_length ta).toNatClampNeg (vp_nar .char a1))))).trans (by rw [h_4])) dX4_put_20 (fun H locs hw => ?_)
    refine lv_aload_n hx hb dX4_put_21 rfl (lv_at hl 0 rfl) ?_
    refine lv_dup hx hb dX4_put_22 rfl ?_
    refine gf_Ta_length S hK hw (x := ta_3) rfl tb_1_130 dX4_put_23 ?_
    refine lv_iconst (v := 1) hx hb dX4_put_26 (by decide) ?_
    refine lv_iadd hx hb dX4_put_27 ?_
    refine pf_Ta_length S hK hw (x := ta_3) rfl (τ' := (sTa σ (s_Ta_length ta_3 ((g_Ta_length ta_3) + (1 : Int32))))) rfl tb_1_130 dX4_put_28 (fun H locs hw => ?_)
    refine lv_iconst (v := 1) hx hb dX4_put_31 (by decide) ?_
    obtain rfl := Option.some.inj hf
    exact nn_zret S hr hlk hw rfl rfl hσ dX4_put_32
  · rw [if_neg c_1] at hf
    refine lv_iconst (v := 0) hx hb dX4_put_9 (by decide) ?_
    obtain rfl := Option.some.inj hf
    exact nn_zret S hr hlk hw rfl rfl hσ dX4_put_10
set_option maxRecDepth 100000 in
set_option maxHeartbeats 4000000 in
theorem c_X4_comingLetter (l : Launch) (D : va_G) (cy : Nat → ClassId) (ad : Nat → Nat) (A : Nat → Prop) (σ : nG) (ta : nTa) (hx_Ta : gTa σ = ta) (q : Int32 × nTa) (hf : f_X4_comingLetter ta = some q) (σ' : nG) (hσ : (sTa σ q.2) = σ') : nn_I l yX4_comingLetter (nn_ws yX4_comingLetter cX4_comingLetter 1 (some .char)) (nn_R 0) D cy ad A [.ref (ad (125))] σ q.1 σ' := by
  refine nn_enterI (plainFor_of_name (by decide +kernel)) (Nat.le_of_ble_eq_true rfl) (lv := [(0, .ref (ad (125)))]) rfl ?_
  intro pp ee ss mm bb me co S hr hlk hK hw ls hl
  have hx := S.1
  have hb := S.2.1
  have hw : nn_W D cy ad A ss.heap (sTa σ ta) ss.heap [] := nn_W.eq (by rw [← hx_Ta]; rfl) hw
  unfold f_X4_comingLetter at hf
  have L0 : ∀ (n : Nat) (ta : nTa) (K : nTa → Option (Int32 × nTa)), (∀ (ta : nTa), K ta = some q → ∀ (H : Heap) (locs : List Loc) (ls : Array Slot), nn_W D cy ad A ss.heap (sTa σ ta) H locs → lv_has ls 1 [(0, .ref (ad (125)))] → W pp l ee (nn_R 0) ss mm ([.ref (ad (125))] : List Value).toArray bb me co H locs 0 0 (MQ bb (nn_qi D cy ad A q.1 σ') ([.ref (ad (125))] : List Value).toArray ss 0 0 A) (F0 mm 38 ls [])) → f_X4_comingLetter_L0 n ta K = some q → ∀ (H : Heap) (locs : List Loc) (ls : Array Slot), nn_W D cy ad A ss.heap (sTa σ ta) H locs → lv_has ls 1 [(0, .ref (ad (125)))] → W pp l ee (nn_R 0) ss mm ([.ref (ad (125))] : List Value).toArray bb me co H locs 0 0 (MQ bb (nn_qi D cy ad A q.1 σ') ([.ref (ad (125))] : List Value).toArray ss 0 0 A) (F0 mm 0 ls []) := by
    intro n
    induction n with
    | zero => intro ta K hKK hf; exact absurd hf (by simp [f_X4_comingLetter_L0])
    | succ n ih =>
      intro ta K hKK hf H locs ls hw hl
      rw [f_X4_comingLetter_L0] at hf
      refine lv_aload_n hx hb dX4_comingLetter_0 rfl (lv_at hl 0 rfl) ?_
      refine gf_Ta_place S hK hw (x := ta) rfl tb_1_132 dX4_comingLetter_1 ?_
      refine lv_aload_n hx hb dX4_comingLetter_4 rfl (lv_at hl 0 rfl) ?_
      refine gf_Ta_length S hK hw (x := ta) rfl tb_1_130 dX4_comingLetter_5 ?_
      refine lv_icmp_ge (tgt := 38) hx hb dX4_comingLetter_8 (by decide) (fun c_1 => ?_) (fun c_1 => ?_)
      · rw [if_pos c_1] at hf
        exact hKK ta hf _ _ _ hw (lv_sub hl [0] rfl)
      · rw [if_neg c_1] at hf
        refine lv_aload_n hx hb dX4_comingLetter_11 rfl (lv_at hl 0 rfl) ?_
        refine gf_Ta_letters S hK hw tb_1_129 dX4_comingLetter_12 ?_
        refine lv_aload_n hx hb dX4_comingLetter_15 rfl (lv_at hl 0 rfl) ?_
        refine gf_Ta_place S hK hw (x := ta) rfl tb_1_132 dX4_comingLetter_16 ?_
        obtain ⟨g_2, hf⟩ := nn_ix_some hf
        refine al_Ta_letters S hK hw (x := ta) rfl g_2 dX4_comingLetter_19 ?_
        refine lv_bipush (v := 32) hx hb dX4_comingLetter_20 (by decide) ?_
        refine lv_icmp_ne (tgt := 38) hx hb dX4_comingLetter_22 (by decide) (fun c_3 => ?_) (fun c_3 => ?_)
        · rw [if_neg c_3] at hf
          exact hKK ta hf _ _ _ hw (lv_sub hl [0] rfl)
        · rw [if_pos c_3] at hf
          refine lv_aload_n hx hb dX4_comingLetter_25 rfl (lv_at hl 0 rfl) ?_
          refine lv_dup hx hb dX4_comingLetter_26 rfl ?_
          refine gf_Ta_place S hK hw (x := ta) rfl tb_1_132 dX4_comingLetter_27 ?_
          refine lv_iconst (v := 1) hx hb dX4_comingLetter_30 (by decide) ?_
          refine lv_iadd hx hb dX4_comingLetter_31 ?_
          refine pf_Ta_place S hK hw (x := ta) rfl (τ' := (sTa σ (s_Ta_place ta ((g_Ta_place ta) + (1 : Int32))))) rfl tb_1_132 dX4_comingLetter_32 (fun H locs hw => ?_)
          refine lv_goto (tgt := 0) hx hb dX4_comingLetter_35 (by decide) ?_
          exact ih (s_Ta_place ta ((g_Ta_place ta) + (1 : Int32))) K hKK hf _ _ _ hw (lv_sub hl [0] rfl)
  refine L0 100000 ta _ (fun ta_4 hf H locs ls hw hl => ?_) hf _ _ _ hw (lv_sub hl [0] rfl)
  refine lv_aload_n hx hb dX4_comingLetter_38 rfl (lv_at hl 0 rfl) ?_
  refine gf_Ta_place S hK hw (x := ta_4) rfl tb_1_132 dX4_comingLetter_39 ?_
  refine lv_aload_n hx hb dX4_comingLetter_42 rfl (lv_at hl 0 rfl) ?_
  refine gf_Ta_length S hK hw (x := ta_4) rfl tb_1_130 dX4_comingLetter_43 ?_
  refine lv_icmp_ge (tgt := 61) hx hb dX4_comingLetter_46 (by decide) (fun c_5 => ?_) (fun c_5 => ?_)
  · rw [if_pos c_5] at hf
    refine lv_iconst (v := 0) hx hb dX4_comingLetter_61 (by decide) ?_
    obtain rfl := Option.some.inj hf
    exact nn_zret S hr hlk hw rfl rfl hσ dX4_comingLetter_62
  · rw [if_neg c_5] at hf
    refine lv_aload_n hx hb dX4_comingLetter_49 rfl (lv_at hl 0 rfl) ?_
    refine gf_Ta_letters S hK hw tb_1_129 dX4_comingLetter_50 ?_
    refine lv_aload_n hx hb dX4_comingLetter_53 rfl (lv_at hl 0 rfl) ?_
    refine gf_Ta_place S hK hw (x := ta_4) rfl tb_1_132 dX4_comingLetter_54 ?_
    obtain ⟨g_6, hf⟩ := nn_ix_some hf
    refine al_Ta_letters S hK hw (x := ta_4) rfl g_6 dX4_comingLetter_57 ?_
    refine lv_goto (tgt := 62) hx hb dX4_comingLetter_58 (by decide) ?_
    obtain ⟨g_7, hf⟩ := nn_ch_some hf
    obtain rfl := Option.some.inj hf
    exact nn_zret S hr hlk hw (congrArg Value.int g_7) rfl hσ dX4_comingLetter_62
set_option maxRecDepth 100000 in
set_option maxHeartbeats 4000000 in
theorem c_X4_takes (l : Launch) (D : va_G) (cy : Nat → ClassId) (ad : Nat → Nat) (A : Nat → Prop) (σ : nG) (ta : nTa) (hx_Ta : gTa σ = ta) (a1 : Int32) (q : Int32 × nTa) (hf : f_X4_takes ta a1 = some q) (σ' : nG) (hσ : (sTa σ q.2) = σ') : nn_I l yX4_takes (nn_ws yX4_takes cX4_takes 2 (some .boolean)) (nn_R 1) D cy ad A [.ref (ad (125)), .int (a1)] σ q.1 σ' := by
  refine nn_enterI (plainFor_of_name (by decide +kernel)) (Nat.le_of_ble_eq_true rfl) (lv := [(0, .ref (ad (125))), (1, .int (a1))]) rfl ?_
  intro pp ee ss mm bb me co S hr hlk hK hw ls hl
  have hx := S.1
  have hb := S.2.1
  have hw : nn_W D cy ad A ss.heap (sTa σ ta) ss.heap [] := nn_W.eq (by rw [← hx_Ta]; rfl) hw
  unfold f_X4_takes at hf
  refine lv_aload_n hx hb dX4_takes_0 rfl (lv_at hl 0 rfl) ?_
  refine gf_Ta_fault S hK hw (x := ta) rfl tb_1_133 dX4_takes_1 ?_
  refine lv_if_ne (tgt := 15) hx hb dX4_takes_4 (by decide) (fun c_1 => ?_) (fun c_1 => ?_)
  · rw [if_neg c_1] at hf
    refine lv_iconst (v := 0) hx hb dX4_takes_15 (by decide) ?_
    obtain rfl := Option.some.inj hf
    exact nn_zret S hr hlk hw rfl rfl hσ dX4_takes_16
  · rw [if_pos c_1] at hf
    refine lv_aload_n hx hb dX4_takes_7 rfl (lv_at hl 0 rfl) ?_
    obtain ⟨q_2, h_3, hf⟩ := nn_bind hf
    refine nn_calliV S (As := []) (rest := []) (ce_O (k := 7) (by decide)) (by decide) rfl rfl (c_X4_comingLetter l D cy ad A (sTa σ ta) ta rfl q_2 h_3 (sTa σ q_2.2) rfl) mv_X4_comingLetter tb_2_60 hK hw ⟨Nat.le_of_ble_eq_true rfl, Nat.le_of_ble_eq_true rfl⟩ ⟨Nat.zero_le _, Nat.zero_le _⟩ rfl hl.1 rfl (Nat.le_of_ble_eq_true rfl) dX4_takes_8 (fun H locs hw => ?_)
    refine lv_iload_n hx hb dX4_takes_11 rfl (lv_at hl 1 rfl) ?_
    refine lv_icmp_eq (tgt := 17) hx hb dX4_takes_12 (by decide) (fun c_4 => ?_) (fun c_4 => ?_)
    · rw [if_pos c_4] at hf
      refine lv_aload_n hx hb dX4_takes_17 rfl (lv_at hl 0 rfl) ?_
      refine lv_dup hx hb dX4_takes_18 rfl ?_
      refine gf_Ta_place S hK hw (x := q_2.2) rfl tb_1_132 dX4_takes_19 ?_
      refine lv_iconst (v := 1) hx hb dX4_takes_22 (by decide) ?_
      refine lv_iadd hx hb dX4_takes_23 ?_
      refine pf_Ta_place S hK hw (x := q_2.2) rfl (τ' := (sTa σ (s_Ta_place q_2.2 ((g_Ta_place q_2.2) + (1 : Int32))))) rfl tb_1_132 dX4_takes_24 (fun H locs hw => ?_)
      refine lv_iconst (v := 1) hx hb dX4_takes_27 (by decide) ?_
      obtain rfl := Option.some.inj hf
      exact nn_zret S hr hlk hw rfl rfl hσ dX4_takes_28
    · rw [if_neg c_4] at hf
      refine lv_iconst (v := 0) hx hb dX4_takes_15 (by decide) ?_
      obtain rfl := Option.some.inj hf
      exact nn_zret S hr hlk hw rfl rfl hσ dX4_takes_16
set_option maxRecDepth 100000 in
set_option maxHeartbeats 4000000 in
theorem c_X4_faultAt (l : Launch) (D : va_G) (cy : Nat → ClassId) (ad : Nat → Nat) (A : Nat → Prop) (σ : nG) (ta : nTa) (hx_Ta : gTa σ = ta) (a1 : Int32) (q : nTa) (hf : f_X4_faultAt ta a1 = some q) (σ' : nG) (hσ : (sTa σ q) = σ') : nn_V l yX4_faultAt (nn_ws yX4_faultAt cX4_faultAt 2 none) (nn_R 0) D cy ad A [.ref (ad (125)), .int (a1)] σ σ' := by
  refine nn_enterV (plainFor_of_name (by decide +kernel)) (Nat.le_of_ble_eq_true rfl) (lv := [(0, .ref (ad (125))), (1, .int (a1))]) rfl ?_
  intro pp ee ss mm bb me co S hr hlk hK hw ls hl
  have hx := S.1
  have hb := S.2.1
  have hw : nn_W D cy ad A ss.heap (sTa σ ta) ss.heap [] := nn_W.eq (by rw [← hx_Ta]; rfl) hw
  unfold f_X4_faultAt at hf
  refine lv_aload_n hx hb dX4_faultAt_0 rfl (lv_at hl 0 rfl) ?_
  refine gf_Ta_fault S hK hw (x := ta) rfl tb_1_133 dX4_faultAt_1 ?_
  refine lv_if_ne (tgt := 15) hx hb dX4_faultAt_4 (by decide) (fun c_1 => ?_) (fun c_1 => ?_)
  · rw [if_neg c_1] at hf
    obtain rfl := Option.some.inj hf
    exact nn_vret S hr hlk hw hσ dX4_faultAt_15
  · rw [if_pos c_1] at hf
    refine lv_aload_n hx hb dX4_faultAt_7 rfl (lv_at hl 0 rfl) ?_
    refine lv_bipush (v := -20) hx hb dX4_faultAt_8 (by decide) ?_
    refine lv_iload_n hx hb dX4_faultAt_10 rfl (lv_at hl 1 rfl) ?_
    refine lv_isub hx hb dX4_faultAt_11 ?_
    refine pf_Ta_fault S hK hw (x := ta) rfl (τ' := (sTa σ (s_Ta_fault ta ((-20 : Int32) - a1)))) rfl tb_1_133 dX4_faultAt_12 (fun H locs hw => ?_)
    obtain rfl := Option.some.inj hf
    exact nn_vret S hr hlk hw hσ dX4_faultAt_15
set_option maxRecDepth 100000 in
set_option maxHeartbeats 4000000 in
theorem c_X4_readKind (l : Launch) (D : va_G) (cy : Nat → ClassId) (ad : Nat → Nat) (A : Nat → Prop) (σ : nG) (ta : nTa) (hx_Ta : gTa σ = ta) (q : Int32 × nTa) (hf : f_X4_readKind ta = some q) (σ' : nG) (hσ : (sTa σ q.2) = σ') : nn_I l yX4_readKind (nn_ws yX4_readKind cX4_readKind 1 (some .int)) (nn_R 2) D cy ad A [.ref (ad (125))] σ q.1 σ' := by
  refine nn_enterI (plainFor_of_name (by decide +kernel)) (Nat.le_of_ble_eq_true rfl) (lv := [(0, .ref (ad (125)))]) rfl ?_
  intro pp ee ss mm bb me co S hr hlk hK hw ls hl
  have hx := S.1
  have hb := S.2.1
  have hw : nn_W D cy ad A ss.heap (sTa σ ta) ss.heap [] := nn_W.eq (by rw [← hx_Ta]; rfl) hw
  unfold f_X4_readKind at hf
  refine lv_aload_n hx hb dX4_readKind_0 rfl (lv_at hl 0 rfl) ?_
  refine lv_bipush (v := 112) hx hb dX4_readKind_1 (by decide) ?_
  obtain ⟨q_1, h_2, hf⟩ := nn_bind hf
  refine nn_calliV S (As := [.int ((112 : Int32))]) (rest := []) (ce_O (k := 7) (by decide)) (by decide) rfl rfl (c_X4_takes l D cy ad A (sTa σ ta) ta rfl (112 : Int32) q_1 h_2 (sTa σ q_1.2) rfl) mv_X4_takes tb_2_56 hK hw ⟨Nat.le_of_ble_eq_true rfl, Nat.le_of_ble_eq_true rfl⟩ ⟨Nat.zero_le _, Nat.zero_le _⟩ rfl hl.1 rfl (Nat.le_of_ble_eq_true rfl) dX4_readKind_3 (fun H locs hw => ?_)
  refine lv_if_eq (tgt := 11) hx hb dX4_readKind_6 (by decide) (fun c_3 => ?_) (fun c_3 => ?_)
  · rw [if_pos c_3] at hf
    refine lv_aload_n hx hb dX4_readKind_11 rfl (lv_at hl 0 rfl) ?_
    refine lv_bipush (v := 115) hx hb dX4_readKind_12 (by decide) ?_
    obtain ⟨q_4, h_5, hf⟩ := nn_bind hf
    refine nn_calliV S (As := [.int ((115 : Int32))]) (rest := []) (ce_O (k := 7) (by decide)) (by decide) rfl rfl (c_X4_takes l D cy ad A (sTa σ q_1.2) q_1.2 rfl (115 : Int32) q_4 h_5 (sTa σ q_4.2) rfl) mv_X4_takes tb_2_56 hK hw ⟨Nat.le_of_ble_eq_true rfl, Nat.le_of_ble_eq_true rfl⟩ ⟨Nat.zero_le _, Nat.zero_le _⟩ rfl hl.1 rfl (Nat.le_of_ble_eq_true rfl) dX4_readKind_14 (fun H locs hw => ?_)
    refine lv_if_eq (tgt := 22) hx hb dX4_readKind_17 (by decide) (fun c_6 => ?_) (fun c_6 => ?_)
    · rw [if_pos c_6] at hf
      refine lv_aload_n hx hb dX4_readKind_22 rfl (lv_at hl 0 rfl) ?_
      refine lv_bipush (v := 104) hx hb dX4_readKind_23 (by decide) ?_
      obtain ⟨q_7, h_8, hf⟩ := nn_bind hf
      refine nn_calliV S (As := [.int ((104 : Int32))]) (rest := []) (ce_O (k := 7) (by decide)) (by decide) rfl rfl (c_X4_takes l D cy ad A (sTa σ q_4.2) q_4.2 rfl (104 : Int32) q_7 h_8 (sTa σ q_7.2) rfl) mv_X4_takes tb_2_56 hK hw ⟨Nat.le_of_ble_eq_true rfl, Nat.le_of_ble_eq_true rfl⟩ ⟨Nat.zero_le _, Nat.zero_le _⟩ rfl hl.1 rfl (Nat.le_of_ble_eq_true rfl) dX4_readKind_25 (fun H locs hw => ?_)
      refine lv_if_eq (tgt := 33) hx hb dX4_readKind_28 (by decide) (fun c_9 => ?_) (fun c_9 => ?_)
      · rw [if_pos c_9] at hf
        refine lv_aload_n hx hb dX4_readKind_33 rfl (lv_at hl 0 rfl) ?_
        refine lv_bipush (v := 102) hx hb dX4_readKind_34 (by decide) ?_
        obtain ⟨q_10, h_11, hf⟩ := nn_bind hf
        refine nn_calliV S (As := [.int ((102 : Int32))]) (rest := []) (ce_O (k := 7) (by decide)) (by decide) rfl rfl (c_X4_takes l D cy ad A (sTa σ q_7.2) q_7.2 rfl (102 : Int32) q_10 h_11 (sTa σ q_10.2) rfl) mv_X4_takes tb_2_56 hK hw ⟨Nat.le_of_ble_eq_true rfl, Nat.le_of_ble_eq_true rfl⟩ ⟨Nat.zero_le _, Nat.zero_le _⟩ rfl hl.1 rfl (Nat.le_of_ble_eq_true rfl) dX4_readKind_36 (fun H locs hw => ?_)
        refine lv_if_eq (tgt := 44) hx hb dX4_readKind_39 (by decide) (fun c_12 => ?_) (fun c_12 => ?_)
        · rw [if_pos c_12] at hf
          refine lv_aload_n hx hb dX4_readKind_44 rfl (lv_at hl 0 rfl) ?_
          refine lv_bipush (v := 99) hx hb dX4_readKind_45 (by decide) ?_
          obtain ⟨q_13, h_14, hf⟩ := nn_bind hf
          refine nn_calliV S (As := [.int ((99 : Int32))]) (rest := []) (ce_O (k := 7) (by decide)) (by decide) rfl rfl (c_X4_takes l D cy ad A (sTa σ q_10.2) q_10.2 rfl (99 : Int32) q_13 h_14 (sTa σ q_13.2) rfl) mv_X4_takes tb_2_56 hK hw ⟨Nat.le_of_ble_eq_true rfl, Nat.le_of_ble_eq_true rfl⟩ ⟨Nat.zero_le _, Nat.zero_le _⟩ rfl hl.1 rfl (Nat.le_of_ble_eq_true rfl) dX4_readKind_47 (fun H locs hw => ?_)
          refine lv_if_eq (tgt := 55) hx hb dX4_readKind_50 (by decide) (fun c_15 => ?_) (fun c_15 => ?_)
          · rw [if_pos c_15] at hf
            refine lv_aload_n hx hb dX4_readKind_55 rfl (lv_at hl 0 rfl) ?_
            refine lv_aload_n hx hb dX4_readKind_56 rfl (lv_at hl 0 rfl) ?_
            refine gf_Ta_place S hK hw (x := q_13.2) rfl tb_1_132 dX4_readKind_57 ?_
            obtain ⟨q_16, h_17, hf⟩ := nn_bind hf
            refine nn_callvV S (As := [.int (g_Ta_place q_13.2)]) (rest := []) (ce_O (k := 7) (by decide)) (by decide) rfl rfl (c_X4_faultAt l D cy ad A (sTa σ q_13.2) q_13.2 rfl (g_Ta_place q_13.2) q_16 h_17 (sTa σ q_16) rfl) mv_X4_faultAt tb_2_64 hK hw ⟨Nat.le_of_ble_eq_true rfl, Nat.le_of_ble_eq_true rfl⟩ ⟨Nat.zero_le _, Nat.zero_le _⟩ rfl hl.1 rfl (Nat.le_of_ble_eq_true rfl) dX4_readKind_60 (fun H locs hw => ?_)
            refine lv_iconst (v := 0) hx hb dX4_readKind_63 (by decide) ?_
            obtain rfl := Option.some.inj hf
            exact nn_iret S hr hlk hw rfl hσ dX4_readKind_64
          · rw [if_neg c_15] at hf
            refine lv_iconst (v := 4) hx hb dX4_readKind_53 (by decide) ?_
            obtain rfl := Option.some.inj hf
            exact nn_iret S hr hlk hw rfl hσ dX4_readKind_54
        · rw [if_neg c_12] at hf
          refine lv_iconst (v := 3) hx hb dX4_readKind_42 (by decide) ?_
          obtain rfl := Option.some.inj hf
          exact nn_iret S hr hlk hw rfl hσ dX4_readKind_43
      · rw [if_neg c_9] at hf
        refine lv_iconst (v := 2) hx hb dX4_readKind_31 (by decide) ?_
        obtain rfl := Option.some.inj hf
        exact nn_iret S hr hlk hw rfl hσ dX4_readKind_32
    · rw [if_neg c_6] at hf
      refine lv_iconst (v := 1) hx hb dX4_readKind_20 (by decide) ?_
      obtain rfl := Option.some.inj hf
      exact nn_iret S hr hlk hw rfl hσ dX4_readKind_21
  · rw [if_neg c_3] at hf
    refine lv_iconst (v := 0) hx hb dX4_readKind_9 (by decide) ?_
    obtain rfl := Option.some.inj hf
    exact nn_iret S hr hlk hw rfl hσ dX4_readKind_10
set_option maxRecDepth 100000 in
set_option maxHeartbeats 4000000 in
theorem c_X4_takeDigit (l : Launch) (D : va_G) (cy : Nat → ClassId) (ad : Nat → Nat) (A : Nat → Prop) (σ : nG) (ta : nTa) (hx_Ta : gTa σ = ta) (q : Int32 × nTa) (hf : f_X4_takeDigit ta = some q) (σ' : nG) (hσ : (sTa σ q.2) = σ') : nn_I l yX4_takeDigit (nn_ws yX4_takeDigit cX4_takeDigit 2 (some .int)) (nn_R 1) D cy ad A [.ref (ad (125))] σ q.1 σ' := by
  refine nn_enterI (plainFor_of_name (by decide +kernel)) (Nat.le_of_ble_eq_true rfl) (lv := [(0, .ref (ad (125)))]) rfl ?_
  intro pp ee ss mm bb me co S hr hlk hK hw ls hl
  have hx := S.1
  have hb := S.2.1
  have hw : nn_W D cy ad A ss.heap (sTa σ ta) ss.heap [] := nn_W.eq (by rw [← hx_Ta]; rfl) hw
  unfold f_X4_takeDigit at hf
  refine lv_aload_n hx hb dX4_takeDigit_0 rfl (lv_at hl 0 rfl) ?_
  refine gf_Ta_fault S hK hw (x := ta) rfl tb_1_133 dX4_takeDigit_1 ?_
  refine lv_if_ne (tgt := 33) hx hb dX4_takeDigit_4 (by decide) (fun c_1 => ?_) (fun c_1 => ?_)
  · rw [if_neg c_1] at hf
    refine lv_iconst (v := 0) hx hb dX4_takeDigit_33 (by decide) ?_
    obtain rfl := Option.some.inj hf
    exact nn_iret S hr hlk hw rfl hσ dX4_takeDigit_34
  · rw [if_pos c_1] at hf
    refine lv_aload_n hx hb dX4_takeDigit_7 rfl (lv_at hl 0 rfl) ?_
    refine gf_Ta_place S hK hw (x := ta) rfl tb_1_132 dX4_takeDigit_8 ?_
    refine lv_aload_n hx hb dX4_takeDigit_11 rfl (lv_at hl 0 rfl) ?_
    refine gf_Ta_length S hK hw (x := ta) rfl tb_1_130 dX4_takeDigit_12 ?_
    refine lv_icmp_ge (tgt := 33) hx hb dX4_takeDigit_15 (by decide) (fun c_2 => ?_) (fun c_2 => ?_)
    · rw [if_pos c_2] at hf
      refine lv_iconst (v := 0) hx hb dX4_takeDigit_33 (by decide) ?_
      obtain rfl := Option.some.inj hf
      exact nn_iret S hr hlk hw rfl hσ dX4_takeDigit_34
    · rw [if_neg c_2] at hf
      refine lv_aload_n hx hb dX4_takeDigit_18 rfl (lv_at hl 0 rfl) ?_
      refine gf_Ta_letters S hK hw tb_1_129 dX4_takeDigit_19 ?_
      refine lv_aload_n hx hb dX4_takeDigit_22 rfl (lv_at hl 0 rfl) ?_
      refine gf_Ta_place S hK hw (x := ta) rfl tb_1_132 dX4_takeDigit_23 ?_
      obtain ⟨g_3, hf⟩ := nn_ix_some hf
      refine al_Ta_letters S hK hw (x := ta) rfl g_3 dX4_takeDigit_26 ?_
      obtain ⟨q_4, h_5, hf⟩ := nn_bind hf
      refine nn_calliS S (As := [.int ((g_Ta_letters ta) (g_Ta_place ta).toNatClampNeg)]) (rest := []) (c_X4_isDigit l D cy ad A (sTa σ ta) ((g_Ta_letters ta) (g_Ta_place ta).toNatClampNeg) q_4 h_5) mv_X4_isDigit tb_2_72 hK hw ⟨Nat.le_of_ble_eq_true rfl, Nat.le_of_ble_eq_true rfl⟩ ⟨Nat.zero_le _, Nat.zero_le _⟩ rfl hl.1 rfl (Nat.le_of_ble_eq_true rfl) dX4_takeDigit_27 (fun H locs hw => ?_)
      refine lv_if_ne (tgt := 35) hx hb dX4_takeDigit_30 (by decide) (fun c_6 => ?_) (fun c_6 => ?_)
      · rw [if_neg c_6] at hf
        refine lv_aload_n hx hb dX4_takeDigit_35 rfl (lv_at hl 0 rfl) ?_
        refine gf_Ta_letters S hK hw tb_1_129 dX4_takeDigit_36 ?_
        refine lv_aload_n hx hb dX4_takeDigit_39 rfl (lv_at hl 0 rfl) ?_
        refine gf_Ta_place S hK hw (x := ta) rfl tb_1_132 dX4_takeDigit_40 ?_
        obtain ⟨g_7, hf⟩ := nn_ix_some hf
        refine al_Ta_letters S hK hw (x := ta) rfl g_7 dX4_takeDigit_43 ?_
        refine lv_bipush (v := 48) hx hb dX4_takeDigit_44 (by decide) ?_
        refine lv_isub hx hb dX4_takeDigit_46 ?_
        refine lv_istore_n (lv' := [(1, .int (((g_Ta_letters ta) (g_Ta_place ta).toNatClampNeg) - (48 : Int32))), (0, .ref (ad (125)))]) hx hb dX4_takeDigit_47 rfl hl (by decide) rfl (fun ls hl => ?_)
        refine lv_aload_n hx hb dX4_takeDigit_48 rfl (lv_at hl 1 rfl) ?_
        refine lv_dup hx hb dX4_takeDigit_49 rfl ?_
        refine gf_Ta_place S hK hw (x := ta) rfl tb_1_132 dX4_takeDigit_50 ?_
        refine lv_iconst (v := 1) hx hb dX4_takeDigit_53 (by decide) ?_
        refine lv_iadd hx hb dX4_takeDigit_54 ?_
        refine pf_Ta_place S hK hw (x := ta) rfl (τ' := (sTa σ (s_Ta_place ta ((g_Ta_place ta) + (1 : Int32))))) rfl tb_1_132 dX4_takeDigit_55 (fun H locs hw => ?_)
        refine lv_iload_n hx hb dX4_takeDigit_58 rfl (lv_at hl 0 rfl) ?_
        obtain rfl := Option.some.inj hf
        exact nn_iret S hr hlk hw rfl hσ dX4_takeDigit_59
      · rw [if_pos c_6] at hf
        refine lv_iconst (v := 0) hx hb dX4_takeDigit_33 (by decide) ?_
        obtain rfl := Option.some.inj hf
        exact nn_iret S hr hlk hw rfl hσ dX4_takeDigit_34
set_option maxRecDepth 100000 in
set_option maxHeartbeats 4000000 in
theorem c_X4_readNumber (l : Launch) (D : va_G) (cy : Nat → ClassId) (ad : Nat → Nat) (A : Nat → Prop) (σ : nG) (ta : nTa) (hx_Ta : gTa σ = ta) (a1 : Int32) (q : Int32 × nTa) (hf : f_X4_readNumber ta a1 = some q) (σ' : nG) (hσ : (sTa σ q.2) = σ') : nn_I l yX4_readNumber (nn_ws yX4_readNumber cX4_readNumber 4 (some .int)) (nn_R 2) D cy ad A [.ref (ad (125)), .int (a1)] σ q.1 σ' := by
  refine nn_enterI (plainFor_of_name (by decide +kernel)) (Nat.le_of_ble_eq_true rfl) (lv := [(0, .ref (ad (125))), (1, .int (a1))]) rfl ?_
  intro pp ee ss mm bb me co S hr hlk hK hw ls hl
  have hx := S.1
  have hb := S.2.1
  have hw : nn_W D cy ad A ss.heap (sTa σ ta) ss.heap [] := nn_W.eq (by rw [← hx_Ta]; rfl) hw
  unfold f_X4_readNumber at hf
  have J18 : ∀ (ta : nTa) (u1 : Int32), f_X4_readNumber_J18 ta u1 = some q → ∀ (H : Heap) (locs : List Loc) (ls : Array Slot), nn_W D cy ad A ss.heap (sTa σ ta) H locs → lv_has ls 4 [(0, .ref (ad (125))), (1, .int (u1))] → W pp l ee (nn_R 2) ss mm ([.ref (ad (125)), .int (a1)] : List Value).toArray bb me co H locs 0 0 (MQ bb (nn_qi D cy ad A q.1 σ') ([.ref (ad (125)), .int (a1)] : List Value).toArray ss 0 0 A) (F0 mm 18 ls []) := by
    intro ta u1 hf H locs ls hw hl
    unfold f_X4_readNumber_J18 at hf
    refine lv_aload_n hx hb dX4_readNumber_18 rfl (lv_at hl 0 rfl) ?_
    refine gf_Ta_place S hK hw (x := ta) rfl tb_1_132 dX4_readNumber_19 ?_
    refine lv_istore_n (lv' := [(2, .int (g_Ta_place ta)), (0, .ref (ad (125))), (1, .int (u1))]) hx hb dX4_readNumber_22 rfl hl (by decide) rfl (fun ls hl => ?_)
    refine lv_aload_n hx hb dX4_readNumber_23 rfl (lv_at hl 1 rfl) ?_
    obtain ⟨q_6, h_7, hf⟩ := nn_bind hf
    refine nn_calliV S (As := []) (rest := []) (ce_O (k := 7) (by decide)) (by decide) rfl rfl (c_X4_takeDigit l D cy ad A (sTa σ ta) ta rfl q_6 h_7 (sTa σ q_6.2) rfl) mv_X4_takeDigit tb_2_75 hK hw ⟨Nat.le_of_ble_eq_true rfl, Nat.le_of_ble_eq_true rfl⟩ ⟨Nat.zero_le _, Nat.zero_le _⟩ rfl hl.1 rfl (Nat.le_of_ble_eq_true rfl) dX4_readNumber_24 (fun H locs hw => ?_)
    refine lv_istore_n (lv' := [(3, .int (q_6.1)), (2, .int (g_Ta_place ta)), (0, .ref (ad (125))), (1, .int (u1))]) hx hb dX4_readNumber_27 rfl hl (by decide) rfl (fun ls hl => ?_)
    refine lv_aload_n hx hb dX4_readNumber_28 rfl (lv_at hl 2 rfl) ?_
    refine gf_Ta_place S hK hw (x := q_6.2) rfl tb_1_132 dX4_readNumber_29 ?_
    refine lv_aload_n hx hb dX4_readNumber_32 rfl (lv_at hl 2 rfl) ?_
    refine gf_Ta_length S hK hw (x := q_6.2) rfl tb_1_130 dX4_readNumber_33 ?_
    refine lv_icmp_ge (tgt := 64) hx hb dX4_readNumber_36 (by decide) (fun c_8 => ?_) (fun c_8 => ?_)
    · rw [if_pos c_8] at hf
      refine lv_iload_n hx hb dX4_readNumber_64 rfl (lv_at hl 0 rfl) ?_
      refine lv_iload_n hx hb dX4_readNumber_65 rfl (lv_at hl 3 rfl) ?_
      refine lv_icmp_le (tgt := 74) hx hb dX4_readNumber_66 (by decide) (fun c_9 => ?_) (fun c_9 => ?_)
      · rw [if_pos c_9] at hf
        refine lv_iload_n hx hb dX4_readNumber_74 rfl (lv_at hl 0 rfl) ?_
        obtain rfl := Option.some.inj hf
        exact nn_iret S hr hlk hw rfl hσ dX4_readNumber_75
      · rw [if_neg c_9] at hf
        refine lv_aload_n hx hb dX4_readNumber_69 rfl (lv_at hl 2 rfl) ?_
        refine lv_iload_n hx hb dX4_readNumber_70 rfl (lv_at hl 1 rfl) ?_
        obtain ⟨q_10, h_11, hf⟩ := nn_bind hf
        refine nn_callvV S (As := [.int (g_Ta_place ta)]) (rest := []) (ce_O (k := 7) (by decide)) (by decide) rfl rfl (c_X4_faultAt l D cy ad A (sTa σ q_6.2) q_6.2 rfl (g_Ta_place ta) q_10 h_11 (sTa σ q_10) rfl) mv_X4_faultAt tb_2_64 hK hw ⟨Nat.le_of_ble_eq_true rfl, Nat.le_of_ble_eq_true rfl⟩ ⟨Nat.zero_le _, Nat.zero_le _⟩ rfl hl.1 rfl (Nat.le_of_ble_eq_true rfl) dX4_readNumber_71 (fun H locs hw => ?_)
        refine lv_iload_n hx hb dX4_readNumber_74 rfl (lv_at hl 0 rfl) ?_
        obtain rfl := Option.some.inj hf
        exact nn_iret S hr hlk hw rfl hσ dX4_readNumber_75
    · rw [if_neg c_8] at hf
      refine lv_aload_n hx hb dX4_readNumber_39 rfl (lv_at hl 2 rfl) ?_
      refine gf_Ta_letters S hK hw tb_1_129 dX4_readNumber_40 ?_
      refine lv_aload_n hx hb dX4_readNumber_43 rfl (lv_at hl 2 rfl) ?_
      refine gf_Ta_place S hK hw (x := q_6.2) rfl tb_1_132 dX4_readNumber_44 ?_
      obtain ⟨g_12, hf⟩ := nn_ix_some hf
      refine al_Ta_letters S hK hw (x := q_6.2) rfl g_12 dX4_readNumber_47 ?_
      obtain ⟨q_13, h_14, hf⟩ := nn_bind hf
      refine nn_calliS S (As := [.int ((g_Ta_letters q_6.2) (g_Ta_place q_6.2).toNatClampNeg)]) (rest := []) (c_X4_isDigit l D cy ad A (sTa σ q_6.2) ((g_Ta_letters q_6.2) (g_Ta_place q_6.2).toNatClampNeg) q_13 h_14) mv_X4_isDigit tb_2_72 hK hw ⟨Nat.le_of_ble_eq_true rfl, Nat.le_of_ble_eq_true rfl⟩ ⟨Nat.zero_le _, Nat.zero_le _⟩ rfl hl.1 rfl (Nat.le_of_ble_eq_true rfl) dX4_readNumber_48 (fun H locs hw => ?_)
      refine lv_if_eq (tgt := 64) hx hb dX4_readNumber_51 (by decide) (fun c_15 => ?_) (fun c_15 => ?_)
      · rw [if_pos c_15] at hf
        refine lv_iload_n hx hb dX4_readNumber_64 rfl (lv_at hl 0 rfl) ?_
        refine lv_iload_n hx hb dX4_readNumber_65 rfl (lv_at hl 3 rfl) ?_
        refine lv_icmp_le (tgt := 74) hx hb dX4_readNumber_66 (by decide) (fun c_16 => ?_) (fun c_16 => ?_)
        · rw [if_pos c_16] at hf
          refine lv_iload_n hx hb dX4_readNumber_74 rfl (lv_at hl 0 rfl) ?_
          obtain rfl := Option.some.inj hf
          exact nn_iret S hr hlk hw rfl hσ dX4_readNumber_75
        · rw [if_neg c_16] at hf
          refine lv_aload_n hx hb dX4_readNumber_69 rfl (lv_at hl 2 rfl) ?_
          refine lv_iload_n hx hb dX4_readNumber_70 rfl (lv_at hl 1 rfl) ?_
          obtain ⟨q_17, h_18, hf⟩ := nn_bind hf
          refine nn_callvV S (As := [.int (g_Ta_place ta)]) (rest := []) (ce_O (k := 7) (by decide)) (by decide) rfl rfl (c_X4_faultAt l D cy ad A (sTa σ q_6.2) q_6.2 rfl (g_Ta_place ta) q_17 h_18 (sTa σ q_17) rfl) mv_X4_faultAt tb_2_64 hK hw ⟨Nat.le_of_ble_eq_true rfl, Nat.le_of_ble_eq_true rfl⟩ ⟨Nat.zero_le _, Nat.zero_le _⟩ rfl hl.1 rfl (Nat.le_of_ble_eq_true rfl) dX4_readNumber_71 (fun H locs hw => ?_)
          refine lv_iload_n hx hb dX4_readNumber_74 rfl (lv_at hl 0 rfl) ?_
          obtain rfl := Option.some.inj hf
          exact nn_iret S hr hlk hw rfl hσ dX4_readNumber_75
      · rw [if_neg c_15] at hf
        refine lv_iload_n hx hb dX4_readNumber_54 rfl (lv_at hl 0 rfl) ?_
        refine lv_bipush (v := 10) hx hb dX4_readNumber_55 (by decide) ?_
        refine lv_imul hx hb dX4_readNumber_57 ?_
        refine lv_aload_n hx hb dX4_readNumber_58 rfl (lv_at hl 2 rfl) ?_
        obtain ⟨q_19, h_20, hf⟩ := nn_bind hf
        refine nn_calliV S (As := []) (rest := [.int (q_6.1 * (10 : Int32))]) (ce_O (k := 7) (by decide)) (by decide) rfl rfl (c_X4_takeDigit l D cy ad A (sTa σ q_6.2) q_6.2 rfl q_19 h_20 (sTa σ q_19.2) rfl) mv_X4_takeDigit tb_2_75 hK hw ⟨Nat.le_of_ble_eq_true rfl, Nat.le_of_ble_eq_true rfl⟩ ⟨Nat.zero_le _, Nat.zero_le _⟩ rfl hl.1 rfl (Nat.le_of_ble_eq_true rfl) dX4_readNumber_59 (fun H locs hw => ?_)
        refine lv_iadd hx hb dX4_readNumber_62 ?_
        refine lv_istore_n (lv' := [(3, .int ((q_6.1 * (10 : Int32)) + q_19.1)), (2, .int (g_Ta_place ta)), (0, .ref (ad (125))), (1, .int (u1))]) hx hb dX4_readNumber_63 rfl hl (by decide) rfl (fun ls hl => ?_)
        refine lv_iload_n hx hb dX4_readNumber_64 rfl (lv_at hl 0 rfl) ?_
        refine lv_iload_n hx hb dX4_readNumber_65 rfl (lv_at hl 3 rfl) ?_
        refine lv_icmp_le (tgt := 74) hx hb dX4_readNumber_66 (by decide) (fun c_21 => ?_) (fun c_21 => ?_)
        · rw [if_pos c_21] at hf
          refine lv_iload_n hx hb dX4_readNumber_74 rfl (lv_at hl 0 rfl) ?_
          obtain rfl := Option.some.inj hf
          exact nn_iret S hr hlk hw rfl hσ dX4_readNumber_75
        · rw [if_neg c_21] at hf
          refine lv_aload_n hx hb dX4_readNumber_69 rfl (lv_at hl 2 rfl) ?_
          refine lv_iload_n hx hb dX4_readNumber_70 rfl (lv_at hl 1 rfl) ?_
          obtain ⟨q_22, h_23, hf⟩ := nn_bind hf
          refine nn_callvV S (As := [.int (g_Ta_place ta)]) (rest := []) (ce_O (k := 7) (by decide)) (by decide) rfl rfl (c_X4_faultAt l D cy ad A (sTa σ q_19.2) q_19.2 rfl (g_Ta_place ta) q_22 h_23 (sTa σ q_22) rfl) mv_X4_faultAt tb_2_64 hK hw ⟨Nat.le_of_ble_eq_true rfl, Nat.le_of_ble_eq_true rfl⟩ ⟨Nat.zero_le _, Nat.zero_le _⟩ rfl hl.1 rfl (Nat.le_of_ble_eq_true rfl) dX4_readNumber_71 (fun H locs hw => ?_)
          refine lv_iload_n hx hb dX4_readNumber_74 rfl (lv_at hl 0 rfl) ?_
          obtain rfl := Option.some.inj hf
          exact nn_iret S hr hlk hw rfl hσ dX4_readNumber_75
  refine lv_aload_n hx hb dX4_readNumber_0 rfl (lv_at hl 0 rfl) ?_
  obtain ⟨q_1, h_2, hf⟩ := nn_bind hf
  refine nn_calliV S (As := []) (rest := []) (ce_O (k := 7) (by decide)) (by decide) rfl rfl (c_X4_comingLetter l D cy ad A (sTa σ ta) ta rfl q_1 h_2 (sTa σ q_1.2) rfl) mv_X4_comingLetter tb_2_60 hK hw ⟨Nat.le_of_ble_eq_true rfl, Nat.le_of_ble_eq_true rfl⟩ ⟨Nat.zero_le _, Nat.zero_le _⟩ rfl hl.1 rfl (Nat.le_of_ble_eq_true rfl) dX4_readNumber_1 (fun H locs hw => ?_)
  obtain ⟨q_3, h_4, hf⟩ := nn_bind hf
  refine nn_calliS S (As := [.int (q_1.1)]) (rest := []) (c_X4_isDigit l D cy ad A (sTa σ q_1.2) q_1.1 q_3 h_4) mv_X4_isDigit tb_2_72 hK hw ⟨Nat.le_of_ble_eq_true rfl, Nat.le_of_ble_eq_true rfl⟩ ⟨Nat.zero_le _, Nat.zero_le _⟩ rfl hl.1 rfl (Nat.le_of_ble_eq_true rfl) dX4_readNumber_4 (fun H locs hw => ?_)
  refine lv_if_ne (tgt := 18) hx hb dX4_readNumber_7 (by decide) (fun c_5 => ?_) (fun c_5 => ?_)
  · rw [if_neg c_5] at hf
    exact J18 q_1.2 a1 hf _ _ _ hw (lv_sub hl [0, 1] rfl)
  · rw [if_pos c_5] at hf
    refine lv_aload_n hx hb dX4_readNumber_10 rfl (lv_at hl 0 rfl) ?_
    refine lv_aload_n hx hb dX4_readNumber_11 rfl (lv_at hl 0 rfl) ?_
    refine gf_Ta_place S hK hw (x := q_1.2) rfl tb_1_132 dX4_readNumber_12 ?_
    obtain ⟨q_24, h_25, hf⟩ := nn_bind hf
    refine nn_callvV S (As := [.int (g_Ta_place q_1.2)]) (rest := []) (ce_O (k := 7) (by decide)) (by decide) rfl rfl (c_X4_faultAt l D cy ad A (sTa σ q_1.2) q_1.2 rfl (g_Ta_place q_1.2) q_24 h_25 (sTa σ q_24) rfl) mv_X4_faultAt tb_2_64 hK hw ⟨Nat.le_of_ble_eq_true rfl, Nat.le_of_ble_eq_true rfl⟩ ⟨Nat.zero_le _, Nat.zero_le _⟩ rfl hl.1 rfl (Nat.le_of_ble_eq_true rfl) dX4_readNumber_15 (fun H locs hw => ?_)
    exact J18 q_24 a1 hf _ _ _ hw (lv_sub hl [0, 1] rfl)
set_option maxRecDepth 100000 in
set_option maxHeartbeats 4000000 in
theorem c_X4_readDrift (l : Launch) (D : va_G) (cy : Nat → ClassId) (ad : Nat → Nat) (A : Nat → Prop) (σ : nG) (ta : nTa) (hx_Ta : gTa σ = ta) (q : Int32 × nTa) (hf : f_X4_readDrift ta = some q) (σ' : nG) (hσ : (sTa σ q.2) = σ') : nn_I l yX4_readDrift (nn_ws yX4_readDrift cX4_readDrift 2 (some .int)) (nn_R 2) D cy ad A [.ref (ad (125))] σ q.1 σ' := by
  refine nn_enterI (plainFor_of_name (by decide +kernel)) (Nat.le_of_ble_eq_true rfl) (lv := [(0, .ref (ad (125)))]) rfl ?_
  intro pp ee ss mm bb me co S hr hlk hK hw ls hl
  have hx := S.1
  have hb := S.2.1
  have hw : nn_W D cy ad A ss.heap (sTa σ ta) ss.heap [] := nn_W.eq (by rw [← hx_Ta]; rfl) hw
  unfold f_X4_readDrift at hf
  have J33 : ∀ (ta : nTa) (u1 : Int32), f_X4_readDrift_J33 ta u1 = some q → ∀ (H : Heap) (locs : List Loc) (ls : Array Slot), nn_W D cy ad A ss.heap (sTa σ ta) H locs → lv_has ls 2 [(0, .ref (ad (125))), (1, .int (u1))] → W pp l ee (nn_R 2) ss mm ([.ref (ad (125))] : List Value).toArray bb me co H locs 0 0 (MQ bb (nn_qi D cy ad A q.1 σ') ([.ref (ad (125))] : List Value).toArray ss 0 0 A) (F0 mm 33 ls []) := by
    intro ta u1 hf H locs ls hw hl
    unfold f_X4_readDrift_J33 at hf
    refine lv_aload_n hx hb dX4_readDrift_33 rfl (lv_at hl 0 rfl) ?_
    obtain ⟨q_7, h_8, hf⟩ := nn_bind hf
    refine nn_calliV S (As := []) (rest := []) (ce_O (k := 7) (by decide)) (by decide) rfl rfl (c_X4_comingLetter l D cy ad A (sTa σ ta) ta rfl q_7 h_8 (sTa σ q_7.2) rfl) mv_X4_comingLetter tb_2_60 hK hw ⟨Nat.le_of_ble_eq_true rfl, Nat.le_of_ble_eq_true rfl⟩ ⟨Nat.zero_le _, Nat.zero_le _⟩ rfl hl.1 rfl (Nat.le_of_ble_eq_true rfl) dX4_readDrift_34 (fun H locs hw => ?_)
    obtain ⟨q_9, h_10, hf⟩ := nn_bind hf
    refine nn_calliS S (As := [.int (q_7.1)]) (rest := []) (c_X4_isDigit l D cy ad A (sTa σ q_7.2) q_7.1 q_9 h_10) mv_X4_isDigit tb_2_72 hK hw ⟨Nat.le_of_ble_eq_true rfl, Nat.le_of_ble_eq_true rfl⟩ ⟨Nat.zero_le _, Nat.zero_le _⟩ rfl hl.1 rfl (Nat.le_of_ble_eq_true rfl) dX4_readDrift_37 (fun H locs hw => ?_)
    refine lv_if_ne (tgt := 51) hx hb dX4_readDrift_40 (by decide) (fun c_11 => ?_) (fun c_11 => ?_)
    · rw [if_neg c_11] at hf
      refine lv_iload_n hx hb dX4_readDrift_51 rfl (lv_at hl 1 rfl) ?_
      refine lv_aload_n hx hb dX4_readDrift_52 rfl (lv_at hl 0 rfl) ?_
      obtain ⟨q_12, h_13, hf⟩ := nn_bind hf
      refine nn_calliV S (As := []) (rest := [.int (u1)]) (ce_O (k := 7) (by decide)) (by decide) rfl rfl (c_X4_takeDigit l D cy ad A (sTa σ q_7.2) q_7.2 rfl q_12 h_13 (sTa σ q_12.2) rfl) mv_X4_takeDigit tb_2_75 hK hw ⟨Nat.le_of_ble_eq_true rfl, Nat.le_of_ble_eq_true rfl⟩ ⟨Nat.zero_le _, Nat.zero_le _⟩ rfl hl.1 rfl (Nat.le_of_ble_eq_true rfl) dX4_readDrift_53 (fun H locs hw => ?_)
      refine lv_imul hx hb dX4_readDrift_56 ?_
      obtain rfl := Option.some.inj hf
      exact nn_iret S hr hlk hw rfl hσ dX4_readDrift_57
    · rw [if_pos c_11] at hf
      refine lv_aload_n hx hb dX4_readDrift_43 rfl (lv_at hl 0 rfl) ?_
      refine lv_aload_n hx hb dX4_readDrift_44 rfl (lv_at hl 0 rfl) ?_
      refine gf_Ta_place S hK hw (x := q_7.2) rfl tb_1_132 dX4_readDrift_45 ?_
      obtain ⟨q_14, h_15, hf⟩ := nn_bind hf
      refine nn_callvV S (As := [.int (g_Ta_place q_7.2)]) (rest := []) (ce_O (k := 7) (by decide)) (by decide) rfl rfl (c_X4_faultAt l D cy ad A (sTa σ q_7.2) q_7.2 rfl (g_Ta_place q_7.2) q_14 h_15 (sTa σ q_14) rfl) mv_X4_faultAt tb_2_64 hK hw ⟨Nat.le_of_ble_eq_true rfl, Nat.le_of_ble_eq_true rfl⟩ ⟨Nat.zero_le _, Nat.zero_le _⟩ rfl hl.1 rfl (Nat.le_of_ble_eq_true rfl) dX4_readDrift_48 (fun H locs hw => ?_)
      refine lv_iload_n hx hb dX4_readDrift_51 rfl (lv_at hl 1 rfl) ?_
      refine lv_aload_n hx hb dX4_readDrift_52 rfl (lv_at hl 0 rfl) ?_
      obtain ⟨q_16, h_17, hf⟩ := nn_bind hf
      refine nn_calliV S (As := []) (rest := [.int (u1)]) (ce_O (k := 7) (by decide)) (by decide) rfl rfl (c_X4_takeDigit l D cy ad A (sTa σ q_14) q_14 rfl q_16 h_17 (sTa σ q_16.2) rfl) mv_X4_takeDigit tb_2_75 hK hw ⟨Nat.le_of_ble_eq_true rfl, Nat.le_of_ble_eq_true rfl⟩ ⟨Nat.zero_le _, Nat.zero_le _⟩ rfl hl.1 rfl (Nat.le_of_ble_eq_true rfl) dX4_readDrift_53 (fun H locs hw => ?_)
      refine lv_imul hx hb dX4_readDrift_56 ?_
      obtain rfl := Option.some.inj hf
      exact nn_iret S hr hlk hw rfl hσ dX4_readDrift_57
  refine lv_iconst (v := 1) hx hb dX4_readDrift_0 (by decide) ?_
  refine lv_istore_n (lv' := [(1, .int ((1 : Int32))), (0, .ref (ad (125)))]) hx hb dX4_readDrift_1 rfl hl (by decide) rfl (fun ls hl => ?_)
  refine lv_aload_n hx hb dX4_readDrift_2 rfl (lv_at hl 1 rfl) ?_
  refine lv_bipush (v := 45) hx hb dX4_readDrift_3 (by decide) ?_
  obtain ⟨q_1, h_2, hf⟩ := nn_bind hf
  refine nn_calliV S (As := [.int ((45 : Int32))]) (rest := []) (ce_O (k := 7) (by decide)) (by decide) rfl rfl (c_X4_takes l D cy ad A (sTa σ ta) ta rfl (45 : Int32) q_1 h_2 (sTa σ q_1.2) rfl) mv_X4_takes tb_2_56 hK hw ⟨Nat.le_of_ble_eq_true rfl, Nat.le_of_ble_eq_true rfl⟩ ⟨Nat.zero_le _, Nat.zero_le _⟩ rfl hl.1 rfl (Nat.le_of_ble_eq_true rfl) dX4_readDrift_5 (fun H locs hw => ?_)
  refine lv_if_eq (tgt := 16) hx hb dX4_readDrift_8 (by decide) (fun c_3 => ?_) (fun c_3 => ?_)
  · rw [if_pos c_3] at hf
    refine lv_aload_n hx hb dX4_readDrift_16 rfl (lv_at hl 1 rfl) ?_
    refine lv_bipush (v := 43) hx hb dX4_readDrift_17 (by decide) ?_
    obtain ⟨q_4, h_5, hf⟩ := nn_bind hf
    refine nn_calliV S (As := [.int ((43 : Int32))]) (rest := []) (ce_O (k := 7) (by decide)) (by decide) rfl rfl (c_X4_takes l D cy ad A (sTa σ q_1.2) q_1.2 rfl (43 : Int32) q_4 h_5 (sTa σ q_4.2) rfl) mv_X4_takes tb_2_56 hK hw ⟨Nat.le_of_ble_eq_true rfl, Nat.le_of_ble_eq_true rfl⟩ ⟨Nat.zero_le _, Nat.zero_le _⟩ rfl hl.1 rfl (Nat.le_of_ble_eq_true rfl) dX4_readDrift_19 (fun H locs hw => ?_)
    refine lv_if_ne (tgt := 33) hx hb dX4_readDrift_22 (by decide) (fun c_6 => ?_) (fun c_6 => ?_)
    · rw [if_neg c_6] at hf
      exact J33 q_4.2 (1 : Int32) hf _ _ _ hw (lv_sub hl [1, 0] rfl)
    · rw [if_pos c_6] at hf
      refine lv_aload_n hx hb dX4_readDrift_25 rfl (lv_at hl 1 rfl) ?_
      refine lv_aload_n hx hb dX4_readDrift_26 rfl (lv_at hl 1 rfl) ?_
      refine gf_Ta_place S hK hw (x := q_4.2) rfl tb_1_132 dX4_readDrift_27 ?_
      obtain ⟨q_18, h_19, hf⟩ := nn_bind hf
      refine nn_callvV S (As := [.int (g_Ta_place q_4.2)]) (rest := []) (ce_O (k := 7) (by decide)) (by decide) rfl rfl (c_X4_faultAt l D cy ad A (sTa σ q_4.2) q_4.2 rfl (g_Ta_place q_4.2) q_18 h_19 (sTa σ q_18) rfl) mv_X4_faultAt tb_2_64 hK hw ⟨Nat.le_of_ble_eq_true rfl, Nat.le_of_ble_eq_true rfl⟩ ⟨Nat.zero_le _, Nat.zero_le _⟩ rfl hl.1 rfl (Nat.le_of_ble_eq_true rfl) dX4_readDrift_30 (fun H locs hw => ?_)
      exact J33 q_18 (1 : Int32) hf _ _ _ hw (lv_sub hl [1, 0] rfl)
  · rw [if_neg c_3] at hf
    refine lv_iconst (v := -1) hx hb dX4_readDrift_11 (by decide) ?_
    refine lv_istore_n (lv' := [(1, .int ((-1 : Int32))), (0, .ref (ad (125)))]) hx hb dX4_readDrift_12 rfl hl (by decide) rfl (fun ls hl => ?_)
    refine lv_goto (tgt := 33) hx hb dX4_readDrift_13 (by decide) ?_
    exact J33 q_1.2 (-1 : Int32) hf _ _ _ hw (lv_sub hl [1, 0] rfl)
set_option maxRecDepth 100000 in
set_option maxHeartbeats 4000000 in
theorem c_X4_readVillage (l : Launch) (D : va_G) (cy : Nat → ClassId) (ad : Nat → Nat) (A : Nat → Prop) (σ : nG) (v : Nat) (hn_v : v < 19) (ta : nTa) (hx_Ta : gTa σ = ta) (x : nVl) (hx_Vv : gV σ v = x) (q : nTa × nVl) (hf : f_X4_readVillage ta x = some q) (σ' : nG) (hσ : (sV (sTa σ q.1) v q.2) = σ') : nn_V l yX4_readVillage (nn_ws yX4_readVillage cX4_readVillage 6 none) (nn_R 3) D cy ad A [.ref (ad (125)), .ref (ad (6*v))] σ σ' := by
  refine nn_enterV (plainFor_of_name (by decide +kernel)) (Nat.le_of_ble_eq_true rfl) (lv := [(0, .ref (ad (125))), (1, .ref (ad (6*v)))]) rfl ?_
  intro pp ee ss mm bb me co S hr hlk hK hw ls hl
  have hx := S.1
  have hb := S.2.1
  have hw : nn_W D cy ad A ss.heap (sV (sTa σ ta) v x) ss.heap [] := nn_W.eq (by rw [← hx_Ta, ← hx_Vv]; exact (esV σ v).symm) hw
  unfold f_X4_readVillage at hf
  have J37 : ∀ (ta : nTa) (x : nVl) (u2 : Int32) (u3 : Int32) (u4 : Int32) (s0 : Int32), f_X4_readVillage_J37 ta x u2 u3 u4 s0 = some q → ∀ (H : Heap) (locs : List Loc) (ls : Array Slot), nn_W D cy ad A ss.heap (sV (sTa σ ta) v x) H locs → lv_has ls 6 [(0, .ref (ad (125))), (1, .ref (ad (6*v))), (2, .int (u2)), (3, .int (u3)), (4, .int (u4))] → W pp l ee (nn_R 3) ss mm ([.ref (ad (125)), .ref (ad (6*v))] : List Value).toArray bb me co H locs 0 0 (MQ bb (nn_qv D cy ad A σ') ([.ref (ad (125)), .ref (ad (6*v))] : List Value).toArray ss 0 0 A) (F0 mm 37 ls [.int (s0)]) := by
    intro ta x u2 u3 u4 s0 hf H locs ls hw hl
    unfold f_X4_readVillage_J37 at hf
    refine lv_istore (lv' := [(5, .int (s0)), (0, .ref (ad (125))), (1, .ref (ad (6*v))), (2, .int (u2)), (3, .int (u3)), (4, .int (u4))]) hx hb dX4_readVillage_37 hl (by decide) rfl (fun ls hl => ?_)
    refine lv_aload_n hx hb dX4_readVillage_39 rfl (lv_at hl 1 rfl) ?_
    refine gf_Ta_fault S hK hw (x := ta) rfl tb_1_133 dX4_readVillage_40 ?_
    refine lv_if_ne (tgt := 56) hx hb dX4_readVillage_43 (by decide) (fun c_10 => ?_) (fun c_10 => ?_)
    · rw [if_neg c_10] at hf
      obtain rfl := Option.some.inj hf
      exact nn_vret S hr hlk hw hσ dX4_readVillage_56
    · rw [if_pos c_10] at hf
      refine lv_aload_n hx hb dX4_readVillage_46 rfl (lv_at hl 2 rfl) ?_
      refine lv_iload_n hx hb dX4_readVillage_47 rfl (lv_at hl 3 rfl) ?_
      refine lv_iload_n hx hb dX4_readVillage_48 rfl (lv_at hl 4 rfl) ?_
      refine lv_iload hx hb dX4_readVillage_49 (lv_at hl 5 rfl) ?_
      refine lv_iload hx hb dX4_readVillage_51 (lv_at hl 0 rfl) ?_
      obtain ⟨q_11, h_12, hf⟩ := nn_bind hf
      refine nn_callvV S (As := [.int (u2), .int (u3), .int (u4), .int (s0)]) (rest := []) (ce_V (k := 0) (v := v) hn_v (by decide)) (by omega) rfl rfl (c_X5_build l D cy ad A (sV (sTa σ ta) v x) v hn_v x (gsV _ _ _) u2 u3 u4 s0 q_11 h_12 (sV (sTa σ ta) v q_11) (ssV (sTa σ ta) v x q_11)) mv_X5_build tb_2_83 hK hw ⟨Nat.le_of_ble_eq_true rfl, Nat.le_of_ble_eq_true rfl⟩ ⟨Nat.zero_le _, Nat.zero_le _⟩ rfl hl.1 rfl (Nat.le_of_ble_eq_true rfl) dX4_readVillage_53 (fun H locs hw => ?_)
      obtain rfl := Option.some.inj hf
      exact nn_vret S hr hlk hw hσ dX4_readVillage_56
  refine lv_aload_n hx hb dX4_readVillage_0 rfl (lv_at hl 0 rfl) ?_
  obtain ⟨q_1, h_2, hf⟩ := nn_bind hf
  refine nn_calliV S (As := []) (rest := []) (ce_O (k := 7) (by decide)) (by decide) rfl rfl (c_X4_readKind l D cy ad A (sV (sTa σ ta) v x) ta rfl q_1 h_2 (sV (sTa σ q_1.2) v x) rfl) mv_X4_readKind tb_2_52 hK hw ⟨Nat.le_of_ble_eq_true rfl, Nat.le_of_ble_eq_true rfl⟩ ⟨Nat.zero_le _, Nat.zero_le _⟩ rfl hl.1 rfl (Nat.le_of_ble_eq_true rfl) dX4_readVillage_1 (fun H locs hw => ?_)
  refine lv_istore_n (lv' := [(2, .int (q_1.1)), (0, .ref (ad (125))), (1, .ref (ad (6*v)))]) hx hb dX4_readVillage_4 rfl hl (by decide) rfl (fun ls hl => ?_)
  refine lv_aload_n hx hb dX4_readVillage_5 rfl (lv_at hl 1 rfl) ?_
  refine lv_bipush (v := 59) hx hb dX4_readVillage_6 (by decide) ?_
  obtain ⟨q_3, h_4, hf⟩ := nn_bind hf
  refine nn_calliV S (As := [.int ((59 : Int32))]) (rest := []) (ce_O (k := 7) (by decide)) (by decide) rfl rfl (c_X4_readNumber l D cy ad A (sV (sTa σ q_1.2) v x) q_1.2 rfl (59 : Int32) q_3 h_4 (sV (sTa σ q_3.2) v x) rfl) mv_X4_readNumber tb_2_68 hK hw ⟨Nat.le_of_ble_eq_true rfl, Nat.le_of_ble_eq_true rfl⟩ ⟨Nat.zero_le _, Nat.zero_le _⟩ rfl hl.1 rfl (Nat.le_of_ble_eq_true rfl) dX4_readVillage_8 (fun H locs hw => ?_)
  refine lv_istore_n (lv' := [(3, .int (q_3.1)), (2, .int (q_1.1)), (0, .ref (ad (125))), (1, .ref (ad (6*v)))]) hx hb dX4_readVillage_11 rfl hl (by decide) rfl (fun ls hl => ?_)
  refine lv_aload_n hx hb dX4_readVillage_12 rfl (lv_at hl 2 rfl) ?_
  obtain ⟨q_5, h_6, hf⟩ := nn_bind hf
  refine nn_calliV S (As := []) (rest := []) (ce_O (k := 7) (by decide)) (by decide) rfl rfl (c_X4_readDrift l D cy ad A (sV (sTa σ q_3.2) v x) q_3.2 rfl q_5 h_6 (sV (sTa σ q_5.2) v x) rfl) mv_X4_readDrift tb_2_79 hK hw ⟨Nat.le_of_ble_eq_true rfl, Nat.le_of_ble_eq_true rfl⟩ ⟨Nat.zero_le _, Nat.zero_le _⟩ rfl hl.1 rfl (Nat.le_of_ble_eq_true rfl) dX4_readVillage_13 (fun H locs hw => ?_)
  refine lv_istore (lv' := [(4, .int (q_5.1)), (3, .int (q_3.1)), (2, .int (q_1.1)), (0, .ref (ad (125))), (1, .ref (ad (6*v)))]) hx hb dX4_readVillage_16 hl (by decide) rfl (fun ls hl => ?_)
  refine lv_aload_n hx hb dX4_readVillage_18 rfl (lv_at hl 3 rfl) ?_
  refine lv_bipush (v := 64) hx hb dX4_readVillage_19 (by decide) ?_
  obtain ⟨q_7, h_8, hf⟩ := nn_bind hf
  refine nn_calliV S (As := [.int ((64 : Int32))]) (rest := []) (ce_O (k := 7) (by decide)) (by decide) rfl rfl (c_X4_takes l D cy ad A (sV (sTa σ q_5.2) v x) q_5.2 rfl (64 : Int32) q_7 h_8 (sV (sTa σ q_7.2) v x) rfl) mv_X4_takes tb_2_56 hK hw ⟨Nat.le_of_ble_eq_true rfl, Nat.le_of_ble_eq_true rfl⟩ ⟨Nat.zero_le _, Nat.zero_le _⟩ rfl hl.1 rfl (Nat.le_of_ble_eq_true rfl) dX4_readVillage_21 (fun H locs hw => ?_)
  refine lv_if_eq (tgt := 36) hx hb dX4_readVillage_24 (by decide) (fun c_9 => ?_) (fun c_9 => ?_)
  · rw [if_pos c_9] at hf
    refine lv_iconst (v := 0) hx hb dX4_readVillage_36 (by decide) ?_
    exact J37 q_7.2 x q_1.1 q_3.1 q_5.1 (0 : Int32) hf _ _ _ hw (lv_sub hl [3, 4, 2, 1, 0] rfl)
  · rw [if_neg c_9] at hf
    refine lv_aload_n hx hb dX4_readVillage_27 rfl (lv_at hl 3 rfl) ?_
    refine lv_bipush (v := 40) hx hb dX4_readVillage_28 (by decide) ?_
    obtain ⟨q_13, h_14, hf⟩ := nn_bind hf
    refine nn_calliV S (As := [.int ((40 : Int32))]) (rest := []) (ce_O (k := 7) (by decide)) (by decide) rfl rfl (c_X4_readNumber l D cy ad A (sV (sTa σ q_7.2) v x) q_7.2 rfl (40 : Int32) q_13 h_14 (sV (sTa σ q_13.2) v x) rfl) mv_X4_readNumber tb_2_68 hK hw ⟨Nat.le_of_ble_eq_true rfl, Nat.le_of_ble_eq_true rfl⟩ ⟨Nat.zero_le _, Nat.zero_le _⟩ rfl hl.1 rfl (Nat.le_of_ble_eq_true rfl) dX4_readVillage_30 (fun H locs hw => ?_)
    refine lv_goto (tgt := 37) hx hb dX4_readVillage_33 (by decide) ?_
    exact J37 q_13.2 x q_1.1 q_3.1 q_5.1 q_13.1 hf _ _ _ hw (lv_sub hl [3, 4, 2, 1, 0] rfl)
set_option maxRecDepth 100000 in
set_option maxHeartbeats 4000000 in
theorem c_X4_readInto (l : Launch) (D : va_G) (cy : Nat → ClassId) (ad : Nat → Nat) (A : Nat → Prop) (σ : nG) (v : Nat) (hn_v : v < 19) (ta : nTa) (hx_Ta : gTa σ = ta) (x : nVl) (hx_Vv : gV σ v = x) (q : Int32 × nTa × nVl) (hf : f_X4_readInto ta x = some q) (σ' : nG) (hσ : (sV (sTa σ q.2.1) v q.2.2) = σ') : nn_I l yX4_readInto (nn_ws yX4_readInto cX4_readInto 4 (some .int)) (nn_R 4) D cy ad A [.ref (ad (125)), .ref (ad (6*v))] σ q.1 σ' := by
  refine nn_enterI (plainFor_of_name (by decide +kernel)) (Nat.le_of_ble_eq_true rfl) (lv := [(0, .ref (ad (125))), (1, .ref (ad (6*v)))]) rfl ?_
  intro pp ee ss mm bb me co S hr hlk hK hw ls hl
  have hx := S.1
  have hb := S.2.1
  have hw : nn_W D cy ad A ss.heap (sV (sTa σ ta) v x) ss.heap [] := nn_W.eq (by rw [← hx_Ta, ← hx_Vv]; exact (esV σ v).symm) hw
  unfold f_X4_readInto at hf
  have L18 : ∀ (n : Nat) (ta : nTa) (x : nVl) (u2 : Int32) (u3 : Int32) (K : nTa → nVl → Int32 → Int32 → Option (Int32 × nTa × nVl)), (∀ (ta : nTa) (x : nVl) (u2 : Int32) (u3 : Int32), K ta x u2 u3 = some q → ∀ (H : Heap) (locs : List Loc) (ls : Array Slot), nn_W D cy ad A ss.heap (sV (sTa σ ta) v x) H locs → lv_has ls 4 [(0, .ref (ad (125))), (1, .ref (ad (6*v))), (2, .int (u2)), (3, .int (u3))] → W pp l ee (nn_R 4) ss mm ([.ref (ad (125)), .ref (ad (6*v))] : List Value).toArray bb me co H locs 0 0 (MQ bb (nn_qi D cy ad A q.1 σ') ([.ref (ad (125)), .ref (ad (6*v))] : List Value).toArray ss 0 0 A) (F0 mm 60 ls [])) → f_X4_readInto_L18 n ta x u2 u3 K = some q → ∀ (H : Heap) (locs : List Loc) (ls : Array Slot), nn_W D cy ad A ss.heap (sV (sTa σ ta) v x) H locs → lv_has ls 4 [(0, .ref (ad (125))), (1, .ref (ad (6*v))), (2, .int (u2)), (3, .int (u3))] → W pp l ee (nn_R 4) ss mm ([.ref (ad (125)), .ref (ad (6*v))] : List Value).toArray bb me co H locs 0 0 (MQ bb (nn_qi D cy ad A q.1 σ') ([.ref (ad (125)), .ref (ad (6*v))] : List Value).toArray ss 0 0 A) (F0 mm 18 ls []) := by
    intro n
    induction n with
    | zero => intro ta x u2 u3 K hKK hf; exact absurd hf (by simp [f_X4_readInto_L18])
    | succ n ih =>
      intro ta x u2 u3 K hKK hf H locs ls hw hl
      rw [f_X4_readInto_L18] at hf
      refine lv_iload_n hx hb dX4_readInto_18 rfl (lv_at hl 2 rfl) ?_
      refine lv_if_eq (tgt := 60) hx hb dX4_readInto_19 (by decide) (fun c_3 => ?_) (fun c_3 => ?_)
      · rw [if_pos c_3] at hf
        exact hKK ta x u2 u3 hf _ _ _ hw (lv_sub hl [0, 1, 2, 3] rfl)
      · rw [if_neg c_3] at hf
        refine lv_iload_n hx hb dX4_readInto_22 rfl (lv_at hl 3 rfl) ?_
        refine lv_bipush (v := 6) hx hb dX4_readInto_23 (by decide) ?_
        refine lv_icmp_gt (tgt := 60) hx hb dX4_readInto_25 (by decide) (fun c_4 => ?_) (fun c_4 => ?_)
        · rw [if_pos c_4] at hf
          exact hKK ta x u2 u3 hf _ _ _ hw (lv_sub hl [0, 1, 2, 3] rfl)
        · rw [if_neg c_4] at hf
          refine lv_aload_n hx hb dX4_readInto_28 rfl (lv_at hl 0 rfl) ?_
          refine lv_aload_n hx hb dX4_readInto_29 rfl (lv_at hl 1 rfl) ?_
          obtain ⟨q_5, h_6, hf⟩ := nn_bind hf
          refine nn_callvV S (As := [.ref (ad (6*v))]) (rest := []) (ce_O (k := 7) (by decide)) (by decide) rfl rfl (c_X4_readVillage l D cy ad A (sV (sTa σ ta) v x) v hn_v ta rfl x (gsV _ _ _) q_5 h_6 (sV (sTa σ q_5.1) v q_5.2) (ssV (sTa σ q_5.1) v x q_5.2)) mv_X4_readVillage tb_2_48 hK hw ⟨Nat.le_of_ble_eq_true rfl, Nat.le_of_ble_eq_true rfl⟩ ⟨Nat.zero_le _, Nat.zero_le _⟩ rfl hl.1 rfl (Nat.le_of_ble_eq_true rfl) dX4_readInto_30 (fun H locs hw => ?_)
          refine lv_iload_n hx hb dX4_readInto_33 rfl (lv_at hl 3 rfl) ?_
          refine lv_bipush (v := 6) hx hb dX4_readInto_34 (by decide) ?_
          refine lv_icmp_ge (tgt := 52) hx hb dX4_readInto_36 (by decide) (fun c_7 => ?_) (fun c_7 => ?_)
          · rw [if_pos c_7] at hf
            refine lv_iconst (v := 0) hx hb dX4_readInto_52 (by decide) ?_
            refine lv_istore_n (lv' := [(2, .int ((0 : Int32))), (0, .ref (ad (125))), (1, .ref (ad (6*v))), (3, .int (u3))]) hx hb dX4_readInto_53 rfl hl (by decide) rfl (fun ls hl => ?_)
            refine lv_iinc (v := u3 + (1 : Int32)) (lv' := [(3, .int (u3 + (1 : Int32))), (2, .int ((0 : Int32))), (0, .ref (ad (125))), (1, .ref (ad (6*v)))]) hx hb dX4_readInto_54 hl (k := 3) rfl (congrArg (fun z => u3 + z) (by decide)) (by decide) rfl (fun ls hl => ?_)
            refine lv_goto (tgt := 18) hx hb dX4_readInto_57 (by decide) ?_
            exact ih q_5.1 q_5.2 (0 : Int32) (u3 + (1 : Int32)) K hKK hf _ _ _ hw (lv_sub hl [2, 3, 1, 0] rfl)
          · rw [if_neg c_7] at hf
            refine lv_aload_n hx hb dX4_readInto_39 rfl (lv_at hl 0 rfl) ?_
            refine lv_bipush (v := 44) hx hb dX4_readInto_40 (by decide) ?_
            obtain ⟨q_8, h_9, hf⟩ := nn_bind hf
            refine nn_calliV S (As := [.int ((44 : Int32))]) (rest := []) (ce_O (k := 7) (by decide)) (by decide) rfl rfl (c_X4_takes l D cy ad A (sV (sTa σ q_5.1) v q_5.2) q_5.1 rfl (44 : Int32) q_8 h_9 (sV (sTa σ q_8.2) v q_5.2) rfl) mv_X4_takes tb_2_56 hK hw ⟨Nat.le_of_ble_eq_true rfl, Nat.le_of_ble_eq_true rfl⟩ ⟨Nat.zero_le _, Nat.zero_le _⟩ rfl hl.1 rfl (Nat.le_of_ble_eq_true rfl) dX4_readInto_42 (fun H locs hw => ?_)
            refine lv_if_eq (tgt := 52) hx hb dX4_readInto_45 (by decide) (fun c_10 => ?_) (fun c_10 => ?_)
            · rw [if_pos c_10] at hf
              refine lv_iconst (v := 0) hx hb dX4_readInto_52 (by decide) ?_
              refine lv_istore_n (lv' := [(2, .int ((0 : Int32))), (0, .ref (ad (125))), (1, .ref (ad (6*v))), (3, .int (u3))]) hx hb dX4_readInto_53 rfl hl (by decide) rfl (fun ls hl => ?_)
              refine lv_iinc (v := u3 + (1 : Int32)) (lv' := [(3, .int (u3 + (1 : Int32))), (2, .int ((0 : Int32))), (0, .ref (ad (125))), (1, .ref (ad (6*v)))]) hx hb dX4_readInto_54 hl (k := 3) rfl (congrArg (fun z => u3 + z) (by decide)) (by decide) rfl (fun ls hl => ?_)
              refine lv_goto (tgt := 18) hx hb dX4_readInto_57 (by decide) ?_
              exact ih q_8.2 q_5.2 (0 : Int32) (u3 + (1 : Int32)) K hKK hf _ _ _ hw (lv_sub hl [2, 3, 1, 0] rfl)
            · rw [if_neg c_10] at hf
              refine lv_iconst (v := 1) hx hb dX4_readInto_48 (by decide) ?_
              refine lv_goto (tgt := 53) hx hb dX4_readInto_49 (by decide) ?_
              refine lv_istore_n (lv' := [(2, .int ((1 : Int32))), (0, .ref (ad (125))), (1, .ref (ad (6*v))), (3, .int (u3))]) hx hb dX4_readInto_53 rfl hl (by decide) rfl (fun ls hl => ?_)
              refine lv_iinc (v := u3 + (1 : Int32)) (lv' := [(3, .int (u3 + (1 : Int32))), (2, .int ((1 : Int32))), (0, .ref (ad (125))), (1, .ref (ad (6*v)))]) hx hb dX4_readInto_54 hl (k := 3) rfl (congrArg (fun z => u3 + z) (by decide)) (by decide) rfl (fun ls hl => ?_)
              refine lv_goto (tgt := 18) hx hb dX4_readInto_57 (by decide) ?_
              exact ih q_8.2 q_5.2 (1 : Int32) (u3 + (1 : Int32)) K hKK hf _ _ _ hw (lv_sub hl [2, 3, 1, 0] rfl)
  refine lv_aload_n hx hb dX4_readInto_0 rfl (lv_at hl 0 rfl) ?_
  refine lv_iconst (v := 0) hx hb dX4_readInto_1 (by decide) ?_
  refine pf_Ta_place S hK hw (x := ta) rfl (τ' := (sV (sTa σ (s_Ta_place ta (0 : Int32))) v x)) rfl tb_1_132 dX4_readInto_2 (fun H locs hw => ?_)
  refine lv_aload_n hx hb dX4_readInto_5 rfl (lv_at hl 0 rfl) ?_
  refine lv_iconst (v := 0) hx hb dX4_readInto_6 (by decide) ?_
  refine pf_Ta_fault S hK hw (x := (s_Ta_place ta (0 : Int32))) rfl (τ' := (sV (sTa σ (s_Ta_fault (s_Ta_place ta (0 : Int32)) (0 : Int32))) v x)) rfl tb_1_133 dX4_readInto_7 (fun H locs hw => ?_)
  refine lv_aload_n hx hb dX4_readInto_10 rfl (lv_at hl 1 rfl) ?_
  obtain ⟨q_1, h_2, hf⟩ := nn_bind hf
  refine nn_callvV S (As := []) (rest := []) (ce_V (k := 0) (v := v) hn_v (by decide)) (by omega) rfl rfl (c_X5_clear l D cy ad A (sV (sTa σ (s_Ta_fault (s_Ta_place ta (0 : Int32)) (0 : Int32))) v x) v hn_v x (gsV _ _ _) q_1 h_2 (sV (sTa σ (s_Ta_fault (s_Ta_place ta (0 : Int32)) (0 : Int32))) v q_1) (ssV (sTa σ (s_Ta_fault (s_Ta_place ta (0 : Int32)) (0 : Int32))) v x q_1)) mv_X5_clear tb_2_44 hK hw ⟨Nat.le_of_ble_eq_true rfl, Nat.le_of_ble_eq_true rfl⟩ ⟨Nat.zero_le _, Nat.zero_le _⟩ rfl hl.1 rfl (Nat.le_of_ble_eq_true rfl) dX4_readInto_11 (fun H locs hw => ?_)
  refine lv_iconst (v := 1) hx hb dX4_readInto_14 (by decide) ?_
  refine lv_istore_n (lv' := [(2, .int ((1 : Int32))), (0, .ref (ad (125))), (1, .ref (ad (6*v)))]) hx hb dX4_readInto_15 rfl hl (by decide) rfl (fun ls hl => ?_)
  refine lv_iconst (v := 1) hx hb dX4_readInto_16 (by decide) ?_
  refine lv_istore_n (lv' := [(3, .int ((1 : Int32))), (2, .int ((1 : Int32))), (0, .ref (ad (125))), (1, .ref (ad (6*v)))]) hx hb dX4_readInto_17 rfl hl (by decide) rfl (fun ls hl => ?_)
  refine L18 100000 (s_Ta_fault (s_Ta_place ta (0 : Int32)) (0 : Int32)) q_1 (1 : Int32) (1 : Int32) _ (fun ta_13 x_14 b2_11 b3_12 hf H locs ls hw hl => ?_) hf _ _ _ hw (lv_sub hl [2, 3, 1, 0] rfl)
  refine lv_aload_n hx hb dX4_readInto_60 rfl (lv_at hl 0 rfl) ?_
  refine gf_Ta_fault S hK hw (x := ta_13) rfl tb_1_133 dX4_readInto_61 ?_
  refine lv_if_ne (tgt := 82) hx hb dX4_readInto_64 (by decide) (fun c_15 => ?_) (fun c_15 => ?_)
  · rw [if_neg c_15] at hf
    refine lv_aload_n hx hb dX4_readInto_82 rfl (lv_at hl 0 rfl) ?_
    refine gf_Ta_fault S hK hw (x := ta_13) rfl tb_1_133 dX4_readInto_83 ?_
    obtain rfl := Option.some.inj hf
    exact nn_iret S hr hlk hw rfl hσ dX4_readInto_86
  · rw [if_pos c_15] at hf
    refine lv_aload_n hx hb dX4_readInto_67 rfl (lv_at hl 0 rfl) ?_
    obtain ⟨q_16, h_17, hf⟩ := nn_bind hf
    refine nn_calliV S (As := []) (rest := []) (ce_O (k := 7) (by decide)) (by decide) rfl rfl (c_X4_comingLetter l D cy ad A (sV (sTa σ ta_13) v x_14) ta_13 rfl q_16 h_17 (sV (sTa σ q_16.2) v x_14) rfl) mv_X4_comingLetter tb_2_60 hK hw ⟨Nat.le_of_ble_eq_true rfl, Nat.le_of_ble_eq_true rfl⟩ ⟨Nat.zero_le _, Nat.zero_le _⟩ rfl hl.1 rfl (Nat.le_of_ble_eq_true rfl) dX4_readInto_68 (fun H locs hw => ?_)
    refine lv_if_eq (tgt := 82) hx hb dX4_readInto_71 (by decide) (fun c_18 => ?_) (fun c_18 => ?_)
    · rw [if_pos c_18] at hf
      refine lv_aload_n hx hb dX4_readInto_82 rfl (lv_at hl 0 rfl) ?_
      refine gf_Ta_fault S hK hw (x := q_16.2) rfl tb_1_133 dX4_readInto_83 ?_
      obtain rfl := Option.some.inj hf
      exact nn_iret S hr hlk hw rfl hσ dX4_readInto_86
    · rw [if_neg c_18] at hf
      refine lv_aload_n hx hb dX4_readInto_74 rfl (lv_at hl 0 rfl) ?_
      refine lv_aload_n hx hb dX4_readInto_75 rfl (lv_at hl 0 rfl) ?_
      refine gf_Ta_place S hK hw (x := q_16.2) rfl tb_1_132 dX4_readInto_76 ?_
      obtain ⟨q_19, h_20, hf⟩ := nn_bind hf
      refine nn_callvV S (As := [.int (g_Ta_place q_16.2)]) (rest := []) (ce_O (k := 7) (by decide)) (by decide) rfl rfl (c_X4_faultAt l D cy ad A (sV (sTa σ q_16.2) v x_14) q_16.2 rfl (g_Ta_place q_16.2) q_19 h_20 (sV (sTa σ q_19) v x_14) rfl) mv_X4_faultAt tb_2_64 hK hw ⟨Nat.le_of_ble_eq_true rfl, Nat.le_of_ble_eq_true rfl⟩ ⟨Nat.zero_le _, Nat.zero_le _⟩ rfl hl.1 rfl (Nat.le_of_ble_eq_true rfl) dX4_readInto_79 (fun H locs hw => ?_)
      refine lv_aload_n hx hb dX4_readInto_82 rfl (lv_at hl 0 rfl) ?_
      refine gf_Ta_fault S hK hw (x := q_19) rfl tb_1_133 dX4_readInto_83 ?_
      obtain rfl := Option.some.inj hf
      exact nn_iret S hr hlk hw rfl hσ dX4_readInto_86
