set_option maxRecDepth 100000 in
set_option maxHeartbeats 4000000 in
theorem c_X7_undo (l : Launch) (D : va_G) (cy : Nat → ClassId) (ad : Nat → Nat) (A : Nat → Prop) (σ : nG) (m : nMd) (hx_M : gM σ = m) (q : Int32 × nMd) (hf : f_X7_undo m = some q) (σ' : nG) (hσ : (sM σ q.2) = σ') : nn_I l yX7_undo (nn_ws yX7_undo cX7_undo 2 (some .int)) (nn_R 0) D cy ad A [.ref (ad (136))] σ q.1 σ' := by
  refine nn_enterI (plainFor_of_name (by decide +kernel)) (Nat.le_of_ble_eq_true rfl) (lv := [(0, .ref (ad (136)))]) rfl ?_
  intro pp ee ss mm bb me co S hr hlk hK hw ls hl
  have hx := S.1
  have hb := S.2.1
  have hw : nn_W D cy ad A ss.heap (sM σ m) ss.heap [] := nn_W.eq (by rw [← hx_M]; rfl) hw
  unfold f_X7_undo at hf
  have L22 : ∀ (n : Nat) (m : nMd) (u1 : Int32) (K : nMd → Int32 → Option (Int32 × nMd)), (∀ (m : nMd) (u1 : Int32), K m u1 = some q → ∀ (H : Heap) (locs : List Loc) (ls : Array Slot), nn_W D cy ad A ss.heap (sM σ m) H locs → lv_has ls 2 [(0, .ref (ad (136))), (1, .int (u1))] → W pp l ee (nn_R 0) ss mm ([.ref (ad (136))] : List Value).toArray bb me co H locs 0 0 (MQ bb (nn_qi D cy ad A q.1 σ') ([.ref (ad (136))] : List Value).toArray ss 0 0 A) (F0 mm 54 ls [])) → f_X7_undo_L22 n m u1 K = some q → ∀ (H : Heap) (locs : List Loc) (ls : Array Slot), nn_W D cy ad A ss.heap (sM σ m) H locs → lv_has ls 2 [(0, .ref (ad (136))), (1, .int (u1))] → W pp l ee (nn_R 0) ss mm ([.ref (ad (136))] : List Value).toArray bb me co H locs 0 0 (MQ bb (nn_qi D cy ad A q.1 σ') ([.ref (ad (136))] : List Value).toArray ss 0 0 A) (F0 mm 22 ls []) := by
    intro n
    induction n with
    | zero => intro m u1 K hKK hf; exact absurd hf (by simp [f_X7_undo_L22])
    | succ n ih =>
      intro m u1 K hKK hf H locs ls hw hl
      rw [f_X7_undo_L22] at hf
      refine lv_iload_n hx hb dX7_undo_22 rfl (lv_at hl 1 rfl) ?_
      refine lv_bipush (v := 27) hx hb dX7_undo_23 (by decide) ?_
      refine lv_icmp_ge (tgt := 54) hx hb dX7_undo_25 (by decide) (fun c_2 => ?_) (fun c_2 => ?_)
      · rw [if_pos c_2] at hf
        exact hKK m u1 hf _ _ _ hw (lv_sub hl [0, 1] rfl)
      · rw [if_neg c_2] at hf
        refine lv_aload_n hx hb dX7_undo_28 rfl (lv_at hl 0 rfl) ?_
        refine gf_Md_now S hK hw tb_3_145 dX7_undo_29 ?_
        refine lv_iload_n hx hb dX7_undo_32 rfl (lv_at hl 1 rfl) ?_
        refine lv_aload_n hx hb dX7_undo_33 rfl (lv_at hl 0 rfl) ?_
        refine gf_Md_undone S hK hw tb_3_152 dX7_undo_34 ?_
        refine lv_bipush (v := 27) hx hb dX7_undo_37 (by decide) ?_
        refine lv_aload_n hx hb dX7_undo_39 rfl (lv_at hl 0 rfl) ?_
        refine gf_Md_undos S hK hw (x := m) rfl tb_3_153 dX7_undo_40 ?_
        refine lv_imul hx hb dX7_undo_43 ?_
        refine lv_iload_n hx hb dX7_undo_44 rfl (lv_at hl 1 rfl) ?_
        refine lv_iadd hx hb dX7_undo_45 ?_
        obtain ⟨g_3, hf⟩ := nn_ix_some hf
        refine al_Md_undone S hK hw (x := m) rfl g_3 dX7_undo_46 ?_
        obtain ⟨g_4, hf⟩ := nn_ix_some hf
        obtain ⟨m_5, h_6, hf⟩ := nn_bind hf
        replace h_6 := Option.some.inj h_6
        refine as_Md_now S hK hw (x := m) rfl g_4 (τ' := (sM σ m_5)) ((rfl : _ = (sM σ (s_Md_now m (upd (g_Md_now m) u1.toNatClampNeg ((g_Md_undone m) (((27 : Int32) * (g_Md_undos m)) + u1).toNatClampNeg))))).trans (by rw [h_6])) dX7_undo_47 (fun H locs hw => ?_)
        refine lv_iinc (v := u1 + (1 : Int32)) (lv' := [(1, .int (u1 + (1 : Int32))), (0, .ref (ad (136)))]) hx hb dX7_undo_48 hl (k := 1) rfl (congrArg (fun z => u1 + z) (by decide)) (by decide) rfl (fun ls hl => ?_)
        refine lv_goto (tgt := 22) hx hb dX7_undo_51 (by decide) ?_
        exact ih m_5 (u1 + (1 : Int32)) K hKK hf _ _ _ hw (lv_sub hl [1, 0] rfl)
  refine lv_aload_n hx hb dX7_undo_0 rfl (lv_at hl 0 rfl) ?_
  refine gf_Md_undos S hK hw (x := m) rfl tb_3_153 dX7_undo_1 ?_
  refine lv_if_ne (tgt := 10) hx hb dX7_undo_4 (by decide) (fun c_1 => ?_) (fun c_1 => ?_)
  · rw [if_neg c_1] at hf
    refine lv_aload_n hx hb dX7_undo_10 rfl (lv_at hl 0 rfl) ?_
    refine lv_dup hx hb dX7_undo_11 rfl ?_
    refine gf_Md_undos S hK hw (x := m) rfl tb_3_153 dX7_undo_12 ?_
    refine lv_iconst (v := 1) hx hb dX7_undo_15 (by decide) ?_
    refine lv_isub hx hb dX7_undo_16 ?_
    refine pf_Md_undos S hK hw (x := m) rfl (τ' := (sM σ (s_Md_undos m ((g_Md_undos m) - (1 : Int32))))) rfl tb_3_153 dX7_undo_17 (fun H locs hw => ?_)
    refine lv_iconst (v := 0) hx hb dX7_undo_20 (by decide) ?_
    refine lv_istore_n (lv' := [(1, .int ((0 : Int32))), (0, .ref (ad (136)))]) hx hb dX7_undo_21 rfl hl (by decide) rfl (fun ls hl => ?_)
    refine L22 100000 (s_Md_undos m ((g_Md_undos m) - (1 : Int32))) (0 : Int32) _ (fun m_8 b1_7 hf H locs ls hw hl => ?_) hf _ _ _ hw (lv_sub hl [1, 0] rfl)
    refine lv_aload_n hx hb dX7_undo_54 rfl (lv_at hl 0 rfl) ?_
    refine gf_Md_undos S hK hw (x := m_8) rfl tb_3_153 dX7_undo_55 ?_
    obtain rfl := Option.some.inj hf
    exact nn_iret S hr hlk hw rfl hσ dX7_undo_58
  · rw [if_pos c_1] at hf
    refine lv_bipush (v := -4) hx hb dX7_undo_7 (by decide) ?_
    obtain rfl := Option.some.inj hf
    exact nn_iret S hr hlk hw rfl hσ dX7_undo_9
set_option maxRecDepth 100000 in
set_option maxHeartbeats 4000000 in
theorem c_X7_seed (l : Launch) (D : va_G) (cy : Nat → ClassId) (ad : Nat → Nat) (A : Nat → Prop) (σ : nG) (m : nMd) (hx_M : gM σ = m) (a1 : Int32) (q : Int32 × nMd) (hf : f_X7_seed m a1 = some q) (σ' : nG) (hσ : (sM σ q.2) = σ') : nn_I l yX7_seed (nn_ws yX7_seed cX7_seed 3 (some .int)) (nn_R 0) D cy ad A [.ref (ad (136)), .int (a1)] σ q.1 σ' := by
  refine nn_enterI (plainFor_of_name (by decide +kernel)) (Nat.le_of_ble_eq_true rfl) (lv := [(0, .ref (ad (136))), (1, .int (a1))]) rfl ?_
  intro pp ee ss mm bb me co S hr hlk hK hw ls hl
  have hx := S.1
  have hb := S.2.1
  have hw : nn_W D cy ad A ss.heap (sM σ m) ss.heap [] := nn_W.eq (by rw [← hx_M]; rfl) hw
  unfold f_X7_seed at hf
  refine lv_iload_n hx hb dX7_seed_0 rfl (lv_at hl 1 rfl) ?_
  refine lv_if_ge (tgt := 6) hx hb dX7_seed_1 (by decide) (fun c_1 => ?_) (fun c_1 => ?_)
  · rw [if_pos c_1] at hf
    refine lv_aload_n hx hb dX7_seed_6 rfl (lv_at hl 0 rfl) ?_
    refine gf_Md_now S hK hw tb_3_145 dX7_seed_7 ?_
    refine lv_iconst (v := 2) hx hb dX7_seed_10 (by decide) ?_
    refine al_Md_now S hK hw (x := m) rfl (by decide) dX7_seed_11 ?_
    refine lv_istore_n (lv' := [(2, .int ((g_Md_now m) (2 : Int32).toNatClampNeg)), (0, .ref (ad (136))), (1, .int (a1))]) hx hb dX7_seed_12 rfl hl (by decide) rfl (fun ls hl => ?_)
    refine lv_aload_n hx hb dX7_seed_13 rfl (lv_at hl 1 rfl) ?_
    refine gf_Md_now S hK hw tb_3_145 dX7_seed_14 ?_
    refine lv_iconst (v := 2) hx hb dX7_seed_17 (by decide) ?_
    refine lv_iload_n hx hb dX7_seed_18 rfl (lv_at hl 2 rfl) ?_
    refine as_Md_now S hK hw (x := m) rfl (by decide) (τ' := (sM σ (s_Md_now m (upd (g_Md_now m) (2 : Int32).toNatClampNeg a1)))) rfl dX7_seed_19 (fun H locs hw => ?_)
    refine lv_iload_n hx hb dX7_seed_20 rfl (lv_at hl 0 rfl) ?_
    obtain rfl := Option.some.inj hf
    exact nn_iret S hr hlk hw rfl hσ dX7_seed_21
  · rw [if_neg c_1] at hf
    refine lv_iconst (v := -1) hx hb dX7_seed_4 (by decide) ?_
    obtain rfl := Option.some.inj hf
    exact nn_iret S hr hlk hw rfl hσ dX7_seed_5
set_option maxRecDepth 100000 in
set_option maxHeartbeats 4000000 in
theorem c_X7_asides (l : Launch) (D : va_G) (cy : Nat → ClassId) (ad : Nat → Nat) (A : Nat → Prop) (σ : nG) (m : nMd) (hx_M : gM σ = m) (q : nMd) (hf : f_X7_asides m = some q) (σ' : nG) (hσ : (sM σ q) = σ') : nn_V l yX7_asides (nn_ws yX7_asides cX7_asides 2 none) (nn_R 0) D cy ad A [.ref (ad (136))] σ σ' := by
  refine nn_enterV (plainFor_of_name (by decide +kernel)) (Nat.le_of_ble_eq_true rfl) (lv := [(0, .ref (ad (136)))]) rfl ?_
  intro pp ee ss mm bb me co S hr hlk hK hw ls hl
  have hx := S.1
  have hb := S.2.1
  have hw : nn_W D cy ad A ss.heap (sM σ m) ss.heap [] := nn_W.eq (by rw [← hx_M]; rfl) hw
  unfold f_X7_asides at hf
  have L2 : ∀ (n : Nat) (m : nMd) (u1 : Int32) (K : nMd → Int32 → Option (nMd)), (∀ (m : nMd) (u1 : Int32), K m u1 = some q → ∀ (H : Heap) (locs : List Loc) (ls : Array Slot), nn_W D cy ad A ss.heap (sM σ m) H locs → lv_has ls 2 [(0, .ref (ad (136))), (1, .int (u1))] → W pp l ee (nn_R 0) ss mm ([.ref (ad (136))] : List Value).toArray bb me co H locs 0 0 (MQ bb (nn_qv D cy ad A σ') ([.ref (ad (136))] : List Value).toArray ss 0 0 A) (F0 mm 26 ls [])) → f_X7_asides_L2 n m u1 K = some q → ∀ (H : Heap) (locs : List Loc) (ls : Array Slot), nn_W D cy ad A ss.heap (sM σ m) H locs → lv_has ls 2 [(0, .ref (ad (136))), (1, .int (u1))] → W pp l ee (nn_R 0) ss mm ([.ref (ad (136))] : List Value).toArray bb me co H locs 0 0 (MQ bb (nn_qv D cy ad A σ') ([.ref (ad (136))] : List Value).toArray ss 0 0 A) (F0 mm 2 ls []) := by
    intro n
    induction n with
    | zero => intro m u1 K hKK hf; exact absurd hf (by simp [f_X7_asides_L2])
    | succ n ih =>
      intro m u1 K hKK hf H locs ls hw hl
      rw [f_X7_asides_L2] at hf
      refine lv_iload_n hx hb dX7_asides_2 rfl (lv_at hl 1 rfl) ?_
      refine lv_bipush (v := 27) hx hb dX7_asides_3 (by decide) ?_
      refine lv_icmp_ge (tgt := 26) hx hb dX7_asides_5 (by decide) (fun c_1 => ?_) (fun c_1 => ?_)
      · rw [if_pos c_1] at hf
        exact hKK m u1 hf _ _ _ hw (lv_sub hl [0, 1] rfl)
      · rw [if_neg c_1] at hf
        refine lv_aload_n hx hb dX7_asides_8 rfl (lv_at hl 0 rfl) ?_
        refine gf_Md_aside S hK hw tb_3_154 dX7_asides_9 ?_
        refine lv_iload_n hx hb dX7_asides_12 rfl (lv_at hl 1 rfl) ?_
        refine lv_aload_n hx hb dX7_asides_13 rfl (lv_at hl 0 rfl) ?_
        refine gf_Md_now S hK hw tb_3_145 dX7_asides_14 ?_
        refine lv_iload_n hx hb dX7_asides_17 rfl (lv_at hl 1 rfl) ?_
        obtain ⟨g_2, hf⟩ := nn_ix_some hf
        refine al_Md_now S hK hw (x := m) rfl g_2 dX7_asides_18 ?_
        obtain ⟨g_3, hf⟩ := nn_ix_some hf
        obtain ⟨m_4, h_5, hf⟩ := nn_bind hf
        replace h_5 := Option.some.inj h_5
        refine as_Md_aside S hK hw (x := m) rfl g_3 (τ' := (sM σ m_4)) ((rfl : _ = (sM σ (s_Md_aside m (upd (g_Md_aside m) u1.toNatClampNeg ((g_Md_now m) u1.toNatClampNeg))))).trans (by rw [h_5])) dX7_asides_19 (fun H locs hw => ?_)
        refine lv_iinc (v := u1 + (1 : Int32)) (lv' := [(1, .int (u1 + (1 : Int32))), (0, .ref (ad (136)))]) hx hb dX7_asides_20 hl (k := 1) rfl (congrArg (fun z => u1 + z) (by decide)) (by decide) rfl (fun ls hl => ?_)
        refine lv_goto (tgt := 2) hx hb dX7_asides_23 (by decide) ?_
        exact ih m_4 (u1 + (1 : Int32)) K hKK hf _ _ _ hw (lv_sub hl [1, 0] rfl)
  refine lv_iconst (v := 0) hx hb dX7_asides_0 (by decide) ?_
  refine lv_istore_n (lv' := [(1, .int ((0 : Int32))), (0, .ref (ad (136)))]) hx hb dX7_asides_1 rfl hl (by decide) rfl (fun ls hl => ?_)
  refine L2 100000 m (0 : Int32) _ (fun m_7 b1_6 hf H locs ls hw hl => ?_) hf _ _ _ hw (lv_sub hl [1, 0] rfl)
  obtain rfl := Option.some.inj hf
  exact nn_vret S hr hlk hw hσ dX7_asides_26
set_option maxRecDepth 100000 in
set_option maxHeartbeats 4000000 in
theorem c_X7_backs (l : Launch) (D : va_G) (cy : Nat → ClassId) (ad : Nat → Nat) (A : Nat → Prop) (σ : nG) (m : nMd) (hx_M : gM σ = m) (q : nMd) (hf : f_X7_backs m = some q) (σ' : nG) (hσ : (sM σ q) = σ') : nn_V l yX7_backs (nn_ws yX7_backs cX7_backs 2 none) (nn_R 0) D cy ad A [.ref (ad (136))] σ σ' := by
  refine nn_enterV (plainFor_of_name (by decide +kernel)) (Nat.le_of_ble_eq_true rfl) (lv := [(0, .ref (ad (136)))]) rfl ?_
  intro pp ee ss mm bb me co S hr hlk hK hw ls hl
  have hx := S.1
  have hb := S.2.1
  have hw : nn_W D cy ad A ss.heap (sM σ m) ss.heap [] := nn_W.eq (by rw [← hx_M]; rfl) hw
  unfold f_X7_backs at hf
  have L2 : ∀ (n : Nat) (m : nMd) (u1 : Int32) (K : nMd → Int32 → Option (nMd)), (∀ (m : nMd) (u1 : Int32), K m u1 = some q → ∀ (H : Heap) (locs : List Loc) (ls : Array Slot), nn_W D cy ad A ss.heap (sM σ m) H locs → lv_has ls 2 [(0, .ref (ad (136))), (1, .int (u1))] → W pp l ee (nn_R 0) ss mm ([.ref (ad (136))] : List Value).toArray bb me co H locs 0 0 (MQ bb (nn_qv D cy ad A σ') ([.ref (ad (136))] : List Value).toArray ss 0 0 A) (F0 mm 26 ls [])) → f_X7_backs_L2 n m u1 K = some q → ∀ (H : Heap) (locs : List Loc) (ls : Array Slot), nn_W D cy ad A ss.heap (sM σ m) H locs → lv_has ls 2 [(0, .ref (ad (136))), (1, .int (u1))] → W pp l ee (nn_R 0) ss mm ([.ref (ad (136))] : List Value).toArray bb me co H locs 0 0 (MQ bb (nn_qv D cy ad A σ') ([.ref (ad (136))] : List Value).toArray ss 0 0 A) (F0 mm 2 ls []) := by
    intro n
    induction n with
    | zero => intro m u1 K hKK hf; exact absurd hf (by simp [f_X7_backs_L2])
    | succ n ih =>
      intro m u1 K hKK hf H locs ls hw hl
      rw [f_X7_backs_L2] at hf
      refine lv_iload_n hx hb dX7_backs_2 rfl (lv_at hl 1 rfl) ?_
      refine lv_bipush (v := 27) hx hb dX7_backs_3 (by decide) ?_
      refine lv_icmp_ge (tgt := 26) hx hb dX7_backs_5 (by decide) (fun c_1 => ?_) (fun c_1 => ?_)
      · rw [if_pos c_1] at hf
        exact hKK m u1 hf _ _ _ hw (lv_sub hl [0, 1] rfl)
      · rw [if_neg c_1] at hf
        refine lv_aload_n hx hb dX7_backs_8 rfl (lv_at hl 0 rfl) ?_
        refine gf_Md_now S hK hw tb_3_145 dX7_backs_9 ?_
        refine lv_iload_n hx hb dX7_backs_12 rfl (lv_at hl 1 rfl) ?_
        refine lv_aload_n hx hb dX7_backs_13 rfl (lv_at hl 0 rfl) ?_
        refine gf_Md_aside S hK hw tb_3_154 dX7_backs_14 ?_
        refine lv_iload_n hx hb dX7_backs_17 rfl (lv_at hl 1 rfl) ?_
        obtain ⟨g_2, hf⟩ := nn_ix_some hf
        refine al_Md_aside S hK hw (x := m) rfl g_2 dX7_backs_18 ?_
        obtain ⟨g_3, hf⟩ := nn_ix_some hf
        obtain ⟨m_4, h_5, hf⟩ := nn_bind hf
        replace h_5 := Option.some.inj h_5
        refine as_Md_now S hK hw (x := m) rfl g_3 (τ' := (sM σ m_4)) ((rfl : _ = (sM σ (s_Md_now m (upd (g_Md_now m) u1.toNatClampNeg ((g_Md_aside m) u1.toNatClampNeg))))).trans (by rw [h_5])) dX7_backs_19 (fun H locs hw => ?_)
        refine lv_iinc (v := u1 + (1 : Int32)) (lv' := [(1, .int (u1 + (1 : Int32))), (0, .ref (ad (136)))]) hx hb dX7_backs_20 hl (k := 1) rfl (congrArg (fun z => u1 + z) (by decide)) (by decide) rfl (fun ls hl => ?_)
        refine lv_goto (tgt := 2) hx hb dX7_backs_23 (by decide) ?_
        exact ih m_4 (u1 + (1 : Int32)) K hKK hf _ _ _ hw (lv_sub hl [1, 0] rfl)
  refine lv_iconst (v := 0) hx hb dX7_backs_0 (by decide) ?_
  refine lv_istore_n (lv' := [(1, .int ((0 : Int32))), (0, .ref (ad (136)))]) hx hb dX7_backs_1 rfl hl (by decide) rfl (fun ls hl => ?_)
  refine L2 100000 m (0 : Int32) _ (fun m_7 b1_6 hf H locs ls hw hl => ?_) hf _ _ _ hw (lv_sub hl [1, 0] rfl)
  obtain rfl := Option.some.inj hf
  exact nn_vret S hr hlk hw hσ dX7_backs_26
set_option maxRecDepth 100000 in
set_option maxHeartbeats 4000000 in
theorem c_X7_ahead (l : Launch) (D : va_G) (cy : Nat → ClassId) (ad : Nat → Nat) (A : Nat → Prop) (σ : nG) (m : nMd) (hx_M : gM σ = m) (a1 : Int32) (a2 : Int32) (q : Int32 × nMd) (hf : f_X7_ahead m a1 a2 = some q) (σ' : nG) (hσ : (sM σ q.2) = σ') : nn_I l yX7_ahead (nn_ws yX7_ahead cX7_ahead 4 (some .int)) (nn_R 6) D cy ad A [.ref (ad (136)), .int (a1), .int (a2)] σ q.1 σ' := by
  refine nn_enterI (plainFor_of_name (by decide +kernel)) (Nat.le_of_ble_eq_true rfl) (lv := [(0, .ref (ad (136))), (1, .int (a1)), (2, .int (a2))]) rfl ?_
  intro pp ee ss mm bb me co S hr hlk hK hw ls hl
  have hx := S.1
  have hb := S.2.1
  have hw : nn_W D cy ad A ss.heap (sM σ m) ss.heap [] := nn_W.eq (by rw [← hx_M]; rfl) hw
  unfold f_X7_ahead at hf
  refine lv_aload_n hx hb dX7_ahead_0 rfl (lv_at hl 0 rfl) ?_
  refine lv_iload_n hx hb dX7_ahead_1 rfl (lv_at hl 1 rfl) ?_
  obtain ⟨q_1, h_2, hf⟩ := nn_bind hf
  refine nn_calliV S (As := [.int (a1)]) (rest := []) (ce_M (k := 0)) (by decide) rfl rfl (c_X7_isVillage l D cy ad A (sM σ m) m rfl a1 q_1 h_2) mv_X7_isVillage tb_3_232 hK hw ⟨Nat.le_of_ble_eq_true rfl, Nat.le_of_ble_eq_true rfl⟩ ⟨Nat.zero_le _, Nat.zero_le _⟩ rfl hl.1 rfl (Nat.le_of_ble_eq_true rfl) dX7_ahead_2 (fun H locs hw => ?_)
  refine lv_if_eq (tgt := 20) hx hb dX7_ahead_5 (by decide) (fun c_3 => ?_) (fun c_3 => ?_)
  · rw [if_pos c_3] at hf
    refine lv_iconst (v := -1) hx hb dX7_ahead_20 (by decide) ?_
    obtain rfl := Option.some.inj hf
    exact nn_iret S hr hlk hw rfl hσ dX7_ahead_21
  · rw [if_neg c_3] at hf
    refine lv_iload_n hx hb dX7_ahead_8 rfl (lv_at hl 2 rfl) ?_
    refine lv_i2l (v := a2.toInt64) hx hb dX7_ahead_9 rfl ?_
    refine lv_lconst (v := 0) hx hb dX7_ahead_10 (by decide) ?_
    refine lv_ldc2 (v := 60) hx hb S.2.2.2.1 (S.2.2.2.2 _ tb_4_128) dX7_ahead_11 ?_
    obtain ⟨q_4, h_5, hf⟩ := nn_bind hf
    refine nn_calliS S (As := [.long (a2.toInt64), .long ((0 : Int64)), .long ((60 : Int64))]) (rest := []) (c_X7_in l D cy ad A (sM σ m) a2.toInt64 (0 : Int64) (60 : Int64) q_4 h_5) mv_X7_in tb_3_214 hK hw ⟨Nat.le_of_ble_eq_true rfl, Nat.le_of_ble_eq_true rfl⟩ ⟨Nat.zero_le _, Nat.zero_le _⟩ rfl hl.1 rfl (Nat.le_of_ble_eq_true rfl) dX7_ahead_14 (fun H locs hw => ?_)
    refine lv_if_ne (tgt := 22) hx hb dX7_ahead_17 (by decide) (fun c_6 => ?_) (fun c_6 => ?_)
    · rw [if_neg c_6] at hf
      refine lv_aload_n hx hb dX7_ahead_22 rfl (lv_at hl 0 rfl) ?_
      obtain ⟨q_7, h_8, hf⟩ := nn_bind hf
      refine nn_callvV S (As := []) (rest := []) (ce_M (k := 0)) (by decide) rfl rfl (c_X7_asides l D cy ad A (sM σ m) m rfl q_7 h_8 (sM σ q_7) rfl) mv_X7_asides tb_4_129 hK hw ⟨Nat.le_of_ble_eq_true rfl, Nat.le_of_ble_eq_true rfl⟩ ⟨Nat.zero_le _, Nat.zero_le _⟩ rfl hl.1 rfl (Nat.le_of_ble_eq_true rfl) dX7_ahead_23 (fun H locs hw => ?_)
      refine lv_aload_n hx hb dX7_ahead_26 rfl (lv_at hl 0 rfl) ?_
      refine lv_iload_n hx hb dX7_ahead_27 rfl (lv_at hl 2 rfl) ?_
      obtain ⟨q_9, h_10, hf⟩ := nn_bind hf
      refine nn_callvV S (As := [.int (a2)]) (rest := []) (ce_M (k := 0)) (by decide) rfl rfl (c_X7_goesOn l D cy ad A (sM σ q_7) q_7 rfl a2 q_9 h_10 (sM σ q_9) rfl) mv_X7_goesOn tb_4_133 hK hw ⟨Nat.le_of_ble_eq_true rfl, Nat.le_of_ble_eq_true rfl⟩ ⟨Nat.zero_le _, Nat.zero_le _⟩ rfl hl.1 rfl (Nat.le_of_ble_eq_true rfl) dX7_ahead_28 (fun H locs hw => ?_)
      refine lv_aload_n hx hb dX7_ahead_31 rfl (lv_at hl 0 rfl) ?_
      refine lv_iload_n hx hb dX7_ahead_32 rfl (lv_at hl 1 rfl) ?_
      obtain ⟨q_11, h_12, hf⟩ := nn_bind hf
      refine nn_calliV S (As := [.int (a1)]) (rest := []) (ce_M (k := 0)) (by decide) rfl rfl (c_X7_minuteOf l D cy ad A (sM σ q_9) q_9 rfl a1 q_11 h_12) mv_X7_minuteOf tb_4_8 hK hw ⟨Nat.le_of_ble_eq_true rfl, Nat.le_of_ble_eq_true rfl⟩ ⟨Nat.zero_le _, Nat.zero_le _⟩ rfl hl.1 rfl (Nat.le_of_ble_eq_true rfl) dX7_ahead_33 (fun H locs hw => ?_)
      refine lv_istore_n (lv' := [(3, .int (q_11)), (0, .ref (ad (136))), (1, .int (a1)), (2, .int (a2))]) hx hb dX7_ahead_36 rfl hl (by decide) rfl (fun ls hl => ?_)
      refine lv_aload_n hx hb dX7_ahead_37 rfl (lv_at hl 1 rfl) ?_
      obtain ⟨q_13, h_14, hf⟩ := nn_bind hf
      refine nn_callvV S (As := []) (rest := []) (ce_M (k := 0)) (by decide) rfl rfl (c_X7_backs l D cy ad A (sM σ q_9) q_9 rfl q_13 h_14 (sM σ q_13) rfl) mv_X7_backs tb_4_137 hK hw ⟨Nat.le_of_ble_eq_true rfl, Nat.le_of_ble_eq_true rfl⟩ ⟨Nat.zero_le _, Nat.zero_le _⟩ rfl hl.1 rfl (Nat.le_of_ble_eq_true rfl) dX7_ahead_38 (fun H locs hw => ?_)
      refine lv_iload_n hx hb dX7_ahead_41 rfl (lv_at hl 0 rfl) ?_
      obtain rfl := Option.some.inj hf
      exact nn_iret S hr hlk hw rfl hσ dX7_ahead_42
    · rw [if_pos c_6] at hf
      refine lv_iconst (v := -1) hx hb dX7_ahead_20 (by decide) ?_
      obtain rfl := Option.some.inj hf
      exact nn_iret S hr hlk hw rfl hσ dX7_ahead_21
set_option maxRecDepth 100000 in
set_option maxHeartbeats 4000000 in
theorem c_X7_near (l : Launch) (D : va_G) (cy : Nat → ClassId) (ad : Nat → Nat) (A : Nat → Prop) (σ : nG) (m : nMd) (hx_M : gM σ = m) (a1 : Int32) (q : Int32 × nMd) (hf : f_X7_near m a1 = some q) (σ' : nG) (hσ : (sM σ q.2) = σ') : nn_I l yX7_near (nn_ws yX7_near cX7_near 3 (some .int)) (nn_R 6) D cy ad A [.ref (ad (136)), .int (a1)] σ q.1 σ' := by
  refine nn_enterI (plainFor_of_name (by decide +kernel)) (Nat.le_of_ble_eq_true rfl) (lv := [(0, .ref (ad (136))), (1, .int (a1))]) rfl ?_
  intro pp ee ss mm bb me co S hr hlk hK hw ls hl
  have hx := S.1
  have hb := S.2.1
  have hw : nn_W D cy ad A ss.heap (sM σ m) ss.heap [] := nn_W.eq (by rw [← hx_M]; rfl) hw
  unfold f_X7_near at hf
  refine lv_iload_n hx hb dX7_near_0 rfl (lv_at hl 1 rfl) ?_
  refine lv_i2l (v := a1.toInt64) hx hb dX7_near_1 rfl ?_
  refine lv_lconst (v := 0) hx hb dX7_near_2 (by decide) ?_
  refine lv_ldc2 (v := 60) hx hb S.2.2.2.1 (S.2.2.2.2 _ tb_4_128) dX7_near_3 ?_
  obtain ⟨q_1, h_2, hf⟩ := nn_bind hf
  refine nn_calliS S (As := [.long (a1.toInt64), .long ((0 : Int64)), .long ((60 : Int64))]) (rest := []) (c_X7_in l D cy ad A (sM σ m) a1.toInt64 (0 : Int64) (60 : Int64) q_1 h_2) mv_X7_in tb_3_214 hK hw ⟨Nat.le_of_ble_eq_true rfl, Nat.le_of_ble_eq_true rfl⟩ ⟨Nat.zero_le _, Nat.zero_le _⟩ rfl hl.1 rfl (Nat.le_of_ble_eq_true rfl) dX7_near_6 (fun H locs hw => ?_)
  refine lv_if_ne (tgt := 14) hx hb dX7_near_9 (by decide) (fun c_3 => ?_) (fun c_3 => ?_)
  · rw [if_neg c_3] at hf
    refine lv_aload_n hx hb dX7_near_14 rfl (lv_at hl 0 rfl) ?_
    obtain ⟨q_4, h_5, hf⟩ := nn_bind hf
    refine nn_callvV S (As := []) (rest := []) (ce_M (k := 0)) (by decide) rfl rfl (c_X7_asides l D cy ad A (sM σ m) m rfl q_4 h_5 (sM σ q_4) rfl) mv_X7_asides tb_4_129 hK hw ⟨Nat.le_of_ble_eq_true rfl, Nat.le_of_ble_eq_true rfl⟩ ⟨Nat.zero_le _, Nat.zero_le _⟩ rfl hl.1 rfl (Nat.le_of_ble_eq_true rfl) dX7_near_15 (fun H locs hw => ?_)
    refine lv_aload_n hx hb dX7_near_18 rfl (lv_at hl 0 rfl) ?_
    refine lv_iload_n hx hb dX7_near_19 rfl (lv_at hl 1 rfl) ?_
    obtain ⟨q_6, h_7, hf⟩ := nn_bind hf
    refine nn_callvV S (As := [.int (a1)]) (rest := []) (ce_M (k := 0)) (by decide) rfl rfl (c_X7_goesOn l D cy ad A (sM σ q_4) q_4 rfl a1 q_6 h_7 (sM σ q_6) rfl) mv_X7_goesOn tb_4_133 hK hw ⟨Nat.le_of_ble_eq_true rfl, Nat.le_of_ble_eq_true rfl⟩ ⟨Nat.zero_le _, Nat.zero_le _⟩ rfl hl.1 rfl (Nat.le_of_ble_eq_true rfl) dX7_near_20 (fun H locs hw => ?_)
    refine lv_aload_n hx hb dX7_near_23 rfl (lv_at hl 0 rfl) ?_
    obtain ⟨q_8, h_9, hf⟩ := nn_bind hf
    refine nn_calliV S (As := []) (rest := []) (ce_M (k := 0)) (by decide) rfl rfl (c_X7_leastGap l D cy ad A (sM σ q_6) q_6 rfl q_8 h_9) mv_X7_leastGap tb_4_38 hK hw ⟨Nat.le_of_ble_eq_true rfl, Nat.le_of_ble_eq_true rfl⟩ ⟨Nat.zero_le _, Nat.zero_le _⟩ rfl hl.1 rfl (Nat.le_of_ble_eq_true rfl) dX7_near_24 (fun H locs hw => ?_)
    refine lv_istore_n (lv' := [(2, .int (q_8)), (0, .ref (ad (136))), (1, .int (a1))]) hx hb dX7_near_27 rfl hl (by decide) rfl (fun ls hl => ?_)
    refine lv_aload_n hx hb dX7_near_28 rfl (lv_at hl 1 rfl) ?_
    obtain ⟨q_10, h_11, hf⟩ := nn_bind hf
    refine nn_callvV S (As := []) (rest := []) (ce_M (k := 0)) (by decide) rfl rfl (c_X7_backs l D cy ad A (sM σ q_6) q_6 rfl q_10 h_11 (sM σ q_10) rfl) mv_X7_backs tb_4_137 hK hw ⟨Nat.le_of_ble_eq_true rfl, Nat.le_of_ble_eq_true rfl⟩ ⟨Nat.zero_le _, Nat.zero_le _⟩ rfl hl.1 rfl (Nat.le_of_ble_eq_true rfl) dX7_near_29 (fun H locs hw => ?_)
    refine lv_iload_n hx hb dX7_near_32 rfl (lv_at hl 0 rfl) ?_
    obtain rfl := Option.some.inj hf
    exact nn_iret S hr hlk hw rfl hσ dX7_near_33
  · rw [if_pos c_3] at hf
    refine lv_iconst (v := -1) hx hb dX7_near_12 (by decide) ?_
    obtain rfl := Option.some.inj hf
    exact nn_iret S hr hlk hw rfl hσ dX7_near_13
set_option maxRecDepth 100000 in
set_option maxHeartbeats 4000000 in
theorem c_X7_meet (l : Launch) (D : va_G) (cy : Nat → ClassId) (ad : Nat → Nat) (A : Nat → Prop) (σ : nG) (m : nMd) (hx_M : gM σ = m) (a1 : Int32) (a2 : Int32) (q : Int32 × nMd) (hf : f_X7_meet m a1 a2 = some q) (σ' : nG) (hσ : (sM σ q.2) = σ') : nn_I l yX7_meet (nn_ws yX7_meet cX7_meet 4 (some .int)) (nn_R 5) D cy ad A [.ref (ad (136)), .int (a1), .int (a2)] σ q.1 σ' := by
  refine nn_enterI (plainFor_of_name (by decide +kernel)) (Nat.le_of_ble_eq_true rfl) (lv := [(0, .ref (ad (136))), (1, .int (a1)), (2, .int (a2))]) rfl ?_
  intro pp ee ss mm bb me co S hr hlk hK hw ls hl
  have hx := S.1
  have hb := S.2.1
  have hw : nn_W D cy ad A ss.heap (sM σ m) ss.heap [] := nn_W.eq (by rw [← hx_M]; rfl) hw
  unfold f_X7_meet at hf
  have L17 : ∀ (n : Nat) (m : nMd) (u1 : Int32) (u2 : Int32) (u3 : Int32) (K : nMd → Int32 → Int32 → Int32 → Option (Int32 × nMd)), (∀ (m : nMd) (u1 : Int32) (u2 : Int32) (u3 : Int32), K m u1 u2 u3 = some q → ∀ (H : Heap) (locs : List Loc) (ls : Array Slot), nn_W D cy ad A ss.heap (sM σ m) H locs → lv_has ls 4 [(0, .ref (ad (136))), (1, .int (u1)), (2, .int (u2)), (3, .int (u3))] → W pp l ee (nn_R 5) ss mm ([.ref (ad (136)), .int (a1), .int (a2)] : List Value).toArray bb me co H locs 0 0 (MQ bb (nn_qi D cy ad A q.1 σ') ([.ref (ad (136)), .int (a1), .int (a2)] : List Value).toArray ss 0 0 A) (F0 mm 46 ls [])) → f_X7_meet_L17 n m u1 u2 u3 K = some q → ∀ (H : Heap) (locs : List Loc) (ls : Array Slot), nn_W D cy ad A ss.heap (sM σ m) H locs → lv_has ls 4 [(0, .ref (ad (136))), (1, .int (u1)), (2, .int (u2)), (3, .int (u3))] → W pp l ee (nn_R 5) ss mm ([.ref (ad (136)), .int (a1), .int (a2)] : List Value).toArray bb me co H locs 0 0 (MQ bb (nn_qi D cy ad A q.1 σ') ([.ref (ad (136)), .int (a1), .int (a2)] : List Value).toArray ss 0 0 A) (F0 mm 17 ls []) := by
    intro n
    induction n with
    | zero => intro m u1 u2 u3 K hKK hf; exact absurd hf (by simp [f_X7_meet_L17])
    | succ n ih =>
      intro m u1 u2 u3 K hKK hf H locs ls hw hl
      rw [f_X7_meet_L17] at hf
      refine lv_iload_n hx hb dX7_meet_17 rfl (lv_at hl 3 rfl) ?_
      refine lv_bipush (v := 61) hx hb dX7_meet_18 (by decide) ?_
      refine lv_icmp_ge (tgt := 46) hx hb dX7_meet_20 (by decide) (fun c_6 => ?_) (fun c_6 => ?_)
      · rw [if_pos c_6] at hf
        exact hKK m u1 u2 u3 hf _ _ _ hw (lv_sub hl [0, 1, 2, 3] rfl)
      · rw [if_neg c_6] at hf
        refine lv_aload_n hx hb dX7_meet_23 rfl (lv_at hl 0 rfl) ?_
        refine lv_iload_n hx hb dX7_meet_24 rfl (lv_at hl 1 rfl) ?_
        obtain ⟨q_7, h_8, hf⟩ := nn_bind hf
        refine nn_calliV S (As := [.int (u1)]) (rest := []) (ce_M (k := 0)) (by decide) rfl rfl (c_X7_minuteOf l D cy ad A (sM σ m) m rfl u1 q_7 h_8) mv_X7_minuteOf tb_4_8 hK hw ⟨Nat.le_of_ble_eq_true rfl, Nat.le_of_ble_eq_true rfl⟩ ⟨Nat.zero_le _, Nat.zero_le _⟩ rfl hl.1 rfl (Nat.le_of_ble_eq_true rfl) dX7_meet_25 (fun H locs hw => ?_)
        refine lv_aload_n hx hb dX7_meet_28 rfl (lv_at hl 0 rfl) ?_
        refine lv_iload_n hx hb dX7_meet_29 rfl (lv_at hl 2 rfl) ?_
        obtain ⟨q_9, h_10, hf⟩ := nn_bind hf
        refine nn_calliV S (As := [.int (u2)]) (rest := [.int (q_7)]) (ce_M (k := 0)) (by decide) rfl rfl (c_X7_minuteOf l D cy ad A (sM σ m) m rfl u2 q_9 h_10) mv_X7_minuteOf tb_4_8 hK hw ⟨Nat.le_of_ble_eq_true rfl, Nat.le_of_ble_eq_true rfl⟩ ⟨Nat.zero_le _, Nat.zero_le _⟩ rfl hl.1 rfl (Nat.le_of_ble_eq_true rfl) dX7_meet_30 (fun H locs hw => ?_)
        refine lv_icmp_eq (tgt := 46) hx hb dX7_meet_33 (by decide) (fun c_11 => ?_) (fun c_11 => ?_)
        · rw [if_pos c_11] at hf
          exact hKK m u1 u2 u3 hf _ _ _ hw (lv_sub hl [0, 1, 2, 3] rfl)
        · rw [if_neg c_11] at hf
          refine lv_aload_n hx hb dX7_meet_36 rfl (lv_at hl 0 rfl) ?_
          obtain ⟨q_12, h_13, hf⟩ := nn_bind hf
          refine nn_callvV S (As := []) (rest := []) (ce_M (k := 0)) (by decide) rfl rfl (c_X7_goesBy l D cy ad A (sM σ m) m rfl q_12 h_13 (sM σ q_12) rfl) mv_X7_goesBy tb_4_87 hK hw ⟨Nat.le_of_ble_eq_true rfl, Nat.le_of_ble_eq_true rfl⟩ ⟨Nat.zero_le _, Nat.zero_le _⟩ rfl hl.1 rfl (Nat.le_of_ble_eq_true rfl) dX7_meet_37 (fun H locs hw => ?_)
          refine lv_iinc (v := u3 + (1 : Int32)) (lv' := [(3, .int (u3 + (1 : Int32))), (0, .ref (ad (136))), (1, .int (u1)), (2, .int (u2))]) hx hb dX7_meet_40 hl (k := 3) rfl (congrArg (fun z => u3 + z) (by decide)) (by decide) rfl (fun ls hl => ?_)
          refine lv_goto (tgt := 17) hx hb dX7_meet_43 (by decide) ?_
          exact ih q_12 u1 u2 (u3 + (1 : Int32)) K hKK hf _ _ _ hw (lv_sub hl [1, 2, 3, 0] rfl)
  refine lv_aload_n hx hb dX7_meet_0 rfl (lv_at hl 0 rfl) ?_
  refine lv_iload_n hx hb dX7_meet_1 rfl (lv_at hl 1 rfl) ?_
  refine lv_iload_n hx hb dX7_meet_2 rfl (lv_at hl 2 rfl) ?_
  obtain ⟨q_1, h_2, hf⟩ := nn_bind hf
  refine nn_calliV S (As := [.int (a1), .int (a2)]) (rest := []) (ce_M (k := 0)) (by decide) rfl rfl (c_X7_areTwo l D cy ad A (sM σ m) m rfl a1 a2 q_1 h_2) mv_X7_areTwo tb_4_30 hK hw ⟨Nat.le_of_ble_eq_true rfl, Nat.le_of_ble_eq_true rfl⟩ ⟨Nat.zero_le _, Nat.zero_le _⟩ rfl hl.1 rfl (Nat.le_of_ble_eq_true rfl) dX7_meet_3 (fun H locs hw => ?_)
  refine lv_if_ne (tgt := 11) hx hb dX7_meet_6 (by decide) (fun c_3 => ?_) (fun c_3 => ?_)
  · rw [if_neg c_3] at hf
    refine lv_aload_n hx hb dX7_meet_11 rfl (lv_at hl 0 rfl) ?_
    obtain ⟨q_4, h_5, hf⟩ := nn_bind hf
    refine nn_callvV S (As := []) (rest := []) (ce_M (k := 0)) (by decide) rfl rfl (c_X7_asides l D cy ad A (sM σ m) m rfl q_4 h_5 (sM σ q_4) rfl) mv_X7_asides tb_4_129 hK hw ⟨Nat.le_of_ble_eq_true rfl, Nat.le_of_ble_eq_true rfl⟩ ⟨Nat.zero_le _, Nat.zero_le _⟩ rfl hl.1 rfl (Nat.le_of_ble_eq_true rfl) dX7_meet_12 (fun H locs hw => ?_)
    refine lv_iconst (v := 0) hx hb dX7_meet_15 (by decide) ?_
    refine lv_istore_n (lv' := [(3, .int ((0 : Int32))), (0, .ref (ad (136))), (1, .int (a1)), (2, .int (a2))]) hx hb dX7_meet_16 rfl hl (by decide) rfl (fun ls hl => ?_)
    refine L17 100000 q_4 a1 a2 (0 : Int32) _ (fun m_17 b1_14 b2_15 b3_16 hf H locs ls hw hl => ?_) hf _ _ _ hw (lv_sub hl [1, 2, 3, 0] rfl)
    refine lv_aload_n hx hb dX7_meet_46 rfl (lv_at hl 0 rfl) ?_
    obtain ⟨q_18, h_19, hf⟩ := nn_bind hf
    refine nn_callvV S (As := []) (rest := []) (ce_M (k := 0)) (by decide) rfl rfl (c_X7_backs l D cy ad A (sM σ m_17) m_17 rfl q_18 h_19 (sM σ q_18) rfl) mv_X7_backs tb_4_137 hK hw ⟨Nat.le_of_ble_eq_true rfl, Nat.le_of_ble_eq_true rfl⟩ ⟨Nat.zero_le _, Nat.zero_le _⟩ rfl hl.1 rfl (Nat.le_of_ble_eq_true rfl) dX7_meet_47 (fun H locs hw => ?_)
    refine lv_iload_n hx hb dX7_meet_50 rfl (lv_at hl 3 rfl) ?_
    refine lv_bipush (v := 61) hx hb dX7_meet_51 (by decide) ?_
    refine lv_icmp_ge (tgt := 60) hx hb dX7_meet_53 (by decide) (fun c_20 => ?_) (fun c_20 => ?_)
    · rw [if_pos c_20] at hf
      refine lv_bipush (v := -4) hx hb dX7_meet_60 (by decide) ?_
      obtain rfl := Option.some.inj hf
      exact nn_iret S hr hlk hw rfl hσ dX7_meet_62
    · rw [if_neg c_20] at hf
      refine lv_iload_n hx hb dX7_meet_56 rfl (lv_at hl 3 rfl) ?_
      refine lv_goto (tgt := 62) hx hb dX7_meet_57 (by decide) ?_
      obtain rfl := Option.some.inj hf
      exact nn_iret S hr hlk hw rfl hσ dX7_meet_62
  · rw [if_pos c_3] at hf
    refine lv_iconst (v := -1) hx hb dX7_meet_9 (by decide) ?_
    obtain rfl := Option.some.inj hf
    exact nn_iret S hr hlk hw rfl hσ dX7_meet_10
set_option maxRecDepth 100000 in
set_option maxHeartbeats 4000000 in
theorem c_X7_whenTogether (l : Launch) (D : va_G) (cy : Nat → ClassId) (ad : Nat → Nat) (A : Nat → Prop) (σ : nG) (m : nMd) (hx_M : gM σ = m) (q : Int32 × nMd) (hf : f_X7_whenTogether m = some q) (σ' : nG) (hσ : (sM σ q.2) = σ') : nn_I l yX7_whenTogether (nn_ws yX7_whenTogether cX7_whenTogether 2 (some .int)) (nn_R 5) D cy ad A [.ref (ad (136))] σ q.1 σ' := by
  refine nn_enterI (plainFor_of_name (by decide +kernel)) (Nat.le_of_ble_eq_true rfl) (lv := [(0, .ref (ad (136)))]) rfl ?_
  intro pp ee ss mm bb me co S hr hlk hK hw ls hl
  have hx := S.1
  have hb := S.2.1
  have hw : nn_W D cy ad A ss.heap (sM σ m) ss.heap [] := nn_W.eq (by rw [← hx_M]; rfl) hw
  unfold f_X7_whenTogether at hf
  have L2 : ∀ (n : Nat) (m : nMd) (u1 : Int32) (K : nMd → Int32 → Option (Int32 × nMd)), (∀ (m : nMd) (u1 : Int32), K m u1 = some q → ∀ (H : Heap) (locs : List Loc) (ls : Array Slot), nn_W D cy ad A ss.heap (sM σ m) H locs → lv_has ls 2 [(0, .ref (ad (136))), (1, .int (u1))] → W pp l ee (nn_R 5) ss mm ([.ref (ad (136))] : List Value).toArray bb me co H locs 0 0 (MQ bb (nn_qi D cy ad A q.1 σ') ([.ref (ad (136))] : List Value).toArray ss 0 0 A) (F0 mm 25 ls [])) → f_X7_whenTogether_L2 n m u1 K = some q → ∀ (H : Heap) (locs : List Loc) (ls : Array Slot), nn_W D cy ad A ss.heap (sM σ m) H locs → lv_has ls 2 [(0, .ref (ad (136))), (1, .int (u1))] → W pp l ee (nn_R 5) ss mm ([.ref (ad (136))] : List Value).toArray bb me co H locs 0 0 (MQ bb (nn_qi D cy ad A q.1 σ') ([.ref (ad (136))] : List Value).toArray ss 0 0 A) (F0 mm 2 ls []) := by
    intro n
    induction n with
    | zero => intro m u1 K hKK hf; exact absurd hf (by simp [f_X7_whenTogether_L2])
    | succ n ih =>
      intro m u1 K hKK hf H locs ls hw hl
      rw [f_X7_whenTogether_L2] at hf
      refine lv_iload_n hx hb dX7_whenTogether_2 rfl (lv_at hl 1 rfl) ?_
      refine lv_bipush (v := 61) hx hb dX7_whenTogether_3 (by decide) ?_
      refine lv_icmp_ge (tgt := 25) hx hb dX7_whenTogether_5 (by decide) (fun c_1 => ?_) (fun c_1 => ?_)
      · rw [if_pos c_1] at hf
        exact hKK m u1 hf _ _ _ hw (lv_sub hl [0, 1] rfl)
      · rw [if_neg c_1] at hf
        refine lv_aload_n hx hb dX7_whenTogether_8 rfl (lv_at hl 0 rfl) ?_
        obtain ⟨q_2, h_3, hf⟩ := nn_bind hf
        refine nn_calliV S (As := []) (rest := []) (ce_M (k := 0)) (by decide) rfl rfl (c_X7_allAlike l D cy ad A (sM σ m) m rfl q_2 h_3) mv_X7_allAlike tb_4_42 hK hw ⟨Nat.le_of_ble_eq_true rfl, Nat.le_of_ble_eq_true rfl⟩ ⟨Nat.zero_le _, Nat.zero_le _⟩ rfl hl.1 rfl (Nat.le_of_ble_eq_true rfl) dX7_whenTogether_9 (fun H locs hw => ?_)
        refine lv_if_ne (tgt := 25) hx hb dX7_whenTogether_12 (by decide) (fun c_4 => ?_) (fun c_4 => ?_)
        · rw [if_neg c_4] at hf
          exact hKK m u1 hf _ _ _ hw (lv_sub hl [0, 1] rfl)
        · rw [if_pos c_4] at hf
          refine lv_aload_n hx hb dX7_whenTogether_15 rfl (lv_at hl 0 rfl) ?_
          obtain ⟨q_5, h_6, hf⟩ := nn_bind hf
          refine nn_callvV S (As := []) (rest := []) (ce_M (k := 0)) (by decide) rfl rfl (c_X7_goesBy l D cy ad A (sM σ m) m rfl q_5 h_6 (sM σ q_5) rfl) mv_X7_goesBy tb_4_87 hK hw ⟨Nat.le_of_ble_eq_true rfl, Nat.le_of_ble_eq_true rfl⟩ ⟨Nat.zero_le _, Nat.zero_le _⟩ rfl hl.1 rfl (Nat.le_of_ble_eq_true rfl) dX7_whenTogether_16 (fun H locs hw => ?_)
          refine lv_iinc (v := u1 + (1 : Int32)) (lv' := [(1, .int (u1 + (1 : Int32))), (0, .ref (ad (136)))]) hx hb dX7_whenTogether_19 hl (k := 1) rfl (congrArg (fun z => u1 + z) (by decide)) (by decide) rfl (fun ls hl => ?_)
          refine lv_goto (tgt := 2) hx hb dX7_whenTogether_22 (by decide) ?_
          exact ih q_5 (u1 + (1 : Int32)) K hKK hf _ _ _ hw (lv_sub hl [1, 0] rfl)
  have J40 : ∀ (m : nMd) (u1 : Int32) (s0 : Int32), f_X7_whenTogether_J40 m u1 s0 = some q → ∀ (H : Heap) (locs : List Loc) (ls : Array Slot), nn_W D cy ad A ss.heap (sM σ m) H locs → lv_has ls 2 [(0, .ref (ad (136))), (1, .int (u1))] → W pp l ee (nn_R 5) ss mm ([.ref (ad (136))] : List Value).toArray bb me co H locs 0 0 (MQ bb (nn_qi D cy ad A q.1 σ') ([.ref (ad (136))] : List Value).toArray ss 0 0 A) (F0 mm 40 ls [.int (s0), .ref (ad (136))]) := by
    intro m u1 s0 hf H locs ls hw hl
    unfold f_X7_whenTogether_J40 at hf
    refine pf_Md_together S hK hw (x := m) rfl (τ' := (sM σ (s_Md_together m s0))) rfl tb_3_155 dX7_whenTogether_40 (fun H locs hw => ?_)
    refine lv_aload_n hx hb dX7_whenTogether_43 rfl (lv_at hl 0 rfl) ?_
    obtain ⟨q_10, h_11, hf⟩ := nn_bind hf
    refine nn_callvV S (As := []) (rest := []) (ce_M (k := 0)) (by decide) rfl rfl (c_X7_backs l D cy ad A (sM σ (s_Md_together m s0)) (s_Md_together m s0) rfl q_10 h_11 (sM σ q_10) rfl) mv_X7_backs tb_4_137 hK hw ⟨Nat.le_of_ble_eq_true rfl, Nat.le_of_ble_eq_true rfl⟩ ⟨Nat.zero_le _, Nat.zero_le _⟩ rfl hl.1 rfl (Nat.le_of_ble_eq_true rfl) dX7_whenTogether_44 (fun H locs hw => ?_)
    refine lv_iload_n hx hb dX7_whenTogether_47 rfl (lv_at hl 1 rfl) ?_
    refine lv_bipush (v := 61) hx hb dX7_whenTogether_48 (by decide) ?_
    refine lv_icmp_ge (tgt := 57) hx hb dX7_whenTogether_50 (by decide) (fun c_12 => ?_) (fun c_12 => ?_)
    · rw [if_pos c_12] at hf
      refine lv_bipush (v := -4) hx hb dX7_whenTogether_57 (by decide) ?_
      obtain rfl := Option.some.inj hf
      exact nn_iret S hr hlk hw rfl hσ dX7_whenTogether_59
    · rw [if_neg c_12] at hf
      refine lv_iload_n hx hb dX7_whenTogether_53 rfl (lv_at hl 1 rfl) ?_
      refine lv_goto (tgt := 59) hx hb dX7_whenTogether_54 (by decide) ?_
      obtain rfl := Option.some.inj hf
      exact nn_iret S hr hlk hw rfl hσ dX7_whenTogether_59
  refine lv_iconst (v := 0) hx hb dX7_whenTogether_0 (by decide) ?_
  refine lv_istore_n (lv' := [(1, .int ((0 : Int32))), (0, .ref (ad (136)))]) hx hb dX7_whenTogether_1 rfl hl (by decide) rfl (fun ls hl => ?_)
  refine L2 100000 m (0 : Int32) _ (fun m_8 b1_7 hf H locs ls hw hl => ?_) hf _ _ _ hw (lv_sub hl [1, 0] rfl)
  refine lv_aload_n hx hb dX7_whenTogether_25 rfl (lv_at hl 0 rfl) ?_
  refine lv_iload_n hx hb dX7_whenTogether_26 rfl (lv_at hl 1 rfl) ?_
  refine lv_bipush (v := 61) hx hb dX7_whenTogether_27 (by decide) ?_
  refine lv_icmp_ge (tgt := 39) hx hb dX7_whenTogether_29 (by decide) (fun c_9 => ?_) (fun c_9 => ?_)
  · rw [if_pos c_9] at hf
    refine lv_iconst (v := 0) hx hb dX7_whenTogether_39 (by decide) ?_
    exact J40 m_8 b1_7 (0 : Int32) hf _ _ _ hw (lv_sub hl [0, 1] rfl)
  · rw [if_neg c_9] at hf
    refine lv_aload_n hx hb dX7_whenTogether_32 rfl (lv_at hl 0 rfl) ?_
    obtain ⟨q_13, h_14, hf⟩ := nn_bind hf
    refine nn_calliV S (As := []) (rest := [.ref (ad (136))]) (ce_M (k := 0)) (by decide) rfl rfl (c_X7_allAlike l D cy ad A (sM σ m_8) m_8 rfl q_13 h_14) mv_X7_allAlike tb_4_42 hK hw ⟨Nat.le_of_ble_eq_true rfl, Nat.le_of_ble_eq_true rfl⟩ ⟨Nat.zero_le _, Nat.zero_le _⟩ rfl hl.1 rfl (Nat.le_of_ble_eq_true rfl) dX7_whenTogether_33 (fun H locs hw => ?_)
    refine lv_goto (tgt := 40) hx hb dX7_whenTogether_36 (by decide) ?_
    exact J40 m_8 b1_7 q_13 hf _ _ _ hw (lv_sub hl [0, 1] rfl)
set_option maxRecDepth 100000 in
set_option maxHeartbeats 4000000 in
theorem c_X7_together (l : Launch) (D : va_G) (cy : Nat → ClassId) (ad : Nat → Nat) (A : Nat → Prop) (σ : nG) (m : nMd) (hx_M : gM σ = m) (a1 : Int32) (q : Int32 × nMd) (hf : f_X7_together m a1 = some q) (σ' : nG) (hσ : (sM σ q.2) = σ') : nn_I l yX7_together (nn_ws yX7_together cX7_together 3 (some .int)) (nn_R 6) D cy ad A [.ref (ad (136)), .int (a1)] σ q.1 σ' := by
  refine nn_enterI (plainFor_of_name (by decide +kernel)) (Nat.le_of_ble_eq_true rfl) (lv := [(0, .ref (ad (136))), (1, .int (a1))]) rfl ?_
  intro pp ee ss mm bb me co S hr hlk hK hw ls hl
  have hx := S.1
  have hb := S.2.1
  have hw : nn_W D cy ad A ss.heap (sM σ m) ss.heap [] := nn_W.eq (by rw [← hx_M]; rfl) hw
  unfold f_X7_together at hf
  refine lv_iload_n hx hb dX7_together_0 rfl (lv_at hl 1 rfl) ?_
  refine lv_i2l (v := a1.toInt64) hx hb dX7_together_1 rfl ?_
  refine lv_lconst (v := 0) hx hb dX7_together_2 (by decide) ?_
  refine lv_lconst (v := 1) hx hb dX7_together_3 (by decide) ?_
  obtain ⟨q_1, h_2, hf⟩ := nn_bind hf
  refine nn_calliS S (As := [.long (a1.toInt64), .long ((0 : Int64)), .long ((1 : Int64))]) (rest := []) (c_X7_in l D cy ad A (sM σ m) a1.toInt64 (0 : Int64) (1 : Int64) q_1 h_2) mv_X7_in tb_3_214 hK hw ⟨Nat.le_of_ble_eq_true rfl, Nat.le_of_ble_eq_true rfl⟩ ⟨Nat.zero_le _, Nat.zero_le _⟩ rfl hl.1 rfl (Nat.le_of_ble_eq_true rfl) dX7_together_4 (fun H locs hw => ?_)
  refine lv_if_ne (tgt := 12) hx hb dX7_together_7 (by decide) (fun c_3 => ?_) (fun c_3 => ?_)
  · rw [if_neg c_3] at hf
    refine lv_aload_n hx hb dX7_together_12 rfl (lv_at hl 0 rfl) ?_
    obtain ⟨q_4, h_5, hf⟩ := nn_bind hf
    refine nn_callvV S (As := []) (rest := []) (ce_M (k := 0)) (by decide) rfl rfl (c_X7_asides l D cy ad A (sM σ m) m rfl q_4 h_5 (sM σ q_4) rfl) mv_X7_asides tb_4_129 hK hw ⟨Nat.le_of_ble_eq_true rfl, Nat.le_of_ble_eq_true rfl⟩ ⟨Nat.zero_le _, Nat.zero_le _⟩ rfl hl.1 rfl (Nat.le_of_ble_eq_true rfl) dX7_together_13 (fun H locs hw => ?_)
    refine lv_aload_n hx hb dX7_together_16 rfl (lv_at hl 0 rfl) ?_
    obtain ⟨q_6, h_7, hf⟩ := nn_bind hf
    refine nn_calliV S (As := []) (rest := []) (ce_M (k := 0)) (by decide) rfl rfl (c_X7_whenTogether l D cy ad A (sM σ q_4) q_4 rfl q_6 h_7 (sM σ q_6.2) rfl) mv_X7_whenTogether tb_4_153 hK hw ⟨Nat.le_of_ble_eq_true rfl, Nat.le_of_ble_eq_true rfl⟩ ⟨Nat.zero_le _, Nat.zero_le _⟩ rfl hl.1 rfl (Nat.le_of_ble_eq_true rfl) dX7_together_17 (fun H locs hw => ?_)
    refine lv_istore_n (lv' := [(2, .int (q_6.1)), (0, .ref (ad (136))), (1, .int (a1))]) hx hb dX7_together_20 rfl hl (by decide) rfl (fun ls hl => ?_)
    refine lv_iload_n hx hb dX7_together_21 rfl (lv_at hl 2 rfl) ?_
    refine lv_if_ne (tgt := 29) hx hb dX7_together_22 (by decide) (fun c_8 => ?_) (fun c_8 => ?_)
    · rw [if_neg c_8] at hf
      refine lv_aload_n hx hb dX7_together_29 rfl (lv_at hl 1 rfl) ?_
      refine gf_Md_together S hK hw (x := q_6.2) rfl tb_3_155 dX7_together_30 ?_
      obtain rfl := Option.some.inj hf
      exact nn_iret S hr hlk hw rfl hσ dX7_together_33
    · rw [if_pos c_8] at hf
      refine lv_iload_n hx hb dX7_together_25 rfl (lv_at hl 0 rfl) ?_
      refine lv_goto (tgt := 33) hx hb dX7_together_26 (by decide) ?_
      obtain rfl := Option.some.inj hf
      exact nn_iret S hr hlk hw rfl hσ dX7_together_33
  · rw [if_pos c_3] at hf
    refine lv_iconst (v := -1) hx hb dX7_together_10 (by decide) ?_
    obtain rfl := Option.some.inj hf
    exact nn_iret S hr hlk hw rfl hσ dX7_together_11
set_option maxRecDepth 100000 in
set_option maxHeartbeats 4000000 in
theorem c_X7_setsIn (l : Launch) (D : va_G) (cy : Nat → ClassId) (ad : Nat → Nat) (A : Nat → Prop) (σ : nG) (m : nMd) (hx_M : gM σ = m) (a1 : Int32) (a2 : Int32) (q : Int32 × nMd) (hf : f_X7_setsIn m a1 a2 = some q) (σ' : nG) (hσ : (sM σ q.2) = σ') : nn_I l yX7_setsIn (nn_ws yX7_setsIn cX7_setsIn 7 (some .int)) (nn_R 2) D cy ad A [.ref (ad (136)), .int (a1), .int (a2)] σ q.1 σ' := by
  refine nn_enterI (plainFor_of_name (by decide +kernel)) (Nat.le_of_ble_eq_true rfl) (lv := [(0, .ref (ad (136))), (1, .int (a1)), (2, .int (a2))]) rfl ?_
  intro pp ee ss mm bb me co S hr hlk hK hw ls hl
  have hx := S.1
  have hb := S.2.1
  have hw : nn_W D cy ad A ss.heap (sM σ m) ss.heap [] := nn_W.eq (by rw [← hx_M]; rfl) hw
  unfold f_X7_setsIn at hf
  have L15 : ∀ (n : Nat) (m : nMd) (u2 : Int32) (u3 : Int32) (u4 : Int32) (u5 : Int32) (K : nMd → Int32 → Int32 → Int32 → Int32 → Option (Int32 × nMd)), (∀ (m : nMd) (u2 : Int32) (u3 : Int32) (u4 : Int32) (u5 : Int32), K m u2 u3 u4 u5 = some q → ∀ (H : Heap) (locs : List Loc) (ls : Array Slot), nn_W D cy ad A ss.heap (sM σ m) H locs → lv_has ls 7 [(0, .ref (ad (136))), (2, .int (u2)), (3, .int (u3)), (4, .int (u4)), (5, .int (u5))] → W pp l ee (nn_R 2) ss mm ([.ref (ad (136)), .int (a1), .int (a2)] : List Value).toArray bb me co H locs 0 0 (MQ bb (nn_qi D cy ad A q.1 σ') ([.ref (ad (136)), .int (a1), .int (a2)] : List Value).toArray ss 0 0 A) (F0 mm 77 ls [])) → f_X7_setsIn_L15 n m u2 u3 u4 u5 K = some q → ∀ (H : Heap) (locs : List Loc) (ls : Array Slot), nn_W D cy ad A ss.heap (sM σ m) H locs → lv_has ls 7 [(0, .ref (ad (136))), (2, .int (u2)), (3, .int (u3)), (4, .int (u4)), (5, .int (u5))] → W pp l ee (nn_R 2) ss mm ([.ref (ad (136)), .int (a1), .int (a2)] : List Value).toArray bb me co H locs 0 0 (MQ bb (nn_qi D cy ad A q.1 σ') ([.ref (ad (136)), .int (a1), .int (a2)] : List Value).toArray ss 0 0 A) (F0 mm 15 ls []) := by
    intro n
    induction n with
    | zero => intro m u2 u3 u4 u5 K hKK hf; exact absurd hf (by simp [f_X7_setsIn_L15])
    | succ n ih =>
      intro m u2 u3 u4 u5 K hKK hf H locs ls hw hl
      rw [f_X7_setsIn_L15] at hf
      refine lv_iload hx hb dX7_setsIn_15 (lv_at hl 4 rfl) ?_
      refine lv_if_lt (tgt := 77) hx hb dX7_setsIn_17 (by decide) (fun c_1 => ?_) (fun c_1 => ?_)
      · rw [if_pos c_1] at hf
        exact hKK m u2 u3 u4 u5 hf _ _ _ hw (lv_sub hl [0, 1, 2, 3, 4] rfl)
      · rw [if_neg c_1] at hf
        refine lv_aload_n hx hb dX7_setsIn_20 rfl (lv_at hl 0 rfl) ?_
        refine gf_Md_by S hK hw tb_3_156 dX7_setsIn_21 ?_
        refine lv_iload hx hb dX7_setsIn_24 (lv_at hl 4 rfl) ?_
        refine lv_iload_n hx hb dX7_setsIn_26 rfl (lv_at hl 2 rfl) ?_
        refine lv_iconst (v := 5) hx hb dX7_setsIn_27 (by decide) ?_
        refine lv_irem hx hb dX7_setsIn_28 (by decide) ?_
        obtain ⟨g_2, hf⟩ := nn_ix_some hf
        obtain ⟨m_3, h_4, hf⟩ := nn_bind hf
        replace h_4 := Option.some.inj h_4
        refine as_Md_by S hK hw (x := m) rfl g_2 (τ' := (sM σ m_3)) ((rfl : _ = (sM σ (s_Md_by m (upd (g_Md_by m) u5.toNatClampNeg (u3 - u3 / (5 : Int32) * (5 : Int32)))))).trans (by rw [h_4])) dX7_setsIn_29 (fun H locs hw => ?_)
        refine lv_iload_n hx hb dX7_setsIn_30 rfl (lv_at hl 2 rfl) ?_
        refine lv_iconst (v := 5) hx hb dX7_setsIn_31 (by decide) ?_
        refine lv_idiv hx hb dX7_setsIn_32 (by decide) ?_
        refine lv_istore_n (lv' := [(3, .int (u3 / (5 : Int32))), (0, .ref (ad (136))), (2, .int (u2)), (4, .int (u4)), (5, .int (u5))]) hx hb dX7_setsIn_33 rfl hl (by decide) rfl (fun ls hl => ?_)
        refine lv_iload hx hb dX7_setsIn_34 (lv_at hl 3 rfl) ?_
        refine lv_aload_n hx hb dX7_setsIn_36 rfl (lv_at hl 1 rfl) ?_
        refine gf_Md_by S hK hw tb_3_156 dX7_setsIn_37 ?_
        refine lv_iload hx hb dX7_setsIn_40 (lv_at hl 4 rfl) ?_
        obtain ⟨g_5, hf⟩ := nn_ix_some hf
        refine al_Md_by S hK hw (x := m_3) rfl g_5 dX7_setsIn_42 ?_
        refine lv_iconst (v := 2) hx hb dX7_setsIn_43 (by decide) ?_
        refine lv_icmp_ge (tgt := 59) hx hb dX7_setsIn_44 (by decide) (fun c_6 => ?_) (fun c_6 => ?_)
        · rw [if_pos c_6] at hf
          refine lv_aload_n hx hb dX7_setsIn_59 rfl (lv_at hl 1 rfl) ?_
          refine gf_Md_by S hK hw tb_3_156 dX7_setsIn_60 ?_
          refine lv_iload hx hb dX7_setsIn_63 (lv_at hl 4 rfl) ?_
          obtain ⟨g_7, hf⟩ := nn_ix_some hf
          refine al_Md_by S hK hw (x := m_3) rfl g_7 dX7_setsIn_65 ?_
          refine lv_iconst (v := 2) hx hb dX7_setsIn_66 (by decide) ?_
          refine lv_isub hx hb dX7_setsIn_67 ?_
          refine lv_iadd hx hb dX7_setsIn_68 ?_
          refine lv_istore (lv' := [(4, .int (u4 + (((g_Md_by m_3) u5.toNatClampNeg) - (2 : Int32)))), (3, .int (u3 / (5 : Int32))), (0, .ref (ad (136))), (2, .int (u2)), (5, .int (u5))]) hx hb dX7_setsIn_69 hl (by decide) rfl (fun ls hl => ?_)
          refine lv_iinc (v := u5 + (-1 : Int32)) (lv' := [(5, .int (u5 + (-1 : Int32))), (4, .int (u4 + (((g_Md_by m_3) u5.toNatClampNeg) - (2 : Int32)))), (3, .int (u3 / (5 : Int32))), (0, .ref (ad (136))), (2, .int (u2))]) hx hb dX7_setsIn_71 hl (k := 4) rfl (congrArg (fun z => u5 + z) (by decide)) (by decide) rfl (fun ls hl => ?_)
          refine lv_goto (tgt := 15) hx hb dX7_setsIn_74 (by decide) ?_
          exact ih m_3 u2 (u3 / (5 : Int32)) (u4 + (((g_Md_by m_3) u5.toNatClampNeg) - (2 : Int32))) (u5 + (-1 : Int32)) K hKK hf _ _ _ hw (lv_sub hl [3, 4, 2, 1, 0] rfl)
        · rw [if_neg c_6] at hf
          refine lv_iconst (v := 2) hx hb dX7_setsIn_47 (by decide) ?_
          refine lv_aload_n hx hb dX7_setsIn_48 rfl (lv_at hl 1 rfl) ?_
          refine gf_Md_by S hK hw tb_3_156 dX7_setsIn_49 ?_
          refine lv_iload hx hb dX7_setsIn_52 (lv_at hl 4 rfl) ?_
          obtain ⟨g_8, hf⟩ := nn_ix_some hf
          refine al_Md_by S hK hw (x := m_3) rfl g_8 dX7_setsIn_54 ?_
          refine lv_isub hx hb dX7_setsIn_55 ?_
          refine lv_goto (tgt := 68) hx hb dX7_setsIn_56 (by decide) ?_
          refine lv_iadd hx hb dX7_setsIn_68 ?_
          refine lv_istore (lv' := [(4, .int (u4 + ((2 : Int32) - ((g_Md_by m_3) u5.toNatClampNeg)))), (3, .int (u3 / (5 : Int32))), (0, .ref (ad (136))), (2, .int (u2)), (5, .int (u5))]) hx hb dX7_setsIn_69 hl (by decide) rfl (fun ls hl => ?_)
          refine lv_iinc (v := u5 + (-1 : Int32)) (lv' := [(5, .int (u5 + (-1 : Int32))), (4, .int (u4 + ((2 : Int32) - ((g_Md_by m_3) u5.toNatClampNeg)))), (3, .int (u3 / (5 : Int32))), (0, .ref (ad (136))), (2, .int (u2))]) hx hb dX7_setsIn_71 hl (k := 4) rfl (congrArg (fun z => u5 + z) (by decide)) (by decide) rfl (fun ls hl => ?_)
          refine lv_goto (tgt := 15) hx hb dX7_setsIn_74 (by decide) ?_
          exact ih m_3 u2 (u3 / (5 : Int32)) (u4 + ((2 : Int32) - ((g_Md_by m_3) u5.toNatClampNeg))) (u5 + (-1 : Int32)) K hKK hf _ _ _ hw (lv_sub hl [3, 4, 2, 1, 0] rfl)
  have L94 : ∀ (n : Nat) (m : nMd) (u2 : Int32) (u4 : Int32) (u5 : Int32) (u6 : Int32) (K : nMd → Int32 → Int32 → Int32 → Int32 → Option (Int32 × nMd)), (∀ (m : nMd) (u2 : Int32) (u4 : Int32) (u5 : Int32) (u6 : Int32), K m u2 u4 u5 u6 = some q → ∀ (H : Heap) (locs : List Loc) (ls : Array Slot), nn_W D cy ad A ss.heap (sM σ m) H locs → lv_has ls 7 [(0, .ref (ad (136))), (2, .int (u2)), (4, .int (u4)), (5, .int (u5)), (6, .int (u6))] → W pp l ee (nn_R 2) ss mm ([.ref (ad (136)), .int (a1), .int (a2)] : List Value).toArray bb me co H locs 0 0 (MQ bb (nn_qi D cy ad A q.1 σ') ([.ref (ad (136)), .int (a1), .int (a2)] : List Value).toArray ss 0 0 A) (F0 mm 145 ls [])) → f_X7_setsIn_L94 n m u2 u4 u5 u6 K = some q → ∀ (H : Heap) (locs : List Loc) (ls : Array Slot), nn_W D cy ad A ss.heap (sM σ m) H locs → lv_has ls 7 [(0, .ref (ad (136))), (2, .int (u2)), (4, .int (u4)), (5, .int (u5)), (6, .int (u6))] → W pp l ee (nn_R 2) ss mm ([.ref (ad (136)), .int (a1), .int (a2)] : List Value).toArray bb me co H locs 0 0 (MQ bb (nn_qi D cy ad A q.1 σ') ([.ref (ad (136)), .int (a1), .int (a2)] : List Value).toArray ss 0 0 A) (F0 mm 94 ls []) := by
    intro n
    induction n with
    | zero => intro m u2 u4 u5 u6 K hKK hf; exact absurd hf (by simp [f_X7_setsIn_L94])
    | succ n ih =>
      intro m u2 u4 u5 u6 K hKK hf H locs ls hw hl
      rw [f_X7_setsIn_L94] at hf
      refine lv_iload hx hb dX7_setsIn_94 (lv_at hl 4 rfl) ?_
      refine lv_iload hx hb dX7_setsIn_96 (lv_at hl 3 rfl) ?_
      refine lv_icmp_ge (tgt := 145) hx hb dX7_setsIn_98 (by decide) (fun c_15 => ?_) (fun c_15 => ?_)
      · rw [if_pos c_15] at hf
        exact hKK m u2 u4 u5 u6 hf _ _ _ hw (lv_sub hl [0, 1, 2, 3, 4] rfl)
      · rw [if_neg c_15] at hf
        refine lv_aload_n hx hb dX7_setsIn_101 rfl (lv_at hl 0 rfl) ?_
        refine lv_iload hx hb dX7_setsIn_102 (lv_at hl 3 rfl) ?_
        obtain ⟨q_16, h_17, hf⟩ := nn_bind hf
        refine nn_calliV S (As := [.int (u5)]) (rest := []) (ce_M (k := 0)) (by decide) rfl rfl (c_X7_minuteOf l D cy ad A (sM σ m) m rfl u5 q_16 h_17) mv_X7_minuteOf tb_4_8 hK hw ⟨Nat.le_of_ble_eq_true rfl, Nat.le_of_ble_eq_true rfl⟩ ⟨Nat.zero_le _, Nat.zero_le _⟩ rfl hl.1 rfl (Nat.le_of_ble_eq_true rfl) dX7_setsIn_104 (fun H locs hw => ?_)
        refine lv_aload_n hx hb dX7_setsIn_107 rfl (lv_at hl 0 rfl) ?_
        refine gf_Md_by S hK hw tb_3_156 dX7_setsIn_108 ?_
        refine lv_iload hx hb dX7_setsIn_111 (lv_at hl 3 rfl) ?_
        obtain ⟨g_18, hf⟩ := nn_ix_some hf
        refine al_Md_by S hK hw (x := m) rfl g_18 dX7_setsIn_113 ?_
        refine lv_iadd hx hb dX7_setsIn_114 ?_
        refine lv_aload_n hx hb dX7_setsIn_115 rfl (lv_at hl 0 rfl) ?_
        refine lv_iload hx hb dX7_setsIn_116 (lv_at hl 4 rfl) ?_
        obtain ⟨q_19, h_20, hf⟩ := nn_bind hf
        refine nn_calliV S (As := [.int (u6)]) (rest := [.int (q_16 + ((g_Md_by m) u5.toNatClampNeg))]) (ce_M (k := 0)) (by decide) rfl rfl (c_X7_minuteOf l D cy ad A (sM σ m) m rfl u6 q_19 h_20) mv_X7_minuteOf tb_4_8 hK hw ⟨Nat.le_of_ble_eq_true rfl, Nat.le_of_ble_eq_true rfl⟩ ⟨Nat.zero_le _, Nat.zero_le _⟩ rfl hl.1 rfl (Nat.le_of_ble_eq_true rfl) dX7_setsIn_118 (fun H locs hw => ?_)
        refine lv_aload_n hx hb dX7_setsIn_121 rfl (lv_at hl 0 rfl) ?_
        refine gf_Md_by S hK hw tb_3_156 dX7_setsIn_122 ?_
        refine lv_iload hx hb dX7_setsIn_125 (lv_at hl 4 rfl) ?_
        obtain ⟨g_21, hf⟩ := nn_ix_some hf
        refine al_Md_by S hK hw (x := m) rfl g_21 dX7_setsIn_127 ?_
        refine lv_iadd hx hb dX7_setsIn_128 ?_
        obtain ⟨q_22, h_23, hf⟩ := nn_bind hf
        refine nn_calliS S (As := [.int (q_16 + ((g_Md_by m) u5.toNatClampNeg)), .int (q_19 + ((g_Md_by m) u6.toNatClampNeg))]) (rest := []) (c_X7_between l D cy ad A (sM σ m) (q_16 + ((g_Md_by m) u5.toNatClampNeg)) (q_19 + ((g_Md_by m) u6.toNatClampNeg)) q_22 h_23) mv_X7_between tb_4_12 hK hw ⟨Nat.le_of_ble_eq_true rfl, Nat.le_of_ble_eq_true rfl⟩ ⟨Nat.zero_le _, Nat.zero_le _⟩ rfl hl.1 rfl (Nat.le_of_ble_eq_true rfl) dX7_setsIn_129 (fun H locs hw => ?_)
        refine lv_iload_n hx hb dX7_setsIn_132 rfl (lv_at hl 1 rfl) ?_
        refine lv_icmp_ge (tgt := 139) hx hb dX7_setsIn_133 (by decide) (fun c_24 => ?_) (fun c_24 => ?_)
        · rw [if_pos c_24] at hf
          refine lv_iinc (v := u6 + (1 : Int32)) (lv' := [(6, .int (u6 + (1 : Int32))), (0, .ref (ad (136))), (2, .int (u2)), (4, .int (u4)), (5, .int (u5))]) hx hb dX7_setsIn_139 hl (k := 4) rfl (congrArg (fun z => u6 + z) (by decide)) (by decide) rfl (fun ls hl => ?_)
          refine lv_goto (tgt := 94) hx hb dX7_setsIn_142 (by decide) ?_
          exact ih m u2 u4 u5 (u6 + (1 : Int32)) K hKK hf _ _ _ hw (lv_sub hl [1, 2, 3, 4, 0] rfl)
        · rw [if_neg c_24] at hf
          refine lv_bipush (v := -4) hx hb dX7_setsIn_136 (by decide) ?_
          obtain rfl := Option.some.inj hf
          exact nn_iret S hr hlk hw rfl hσ dX7_setsIn_138
  have L80 : ∀ (n : Nat) (m : nMd) (u2 : Int32) (u4 : Int32) (u5 : Int32) (K : nMd → Int32 → Int32 → Int32 → Option (Int32 × nMd)), (∀ (m : nMd) (u2 : Int32) (u4 : Int32) (u5 : Int32), K m u2 u4 u5 = some q → ∀ (H : Heap) (locs : List Loc) (ls : Array Slot), nn_W D cy ad A ss.heap (sM σ m) H locs → lv_has ls 7 [(0, .ref (ad (136))), (2, .int (u2)), (4, .int (u4)), (5, .int (u5))] → W pp l ee (nn_R 2) ss mm ([.ref (ad (136)), .int (a1), .int (a2)] : List Value).toArray bb me co H locs 0 0 (MQ bb (nn_qi D cy ad A q.1 σ') ([.ref (ad (136)), .int (a1), .int (a2)] : List Value).toArray ss 0 0 A) (F0 mm 151 ls [])) → f_X7_setsIn_L80 n m u2 u4 u5 K = some q → ∀ (H : Heap) (locs : List Loc) (ls : Array Slot), nn_W D cy ad A ss.heap (sM σ m) H locs → lv_has ls 7 [(0, .ref (ad (136))), (2, .int (u2)), (4, .int (u4)), (5, .int (u5))] → W pp l ee (nn_R 2) ss mm ([.ref (ad (136)), .int (a1), .int (a2)] : List Value).toArray bb me co H locs 0 0 (MQ bb (nn_qi D cy ad A q.1 σ') ([.ref (ad (136)), .int (a1), .int (a2)] : List Value).toArray ss 0 0 A) (F0 mm 80 ls []) := by
    intro n
    induction n with
    | zero => intro m u2 u4 u5 K hKK hf; exact absurd hf (by simp [f_X7_setsIn_L80])
    | succ n ih =>
      intro m u2 u4 u5 K hKK hf H locs ls hw hl
      rw [f_X7_setsIn_L80] at hf
      refine lv_iload hx hb dX7_setsIn_80 (lv_at hl 3 rfl) ?_
      refine lv_aload_n hx hb dX7_setsIn_82 rfl (lv_at hl 0 rfl) ?_
      refine gf_Md_now S hK hw tb_3_145 dX7_setsIn_83 ?_
      refine lv_iconst (v := 0) hx hb dX7_setsIn_86 (by decide) ?_
      refine al_Md_now S hK hw (x := m) rfl (by decide) dX7_setsIn_87 ?_
      refine lv_icmp_ge (tgt := 151) hx hb dX7_setsIn_88 (by decide) (fun c_14 => ?_) (fun c_14 => ?_)
      · rw [if_pos c_14] at hf
        exact hKK m u2 u4 u5 hf _ _ _ hw (lv_sub hl [0, 1, 2, 3] rfl)
      · rw [if_neg c_14] at hf
        refine lv_iconst (v := 0) hx hb dX7_setsIn_91 (by decide) ?_
        refine lv_istore (lv' := [(6, .int ((0 : Int32))), (0, .ref (ad (136))), (2, .int (u2)), (4, .int (u4)), (5, .int (u5))]) hx hb dX7_setsIn_92 hl (by decide) rfl (fun ls hl => ?_)
        refine L94 100000 m u2 u4 u5 (0 : Int32) _ (fun m_29 b2_25 b4_26 b5_27 b6_28 hf H locs ls hw hl => ?_) hf _ _ _ hw (lv_sub hl [1, 2, 3, 4, 0] rfl)
        refine lv_iinc (v := b5_27 + (1 : Int32)) (lv' := [(5, .int (b5_27 + (1 : Int32))), (0, .ref (ad (136))), (2, .int (b2_25)), (4, .int (b4_26)), (6, .int (b6_28))]) hx hb dX7_setsIn_145 hl (k := 3) rfl (congrArg (fun z => b5_27 + z) (by decide)) (by decide) rfl (fun ls hl => ?_)
        refine lv_goto (tgt := 80) hx hb dX7_setsIn_148 (by decide) ?_
        exact ih m_29 b2_25 b4_26 (b5_27 + (1 : Int32)) K hKK hf _ _ _ hw (lv_sub hl [1, 2, 3, 0] rfl)
  refine lv_iload_n hx hb dX7_setsIn_0 rfl (lv_at hl 1 rfl) ?_
  refine lv_istore_n (lv' := [(3, .int (a1)), (0, .ref (ad (136))), (1, .int (a1)), (2, .int (a2))]) hx hb dX7_setsIn_1 rfl hl (by decide) rfl (fun ls hl => ?_)
  refine lv_iconst (v := 0) hx hb dX7_setsIn_2 (by decide) ?_
  refine lv_istore (lv' := [(4, .int ((0 : Int32))), (3, .int (a1)), (0, .ref (ad (136))), (1, .int (a1)), (2, .int (a2))]) hx hb dX7_setsIn_3 hl (by decide) rfl (fun ls hl => ?_)
  refine lv_aload_n hx hb dX7_setsIn_5 rfl (lv_at hl 2 rfl) ?_
  refine gf_Md_now S hK hw tb_3_145 dX7_setsIn_6 ?_
  refine lv_iconst (v := 0) hx hb dX7_setsIn_9 (by decide) ?_
  refine al_Md_now S hK hw (x := m) rfl (by decide) dX7_setsIn_10 ?_
  refine lv_iconst (v := 1) hx hb dX7_setsIn_11 (by decide) ?_
  refine lv_isub hx hb dX7_setsIn_12 ?_
  refine lv_istore (lv' := [(5, .int (((g_Md_now m) (0 : Int32).toNatClampNeg) - (1 : Int32))), (4, .int ((0 : Int32))), (3, .int (a1)), (0, .ref (ad (136))), (1, .int (a1)), (2, .int (a2))]) hx hb dX7_setsIn_13 hl (by decide) rfl (fun ls hl => ?_)
  refine L15 100000 m a2 a1 (0 : Int32) (((g_Md_now m) (0 : Int32).toNatClampNeg) - (1 : Int32)) _ (fun m_13 b2_9 b3_10 b4_11 b5_12 hf H locs ls hw hl => ?_) hf _ _ _ hw (lv_sub hl [3, 5, 2, 1, 0] rfl)
  refine lv_iconst (v := 0) hx hb dX7_setsIn_77 (by decide) ?_
  refine lv_istore (lv' := [(5, .int ((0 : Int32))), (0, .ref (ad (136))), (2, .int (b2_9)), (3, .int (b3_10)), (4, .int (b4_11))]) hx hb dX7_setsIn_78 hl (by decide) rfl (fun ls hl => ?_)
  refine L80 100000 m_13 b2_9 b4_11 (0 : Int32) _ (fun m_33 b2_30 b4_31 b5_32 hf H locs ls hw hl => ?_) hf _ _ _ hw (lv_sub hl [1, 2, 4, 0] rfl)
  refine lv_iload hx hb dX7_setsIn_151 (lv_at hl 2 rfl) ?_
  obtain rfl := Option.some.inj hf
  exact nn_iret S hr hlk hw rfl hσ dX7_setsIn_153
set_option maxRecDepth 100000 in
set_option maxHeartbeats 4000000 in
theorem c_X7_fix (l : Launch) (D : va_G) (cy : Nat → ClassId) (ad : Nat → Nat) (A : Nat → Prop) (σ : nG) (m : nMd) (hx_M : gM σ = m) (a1 : Int32) (a2 : Int32) (q : Int32 × nMd) (hf : f_X7_fix m a1 a2 = some q) (σ' : nG) (hσ : (sM σ q.2) = σ') : nn_I l yX7_fix (nn_ws yX7_fix cX7_fix 8 (some .int)) (nn_R 3) D cy ad A [.ref (ad (136)), .int (a1), .int (a2)] σ q.1 σ' := by
  refine nn_enterI (plainFor_of_name (by decide +kernel)) (Nat.le_of_ble_eq_true rfl) (lv := [(0, .ref (ad (136))), (1, .int (a1)), (2, .int (a2))]) rfl ?_
  intro pp ee ss mm bb me co S hr hlk hK hw ls hl
  have hx := S.1
  have hb := S.2.1
  have hw : nn_W D cy ad A ss.heap (sM σ m) ss.heap [] := nn_W.eq (by rw [← hx_M]; rfl) hw
  unfold f_X7_fix at hf
  have L39 : ∀ (n : Nat) (m : nMd) (u1 : Int32) (u2 : Int32) (u3 : Int32) (u4 : Int32) (K : nMd → Int32 → Int32 → Int32 → Int32 → Option (Int32 × nMd)), (∀ (m : nMd) (u1 : Int32) (u2 : Int32) (u3 : Int32) (u4 : Int32), K m u1 u2 u3 u4 = some q → ∀ (H : Heap) (locs : List Loc) (ls : Array Slot), nn_W D cy ad A ss.heap (sM σ m) H locs → lv_has ls 8 [(0, .ref (ad (136))), (1, .int (u1)), (2, .int (u2)), (3, .int (u3)), (4, .int (u4))] → W pp l ee (nn_R 3) ss mm ([.ref (ad (136)), .int (a1), .int (a2)] : List Value).toArray bb me co H locs 0 0 (MQ bb (nn_qi D cy ad A q.1 σ') ([.ref (ad (136)), .int (a1), .int (a2)] : List Value).toArray ss 0 0 A) (F0 mm 60 ls [])) → f_X7_fix_L39 n m u1 u2 u3 u4 K = some q → ∀ (H : Heap) (locs : List Loc) (ls : Array Slot), nn_W D cy ad A ss.heap (sM σ m) H locs → lv_has ls 8 [(0, .ref (ad (136))), (1, .int (u1)), (2, .int (u2)), (3, .int (u3)), (4, .int (u4))] → W pp l ee (nn_R 3) ss mm ([.ref (ad (136)), .int (a1), .int (a2)] : List Value).toArray bb me co H locs 0 0 (MQ bb (nn_qi D cy ad A q.1 σ') ([.ref (ad (136)), .int (a1), .int (a2)] : List Value).toArray ss 0 0 A) (F0 mm 39 ls []) := by
    intro n
    induction n with
    | zero => intro m u1 u2 u3 u4 K hKK hf; exact absurd hf (by simp [f_X7_fix_L39])
    | succ n ih =>
      intro m u1 u2 u3 u4 K hKK hf H locs ls hw hl
      rw [f_X7_fix_L39] at hf
      refine lv_iload hx hb dX7_fix_39 (lv_at hl 4 rfl) ?_
      refine lv_aload_n hx hb dX7_fix_41 rfl (lv_at hl 0 rfl) ?_
      refine gf_Md_now S hK hw tb_3_145 dX7_fix_42 ?_
      refine lv_iconst (v := 0) hx hb dX7_fix_45 (by decide) ?_
      refine al_Md_now S hK hw (x := m) rfl (by decide) dX7_fix_46 ?_
      refine lv_icmp_ge (tgt := 60) hx hb dX7_fix_47 (by decide) (fun c_7 => ?_) (fun c_7 => ?_)
      · rw [if_pos c_7] at hf
        exact hKK m u1 u2 u3 u4 hf _ _ _ hw (lv_sub hl [0, 1, 2, 3, 4] rfl)
      · rw [if_neg c_7] at hf
        refine lv_iload_n hx hb dX7_fix_50 rfl (lv_at hl 3 rfl) ?_
        refine lv_iconst (v := 5) hx hb dX7_fix_51 (by decide) ?_
        refine lv_imul hx hb dX7_fix_52 ?_
        refine lv_istore_n (lv' := [(3, .int (u3 * (5 : Int32))), (0, .ref (ad (136))), (1, .int (u1)), (2, .int (u2)), (4, .int (u4))]) hx hb dX7_fix_53 rfl hl (by decide) rfl (fun ls hl => ?_)
        refine lv_iinc (v := u4 + (1 : Int32)) (lv' := [(4, .int (u4 + (1 : Int32))), (3, .int (u3 * (5 : Int32))), (0, .ref (ad (136))), (1, .int (u1)), (2, .int (u2))]) hx hb dX7_fix_54 hl (k := 4) rfl (congrArg (fun z => u4 + z) (by decide)) (by decide) rfl (fun ls hl => ?_)
        refine lv_goto (tgt := 39) hx hb dX7_fix_57 (by decide) ?_
        exact ih m u1 u2 (u3 * (5 : Int32)) (u4 + (1 : Int32)) K hKK hf _ _ _ hw (lv_sub hl [2, 3, 4, 1, 0] rfl)
  have L110 : ∀ (n : Nat) (m : nMd) (u1 : Int32) (u2 : Int32) (u3 : Int32) (u4 : Int32) (u5 : Int32) (u7 : Int32) (K : nMd → Int32 → Int32 → Int32 → Int32 → Int32 → Int32 → Option (Int32 × nMd)), (∀ (m : nMd) (u1 : Int32) (u2 : Int32) (u3 : Int32) (u4 : Int32) (u5 : Int32) (u7 : Int32), K m u1 u2 u3 u4 u5 u7 = some q → ∀ (H : Heap) (locs : List Loc) (ls : Array Slot), nn_W D cy ad A ss.heap (sM σ m) H locs → lv_has ls 8 [(0, .ref (ad (136))), (1, .int (u1)), (2, .int (u2)), (3, .int (u3)), (4, .int (u4)), (5, .int (u5)), (7, .int (u7))] → W pp l ee (nn_R 3) ss mm ([.ref (ad (136)), .int (a1), .int (a2)] : List Value).toArray bb me co H locs 0 0 (MQ bb (nn_qi D cy ad A q.1 σ') ([.ref (ad (136)), .int (a1), .int (a2)] : List Value).toArray ss 0 0 A) (F0 mm 137 ls [])) → f_X7_fix_L110 n m u1 u2 u3 u4 u5 u7 K = some q → ∀ (H : Heap) (locs : List Loc) (ls : Array Slot), nn_W D cy ad A ss.heap (sM σ m) H locs → lv_has ls 8 [(0, .ref (ad (136))), (1, .int (u1)), (2, .int (u2)), (3, .int (u3)), (4, .int (u4)), (5, .int (u5)), (7, .int (u7))] → W pp l ee (nn_R 3) ss mm ([.ref (ad (136)), .int (a1), .int (a2)] : List Value).toArray bb me co H locs 0 0 (MQ bb (nn_qi D cy ad A q.1 σ') ([.ref (ad (136)), .int (a1), .int (a2)] : List Value).toArray ss 0 0 A) (F0 mm 110 ls []) := by
    intro n
    induction n with
    | zero => intro m u1 u2 u3 u4 u5 u7 K hKK hf; exact absurd hf (by simp [f_X7_fix_L110])
    | succ n ih =>
      intro m u1 u2 u3 u4 u5 u7 K hKK hf H locs ls hw hl
      rw [f_X7_fix_L110] at hf
      refine lv_iload hx hb dX7_fix_110 (lv_at hl 6 rfl) ?_
      refine lv_bipush (v := 6) hx hb dX7_fix_112 (by decide) ?_
      refine lv_icmp_ge (tgt := 137) hx hb dX7_fix_114 (by decide) (fun c_18 => ?_) (fun c_18 => ?_)
      · rw [if_pos c_18] at hf
        exact hKK m u1 u2 u3 u4 u5 u7 hf _ _ _ hw (lv_sub hl [0, 1, 2, 3, 4, 5, 6] rfl)
      · rw [if_neg c_18] at hf
        refine lv_aload_n hx hb dX7_fix_117 rfl (lv_at hl 0 rfl) ?_
        refine gf_Md_best S hK hw tb_3_157 dX7_fix_118 ?_
        refine lv_iload hx hb dX7_fix_121 (lv_at hl 6 rfl) ?_
        refine lv_aload_n hx hb dX7_fix_123 rfl (lv_at hl 0 rfl) ?_
        refine gf_Md_by S hK hw tb_3_156 dX7_fix_124 ?_
        refine lv_iload hx hb dX7_fix_127 (lv_at hl 6 rfl) ?_
        obtain ⟨g_19, hf⟩ := nn_ix_some hf
        refine al_Md_by S hK hw (x := m) rfl g_19 dX7_fix_129 ?_
        obtain ⟨g_20, hf⟩ := nn_ix_some hf
        obtain ⟨m_21, h_22, hf⟩ := nn_bind hf
        replace h_22 := Option.some.inj h_22
        refine as_Md_best S hK hw (x := m) rfl g_20 (τ' := (sM σ m_21)) ((rfl : _ = (sM σ (s_Md_best m (upd (g_Md_best m) u7.toNatClampNeg ((g_Md_by m) u7.toNatClampNeg))))).trans (by rw [h_22])) dX7_fix_130 (fun H locs hw => ?_)
        refine lv_iinc (v := u7 + (1 : Int32)) (lv' := [(7, .int (u7 + (1 : Int32))), (0, .ref (ad (136))), (1, .int (u1)), (2, .int (u2)), (3, .int (u3)), (4, .int (u4)), (5, .int (u5))]) hx hb dX7_fix_131 hl (k := 6) rfl (congrArg (fun z => u7 + z) (by decide)) (by decide) rfl (fun ls hl => ?_)
        refine lv_goto (tgt := 110) hx hb dX7_fix_134 (by decide) ?_
        exact ih m_21 u1 u2 u3 u4 u5 (u7 + (1 : Int32)) K hKK hf _ _ _ hw (lv_sub hl [1, 2, 3, 4, 5, 6, 0] rfl)
  have L67 : ∀ (n : Nat) (m : nMd) (u1 : Int32) (u2 : Int32) (u3 : Int32) (u4 : Int32) (u5 : Int32) (K : nMd → Int32 → Int32 → Int32 → Int32 → Int32 → Option (Int32 × nMd)), (∀ (m : nMd) (u1 : Int32) (u2 : Int32) (u3 : Int32) (u4 : Int32) (u5 : Int32), K m u1 u2 u3 u4 u5 = some q → ∀ (H : Heap) (locs : List Loc) (ls : Array Slot), nn_W D cy ad A ss.heap (sM σ m) H locs → lv_has ls 8 [(0, .ref (ad (136))), (1, .int (u1)), (2, .int (u2)), (3, .int (u3)), (4, .int (u4)), (5, .int (u5))] → W pp l ee (nn_R 3) ss mm ([.ref (ad (136)), .int (a1), .int (a2)] : List Value).toArray bb me co H locs 0 0 (MQ bb (nn_qi D cy ad A q.1 σ') ([.ref (ad (136)), .int (a1), .int (a2)] : List Value).toArray ss 0 0 A) (F0 mm 143 ls [])) → f_X7_fix_L67 n m u1 u2 u3 u4 u5 K = some q → ∀ (H : Heap) (locs : List Loc) (ls : Array Slot), nn_W D cy ad A ss.heap (sM σ m) H locs → lv_has ls 8 [(0, .ref (ad (136))), (1, .int (u1)), (2, .int (u2)), (3, .int (u3)), (4, .int (u4)), (5, .int (u5))] → W pp l ee (nn_R 3) ss mm ([.ref (ad (136)), .int (a1), .int (a2)] : List Value).toArray bb me co H locs 0 0 (MQ bb (nn_qi D cy ad A q.1 σ') ([.ref (ad (136)), .int (a1), .int (a2)] : List Value).toArray ss 0 0 A) (F0 mm 67 ls []) := by
    intro n
    induction n with
    | zero => intro m u1 u2 u3 u4 u5 K hKK hf; exact absurd hf (by simp [f_X7_fix_L67])
    | succ n ih =>
      intro m u1 u2 u3 u4 u5 K hKK hf H locs ls hw hl
      rw [f_X7_fix_L67] at hf
      refine lv_iload hx hb dX7_fix_67 (lv_at hl 5 rfl) ?_
      refine lv_iload_n hx hb dX7_fix_69 rfl (lv_at hl 3 rfl) ?_
      refine lv_icmp_ge (tgt := 143) hx hb dX7_fix_70 (by decide) (fun c_13 => ?_) (fun c_13 => ?_)
      · rw [if_pos c_13] at hf
        exact hKK m u1 u2 u3 u4 u5 hf _ _ _ hw (lv_sub hl [0, 1, 2, 3, 4, 5] rfl)
      · rw [if_neg c_13] at hf
        refine lv_aload_n hx hb dX7_fix_73 rfl (lv_at hl 0 rfl) ?_
        refine lv_iload hx hb dX7_fix_74 (lv_at hl 5 rfl) ?_
        refine lv_iload_n hx hb dX7_fix_76 rfl (lv_at hl 1 rfl) ?_
        obtain ⟨q_14, h_15, hf⟩ := nn_bind hf
        refine nn_calliV S (As := [.int (u5), .int (u1)]) (rest := []) (ce_M (k := 0)) (by decide) rfl rfl (c_X7_setsIn l D cy ad A (sM σ m) m rfl u5 u1 q_14 h_15 (sM σ q_14.2) rfl) mv_X7_setsIn tb_4_163 hK hw ⟨Nat.le_of_ble_eq_true rfl, Nat.le_of_ble_eq_true rfl⟩ ⟨Nat.zero_le _, Nat.zero_le _⟩ rfl hl.1 rfl (Nat.le_of_ble_eq_true rfl) dX7_fix_77 (fun H locs hw => ?_)
        refine lv_istore (lv' := [(6, .int (q_14.1)), (0, .ref (ad (136))), (1, .int (u1)), (2, .int (u2)), (3, .int (u3)), (4, .int (u4)), (5, .int (u5))]) hx hb dX7_fix_80 hl (by decide) rfl (fun ls hl => ?_)
        refine lv_iload hx hb dX7_fix_82 (lv_at hl 0 rfl) ?_
        refine lv_bipush (v := -4) hx hb dX7_fix_84 (by decide) ?_
        refine lv_icmp_eq (tgt := 137) hx hb dX7_fix_86 (by decide) (fun c_16 => ?_) (fun c_16 => ?_)
        · rw [if_pos c_16] at hf
          refine lv_iinc (v := u5 + (1 : Int32)) (lv' := [(5, .int (u5 + (1 : Int32))), (6, .int (q_14.1)), (0, .ref (ad (136))), (1, .int (u1)), (2, .int (u2)), (3, .int (u3)), (4, .int (u4))]) hx hb dX7_fix_137 hl (k := 6) rfl (congrArg (fun z => u5 + z) (by decide)) (by decide) rfl (fun ls hl => ?_)
          refine lv_goto (tgt := 67) hx hb dX7_fix_140 (by decide) ?_
          exact ih q_14.2 u1 u2 u3 u4 (u5 + (1 : Int32)) K hKK hf _ _ _ hw (lv_sub hl [2, 3, 4, 5, 6, 0] rfl)
        · rw [if_neg c_16] at hf
          refine lv_iload hx hb dX7_fix_89 (lv_at hl 5 rfl) ?_
          refine lv_bipush (v := -4) hx hb dX7_fix_91 (by decide) ?_
          refine lv_icmp_eq (tgt := 103) hx hb dX7_fix_93 (by decide) (fun c_17 => ?_) (fun c_17 => ?_)
          · rw [if_pos c_17] at hf
            refine lv_iload hx hb dX7_fix_103 (lv_at hl 0 rfl) ?_
            refine lv_istore (lv' := [(4, .int (q_14.1)), (6, .int (q_14.1)), (0, .ref (ad (136))), (1, .int (u1)), (2, .int (u2)), (3, .int (u3)), (5, .int (u5))]) hx hb dX7_fix_105 hl (by decide) rfl (fun ls hl => ?_)
            refine lv_iconst (v := 0) hx hb dX7_fix_107 (by decide) ?_
            refine lv_istore (lv' := [(7, .int ((0 : Int32))), (4, .int (q_14.1)), (6, .int (q_14.1)), (0, .ref (ad (136))), (1, .int (u1)), (2, .int (u2)), (3, .int (u3)), (5, .int (u5))]) hx hb dX7_fix_108 hl (by decide) rfl (fun ls hl => ?_)
            refine L110 100000 q_14.2 u1 u2 u3 q_14.1 u5 (0 : Int32) _ (fun m_29 b1_23 b2_24 b3_25 b4_26 b5_27 b7_28 hf H locs ls hw hl => ?_) hf _ _ _ hw (lv_sub hl [3, 4, 5, 6, 1, 7, 0] rfl)
            refine lv_iinc (v := b5_27 + (1 : Int32)) (lv' := [(5, .int (b5_27 + (1 : Int32))), (0, .ref (ad (136))), (1, .int (b1_23)), (2, .int (b2_24)), (3, .int (b3_25)), (4, .int (b4_26)), (7, .int (b7_28))]) hx hb dX7_fix_137 hl (k := 5) rfl (congrArg (fun z => b5_27 + z) (by decide)) (by decide) rfl (fun ls hl => ?_)
            refine lv_goto (tgt := 67) hx hb dX7_fix_140 (by decide) ?_
            exact ih m_29 b1_23 b2_24 b3_25 b4_26 (b5_27 + (1 : Int32)) K hKK hf _ _ _ hw (lv_sub hl [1, 2, 3, 4, 5, 0] rfl)
          · rw [if_neg c_17] at hf
            refine lv_iload hx hb dX7_fix_96 (lv_at hl 0 rfl) ?_
            refine lv_iload hx hb dX7_fix_98 (lv_at hl 5 rfl) ?_
            refine lv_icmp_ge (tgt := 137) hx hb dX7_fix_100 (by decide) (fun c_30 => ?_) (fun c_30 => ?_)
            · rw [if_pos c_30] at hf
              refine lv_iinc (v := u5 + (1 : Int32)) (lv' := [(5, .int (u5 + (1 : Int32))), (6, .int (q_14.1)), (0, .ref (ad (136))), (1, .int (u1)), (2, .int (u2)), (3, .int (u3)), (4, .int (u4))]) hx hb dX7_fix_137 hl (k := 6) rfl (congrArg (fun z => u5 + z) (by decide)) (by decide) rfl (fun ls hl => ?_)
              refine lv_goto (tgt := 67) hx hb dX7_fix_140 (by decide) ?_
              exact ih q_14.2 u1 u2 u3 u4 (u5 + (1 : Int32)) K hKK hf _ _ _ hw (lv_sub hl [2, 3, 4, 5, 6, 0] rfl)
            · rw [if_neg c_30] at hf
              refine lv_iload hx hb dX7_fix_103 (lv_at hl 0 rfl) ?_
              refine lv_istore (lv' := [(4, .int (q_14.1)), (6, .int (q_14.1)), (0, .ref (ad (136))), (1, .int (u1)), (2, .int (u2)), (3, .int (u3)), (5, .int (u5))]) hx hb dX7_fix_105 hl (by decide) rfl (fun ls hl => ?_)
              refine lv_iconst (v := 0) hx hb dX7_fix_107 (by decide) ?_
              refine lv_istore (lv' := [(7, .int ((0 : Int32))), (4, .int (q_14.1)), (6, .int (q_14.1)), (0, .ref (ad (136))), (1, .int (u1)), (2, .int (u2)), (3, .int (u3)), (5, .int (u5))]) hx hb dX7_fix_108 hl (by decide) rfl (fun ls hl => ?_)
              refine L110 100000 q_14.2 u1 u2 u3 q_14.1 u5 (0 : Int32) _ (fun m_37 b1_31 b2_32 b3_33 b4_34 b5_35 b7_36 hf H locs ls hw hl => ?_) hf _ _ _ hw (lv_sub hl [3, 4, 5, 6, 1, 7, 0] rfl)
              refine lv_iinc (v := b5_35 + (1 : Int32)) (lv' := [(5, .int (b5_35 + (1 : Int32))), (0, .ref (ad (136))), (1, .int (b1_31)), (2, .int (b2_32)), (3, .int (b3_33)), (4, .int (b4_34)), (7, .int (b7_36))]) hx hb dX7_fix_137 hl (k := 5) rfl (congrArg (fun z => b5_35 + z) (by decide)) (by decide) rfl (fun ls hl => ?_)
              refine lv_goto (tgt := 67) hx hb dX7_fix_140 (by decide) ?_
              exact ih m_37 b1_31 b2_32 b3_33 b4_34 (b5_35 + (1 : Int32)) K hKK hf _ _ _ hw (lv_sub hl [1, 2, 3, 4, 5, 0] rfl)
  refine lv_iload_n hx hb dX7_fix_0 rfl (lv_at hl 1 rfl) ?_
  refine lv_i2l (v := a1.toInt64) hx hb dX7_fix_1 rfl ?_
  refine lv_lconst (v := 1) hx hb dX7_fix_2 (by decide) ?_
  refine lv_ldc2 (v := 12) hx hb S.2.2.2.1 (S.2.2.2.2 _ tb_4_161) dX7_fix_3 ?_
  obtain ⟨q_1, h_2, hf⟩ := nn_bind hf
  refine nn_calliS S (As := [.long (a1.toInt64), .long ((1 : Int64)), .long ((12 : Int64))]) (rest := []) (c_X7_in l D cy ad A (sM σ m) a1.toInt64 (1 : Int64) (12 : Int64) q_1 h_2) mv_X7_in tb_3_214 hK hw ⟨Nat.le_of_ble_eq_true rfl, Nat.le_of_ble_eq_true rfl⟩ ⟨Nat.zero_le _, Nat.zero_le _⟩ rfl hl.1 rfl (Nat.le_of_ble_eq_true rfl) dX7_fix_6 (fun H locs hw => ?_)
  refine lv_if_eq (tgt := 32) hx hb dX7_fix_9 (by decide) (fun c_3 => ?_) (fun c_3 => ?_)
  · rw [if_pos c_3] at hf
    refine lv_iconst (v := -1) hx hb dX7_fix_32 (by decide) ?_
    obtain rfl := Option.some.inj hf
    exact nn_iret S hr hlk hw rfl hσ dX7_fix_33
  · rw [if_neg c_3] at hf
    refine lv_iload_n hx hb dX7_fix_12 rfl (lv_at hl 2 rfl) ?_
    refine lv_i2l (v := a2.toInt64) hx hb dX7_fix_13 rfl ?_
    refine lv_ldc2 (v := -1) hx hb S.2.2.2.1 (S.2.2.2.2 _ tb_4_162) dX7_fix_14 ?_
    refine lv_aload_n hx hb dX7_fix_17 rfl (lv_at hl 0 rfl) ?_
    refine gf_Md_now S hK hw tb_3_145 dX7_fix_18 ?_
    refine lv_iconst (v := 0) hx hb dX7_fix_21 (by decide) ?_
    refine al_Md_now S hK hw (x := m) rfl (by decide) dX7_fix_22 ?_
    refine lv_iconst (v := 1) hx hb dX7_fix_23 (by decide) ?_
    refine lv_isub hx hb dX7_fix_24 ?_
    refine lv_i2l (v := (((g_Md_now m) (0 : Int32).toNatClampNeg) - (1 : Int32)).toInt64) hx hb dX7_fix_25 rfl ?_
    obtain ⟨q_4, h_5, hf⟩ := nn_bind hf
    refine nn_calliS S (As := [.long (a2.toInt64), .long ((-1 : Int64)), .long ((((g_Md_now m) (0 : Int32).toNatClampNeg) - (1 : Int32)).toInt64)]) (rest := []) (c_X7_in l D cy ad A (sM σ m) a2.toInt64 (-1 : Int64) ((((g_Md_now m) (0 : Int32).toNatClampNeg) - (1 : Int32)).toInt64) q_4 h_5) mv_X7_in tb_3_214 hK hw ⟨Nat.le_of_ble_eq_true rfl, Nat.le_of_ble_eq_true rfl⟩ ⟨Nat.zero_le _, Nat.zero_le _⟩ rfl hl.1 rfl (Nat.le_of_ble_eq_true rfl) dX7_fix_26 (fun H locs hw => ?_)
    refine lv_if_ne (tgt := 34) hx hb dX7_fix_29 (by decide) (fun c_6 => ?_) (fun c_6 => ?_)
    · rw [if_neg c_6] at hf
      refine lv_iconst (v := 1) hx hb dX7_fix_34 (by decide) ?_
      refine lv_istore_n (lv' := [(3, .int ((1 : Int32))), (0, .ref (ad (136))), (1, .int (a1)), (2, .int (a2))]) hx hb dX7_fix_35 rfl hl (by decide) rfl (fun ls hl => ?_)
      refine lv_iconst (v := 0) hx hb dX7_fix_36 (by decide) ?_
      refine lv_istore (lv' := [(4, .int ((0 : Int32))), (3, .int ((1 : Int32))), (0, .ref (ad (136))), (1, .int (a1)), (2, .int (a2))]) hx hb dX7_fix_37 hl (by decide) rfl (fun ls hl => ?_)
      refine L39 100000 m a1 a2 (1 : Int32) (0 : Int32) _ (fun m_12 b1_8 b2_9 b3_10 b4_11 hf H locs ls hw hl => ?_) hf _ _ _ hw (lv_sub hl [2, 3, 4, 1, 0] rfl)
      refine lv_bipush (v := -4) hx hb dX7_fix_60 (by decide) ?_
      refine lv_istore (lv' := [(4, .int ((-4 : Int32))), (0, .ref (ad (136))), (1, .int (b1_8)), (2, .int (b2_9)), (3, .int (b3_10))]) hx hb dX7_fix_62 hl (by decide) rfl (fun ls hl => ?_)
      refine lv_iconst (v := 0) hx hb dX7_fix_64 (by decide) ?_
      refine lv_istore (lv' := [(5, .int ((0 : Int32))), (4, .int ((-4 : Int32))), (0, .ref (ad (136))), (1, .int (b1_8)), (2, .int (b2_9)), (3, .int (b3_10))]) hx hb dX7_fix_65 hl (by decide) rfl (fun ls hl => ?_)
      refine L67 100000 m_12 b1_8 b2_9 b3_10 (-4 : Int32) (0 : Int32) _ (fun m_43 b1_38 b2_39 b3_40 b4_41 b5_42 hf H locs ls hw hl => ?_) hf _ _ _ hw (lv_sub hl [2, 3, 4, 5, 1, 0] rfl)
      refine lv_iload_n hx hb dX7_fix_143 rfl (lv_at hl 2 rfl) ?_
      refine lv_if_lt (tgt := 154) hx hb dX7_fix_144 (by decide) (fun c_44 => ?_) (fun c_44 => ?_)
      · rw [if_pos c_44] at hf
        refine lv_iload hx hb dX7_fix_154 (lv_at hl 4 rfl) ?_
        refine lv_goto (tgt := 165) hx hb dX7_fix_156 (by decide) ?_
        obtain rfl := Option.some.inj hf
        exact nn_iret S hr hlk hw rfl hσ dX7_fix_165
      · rw [if_neg c_44] at hf
        refine lv_iload hx hb dX7_fix_147 (lv_at hl 4 rfl) ?_
        refine lv_bipush (v := -4) hx hb dX7_fix_149 (by decide) ?_
        refine lv_icmp_ne (tgt := 159) hx hb dX7_fix_151 (by decide) (fun c_45 => ?_) (fun c_45 => ?_)
        · rw [if_neg c_45] at hf
          refine lv_aload_n hx hb dX7_fix_159 rfl (lv_at hl 0 rfl) ?_
          refine gf_Md_best S hK hw tb_3_157 dX7_fix_160 ?_
          refine lv_iload_n hx hb dX7_fix_163 rfl (lv_at hl 2 rfl) ?_
          obtain ⟨g_46, hf⟩ := nn_ix_some hf
          refine al_Md_best S hK hw (x := m_43) rfl g_46 dX7_fix_164 ?_
          obtain rfl := Option.some.inj hf
          exact nn_iret S hr hlk hw rfl hσ dX7_fix_165
        · rw [if_pos c_45] at hf
          refine lv_iload hx hb dX7_fix_154 (lv_at hl 4 rfl) ?_
          refine lv_goto (tgt := 165) hx hb dX7_fix_156 (by decide) ?_
          obtain rfl := Option.some.inj hf
          exact nn_iret S hr hlk hw rfl hσ dX7_fix_165
    · rw [if_pos c_6] at hf
      refine lv_iconst (v := -1) hx hb dX7_fix_32 (by decide) ?_
      obtain rfl := Option.some.inj hf
      exact nn_iret S hr hlk hw rfl hσ dX7_fix_33
set_option maxRecDepth 100000 in
set_option maxHeartbeats 4000000 in
theorem c_X7_free (l : Launch) (D : va_G) (cy : Nat → ClassId) (ad : Nat → Nat) (A : Nat → Prop) (σ : nG) (m : nMd) (hx_M : gM σ = m) (a1 : Int32) (a2 : Int32) (q : Int64) (hf : f_X7_free m a1 a2 = some q) : nn_J l yX7_free (nn_ws yX7_free cX7_free 12 (some .long)) (nn_R 2) D cy ad A [.ref (ad (136)), .int (a1), .int (a2)] σ q σ := by
  refine nn_enterJ (plainFor_of_name (by decide +kernel)) (Nat.le_of_ble_eq_true rfl) (lv := [(0, .ref (ad (136))), (1, .int (a1)), (2, .int (a2))]) rfl ?_
  intro pp ee ss mm bb me co S hr hlk hK hw ls hl
  have hx := S.1
  have hb := S.2.1
  unfold f_X7_free at hf
  have L53 : ∀ (n : Nat) (u1 : Int32) (u2 : Int32) (u3 : Int64) (u5 : Int64) (u7 : Int64) (u9 : Int32) (u10 : Int32) (u11 : Int32) (K : Int32 → Int32 → Int64 → Int64 → Int64 → Int32 → Int32 → Int32 → Option (Int64)), (∀ (u1 : Int32) (u2 : Int32) (u3 : Int64) (u5 : Int64) (u7 : Int64) (u9 : Int32) (u10 : Int32) (u11 : Int32), K u1 u2 u3 u5 u7 u9 u10 u11 = some q → ∀ (H : Heap) (locs : List Loc) (ls : Array Slot), nn_W D cy ad A ss.heap σ H locs → lv_has ls 12 [(0, .ref (ad (136))), (1, .int (u1)), (2, .int (u2)), (3, .long (u3)), (5, .long (u5)), (7, .long (u7)), (9, .int (u9)), (10, .int (u10)), (11, .int (u11))] → W pp l ee (nn_R 2) ss mm ([.ref (ad (136)), .int (a1), .int (a2)] : List Value).toArray bb me co H locs 0 0 (MQ bb (nn_ql D cy ad A q σ) ([.ref (ad (136)), .int (a1), .int (a2)] : List Value).toArray ss 0 0 A) (F0 mm 97 ls [])) → f_X7_free_L53 m n u1 u2 u3 u5 u7 u9 u10 u11 K = some q → ∀ (H : Heap) (locs : List Loc) (ls : Array Slot), nn_W D cy ad A ss.heap σ H locs → lv_has ls 12 [(0, .ref (ad (136))), (1, .int (u1)), (2, .int (u2)), (3, .long (u3)), (5, .long (u5)), (7, .long (u7)), (9, .int (u9)), (10, .int (u10)), (11, .int (u11))] → W pp l ee (nn_R 2) ss mm ([.ref (ad (136)), .int (a1), .int (a2)] : List Value).toArray bb me co H locs 0 0 (MQ bb (nn_ql D cy ad A q σ) ([.ref (ad (136)), .int (a1), .int (a2)] : List Value).toArray ss 0 0 A) (F0 mm 53 ls []) := by
    intro n
    induction n with
    | zero => intro u1 u2 u3 u5 u7 u9 u10 u11 K hKK hf; exact absurd hf (by simp [f_X7_free_L53])
    | succ n ih =>
      intro u1 u2 u3 u5 u7 u9 u10 u11 K hKK hf H locs ls hw hl
      rw [f_X7_free_L53] at hf
      refine lv_iload hx hb dX7_free_53 (lv_at hl 8 rfl) ?_
      refine lv_aload_n hx hb dX7_free_55 rfl (lv_at hl 0 rfl) ?_
      refine gf_Md_now S hK hw tb_3_145 dX7_free_56 ?_
      refine lv_iconst (v := 0) hx hb dX7_free_59 (by decide) ?_
      refine al_Md_now S hK hw (x := m) hx_M (by decide) dX7_free_60 ?_
      refine lv_icmp_ge (tgt := 97) hx hb dX7_free_61 (by decide) (fun c_8 => ?_) (fun c_8 => ?_)
      · rw [if_pos c_8] at hf
        exact hKK u1 u2 u3 u5 u7 u9 u10 u11 hf _ _ _ hw (lv_sub hl [0, 1, 2, 3, 4, 5, 6, 7, 8] rfl)
      · rw [if_neg c_8] at hf
        refine lv_iload hx hb dX7_free_64 (lv_at hl 7 rfl) ?_
        refine lv_if_eq (tgt := 88) hx hb dX7_free_66 (by decide) (fun c_9 => ?_) (fun c_9 => ?_)
        · rw [if_pos c_9] at hf
          refine lv_iconst (v := 0) hx hb dX7_free_88 (by decide) ?_
          refine lv_istore (lv' := [(10, .int ((0 : Int32))), (0, .ref (ad (136))), (1, .int (u1)), (2, .int (u2)), (3, .long (u3)), (5, .long (u5)), (7, .long (u7)), (9, .int (u9)), (11, .int (u11))]) hx hb dX7_free_89 hl (by decide) rfl (fun ls hl => ?_)
          refine lv_iinc (v := u11 + (1 : Int32)) (lv' := [(11, .int (u11 + (1 : Int32))), (10, .int ((0 : Int32))), (0, .ref (ad (136))), (1, .int (u1)), (2, .int (u2)), (3, .long (u3)), (5, .long (u5)), (7, .long (u7)), (9, .int (u9))]) hx hb dX7_free_91 hl (k := 8) rfl (congrArg (fun z => u11 + z) (by decide)) (by decide) rfl (fun ls hl => ?_)
          refine lv_goto (tgt := 53) hx hb dX7_free_94 (by decide) ?_
          exact ih u1 u2 u3 u5 u7 u9 (0 : Int32) (u11 + (1 : Int32)) K hKK hf _ _ _ hw (lv_sub hl [2, 3, 4, 5, 6, 7, 8, 1, 0] rfl)
        · rw [if_neg c_9] at hf
          refine lv_aload_n hx hb dX7_free_69 rfl (lv_at hl 0 rfl) ?_
          refine lv_iload hx hb dX7_free_70 (lv_at hl 8 rfl) ?_
          obtain ⟨q_10, h_11, hf⟩ := nn_bind hf
          refine nn_calliV S (As := [.int (u11)]) (rest := []) (ce_M (k := 0)) (by decide) rfl rfl (c_X7_minuteOf l D cy ad A σ m hx_M u11 q_10 h_11) mv_X7_minuteOf tb_4_8 hK hw ⟨Nat.le_of_ble_eq_true rfl, Nat.le_of_ble_eq_true rfl⟩ ⟨Nat.zero_le _, Nat.zero_le _⟩ rfl hl.1 rfl (Nat.le_of_ble_eq_true rfl) dX7_free_72 (fun H locs hw => ?_)
          refine lv_iload hx hb dX7_free_75 (lv_at hl 6 rfl) ?_
          obtain ⟨q_12, h_13, hf⟩ := nn_bind hf
          refine nn_calliS S (As := [.int (q_10), .int (u9)]) (rest := []) (c_X7_between l D cy ad A σ q_10 u9 q_12 h_13) mv_X7_between tb_4_12 hK hw ⟨Nat.le_of_ble_eq_true rfl, Nat.le_of_ble_eq_true rfl⟩ ⟨Nat.zero_le _, Nat.zero_le _⟩ rfl hl.1 rfl (Nat.le_of_ble_eq_true rfl) dX7_free_77 (fun H locs hw => ?_)
          refine lv_iload_n hx hb dX7_free_80 rfl (lv_at hl 1 rfl) ?_
          refine lv_icmp_lt (tgt := 88) hx hb dX7_free_81 (by decide) (fun c_14 => ?_) (fun c_14 => ?_)
          · rw [if_pos c_14] at hf
            refine lv_iconst (v := 0) hx hb dX7_free_88 (by decide) ?_
            refine lv_istore (lv' := [(10, .int ((0 : Int32))), (0, .ref (ad (136))), (1, .int (u1)), (2, .int (u2)), (3, .long (u3)), (5, .long (u5)), (7, .long (u7)), (9, .int (u9)), (11, .int (u11))]) hx hb dX7_free_89 hl (by decide) rfl (fun ls hl => ?_)
            refine lv_iinc (v := u11 + (1 : Int32)) (lv' := [(11, .int (u11 + (1 : Int32))), (10, .int ((0 : Int32))), (0, .ref (ad (136))), (1, .int (u1)), (2, .int (u2)), (3, .long (u3)), (5, .long (u5)), (7, .long (u7)), (9, .int (u9))]) hx hb dX7_free_91 hl (k := 8) rfl (congrArg (fun z => u11 + z) (by decide)) (by decide) rfl (fun ls hl => ?_)
            refine lv_goto (tgt := 53) hx hb dX7_free_94 (by decide) ?_
            exact ih u1 u2 u3 u5 u7 u9 (0 : Int32) (u11 + (1 : Int32)) K hKK hf _ _ _ hw (lv_sub hl [2, 3, 4, 5, 6, 7, 8, 1, 0] rfl)
          · rw [if_neg c_14] at hf
            refine lv_iconst (v := 1) hx hb dX7_free_84 (by decide) ?_
            refine lv_goto (tgt := 89) hx hb dX7_free_85 (by decide) ?_
            refine lv_istore (lv' := [(10, .int ((1 : Int32))), (0, .ref (ad (136))), (1, .int (u1)), (2, .int (u2)), (3, .long (u3)), (5, .long (u5)), (7, .long (u7)), (9, .int (u9)), (11, .int (u11))]) hx hb dX7_free_89 hl (by decide) rfl (fun ls hl => ?_)
            refine lv_iinc (v := u11 + (1 : Int32)) (lv' := [(11, .int (u11 + (1 : Int32))), (10, .int ((1 : Int32))), (0, .ref (ad (136))), (1, .int (u1)), (2, .int (u2)), (3, .long (u3)), (5, .long (u5)), (7, .long (u7)), (9, .int (u9))]) hx hb dX7_free_91 hl (k := 8) rfl (congrArg (fun z => u11 + z) (by decide)) (by decide) rfl (fun ls hl => ?_)
            refine lv_goto (tgt := 53) hx hb dX7_free_94 (by decide) ?_
            exact ih u1 u2 u3 u5 u7 u9 (1 : Int32) (u11 + (1 : Int32)) K hKK hf _ _ _ hw (lv_sub hl [2, 3, 4, 5, 6, 7, 8, 1, 0] rfl)
  have J125 : ∀ (u1 : Int32) (u2 : Int32) (u3 : Int64) (u7 : Int64) (u9 : Int32) (u10 : Int32) (s0 : Int64) (s1 : Int64) (RC K : Int32 → Int32 → Int64 → Int64 → Int64 → Int32 → Option (Int64)), (∀ (u1 : Int32) (u2 : Int32) (u3 : Int64) (u5 : Int64) (u7 : Int64) (u9 : Int32), RC u1 u2 u3 u5 u7 u9 = some q → ∀ (H : Heap) (locs : List Loc) (ls : Array Slot), nn_W D cy ad A ss.heap σ H locs → lv_has ls 12 [(0, .ref (ad (136))), (1, .int (u1)), (2, .int (u2)), (3, .long (u3)), (5, .long (u5)), (7, .long (u7)), (9, .int (u9))] → W pp l ee (nn_R 2) ss mm ([.ref (ad (136)), .int (a1), .int (a2)] : List Value).toArray bb me co H locs 0 0 (MQ bb (nn_ql D cy ad A q σ) ([.ref (ad (136)), .int (a1), .int (a2)] : List Value).toArray ss 0 0 A) (F0 mm 42 ls [])) → (∀ (u1 : Int32) (u2 : Int32) (u3 : Int64) (u5 : Int64) (u7 : Int64) (u9 : Int32), K u1 u2 u3 u5 u7 u9 = some q → ∀ (H : Heap) (locs : List Loc) (ls : Array Slot), nn_W D cy ad A ss.heap σ H locs → lv_has ls 12 [(0, .ref (ad (136))), (1, .int (u1)), (2, .int (u2)), (3, .long (u3)), (5, .long (u5)), (7, .long (u7)), (9, .int (u9))] → W pp l ee (nn_R 2) ss mm ([.ref (ad (136)), .int (a1), .int (a2)] : List Value).toArray bb me co H locs 0 0 (MQ bb (nn_ql D cy ad A q σ) ([.ref (ad (136)), .int (a1), .int (a2)] : List Value).toArray ss 0 0 A) (F0 mm 149 ls [])) → f_X7_free_J125 m u1 u2 u3 u7 u9 u10 s0 s1 RC K = some q → ∀ (H : Heap) (locs : List Loc) (ls : Array Slot), nn_W D cy ad A ss.heap σ H locs → lv_has ls 12 [(0, .ref (ad (136))), (1, .int (u1)), (2, .int (u2)), (3, .long (u3)), (7, .long (u7)), (9, .int (u9)), (10, .int (u10))] → W pp l ee (nn_R 2) ss mm ([.ref (ad (136)), .int (a1), .int (a2)] : List Value).toArray bb me co H locs 0 0 (MQ bb (nn_ql D cy ad A q σ) ([.ref (ad (136)), .int (a1), .int (a2)] : List Value).toArray ss 0 0 A) (F0 mm 125 ls [.long (s0), .long (s1)]) := by
    intro u1 u2 u3 u7 u9 u10 s0 s1 RC K hRC hKK hf H locs ls hw hl
    unfold f_X7_free_J125 at hf
    refine lv_ladd hx hb dX7_free_125 ?_
    refine lv_lstore (lv' := [(5, .long (s1 + s0)), (0, .ref (ad (136))), (1, .int (u1)), (2, .int (u2)), (3, .long (u3)), (7, .long (u7)), (9, .int (u9)), (10, .int (u10))]) hx hb dX7_free_126 hl (by decide) rfl (fun ls hl => ?_)
    refine lv_iload hx hb dX7_free_128 (lv_at hl 7 rfl) ?_
    refine lv_if_eq (tgt := 139) hx hb dX7_free_130 (by decide) (fun c_25 => ?_) (fun c_25 => ?_)
    · rw [if_pos c_25] at hf
      refine lv_lload hx hb dX7_free_139 (lv_at hl 5 rfl) ?_
      refine lv_lstore (lv' := [(7, .long (u7)), (5, .long (s1 + s0)), (0, .ref (ad (136))), (1, .int (u1)), (2, .int (u2)), (3, .long (u3)), (9, .int (u9)), (10, .int (u10))]) hx hb dX7_free_141 hl (by decide) rfl (fun ls hl => ?_)
      refine lv_iinc (v := u9 + (-1 : Int32)) (lv' := [(9, .int (u9 + (-1 : Int32))), (7, .long (u7)), (5, .long (s1 + s0)), (0, .ref (ad (136))), (1, .int (u1)), (2, .int (u2)), (3, .long (u3)), (10, .int (u10))]) hx hb dX7_free_143 hl (k := 6) rfl (congrArg (fun z => u9 + z) (by decide)) (by decide) rfl (fun ls hl => ?_)
      refine lv_goto (tgt := 42) hx hb dX7_free_146 (by decide) ?_
      exact hRC u1 u2 u3 (s1 + s0) u7 (u9 + (-1 : Int32)) hf _ _ _ hw (lv_sub hl [3, 4, 5, 6, 2, 1, 0] rfl)
    · rw [if_neg c_25] at hf
      refine lv_iload hx hb dX7_free_133 (lv_at hl 6 rfl) ?_
      refine lv_i2l (v := u9.toInt64) hx hb dX7_free_135 rfl ?_
      refine lv_goto (tgt := 141) hx hb dX7_free_136 (by decide) ?_
      refine lv_lstore (lv' := [(7, .long (u9.toInt64)), (5, .long (s1 + s0)), (0, .ref (ad (136))), (1, .int (u1)), (2, .int (u2)), (3, .long (u3)), (9, .int (u9)), (10, .int (u10))]) hx hb dX7_free_141 hl (by decide) rfl (fun ls hl => ?_)
      refine lv_iinc (v := u9 + (-1 : Int32)) (lv' := [(9, .int (u9 + (-1 : Int32))), (7, .long (u9.toInt64)), (5, .long (s1 + s0)), (0, .ref (ad (136))), (1, .int (u1)), (2, .int (u2)), (3, .long (u3)), (10, .int (u10))]) hx hb dX7_free_143 hl (k := 6) rfl (congrArg (fun z => u9 + z) (by decide)) (by decide) rfl (fun ls hl => ?_)
      refine lv_goto (tgt := 42) hx hb dX7_free_146 (by decide) ?_
      exact hRC u1 u2 u3 (s1 + s0) u9.toInt64 (u9 + (-1 : Int32)) hf _ _ _ hw (lv_sub hl [3, 4, 5, 6, 2, 1, 0] rfl)
  have J111 : ∀ (u1 : Int32) (u2 : Int32) (u5 : Int64) (u7 : Int64) (u9 : Int32) (u10 : Int32) (s0 : Int64) (s1 : Int64) (RC K : Int32 → Int32 → Int64 → Int64 → Int64 → Int32 → Option (Int64)), (∀ (u1 : Int32) (u2 : Int32) (u3 : Int64) (u5 : Int64) (u7 : Int64) (u9 : Int32), RC u1 u2 u3 u5 u7 u9 = some q → ∀ (H : Heap) (locs : List Loc) (ls : Array Slot), nn_W D cy ad A ss.heap σ H locs → lv_has ls 12 [(0, .ref (ad (136))), (1, .int (u1)), (2, .int (u2)), (3, .long (u3)), (5, .long (u5)), (7, .long (u7)), (9, .int (u9))] → W pp l ee (nn_R 2) ss mm ([.ref (ad (136)), .int (a1), .int (a2)] : List Value).toArray bb me co H locs 0 0 (MQ bb (nn_ql D cy ad A q σ) ([.ref (ad (136)), .int (a1), .int (a2)] : List Value).toArray ss 0 0 A) (F0 mm 42 ls [])) → (∀ (u1 : Int32) (u2 : Int32) (u3 : Int64) (u5 : Int64) (u7 : Int64) (u9 : Int32), K u1 u2 u3 u5 u7 u9 = some q → ∀ (H : Heap) (locs : List Loc) (ls : Array Slot), nn_W D cy ad A ss.heap σ H locs → lv_has ls 12 [(0, .ref (ad (136))), (1, .int (u1)), (2, .int (u2)), (3, .long (u3)), (5, .long (u5)), (7, .long (u7)), (9, .int (u9))] → W pp l ee (nn_R 2) ss mm ([.ref (ad (136)), .int (a1), .int (a2)] : List Value).toArray bb me co H locs 0 0 (MQ bb (nn_ql D cy ad A q σ) ([.ref (ad (136)), .int (a1), .int (a2)] : List Value).toArray ss 0 0 A) (F0 mm 149 ls [])) → f_X7_free_J111 m u1 u2 u5 u7 u9 u10 s0 s1 RC K = some q → ∀ (H : Heap) (locs : List Loc) (ls : Array Slot), nn_W D cy ad A ss.heap σ H locs → lv_has ls 12 [(0, .ref (ad (136))), (1, .int (u1)), (2, .int (u2)), (5, .long (u5)), (7, .long (u7)), (9, .int (u9)), (10, .int (u10))] → W pp l ee (nn_R 2) ss mm ([.ref (ad (136)), .int (a1), .int (a2)] : List Value).toArray bb me co H locs 0 0 (MQ bb (nn_ql D cy ad A q σ) ([.ref (ad (136)), .int (a1), .int (a2)] : List Value).toArray ss 0 0 A) (F0 mm 111 ls [.long (s0), .long (s1)]) := by
    intro u1 u2 u5 u7 u9 u10 s0 s1 RC K hRC hKK hf H locs ls hw hl
    unfold f_X7_free_J111 at hf
    refine lv_lor hx hb dX7_free_111 ?_
    refine lv_lstore_n (lv' := [(3, .long (s1 ||| s0)), (0, .ref (ad (136))), (1, .int (u1)), (2, .int (u2)), (5, .long (u5)), (7, .long (u7)), (9, .int (u9)), (10, .int (u10))]) hx hb dX7_free_112 rfl hl (by decide) rfl (fun ls hl => ?_)
    refine lv_lload hx hb dX7_free_113 (lv_at hl 4 rfl) ?_
    refine lv_iload hx hb dX7_free_115 (lv_at hl 7 rfl) ?_
    refine lv_if_eq (tgt := 124) hx hb dX7_free_117 (by decide) (fun c_24 => ?_) (fun c_24 => ?_)
    · rw [if_pos c_24] at hf
      refine lv_lconst (v := 0) hx hb dX7_free_124 (by decide) ?_
      exact J125 u1 u2 (s1 ||| s0) u7 u9 u10 (0 : Int64) u5 RC K hRC hKK hf _ _ _ hw (lv_sub hl [1, 2, 3, 0, 5, 6, 7] rfl)
    · rw [if_neg c_24] at hf
      refine lv_lconst (v := 1) hx hb dX7_free_120 (by decide) ?_
      refine lv_goto (tgt := 125) hx hb dX7_free_121 (by decide) ?_
      exact J125 u1 u2 (s1 ||| s0) u7 u9 u10 (1 : Int64) u5 RC K hRC hKK hf _ _ _ hw (lv_sub hl [1, 2, 3, 0, 5, 6, 7] rfl)
  have L42 : ∀ (n : Nat) (u1 : Int32) (u2 : Int32) (u3 : Int64) (u5 : Int64) (u7 : Int64) (u9 : Int32) (K : Int32 → Int32 → Int64 → Int64 → Int64 → Int32 → Option (Int64)), (∀ (u1 : Int32) (u2 : Int32) (u3 : Int64) (u5 : Int64) (u7 : Int64) (u9 : Int32), K u1 u2 u3 u5 u7 u9 = some q → ∀ (H : Heap) (locs : List Loc) (ls : Array Slot), nn_W D cy ad A ss.heap σ H locs → lv_has ls 12 [(0, .ref (ad (136))), (1, .int (u1)), (2, .int (u2)), (3, .long (u3)), (5, .long (u5)), (7, .long (u7)), (9, .int (u9))] → W pp l ee (nn_R 2) ss mm ([.ref (ad (136)), .int (a1), .int (a2)] : List Value).toArray bb me co H locs 0 0 (MQ bb (nn_ql D cy ad A q σ) ([.ref (ad (136)), .int (a1), .int (a2)] : List Value).toArray ss 0 0 A) (F0 mm 149 ls [])) → f_X7_free_L42 m n u1 u2 u3 u5 u7 u9 K = some q → ∀ (H : Heap) (locs : List Loc) (ls : Array Slot), nn_W D cy ad A ss.heap σ H locs → lv_has ls 12 [(0, .ref (ad (136))), (1, .int (u1)), (2, .int (u2)), (3, .long (u3)), (5, .long (u5)), (7, .long (u7)), (9, .int (u9))] → W pp l ee (nn_R 2) ss mm ([.ref (ad (136)), .int (a1), .int (a2)] : List Value).toArray bb me co H locs 0 0 (MQ bb (nn_ql D cy ad A q σ) ([.ref (ad (136)), .int (a1), .int (a2)] : List Value).toArray ss 0 0 A) (F0 mm 42 ls []) := by
    intro n
    induction n with
    | zero => intro u1 u2 u3 u5 u7 u9 K hKK hf; exact absurd hf (by simp [f_X7_free_L42])
    | succ n ih =>
      intro u1 u2 u3 u5 u7 u9 K hKK hf H locs ls hw hl
      rw [f_X7_free_L42] at hf
      refine lv_iload hx hb dX7_free_42 (lv_at hl 6 rfl) ?_
      refine lv_if_lt (tgt := 149) hx hb dX7_free_44 (by decide) (fun c_7 => ?_) (fun c_7 => ?_)
      · rw [if_pos c_7] at hf
        exact hKK u1 u2 u3 u5 u7 u9 hf _ _ _ hw (lv_sub hl [0, 1, 2, 3, 4, 5, 6] rfl)
      · rw [if_neg c_7] at hf
        refine lv_iconst (v := 1) hx hb dX7_free_47 (by decide) ?_
        refine lv_istore (lv' := [(10, .int ((1 : Int32))), (0, .ref (ad (136))), (1, .int (u1)), (2, .int (u2)), (3, .long (u3)), (5, .long (u5)), (7, .long (u7)), (9, .int (u9))]) hx hb dX7_free_48 hl (by decide) rfl (fun ls hl => ?_)
        refine lv_iconst (v := 0) hx hb dX7_free_50 (by decide) ?_
        refine lv_istore (lv' := [(11, .int ((0 : Int32))), (10, .int ((1 : Int32))), (0, .ref (ad (136))), (1, .int (u1)), (2, .int (u2)), (3, .long (u3)), (5, .long (u5)), (7, .long (u7)), (9, .int (u9))]) hx hb dX7_free_51 hl (by decide) rfl (fun ls hl => ?_)
        refine L53 100000 u1 u2 u3 u5 u7 u9 (1 : Int32) (0 : Int32) _ (fun b1_15 b2_16 b3_17 b5_18 b7_19 b9_20 b10_21 b11_22 hf H locs ls hw hl => ?_) hf _ _ _ hw (lv_sub hl [2, 3, 4, 5, 6, 7, 8, 1, 0] rfl)
        refine lv_lload_n hx hb dX7_free_97 rfl (lv_at hl 3 rfl) ?_
        refine lv_iload hx hb dX7_free_98 (lv_at hl 7 rfl) ?_
        refine lv_if_eq (tgt := 110) hx hb dX7_free_100 (by decide) (fun c_23 => ?_) (fun c_23 => ?_)
        · rw [if_pos c_23] at hf
          refine lv_lconst (v := 0) hx hb dX7_free_110 (by decide) ?_
          exact J111 b1_15 b2_16 b5_18 b7_19 b9_20 b10_21 (0 : Int64) b3_17 _ K (fun u1 u2 u3 u5 u7 u9 hf H locs ls hw hl => ih u1 u2 u3 u5 u7 u9 K hKK hf H locs ls hw hl) hKK hf _ _ _ hw (lv_sub hl [0, 1, 2, 4, 5, 6, 7] rfl)
        · rw [if_neg c_23] at hf
          refine lv_lconst (v := 1) hx hb dX7_free_103 (by decide) ?_
          refine lv_iload hx hb dX7_free_104 (lv_at hl 6 rfl) ?_
          refine lv_lshl (v := (1 : Int64) <<< (b9_20.toInt64 &&& 63)) hx hb dX7_free_106 rfl ?_
          refine lv_goto (tgt := 111) hx hb dX7_free_107 (by decide) ?_
          exact J111 b1_15 b2_16 b5_18 b7_19 b9_20 b10_21 ((1 : Int64) <<< (b9_20.toInt64 &&& 63)) b3_17 _ K (fun u1 u2 u3 u5 u7 u9 hf H locs ls hw hl => ih u1 u2 u3 u5 u7 u9 K hKK hf H locs ls hw hl) hKK hf _ _ _ hw (lv_sub hl [0, 1, 2, 4, 5, 6, 7] rfl)
  refine lv_iload_n hx hb dX7_free_0 rfl (lv_at hl 1 rfl) ?_
  refine lv_i2l (v := a1.toInt64) hx hb dX7_free_1 rfl ?_
  refine lv_lconst (v := 1) hx hb dX7_free_2 (by decide) ?_
  refine lv_ldc2 (v := 30) hx hb S.2.2.2.1 (S.2.2.2.2 _ tb_4_171) dX7_free_3 ?_
  obtain ⟨q_1, h_2, hf⟩ := nn_bind hf
  refine nn_calliS S (As := [.long (a1.toInt64), .long ((1 : Int64)), .long ((30 : Int64))]) (rest := []) (c_X7_in l D cy ad A σ a1.toInt64 (1 : Int64) (30 : Int64) q_1 h_2) mv_X7_in tb_3_214 hK hw ⟨Nat.le_of_ble_eq_true rfl, Nat.le_of_ble_eq_true rfl⟩ ⟨Nat.zero_le _, Nat.zero_le _⟩ rfl hl.1 rfl (Nat.le_of_ble_eq_true rfl) dX7_free_6 (fun H locs hw => ?_)
  refine lv_if_eq (tgt := 24) hx hb dX7_free_9 (by decide) (fun c_3 => ?_) (fun c_3 => ?_)
  · rw [if_pos c_3] at hf
    refine lv_ldc2 (v := -1) hx hb S.2.2.2.1 (S.2.2.2.2 _ tb_4_162) dX7_free_24 ?_
    obtain rfl := Option.some.inj hf
    exact nn_lret S hr hlk hw rfl rfl dX7_free_27
  · rw [if_neg c_3] at hf
    refine lv_iload_n hx hb dX7_free_12 rfl (lv_at hl 2 rfl) ?_
    refine lv_i2l (v := a2.toInt64) hx hb dX7_free_13 rfl ?_
    refine lv_lconst (v := 0) hx hb dX7_free_14 (by decide) ?_
    refine lv_ldc2 (v := 2) hx hb S.2.2.2.1 (S.2.2.2.2 _ tb_4_172) dX7_free_15 ?_
    obtain ⟨q_4, h_5, hf⟩ := nn_bind hf
    refine nn_calliS S (As := [.long (a2.toInt64), .long ((0 : Int64)), .long ((2 : Int64))]) (rest := []) (c_X7_in l D cy ad A σ a2.toInt64 (0 : Int64) (2 : Int64) q_4 h_5) mv_X7_in tb_3_214 hK hw ⟨Nat.le_of_ble_eq_true rfl, Nat.le_of_ble_eq_true rfl⟩ ⟨Nat.zero_le _, Nat.zero_le _⟩ rfl hl.1 rfl (Nat.le_of_ble_eq_true rfl) dX7_free_18 (fun H locs hw => ?_)
    refine lv_if_ne (tgt := 28) hx hb dX7_free_21 (by decide) (fun c_6 => ?_) (fun c_6 => ?_)
    · rw [if_neg c_6] at hf
      refine lv_lconst (v := 0) hx hb dX7_free_28 (by decide) ?_
      refine lv_lstore_n (lv' := [(3, .long ((0 : Int64))), (0, .ref (ad (136))), (1, .int (a1)), (2, .int (a2))]) hx hb dX7_free_29 rfl hl (by decide) rfl (fun ls hl => ?_)
      refine lv_lconst (v := 0) hx hb dX7_free_30 (by decide) ?_
      refine lv_lstore (lv' := [(5, .long ((0 : Int64))), (3, .long ((0 : Int64))), (0, .ref (ad (136))), (1, .int (a1)), (2, .int (a2))]) hx hb dX7_free_31 hl (by decide) rfl (fun ls hl => ?_)
      refine lv_ldc2 (v := -4) hx hb S.2.2.2.1 (S.2.2.2.2 _ tb_4_173) dX7_free_33 ?_
      refine lv_lstore (lv' := [(7, .long ((-4 : Int64))), (5, .long ((0 : Int64))), (3, .long ((0 : Int64))), (0, .ref (ad (136))), (1, .int (a1)), (2, .int (a2))]) hx hb dX7_free_36 hl (by decide) rfl (fun ls hl => ?_)
      refine lv_bipush (v := 59) hx hb dX7_free_38 (by decide) ?_
      refine lv_istore (lv' := [(9, .int ((59 : Int32))), (7, .long ((-4 : Int64))), (5, .long ((0 : Int64))), (3, .long ((0 : Int64))), (0, .ref (ad (136))), (1, .int (a1)), (2, .int (a2))]) hx hb dX7_free_40 hl (by decide) rfl (fun ls hl => ?_)
      refine L42 100000 a1 a2 (0 : Int64) (0 : Int64) (-4 : Int64) (59 : Int32) _ (fun b1_26 b2_27 b3_28 b5_29 b7_30 b9_31 hf H locs ls hw hl => ?_) hf _ _ _ hw (lv_sub hl [4, 5, 6, 3, 2, 1, 0] rfl)
      refine lv_iload_n hx hb dX7_free_149 rfl (lv_at hl 2 rfl) ?_
      refine lv_if_ne (tgt := 157) hx hb dX7_free_150 (by decide) (fun c_32 => ?_) (fun c_32 => ?_)
      · rw [if_neg c_32] at hf
        refine lv_iload_n hx hb dX7_free_157 rfl (lv_at hl 2 rfl) ?_
        refine lv_iconst (v := 1) hx hb dX7_free_158 (by decide) ?_
        refine lv_icmp_ne (tgt := 167) hx hb dX7_free_159 (by decide) (fun c_33 => ?_) (fun c_33 => ?_)
        · rw [if_neg c_33] at hf
          refine lv_lload hx hb dX7_free_167 (lv_at hl 5 rfl) ?_
          obtain rfl := Option.some.inj hf
          exact nn_lret S hr hlk hw rfl rfl dX7_free_169
        · rw [if_pos c_33] at hf
          refine lv_lload hx hb dX7_free_162 (lv_at hl 4 rfl) ?_
          refine lv_goto (tgt := 169) hx hb dX7_free_164 (by decide) ?_
          obtain rfl := Option.some.inj hf
          exact nn_lret S hr hlk hw rfl rfl dX7_free_169
      · rw [if_pos c_32] at hf
        refine lv_lload_n hx hb dX7_free_153 rfl (lv_at hl 3 rfl) ?_
        refine lv_goto (tgt := 169) hx hb dX7_free_154 (by decide) ?_
        obtain rfl := Option.some.inj hf
        exact nn_lret S hr hlk hw rfl rfl dX7_free_169
    · rw [if_pos c_6] at hf
      refine lv_ldc2 (v := -1) hx hb S.2.2.2.1 (S.2.2.2.2 _ tb_4_162) dX7_free_24 ?_
      obtain rfl := Option.some.inj hf
      exact nn_lret S hr hlk hw rfl rfl dX7_free_27
set_option maxRecDepth 100000 in
set_option maxHeartbeats 4000000 in
theorem c_X7_isOrder (l : Launch) (D : va_G) (cy : Nat → ClassId) (ad : Nat → Nat) (A : Nat → Prop) (σ : nG) (m : nMd) (hx_M : gM σ = m) (a1 : Int32) (q : Int32 × nMd) (hf : f_X7_isOrder m a1 = some q) (σ' : nG) (hσ : (sM σ q.2) = σ') : nn_I l yX7_isOrder (nn_ws yX7_isOrder cX7_isOrder 5 (some .boolean)) (nn_R 0) D cy ad A [.ref (ad (136)), .int (a1)] σ q.1 σ' := by
  refine nn_enterI (plainFor_of_name (by decide +kernel)) (Nat.le_of_ble_eq_true rfl) (lv := [(0, .ref (ad (136))), (1, .int (a1))]) rfl ?_
  intro pp ee ss mm bb me co S hr hlk hK hw ls hl
  have hx := S.1
  have hb := S.2.1
  have hw : nn_W D cy ad A ss.heap (sM σ m) ss.heap [] := nn_W.eq (by rw [← hx_M]; rfl) hw
  unfold f_X7_isOrder at hf
  have L14 : ∀ (n : Nat) (m : nMd) (u2 : Int32) (u3 : Int32) (u4 : Int32) (K : nMd → Int32 → Int32 → Int32 → Option (Int32 × nMd)), (∀ (m : nMd) (u2 : Int32) (u3 : Int32) (u4 : Int32), K m u2 u3 u4 = some q → ∀ (H : Heap) (locs : List Loc) (ls : Array Slot), nn_W D cy ad A ss.heap (sM σ m) H locs → lv_has ls 5 [(0, .ref (ad (136))), (2, .int (u2)), (3, .int (u3)), (4, .int (u4))] → W pp l ee (nn_R 0) ss mm ([.ref (ad (136)), .int (a1)] : List Value).toArray bb me co H locs 0 0 (MQ bb (nn_qi D cy ad A q.1 σ') ([.ref (ad (136)), .int (a1)] : List Value).toArray ss 0 0 A) (F0 mm 61 ls [])) → f_X7_isOrder_L14 n m u2 u3 u4 K = some q → ∀ (H : Heap) (locs : List Loc) (ls : Array Slot), nn_W D cy ad A ss.heap (sM σ m) H locs → lv_has ls 5 [(0, .ref (ad (136))), (2, .int (u2)), (3, .int (u3)), (4, .int (u4))] → W pp l ee (nn_R 0) ss mm ([.ref (ad (136)), .int (a1)] : List Value).toArray bb me co H locs 0 0 (MQ bb (nn_qi D cy ad A q.1 σ') ([.ref (ad (136)), .int (a1)] : List Value).toArray ss 0 0 A) (F0 mm 14 ls []) := by
    intro n
    induction n with
    | zero => intro m u2 u3 u4 K hKK hf; exact absurd hf (by simp [f_X7_isOrder_L14])
    | succ n ih =>
      intro m u2 u3 u4 K hKK hf H locs ls hw hl
      rw [f_X7_isOrder_L14] at hf
      refine lv_iload hx hb dX7_isOrder_14 (lv_at hl 3 rfl) ?_
      refine lv_if_lt (tgt := 61) hx hb dX7_isOrder_16 (by decide) (fun c_1 => ?_) (fun c_1 => ?_)
      · rw [if_pos c_1] at hf
        exact hKK m u2 u3 u4 hf _ _ _ hw (lv_sub hl [0, 1, 2, 3] rfl)
      · rw [if_neg c_1] at hf
        refine lv_aload_n hx hb dX7_isOrder_19 rfl (lv_at hl 0 rfl) ?_
        refine gf_Md_order S hK hw tb_3_158 dX7_isOrder_20 ?_
        refine lv_iload hx hb dX7_isOrder_23 (lv_at hl 3 rfl) ?_
        refine lv_iload_n hx hb dX7_isOrder_25 rfl (lv_at hl 1 rfl) ?_
        refine lv_aload_n hx hb dX7_isOrder_26 rfl (lv_at hl 0 rfl) ?_
        refine gf_Md_now S hK hw tb_3_145 dX7_isOrder_27 ?_
        refine lv_iconst (v := 0) hx hb dX7_isOrder_30 (by decide) ?_
        refine al_Md_now S hK hw (x := m) rfl (by decide) dX7_isOrder_31 ?_
        obtain ⟨g_2, hf⟩ := nn_nz_some hf
        refine lv_irem hx hb dX7_isOrder_32 g_2 ?_
        obtain ⟨g_3, hf⟩ := nn_ix_some hf
        obtain ⟨m_4, h_5, hf⟩ := nn_bind hf
        replace h_5 := Option.some.inj h_5
        refine as_Md_order S hK hw (x := m) rfl g_3 (τ' := (sM σ m_4)) ((rfl : _ = (sM σ (s_Md_order m (upd (g_Md_order m) u4.toNatClampNeg (u2 - u2 / ((g_Md_now m) (0 : Int32).toNatClampNeg) * ((g_Md_now m) (0 : Int32).toNatClampNeg)))))).trans (by rw [h_5])) dX7_isOrder_33 (fun H locs hw => ?_)
        refine lv_iload_n hx hb dX7_isOrder_34 rfl (lv_at hl 2 rfl) ?_
        refine lv_iconst (v := 1) hx hb dX7_isOrder_35 (by decide) ?_
        refine lv_aload_n hx hb dX7_isOrder_36 rfl (lv_at hl 0 rfl) ?_
        refine gf_Md_order S hK hw tb_3_158 dX7_isOrder_37 ?_
        refine lv_iload hx hb dX7_isOrder_40 (lv_at hl 3 rfl) ?_
        obtain ⟨g_6, hf⟩ := nn_ix_some hf
        refine al_Md_order S hK hw (x := m_4) rfl g_6 dX7_isOrder_42 ?_
        refine lv_ishl hx hb dX7_isOrder_43 ?_
        refine lv_ior hx hb dX7_isOrder_44 ?_
        refine lv_istore_n (lv' := [(3, .int (u3 ||| ((1 : Int32) <<< (((g_Md_order m_4) u4.toNatClampNeg) &&& 31)))), (0, .ref (ad (136))), (2, .int (u2)), (4, .int (u4))]) hx hb dX7_isOrder_45 rfl hl (by decide) rfl (fun ls hl => ?_)
        refine lv_iload_n hx hb dX7_isOrder_46 rfl (lv_at hl 2 rfl) ?_
        refine lv_aload_n hx hb dX7_isOrder_47 rfl (lv_at hl 1 rfl) ?_
        refine gf_Md_now S hK hw tb_3_145 dX7_isOrder_48 ?_
        refine lv_iconst (v := 0) hx hb dX7_isOrder_51 (by decide) ?_
        refine al_Md_now S hK hw (x := m_4) rfl (by decide) dX7_isOrder_52 ?_
        obtain ⟨g_7, hf⟩ := nn_nz_some hf
        refine lv_idiv hx hb dX7_isOrder_53 g_7 ?_
        refine lv_istore_n (lv' := [(2, .int (u2 / ((g_Md_now m_4) (0 : Int32).toNatClampNeg))), (3, .int (u3 ||| ((1 : Int32) <<< (((g_Md_order m_4) u4.toNatClampNeg) &&& 31)))), (0, .ref (ad (136))), (4, .int (u4))]) hx hb dX7_isOrder_54 rfl hl (by decide) rfl (fun ls hl => ?_)
        refine lv_iinc (v := u4 + (-1 : Int32)) (lv' := [(4, .int (u4 + (-1 : Int32))), (2, .int (u2 / ((g_Md_now m_4) (0 : Int32).toNatClampNeg))), (3, .int (u3 ||| ((1 : Int32) <<< (((g_Md_order m_4) u4.toNatClampNeg) &&& 31)))), (0, .ref (ad (136)))]) hx hb dX7_isOrder_55 hl (k := 3) rfl (congrArg (fun z => u4 + z) (by decide)) (by decide) rfl (fun ls hl => ?_)
        refine lv_goto (tgt := 14) hx hb dX7_isOrder_58 (by decide) ?_
        exact ih m_4 (u2 / ((g_Md_now m_4) (0 : Int32).toNatClampNeg)) (u3 ||| ((1 : Int32) <<< (((g_Md_order m_4) u4.toNatClampNeg) &&& 31))) (u4 + (-1 : Int32)) K hKK hf _ _ _ hw (lv_sub hl [3, 1, 2, 0] rfl)
  refine lv_iload_n hx hb dX7_isOrder_0 rfl (lv_at hl 1 rfl) ?_
  refine lv_istore_n (lv' := [(2, .int (a1)), (0, .ref (ad (136))), (1, .int (a1))]) hx hb dX7_isOrder_1 rfl hl (by decide) rfl (fun ls hl => ?_)
  refine lv_iconst (v := 0) hx hb dX7_isOrder_2 (by decide) ?_
  refine lv_istore_n (lv' := [(3, .int ((0 : Int32))), (2, .int (a1)), (0, .ref (ad (136))), (1, .int (a1))]) hx hb dX7_isOrder_3 rfl hl (by decide) rfl (fun ls hl => ?_)
  refine lv_aload_n hx hb dX7_isOrder_4 rfl (lv_at hl 2 rfl) ?_
  refine gf_Md_now S hK hw tb_3_145 dX7_isOrder_5 ?_
  refine lv_iconst (v := 0) hx hb dX7_isOrder_8 (by decide) ?_
  refine al_Md_now S hK hw (x := m) rfl (by decide) dX7_isOrder_9 ?_
  refine lv_iconst (v := 1) hx hb dX7_isOrder_10 (by decide) ?_
  refine lv_isub hx hb dX7_isOrder_11 ?_
  refine lv_istore (lv' := [(4, .int (((g_Md_now m) (0 : Int32).toNatClampNeg) - (1 : Int32))), (3, .int ((0 : Int32))), (2, .int (a1)), (0, .ref (ad (136))), (1, .int (a1))]) hx hb dX7_isOrder_12 hl (by decide) rfl (fun ls hl => ?_)
  refine L14 100000 m a1 (0 : Int32) (((g_Md_now m) (0 : Int32).toNatClampNeg) - (1 : Int32)) _ (fun m_11 b2_8 b3_9 b4_10 hf H locs ls hw hl => ?_) hf _ _ _ hw (lv_sub hl [3, 2, 1, 0] rfl)
  refine lv_iload_n hx hb dX7_isOrder_61 rfl (lv_at hl 2 rfl) ?_
  refine lv_iconst (v := 1) hx hb dX7_isOrder_62 (by decide) ?_
  refine lv_aload_n hx hb dX7_isOrder_63 rfl (lv_at hl 0 rfl) ?_
  refine gf_Md_now S hK hw tb_3_145 dX7_isOrder_64 ?_
  refine lv_iconst (v := 0) hx hb dX7_isOrder_67 (by decide) ?_
  refine al_Md_now S hK hw (x := m_11) rfl (by decide) dX7_isOrder_68 ?_
  refine lv_ishl hx hb dX7_isOrder_69 ?_
  refine lv_iconst (v := 1) hx hb dX7_isOrder_70 (by decide) ?_
  refine lv_isub hx hb dX7_isOrder_71 ?_
  refine lv_icmp_ne (tgt := 79) hx hb dX7_isOrder_72 (by decide) (fun c_12 => ?_) (fun c_12 => ?_)
  · rw [if_neg c_12] at hf
    refine lv_iconst (v := 0) hx hb dX7_isOrder_79 (by decide) ?_
    obtain rfl := Option.some.inj hf
    exact nn_zret S hr hlk hw rfl rfl hσ dX7_isOrder_80
  · rw [if_pos c_12] at hf
    refine lv_iconst (v := 1) hx hb dX7_isOrder_75 (by decide) ?_
    refine lv_goto (tgt := 80) hx hb dX7_isOrder_76 (by decide) ?_
    obtain rfl := Option.some.inj hf
    exact nn_zret S hr hlk hw rfl rfl hσ dX7_isOrder_80
set_option maxRecDepth 100000 in
set_option maxHeartbeats 4000000 in
theorem c_X7_hears (l : Launch) (D : va_G) (cy : Nat → ClassId) (ad : Nat → Nat) (A : Nat → Prop) (σ : nG) (m : nMd) (hx_M : gM σ = m) (a1 : Int32) (a2 : Int32) (a3 : Int32) (q : Int32) (hf : f_X7_hears m a1 a2 a3 = some q) : nn_I l yX7_hears (nn_ws yX7_hears cX7_hears 8 (some .int)) (nn_R 2) D cy ad A [.ref (ad (136)), .int (a1), .int (a2), .int (a3)] σ q σ := by
  refine nn_enterI (plainFor_of_name (by decide +kernel)) (Nat.le_of_ble_eq_true rfl) (lv := [(0, .ref (ad (136))), (1, .int (a1)), (2, .int (a2)), (3, .int (a3))]) rfl ?_
  intro pp ee ss mm bb me co S hr hlk hK hw ls hl
  have hx := S.1
  have hb := S.2.1
  unfold f_X7_hears at hf
  have L9 : ∀ (n : Nat) (u2 : Int32) (u3 : Int32) (u4 : Int32) (u5 : Int32) (u6 : Int32) (K : Int32 → Int32 → Int32 → Int32 → Int32 → Option (Int32)), (∀ (u2 : Int32) (u3 : Int32) (u4 : Int32) (u5 : Int32) (u6 : Int32), K u2 u3 u4 u5 u6 = some q → ∀ (H : Heap) (locs : List Loc) (ls : Array Slot), nn_W D cy ad A ss.heap σ H locs → lv_has ls 8 [(0, .ref (ad (136))), (2, .int (u2)), (3, .int (u3)), (4, .int (u4)), (5, .int (u5)), (6, .int (u6))] → W pp l ee (nn_R 2) ss mm ([.ref (ad (136)), .int (a1), .int (a2), .int (a3)] : List Value).toArray bb me co H locs 0 0 (MQ bb (nn_qi D cy ad A q σ) ([.ref (ad (136)), .int (a1), .int (a2), .int (a3)] : List Value).toArray ss 0 0 A) (F0 mm 73 ls [])) → f_X7_hears_L9 m n u2 u3 u4 u5 u6 K = some q → ∀ (H : Heap) (locs : List Loc) (ls : Array Slot), nn_W D cy ad A ss.heap σ H locs → lv_has ls 8 [(0, .ref (ad (136))), (2, .int (u2)), (3, .int (u3)), (4, .int (u4)), (5, .int (u5)), (6, .int (u6))] → W pp l ee (nn_R 2) ss mm ([.ref (ad (136)), .int (a1), .int (a2), .int (a3)] : List Value).toArray bb me co H locs 0 0 (MQ bb (nn_qi D cy ad A q σ) ([.ref (ad (136)), .int (a1), .int (a2), .int (a3)] : List Value).toArray ss 0 0 A) (F0 mm 9 ls []) := by
    intro n
    induction n with
    | zero => intro u2 u3 u4 u5 u6 K hKK hf; exact absurd hf (by simp [f_X7_hears_L9])
    | succ n ih =>
      intro u2 u3 u4 u5 u6 K hKK hf H locs ls hw hl
      rw [f_X7_hears_L9] at hf
      refine lv_iload hx hb dX7_hears_9 (lv_at hl 5 rfl) ?_
      refine lv_aload_n hx hb dX7_hears_11 rfl (lv_at hl 0 rfl) ?_
      refine gf_Md_now S hK hw tb_3_145 dX7_hears_12 ?_
      refine lv_iconst (v := 0) hx hb dX7_hears_15 (by decide) ?_
      refine al_Md_now S hK hw (x := m) hx_M (by decide) dX7_hears_16 ?_
      refine lv_icmp_ge (tgt := 73) hx hb dX7_hears_17 (by decide) (fun c_1 => ?_) (fun c_1 => ?_)
      · rw [if_pos c_1] at hf
        exact hKK u2 u3 u4 u5 u6 hf _ _ _ hw (lv_sub hl [0, 1, 2, 3, 4, 5] rfl)
      · rw [if_neg c_1] at hf
        refine lv_aload_n hx hb dX7_hears_20 rfl (lv_at hl 0 rfl) ?_
        refine gf_Md_order S hK hw tb_3_158 dX7_hears_21 ?_
        refine lv_iload hx hb dX7_hears_24 (lv_at hl 5 rfl) ?_
        obtain ⟨g_2, hf⟩ := nn_ix_some hf
        refine al_Md_order S hK hw (x := m) hx_M g_2 dX7_hears_26 ?_
        refine lv_istore (lv' := [(7, .int ((g_Md_order m) u6.toNatClampNeg)), (0, .ref (ad (136))), (2, .int (u2)), (3, .int (u3)), (4, .int (u4)), (5, .int (u5)), (6, .int (u6))]) hx hb dX7_hears_27 hl (by decide) rfl (fun ls hl => ?_)
        refine lv_iload hx hb dX7_hears_29 (lv_at hl 5 rfl) ?_
        refine lv_iload_n hx hb dX7_hears_31 rfl (lv_at hl 3 rfl) ?_
        refine lv_aload_n hx hb dX7_hears_32 rfl (lv_at hl 1 rfl) ?_
        refine lv_iload hx hb dX7_hears_33 (lv_at hl 4 rfl) ?_
        refine lv_iload hx hb dX7_hears_35 (lv_at hl 0 rfl) ?_
        obtain ⟨q_3, h_4, hf⟩ := nn_bind hf
        refine nn_calliV S (As := [.int (u4), .int ((g_Md_order m) u6.toNatClampNeg)]) (rest := [.int (u3), .int (u5)]) (ce_M (k := 0)) (by decide) rfl rfl (c_X7_milesBetween l D cy ad A σ m hx_M u4 ((g_Md_order m) u6.toNatClampNeg) q_3 h_4) mv_X7_milesBetween tb_4_18 hK hw ⟨Nat.le_of_ble_eq_true rfl, Nat.le_of_ble_eq_true rfl⟩ ⟨Nat.zero_le _, Nat.zero_le _⟩ rfl hl.1 rfl (Nat.le_of_ble_eq_true rfl) dX7_hears_37 (fun H locs hw => ?_)
        refine lv_imul hx hb dX7_hears_40 ?_
        refine lv_iadd hx hb dX7_hears_41 ?_
        refine lv_istore (lv' := [(5, .int (u5 + (u3 * q_3))), (7, .int ((g_Md_order m) u6.toNatClampNeg)), (0, .ref (ad (136))), (2, .int (u2)), (3, .int (u3)), (4, .int (u4)), (6, .int (u6))]) hx hb dX7_hears_42 hl (by decide) rfl (fun ls hl => ?_)
        refine lv_iload hx hb dX7_hears_44 (lv_at hl 0 rfl) ?_
        refine lv_aload_n hx hb dX7_hears_46 rfl (lv_at hl 2 rfl) ?_
        refine lv_iload hx hb dX7_hears_47 (lv_at hl 1 rfl) ?_
        obtain ⟨q_5, h_6, hf⟩ := nn_bind hf
        refine nn_calliV S (As := [.int ((g_Md_order m) u6.toNatClampNeg)]) (rest := [.int (u5 + (u3 * q_3))]) (ce_M (k := 0)) (by decide) rfl rfl (c_X7_minuteOf l D cy ad A σ m hx_M ((g_Md_order m) u6.toNatClampNeg) q_5 h_6) mv_X7_minuteOf tb_4_8 hK hw ⟨Nat.le_of_ble_eq_true rfl, Nat.le_of_ble_eq_true rfl⟩ ⟨Nat.zero_le _, Nat.zero_le _⟩ rfl hl.1 rfl (Nat.le_of_ble_eq_true rfl) dX7_hears_49 (fun H locs hw => ?_)
        refine lv_iload_n hx hb dX7_hears_52 rfl (lv_at hl 3 rfl) ?_
        refine lv_isub hx hb dX7_hears_53 ?_
        refine lv_iload hx hb dX7_hears_54 (lv_at hl 0 rfl) ?_
        refine lv_isub hx hb dX7_hears_56 ?_
        obtain ⟨q_7, h_8, hf⟩ := nn_bind hf
        refine nn_calliS S (As := [.int ((q_5 - u2) - (u5 + (u3 * q_3)))]) (rest := [.int (u5 + (u3 * q_3))]) (c_X7_round l D cy ad A σ ((q_5 - u2) - (u5 + (u3 * q_3))) q_7 h_8) mv_X7_round tb_4_15 hK hw ⟨Nat.le_of_ble_eq_true rfl, Nat.le_of_ble_eq_true rfl⟩ ⟨Nat.zero_le _, Nat.zero_le _⟩ rfl hl.1 rfl (Nat.le_of_ble_eq_true rfl) dX7_hears_57 (fun H locs hw => ?_)
        refine lv_iadd hx hb dX7_hears_60 ?_
        refine lv_istore (lv' := [(5, .int ((u5 + (u3 * q_3)) + q_7)), (7, .int ((g_Md_order m) u6.toNatClampNeg)), (0, .ref (ad (136))), (2, .int (u2)), (3, .int (u3)), (4, .int (u4)), (6, .int (u6))]) hx hb dX7_hears_61 hl (by decide) rfl (fun ls hl => ?_)
        refine lv_iload hx hb dX7_hears_63 (lv_at hl 1 rfl) ?_
        refine lv_istore (lv' := [(4, .int ((g_Md_order m) u6.toNatClampNeg)), (5, .int ((u5 + (u3 * q_3)) + q_7)), (7, .int ((g_Md_order m) u6.toNatClampNeg)), (0, .ref (ad (136))), (2, .int (u2)), (3, .int (u3)), (6, .int (u6))]) hx hb dX7_hears_65 hl (by decide) rfl (fun ls hl => ?_)
        refine lv_iinc (v := u6 + (1 : Int32)) (lv' := [(6, .int (u6 + (1 : Int32))), (4, .int ((g_Md_order m) u6.toNatClampNeg)), (5, .int ((u5 + (u3 * q_3)) + q_7)), (7, .int ((g_Md_order m) u6.toNatClampNeg)), (0, .ref (ad (136))), (2, .int (u2)), (3, .int (u3))]) hx hb dX7_hears_67 hl (k := 6) rfl (congrArg (fun z => u6 + z) (by decide)) (by decide) rfl (fun ls hl => ?_)
        refine lv_goto (tgt := 9) hx hb dX7_hears_70 (by decide) ?_
        exact ih u2 u3 ((g_Md_order m) u6.toNatClampNeg) ((u5 + (u3 * q_3)) + q_7) (u6 + (1 : Int32)) K hKK hf _ _ _ hw (lv_sub hl [4, 5, 6, 1, 2, 0] rfl)
  refine lv_iload_n hx hb dX7_hears_0 rfl (lv_at hl 1 rfl) ?_
  refine lv_istore (lv' := [(4, .int (a1)), (0, .ref (ad (136))), (1, .int (a1)), (2, .int (a2)), (3, .int (a3))]) hx hb dX7_hears_1 hl (by decide) rfl (fun ls hl => ?_)
  refine lv_iconst (v := 0) hx hb dX7_hears_3 (by decide) ?_
  refine lv_istore (lv' := [(5, .int ((0 : Int32))), (4, .int (a1)), (0, .ref (ad (136))), (1, .int (a1)), (2, .int (a2)), (3, .int (a3))]) hx hb dX7_hears_4 hl (by decide) rfl (fun ls hl => ?_)
  refine lv_iconst (v := 0) hx hb dX7_hears_6 (by decide) ?_
  refine lv_istore (lv' := [(6, .int ((0 : Int32))), (5, .int ((0 : Int32))), (4, .int (a1)), (0, .ref (ad (136))), (1, .int (a1)), (2, .int (a2)), (3, .int (a3))]) hx hb dX7_hears_7 hl (by decide) rfl (fun ls hl => ?_)
  refine L9 100000 a2 a3 a1 (0 : Int32) (0 : Int32) _ (fun b2_9 b3_10 b4_11 b5_12 b6_13 hf H locs ls hw hl => ?_) hf _ _ _ hw (lv_sub hl [3, 5, 6, 2, 1, 0] rfl)
  refine lv_iload hx hb dX7_hears_73 (lv_at hl 4 rfl) ?_
  obtain rfl := Option.some.inj hf
  exact nn_iret S hr hlk hw rfl rfl dX7_hears_75
