set_option maxRecDepth 100000 in
set_option maxHeartbeats 4000000 in
theorem c_X7_number (l : Launch) (D : va_G) (cy : Nat → ClassId) (ad : Nat → Nat) (A : Nat → Prop) (σ : nG) (m : nMd) (hx_M : gM σ = m) (a1 : Int32) (q : Int32 × nMd) (hf : f_X7_number m a1 = some q) (σ' : nG) (hσ : (sM σ q.2) = σ') : nn_I l yX7_number (nn_ws yX7_number cX7_number 5 (some .int)) (nn_R 1) D cy ad A [.ref (ad (136)), .int (a1)] σ q.1 σ' := by
  refine nn_enterI (plainFor_of_name (by decide +kernel)) (Nat.le_of_ble_eq_true rfl) (lv := [(0, .ref (ad (136))), (1, .int (a1))]) rfl ?_
  intro pp ee ss mm bb me co S hr hlk hK hw ls hl
  have hx := S.1
  have hb := S.2.1
  have hw : nn_W D cy ad A ss.heap (sM σ m) ss.heap [] := nn_W.eq (by rw [← hx_M]; rfl) hw
  unfold f_X7_number at hf
  have L54 : ∀ (n : Nat) (m : nMd) (u1 : Int32) (u3 : Int32) (u4 : Int32) (K : nMd → Int32 → Int32 → Int32 → Option (Int32 × nMd)), (∀ (m : nMd) (u1 : Int32) (u3 : Int32) (u4 : Int32), K m u1 u3 u4 = some q → ∀ (H : Heap) (locs : List Loc) (ls : Array Slot), nn_W D cy ad A ss.heap (sM σ m) H locs → lv_has ls 5 [(0, .ref (ad (136))), (1, .int (u1)), (3, .int (u3)), (4, .int (u4))] → W pp l ee (nn_R 1) ss mm ([.ref (ad (136)), .int (a1)] : List Value).toArray bb me co H locs 0 0 (MQ bb (nn_qi D cy ad A q.1 σ') ([.ref (ad (136)), .int (a1)] : List Value).toArray ss 0 0 A) (F0 mm 137 ls [])) → f_X7_number_L54 n m u1 u3 u4 K = some q → ∀ (H : Heap) (locs : List Loc) (ls : Array Slot), nn_W D cy ad A ss.heap (sM σ m) H locs → lv_has ls 5 [(0, .ref (ad (136))), (1, .int (u1)), (3, .int (u3)), (4, .int (u4))] → W pp l ee (nn_R 1) ss mm ([.ref (ad (136)), .int (a1)] : List Value).toArray bb me co H locs 0 0 (MQ bb (nn_qi D cy ad A q.1 σ') ([.ref (ad (136)), .int (a1)] : List Value).toArray ss 0 0 A) (F0 mm 54 ls []) := by
    intro n
    induction n with
    | zero => intro m u1 u3 u4 K hKK hf; exact absurd hf (by simp [f_X7_number_L54])
    | succ n ih =>
      intro m u1 u3 u4 K hKK hf H locs ls hw hl
      rw [f_X7_number_L54] at hf
      refine lv_aload_n hx hb dX7_number_54 rfl (lv_at hl 0 rfl) ?_
      refine gf_Md_isFault S hK hw (x := m) rfl tb_3_150 dX7_number_55 ?_
      refine lv_if_ne (tgt := 137) hx hb dX7_number_58 (by decide) (fun c_5 => ?_) (fun c_5 => ?_)
      · rw [if_neg c_5] at hf
        exact hKK m u1 u3 u4 hf _ _ _ hw (lv_sub hl [0, 1, 2, 3] rfl)
      · rw [if_pos c_5] at hf
        refine lv_aload_n hx hb dX7_number_61 rfl (lv_at hl 0 rfl) ?_
        refine gf_Md_place S hK hw (x := m) rfl tb_3_149 dX7_number_62 ?_
        refine lv_aload_n hx hb dX7_number_65 rfl (lv_at hl 0 rfl) ?_
        refine gf_Md_typed S hK hw (x := m) rfl tb_3_148 dX7_number_66 ?_
        refine lv_icmp_ge (tgt := 137) hx hb dX7_number_69 (by decide) (fun c_6 => ?_) (fun c_6 => ?_)
        · rw [if_pos c_6] at hf
          exact hKK m u1 u3 u4 hf _ _ _ hw (lv_sub hl [0, 1, 2, 3] rfl)
        · rw [if_neg c_6] at hf
          refine lv_aload_n hx hb dX7_number_72 rfl (lv_at hl 0 rfl) ?_
          refine gf_Md_place S hK hw (x := m) rfl tb_3_149 dX7_number_73 ?_
          refine lv_iload_n hx hb dX7_number_76 rfl (lv_at hl 2 rfl) ?_
          refine lv_isub hx hb dX7_number_77 ?_
          refine lv_iconst (v := 2) hx hb dX7_number_78 (by decide) ?_
          refine lv_icmp_ge (tgt := 137) hx hb dX7_number_79 (by decide) (fun c_7 => ?_) (fun c_7 => ?_)
          · rw [if_pos c_7] at hf
            exact hKK m u1 u3 u4 hf _ _ _ hw (lv_sub hl [0, 1, 2, 3] rfl)
          · rw [if_neg c_7] at hf
            refine lv_aload_n hx hb dX7_number_82 rfl (lv_at hl 0 rfl) ?_
            refine gf_Md_tape S hK hw tb_3_147 dX7_number_83 ?_
            refine lv_aload_n hx hb dX7_number_86 rfl (lv_at hl 0 rfl) ?_
            refine gf_Md_place S hK hw (x := m) rfl tb_3_149 dX7_number_87 ?_
            obtain ⟨g_8, hf⟩ := nn_ix_some hf
            refine al_Md_tape S hK hw (x := m) rfl g_8 dX7_number_90 ?_
            refine lv_i2l (v := ((g_Md_tape m) (g_Md_place m).toNatClampNeg).toInt64) hx hb dX7_number_91 rfl ?_
            refine lv_ldc2 (v := 48) hx hb S.2.2.2.1 (S.2.2.2.2 _ tb_4_76) dX7_number_92 ?_
            refine lv_ldc2 (v := 57) hx hb S.2.2.2.1 (S.2.2.2.2 _ tb_4_77) dX7_number_95 ?_
            obtain ⟨q_9, h_10, hf⟩ := nn_bind hf
            refine nn_calliS S (As := [.long (((g_Md_tape m) (g_Md_place m).toNatClampNeg).toInt64), .long ((48 : Int64)), .long ((57 : Int64))]) (rest := []) (c_X7_in l D cy ad A (sM σ m) (((g_Md_tape m) (g_Md_place m).toNatClampNeg).toInt64) (48 : Int64) (57 : Int64) q_9 h_10) mv_X7_in tb_3_214 hK hw ⟨Nat.le_of_ble_eq_true rfl, Nat.le_of_ble_eq_true rfl⟩ ⟨Nat.zero_le _, Nat.zero_le _⟩ rfl hl.1 rfl (Nat.le_of_ble_eq_true rfl) dX7_number_98 (fun H locs hw => ?_)
            refine lv_if_eq (tgt := 137) hx hb dX7_number_101 (by decide) (fun c_11 => ?_) (fun c_11 => ?_)
            · rw [if_pos c_11] at hf
              exact hKK m u1 u3 u4 hf _ _ _ hw (lv_sub hl [0, 1, 2, 3] rfl)
            · rw [if_neg c_11] at hf
              refine lv_bipush (v := 10) hx hb dX7_number_104 (by decide) ?_
              refine lv_iload hx hb dX7_number_106 (lv_at hl 3 rfl) ?_
              refine lv_imul hx hb dX7_number_108 ?_
              refine lv_aload_n hx hb dX7_number_109 rfl (lv_at hl 0 rfl) ?_
              refine gf_Md_tape S hK hw tb_3_147 dX7_number_110 ?_
              refine lv_aload_n hx hb dX7_number_113 rfl (lv_at hl 0 rfl) ?_
              refine gf_Md_place S hK hw (x := m) rfl tb_3_149 dX7_number_114 ?_
              obtain ⟨g_12, hf⟩ := nn_ix_some hf
              refine al_Md_tape S hK hw (x := m) rfl g_12 dX7_number_117 ?_
              refine lv_iadd hx hb dX7_number_118 ?_
              refine lv_bipush (v := 48) hx hb dX7_number_119 (by decide) ?_
              refine lv_isub hx hb dX7_number_121 ?_
              refine lv_istore (lv' := [(4, .int ((((10 : Int32) * u4) + ((g_Md_tape m) (g_Md_place m).toNatClampNeg)) - (48 : Int32))), (0, .ref (ad (136))), (1, .int (u1)), (3, .int (u3))]) hx hb dX7_number_122 hl (by decide) rfl (fun ls hl => ?_)
              refine lv_aload_n hx hb dX7_number_124 rfl (lv_at hl 1 rfl) ?_
              refine lv_dup hx hb dX7_number_125 rfl ?_
              refine gf_Md_place S hK hw (x := m) rfl tb_3_149 dX7_number_126 ?_
              refine lv_iconst (v := 1) hx hb dX7_number_129 (by decide) ?_
              refine lv_iadd hx hb dX7_number_130 ?_
              refine pf_Md_place S hK hw (x := m) rfl (τ' := (sM σ (s_Md_place m ((g_Md_place m) + (1 : Int32))))) rfl tb_3_149 dX7_number_131 (fun H locs hw => ?_)
              refine lv_goto (tgt := 54) hx hb dX7_number_134 (by decide) ?_
              exact ih (s_Md_place m ((g_Md_place m) + (1 : Int32))) u1 u3 ((((10 : Int32) * u4) + ((g_Md_tape m) (g_Md_place m).toNatClampNeg)) - (48 : Int32)) K hKK hf _ _ _ hw (lv_sub hl [1, 2, 3, 0] rfl)
  have J15 : ∀ (m : nMd) (u1 : Int32) (s0 : Int32), f_X7_number_J15 m u1 s0 = some q → ∀ (H : Heap) (locs : List Loc) (ls : Array Slot), nn_W D cy ad A ss.heap (sM σ m) H locs → lv_has ls 5 [(0, .ref (ad (136))), (1, .int (u1))] → W pp l ee (nn_R 1) ss mm ([.ref (ad (136)), .int (a1)] : List Value).toArray bb me co H locs 0 0 (MQ bb (nn_qi D cy ad A q.1 σ') ([.ref (ad (136)), .int (a1)] : List Value).toArray ss 0 0 A) (F0 mm 15 ls [.int (s0)]) := by
    intro m u1 s0 hf H locs ls hw hl
    unfold f_X7_number_J15 at hf
    refine lv_istore_n (lv' := [(2, .int (s0)), (0, .ref (ad (136))), (1, .int (u1))]) hx hb dX7_number_15 rfl hl (by decide) rfl (fun ls hl => ?_)
    refine lv_aload_n hx hb dX7_number_16 rfl (lv_at hl 1 rfl) ?_
    refine gf_Md_place S hK hw (x := m) rfl tb_3_149 dX7_number_17 ?_
    refine lv_istore_n (lv' := [(3, .int (g_Md_place m)), (2, .int (s0)), (0, .ref (ad (136))), (1, .int (u1))]) hx hb dX7_number_20 rfl hl (by decide) rfl (fun ls hl => ?_)
    refine lv_iconst (v := 0) hx hb dX7_number_21 (by decide) ?_
    refine lv_istore (lv' := [(4, .int ((0 : Int32))), (3, .int (g_Md_place m)), (2, .int (s0)), (0, .ref (ad (136))), (1, .int (u1))]) hx hb dX7_number_22 hl (by decide) rfl (fun ls hl => ?_)
    refine lv_aload_n hx hb dX7_number_24 rfl (lv_at hl 3 rfl) ?_
    refine lv_aload_n hx hb dX7_number_25 rfl (lv_at hl 3 rfl) ?_
    refine gf_Md_isFault S hK hw (x := m) rfl tb_3_150 dX7_number_26 ?_
    refine lv_if_ne (tgt := 46) hx hb dX7_number_29 (by decide) (fun c_4 => ?_) (fun c_4 => ?_)
    · rw [if_neg c_4] at hf
      refine lv_iconst (v := 1) hx hb dX7_number_46 (by decide) ?_
      refine lv_goto (tgt := 51) hx hb dX7_number_47 (by decide) ?_
      refine pf_Md_isFault S hK hw (x := m) rfl (by decide) (τ' := (sM σ (s_Md_isFault m (1 : Int32)))) rfl tb_3_150 dX7_number_51 (fun H locs hw => ?_)
      refine L54 100000 (s_Md_isFault m (1 : Int32)) u1 (g_Md_place m) (0 : Int32) _ (fun m_16 b1_13 b3_14 b4_15 hf H locs ls hw hl => ?_) hf _ _ _ hw (lv_sub hl [3, 4, 1, 0] rfl)
      refine lv_aload_n hx hb dX7_number_137 rfl (lv_at hl 0 rfl) ?_
      refine gf_Md_isFault S hK hw (x := m_16) rfl tb_3_150 dX7_number_138 ?_
      refine lv_if_ne (tgt := 160) hx hb dX7_number_141 (by decide) (fun c_17 => ?_) (fun c_17 => ?_)
      · rw [if_neg c_17] at hf
        refine lv_iload hx hb dX7_number_160 (lv_at hl 3 rfl) ?_
        obtain rfl := Option.some.inj hf
        exact nn_iret S hr hlk hw rfl hσ dX7_number_162
      · rw [if_pos c_17] at hf
        refine lv_iload hx hb dX7_number_144 (lv_at hl 3 rfl) ?_
        refine lv_iload_n hx hb dX7_number_146 rfl (lv_at hl 1 rfl) ?_
        refine lv_icmp_le (tgt := 160) hx hb dX7_number_147 (by decide) (fun c_18 => ?_) (fun c_18 => ?_)
        · rw [if_pos c_18] at hf
          refine lv_iload hx hb dX7_number_160 (lv_at hl 3 rfl) ?_
          obtain rfl := Option.some.inj hf
          exact nn_iret S hr hlk hw rfl hσ dX7_number_162
        · rw [if_neg c_18] at hf
          refine lv_aload_n hx hb dX7_number_150 rfl (lv_at hl 0 rfl) ?_
          refine lv_iconst (v := 1) hx hb dX7_number_151 (by decide) ?_
          refine pf_Md_isFault S hK hw (x := m_16) rfl (by decide) (τ' := (sM σ (s_Md_isFault m_16 (1 : Int32)))) rfl tb_3_150 dX7_number_152 (fun H locs hw => ?_)
          refine lv_aload_n hx hb dX7_number_155 rfl (lv_at hl 0 rfl) ?_
          refine lv_iload_n hx hb dX7_number_156 rfl (lv_at hl 2 rfl) ?_
          refine pf_Md_place S hK hw (x := (s_Md_isFault m_16 (1 : Int32))) rfl (τ' := (sM σ (s_Md_place (s_Md_isFault m_16 (1 : Int32)) b3_14))) rfl tb_3_149 dX7_number_157 (fun H locs hw => ?_)
          refine lv_iload hx hb dX7_number_160 (lv_at hl 3 rfl) ?_
          obtain rfl := Option.some.inj hf
          exact nn_iret S hr hlk hw rfl hσ dX7_number_162
    · rw [if_pos c_4] at hf
      refine lv_iload_n hx hb dX7_number_32 rfl (lv_at hl 2 rfl) ?_
      refine lv_i2l (v := s0.toInt64) hx hb dX7_number_33 rfl ?_
      refine lv_ldc2 (v := 48) hx hb S.2.2.2.1 (S.2.2.2.2 _ tb_4_76) dX7_number_34 ?_
      refine lv_ldc2 (v := 57) hx hb S.2.2.2.1 (S.2.2.2.2 _ tb_4_77) dX7_number_37 ?_
      obtain ⟨q_19, h_20, hf⟩ := nn_bind hf
      refine nn_calliS S (As := [.long (s0.toInt64), .long ((48 : Int64)), .long ((57 : Int64))]) (rest := [.ref (ad (136))]) (c_X7_in l D cy ad A (sM σ m) s0.toInt64 (48 : Int64) (57 : Int64) q_19 h_20) mv_X7_in tb_3_214 hK hw ⟨Nat.le_of_ble_eq_true rfl, Nat.le_of_ble_eq_true rfl⟩ ⟨Nat.zero_le _, Nat.zero_le _⟩ rfl hl.1 rfl (Nat.le_of_ble_eq_true rfl) dX7_number_40 (fun H locs hw => ?_)
      refine lv_if_ne (tgt := 50) hx hb dX7_number_43 (by decide) (fun c_21 => ?_) (fun c_21 => ?_)
      · rw [if_neg c_21] at hf
        refine lv_iconst (v := 0) hx hb dX7_number_50 (by decide) ?_
        refine pf_Md_isFault S hK hw (x := m) rfl (by decide) (τ' := (sM σ (s_Md_isFault m (0 : Int32)))) rfl tb_3_150 dX7_number_51 (fun H locs hw => ?_)
        refine L54 100000 (s_Md_isFault m (0 : Int32)) u1 (g_Md_place m) (0 : Int32) _ (fun m_25 b1_22 b3_23 b4_24 hf H locs ls hw hl => ?_) hf _ _ _ hw (lv_sub hl [3, 4, 1, 0] rfl)
        refine lv_aload_n hx hb dX7_number_137 rfl (lv_at hl 0 rfl) ?_
        refine gf_Md_isFault S hK hw (x := m_25) rfl tb_3_150 dX7_number_138 ?_
        refine lv_if_ne (tgt := 160) hx hb dX7_number_141 (by decide) (fun c_26 => ?_) (fun c_26 => ?_)
        · rw [if_neg c_26] at hf
          refine lv_iload hx hb dX7_number_160 (lv_at hl 3 rfl) ?_
          obtain rfl := Option.some.inj hf
          exact nn_iret S hr hlk hw rfl hσ dX7_number_162
        · rw [if_pos c_26] at hf
          refine lv_iload hx hb dX7_number_144 (lv_at hl 3 rfl) ?_
          refine lv_iload_n hx hb dX7_number_146 rfl (lv_at hl 1 rfl) ?_
          refine lv_icmp_le (tgt := 160) hx hb dX7_number_147 (by decide) (fun c_27 => ?_) (fun c_27 => ?_)
          · rw [if_pos c_27] at hf
            refine lv_iload hx hb dX7_number_160 (lv_at hl 3 rfl) ?_
            obtain rfl := Option.some.inj hf
            exact nn_iret S hr hlk hw rfl hσ dX7_number_162
          · rw [if_neg c_27] at hf
            refine lv_aload_n hx hb dX7_number_150 rfl (lv_at hl 0 rfl) ?_
            refine lv_iconst (v := 1) hx hb dX7_number_151 (by decide) ?_
            refine pf_Md_isFault S hK hw (x := m_25) rfl (by decide) (τ' := (sM σ (s_Md_isFault m_25 (1 : Int32)))) rfl tb_3_150 dX7_number_152 (fun H locs hw => ?_)
            refine lv_aload_n hx hb dX7_number_155 rfl (lv_at hl 0 rfl) ?_
            refine lv_iload_n hx hb dX7_number_156 rfl (lv_at hl 2 rfl) ?_
            refine pf_Md_place S hK hw (x := (s_Md_isFault m_25 (1 : Int32))) rfl (τ' := (sM σ (s_Md_place (s_Md_isFault m_25 (1 : Int32)) b3_23))) rfl tb_3_149 dX7_number_157 (fun H locs hw => ?_)
            refine lv_iload hx hb dX7_number_160 (lv_at hl 3 rfl) ?_
            obtain rfl := Option.some.inj hf
            exact nn_iret S hr hlk hw rfl hσ dX7_number_162
      · rw [if_pos c_21] at hf
        refine lv_iconst (v := 1) hx hb dX7_number_46 (by decide) ?_
        refine lv_goto (tgt := 51) hx hb dX7_number_47 (by decide) ?_
        refine pf_Md_isFault S hK hw (x := m) rfl (by decide) (τ' := (sM σ (s_Md_isFault m (1 : Int32)))) rfl tb_3_150 dX7_number_51 (fun H locs hw => ?_)
        refine L54 100000 (s_Md_isFault m (1 : Int32)) u1 (g_Md_place m) (0 : Int32) _ (fun m_31 b1_28 b3_29 b4_30 hf H locs ls hw hl => ?_) hf _ _ _ hw (lv_sub hl [3, 4, 1, 0] rfl)
        refine lv_aload_n hx hb dX7_number_137 rfl (lv_at hl 0 rfl) ?_
        refine gf_Md_isFault S hK hw (x := m_31) rfl tb_3_150 dX7_number_138 ?_
        refine lv_if_ne (tgt := 160) hx hb dX7_number_141 (by decide) (fun c_32 => ?_) (fun c_32 => ?_)
        · rw [if_neg c_32] at hf
          refine lv_iload hx hb dX7_number_160 (lv_at hl 3 rfl) ?_
          obtain rfl := Option.some.inj hf
          exact nn_iret S hr hlk hw rfl hσ dX7_number_162
        · rw [if_pos c_32] at hf
          refine lv_iload hx hb dX7_number_144 (lv_at hl 3 rfl) ?_
          refine lv_iload_n hx hb dX7_number_146 rfl (lv_at hl 1 rfl) ?_
          refine lv_icmp_le (tgt := 160) hx hb dX7_number_147 (by decide) (fun c_33 => ?_) (fun c_33 => ?_)
          · rw [if_pos c_33] at hf
            refine lv_iload hx hb dX7_number_160 (lv_at hl 3 rfl) ?_
            obtain rfl := Option.some.inj hf
            exact nn_iret S hr hlk hw rfl hσ dX7_number_162
          · rw [if_neg c_33] at hf
            refine lv_aload_n hx hb dX7_number_150 rfl (lv_at hl 0 rfl) ?_
            refine lv_iconst (v := 1) hx hb dX7_number_151 (by decide) ?_
            refine pf_Md_isFault S hK hw (x := m_31) rfl (by decide) (τ' := (sM σ (s_Md_isFault m_31 (1 : Int32)))) rfl tb_3_150 dX7_number_152 (fun H locs hw => ?_)
            refine lv_aload_n hx hb dX7_number_155 rfl (lv_at hl 0 rfl) ?_
            refine lv_iload_n hx hb dX7_number_156 rfl (lv_at hl 2 rfl) ?_
            refine pf_Md_place S hK hw (x := (s_Md_isFault m_31 (1 : Int32))) rfl (τ' := (sM σ (s_Md_place (s_Md_isFault m_31 (1 : Int32)) b3_29))) rfl tb_3_149 dX7_number_157 (fun H locs hw => ?_)
            refine lv_iload hx hb dX7_number_160 (lv_at hl 3 rfl) ?_
            obtain rfl := Option.some.inj hf
            exact nn_iret S hr hlk hw rfl hσ dX7_number_162
  refine lv_aload_n hx hb dX7_number_0 rfl (lv_at hl 0 rfl) ?_
  refine gf_Md_isFault S hK hw (x := m) rfl tb_3_150 dX7_number_1 ?_
  refine lv_if_eq (tgt := 11) hx hb dX7_number_4 (by decide) (fun c_1 => ?_) (fun c_1 => ?_)
  · rw [if_pos c_1] at hf
    refine lv_aload_n hx hb dX7_number_11 rfl (lv_at hl 0 rfl) ?_
    obtain ⟨q_2, h_3, hf⟩ := nn_bind hf
    refine nn_calliV S (As := []) (rest := []) (ce_M (k := 0)) (by decide) rfl rfl (c_X7_here l D cy ad A (sM σ m) m rfl q_2 h_3 (sM σ q_2.2) rfl) mv_X7_here tb_4_64 hK hw ⟨Nat.le_of_ble_eq_true rfl, Nat.le_of_ble_eq_true rfl⟩ ⟨Nat.zero_le _, Nat.zero_le _⟩ rfl hl.1 rfl (Nat.le_of_ble_eq_true rfl) dX7_number_12 (fun H locs hw => ?_)
    exact J15 q_2.2 a1 q_2.1 hf _ _ _ hw (lv_sub hl [0, 1] rfl)
  · rw [if_neg c_1] at hf
    refine lv_iconst (v := 0) hx hb dX7_number_7 (by decide) ?_
    refine lv_goto (tgt := 15) hx hb dX7_number_8 (by decide) ?_
    exact J15 m a1 (0 : Int32) hf _ _ _ hw (lv_sub hl [0, 1] rfl)
set_option maxRecDepth 100000 in
set_option maxHeartbeats 4000000 in
theorem c_X7_villagesRead (l : Launch) (D : va_G) (cy : Nat → ClassId) (ad : Nat → Nat) (A : Nat → Prop) (σ : nG) (m : nMd) (hx_M : gM σ = m) (q : Int32 × nMd) (hf : f_X7_villagesRead m = some q) (σ' : nG) (hσ : (sM σ q.2) = σ') : nn_I l yX7_villagesRead (nn_ws yX7_villagesRead cX7_villagesRead 8 (some .int)) (nn_R 2) D cy ad A [.ref (ad (136))] σ q.1 σ' := by
  refine nn_enterI (plainFor_of_name (by decide +kernel)) (Nat.le_of_ble_eq_true rfl) (lv := [(0, .ref (ad (136)))]) rfl ?_
  intro pp ee ss mm bb me co S hr hlk hK hw ls hl
  have hx := S.1
  have hb := S.2.1
  have hw : nn_W D cy ad A ss.heap (sM σ m) ss.heap [] := nn_W.eq (by rw [← hx_M]; rfl) hw
  unfold f_X7_villagesRead at hf
  have J293 : ∀ (m : nMd) (u1 : Int32) (u7 : Int32) (s0 : Int32) (s1 : Int32) (RC K : nMd → Int32 → Option (Int32 × nMd)), (∀ (m : nMd) (u1 : Int32), RC m u1 = some q → ∀ (H : Heap) (locs : List Loc) (ls : Array Slot), nn_W D cy ad A ss.heap (sM σ m) H locs → lv_has ls 8 [(0, .ref (ad (136))), (1, .int (u1))] → W pp l ee (nn_R 2) ss mm ([.ref (ad (136))] : List Value).toArray bb me co H locs 0 0 (MQ bb (nn_qi D cy ad A q.1 σ') ([.ref (ad (136))] : List Value).toArray ss 0 0 A) (F0 mm 2 ls [])) → (∀ (m : nMd) (u1 : Int32), K m u1 = some q → ∀ (H : Heap) (locs : List Loc) (ls : Array Slot), nn_W D cy ad A ss.heap (sM σ m) H locs → lv_has ls 8 [(0, .ref (ad (136))), (1, .int (u1))] → W pp l ee (nn_R 2) ss mm ([.ref (ad (136))] : List Value).toArray bb me co H locs 0 0 (MQ bb (nn_qi D cy ad A q.1 σ') ([.ref (ad (136))] : List Value).toArray ss 0 0 A) (F0 mm 312 ls [])) → f_X7_villagesRead_J293 m u1 u7 s0 s1 RC K = some q → ∀ (H : Heap) (locs : List Loc) (ls : Array Slot), nn_W D cy ad A ss.heap (sM σ m) H locs → lv_has ls 8 [(0, .ref (ad (136))), (1, .int (u1)), (7, .int (u7))] → W pp l ee (nn_R 2) ss mm ([.ref (ad (136))] : List Value).toArray bb me co H locs 0 0 (MQ bb (nn_qi D cy ad A q.1 σ') ([.ref (ad (136))] : List Value).toArray ss 0 0 A) (F0 mm 293 ls [.int (s0), .int (s1), .ref (ad (140))]) := by
    intro m u1 u7 s0 s1 RC K hRC hKK hf H locs ls hw hl
    unfold f_X7_villagesRead_J293 at hf
    obtain ⟨g_37, hf⟩ := nn_ix_some hf
    refine as_Md_read S hK hw (x := m) rfl g_37 (τ' := (sM σ (s_Md_read m (upd (g_Md_read m) s1.toNatClampNeg s0)))) rfl dX7_villagesRead_293 (fun H locs hw => ?_)
    refine lv_aload_n hx hb dX7_villagesRead_294 rfl (lv_at hl 0 rfl) ?_
    refine gf_Md_read S hK hw tb_3_151 dX7_villagesRead_295 ?_
    refine lv_iconst (v := 4) hx hb dX7_villagesRead_298 (by decide) ?_
    refine lv_iload_n hx hb dX7_villagesRead_299 rfl (lv_at hl 1 rfl) ?_
    refine lv_imul hx hb dX7_villagesRead_300 ?_
    refine lv_iconst (v := 3) hx hb dX7_villagesRead_301 (by decide) ?_
    refine lv_iadd hx hb dX7_villagesRead_302 ?_
    refine lv_iload hx hb dX7_villagesRead_303 (lv_at hl 2 rfl) ?_
    obtain ⟨g_38, hf⟩ := nn_ix_some hf
    obtain ⟨m_39, h_40, hf⟩ := nn_bind hf
    replace h_40 := Option.some.inj h_40
    refine as_Md_read S hK hw (x := (s_Md_read m (upd (g_Md_read m) s1.toNatClampNeg s0))) rfl g_38 (τ' := (sM σ m_39)) ((rfl : _ = (sM σ (s_Md_read (s_Md_read m (upd (g_Md_read m) s1.toNatClampNeg s0)) (upd (g_Md_read (s_Md_read m (upd (g_Md_read m) s1.toNatClampNeg s0))) (((4 : Int32) * u1) + (3 : Int32)).toNatClampNeg u7)))).trans (by rw [h_40])) dX7_villagesRead_305 (fun H locs hw => ?_)
    refine lv_iinc (v := u1 + (1 : Int32)) (lv' := [(1, .int (u1 + (1 : Int32))), (0, .ref (ad (136))), (7, .int (u7))]) hx hb dX7_villagesRead_306 hl (k := 1) rfl (congrArg (fun z => u1 + z) (by decide)) (by decide) rfl (fun ls hl => ?_)
    refine lv_goto (tgt := 2) hx hb dX7_villagesRead_309 (by decide) ?_
    exact hRC m_39 (u1 + (1 : Int32)) hf _ _ _ hw (lv_sub hl [1, 0] rfl)
  have J241 : ∀ (m : nMd) (u1 : Int32) (u3 : Int32) (u4 : Int32) (u5 : Int32) (u6 : Int32) (u7 : Int32) (RC K : nMd → Int32 → Option (Int32 × nMd)), (∀ (m : nMd) (u1 : Int32), RC m u1 = some q → ∀ (H : Heap) (locs : List Loc) (ls : Array Slot), nn_W D cy ad A ss.heap (sM σ m) H locs → lv_has ls 8 [(0, .ref (ad (136))), (1, .int (u1))] → W pp l ee (nn_R 2) ss mm ([.ref (ad (136))] : List Value).toArray bb me co H locs 0 0 (MQ bb (nn_qi D cy ad A q.1 σ') ([.ref (ad (136))] : List Value).toArray ss 0 0 A) (F0 mm 2 ls [])) → (∀ (m : nMd) (u1 : Int32), K m u1 = some q → ∀ (H : Heap) (locs : List Loc) (ls : Array Slot), nn_W D cy ad A ss.heap (sM σ m) H locs → lv_has ls 8 [(0, .ref (ad (136))), (1, .int (u1))] → W pp l ee (nn_R 2) ss mm ([.ref (ad (136))] : List Value).toArray bb me co H locs 0 0 (MQ bb (nn_qi D cy ad A q.1 σ') ([.ref (ad (136))] : List Value).toArray ss 0 0 A) (F0 mm 312 ls [])) → f_X7_villagesRead_J241 m u1 u3 u4 u5 u6 u7 RC K = some q → ∀ (H : Heap) (locs : List Loc) (ls : Array Slot), nn_W D cy ad A ss.heap (sM σ m) H locs → lv_has ls 8 [(0, .ref (ad (136))), (1, .int (u1)), (3, .int (u3)), (4, .int (u4)), (5, .int (u5)), (6, .int (u6)), (7, .int (u7))] → W pp l ee (nn_R 2) ss mm ([.ref (ad (136))] : List Value).toArray bb me co H locs 0 0 (MQ bb (nn_qi D cy ad A q.1 σ') ([.ref (ad (136))] : List Value).toArray ss 0 0 A) (F0 mm 241 ls []) := by
    intro m u1 u3 u4 u5 u6 u7 RC K hRC hKK hf H locs ls hw hl
    unfold f_X7_villagesRead_J241 at hf
    refine lv_aload_n hx hb dX7_villagesRead_241 rfl (lv_at hl 0 rfl) ?_
    refine gf_Md_isFault S hK hw (x := m) rfl tb_3_150 dX7_villagesRead_242 ?_
    refine lv_if_ne (tgt := 306) hx hb dX7_villagesRead_245 (by decide) (fun c_31 => ?_) (fun c_31 => ?_)
    · rw [if_neg c_31] at hf
      refine lv_iinc (v := u1 + (1 : Int32)) (lv' := [(1, .int (u1 + (1 : Int32))), (0, .ref (ad (136))), (3, .int (u3)), (4, .int (u4)), (5, .int (u5)), (6, .int (u6)), (7, .int (u7))]) hx hb dX7_villagesRead_306 hl (k := 1) rfl (congrArg (fun z => u1 + z) (by decide)) (by decide) rfl (fun ls hl => ?_)
      refine lv_goto (tgt := 2) hx hb dX7_villagesRead_309 (by decide) ?_
      exact hRC m (u1 + (1 : Int32)) hf _ _ _ hw (lv_sub hl [1, 0] rfl)
    · rw [if_pos c_31] at hf
      refine lv_aload_n hx hb dX7_villagesRead_248 rfl (lv_at hl 0 rfl) ?_
      refine gf_Md_read S hK hw tb_3_151 dX7_villagesRead_249 ?_
      refine lv_iconst (v := 4) hx hb dX7_villagesRead_252 (by decide) ?_
      refine lv_iload_n hx hb dX7_villagesRead_253 rfl (lv_at hl 1 rfl) ?_
      refine lv_imul hx hb dX7_villagesRead_254 ?_
      refine lv_iload_n hx hb dX7_villagesRead_255 rfl (lv_at hl 2 rfl) ?_
      obtain ⟨g_32, hf⟩ := nn_ix_some hf
      refine as_Md_read S hK hw (x := m) rfl g_32 (τ' := (sM σ (s_Md_read m (upd (g_Md_read m) ((4 : Int32) * u1).toNatClampNeg u3)))) rfl dX7_villagesRead_256 (fun H locs hw => ?_)
      refine lv_aload_n hx hb dX7_villagesRead_257 rfl (lv_at hl 0 rfl) ?_
      refine gf_Md_read S hK hw tb_3_151 dX7_villagesRead_258 ?_
      refine lv_iconst (v := 4) hx hb dX7_villagesRead_261 (by decide) ?_
      refine lv_iload_n hx hb dX7_villagesRead_262 rfl (lv_at hl 1 rfl) ?_
      refine lv_imul hx hb dX7_villagesRead_263 ?_
      refine lv_iconst (v := 1) hx hb dX7_villagesRead_264 (by decide) ?_
      refine lv_iadd hx hb dX7_villagesRead_265 ?_
      refine lv_iload hx hb dX7_villagesRead_266 (lv_at hl 3 rfl) ?_
      obtain ⟨g_33, hf⟩ := nn_ix_some hf
      obtain ⟨m_34, h_35, hf⟩ := nn_bind hf
      replace h_35 := Option.some.inj h_35
      refine as_Md_read S hK hw (x := (s_Md_read m (upd (g_Md_read m) ((4 : Int32) * u1).toNatClampNeg u3))) rfl g_33 (τ' := (sM σ m_34)) ((rfl : _ = (sM σ (s_Md_read (s_Md_read m (upd (g_Md_read m) ((4 : Int32) * u1).toNatClampNeg u3)) (upd (g_Md_read (s_Md_read m (upd (g_Md_read m) ((4 : Int32) * u1).toNatClampNeg u3))) (((4 : Int32) * u1) + (1 : Int32)).toNatClampNeg u4)))).trans (by rw [h_35])) dX7_villagesRead_268 (fun H locs hw => ?_)
      refine lv_aload_n hx hb dX7_villagesRead_269 rfl (lv_at hl 0 rfl) ?_
      refine gf_Md_read S hK hw tb_3_151 dX7_villagesRead_270 ?_
      refine lv_iconst (v := 4) hx hb dX7_villagesRead_273 (by decide) ?_
      refine lv_iload_n hx hb dX7_villagesRead_274 rfl (lv_at hl 1 rfl) ?_
      refine lv_imul hx hb dX7_villagesRead_275 ?_
      refine lv_iconst (v := 2) hx hb dX7_villagesRead_276 (by decide) ?_
      refine lv_iadd hx hb dX7_villagesRead_277 ?_
      refine lv_iload hx hb dX7_villagesRead_278 (lv_at hl 4 rfl) ?_
      refine lv_bipush (v := 43) hx hb dX7_villagesRead_280 (by decide) ?_
      refine lv_icmp_ne (tgt := 290) hx hb dX7_villagesRead_282 (by decide) (fun c_36 => ?_) (fun c_36 => ?_)
      · rw [if_neg c_36] at hf
        refine lv_iload hx hb dX7_villagesRead_290 (lv_at hl 5 rfl) ?_
        refine lv_ineg hx hb dX7_villagesRead_292 ?_
        exact J293 m_34 u1 u7 (-u6) (((4 : Int32) * u1) + (2 : Int32)) RC K hRC hKK hf _ _ _ hw (lv_sub hl [0, 1, 6] rfl)
      · rw [if_pos c_36] at hf
        refine lv_iload hx hb dX7_villagesRead_285 (lv_at hl 5 rfl) ?_
        refine lv_goto (tgt := 293) hx hb dX7_villagesRead_287 (by decide) ?_
        exact J293 m_34 u1 u7 u6 (((4 : Int32) * u1) + (2 : Int32)) RC K hRC hKK hf _ _ _ hw (lv_sub hl [0, 1, 6] rfl)
  have J188 : ∀ (m : nMd) (u1 : Int32) (u3 : Int32) (u4 : Int32) (u5 : Int32) (s0 : Int32) (RC K : nMd → Int32 → Option (Int32 × nMd)), (∀ (m : nMd) (u1 : Int32), RC m u1 = some q → ∀ (H : Heap) (locs : List Loc) (ls : Array Slot), nn_W D cy ad A ss.heap (sM σ m) H locs → lv_has ls 8 [(0, .ref (ad (136))), (1, .int (u1))] → W pp l ee (nn_R 2) ss mm ([.ref (ad (136))] : List Value).toArray bb me co H locs 0 0 (MQ bb (nn_qi D cy ad A q.1 σ') ([.ref (ad (136))] : List Value).toArray ss 0 0 A) (F0 mm 2 ls [])) → (∀ (m : nMd) (u1 : Int32), K m u1 = some q → ∀ (H : Heap) (locs : List Loc) (ls : Array Slot), nn_W D cy ad A ss.heap (sM σ m) H locs → lv_has ls 8 [(0, .ref (ad (136))), (1, .int (u1))] → W pp l ee (nn_R 2) ss mm ([.ref (ad (136))] : List Value).toArray bb me co H locs 0 0 (MQ bb (nn_qi D cy ad A q.1 σ') ([.ref (ad (136))] : List Value).toArray ss 0 0 A) (F0 mm 312 ls [])) → f_X7_villagesRead_J188 m u1 u3 u4 u5 s0 RC K = some q → ∀ (H : Heap) (locs : List Loc) (ls : Array Slot), nn_W D cy ad A ss.heap (sM σ m) H locs → lv_has ls 8 [(0, .ref (ad (136))), (1, .int (u1)), (3, .int (u3)), (4, .int (u4)), (5, .int (u5))] → W pp l ee (nn_R 2) ss mm ([.ref (ad (136))] : List Value).toArray bb me co H locs 0 0 (MQ bb (nn_qi D cy ad A q.1 σ') ([.ref (ad (136))] : List Value).toArray ss 0 0 A) (F0 mm 188 ls [.int (s0)]) := by
    intro m u1 u3 u4 u5 s0 RC K hRC hKK hf H locs ls hw hl
    unfold f_X7_villagesRead_J188 at hf
    refine lv_istore (lv' := [(6, .int (s0)), (0, .ref (ad (136))), (1, .int (u1)), (3, .int (u3)), (4, .int (u4)), (5, .int (u5))]) hx hb dX7_villagesRead_188 hl (by decide) rfl (fun ls hl => ?_)
    refine lv_aload_n hx hb dX7_villagesRead_190 rfl (lv_at hl 1 rfl) ?_
    refine lv_iload hx hb dX7_villagesRead_191 (lv_at hl 0 rfl) ?_
    refine lv_i2l (v := s0.toInt64) hx hb dX7_villagesRead_193 rfl ?_
    refine lv_lconst (v := 0) hx hb dX7_villagesRead_194 (by decide) ?_
    refine lv_ldc2 (v := 9) hx hb S.2.2.2.1 (S.2.2.2.2 _ tb_3_219) dX7_villagesRead_195 ?_
    obtain ⟨q_26, h_27, hf⟩ := nn_bind hf
    refine nn_calliS S (As := [.long (s0.toInt64), .long ((0 : Int64)), .long ((9 : Int64))]) (rest := [.ref (ad (136))]) (c_X7_in l D cy ad A (sM σ m) s0.toInt64 (0 : Int64) (9 : Int64) q_26 h_27) mv_X7_in tb_3_214 hK hw ⟨Nat.le_of_ble_eq_true rfl, Nat.le_of_ble_eq_true rfl⟩ ⟨Nat.zero_le _, Nat.zero_le _⟩ rfl hl.1 rfl (Nat.le_of_ble_eq_true rfl) dX7_villagesRead_198 (fun H locs hw => ?_)
    obtain ⟨q_28, h_29, hf⟩ := nn_bind hf
    refine nn_callvV S (As := [.int (q_26)]) (rest := []) (ce_M (k := 0)) (by decide) rfl rfl (c_X7_must l D cy ad A (sM σ m) m rfl q_26 q_28 h_29 (sM σ q_28) rfl) mv_X7_must tb_4_68 hK hw ⟨Nat.le_of_ble_eq_true rfl, Nat.le_of_ble_eq_true rfl⟩ ⟨Nat.zero_le _, Nat.zero_le _⟩ rfl hl.1 rfl (Nat.le_of_ble_eq_true rfl) dX7_villagesRead_201 (fun H locs hw => ?_)
    refine lv_iconst (v := 0) hx hb dX7_villagesRead_204 (by decide) ?_
    refine lv_istore (lv' := [(7, .int ((0 : Int32))), (6, .int (s0)), (0, .ref (ad (136))), (1, .int (u1)), (3, .int (u3)), (4, .int (u4)), (5, .int (u5))]) hx hb dX7_villagesRead_205 hl (by decide) rfl (fun ls hl => ?_)
    refine lv_aload_n hx hb dX7_villagesRead_207 rfl (lv_at hl 2 rfl) ?_
    refine gf_Md_isFault S hK hw (x := q_28) rfl tb_3_150 dX7_villagesRead_208 ?_
    refine lv_if_ne (tgt := 241) hx hb dX7_villagesRead_211 (by decide) (fun c_30 => ?_) (fun c_30 => ?_)
    · rw [if_neg c_30] at hf
      exact J241 q_28 u1 u3 u4 u5 s0 (0 : Int32) RC K hRC hKK hf _ _ _ hw (lv_sub hl [2, 3, 4, 5, 6, 1, 0] rfl)
    · rw [if_pos c_30] at hf
      refine lv_aload_n hx hb dX7_villagesRead_214 rfl (lv_at hl 2 rfl) ?_
      obtain ⟨q_41, h_42, hf⟩ := nn_bind hf
      refine nn_calliV S (As := []) (rest := []) (ce_M (k := 0)) (by decide) rfl rfl (c_X7_here l D cy ad A (sM σ q_28) q_28 rfl q_41 h_42 (sM σ q_41.2) rfl) mv_X7_here tb_4_64 hK hw ⟨Nat.le_of_ble_eq_true rfl, Nat.le_of_ble_eq_true rfl⟩ ⟨Nat.zero_le _, Nat.zero_le _⟩ rfl hl.1 rfl (Nat.le_of_ble_eq_true rfl) dX7_villagesRead_215 (fun H locs hw => ?_)
      refine lv_bipush (v := 64) hx hb dX7_villagesRead_218 (by decide) ?_
      refine lv_icmp_ne (tgt := 241) hx hb dX7_villagesRead_220 (by decide) (fun c_43 => ?_) (fun c_43 => ?_)
      · rw [if_neg c_43] at hf
        exact J241 q_41.2 u1 u3 u4 u5 s0 (0 : Int32) RC K hRC hKK hf _ _ _ hw (lv_sub hl [2, 3, 4, 5, 6, 1, 0] rfl)
      · rw [if_pos c_43] at hf
        refine lv_aload_n hx hb dX7_villagesRead_223 rfl (lv_at hl 2 rfl) ?_
        refine lv_dup hx hb dX7_villagesRead_224 rfl ?_
        refine gf_Md_place S hK hw (x := q_41.2) rfl tb_3_149 dX7_villagesRead_225 ?_
        refine lv_iconst (v := 1) hx hb dX7_villagesRead_228 (by decide) ?_
        refine lv_iadd hx hb dX7_villagesRead_229 ?_
        refine pf_Md_place S hK hw (x := q_41.2) rfl (τ' := (sM σ (s_Md_place q_41.2 ((g_Md_place q_41.2) + (1 : Int32))))) rfl tb_3_149 dX7_villagesRead_230 (fun H locs hw => ?_)
        refine lv_aload_n hx hb dX7_villagesRead_233 rfl (lv_at hl 2 rfl) ?_
        refine lv_bipush (v := 40) hx hb dX7_villagesRead_234 (by decide) ?_
        obtain ⟨q_44, h_45, hf⟩ := nn_bind hf
        refine nn_calliV S (As := [.int ((40 : Int32))]) (rest := []) (ce_M (k := 0)) (by decide) rfl rfl (c_X7_number l D cy ad A (sM σ (s_Md_place q_41.2 ((g_Md_place q_41.2) + (1 : Int32)))) (s_Md_place q_41.2 ((g_Md_place q_41.2) + (1 : Int32))) rfl (40 : Int32) q_44 h_45 (sM σ q_44.2) rfl) mv_X7_number tb_4_72 hK hw ⟨Nat.le_of_ble_eq_true rfl, Nat.le_of_ble_eq_true rfl⟩ ⟨Nat.zero_le _, Nat.zero_le _⟩ rfl hl.1 rfl (Nat.le_of_ble_eq_true rfl) dX7_villagesRead_236 (fun H locs hw => ?_)
        refine lv_istore (lv' := [(7, .int (q_44.1)), (6, .int (s0)), (0, .ref (ad (136))), (1, .int (u1)), (3, .int (u3)), (4, .int (u4)), (5, .int (u5))]) hx hb dX7_villagesRead_239 hl (by decide) rfl (fun ls hl => ?_)
        exact J241 q_44.2 u1 u3 u4 u5 s0 q_44.1 RC K hRC hKK hf _ _ _ hw (lv_sub hl [2, 3, 4, 5, 6, 1, 0] rfl)
  have J167 : ∀ (m : nMd) (u1 : Int32) (u3 : Int32) (u4 : Int32) (u5 : Int32) (s0 : Int32) (RC K : nMd → Int32 → Option (Int32 × nMd)), (∀ (m : nMd) (u1 : Int32), RC m u1 = some q → ∀ (H : Heap) (locs : List Loc) (ls : Array Slot), nn_W D cy ad A ss.heap (sM σ m) H locs → lv_has ls 8 [(0, .ref (ad (136))), (1, .int (u1))] → W pp l ee (nn_R 2) ss mm ([.ref (ad (136))] : List Value).toArray bb me co H locs 0 0 (MQ bb (nn_qi D cy ad A q.1 σ') ([.ref (ad (136))] : List Value).toArray ss 0 0 A) (F0 mm 2 ls [])) → (∀ (m : nMd) (u1 : Int32), K m u1 = some q → ∀ (H : Heap) (locs : List Loc) (ls : Array Slot), nn_W D cy ad A ss.heap (sM σ m) H locs → lv_has ls 8 [(0, .ref (ad (136))), (1, .int (u1))] → W pp l ee (nn_R 2) ss mm ([.ref (ad (136))] : List Value).toArray bb me co H locs 0 0 (MQ bb (nn_qi D cy ad A q.1 σ') ([.ref (ad (136))] : List Value).toArray ss 0 0 A) (F0 mm 312 ls [])) → f_X7_villagesRead_J167 m u1 u3 u4 u5 s0 RC K = some q → ∀ (H : Heap) (locs : List Loc) (ls : Array Slot), nn_W D cy ad A ss.heap (sM σ m) H locs → lv_has ls 8 [(0, .ref (ad (136))), (1, .int (u1)), (3, .int (u3)), (4, .int (u4)), (5, .int (u5))] → W pp l ee (nn_R 2) ss mm ([.ref (ad (136))] : List Value).toArray bb me co H locs 0 0 (MQ bb (nn_qi D cy ad A q.1 σ') ([.ref (ad (136))] : List Value).toArray ss 0 0 A) (F0 mm 167 ls [.int (s0), .ref (ad (136))]) := by
    intro m u1 u3 u4 u5 s0 RC K hRC hKK hf H locs ls hw hl
    unfold f_X7_villagesRead_J167 at hf
    obtain ⟨q_21, h_22, hf⟩ := nn_bind hf
    refine nn_callvV S (As := [.int (s0)]) (rest := []) (ce_M (k := 0)) (by decide) rfl rfl (c_X7_must l D cy ad A (sM σ m) m rfl s0 q_21 h_22 (sM σ q_21) rfl) mv_X7_must tb_4_68 hK hw ⟨Nat.le_of_ble_eq_true rfl, Nat.le_of_ble_eq_true rfl⟩ ⟨Nat.zero_le _, Nat.zero_le _⟩ rfl hl.1 rfl (Nat.le_of_ble_eq_true rfl) dX7_villagesRead_167 (fun H locs hw => ?_)
    refine lv_aload_n hx hb dX7_villagesRead_170 rfl (lv_at hl 0 rfl) ?_
    refine gf_Md_isFault S hK hw (x := q_21) rfl tb_3_150 dX7_villagesRead_171 ?_
    refine lv_if_eq (tgt := 181) hx hb dX7_villagesRead_174 (by decide) (fun c_23 => ?_) (fun c_23 => ?_)
    · rw [if_pos c_23] at hf
      refine lv_aload_n hx hb dX7_villagesRead_181 rfl (lv_at hl 0 rfl) ?_
      obtain ⟨q_24, h_25, hf⟩ := nn_bind hf
      refine nn_calliV S (As := []) (rest := []) (ce_M (k := 0)) (by decide) rfl rfl (c_X7_here l D cy ad A (sM σ q_21) q_21 rfl q_24 h_25 (sM σ q_24.2) rfl) mv_X7_here tb_4_64 hK hw ⟨Nat.le_of_ble_eq_true rfl, Nat.le_of_ble_eq_true rfl⟩ ⟨Nat.zero_le _, Nat.zero_le _⟩ rfl hl.1 rfl (Nat.le_of_ble_eq_true rfl) dX7_villagesRead_182 (fun H locs hw => ?_)
      refine lv_bipush (v := 48) hx hb dX7_villagesRead_185 (by decide) ?_
      refine lv_isub hx hb dX7_villagesRead_187 ?_
      exact J188 q_24.2 u1 u3 u4 u5 (q_24.1 - (48 : Int32)) RC K hRC hKK hf _ _ _ hw (lv_sub hl [0, 1, 2, 3, 4] rfl)
    · rw [if_neg c_23] at hf
      refine lv_iconst (v := -1) hx hb dX7_villagesRead_177 (by decide) ?_
      refine lv_goto (tgt := 188) hx hb dX7_villagesRead_178 (by decide) ?_
      exact J188 q_21 u1 u3 u4 u5 (-1 : Int32) RC K hRC hKK hf _ _ _ hw (lv_sub hl [0, 1, 2, 3, 4] rfl)
  have J162 : ∀ (m : nMd) (u1 : Int32) (u3 : Int32) (u4 : Int32) (u5 : Int32) (RC K : nMd → Int32 → Option (Int32 × nMd)), (∀ (m : nMd) (u1 : Int32), RC m u1 = some q → ∀ (H : Heap) (locs : List Loc) (ls : Array Slot), nn_W D cy ad A ss.heap (sM σ m) H locs → lv_has ls 8 [(0, .ref (ad (136))), (1, .int (u1))] → W pp l ee (nn_R 2) ss mm ([.ref (ad (136))] : List Value).toArray bb me co H locs 0 0 (MQ bb (nn_qi D cy ad A q.1 σ') ([.ref (ad (136))] : List Value).toArray ss 0 0 A) (F0 mm 2 ls [])) → (∀ (m : nMd) (u1 : Int32), K m u1 = some q → ∀ (H : Heap) (locs : List Loc) (ls : Array Slot), nn_W D cy ad A ss.heap (sM σ m) H locs → lv_has ls 8 [(0, .ref (ad (136))), (1, .int (u1))] → W pp l ee (nn_R 2) ss mm ([.ref (ad (136))] : List Value).toArray bb me co H locs 0 0 (MQ bb (nn_qi D cy ad A q.1 σ') ([.ref (ad (136))] : List Value).toArray ss 0 0 A) (F0 mm 312 ls [])) → f_X7_villagesRead_J162 m u1 u3 u4 u5 RC K = some q → ∀ (H : Heap) (locs : List Loc) (ls : Array Slot), nn_W D cy ad A ss.heap (sM σ m) H locs → lv_has ls 8 [(0, .ref (ad (136))), (1, .int (u1)), (3, .int (u3)), (4, .int (u4)), (5, .int (u5))] → W pp l ee (nn_R 2) ss mm ([.ref (ad (136))] : List Value).toArray bb me co H locs 0 0 (MQ bb (nn_qi D cy ad A q.1 σ') ([.ref (ad (136))] : List Value).toArray ss 0 0 A) (F0 mm 162 ls [.ref (ad (136))]) := by
    intro m u1 u3 u4 u5 RC K hRC hKK hf H locs ls hw hl
    unfold f_X7_villagesRead_J162 at hf
    refine lv_iconst (v := 1) hx hb dX7_villagesRead_162 (by decide) ?_
    refine lv_goto (tgt := 167) hx hb dX7_villagesRead_163 (by decide) ?_
    exact J167 m u1 u3 u4 u5 (1 : Int32) RC K hRC hKK hf _ _ _ hw (lv_sub hl [0, 1, 2, 3, 4] rfl)
  have J145 : ∀ (m : nMd) (u1 : Int32) (u3 : Int32) (u4 : Int32) (s0 : Int32) (RC K : nMd → Int32 → Option (Int32 × nMd)), (∀ (m : nMd) (u1 : Int32), RC m u1 = some q → ∀ (H : Heap) (locs : List Loc) (ls : Array Slot), nn_W D cy ad A ss.heap (sM σ m) H locs → lv_has ls 8 [(0, .ref (ad (136))), (1, .int (u1))] → W pp l ee (nn_R 2) ss mm ([.ref (ad (136))] : List Value).toArray bb me co H locs 0 0 (MQ bb (nn_qi D cy ad A q.1 σ') ([.ref (ad (136))] : List Value).toArray ss 0 0 A) (F0 mm 2 ls [])) → (∀ (m : nMd) (u1 : Int32), K m u1 = some q → ∀ (H : Heap) (locs : List Loc) (ls : Array Slot), nn_W D cy ad A ss.heap (sM σ m) H locs → lv_has ls 8 [(0, .ref (ad (136))), (1, .int (u1))] → W pp l ee (nn_R 2) ss mm ([.ref (ad (136))] : List Value).toArray bb me co H locs 0 0 (MQ bb (nn_qi D cy ad A q.1 σ') ([.ref (ad (136))] : List Value).toArray ss 0 0 A) (F0 mm 312 ls [])) → f_X7_villagesRead_J145 m u1 u3 u4 s0 RC K = some q → ∀ (H : Heap) (locs : List Loc) (ls : Array Slot), nn_W D cy ad A ss.heap (sM σ m) H locs → lv_has ls 8 [(0, .ref (ad (136))), (1, .int (u1)), (3, .int (u3)), (4, .int (u4))] → W pp l ee (nn_R 2) ss mm ([.ref (ad (136))] : List Value).toArray bb me co H locs 0 0 (MQ bb (nn_qi D cy ad A q.1 σ') ([.ref (ad (136))] : List Value).toArray ss 0 0 A) (F0 mm 145 ls [.int (s0)]) := by
    intro m u1 u3 u4 s0 RC K hRC hKK hf H locs ls hw hl
    unfold f_X7_villagesRead_J145 at hf
    refine lv_istore (lv' := [(5, .int (s0)), (0, .ref (ad (136))), (1, .int (u1)), (3, .int (u3)), (4, .int (u4))]) hx hb dX7_villagesRead_145 hl (by decide) rfl (fun ls hl => ?_)
    refine lv_aload_n hx hb dX7_villagesRead_147 rfl (lv_at hl 1 rfl) ?_
    refine lv_iload hx hb dX7_villagesRead_148 (lv_at hl 0 rfl) ?_
    refine lv_bipush (v := 43) hx hb dX7_villagesRead_150 (by decide) ?_
    refine lv_icmp_eq (tgt := 162) hx hb dX7_villagesRead_152 (by decide) (fun c_20 => ?_) (fun c_20 => ?_)
    · rw [if_pos c_20] at hf
      exact J162 m u1 u3 u4 s0 RC K hRC hKK hf _ _ _ hw (lv_sub hl [1, 2, 3, 4, 0] rfl)
    · rw [if_neg c_20] at hf
      refine lv_iload hx hb dX7_villagesRead_155 (lv_at hl 0 rfl) ?_
      refine lv_bipush (v := 45) hx hb dX7_villagesRead_157 (by decide) ?_
      refine lv_icmp_ne (tgt := 166) hx hb dX7_villagesRead_159 (by decide) (fun c_46 => ?_) (fun c_46 => ?_)
      · rw [if_neg c_46] at hf
        refine lv_iconst (v := 0) hx hb dX7_villagesRead_166 (by decide) ?_
        exact J167 m u1 u3 u4 s0 (0 : Int32) RC K hRC hKK hf _ _ _ hw (lv_sub hl [1, 2, 3, 4, 0] rfl)
      · rw [if_pos c_46] at hf
        exact J162 m u1 u3 u4 s0 RC K hRC hKK hf _ _ _ hw (lv_sub hl [1, 2, 3, 4, 0] rfl)
  have J119 : ∀ (m : nMd) (u1 : Int32) (u3 : Int32) (s0 : Int32) (RC K : nMd → Int32 → Option (Int32 × nMd)), (∀ (m : nMd) (u1 : Int32), RC m u1 = some q → ∀ (H : Heap) (locs : List Loc) (ls : Array Slot), nn_W D cy ad A ss.heap (sM σ m) H locs → lv_has ls 8 [(0, .ref (ad (136))), (1, .int (u1))] → W pp l ee (nn_R 2) ss mm ([.ref (ad (136))] : List Value).toArray bb me co H locs 0 0 (MQ bb (nn_qi D cy ad A q.1 σ') ([.ref (ad (136))] : List Value).toArray ss 0 0 A) (F0 mm 2 ls [])) → (∀ (m : nMd) (u1 : Int32), K m u1 = some q → ∀ (H : Heap) (locs : List Loc) (ls : Array Slot), nn_W D cy ad A ss.heap (sM σ m) H locs → lv_has ls 8 [(0, .ref (ad (136))), (1, .int (u1))] → W pp l ee (nn_R 2) ss mm ([.ref (ad (136))] : List Value).toArray bb me co H locs 0 0 (MQ bb (nn_qi D cy ad A q.1 σ') ([.ref (ad (136))] : List Value).toArray ss 0 0 A) (F0 mm 312 ls [])) → f_X7_villagesRead_J119 m u1 u3 s0 RC K = some q → ∀ (H : Heap) (locs : List Loc) (ls : Array Slot), nn_W D cy ad A ss.heap (sM σ m) H locs → lv_has ls 8 [(0, .ref (ad (136))), (1, .int (u1)), (3, .int (u3))] → W pp l ee (nn_R 2) ss mm ([.ref (ad (136))] : List Value).toArray bb me co H locs 0 0 (MQ bb (nn_qi D cy ad A q.1 σ') ([.ref (ad (136))] : List Value).toArray ss 0 0 A) (F0 mm 119 ls [.int (s0), .ref (ad (136))]) := by
    intro m u1 u3 s0 RC K hRC hKK hf H locs ls hw hl
    unfold f_X7_villagesRead_J119 at hf
    obtain ⟨q_13, h_14, hf⟩ := nn_bind hf
    refine nn_callvV S (As := [.int (s0)]) (rest := []) (ce_M (k := 0)) (by decide) rfl rfl (c_X7_must l D cy ad A (sM σ m) m rfl s0 q_13 h_14 (sM σ q_13) rfl) mv_X7_must tb_4_68 hK hw ⟨Nat.le_of_ble_eq_true rfl, Nat.le_of_ble_eq_true rfl⟩ ⟨Nat.zero_le _, Nat.zero_le _⟩ rfl hl.1 rfl (Nat.le_of_ble_eq_true rfl) dX7_villagesRead_119 (fun H locs hw => ?_)
    refine lv_aload_n hx hb dX7_villagesRead_122 rfl (lv_at hl 0 rfl) ?_
    refine lv_bipush (v := 59) hx hb dX7_villagesRead_123 (by decide) ?_
    obtain ⟨q_15, h_16, hf⟩ := nn_bind hf
    refine nn_calliV S (As := [.int ((59 : Int32))]) (rest := []) (ce_M (k := 0)) (by decide) rfl rfl (c_X7_number l D cy ad A (sM σ q_13) q_13 rfl (59 : Int32) q_15 h_16 (sM σ q_15.2) rfl) mv_X7_number tb_4_72 hK hw ⟨Nat.le_of_ble_eq_true rfl, Nat.le_of_ble_eq_true rfl⟩ ⟨Nat.zero_le _, Nat.zero_le _⟩ rfl hl.1 rfl (Nat.le_of_ble_eq_true rfl) dX7_villagesRead_125 (fun H locs hw => ?_)
    refine lv_istore (lv' := [(4, .int (q_15.1)), (0, .ref (ad (136))), (1, .int (u1)), (3, .int (u3))]) hx hb dX7_villagesRead_128 hl (by decide) rfl (fun ls hl => ?_)
    refine lv_aload_n hx hb dX7_villagesRead_130 rfl (lv_at hl 1 rfl) ?_
    refine gf_Md_isFault S hK hw (x := q_15.2) rfl tb_3_150 dX7_villagesRead_131 ?_
    refine lv_if_eq (tgt := 141) hx hb dX7_villagesRead_134 (by decide) (fun c_17 => ?_) (fun c_17 => ?_)
    · rw [if_pos c_17] at hf
      refine lv_aload_n hx hb dX7_villagesRead_141 rfl (lv_at hl 1 rfl) ?_
      obtain ⟨q_18, h_19, hf⟩ := nn_bind hf
      refine nn_calliV S (As := []) (rest := []) (ce_M (k := 0)) (by decide) rfl rfl (c_X7_here l D cy ad A (sM σ q_15.2) q_15.2 rfl q_18 h_19 (sM σ q_18.2) rfl) mv_X7_here tb_4_64 hK hw ⟨Nat.le_of_ble_eq_true rfl, Nat.le_of_ble_eq_true rfl⟩ ⟨Nat.zero_le _, Nat.zero_le _⟩ rfl hl.1 rfl (Nat.le_of_ble_eq_true rfl) dX7_villagesRead_142 (fun H locs hw => ?_)
      exact J145 q_18.2 u1 u3 q_15.1 q_18.1 RC K hRC hKK hf _ _ _ hw (lv_sub hl [1, 2, 3, 0] rfl)
    · rw [if_neg c_17] at hf
      refine lv_iconst (v := 0) hx hb dX7_villagesRead_137 (by decide) ?_
      refine lv_goto (tgt := 145) hx hb dX7_villagesRead_138 (by decide) ?_
      exact J145 q_15.2 u1 u3 q_15.1 (0 : Int32) RC K hRC hKK hf _ _ _ hw (lv_sub hl [1, 2, 3, 0] rfl)
  have J108 : ∀ (m : nMd) (u1 : Int32) (s0 : Int32) (RC K : nMd → Int32 → Option (Int32 × nMd)), (∀ (m : nMd) (u1 : Int32), RC m u1 = some q → ∀ (H : Heap) (locs : List Loc) (ls : Array Slot), nn_W D cy ad A ss.heap (sM σ m) H locs → lv_has ls 8 [(0, .ref (ad (136))), (1, .int (u1))] → W pp l ee (nn_R 2) ss mm ([.ref (ad (136))] : List Value).toArray bb me co H locs 0 0 (MQ bb (nn_qi D cy ad A q.1 σ') ([.ref (ad (136))] : List Value).toArray ss 0 0 A) (F0 mm 2 ls [])) → (∀ (m : nMd) (u1 : Int32), K m u1 = some q → ∀ (H : Heap) (locs : List Loc) (ls : Array Slot), nn_W D cy ad A ss.heap (sM σ m) H locs → lv_has ls 8 [(0, .ref (ad (136))), (1, .int (u1))] → W pp l ee (nn_R 2) ss mm ([.ref (ad (136))] : List Value).toArray bb me co H locs 0 0 (MQ bb (nn_qi D cy ad A q.1 σ') ([.ref (ad (136))] : List Value).toArray ss 0 0 A) (F0 mm 312 ls [])) → f_X7_villagesRead_J108 m u1 s0 RC K = some q → ∀ (H : Heap) (locs : List Loc) (ls : Array Slot), nn_W D cy ad A ss.heap (sM σ m) H locs → lv_has ls 8 [(0, .ref (ad (136))), (1, .int (u1))] → W pp l ee (nn_R 2) ss mm ([.ref (ad (136))] : List Value).toArray bb me co H locs 0 0 (MQ bb (nn_qi D cy ad A q.1 σ') ([.ref (ad (136))] : List Value).toArray ss 0 0 A) (F0 mm 108 ls [.int (s0)]) := by
    intro m u1 s0 RC K hRC hKK hf H locs ls hw hl
    unfold f_X7_villagesRead_J108 at hf
    refine lv_istore_n (lv' := [(3, .int (s0)), (0, .ref (ad (136))), (1, .int (u1))]) hx hb dX7_villagesRead_108 rfl hl (by decide) rfl (fun ls hl => ?_)
    refine lv_aload_n hx hb dX7_villagesRead_109 rfl (lv_at hl 1 rfl) ?_
    refine lv_iload_n hx hb dX7_villagesRead_110 rfl (lv_at hl 0 rfl) ?_
    refine lv_if_lt (tgt := 118) hx hb dX7_villagesRead_111 (by decide) (fun c_12 => ?_) (fun c_12 => ?_)
    · rw [if_pos c_12] at hf
      refine lv_iconst (v := 0) hx hb dX7_villagesRead_118 (by decide) ?_
      exact J119 m u1 s0 (0 : Int32) RC K hRC hKK hf _ _ _ hw (lv_sub hl [1, 2, 0] rfl)
    · rw [if_neg c_12] at hf
      refine lv_iconst (v := 1) hx hb dX7_villagesRead_114 (by decide) ?_
      refine lv_goto (tgt := 119) hx hb dX7_villagesRead_115 (by decide) ?_
      exact J119 m u1 s0 (1 : Int32) RC K hRC hKK hf _ _ _ hw (lv_sub hl [1, 2, 0] rfl)
  have J56 : ∀ (m : nMd) (u1 : Int32) (s0 : Int32) (RC K : nMd → Int32 → Option (Int32 × nMd)), (∀ (m : nMd) (u1 : Int32), RC m u1 = some q → ∀ (H : Heap) (locs : List Loc) (ls : Array Slot), nn_W D cy ad A ss.heap (sM σ m) H locs → lv_has ls 8 [(0, .ref (ad (136))), (1, .int (u1))] → W pp l ee (nn_R 2) ss mm ([.ref (ad (136))] : List Value).toArray bb me co H locs 0 0 (MQ bb (nn_qi D cy ad A q.1 σ') ([.ref (ad (136))] : List Value).toArray ss 0 0 A) (F0 mm 2 ls [])) → (∀ (m : nMd) (u1 : Int32), K m u1 = some q → ∀ (H : Heap) (locs : List Loc) (ls : Array Slot), nn_W D cy ad A ss.heap (sM σ m) H locs → lv_has ls 8 [(0, .ref (ad (136))), (1, .int (u1))] → W pp l ee (nn_R 2) ss mm ([.ref (ad (136))] : List Value).toArray bb me co H locs 0 0 (MQ bb (nn_qi D cy ad A q.1 σ') ([.ref (ad (136))] : List Value).toArray ss 0 0 A) (F0 mm 312 ls [])) → f_X7_villagesRead_J56 m u1 s0 RC K = some q → ∀ (H : Heap) (locs : List Loc) (ls : Array Slot), nn_W D cy ad A ss.heap (sM σ m) H locs → lv_has ls 8 [(0, .ref (ad (136))), (1, .int (u1))] → W pp l ee (nn_R 2) ss mm ([.ref (ad (136))] : List Value).toArray bb me co H locs 0 0 (MQ bb (nn_qi D cy ad A q.1 σ') ([.ref (ad (136))] : List Value).toArray ss 0 0 A) (F0 mm 56 ls [.int (s0)]) := by
    intro m u1 s0 RC K hRC hKK hf H locs ls hw hl
    unfold f_X7_villagesRead_J56 at hf
    refine lv_istore_n (lv' := [(2, .int (s0)), (0, .ref (ad (136))), (1, .int (u1))]) hx hb dX7_villagesRead_56 rfl hl (by decide) rfl (fun ls hl => ?_)
    refine lv_iload_n hx hb dX7_villagesRead_57 rfl (lv_at hl 0 rfl) ?_
    refine lv_bipush (v := 112) hx hb dX7_villagesRead_58 (by decide) ?_
    refine lv_icmp_ne (tgt := 67) hx hb dX7_villagesRead_60 (by decide) (fun c_7 => ?_) (fun c_7 => ?_)
    · rw [if_neg c_7] at hf
      refine lv_iload_n hx hb dX7_villagesRead_67 rfl (lv_at hl 0 rfl) ?_
      refine lv_bipush (v := 115) hx hb dX7_villagesRead_68 (by decide) ?_
      refine lv_icmp_ne (tgt := 77) hx hb dX7_villagesRead_70 (by decide) (fun c_8 => ?_) (fun c_8 => ?_)
      · rw [if_neg c_8] at hf
        refine lv_iload_n hx hb dX7_villagesRead_77 rfl (lv_at hl 0 rfl) ?_
        refine lv_bipush (v := 104) hx hb dX7_villagesRead_78 (by decide) ?_
        refine lv_icmp_ne (tgt := 87) hx hb dX7_villagesRead_80 (by decide) (fun c_9 => ?_) (fun c_9 => ?_)
        · rw [if_neg c_9] at hf
          refine lv_iload_n hx hb dX7_villagesRead_87 rfl (lv_at hl 0 rfl) ?_
          refine lv_bipush (v := 102) hx hb dX7_villagesRead_88 (by decide) ?_
          refine lv_icmp_ne (tgt := 97) hx hb dX7_villagesRead_90 (by decide) (fun c_10 => ?_) (fun c_10 => ?_)
          · rw [if_neg c_10] at hf
            refine lv_iload_n hx hb dX7_villagesRead_97 rfl (lv_at hl 0 rfl) ?_
            refine lv_bipush (v := 99) hx hb dX7_villagesRead_98 (by decide) ?_
            refine lv_icmp_ne (tgt := 107) hx hb dX7_villagesRead_100 (by decide) (fun c_11 => ?_) (fun c_11 => ?_)
            · rw [if_neg c_11] at hf
              refine lv_iconst (v := -1) hx hb dX7_villagesRead_107 (by decide) ?_
              exact J108 m u1 (-1 : Int32) RC K hRC hKK hf _ _ _ hw (lv_sub hl [1, 2] rfl)
            · rw [if_pos c_11] at hf
              refine lv_iconst (v := 4) hx hb dX7_villagesRead_103 (by decide) ?_
              refine lv_goto (tgt := 108) hx hb dX7_villagesRead_104 (by decide) ?_
              exact J108 m u1 (4 : Int32) RC K hRC hKK hf _ _ _ hw (lv_sub hl [1, 2] rfl)
          · rw [if_pos c_10] at hf
            refine lv_iconst (v := 3) hx hb dX7_villagesRead_93 (by decide) ?_
            refine lv_goto (tgt := 108) hx hb dX7_villagesRead_94 (by decide) ?_
            exact J108 m u1 (3 : Int32) RC K hRC hKK hf _ _ _ hw (lv_sub hl [1, 2] rfl)
        · rw [if_pos c_9] at hf
          refine lv_iconst (v := 2) hx hb dX7_villagesRead_83 (by decide) ?_
          refine lv_goto (tgt := 108) hx hb dX7_villagesRead_84 (by decide) ?_
          exact J108 m u1 (2 : Int32) RC K hRC hKK hf _ _ _ hw (lv_sub hl [1, 2] rfl)
      · rw [if_pos c_8] at hf
        refine lv_iconst (v := 1) hx hb dX7_villagesRead_73 (by decide) ?_
        refine lv_goto (tgt := 108) hx hb dX7_villagesRead_74 (by decide) ?_
        exact J108 m u1 (1 : Int32) RC K hRC hKK hf _ _ _ hw (lv_sub hl [1, 2] rfl)
    · rw [if_pos c_7] at hf
      refine lv_iconst (v := 0) hx hb dX7_villagesRead_63 (by decide) ?_
      refine lv_goto (tgt := 108) hx hb dX7_villagesRead_64 (by decide) ?_
      exact J108 m u1 (0 : Int32) RC K hRC hKK hf _ _ _ hw (lv_sub hl [1, 2] rfl)
  have J41 : ∀ (m : nMd) (u1 : Int32) (RC K : nMd → Int32 → Option (Int32 × nMd)), (∀ (m : nMd) (u1 : Int32), RC m u1 = some q → ∀ (H : Heap) (locs : List Loc) (ls : Array Slot), nn_W D cy ad A ss.heap (sM σ m) H locs → lv_has ls 8 [(0, .ref (ad (136))), (1, .int (u1))] → W pp l ee (nn_R 2) ss mm ([.ref (ad (136))] : List Value).toArray bb me co H locs 0 0 (MQ bb (nn_qi D cy ad A q.1 σ') ([.ref (ad (136))] : List Value).toArray ss 0 0 A) (F0 mm 2 ls [])) → (∀ (m : nMd) (u1 : Int32), K m u1 = some q → ∀ (H : Heap) (locs : List Loc) (ls : Array Slot), nn_W D cy ad A ss.heap (sM σ m) H locs → lv_has ls 8 [(0, .ref (ad (136))), (1, .int (u1))] → W pp l ee (nn_R 2) ss mm ([.ref (ad (136))] : List Value).toArray bb me co H locs 0 0 (MQ bb (nn_qi D cy ad A q.1 σ') ([.ref (ad (136))] : List Value).toArray ss 0 0 A) (F0 mm 312 ls [])) → f_X7_villagesRead_J41 m u1 RC K = some q → ∀ (H : Heap) (locs : List Loc) (ls : Array Slot), nn_W D cy ad A ss.heap (sM σ m) H locs → lv_has ls 8 [(0, .ref (ad (136))), (1, .int (u1))] → W pp l ee (nn_R 2) ss mm ([.ref (ad (136))] : List Value).toArray bb me co H locs 0 0 (MQ bb (nn_qi D cy ad A q.1 σ') ([.ref (ad (136))] : List Value).toArray ss 0 0 A) (F0 mm 41 ls []) := by
    intro m u1 RC K hRC hKK hf H locs ls hw hl
    unfold f_X7_villagesRead_J41 at hf
    refine lv_aload_n hx hb dX7_villagesRead_41 rfl (lv_at hl 0 rfl) ?_
    refine gf_Md_isFault S hK hw (x := m) rfl tb_3_150 dX7_villagesRead_42 ?_
    refine lv_if_eq (tgt := 52) hx hb dX7_villagesRead_45 (by decide) (fun c_4 => ?_) (fun c_4 => ?_)
    · rw [if_pos c_4] at hf
      refine lv_aload_n hx hb dX7_villagesRead_52 rfl (lv_at hl 0 rfl) ?_
      obtain ⟨q_5, h_6, hf⟩ := nn_bind hf
      refine nn_calliV S (As := []) (rest := []) (ce_M (k := 0)) (by decide) rfl rfl (c_X7_here l D cy ad A (sM σ m) m rfl q_5 h_6 (sM σ q_5.2) rfl) mv_X7_here tb_4_64 hK hw ⟨Nat.le_of_ble_eq_true rfl, Nat.le_of_ble_eq_true rfl⟩ ⟨Nat.zero_le _, Nat.zero_le _⟩ rfl hl.1 rfl (Nat.le_of_ble_eq_true rfl) dX7_villagesRead_53 (fun H locs hw => ?_)
      exact J56 q_5.2 u1 q_5.1 RC K hRC hKK hf _ _ _ hw (lv_sub hl [0, 1] rfl)
    · rw [if_neg c_4] at hf
      refine lv_iconst (v := 0) hx hb dX7_villagesRead_48 (by decide) ?_
      refine lv_goto (tgt := 56) hx hb dX7_villagesRead_49 (by decide) ?_
      exact J56 m u1 (0 : Int32) RC K hRC hKK hf _ _ _ hw (lv_sub hl [0, 1] rfl)
  have J38 : ∀ (m : nMd) (u1 : Int32) (s0 : Int32) (RC K : nMd → Int32 → Option (Int32 × nMd)), (∀ (m : nMd) (u1 : Int32), RC m u1 = some q → ∀ (H : Heap) (locs : List Loc) (ls : Array Slot), nn_W D cy ad A ss.heap (sM σ m) H locs → lv_has ls 8 [(0, .ref (ad (136))), (1, .int (u1))] → W pp l ee (nn_R 2) ss mm ([.ref (ad (136))] : List Value).toArray bb me co H locs 0 0 (MQ bb (nn_qi D cy ad A q.1 σ') ([.ref (ad (136))] : List Value).toArray ss 0 0 A) (F0 mm 2 ls [])) → (∀ (m : nMd) (u1 : Int32), K m u1 = some q → ∀ (H : Heap) (locs : List Loc) (ls : Array Slot), nn_W D cy ad A ss.heap (sM σ m) H locs → lv_has ls 8 [(0, .ref (ad (136))), (1, .int (u1))] → W pp l ee (nn_R 2) ss mm ([.ref (ad (136))] : List Value).toArray bb me co H locs 0 0 (MQ bb (nn_qi D cy ad A q.1 σ') ([.ref (ad (136))] : List Value).toArray ss 0 0 A) (F0 mm 312 ls [])) → f_X7_villagesRead_J38 m u1 s0 RC K = some q → ∀ (H : Heap) (locs : List Loc) (ls : Array Slot), nn_W D cy ad A ss.heap (sM σ m) H locs → lv_has ls 8 [(0, .ref (ad (136))), (1, .int (u1))] → W pp l ee (nn_R 2) ss mm ([.ref (ad (136))] : List Value).toArray bb me co H locs 0 0 (MQ bb (nn_qi D cy ad A q.1 σ') ([.ref (ad (136))] : List Value).toArray ss 0 0 A) (F0 mm 38 ls [.int (s0), .ref (ad (136))]) := by
    intro m u1 s0 RC K hRC hKK hf H locs ls hw hl
    unfold f_X7_villagesRead_J38 at hf
    obtain ⟨q_48, h_49, hf⟩ := nn_bind hf
    refine nn_callvV S (As := [.int (s0)]) (rest := []) (ce_M (k := 0)) (by decide) rfl rfl (c_X7_must l D cy ad A (sM σ m) m rfl s0 q_48 h_49 (sM σ q_48) rfl) mv_X7_must tb_4_68 hK hw ⟨Nat.le_of_ble_eq_true rfl, Nat.le_of_ble_eq_true rfl⟩ ⟨Nat.zero_le _, Nat.zero_le _⟩ rfl hl.1 rfl (Nat.le_of_ble_eq_true rfl) dX7_villagesRead_38 (fun H locs hw => ?_)
    exact J41 q_48 u1 RC K hRC hKK hf _ _ _ hw (lv_sub hl [0, 1] rfl)
  have J22 : ∀ (m : nMd) (u1 : Int32) (RC K : nMd → Int32 → Option (Int32 × nMd)), (∀ (m : nMd) (u1 : Int32), RC m u1 = some q → ∀ (H : Heap) (locs : List Loc) (ls : Array Slot), nn_W D cy ad A ss.heap (sM σ m) H locs → lv_has ls 8 [(0, .ref (ad (136))), (1, .int (u1))] → W pp l ee (nn_R 2) ss mm ([.ref (ad (136))] : List Value).toArray bb me co H locs 0 0 (MQ bb (nn_qi D cy ad A q.1 σ') ([.ref (ad (136))] : List Value).toArray ss 0 0 A) (F0 mm 2 ls [])) → (∀ (m : nMd) (u1 : Int32), K m u1 = some q → ∀ (H : Heap) (locs : List Loc) (ls : Array Slot), nn_W D cy ad A ss.heap (sM σ m) H locs → lv_has ls 8 [(0, .ref (ad (136))), (1, .int (u1))] → W pp l ee (nn_R 2) ss mm ([.ref (ad (136))] : List Value).toArray bb me co H locs 0 0 (MQ bb (nn_qi D cy ad A q.1 σ') ([.ref (ad (136))] : List Value).toArray ss 0 0 A) (F0 mm 312 ls [])) → f_X7_villagesRead_J22 m u1 RC K = some q → ∀ (H : Heap) (locs : List Loc) (ls : Array Slot), nn_W D cy ad A ss.heap (sM σ m) H locs → lv_has ls 8 [(0, .ref (ad (136))), (1, .int (u1))] → W pp l ee (nn_R 2) ss mm ([.ref (ad (136))] : List Value).toArray bb me co H locs 0 0 (MQ bb (nn_qi D cy ad A q.1 σ') ([.ref (ad (136))] : List Value).toArray ss 0 0 A) (F0 mm 22 ls []) := by
    intro m u1 RC K hRC hKK hf H locs ls hw hl
    unfold f_X7_villagesRead_J22 at hf
    refine lv_iload_n hx hb dX7_villagesRead_22 rfl (lv_at hl 1 rfl) ?_
    refine lv_if_le (tgt := 41) hx hb dX7_villagesRead_23 (by decide) (fun c_3 => ?_) (fun c_3 => ?_)
    · rw [if_pos c_3] at hf
      exact J41 m u1 RC K hRC hKK hf _ _ _ hw (lv_sub hl [0, 1] rfl)
    · rw [if_neg c_3] at hf
      refine lv_aload_n hx hb dX7_villagesRead_26 rfl (lv_at hl 0 rfl) ?_
      refine lv_iload_n hx hb dX7_villagesRead_27 rfl (lv_at hl 1 rfl) ?_
      refine lv_bipush (v := 6) hx hb dX7_villagesRead_28 (by decide) ?_
      refine lv_icmp_ge (tgt := 37) hx hb dX7_villagesRead_30 (by decide) (fun c_47 => ?_) (fun c_47 => ?_)
      · rw [if_pos c_47] at hf
        refine lv_iconst (v := 0) hx hb dX7_villagesRead_37 (by decide) ?_
        exact J38 m u1 (0 : Int32) RC K hRC hKK hf _ _ _ hw (lv_sub hl [0, 1] rfl)
      · rw [if_neg c_47] at hf
        refine lv_iconst (v := 1) hx hb dX7_villagesRead_33 (by decide) ?_
        refine lv_goto (tgt := 38) hx hb dX7_villagesRead_34 (by decide) ?_
        exact J38 m u1 (1 : Int32) RC K hRC hKK hf _ _ _ hw (lv_sub hl [0, 1] rfl)
  have L2 : ∀ (n : Nat) (m : nMd) (u1 : Int32) (K : nMd → Int32 → Option (Int32 × nMd)), (∀ (m : nMd) (u1 : Int32), K m u1 = some q → ∀ (H : Heap) (locs : List Loc) (ls : Array Slot), nn_W D cy ad A ss.heap (sM σ m) H locs → lv_has ls 8 [(0, .ref (ad (136))), (1, .int (u1))] → W pp l ee (nn_R 2) ss mm ([.ref (ad (136))] : List Value).toArray bb me co H locs 0 0 (MQ bb (nn_qi D cy ad A q.1 σ') ([.ref (ad (136))] : List Value).toArray ss 0 0 A) (F0 mm 312 ls [])) → f_X7_villagesRead_L2 n m u1 K = some q → ∀ (H : Heap) (locs : List Loc) (ls : Array Slot), nn_W D cy ad A ss.heap (sM σ m) H locs → lv_has ls 8 [(0, .ref (ad (136))), (1, .int (u1))] → W pp l ee (nn_R 2) ss mm ([.ref (ad (136))] : List Value).toArray bb me co H locs 0 0 (MQ bb (nn_qi D cy ad A q.1 σ') ([.ref (ad (136))] : List Value).toArray ss 0 0 A) (F0 mm 2 ls []) := by
    intro n
    induction n with
    | zero => intro m u1 K hKK hf; exact absurd hf (by simp [f_X7_villagesRead_L2])
    | succ n ih =>
      intro m u1 K hKK hf H locs ls hw hl
      rw [f_X7_villagesRead_L2] at hf
      refine lv_aload_n hx hb dX7_villagesRead_2 rfl (lv_at hl 0 rfl) ?_
      refine gf_Md_isFault S hK hw (x := m) rfl tb_3_150 dX7_villagesRead_3 ?_
      refine lv_if_ne (tgt := 312) hx hb dX7_villagesRead_6 (by decide) (fun c_1 => ?_) (fun c_1 => ?_)
      · rw [if_neg c_1] at hf
        exact hKK m u1 hf _ _ _ hw (lv_sub hl [0, 1] rfl)
      · rw [if_pos c_1] at hf
        refine lv_iload_n hx hb dX7_villagesRead_9 rfl (lv_at hl 1 rfl) ?_
        refine lv_if_eq (tgt := 22) hx hb dX7_villagesRead_10 (by decide) (fun c_2 => ?_) (fun c_2 => ?_)
        · rw [if_pos c_2] at hf
          exact J22 m u1 _ K (fun m u1 hf H locs ls hw hl => ih m u1 K hKK hf H locs ls hw hl) hKK hf _ _ _ hw (lv_sub hl [0, 1] rfl)
        · rw [if_neg c_2] at hf
          refine lv_aload_n hx hb dX7_villagesRead_13 rfl (lv_at hl 0 rfl) ?_
          obtain ⟨q_50, h_51, hf⟩ := nn_bind hf
          refine nn_calliV S (As := []) (rest := []) (ce_M (k := 0)) (by decide) rfl rfl (c_X7_here l D cy ad A (sM σ m) m rfl q_50 h_51 (sM σ q_50.2) rfl) mv_X7_here tb_4_64 hK hw ⟨Nat.le_of_ble_eq_true rfl, Nat.le_of_ble_eq_true rfl⟩ ⟨Nat.zero_le _, Nat.zero_le _⟩ rfl hl.1 rfl (Nat.le_of_ble_eq_true rfl) dX7_villagesRead_14 (fun H locs hw => ?_)
          refine lv_bipush (v := 44) hx hb dX7_villagesRead_17 (by decide) ?_
          refine lv_icmp_ne (tgt := 312) hx hb dX7_villagesRead_19 (by decide) (fun c_52 => ?_) (fun c_52 => ?_)
          · rw [if_neg c_52] at hf
            exact hKK q_50.2 u1 hf _ _ _ hw (lv_sub hl [0, 1] rfl)
          · rw [if_pos c_52] at hf
            exact J22 q_50.2 u1 _ K (fun m u1 hf H locs ls hw hl => ih m u1 K hKK hf H locs ls hw hl) hKK hf _ _ _ hw (lv_sub hl [0, 1] rfl)
  refine lv_iconst (v := 0) hx hb dX7_villagesRead_0 (by decide) ?_
  refine lv_istore_n (lv' := [(1, .int ((0 : Int32))), (0, .ref (ad (136)))]) hx hb dX7_villagesRead_1 rfl hl (by decide) rfl (fun ls hl => ?_)
  refine L2 100000 m (0 : Int32) _ (fun m_54 b1_53 hf H locs ls hw hl => ?_) hf _ _ _ hw (lv_sub hl [1, 0] rfl)
  refine lv_iload_n hx hb dX7_villagesRead_312 rfl (lv_at hl 1 rfl) ?_
  obtain rfl := Option.some.inj hf
  exact nn_iret S hr hlk hw rfl hσ dX7_villagesRead_313
set_option maxRecDepth 100000 in
set_option maxHeartbeats 4000000 in
theorem c_X7_valley (l : Launch) (D : va_G) (cy : Nat → ClassId) (ad : Nat → Nat) (A : Nat → Prop) (σ : nG) (m : nMd) (hx_M : gM σ = m) (q : Int32 × nMd) (hf : f_X7_valley m = some q) (σ' : nG) (hσ : (sM σ q.2) = σ') : nn_I l yX7_valley (nn_ws yX7_valley cX7_valley 3 (some .int)) (nn_R 3) D cy ad A [.ref (ad (136))] σ q.1 σ' := by
  refine nn_enterI (plainFor_of_name (by decide +kernel)) (Nat.le_of_ble_eq_true rfl) (lv := [(0, .ref (ad (136)))]) rfl ?_
  intro pp ee ss mm bb me co S hr hlk hK hw ls hl
  have hx := S.1
  have hb := S.2.1
  have hw : nn_W D cy ad A ss.heap (sM σ m) ss.heap [] := nn_W.eq (by rw [← hx_M]; rfl) hw
  unfold f_X7_valley at hf
  have L74 : ∀ (n : Nat) (m : nMd) (u1 : Int32) (u2 : Int32) (K : nMd → Int32 → Int32 → Option (Int32 × nMd)), (∀ (m : nMd) (u1 : Int32) (u2 : Int32), K m u1 u2 = some q → ∀ (H : Heap) (locs : List Loc) (ls : Array Slot), nn_W D cy ad A ss.heap (sM σ m) H locs → lv_has ls 3 [(0, .ref (ad (136))), (1, .int (u1)), (2, .int (u2))] → W pp l ee (nn_R 3) ss mm ([.ref (ad (136))] : List Value).toArray bb me co H locs 0 0 (MQ bb (nn_qi D cy ad A q.1 σ') ([.ref (ad (136))] : List Value).toArray ss 0 0 A) (F0 mm 127 ls [])) → f_X7_valley_L74 n m u1 u2 K = some q → ∀ (H : Heap) (locs : List Loc) (ls : Array Slot), nn_W D cy ad A ss.heap (sM σ m) H locs → lv_has ls 3 [(0, .ref (ad (136))), (1, .int (u1)), (2, .int (u2))] → W pp l ee (nn_R 3) ss mm ([.ref (ad (136))] : List Value).toArray bb me co H locs 0 0 (MQ bb (nn_qi D cy ad A q.1 σ') ([.ref (ad (136))] : List Value).toArray ss 0 0 A) (F0 mm 74 ls []) := by
    intro n
    induction n with
    | zero => intro m u1 u2 K hKK hf; exact absurd hf (by simp [f_X7_valley_L74])
    | succ n ih =>
      intro m u1 u2 K hKK hf H locs ls hw hl
      rw [f_X7_valley_L74] at hf
      refine lv_iload_n hx hb dX7_valley_74 rfl (lv_at hl 2 rfl) ?_
      refine lv_iload_n hx hb dX7_valley_75 rfl (lv_at hl 1 rfl) ?_
      refine lv_icmp_ge (tgt := 127) hx hb dX7_valley_76 (by decide) (fun c_8 => ?_) (fun c_8 => ?_)
      · rw [if_pos c_8] at hf
        exact hKK m u1 u2 hf _ _ _ hw (lv_sub hl [0, 1, 2] rfl)
      · rw [if_neg c_8] at hf
        refine lv_aload_n hx hb dX7_valley_79 rfl (lv_at hl 0 rfl) ?_
        refine lv_aload_n hx hb dX7_valley_80 rfl (lv_at hl 0 rfl) ?_
        refine gf_Md_read S hK hw tb_3_151 dX7_valley_81 ?_
        refine lv_iconst (v := 4) hx hb dX7_valley_84 (by decide) ?_
        refine lv_iload_n hx hb dX7_valley_85 rfl (lv_at hl 2 rfl) ?_
        refine lv_imul hx hb dX7_valley_86 ?_
        obtain ⟨g_9, hf⟩ := nn_ix_some hf
        refine al_Md_read S hK hw (x := m) rfl g_9 dX7_valley_87 ?_
        refine lv_aload_n hx hb dX7_valley_88 rfl (lv_at hl 0 rfl) ?_
        refine gf_Md_read S hK hw tb_3_151 dX7_valley_89 ?_
        refine lv_iconst (v := 4) hx hb dX7_valley_92 (by decide) ?_
        refine lv_iload_n hx hb dX7_valley_93 rfl (lv_at hl 2 rfl) ?_
        refine lv_imul hx hb dX7_valley_94 ?_
        refine lv_iconst (v := 1) hx hb dX7_valley_95 (by decide) ?_
        refine lv_iadd hx hb dX7_valley_96 ?_
        obtain ⟨g_10, hf⟩ := nn_ix_some hf
        refine al_Md_read S hK hw (x := m) rfl g_10 dX7_valley_97 ?_
        refine lv_aload_n hx hb dX7_valley_98 rfl (lv_at hl 0 rfl) ?_
        refine gf_Md_read S hK hw tb_3_151 dX7_valley_99 ?_
        refine lv_iconst (v := 4) hx hb dX7_valley_102 (by decide) ?_
        refine lv_iload_n hx hb dX7_valley_103 rfl (lv_at hl 2 rfl) ?_
        refine lv_imul hx hb dX7_valley_104 ?_
        refine lv_iconst (v := 2) hx hb dX7_valley_105 (by decide) ?_
        refine lv_iadd hx hb dX7_valley_106 ?_
        obtain ⟨g_11, hf⟩ := nn_ix_some hf
        refine al_Md_read S hK hw (x := m) rfl g_11 dX7_valley_107 ?_
        refine lv_aload_n hx hb dX7_valley_108 rfl (lv_at hl 0 rfl) ?_
        refine gf_Md_read S hK hw tb_3_151 dX7_valley_109 ?_
        refine lv_iconst (v := 4) hx hb dX7_valley_112 (by decide) ?_
        refine lv_iload_n hx hb dX7_valley_113 rfl (lv_at hl 2 rfl) ?_
        refine lv_imul hx hb dX7_valley_114 ?_
        refine lv_iconst (v := 3) hx hb dX7_valley_115 (by decide) ?_
        refine lv_iadd hx hb dX7_valley_116 ?_
        obtain ⟨g_12, hf⟩ := nn_ix_some hf
        refine al_Md_read S hK hw (x := m) rfl g_12 dX7_valley_117 ?_
        obtain ⟨q_13, h_14, hf⟩ := nn_bind hf
        refine nn_callvV S (As := [.int ((g_Md_read m) ((4 : Int32) * u2).toNatClampNeg), .int ((g_Md_read m) (((4 : Int32) * u2) + (1 : Int32)).toNatClampNeg), .int ((g_Md_read m) (((4 : Int32) * u2) + (2 : Int32)).toNatClampNeg), .int ((g_Md_read m) (((4 : Int32) * u2) + (3 : Int32)).toNatClampNeg)]) (rest := []) (ce_M (k := 0)) (by decide) rfl rfl (c_X7_villageComes l D cy ad A (sM σ m) m rfl ((g_Md_read m) ((4 : Int32) * u2).toNatClampNeg) ((g_Md_read m) (((4 : Int32) * u2) + (1 : Int32)).toNatClampNeg) ((g_Md_read m) (((4 : Int32) * u2) + (2 : Int32)).toNatClampNeg) ((g_Md_read m) (((4 : Int32) * u2) + (3 : Int32)).toNatClampNeg) q_13 h_14 (sM σ q_13) rfl) mv_X7_villageComes tb_3_220 hK hw ⟨Nat.le_of_ble_eq_true rfl, Nat.le_of_ble_eq_true rfl⟩ ⟨Nat.zero_le _, Nat.zero_le _⟩ rfl hl.1 rfl (Nat.le_of_ble_eq_true rfl) dX7_valley_118 (fun H locs hw => ?_)
        refine lv_iinc (v := u2 + (1 : Int32)) (lv' := [(2, .int (u2 + (1 : Int32))), (0, .ref (ad (136))), (1, .int (u1))]) hx hb dX7_valley_121 hl (k := 2) rfl (congrArg (fun z => u2 + z) (by decide)) (by decide) rfl (fun ls hl => ?_)
        refine lv_goto (tgt := 74) hx hb dX7_valley_124 (by decide) ?_
        exact ih q_13 u1 (u2 + (1 : Int32)) K hKK hf _ _ _ hw (lv_sub hl [1, 2, 0] rfl)
  have J35 : ∀ (m : nMd) (u1 : Int32) (s0 : Int32), f_X7_valley_J35 m u1 s0 = some q → ∀ (H : Heap) (locs : List Loc) (ls : Array Slot), nn_W D cy ad A ss.heap (sM σ m) H locs → lv_has ls 3 [(0, .ref (ad (136))), (1, .int (u1))] → W pp l ee (nn_R 3) ss mm ([.ref (ad (136))] : List Value).toArray bb me co H locs 0 0 (MQ bb (nn_qi D cy ad A q.1 σ') ([.ref (ad (136))] : List Value).toArray ss 0 0 A) (F0 mm 35 ls [.int (s0), .ref (ad (136))]) := by
    intro m u1 s0 hf H locs ls hw hl
    unfold f_X7_valley_J35 at hf
    obtain ⟨g_4, hf⟩ := nn_bo_some hf
    refine pf_Md_isFault S hK hw (x := m) rfl g_4 (τ' := (sM σ (s_Md_isFault m s0))) rfl tb_3_150 dX7_valley_35 (fun H locs hw => ?_)
    refine lv_aload_n hx hb dX7_valley_38 rfl (lv_at hl 0 rfl) ?_
    refine lv_iconst (v := 0) hx hb dX7_valley_39 (by decide) ?_
    refine pf_Md_typed S hK hw (x := (s_Md_isFault m s0)) rfl (τ' := (sM σ (s_Md_typed (s_Md_isFault m s0) (0 : Int32)))) rfl tb_3_148 dX7_valley_40 (fun H locs hw => ?_)
    refine lv_aload_n hx hb dX7_valley_43 rfl (lv_at hl 0 rfl) ?_
    refine gf_Md_isFault S hK hw (x := (s_Md_typed (s_Md_isFault m s0) (0 : Int32))) rfl tb_3_150 dX7_valley_44 ?_
    refine lv_if_eq (tgt := 58) hx hb dX7_valley_47 (by decide) (fun c_5 => ?_) (fun c_5 => ?_)
    · rw [if_pos c_5] at hf
      refine lv_aload_n hx hb dX7_valley_58 rfl (lv_at hl 0 rfl) ?_
      refine gf_Md_now S hK hw tb_3_145 dX7_valley_59 ?_
      refine lv_iconst (v := 0) hx hb dX7_valley_62 (by decide) ?_
      refine lv_iconst (v := 0) hx hb dX7_valley_63 (by decide) ?_
      obtain ⟨m_6, h_7, hf⟩ := nn_bind hf
      replace h_7 := Option.some.inj h_7
      refine as_Md_now S hK hw (x := (s_Md_typed (s_Md_isFault m s0) (0 : Int32))) rfl (by decide) (τ' := (sM σ m_6)) ((rfl : _ = (sM σ (s_Md_now (s_Md_typed (s_Md_isFault m s0) (0 : Int32)) (upd (g_Md_now (s_Md_typed (s_Md_isFault m s0) (0 : Int32))) (0 : Int32).toNatClampNeg (0 : Int32))))).trans (by rw [h_7])) dX7_valley_64 (fun H locs hw => ?_)
      refine lv_aload_n hx hb dX7_valley_65 rfl (lv_at hl 0 rfl) ?_
      refine gf_Md_now S hK hw tb_3_145 dX7_valley_66 ?_
      refine lv_iconst (v := 1) hx hb dX7_valley_69 (by decide) ?_
      refine lv_iconst (v := 0) hx hb dX7_valley_70 (by decide) ?_
      refine as_Md_now S hK hw (x := m_6) rfl (by decide) (τ' := (sM σ (s_Md_now m_6 (upd (g_Md_now m_6) (1 : Int32).toNatClampNeg (0 : Int32))))) rfl dX7_valley_71 (fun H locs hw => ?_)
      refine lv_iconst (v := 0) hx hb dX7_valley_72 (by decide) ?_
      refine lv_istore_n (lv' := [(2, .int ((0 : Int32))), (0, .ref (ad (136))), (1, .int (u1))]) hx hb dX7_valley_73 rfl hl (by decide) rfl (fun ls hl => ?_)
      refine L74 100000 (s_Md_now m_6 (upd (g_Md_now m_6) (1 : Int32).toNatClampNeg (0 : Int32))) u1 (0 : Int32) _ (fun m_17 b1_15 b2_16 hf H locs ls hw hl => ?_) hf _ _ _ hw (lv_sub hl [1, 2, 0] rfl)
      refine lv_iload_n hx hb dX7_valley_127 rfl (lv_at hl 1 rfl) ?_
      obtain rfl := Option.some.inj hf
      exact nn_iret S hr hlk hw rfl hσ dX7_valley_128
    · rw [if_neg c_5] at hf
      refine lv_bipush (v := -20) hx hb dX7_valley_50 (by decide) ?_
      refine lv_aload_n hx hb dX7_valley_52 rfl (lv_at hl 0 rfl) ?_
      refine gf_Md_place S hK hw (x := (s_Md_typed (s_Md_isFault m s0) (0 : Int32))) rfl tb_3_149 dX7_valley_53 ?_
      refine lv_isub hx hb dX7_valley_56 ?_
      obtain rfl := Option.some.inj hf
      exact nn_iret S hr hlk hw rfl hσ dX7_valley_57
  have J30 : ∀ (m : nMd) (u1 : Int32), f_X7_valley_J30 m u1 = some q → ∀ (H : Heap) (locs : List Loc) (ls : Array Slot), nn_W D cy ad A ss.heap (sM σ m) H locs → lv_has ls 3 [(0, .ref (ad (136))), (1, .int (u1))] → W pp l ee (nn_R 3) ss mm ([.ref (ad (136))] : List Value).toArray bb me co H locs 0 0 (MQ bb (nn_qi D cy ad A q.1 σ') ([.ref (ad (136))] : List Value).toArray ss 0 0 A) (F0 mm 30 ls [.ref (ad (136))]) := by
    intro m u1 hf H locs ls hw hl
    unfold f_X7_valley_J30 at hf
    refine lv_iconst (v := 1) hx hb dX7_valley_30 (by decide) ?_
    refine lv_goto (tgt := 35) hx hb dX7_valley_31 (by decide) ?_
    exact J35 m u1 (1 : Int32) hf _ _ _ hw (lv_sub hl [0, 1] rfl)
  refine lv_aload_n hx hb dX7_valley_0 rfl (lv_at hl 0 rfl) ?_
  refine lv_iconst (v := 0) hx hb dX7_valley_1 (by decide) ?_
  refine pf_Md_place S hK hw (x := m) rfl (τ' := (sM σ (s_Md_place m (0 : Int32)))) rfl tb_3_149 dX7_valley_2 (fun H locs hw => ?_)
  refine lv_aload_n hx hb dX7_valley_5 rfl (lv_at hl 0 rfl) ?_
  refine lv_iconst (v := 0) hx hb dX7_valley_6 (by decide) ?_
  refine pf_Md_isFault S hK hw (x := (s_Md_place m (0 : Int32))) rfl (by decide) (τ' := (sM σ (s_Md_isFault (s_Md_place m (0 : Int32)) (0 : Int32)))) rfl tb_3_150 dX7_valley_7 (fun H locs hw => ?_)
  refine lv_aload_n hx hb dX7_valley_10 rfl (lv_at hl 0 rfl) ?_
  obtain ⟨q_1, h_2, hf⟩ := nn_bind hf
  refine nn_calliV S (As := []) (rest := []) (ce_M (k := 0)) (by decide) rfl rfl (c_X7_villagesRead l D cy ad A (sM σ (s_Md_isFault (s_Md_place m (0 : Int32)) (0 : Int32))) (s_Md_isFault (s_Md_place m (0 : Int32)) (0 : Int32)) rfl q_1 h_2 (sM σ q_1.2) rfl) mv_X7_villagesRead tb_4_60 hK hw ⟨Nat.le_of_ble_eq_true rfl, Nat.le_of_ble_eq_true rfl⟩ ⟨Nat.zero_le _, Nat.zero_le _⟩ rfl hl.1 rfl (Nat.le_of_ble_eq_true rfl) dX7_valley_11 (fun H locs hw => ?_)
  refine lv_istore_n (lv' := [(1, .int (q_1.1)), (0, .ref (ad (136)))]) hx hb dX7_valley_14 rfl hl (by decide) rfl (fun ls hl => ?_)
  refine lv_aload_n hx hb dX7_valley_15 rfl (lv_at hl 1 rfl) ?_
  refine lv_aload_n hx hb dX7_valley_16 rfl (lv_at hl 1 rfl) ?_
  refine gf_Md_isFault S hK hw (x := q_1.2) rfl tb_3_150 dX7_valley_17 ?_
  refine lv_if_ne (tgt := 30) hx hb dX7_valley_20 (by decide) (fun c_3 => ?_) (fun c_3 => ?_)
  · rw [if_neg c_3] at hf
    exact J30 q_1.2 q_1.1 hf _ _ _ hw (lv_sub hl [1, 0] rfl)
  · rw [if_pos c_3] at hf
    refine lv_aload_n hx hb dX7_valley_23 rfl (lv_at hl 1 rfl) ?_
    obtain ⟨q_18, h_19, hf⟩ := nn_bind hf
    refine nn_calliV S (As := []) (rest := [.ref (ad (136))]) (ce_M (k := 0)) (by decide) rfl rfl (c_X7_here l D cy ad A (sM σ q_1.2) q_1.2 rfl q_18 h_19 (sM σ q_18.2) rfl) mv_X7_here tb_4_64 hK hw ⟨Nat.le_of_ble_eq_true rfl, Nat.le_of_ble_eq_true rfl⟩ ⟨Nat.zero_le _, Nat.zero_le _⟩ rfl hl.1 rfl (Nat.le_of_ble_eq_true rfl) dX7_valley_24 (fun H locs hw => ?_)
    refine lv_if_eq (tgt := 34) hx hb dX7_valley_27 (by decide) (fun c_20 => ?_) (fun c_20 => ?_)
    · rw [if_pos c_20] at hf
      refine lv_iconst (v := 0) hx hb dX7_valley_34 (by decide) ?_
      exact J35 q_18.2 q_1.1 (0 : Int32) hf _ _ _ hw (lv_sub hl [1, 0] rfl)
    · rw [if_neg c_20] at hf
      exact J30 q_18.2 q_1.1 hf _ _ _ hw (lv_sub hl [1, 0] rfl)
set_option maxRecDepth 100000 in
set_option maxHeartbeats 4000000 in
theorem c_X7_notes (l : Launch) (D : va_G) (cy : Nat → ClassId) (ad : Nat → Nat) (A : Nat → Prop) (σ : nG) (m : nMd) (hx_M : gM σ = m) (q : nMd) (hf : f_X7_notes m = some q) (σ' : nG) (hσ : (sM σ q) = σ') : nn_V l yX7_notes (nn_ws yX7_notes cX7_notes 2 none) (nn_R 0) D cy ad A [.ref (ad (136))] σ σ' := by
  refine nn_enterV (plainFor_of_name (by decide +kernel)) (Nat.le_of_ble_eq_true rfl) (lv := [(0, .ref (ad (136)))]) rfl ?_
  intro pp ee ss mm bb me co S hr hlk hK hw ls hl
  have hx := S.1
  have hb := S.2.1
  have hw : nn_W D cy ad A ss.heap (sM σ m) ss.heap [] := nn_W.eq (by rw [← hx_M]; rfl) hw
  unfold f_X7_notes at hf
  have L48 : ∀ (n : Nat) (m : nMd) (u1 : Int32) (K : nMd → Int32 → Option (nMd)), (∀ (m : nMd) (u1 : Int32), K m u1 = some q → ∀ (H : Heap) (locs : List Loc) (ls : Array Slot), nn_W D cy ad A ss.heap (sM σ m) H locs → lv_has ls 2 [(0, .ref (ad (136))), (1, .int (u1))] → W pp l ee (nn_R 0) ss mm ([.ref (ad (136))] : List Value).toArray bb me co H locs 0 0 (MQ bb (nn_qv D cy ad A σ') ([.ref (ad (136))] : List Value).toArray ss 0 0 A) (F0 mm 80 ls [])) → f_X7_notes_L48 n m u1 K = some q → ∀ (H : Heap) (locs : List Loc) (ls : Array Slot), nn_W D cy ad A ss.heap (sM σ m) H locs → lv_has ls 2 [(0, .ref (ad (136))), (1, .int (u1))] → W pp l ee (nn_R 0) ss mm ([.ref (ad (136))] : List Value).toArray bb me co H locs 0 0 (MQ bb (nn_qv D cy ad A σ') ([.ref (ad (136))] : List Value).toArray ss 0 0 A) (F0 mm 48 ls []) := by
    intro n
    induction n with
    | zero => intro m u1 K hKK hf; exact absurd hf (by simp [f_X7_notes_L48])
    | succ n ih =>
      intro m u1 K hKK hf H locs ls hw hl
      rw [f_X7_notes_L48] at hf
      refine lv_iload_n hx hb dX7_notes_48 rfl (lv_at hl 1 rfl) ?_
      refine lv_bipush (v := 27) hx hb dX7_notes_49 (by decide) ?_
      refine lv_icmp_ge (tgt := 80) hx hb dX7_notes_51 (by decide) (fun c_2 => ?_) (fun c_2 => ?_)
      · rw [if_pos c_2] at hf
        exact hKK m u1 hf _ _ _ hw (lv_sub hl [0, 1] rfl)
      · rw [if_neg c_2] at hf
        refine lv_aload_n hx hb dX7_notes_54 rfl (lv_at hl 0 rfl) ?_
        refine gf_Md_undone S hK hw tb_3_152 dX7_notes_55 ?_
        refine lv_bipush (v := 27) hx hb dX7_notes_58 (by decide) ?_
        refine lv_aload_n hx hb dX7_notes_60 rfl (lv_at hl 0 rfl) ?_
        refine gf_Md_undos S hK hw (x := m) rfl tb_3_153 dX7_notes_61 ?_
        refine lv_imul hx hb dX7_notes_64 ?_
        refine lv_iload_n hx hb dX7_notes_65 rfl (lv_at hl 1 rfl) ?_
        refine lv_iadd hx hb dX7_notes_66 ?_
        refine lv_aload_n hx hb dX7_notes_67 rfl (lv_at hl 0 rfl) ?_
        refine gf_Md_now S hK hw tb_3_145 dX7_notes_68 ?_
        refine lv_iload_n hx hb dX7_notes_71 rfl (lv_at hl 1 rfl) ?_
        obtain ⟨g_3, hf⟩ := nn_ix_some hf
        refine al_Md_now S hK hw (x := m) rfl g_3 dX7_notes_72 ?_
        obtain ⟨g_4, hf⟩ := nn_ix_some hf
        obtain ⟨m_5, h_6, hf⟩ := nn_bind hf
        replace h_6 := Option.some.inj h_6
        refine as_Md_undone S hK hw (x := m) rfl g_4 (τ' := (sM σ m_5)) ((rfl : _ = (sM σ (s_Md_undone m (upd (g_Md_undone m) (((27 : Int32) * (g_Md_undos m)) + u1).toNatClampNeg ((g_Md_now m) u1.toNatClampNeg))))).trans (by rw [h_6])) dX7_notes_73 (fun H locs hw => ?_)
        refine lv_iinc (v := u1 + (1 : Int32)) (lv' := [(1, .int (u1 + (1 : Int32))), (0, .ref (ad (136)))]) hx hb dX7_notes_74 hl (k := 1) rfl (congrArg (fun z => u1 + z) (by decide)) (by decide) rfl (fun ls hl => ?_)
        refine lv_goto (tgt := 48) hx hb dX7_notes_77 (by decide) ?_
        exact ih m_5 (u1 + (1 : Int32)) K hKK hf _ _ _ hw (lv_sub hl [1, 0] rfl)
  have L12 : ∀ (n : Nat) (m : nMd) (u1 : Int32) (K : nMd → Int32 → Option (nMd)), (∀ (m : nMd) (u1 : Int32), K m u1 = some q → ∀ (H : Heap) (locs : List Loc) (ls : Array Slot), nn_W D cy ad A ss.heap (sM σ m) H locs → lv_has ls 2 [(0, .ref (ad (136))), (1, .int (u1))] → W pp l ee (nn_R 0) ss mm ([.ref (ad (136))] : List Value).toArray bb me co H locs 0 0 (MQ bb (nn_qv D cy ad A σ') ([.ref (ad (136))] : List Value).toArray ss 0 0 A) (F0 mm 40 ls [])) → f_X7_notes_L12 n m u1 K = some q → ∀ (H : Heap) (locs : List Loc) (ls : Array Slot), nn_W D cy ad A ss.heap (sM σ m) H locs → lv_has ls 2 [(0, .ref (ad (136))), (1, .int (u1))] → W pp l ee (nn_R 0) ss mm ([.ref (ad (136))] : List Value).toArray bb me co H locs 0 0 (MQ bb (nn_qv D cy ad A σ') ([.ref (ad (136))] : List Value).toArray ss 0 0 A) (F0 mm 12 ls []) := by
    intro n
    induction n with
    | zero => intro m u1 K hKK hf; exact absurd hf (by simp [f_X7_notes_L12])
    | succ n ih =>
      intro m u1 K hKK hf H locs ls hw hl
      rw [f_X7_notes_L12] at hf
      refine lv_iload_n hx hb dX7_notes_12 rfl (lv_at hl 1 rfl) ?_
      refine lv_sipush (v := 216) hx hb dX7_notes_13 (by decide) ?_
      refine lv_icmp_ge (tgt := 40) hx hb dX7_notes_16 (by decide) (fun c_9 => ?_) (fun c_9 => ?_)
      · rw [if_pos c_9] at hf
        exact hKK m u1 hf _ _ _ hw (lv_sub hl [0, 1] rfl)
      · rw [if_neg c_9] at hf
        refine lv_aload_n hx hb dX7_notes_19 rfl (lv_at hl 0 rfl) ?_
        refine gf_Md_undone S hK hw tb_3_152 dX7_notes_20 ?_
        refine lv_iload_n hx hb dX7_notes_23 rfl (lv_at hl 1 rfl) ?_
        refine lv_bipush (v := 27) hx hb dX7_notes_24 (by decide) ?_
        refine lv_isub hx hb dX7_notes_26 ?_
        refine lv_aload_n hx hb dX7_notes_27 rfl (lv_at hl 0 rfl) ?_
        refine gf_Md_undone S hK hw tb_3_152 dX7_notes_28 ?_
        refine lv_iload_n hx hb dX7_notes_31 rfl (lv_at hl 1 rfl) ?_
        obtain ⟨g_10, hf⟩ := nn_ix_some hf
        refine al_Md_undone S hK hw (x := m) rfl g_10 dX7_notes_32 ?_
        obtain ⟨g_11, hf⟩ := nn_ix_some hf
        obtain ⟨m_12, h_13, hf⟩ := nn_bind hf
        replace h_13 := Option.some.inj h_13
        refine as_Md_undone S hK hw (x := m) rfl g_11 (τ' := (sM σ m_12)) ((rfl : _ = (sM σ (s_Md_undone m (upd (g_Md_undone m) (u1 - (27 : Int32)).toNatClampNeg ((g_Md_undone m) u1.toNatClampNeg))))).trans (by rw [h_13])) dX7_notes_33 (fun H locs hw => ?_)
        refine lv_iinc (v := u1 + (1 : Int32)) (lv' := [(1, .int (u1 + (1 : Int32))), (0, .ref (ad (136)))]) hx hb dX7_notes_34 hl (k := 1) rfl (congrArg (fun z => u1 + z) (by decide)) (by decide) rfl (fun ls hl => ?_)
        refine lv_goto (tgt := 12) hx hb dX7_notes_37 (by decide) ?_
        exact ih m_12 (u1 + (1 : Int32)) K hKK hf _ _ _ hw (lv_sub hl [1, 0] rfl)
  refine lv_aload_n hx hb dX7_notes_0 rfl (lv_at hl 0 rfl) ?_
  refine gf_Md_undos S hK hw (x := m) rfl tb_3_153 dX7_notes_1 ?_
  refine lv_bipush (v := 8) hx hb dX7_notes_4 (by decide) ?_
  refine lv_icmp_ne (tgt := 46) hx hb dX7_notes_6 (by decide) (fun c_1 => ?_) (fun c_1 => ?_)
  · rw [if_neg c_1] at hf
    refine lv_iconst (v := 0) hx hb dX7_notes_46 (by decide) ?_
    refine lv_istore_n (lv' := [(1, .int ((0 : Int32))), (0, .ref (ad (136)))]) hx hb dX7_notes_47 rfl hl (by decide) rfl (fun ls hl => ?_)
    refine L48 100000 m (0 : Int32) _ (fun m_8 b1_7 hf H locs ls hw hl => ?_) hf _ _ _ hw (lv_sub hl [1, 0] rfl)
    refine lv_aload_n hx hb dX7_notes_80 rfl (lv_at hl 0 rfl) ?_
    refine lv_dup hx hb dX7_notes_81 rfl ?_
    refine gf_Md_undos S hK hw (x := m_8) rfl tb_3_153 dX7_notes_82 ?_
    refine lv_iconst (v := 1) hx hb dX7_notes_85 (by decide) ?_
    refine lv_iadd hx hb dX7_notes_86 ?_
    refine pf_Md_undos S hK hw (x := m_8) rfl (τ' := (sM σ (s_Md_undos m_8 ((g_Md_undos m_8) + (1 : Int32))))) rfl tb_3_153 dX7_notes_87 (fun H locs hw => ?_)
    obtain rfl := Option.some.inj hf
    exact nn_vret S hr hlk hw hσ dX7_notes_90
  · rw [if_pos c_1] at hf
    refine lv_bipush (v := 27) hx hb dX7_notes_9 (by decide) ?_
    refine lv_istore_n (lv' := [(1, .int ((27 : Int32))), (0, .ref (ad (136)))]) hx hb dX7_notes_11 rfl hl (by decide) rfl (fun ls hl => ?_)
    refine L12 100000 m (27 : Int32) _ (fun m_15 b1_14 hf H locs ls hw hl => ?_) hf _ _ _ hw (lv_sub hl [1, 0] rfl)
    refine lv_aload_n hx hb dX7_notes_40 rfl (lv_at hl 0 rfl) ?_
    refine lv_bipush (v := 7) hx hb dX7_notes_41 (by decide) ?_
    refine pf_Md_undos S hK hw (x := m_15) rfl (τ' := (sM σ (s_Md_undos m_15 (7 : Int32)))) rfl tb_3_153 dX7_notes_43 (fun H locs hw => ?_)
    refine lv_iconst (v := 0) hx hb dX7_notes_46 (by decide) ?_
    refine lv_istore_n (lv' := [(1, .int ((0 : Int32))), (0, .ref (ad (136)))]) hx hb dX7_notes_47 rfl hl (by decide) rfl (fun ls hl => ?_)
    refine L48 100000 (s_Md_undos m_15 (7 : Int32)) (0 : Int32) _ (fun m_17 b1_16 hf H locs ls hw hl => ?_) hf _ _ _ hw (lv_sub hl [1, 0] rfl)
    refine lv_aload_n hx hb dX7_notes_80 rfl (lv_at hl 0 rfl) ?_
    refine lv_dup hx hb dX7_notes_81 rfl ?_
    refine gf_Md_undos S hK hw (x := m_17) rfl tb_3_153 dX7_notes_82 ?_
    refine lv_iconst (v := 1) hx hb dX7_notes_85 (by decide) ?_
    refine lv_iadd hx hb dX7_notes_86 ?_
    refine pf_Md_undos S hK hw (x := m_17) rfl (τ' := (sM σ (s_Md_undos m_17 ((g_Md_undos m_17) + (1 : Int32))))) rfl tb_3_153 dX7_notes_87 (fun H locs hw => ?_)
    obtain rfl := Option.some.inj hf
    exact nn_vret S hr hlk hw hσ dX7_notes_90
set_option maxRecDepth 100000 in
set_option maxHeartbeats 4000000 in
theorem c_X7_days (l : Launch) (D : va_G) (cy : Nat → ClassId) (ad : Nat → Nat) (A : Nat → Prop) (σ : nG) (m : nMd) (hx_M : gM σ = m) (a1 : Int32) (q : Int32 × nMd) (hf : f_X7_days m a1 = some q) (σ' : nG) (hσ : (sM σ q.2) = σ') : nn_I l yX7_days (nn_ws yX7_days cX7_days 3 (some .int)) (nn_R 5) D cy ad A [.ref (ad (136)), .int (a1)] σ q.1 σ' := by
  refine nn_enterI (plainFor_of_name (by decide +kernel)) (Nat.le_of_ble_eq_true rfl) (lv := [(0, .ref (ad (136))), (1, .int (a1))]) rfl ?_
  intro pp ee ss mm bb me co S hr hlk hK hw ls hl
  have hx := S.1
  have hb := S.2.1
  have hw : nn_W D cy ad A ss.heap (sM σ m) ss.heap [] := nn_W.eq (by rw [← hx_M]; rfl) hw
  unfold f_X7_days at hf
  have L33 : ∀ (n : Nat) (m : nMd) (u1 : Int32) (u2 : Int32) (K : nMd → Int32 → Int32 → Option (Int32 × nMd)), (∀ (m : nMd) (u1 : Int32) (u2 : Int32), K m u1 u2 = some q → ∀ (H : Heap) (locs : List Loc) (ls : Array Slot), nn_W D cy ad A ss.heap (sM σ m) H locs → lv_has ls 3 [(0, .ref (ad (136))), (1, .int (u1)), (2, .int (u2))] → W pp l ee (nn_R 5) ss mm ([.ref (ad (136)), .int (a1)] : List Value).toArray bb me co H locs 0 0 (MQ bb (nn_qi D cy ad A q.1 σ') ([.ref (ad (136)), .int (a1)] : List Value).toArray ss 0 0 A) (F0 mm 52 ls [])) → f_X7_days_L33 n m u1 u2 K = some q → ∀ (H : Heap) (locs : List Loc) (ls : Array Slot), nn_W D cy ad A ss.heap (sM σ m) H locs → lv_has ls 3 [(0, .ref (ad (136))), (1, .int (u1)), (2, .int (u2))] → W pp l ee (nn_R 5) ss mm ([.ref (ad (136)), .int (a1)] : List Value).toArray bb me co H locs 0 0 (MQ bb (nn_qi D cy ad A q.1 σ') ([.ref (ad (136)), .int (a1)] : List Value).toArray ss 0 0 A) (F0 mm 33 ls []) := by
    intro n
    induction n with
    | zero => intro m u1 u2 K hKK hf; exact absurd hf (by simp [f_X7_days_L33])
    | succ n ih =>
      intro m u1 u2 K hKK hf H locs ls hw hl
      rw [f_X7_days_L33] at hf
      refine lv_iload_n hx hb dX7_days_33 rfl (lv_at hl 2 rfl) ?_
      refine lv_iload_n hx hb dX7_days_34 rfl (lv_at hl 1 rfl) ?_
      refine lv_icmp_ge (tgt := 52) hx hb dX7_days_35 (by decide) (fun c_5 => ?_) (fun c_5 => ?_)
      · rw [if_pos c_5] at hf
        exact hKK m u1 u2 hf _ _ _ hw (lv_sub hl [0, 1, 2] rfl)
      · rw [if_neg c_5] at hf
        refine lv_aload_n hx hb dX7_days_38 rfl (lv_at hl 0 rfl) ?_
        obtain ⟨q_6, h_7, hf⟩ := nn_bind hf
        refine nn_callvV S (As := []) (rest := []) (ce_M (k := 0)) (by decide) rfl rfl (c_X7_notes l D cy ad A (sM σ m) m rfl q_6 h_7 (sM σ q_6) rfl) mv_X7_notes tb_4_83 hK hw ⟨Nat.le_of_ble_eq_true rfl, Nat.le_of_ble_eq_true rfl⟩ ⟨Nat.zero_le _, Nat.zero_le _⟩ rfl hl.1 rfl (Nat.le_of_ble_eq_true rfl) dX7_days_39 (fun H locs hw => ?_)
        refine lv_aload_n hx hb dX7_days_42 rfl (lv_at hl 0 rfl) ?_
        obtain ⟨q_8, h_9, hf⟩ := nn_bind hf
        refine nn_callvV S (As := []) (rest := []) (ce_M (k := 0)) (by decide) rfl rfl (c_X7_goesBy l D cy ad A (sM σ q_6) q_6 rfl q_8 h_9 (sM σ q_8) rfl) mv_X7_goesBy tb_4_87 hK hw ⟨Nat.le_of_ble_eq_true rfl, Nat.le_of_ble_eq_true rfl⟩ ⟨Nat.zero_le _, Nat.zero_le _⟩ rfl hl.1 rfl (Nat.le_of_ble_eq_true rfl) dX7_days_43 (fun H locs hw => ?_)
        refine lv_iinc (v := u2 + (1 : Int32)) (lv' := [(2, .int (u2 + (1 : Int32))), (0, .ref (ad (136))), (1, .int (u1))]) hx hb dX7_days_46 hl (k := 2) rfl (congrArg (fun z => u2 + z) (by decide)) (by decide) rfl (fun ls hl => ?_)
        refine lv_goto (tgt := 33) hx hb dX7_days_49 (by decide) ?_
        exact ih q_8 u1 (u2 + (1 : Int32)) K hKK hf _ _ _ hw (lv_sub hl [1, 2, 0] rfl)
  refine lv_iload_n hx hb dX7_days_0 rfl (lv_at hl 1 rfl) ?_
  refine lv_i2l (v := a1.toInt64) hx hb dX7_days_1 rfl ?_
  refine lv_lconst (v := 1) hx hb dX7_days_2 (by decide) ?_
  refine lv_ldc2 (v := 40) hx hb S.2.2.2.1 (S.2.2.2.2 _ tb_4_82) dX7_days_3 ?_
  obtain ⟨q_1, h_2, hf⟩ := nn_bind hf
  refine nn_calliS S (As := [.long (a1.toInt64), .long ((1 : Int64)), .long ((40 : Int64))]) (rest := []) (c_X7_in l D cy ad A (sM σ m) a1.toInt64 (1 : Int64) (40 : Int64) q_1 h_2) mv_X7_in tb_3_214 hK hw ⟨Nat.le_of_ble_eq_true rfl, Nat.le_of_ble_eq_true rfl⟩ ⟨Nat.zero_le _, Nat.zero_le _⟩ rfl hl.1 rfl (Nat.le_of_ble_eq_true rfl) dX7_days_6 (fun H locs hw => ?_)
  refine lv_if_ne (tgt := 14) hx hb dX7_days_9 (by decide) (fun c_3 => ?_) (fun c_3 => ?_)
  · rw [if_neg c_3] at hf
    refine lv_aload_n hx hb dX7_days_14 rfl (lv_at hl 0 rfl) ?_
    refine gf_Md_now S hK hw tb_3_145 dX7_days_15 ?_
    refine lv_iconst (v := 1) hx hb dX7_days_18 (by decide) ?_
    refine al_Md_now S hK hw (x := m) rfl (by decide) dX7_days_19 ?_
    refine lv_iload_n hx hb dX7_days_20 rfl (lv_at hl 1 rfl) ?_
    refine lv_iadd hx hb dX7_days_21 ?_
    refine lv_sipush (v := 9999) hx hb dX7_days_22 (by decide) ?_
    refine lv_icmp_le (tgt := 31) hx hb dX7_days_25 (by decide) (fun c_4 => ?_) (fun c_4 => ?_)
    · rw [if_pos c_4] at hf
      refine lv_iconst (v := 0) hx hb dX7_days_31 (by decide) ?_
      refine lv_istore_n (lv' := [(2, .int ((0 : Int32))), (0, .ref (ad (136))), (1, .int (a1))]) hx hb dX7_days_32 rfl hl (by decide) rfl (fun ls hl => ?_)
      refine L33 100000 m a1 (0 : Int32) _ (fun m_12 b1_10 b2_11 hf H locs ls hw hl => ?_) hf _ _ _ hw (lv_sub hl [1, 2, 0] rfl)
      refine lv_aload_n hx hb dX7_days_52 rfl (lv_at hl 0 rfl) ?_
      obtain ⟨q_13, h_14, hf⟩ := nn_bind hf
      refine nn_calliV S (As := []) (rest := []) (ce_M (k := 0)) (by decide) rfl rfl (c_X7_leastGap l D cy ad A (sM σ m_12) m_12 rfl q_13 h_14) mv_X7_leastGap tb_4_38 hK hw ⟨Nat.le_of_ble_eq_true rfl, Nat.le_of_ble_eq_true rfl⟩ ⟨Nat.zero_le _, Nat.zero_le _⟩ rfl hl.1 rfl (Nat.le_of_ble_eq_true rfl) dX7_days_53 (fun H locs hw => ?_)
      obtain rfl := Option.some.inj hf
      exact nn_iret S hr hlk hw rfl hσ dX7_days_56
    · rw [if_neg c_4] at hf
      refine lv_bipush (v := -3) hx hb dX7_days_28 (by decide) ?_
      obtain rfl := Option.some.inj hf
      exact nn_iret S hr hlk hw rfl hσ dX7_days_30
  · rw [if_pos c_3] at hf
    refine lv_iconst (v := -1) hx hb dX7_days_12 (by decide) ?_
    obtain rfl := Option.some.inj hf
    exact nn_iret S hr hlk hw rfl hσ dX7_days_13
set_option maxRecDepth 100000 in
set_option maxHeartbeats 4000000 in
theorem c_X7_becomes (l : Launch) (D : va_G) (cy : Nat → ClassId) (ad : Nat → Nat) (A : Nat → Prop) (σ : nG) (m : nMd) (hx_M : gM σ = m) (a1 : Int32) (a2 : Int32) (a3 : Int32) (a4 : Int32) (a5 : Int32) (q : Int32 × nMd) (hf : f_X7_becomes m a1 a2 a3 a4 a5 = some q) (σ' : nG) (hσ : (sM σ q.2) = σ') : nn_I l yX7_becomes (nn_ws yX7_becomes cX7_becomes 7 (some .int)) (nn_R 2) D cy ad A [.ref (ad (136)), .int (a1), .int (a2), .int (a3), .int (a4), .int (a5)] σ q.1 σ' := by
  refine nn_enterI (plainFor_of_name (by decide +kernel)) (Nat.le_of_ble_eq_true rfl) (lv := [(0, .ref (ad (136))), (1, .int (a1)), (2, .int (a2)), (3, .int (a3)), (4, .int (a4)), (5, .int (a5))]) rfl ?_
  intro pp ee ss mm bb me co S hr hlk hK hw ls hl
  have hx := S.1
  have hb := S.2.1
  have hw : nn_W D cy ad A ss.heap (sM σ m) ss.heap [] := nn_W.eq (by rw [← hx_M]; rfl) hw
  unfold f_X7_becomes at hf
  refine lv_aload_n hx hb dX7_becomes_0 rfl (lv_at hl 0 rfl) ?_
  refine lv_iload_n hx hb dX7_becomes_1 rfl (lv_at hl 1 rfl) ?_
  obtain ⟨q_1, h_2, hf⟩ := nn_bind hf
  refine nn_calliV S (As := [.int (a1)]) (rest := []) (ce_M (k := 0)) (by decide) rfl rfl (c_X7_isVillage l D cy ad A (sM σ m) m rfl a1 q_1 h_2) mv_X7_isVillage tb_3_232 hK hw ⟨Nat.le_of_ble_eq_true rfl, Nat.le_of_ble_eq_true rfl⟩ ⟨Nat.zero_le _, Nat.zero_le _⟩ rfl hl.1 rfl (Nat.le_of_ble_eq_true rfl) dX7_becomes_2 (fun H locs hw => ?_)
  refine lv_if_eq (tgt := 22) hx hb dX7_becomes_5 (by decide) (fun c_3 => ?_) (fun c_3 => ?_)
  · rw [if_pos c_3] at hf
    refine lv_iconst (v := -1) hx hb dX7_becomes_22 (by decide) ?_
    obtain rfl := Option.some.inj hf
    exact nn_iret S hr hlk hw rfl hσ dX7_becomes_23
  · rw [if_neg c_3] at hf
    refine lv_iload_n hx hb dX7_becomes_8 rfl (lv_at hl 3 rfl) ?_
    refine lv_i2l (v := a3.toInt64) hx hb dX7_becomes_9 rfl ?_
    refine lv_iload hx hb dX7_becomes_10 (lv_at hl 4 rfl) ?_
    refine lv_i2l (v := a4.toInt64) hx hb dX7_becomes_12 rfl ?_
    refine lv_iload hx hb dX7_becomes_13 (lv_at hl 5 rfl) ?_
    refine lv_i2l (v := a5.toInt64) hx hb dX7_becomes_15 rfl ?_
    obtain ⟨q_4, h_5, hf⟩ := nn_bind hf
    refine nn_calliS S (As := [.long (a3.toInt64), .long (a4.toInt64), .long (a5.toInt64)]) (rest := []) (c_X7_in l D cy ad A (sM σ m) a3.toInt64 a4.toInt64 a5.toInt64 q_4 h_5) mv_X7_in tb_3_214 hK hw ⟨Nat.le_of_ble_eq_true rfl, Nat.le_of_ble_eq_true rfl⟩ ⟨Nat.zero_le _, Nat.zero_le _⟩ rfl hl.1 rfl (Nat.le_of_ble_eq_true rfl) dX7_becomes_16 (fun H locs hw => ?_)
    refine lv_if_ne (tgt := 24) hx hb dX7_becomes_19 (by decide) (fun c_6 => ?_) (fun c_6 => ?_)
    · rw [if_neg c_6] at hf
      refine lv_aload_n hx hb dX7_becomes_24 rfl (lv_at hl 0 rfl) ?_
      refine lv_iload_n hx hb dX7_becomes_25 rfl (lv_at hl 1 rfl) ?_
      refine lv_iload_n hx hb dX7_becomes_26 rfl (lv_at hl 2 rfl) ?_
      obtain ⟨q_7, h_8, hf⟩ := nn_bind hf
      refine nn_calliV S (As := [.int (a1), .int (a2)]) (rest := []) (ce_M (k := 0)) (by decide) rfl rfl (c_X7_told l D cy ad A (sM σ m) m rfl a1 a2 q_7 h_8) mv_X7_told tb_3_236 hK hw ⟨Nat.le_of_ble_eq_true rfl, Nat.le_of_ble_eq_true rfl⟩ ⟨Nat.zero_le _, Nat.zero_le _⟩ rfl hl.1 rfl (Nat.le_of_ble_eq_true rfl) dX7_becomes_27 (fun H locs hw => ?_)
      refine lv_istore (lv' := [(6, .int (q_7)), (0, .ref (ad (136))), (1, .int (a1)), (2, .int (a2)), (3, .int (a3)), (4, .int (a4)), (5, .int (a5))]) hx hb dX7_becomes_30 hl (by decide) rfl (fun ls hl => ?_)
      refine lv_iload hx hb dX7_becomes_32 (lv_at hl 0 rfl) ?_
      refine lv_iload_n hx hb dX7_becomes_34 rfl (lv_at hl 4 rfl) ?_
      refine lv_icmp_ne (tgt := 41) hx hb dX7_becomes_35 (by decide) (fun c_9 => ?_) (fun c_9 => ?_)
      · rw [if_neg c_9] at hf
        refine lv_aload_n hx hb dX7_becomes_41 rfl (lv_at hl 1 rfl) ?_
        obtain ⟨q_10, h_11, hf⟩ := nn_bind hf
        refine nn_callvV S (As := []) (rest := []) (ce_M (k := 0)) (by decide) rfl rfl (c_X7_notes l D cy ad A (sM σ m) m rfl q_10 h_11 (sM σ q_10) rfl) mv_X7_notes tb_4_83 hK hw ⟨Nat.le_of_ble_eq_true rfl, Nat.le_of_ble_eq_true rfl⟩ ⟨Nat.zero_le _, Nat.zero_le _⟩ rfl hl.1 rfl (Nat.le_of_ble_eq_true rfl) dX7_becomes_42 (fun H locs hw => ?_)
        refine lv_aload_n hx hb dX7_becomes_45 rfl (lv_at hl 1 rfl) ?_
        refine lv_iload_n hx hb dX7_becomes_46 rfl (lv_at hl 2 rfl) ?_
        refine lv_iload_n hx hb dX7_becomes_47 rfl (lv_at hl 3 rfl) ?_
        refine lv_iload_n hx hb dX7_becomes_48 rfl (lv_at hl 4 rfl) ?_
        obtain ⟨q_12, h_13, hf⟩ := nn_bind hf
        refine nn_callvV S (As := [.int (a1), .int (a2), .int (a3)]) (rest := []) (ce_M (k := 0)) (by decide) rfl rfl (c_X7_tells l D cy ad A (sM σ q_10) q_10 rfl a1 a2 a3 q_12 h_13 (sM σ q_12) rfl) mv_X7_tells tb_3_224 hK hw ⟨Nat.le_of_ble_eq_true rfl, Nat.le_of_ble_eq_true rfl⟩ ⟨Nat.zero_le _, Nat.zero_le _⟩ rfl hl.1 rfl (Nat.le_of_ble_eq_true rfl) dX7_becomes_49 (fun H locs hw => ?_)
        refine lv_iload hx hb dX7_becomes_52 (lv_at hl 0 rfl) ?_
        obtain rfl := Option.some.inj hf
        exact nn_iret S hr hlk hw rfl hσ dX7_becomes_54
      · rw [if_pos c_9] at hf
        refine lv_bipush (v := -2) hx hb dX7_becomes_38 (by decide) ?_
        obtain rfl := Option.some.inj hf
        exact nn_iret S hr hlk hw rfl hσ dX7_becomes_40
    · rw [if_pos c_6] at hf
      refine lv_iconst (v := -1) hx hb dX7_becomes_22 (by decide) ?_
      obtain rfl := Option.some.inj hf
      exact nn_iret S hr hlk hw rfl hσ dX7_becomes_23
set_option maxRecDepth 100000 in
set_option maxHeartbeats 4000000 in
theorem c_X7_set (l : Launch) (D : va_G) (cy : Nat → ClassId) (ad : Nat → Nat) (A : Nat → Prop) (σ : nG) (m : nMd) (hx_M : gM σ = m) (a1 : Int32) (a2 : Int32) (q : Int32 × nMd) (hf : f_X7_set m a1 a2 = some q) (σ' : nG) (hσ : (sM σ q.2) = σ') : nn_I l yX7_set (nn_ws yX7_set cX7_set 3 (some .int)) (nn_R 3) D cy ad A [.ref (ad (136)), .int (a1), .int (a2)] σ q.1 σ' := by
  refine nn_enterI (plainFor_of_name (by decide +kernel)) (Nat.le_of_ble_eq_true rfl) (lv := [(0, .ref (ad (136))), (1, .int (a1)), (2, .int (a2))]) rfl ?_
  intro pp ee ss mm bb me co S hr hlk hK hw ls hl
  have hx := S.1
  have hb := S.2.1
  have hw : nn_W D cy ad A ss.heap (sM σ m) ss.heap [] := nn_W.eq (by rw [← hx_M]; rfl) hw
  unfold f_X7_set at hf
  refine lv_aload_n hx hb dX7_set_0 rfl (lv_at hl 0 rfl) ?_
  refine lv_iload_n hx hb dX7_set_1 rfl (lv_at hl 1 rfl) ?_
  refine lv_iconst (v := 1) hx hb dX7_set_2 (by decide) ?_
  refine lv_iload_n hx hb dX7_set_3 rfl (lv_at hl 2 rfl) ?_
  refine lv_iconst (v := 0) hx hb dX7_set_4 (by decide) ?_
  refine lv_bipush (v := 59) hx hb dX7_set_5 (by decide) ?_
  obtain ⟨q_1, h_2, hf⟩ := nn_bind hf
  refine nn_calliV S (As := [.int (a1), .int ((1 : Int32)), .int (a2), .int ((0 : Int32)), .int ((59 : Int32))]) (rest := []) (ce_M (k := 0)) (by decide) rfl rfl (c_X7_becomes l D cy ad A (sM σ m) m rfl a1 (1 : Int32) a2 (0 : Int32) (59 : Int32) q_1 h_2 (sM σ q_1.2) rfl) mv_X7_becomes tb_4_95 hK hw ⟨Nat.le_of_ble_eq_true rfl, Nat.le_of_ble_eq_true rfl⟩ ⟨Nat.zero_le _, Nat.zero_le _⟩ rfl hl.1 rfl (Nat.le_of_ble_eq_true rfl) dX7_set_7 (fun H locs hw => ?_)
  obtain rfl := Option.some.inj hf
  exact nn_iret S hr hlk hw rfl hσ dX7_set_10
set_option maxRecDepth 100000 in
set_option maxHeartbeats 4000000 in
theorem c_X7_move (l : Launch) (D : va_G) (cy : Nat → ClassId) (ad : Nat → Nat) (A : Nat → Prop) (σ : nG) (m : nMd) (hx_M : gM σ = m) (a1 : Int32) (a2 : Int32) (q : Int32 × nMd) (hf : f_X7_move m a1 a2 = some q) (σ' : nG) (hσ : (sM σ q.2) = σ') : nn_I l yX7_move (nn_ws yX7_move cX7_move 3 (some .int)) (nn_R 3) D cy ad A [.ref (ad (136)), .int (a1), .int (a2)] σ q.1 σ' := by
  refine nn_enterI (plainFor_of_name (by decide +kernel)) (Nat.le_of_ble_eq_true rfl) (lv := [(0, .ref (ad (136))), (1, .int (a1)), (2, .int (a2))]) rfl ?_
  intro pp ee ss mm bb me co S hr hlk hK hw ls hl
  have hx := S.1
  have hb := S.2.1
  have hw : nn_W D cy ad A ss.heap (sM σ m) ss.heap [] := nn_W.eq (by rw [← hx_M]; rfl) hw
  unfold f_X7_move at hf
  refine lv_aload_n hx hb dX7_move_0 rfl (lv_at hl 0 rfl) ?_
  refine lv_iload_n hx hb dX7_move_1 rfl (lv_at hl 1 rfl) ?_
  refine lv_iconst (v := 3) hx hb dX7_move_2 (by decide) ?_
  refine lv_iload_n hx hb dX7_move_3 rfl (lv_at hl 2 rfl) ?_
  refine lv_iconst (v := 0) hx hb dX7_move_4 (by decide) ?_
  refine lv_bipush (v := 40) hx hb dX7_move_5 (by decide) ?_
  obtain ⟨q_1, h_2, hf⟩ := nn_bind hf
  refine nn_calliV S (As := [.int (a1), .int ((3 : Int32)), .int (a2), .int ((0 : Int32)), .int ((40 : Int32))]) (rest := []) (ce_M (k := 0)) (by decide) rfl rfl (c_X7_becomes l D cy ad A (sM σ m) m rfl a1 (3 : Int32) a2 (0 : Int32) (40 : Int32) q_1 h_2 (sM σ q_1.2) rfl) mv_X7_becomes tb_4_95 hK hw ⟨Nat.le_of_ble_eq_true rfl, Nat.le_of_ble_eq_true rfl⟩ ⟨Nat.zero_le _, Nat.zero_le _⟩ rfl hl.1 rfl (Nat.le_of_ble_eq_true rfl) dX7_move_7 (fun H locs hw => ?_)
  obtain rfl := Option.some.inj hf
  exact nn_iret S hr hlk hw rfl hσ dX7_move_10
set_option maxRecDepth 100000 in
set_option maxHeartbeats 4000000 in
theorem c_X7_tune (l : Launch) (D : va_G) (cy : Nat → ClassId) (ad : Nat → Nat) (A : Nat → Prop) (σ : nG) (m : nMd) (hx_M : gM σ = m) (a1 : Int32) (a2 : Int32) (q : Int32 × nMd) (hf : f_X7_tune m a1 a2 = some q) (σ' : nG) (hσ : (sM σ q.2) = σ') : nn_I l yX7_tune (nn_ws yX7_tune cX7_tune 4 (some .int)) (nn_R 2) D cy ad A [.ref (ad (136)), .int (a1), .int (a2)] σ q.1 σ' := by
  refine nn_enterI (plainFor_of_name (by decide +kernel)) (Nat.le_of_ble_eq_true rfl) (lv := [(0, .ref (ad (136))), (1, .int (a1)), (2, .int (a2))]) rfl ?_
  intro pp ee ss mm bb me co S hr hlk hK hw ls hl
  have hx := S.1
  have hb := S.2.1
  have hw : nn_W D cy ad A ss.heap (sM σ m) ss.heap [] := nn_W.eq (by rw [← hx_M]; rfl) hw
  unfold f_X7_tune at hf
  refine lv_aload_n hx hb dX7_tune_0 rfl (lv_at hl 0 rfl) ?_
  refine lv_iload_n hx hb dX7_tune_1 rfl (lv_at hl 1 rfl) ?_
  obtain ⟨q_1, h_2, hf⟩ := nn_bind hf
  refine nn_calliV S (As := [.int (a1)]) (rest := []) (ce_M (k := 0)) (by decide) rfl rfl (c_X7_isVillage l D cy ad A (sM σ m) m rfl a1 q_1 h_2) mv_X7_isVillage tb_3_232 hK hw ⟨Nat.le_of_ble_eq_true rfl, Nat.le_of_ble_eq_true rfl⟩ ⟨Nat.zero_le _, Nat.zero_le _⟩ rfl hl.1 rfl (Nat.le_of_ble_eq_true rfl) dX7_tune_2 (fun H locs hw => ?_)
  refine lv_if_eq (tgt := 20) hx hb dX7_tune_5 (by decide) (fun c_3 => ?_) (fun c_3 => ?_)
  · rw [if_pos c_3] at hf
    refine lv_iconst (v := -1) hx hb dX7_tune_20 (by decide) ?_
    obtain rfl := Option.some.inj hf
    exact nn_iret S hr hlk hw rfl hσ dX7_tune_21
  · rw [if_neg c_3] at hf
    refine lv_iload_n hx hb dX7_tune_8 rfl (lv_at hl 2 rfl) ?_
    refine lv_i2l (v := a2.toInt64) hx hb dX7_tune_9 rfl ?_
    refine lv_lconst (v := 0) hx hb dX7_tune_10 (by decide) ?_
    refine lv_ldc2 (v := 18) hx hb S.2.2.2.1 (S.2.2.2.2 _ tb_4_107) dX7_tune_11 ?_
    obtain ⟨q_4, h_5, hf⟩ := nn_bind hf
    refine nn_calliS S (As := [.long (a2.toInt64), .long ((0 : Int64)), .long ((18 : Int64))]) (rest := []) (c_X7_in l D cy ad A (sM σ m) a2.toInt64 (0 : Int64) (18 : Int64) q_4 h_5) mv_X7_in tb_3_214 hK hw ⟨Nat.le_of_ble_eq_true rfl, Nat.le_of_ble_eq_true rfl⟩ ⟨Nat.zero_le _, Nat.zero_le _⟩ rfl hl.1 rfl (Nat.le_of_ble_eq_true rfl) dX7_tune_14 (fun H locs hw => ?_)
    refine lv_if_ne (tgt := 22) hx hb dX7_tune_17 (by decide) (fun c_6 => ?_) (fun c_6 => ?_)
    · rw [if_neg c_6] at hf
      refine lv_aload_n hx hb dX7_tune_22 rfl (lv_at hl 0 rfl) ?_
      refine lv_iload_n hx hb dX7_tune_23 rfl (lv_at hl 1 rfl) ?_
      refine lv_iconst (v := 2) hx hb dX7_tune_24 (by decide) ?_
      obtain ⟨q_7, h_8, hf⟩ := nn_bind hf
      refine nn_calliV S (As := [.int (a1), .int ((2 : Int32))]) (rest := []) (ce_M (k := 0)) (by decide) rfl rfl (c_X7_told l D cy ad A (sM σ m) m rfl a1 (2 : Int32) q_7 h_8) mv_X7_told tb_3_236 hK hw ⟨Nat.le_of_ble_eq_true rfl, Nat.le_of_ble_eq_true rfl⟩ ⟨Nat.zero_le _, Nat.zero_le _⟩ rfl hl.1 rfl (Nat.le_of_ble_eq_true rfl) dX7_tune_25 (fun H locs hw => ?_)
      refine lv_bipush (v := 9) hx hb dX7_tune_28 (by decide) ?_
      refine lv_iadd hx hb dX7_tune_30 ?_
      refine lv_istore_n (lv' := [(3, .int (q_7 + (9 : Int32))), (0, .ref (ad (136))), (1, .int (a1)), (2, .int (a2))]) hx hb dX7_tune_31 rfl hl (by decide) rfl (fun ls hl => ?_)
      refine lv_iload_n hx hb dX7_tune_32 rfl (lv_at hl 0 rfl) ?_
      refine lv_iload_n hx hb dX7_tune_33 rfl (lv_at hl 3 rfl) ?_
      refine lv_icmp_ne (tgt := 40) hx hb dX7_tune_34 (by decide) (fun c_9 => ?_) (fun c_9 => ?_)
      · rw [if_neg c_9] at hf
        refine lv_aload_n hx hb dX7_tune_40 rfl (lv_at hl 1 rfl) ?_
        obtain ⟨q_10, h_11, hf⟩ := nn_bind hf
        refine nn_callvV S (As := []) (rest := []) (ce_M (k := 0)) (by decide) rfl rfl (c_X7_notes l D cy ad A (sM σ m) m rfl q_10 h_11 (sM σ q_10) rfl) mv_X7_notes tb_4_83 hK hw ⟨Nat.le_of_ble_eq_true rfl, Nat.le_of_ble_eq_true rfl⟩ ⟨Nat.zero_le _, Nat.zero_le _⟩ rfl hl.1 rfl (Nat.le_of_ble_eq_true rfl) dX7_tune_41 (fun H locs hw => ?_)
        refine lv_aload_n hx hb dX7_tune_44 rfl (lv_at hl 1 rfl) ?_
        refine lv_iload_n hx hb dX7_tune_45 rfl (lv_at hl 2 rfl) ?_
        refine lv_iconst (v := 2) hx hb dX7_tune_46 (by decide) ?_
        refine lv_iload_n hx hb dX7_tune_47 rfl (lv_at hl 3 rfl) ?_
        refine lv_bipush (v := 9) hx hb dX7_tune_48 (by decide) ?_
        refine lv_isub hx hb dX7_tune_50 ?_
        obtain ⟨q_12, h_13, hf⟩ := nn_bind hf
        refine nn_callvV S (As := [.int (a1), .int ((2 : Int32)), .int (a2 - (9 : Int32))]) (rest := []) (ce_M (k := 0)) (by decide) rfl rfl (c_X7_tells l D cy ad A (sM σ q_10) q_10 rfl a1 (2 : Int32) (a2 - (9 : Int32)) q_12 h_13 (sM σ q_12) rfl) mv_X7_tells tb_3_224 hK hw ⟨Nat.le_of_ble_eq_true rfl, Nat.le_of_ble_eq_true rfl⟩ ⟨Nat.zero_le _, Nat.zero_le _⟩ rfl hl.1 rfl (Nat.le_of_ble_eq_true rfl) dX7_tune_51 (fun H locs hw => ?_)
        refine lv_iload_n hx hb dX7_tune_54 rfl (lv_at hl 0 rfl) ?_
        obtain rfl := Option.some.inj hf
        exact nn_iret S hr hlk hw rfl hσ dX7_tune_55
      · rw [if_pos c_9] at hf
        refine lv_bipush (v := -2) hx hb dX7_tune_37 (by decide) ?_
        obtain rfl := Option.some.inj hf
        exact nn_iret S hr hlk hw rfl hσ dX7_tune_39
    · rw [if_pos c_6] at hf
      refine lv_iconst (v := -1) hx hb dX7_tune_20 (by decide) ?_
      obtain rfl := Option.some.inj hf
      exact nn_iret S hr hlk hw rfl hσ dX7_tune_21
set_option maxRecDepth 100000 in
set_option maxHeartbeats 4000000 in
theorem c_X7_storm (l : Launch) (D : va_G) (cy : Nat → ClassId) (ad : Nat → Nat) (A : Nat → Prop) (σ : nG) (m : nMd) (hx_M : gM σ = m) (a1 : Int32) (q : Int32 × nMd) (hf : f_X7_storm m a1 = some q) (σ' : nG) (hσ : (sM σ q.2) = σ') : nn_I l yX7_storm (nn_ws yX7_storm cX7_storm 4 (some .int)) (nn_R 5) D cy ad A [.ref (ad (136)), .int (a1)] σ q.1 σ' := by
  refine nn_enterI (plainFor_of_name (by decide +kernel)) (Nat.le_of_ble_eq_true rfl) (lv := [(0, .ref (ad (136))), (1, .int (a1))]) rfl ?_
  intro pp ee ss mm bb me co S hr hlk hK hw ls hl
  have hx := S.1
  have hb := S.2.1
  have hw : nn_W D cy ad A ss.heap (sM σ m) ss.heap [] := nn_W.eq (by rw [← hx_M]; rfl) hw
  unfold f_X7_storm at hf
  have L33 : ∀ (n : Nat) (m : nMd) (u1 : Int32) (u2 : Int32) (K : nMd → Int32 → Int32 → Option (Int32 × nMd)), (∀ (m : nMd) (u1 : Int32) (u2 : Int32), K m u1 u2 = some q → ∀ (H : Heap) (locs : List Loc) (ls : Array Slot), nn_W D cy ad A ss.heap (sM σ m) H locs → lv_has ls 4 [(0, .ref (ad (136))), (1, .int (u1)), (2, .int (u2))] → W pp l ee (nn_R 5) ss mm ([.ref (ad (136)), .int (a1)] : List Value).toArray bb me co H locs 0 0 (MQ bb (nn_qi D cy ad A q.1 σ') ([.ref (ad (136)), .int (a1)] : List Value).toArray ss 0 0 A) (F0 mm 131 ls [])) → f_X7_storm_L33 n m u1 u2 K = some q → ∀ (H : Heap) (locs : List Loc) (ls : Array Slot), nn_W D cy ad A ss.heap (sM σ m) H locs → lv_has ls 4 [(0, .ref (ad (136))), (1, .int (u1)), (2, .int (u2))] → W pp l ee (nn_R 5) ss mm ([.ref (ad (136)), .int (a1)] : List Value).toArray bb me co H locs 0 0 (MQ bb (nn_qi D cy ad A q.1 σ') ([.ref (ad (136)), .int (a1)] : List Value).toArray ss 0 0 A) (F0 mm 33 ls []) := by
    intro n
    induction n with
    | zero => intro m u1 u2 K hKK hf; exact absurd hf (by simp [f_X7_storm_L33])
    | succ n ih =>
      intro m u1 u2 K hKK hf H locs ls hw hl
      rw [f_X7_storm_L33] at hf
      refine lv_iload_n hx hb dX7_storm_33 rfl (lv_at hl 2 rfl) ?_
      refine lv_iload_n hx hb dX7_storm_34 rfl (lv_at hl 1 rfl) ?_
      refine lv_icmp_ge (tgt := 131) hx hb dX7_storm_35 (by decide) (fun c_5 => ?_) (fun c_5 => ?_)
      · rw [if_pos c_5] at hf
        exact hKK m u1 u2 hf _ _ _ hw (lv_sub hl [0, 1, 2] rfl)
      · rw [if_neg c_5] at hf
        refine lv_aload_n hx hb dX7_storm_38 rfl (lv_at hl 0 rfl) ?_
        obtain ⟨q_6, h_7, hf⟩ := nn_bind hf
        refine nn_callvV S (As := []) (rest := []) (ce_M (k := 0)) (by decide) rfl rfl (c_X7_notes l D cy ad A (sM σ m) m rfl q_6 h_7 (sM σ q_6) rfl) mv_X7_notes tb_4_83 hK hw ⟨Nat.le_of_ble_eq_true rfl, Nat.le_of_ble_eq_true rfl⟩ ⟨Nat.zero_le _, Nat.zero_le _⟩ rfl hl.1 rfl (Nat.le_of_ble_eq_true rfl) dX7_storm_39 (fun H locs hw => ?_)
        refine lv_aload_n hx hb dX7_storm_42 rfl (lv_at hl 0 rfl) ?_
        refine gf_Md_now S hK hw tb_3_145 dX7_storm_43 ?_
        refine lv_iconst (v := 2) hx hb dX7_storm_46 (by decide) ?_
        refine lv_aload_n hx hb dX7_storm_47 rfl (lv_at hl 0 rfl) ?_
        refine gf_Md_now S hK hw tb_3_145 dX7_storm_48 ?_
        refine lv_iconst (v := 2) hx hb dX7_storm_51 (by decide) ?_
        refine al_Md_now S hK hw (x := q_6) rfl (by decide) dX7_storm_52 ?_
        refine lv_i2l (v := ((g_Md_now q_6) (2 : Int32).toNatClampNeg).toInt64) hx hb dX7_storm_53 rfl ?_
        refine lv_ldc2 (v := 1103515245) hx hb S.2.2.2.1 (S.2.2.2.2 _ tb_4_112) dX7_storm_54 ?_
        refine lv_lmul hx hb dX7_storm_57 ?_
        refine lv_ldc2 (v := 12345) hx hb S.2.2.2.1 (S.2.2.2.2 _ tb_4_113) dX7_storm_58 ?_
        refine lv_ladd hx hb dX7_storm_61 ?_
        refine lv_ldc2 (v := 2147483647) hx hb S.2.2.2.1 (S.2.2.2.2 _ tb_4_114) dX7_storm_62 ?_
        refine lv_land hx hb dX7_storm_65 ?_
        refine lv_l2i (v := ((((((g_Md_now q_6) (2 : Int32).toNatClampNeg).toInt64) * (1103515245 : Int64)) + (12345 : Int64)) &&& (2147483647 : Int64)).toInt32) hx hb dX7_storm_66 rfl ?_
        obtain ⟨m_8, h_9, hf⟩ := nn_bind hf
        replace h_9 := Option.some.inj h_9
        refine as_Md_now S hK hw (x := q_6) rfl (by decide) (τ' := (sM σ m_8)) ((rfl : _ = (sM σ (s_Md_now q_6 (upd (g_Md_now q_6) (2 : Int32).toNatClampNeg (((((((g_Md_now q_6) (2 : Int32).toNatClampNeg).toInt64) * (1103515245 : Int64)) + (12345 : Int64)) &&& (2147483647 : Int64)).toInt32))))).trans (by rw [h_9])) dX7_storm_67 (fun H locs hw => ?_)
        refine lv_aload_n hx hb dX7_storm_68 rfl (lv_at hl 0 rfl) ?_
        refine gf_Md_now S hK hw tb_3_145 dX7_storm_69 ?_
        refine lv_iconst (v := 0) hx hb dX7_storm_72 (by decide) ?_
        refine al_Md_now S hK hw (x := m_8) rfl (by decide) dX7_storm_73 ?_
        refine lv_if_le (tgt := 121) hx hb dX7_storm_74 (by decide) (fun c_10 => ?_) (fun c_10 => ?_)
        · rw [if_pos c_10] at hf
          refine lv_aload_n hx hb dX7_storm_121 rfl (lv_at hl 0 rfl) ?_
          obtain ⟨q_11, h_12, hf⟩ := nn_bind hf
          refine nn_callvV S (As := []) (rest := []) (ce_M (k := 0)) (by decide) rfl rfl (c_X7_goesBy l D cy ad A (sM σ m_8) m_8 rfl q_11 h_12 (sM σ q_11) rfl) mv_X7_goesBy tb_4_87 hK hw ⟨Nat.le_of_ble_eq_true rfl, Nat.le_of_ble_eq_true rfl⟩ ⟨Nat.zero_le _, Nat.zero_le _⟩ rfl hl.1 rfl (Nat.le_of_ble_eq_true rfl) dX7_storm_122 (fun H locs hw => ?_)
          refine lv_iinc (v := u2 + (1 : Int32)) (lv' := [(2, .int (u2 + (1 : Int32))), (0, .ref (ad (136))), (1, .int (u1))]) hx hb dX7_storm_125 hl (k := 2) rfl (congrArg (fun z => u2 + z) (by decide)) (by decide) rfl (fun ls hl => ?_)
          refine lv_goto (tgt := 33) hx hb dX7_storm_128 (by decide) ?_
          exact ih q_11 u1 (u2 + (1 : Int32)) K hKK hf _ _ _ hw (lv_sub hl [1, 2, 0] rfl)
        · rw [if_neg c_10] at hf
          refine lv_aload_n hx hb dX7_storm_77 rfl (lv_at hl 0 rfl) ?_
          refine gf_Md_now S hK hw tb_3_145 dX7_storm_78 ?_
          refine lv_iconst (v := 2) hx hb dX7_storm_81 (by decide) ?_
          refine al_Md_now S hK hw (x := m_8) rfl (by decide) dX7_storm_82 ?_
          refine lv_ldc (v := 65536) hx hb S.2.2.2.1 (S.2.2.2.2 _ tb_4_115) dX7_storm_83 ?_
          refine lv_idiv hx hb dX7_storm_85 (by decide) ?_
          refine lv_aload_n hx hb dX7_storm_86 rfl (lv_at hl 0 rfl) ?_
          refine gf_Md_now S hK hw tb_3_145 dX7_storm_87 ?_
          refine lv_iconst (v := 0) hx hb dX7_storm_90 (by decide) ?_
          refine al_Md_now S hK hw (x := m_8) rfl (by decide) dX7_storm_91 ?_
          obtain ⟨g_13, hf⟩ := nn_nz_some hf
          refine lv_irem hx hb dX7_storm_92 g_13 ?_
          refine lv_istore_n (lv' := [(3, .int ((((g_Md_now m_8) (2 : Int32).toNatClampNeg) / (65536 : Int32)) - (((g_Md_now m_8) (2 : Int32).toNatClampNeg) / (65536 : Int32)) / ((g_Md_now m_8) (0 : Int32).toNatClampNeg) * ((g_Md_now m_8) (0 : Int32).toNatClampNeg))), (0, .ref (ad (136))), (1, .int (u1)), (2, .int (u2))]) hx hb dX7_storm_93 rfl hl (by decide) rfl (fun ls hl => ?_)
          refine lv_aload_n hx hb dX7_storm_94 rfl (lv_at hl 1 rfl) ?_
          refine lv_iload_n hx hb dX7_storm_95 rfl (lv_at hl 0 rfl) ?_
          refine lv_iconst (v := 1) hx hb dX7_storm_96 (by decide) ?_
          refine lv_aload_n hx hb dX7_storm_97 rfl (lv_at hl 1 rfl) ?_
          refine lv_iload_n hx hb dX7_storm_98 rfl (lv_at hl 0 rfl) ?_
          obtain ⟨q_14, h_15, hf⟩ := nn_bind hf
          refine nn_calliV S (As := [.int ((((g_Md_now m_8) (2 : Int32).toNatClampNeg) / (65536 : Int32)) - (((g_Md_now m_8) (2 : Int32).toNatClampNeg) / (65536 : Int32)) / ((g_Md_now m_8) (0 : Int32).toNatClampNeg) * ((g_Md_now m_8) (0 : Int32).toNatClampNeg))]) (rest := [.int ((1 : Int32)), .int ((((g_Md_now m_8) (2 : Int32).toNatClampNeg) / (65536 : Int32)) - (((g_Md_now m_8) (2 : Int32).toNatClampNeg) / (65536 : Int32)) / ((g_Md_now m_8) (0 : Int32).toNatClampNeg) * ((g_Md_now m_8) (0 : Int32).toNatClampNeg)), .ref (ad (136))]) (ce_M (k := 0)) (by decide) rfl rfl (c_X7_minuteOf l D cy ad A (sM σ m_8) m_8 rfl ((((g_Md_now m_8) (2 : Int32).toNatClampNeg) / (65536 : Int32)) - (((g_Md_now m_8) (2 : Int32).toNatClampNeg) / (65536 : Int32)) / ((g_Md_now m_8) (0 : Int32).toNatClampNeg) * ((g_Md_now m_8) (0 : Int32).toNatClampNeg)) q_14 h_15) mv_X7_minuteOf tb_4_8 hK hw ⟨Nat.le_of_ble_eq_true rfl, Nat.le_of_ble_eq_true rfl⟩ ⟨Nat.zero_le _, Nat.zero_le _⟩ rfl hl.1 rfl (Nat.le_of_ble_eq_true rfl) dX7_storm_99 (fun H locs hw => ?_)
          refine lv_aload_n hx hb dX7_storm_102 rfl (lv_at hl 1 rfl) ?_
          refine gf_Md_now S hK hw tb_3_145 dX7_storm_103 ?_
          refine lv_iconst (v := 2) hx hb dX7_storm_106 (by decide) ?_
          refine al_Md_now S hK hw (x := m_8) rfl (by decide) dX7_storm_107 ?_
          refine lv_sipush (v := 128) hx hb dX7_storm_108 (by decide) ?_
          refine lv_idiv hx hb dX7_storm_111 (by decide) ?_
          refine lv_iconst (v := 5) hx hb dX7_storm_112 (by decide) ?_
          refine lv_irem hx hb dX7_storm_113 (by decide) ?_
          refine lv_iadd hx hb dX7_storm_114 ?_
          obtain ⟨q_16, h_17, hf⟩ := nn_bind hf
          refine nn_calliS S (As := [.int (q_14 + ((((g_Md_now m_8) (2 : Int32).toNatClampNeg) / (128 : Int32)) - (((g_Md_now m_8) (2 : Int32).toNatClampNeg) / (128 : Int32)) / (5 : Int32) * (5 : Int32)))]) (rest := [.int ((1 : Int32)), .int ((((g_Md_now m_8) (2 : Int32).toNatClampNeg) / (65536 : Int32)) - (((g_Md_now m_8) (2 : Int32).toNatClampNeg) / (65536 : Int32)) / ((g_Md_now m_8) (0 : Int32).toNatClampNeg) * ((g_Md_now m_8) (0 : Int32).toNatClampNeg)), .ref (ad (136))]) (c_X7_round l D cy ad A (sM σ m_8) (q_14 + ((((g_Md_now m_8) (2 : Int32).toNatClampNeg) / (128 : Int32)) - (((g_Md_now m_8) (2 : Int32).toNatClampNeg) / (128 : Int32)) / (5 : Int32) * (5 : Int32))) q_16 h_17) mv_X7_round tb_4_15 hK hw ⟨Nat.le_of_ble_eq_true rfl, Nat.le_of_ble_eq_true rfl⟩ ⟨Nat.zero_le _, Nat.zero_le _⟩ rfl hl.1 rfl (Nat.le_of_ble_eq_true rfl) dX7_storm_115 (fun H locs hw => ?_)
          obtain ⟨q_18, h_19, hf⟩ := nn_bind hf
          refine nn_callvV S (As := [.int ((((g_Md_now m_8) (2 : Int32).toNatClampNeg) / (65536 : Int32)) - (((g_Md_now m_8) (2 : Int32).toNatClampNeg) / (65536 : Int32)) / ((g_Md_now m_8) (0 : Int32).toNatClampNeg) * ((g_Md_now m_8) (0 : Int32).toNatClampNeg)), .int ((1 : Int32)), .int (q_16)]) (rest := []) (ce_M (k := 0)) (by decide) rfl rfl (c_X7_tells l D cy ad A (sM σ m_8) m_8 rfl ((((g_Md_now m_8) (2 : Int32).toNatClampNeg) / (65536 : Int32)) - (((g_Md_now m_8) (2 : Int32).toNatClampNeg) / (65536 : Int32)) / ((g_Md_now m_8) (0 : Int32).toNatClampNeg) * ((g_Md_now m_8) (0 : Int32).toNatClampNeg)) (1 : Int32) q_16 q_18 h_19 (sM σ q_18) rfl) mv_X7_tells tb_3_224 hK hw ⟨Nat.le_of_ble_eq_true rfl, Nat.le_of_ble_eq_true rfl⟩ ⟨Nat.zero_le _, Nat.zero_le _⟩ rfl hl.1 rfl (Nat.le_of_ble_eq_true rfl) dX7_storm_118 (fun H locs hw => ?_)
          refine lv_aload_n hx hb dX7_storm_121 rfl (lv_at hl 1 rfl) ?_
          obtain ⟨q_20, h_21, hf⟩ := nn_bind hf
          refine nn_callvV S (As := []) (rest := []) (ce_M (k := 0)) (by decide) rfl rfl (c_X7_goesBy l D cy ad A (sM σ q_18) q_18 rfl q_20 h_21 (sM σ q_20) rfl) mv_X7_goesBy tb_4_87 hK hw ⟨Nat.le_of_ble_eq_true rfl, Nat.le_of_ble_eq_true rfl⟩ ⟨Nat.zero_le _, Nat.zero_le _⟩ rfl hl.1 rfl (Nat.le_of_ble_eq_true rfl) dX7_storm_122 (fun H locs hw => ?_)
          refine lv_iinc (v := u2 + (1 : Int32)) (lv' := [(2, .int (u2 + (1 : Int32))), (3, .int ((((g_Md_now m_8) (2 : Int32).toNatClampNeg) / (65536 : Int32)) - (((g_Md_now m_8) (2 : Int32).toNatClampNeg) / (65536 : Int32)) / ((g_Md_now m_8) (0 : Int32).toNatClampNeg) * ((g_Md_now m_8) (0 : Int32).toNatClampNeg))), (0, .ref (ad (136))), (1, .int (u1))]) hx hb dX7_storm_125 hl (k := 3) rfl (congrArg (fun z => u2 + z) (by decide)) (by decide) rfl (fun ls hl => ?_)
          refine lv_goto (tgt := 33) hx hb dX7_storm_128 (by decide) ?_
          exact ih q_20 u1 (u2 + (1 : Int32)) K hKK hf _ _ _ hw (lv_sub hl [2, 3, 0] rfl)
  refine lv_iload_n hx hb dX7_storm_0 rfl (lv_at hl 1 rfl) ?_
  refine lv_i2l (v := a1.toInt64) hx hb dX7_storm_1 rfl ?_
  refine lv_lconst (v := 1) hx hb dX7_storm_2 (by decide) ?_
  refine lv_ldc2 (v := 40) hx hb S.2.2.2.1 (S.2.2.2.2 _ tb_4_82) dX7_storm_3 ?_
  obtain ⟨q_1, h_2, hf⟩ := nn_bind hf
  refine nn_calliS S (As := [.long (a1.toInt64), .long ((1 : Int64)), .long ((40 : Int64))]) (rest := []) (c_X7_in l D cy ad A (sM σ m) a1.toInt64 (1 : Int64) (40 : Int64) q_1 h_2) mv_X7_in tb_3_214 hK hw ⟨Nat.le_of_ble_eq_true rfl, Nat.le_of_ble_eq_true rfl⟩ ⟨Nat.zero_le _, Nat.zero_le _⟩ rfl hl.1 rfl (Nat.le_of_ble_eq_true rfl) dX7_storm_6 (fun H locs hw => ?_)
  refine lv_if_ne (tgt := 14) hx hb dX7_storm_9 (by decide) (fun c_3 => ?_) (fun c_3 => ?_)
  · rw [if_neg c_3] at hf
    refine lv_aload_n hx hb dX7_storm_14 rfl (lv_at hl 0 rfl) ?_
    refine gf_Md_now S hK hw tb_3_145 dX7_storm_15 ?_
    refine lv_iconst (v := 1) hx hb dX7_storm_18 (by decide) ?_
    refine al_Md_now S hK hw (x := m) rfl (by decide) dX7_storm_19 ?_
    refine lv_iload_n hx hb dX7_storm_20 rfl (lv_at hl 1 rfl) ?_
    refine lv_iadd hx hb dX7_storm_21 ?_
    refine lv_sipush (v := 9999) hx hb dX7_storm_22 (by decide) ?_
    refine lv_icmp_le (tgt := 31) hx hb dX7_storm_25 (by decide) (fun c_4 => ?_) (fun c_4 => ?_)
    · rw [if_pos c_4] at hf
      refine lv_iconst (v := 0) hx hb dX7_storm_31 (by decide) ?_
      refine lv_istore_n (lv' := [(2, .int ((0 : Int32))), (0, .ref (ad (136))), (1, .int (a1))]) hx hb dX7_storm_32 rfl hl (by decide) rfl (fun ls hl => ?_)
      refine L33 100000 m a1 (0 : Int32) _ (fun m_24 b1_22 b2_23 hf H locs ls hw hl => ?_) hf _ _ _ hw (lv_sub hl [1, 2, 0] rfl)
      refine lv_aload_n hx hb dX7_storm_131 rfl (lv_at hl 0 rfl) ?_
      obtain ⟨q_25, h_26, hf⟩ := nn_bind hf
      refine nn_calliV S (As := []) (rest := []) (ce_M (k := 0)) (by decide) rfl rfl (c_X7_leastGap l D cy ad A (sM σ m_24) m_24 rfl q_25 h_26) mv_X7_leastGap tb_4_38 hK hw ⟨Nat.le_of_ble_eq_true rfl, Nat.le_of_ble_eq_true rfl⟩ ⟨Nat.zero_le _, Nat.zero_le _⟩ rfl hl.1 rfl (Nat.le_of_ble_eq_true rfl) dX7_storm_132 (fun H locs hw => ?_)
      obtain rfl := Option.some.inj hf
      exact nn_iret S hr hlk hw rfl hσ dX7_storm_135
    · rw [if_neg c_4] at hf
      refine lv_bipush (v := -3) hx hb dX7_storm_28 (by decide) ?_
      obtain rfl := Option.some.inj hf
      exact nn_iret S hr hlk hw rfl hσ dX7_storm_30
  · rw [if_pos c_3] at hf
    refine lv_iconst (v := -1) hx hb dX7_storm_12 (by decide) ?_
    obtain rfl := Option.some.inj hf
    exact nn_iret S hr hlk hw rfl hσ dX7_storm_13
