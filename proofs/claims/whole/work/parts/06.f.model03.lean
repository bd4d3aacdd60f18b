set_option maxRecDepth 100000 in
set_option maxHeartbeats 4000000 in
theorem c_X7_hear (l : Launch) (D : va_G) (cy : Nat → ClassId) (ad : Nat → Nat) (A : Nat → Prop) (σ : nG) (m : nMd) (hx_M : gM σ = m) (a1 : Int32) (a2 : Int32) (a3 : Int32) (a4 : Int32) (q : Int32 × nMd) (hf : f_X7_hear m a1 a2 a3 a4 = some q) (σ' : nG) (hσ : (sM σ q.2) = σ') : nn_I l yX7_hear (nn_ws yX7_hear cX7_hear 10 (some .int)) (nn_R 3) D cy ad A [.ref (ad (136)), .int (a1), .int (a2), .int (a3), .int (a4)] σ q.1 σ' := by
  refine nn_enterI (plainFor_of_name (by decide +kernel)) (Nat.le_of_ble_eq_true rfl) (lv := [(0, .ref (ad (136))), (1, .int (a1)), (2, .int (a2)), (3, .int (a3)), (4, .int (a4))]) rfl ?_
  intro pp ee ss mm bb me co S hr hlk hK hw ls hl
  have hx := S.1
  have hb := S.2.1
  have hw : nn_W D cy ad A ss.heap (sM σ m) ss.heap [] := nn_W.eq (by rw [← hx_M]; rfl) hw
  unfold f_X7_hear at hf
  have L46 : ∀ (n : Nat) (m : nMd) (u1 : Int32) (u2 : Int32) (u3 : Int32) (u4 : Int32) (u5 : Int32) (u6 : Int32) (K : nMd → Int32 → Int32 → Int32 → Int32 → Int32 → Int32 → Option (Int32 × nMd)), (∀ (m : nMd) (u1 : Int32) (u2 : Int32) (u3 : Int32) (u4 : Int32) (u5 : Int32) (u6 : Int32), K m u1 u2 u3 u4 u5 u6 = some q → ∀ (H : Heap) (locs : List Loc) (ls : Array Slot), nn_W D cy ad A ss.heap (sM σ m) H locs → lv_has ls 10 [(0, .ref (ad (136))), (1, .int (u1)), (2, .int (u2)), (3, .int (u3)), (4, .int (u4)), (5, .int (u5)), (6, .int (u6))] → W pp l ee (nn_R 3) ss mm ([.ref (ad (136)), .int (a1), .int (a2), .int (a3), .int (a4)] : List Value).toArray bb me co H locs 0 0 (MQ bb (nn_qi D cy ad A q.1 σ') ([.ref (ad (136)), .int (a1), .int (a2), .int (a3), .int (a4)] : List Value).toArray ss 0 0 A) (F0 mm 74 ls [])) → f_X7_hear_L46 n m u1 u2 u3 u4 u5 u6 K = some q → ∀ (H : Heap) (locs : List Loc) (ls : Array Slot), nn_W D cy ad A ss.heap (sM σ m) H locs → lv_has ls 10 [(0, .ref (ad (136))), (1, .int (u1)), (2, .int (u2)), (3, .int (u3)), (4, .int (u4)), (5, .int (u5)), (6, .int (u6))] → W pp l ee (nn_R 3) ss mm ([.ref (ad (136)), .int (a1), .int (a2), .int (a3), .int (a4)] : List Value).toArray bb me co H locs 0 0 (MQ bb (nn_qi D cy ad A q.1 σ') ([.ref (ad (136)), .int (a1), .int (a2), .int (a3), .int (a4)] : List Value).toArray ss 0 0 A) (F0 mm 46 ls []) := by
    intro n
    induction n with
    | zero => intro m u1 u2 u3 u4 u5 u6 K hKK hf; exact absurd hf (by simp [f_X7_hear_L46])
    | succ n ih =>
      intro m u1 u2 u3 u4 u5 u6 K hKK hf H locs ls hw hl
      rw [f_X7_hear_L46] at hf
      refine lv_iload hx hb dX7_hear_46 (lv_at hl 6 rfl) ?_
      refine lv_aload_n hx hb dX7_hear_48 rfl (lv_at hl 0 rfl) ?_
      refine gf_Md_now S hK hw tb_3_145 dX7_hear_49 ?_
      refine lv_iconst (v := 0) hx hb dX7_hear_52 (by decide) ?_
      refine al_Md_now S hK hw (x := m) rfl (by decide) dX7_hear_53 ?_
      refine lv_icmp_ge (tgt := 74) hx hb dX7_hear_54 (by decide) (fun c_11 => ?_) (fun c_11 => ?_)
      · rw [if_pos c_11] at hf
        exact hKK m u1 u2 u3 u4 u5 u6 hf _ _ _ hw (lv_sub hl [0, 1, 2, 3, 4, 5, 6] rfl)
      · rw [if_neg c_11] at hf
        refine lv_iload hx hb dX7_hear_57 (lv_at hl 5 rfl) ?_
        refine lv_aload_n hx hb dX7_hear_59 rfl (lv_at hl 0 rfl) ?_
        refine gf_Md_now S hK hw tb_3_145 dX7_hear_60 ?_
        refine lv_iconst (v := 0) hx hb dX7_hear_63 (by decide) ?_
        refine al_Md_now S hK hw (x := m) rfl (by decide) dX7_hear_64 ?_
        refine lv_imul hx hb dX7_hear_65 ?_
        refine lv_istore (lv' := [(5, .int (u5 * ((g_Md_now m) (0 : Int32).toNatClampNeg))), (0, .ref (ad (136))), (1, .int (u1)), (2, .int (u2)), (3, .int (u3)), (4, .int (u4)), (6, .int (u6))]) hx hb dX7_hear_66 hl (by decide) rfl (fun ls hl => ?_)
        refine lv_iinc (v := u6 + (1 : Int32)) (lv' := [(6, .int (u6 + (1 : Int32))), (5, .int (u5 * ((g_Md_now m) (0 : Int32).toNatClampNeg))), (0, .ref (ad (136))), (1, .int (u1)), (2, .int (u2)), (3, .int (u3)), (4, .int (u4))]) hx hb dX7_hear_68 hl (k := 6) rfl (congrArg (fun z => u6 + z) (by decide)) (by decide) rfl (fun ls hl => ?_)
        refine lv_goto (tgt := 46) hx hb dX7_hear_71 (by decide) ?_
        exact ih m u1 u2 u3 u4 (u5 * ((g_Md_now m) (0 : Int32).toNatClampNeg)) (u6 + (1 : Int32)) K hKK hf _ _ _ hw (lv_sub hl [2, 3, 4, 5, 6, 1, 0] rfl)
  have L124 : ∀ (n : Nat) (m : nMd) (u1 : Int32) (u2 : Int32) (u3 : Int32) (u4 : Int32) (u5 : Int32) (u6 : Int32) (u7 : Int32) (u9 : Int32) (K : nMd → Int32 → Int32 → Int32 → Int32 → Int32 → Int32 → Int32 → Int32 → Option (Int32 × nMd)), (∀ (m : nMd) (u1 : Int32) (u2 : Int32) (u3 : Int32) (u4 : Int32) (u5 : Int32) (u6 : Int32) (u7 : Int32) (u9 : Int32), K m u1 u2 u3 u4 u5 u6 u7 u9 = some q → ∀ (H : Heap) (locs : List Loc) (ls : Array Slot), nn_W D cy ad A ss.heap (sM σ m) H locs → lv_has ls 10 [(0, .ref (ad (136))), (1, .int (u1)), (2, .int (u2)), (3, .int (u3)), (4, .int (u4)), (5, .int (u5)), (6, .int (u6)), (7, .int (u7)), (9, .int (u9))] → W pp l ee (nn_R 3) ss mm ([.ref (ad (136)), .int (a1), .int (a2), .int (a3), .int (a4)] : List Value).toArray bb me co H locs 0 0 (MQ bb (nn_qi D cy ad A q.1 σ') ([.ref (ad (136)), .int (a1), .int (a2), .int (a3), .int (a4)] : List Value).toArray ss 0 0 A) (F0 mm 151 ls [])) → f_X7_hear_L124 n m u1 u2 u3 u4 u5 u6 u7 u9 K = some q → ∀ (H : Heap) (locs : List Loc) (ls : Array Slot), nn_W D cy ad A ss.heap (sM σ m) H locs → lv_has ls 10 [(0, .ref (ad (136))), (1, .int (u1)), (2, .int (u2)), (3, .int (u3)), (4, .int (u4)), (5, .int (u5)), (6, .int (u6)), (7, .int (u7)), (9, .int (u9))] → W pp l ee (nn_R 3) ss mm ([.ref (ad (136)), .int (a1), .int (a2), .int (a3), .int (a4)] : List Value).toArray bb me co H locs 0 0 (MQ bb (nn_qi D cy ad A q.1 σ') ([.ref (ad (136)), .int (a1), .int (a2), .int (a3), .int (a4)] : List Value).toArray ss 0 0 A) (F0 mm 124 ls []) := by
    intro n
    induction n with
    | zero => intro m u1 u2 u3 u4 u5 u6 u7 u9 K hKK hf; exact absurd hf (by simp [f_X7_hear_L124])
    | succ n ih =>
      intro m u1 u2 u3 u4 u5 u6 u7 u9 K hKK hf H locs ls hw hl
      rw [f_X7_hear_L124] at hf
      refine lv_iload hx hb dX7_hear_124 (lv_at hl 8 rfl) ?_
      refine lv_bipush (v := 6) hx hb dX7_hear_126 (by decide) ?_
      refine lv_icmp_ge (tgt := 151) hx hb dX7_hear_128 (by decide) (fun c_26 => ?_) (fun c_26 => ?_)
      · rw [if_pos c_26] at hf
        exact hKK m u1 u2 u3 u4 u5 u6 u7 u9 hf _ _ _ hw (lv_sub hl [0, 1, 2, 3, 4, 5, 6, 7, 8] rfl)
      · rw [if_neg c_26] at hf
        refine lv_aload_n hx hb dX7_hear_131 rfl (lv_at hl 0 rfl) ?_
        refine gf_Md_best S hK hw tb_3_157 dX7_hear_132 ?_
        refine lv_iload hx hb dX7_hear_135 (lv_at hl 8 rfl) ?_
        refine lv_aload_n hx hb dX7_hear_137 rfl (lv_at hl 0 rfl) ?_
        refine gf_Md_order S hK hw tb_3_158 dX7_hear_138 ?_
        refine lv_iload hx hb dX7_hear_141 (lv_at hl 8 rfl) ?_
        obtain ⟨g_27, hf⟩ := nn_ix_some hf
        refine al_Md_order S hK hw (x := m) rfl g_27 dX7_hear_143 ?_
        obtain ⟨g_28, hf⟩ := nn_ix_some hf
        obtain ⟨m_29, h_30, hf⟩ := nn_bind hf
        replace h_30 := Option.some.inj h_30
        refine as_Md_best S hK hw (x := m) rfl g_28 (τ' := (sM σ m_29)) ((rfl : _ = (sM σ (s_Md_best m (upd (g_Md_best m) u9.toNatClampNeg ((g_Md_order m) u9.toNatClampNeg))))).trans (by rw [h_30])) dX7_hear_144 (fun H locs hw => ?_)
        refine lv_iinc (v := u9 + (1 : Int32)) (lv' := [(9, .int (u9 + (1 : Int32))), (0, .ref (ad (136))), (1, .int (u1)), (2, .int (u2)), (3, .int (u3)), (4, .int (u4)), (5, .int (u5)), (6, .int (u6)), (7, .int (u7))]) hx hb dX7_hear_145 hl (k := 8) rfl (congrArg (fun z => u9 + z) (by decide)) (by decide) rfl (fun ls hl => ?_)
        refine lv_goto (tgt := 124) hx hb dX7_hear_148 (by decide) ?_
        exact ih m_29 u1 u2 u3 u4 u5 u6 u7 (u9 + (1 : Int32)) K hKK hf _ _ _ hw (lv_sub hl [1, 2, 3, 4, 5, 6, 7, 8, 0] rfl)
  have L80 : ∀ (n : Nat) (m : nMd) (u1 : Int32) (u2 : Int32) (u3 : Int32) (u4 : Int32) (u5 : Int32) (u6 : Int32) (u7 : Int32) (K : nMd → Int32 → Int32 → Int32 → Int32 → Int32 → Int32 → Int32 → Option (Int32 × nMd)), (∀ (m : nMd) (u1 : Int32) (u2 : Int32) (u3 : Int32) (u4 : Int32) (u5 : Int32) (u6 : Int32) (u7 : Int32), K m u1 u2 u3 u4 u5 u6 u7 = some q → ∀ (H : Heap) (locs : List Loc) (ls : Array Slot), nn_W D cy ad A ss.heap (sM σ m) H locs → lv_has ls 10 [(0, .ref (ad (136))), (1, .int (u1)), (2, .int (u2)), (3, .int (u3)), (4, .int (u4)), (5, .int (u5)), (6, .int (u6)), (7, .int (u7))] → W pp l ee (nn_R 3) ss mm ([.ref (ad (136)), .int (a1), .int (a2), .int (a3), .int (a4)] : List Value).toArray bb me co H locs 0 0 (MQ bb (nn_qi D cy ad A q.1 σ') ([.ref (ad (136)), .int (a1), .int (a2), .int (a3), .int (a4)] : List Value).toArray ss 0 0 A) (F0 mm 157 ls [])) → f_X7_hear_L80 n m u1 u2 u3 u4 u5 u6 u7 K = some q → ∀ (H : Heap) (locs : List Loc) (ls : Array Slot), nn_W D cy ad A ss.heap (sM σ m) H locs → lv_has ls 10 [(0, .ref (ad (136))), (1, .int (u1)), (2, .int (u2)), (3, .int (u3)), (4, .int (u4)), (5, .int (u5)), (6, .int (u6)), (7, .int (u7))] → W pp l ee (nn_R 3) ss mm ([.ref (ad (136)), .int (a1), .int (a2), .int (a3), .int (a4)] : List Value).toArray bb me co H locs 0 0 (MQ bb (nn_qi D cy ad A q.1 σ') ([.ref (ad (136)), .int (a1), .int (a2), .int (a3), .int (a4)] : List Value).toArray ss 0 0 A) (F0 mm 80 ls []) := by
    intro n
    induction n with
    | zero => intro m u1 u2 u3 u4 u5 u6 u7 K hKK hf; exact absurd hf (by simp [f_X7_hear_L80])
    | succ n ih =>
      intro m u1 u2 u3 u4 u5 u6 u7 K hKK hf H locs ls hw hl
      rw [f_X7_hear_L80] at hf
      refine lv_iload hx hb dX7_hear_80 (lv_at hl 7 rfl) ?_
      refine lv_iload hx hb dX7_hear_82 (lv_at hl 5 rfl) ?_
      refine lv_icmp_ge (tgt := 157) hx hb dX7_hear_84 (by decide) (fun c_19 => ?_) (fun c_19 => ?_)
      · rw [if_pos c_19] at hf
        exact hKK m u1 u2 u3 u4 u5 u6 u7 hf _ _ _ hw (lv_sub hl [0, 1, 2, 3, 4, 5, 6, 7] rfl)
      · rw [if_neg c_19] at hf
        refine lv_aload_n hx hb dX7_hear_87 rfl (lv_at hl 0 rfl) ?_
        refine lv_iload hx hb dX7_hear_88 (lv_at hl 7 rfl) ?_
        obtain ⟨q_20, h_21, hf⟩ := nn_bind hf
        refine nn_calliV S (As := [.int (u7)]) (rest := []) (ce_M (k := 0)) (by decide) rfl rfl (c_X7_isOrder l D cy ad A (sM σ m) m rfl u7 q_20 h_21 (sM σ q_20.2) rfl) mv_X7_isOrder tb_4_178 hK hw ⟨Nat.le_of_ble_eq_true rfl, Nat.le_of_ble_eq_true rfl⟩ ⟨Nat.zero_le _, Nat.zero_le _⟩ rfl hl.1 rfl (Nat.le_of_ble_eq_true rfl) dX7_hear_90 (fun H locs hw => ?_)
        refine lv_if_eq (tgt := 151) hx hb dX7_hear_93 (by decide) (fun c_22 => ?_) (fun c_22 => ?_)
        · rw [if_pos c_22] at hf
          refine lv_iinc (v := u7 + (1 : Int32)) (lv' := [(7, .int (u7 + (1 : Int32))), (0, .ref (ad (136))), (1, .int (u1)), (2, .int (u2)), (3, .int (u3)), (4, .int (u4)), (5, .int (u5)), (6, .int (u6))]) hx hb dX7_hear_151 hl (k := 7) rfl (congrArg (fun z => u7 + z) (by decide)) (by decide) rfl (fun ls hl => ?_)
          refine lv_goto (tgt := 80) hx hb dX7_hear_154 (by decide) ?_
          exact ih q_20.2 u1 u2 u3 u4 u5 u6 (u7 + (1 : Int32)) K hKK hf _ _ _ hw (lv_sub hl [1, 2, 3, 4, 5, 6, 7, 0] rfl)
        · rw [if_neg c_22] at hf
          refine lv_aload_n hx hb dX7_hear_96 rfl (lv_at hl 0 rfl) ?_
          refine lv_iload_n hx hb dX7_hear_97 rfl (lv_at hl 1 rfl) ?_
          refine lv_iload_n hx hb dX7_hear_98 rfl (lv_at hl 2 rfl) ?_
          refine lv_iload_n hx hb dX7_hear_99 rfl (lv_at hl 3 rfl) ?_
          obtain ⟨q_23, h_24, hf⟩ := nn_bind hf
          refine nn_calliV S (As := [.int (u1), .int (u2), .int (u3)]) (rest := []) (ce_M (k := 0)) (by decide) rfl rfl (c_X7_hears l D cy ad A (sM σ q_20.2) q_20.2 rfl u1 u2 u3 q_23 h_24) mv_X7_hears tb_4_182 hK hw ⟨Nat.le_of_ble_eq_true rfl, Nat.le_of_ble_eq_true rfl⟩ ⟨Nat.zero_le _, Nat.zero_le _⟩ rfl hl.1 rfl (Nat.le_of_ble_eq_true rfl) dX7_hear_100 (fun H locs hw => ?_)
          refine lv_istore (lv' := [(8, .int (q_23)), (0, .ref (ad (136))), (1, .int (u1)), (2, .int (u2)), (3, .int (u3)), (4, .int (u4)), (5, .int (u5)), (6, .int (u6)), (7, .int (u7))]) hx hb dX7_hear_103 hl (by decide) rfl (fun ls hl => ?_)
          refine lv_iload hx hb dX7_hear_105 (lv_at hl 7 rfl) ?_
          refine lv_if_lt (tgt := 117) hx hb dX7_hear_107 (by decide) (fun c_25 => ?_) (fun c_25 => ?_)
          · rw [if_pos c_25] at hf
            refine lv_iload hx hb dX7_hear_117 (lv_at hl 0 rfl) ?_
            refine lv_istore (lv' := [(6, .int (q_23)), (8, .int (q_23)), (0, .ref (ad (136))), (1, .int (u1)), (2, .int (u2)), (3, .int (u3)), (4, .int (u4)), (5, .int (u5)), (7, .int (u7))]) hx hb dX7_hear_119 hl (by decide) rfl (fun ls hl => ?_)
            refine lv_iconst (v := 0) hx hb dX7_hear_121 (by decide) ?_
            refine lv_istore (lv' := [(9, .int ((0 : Int32))), (6, .int (q_23)), (8, .int (q_23)), (0, .ref (ad (136))), (1, .int (u1)), (2, .int (u2)), (3, .int (u3)), (4, .int (u4)), (5, .int (u5)), (7, .int (u7))]) hx hb dX7_hear_122 hl (by decide) rfl (fun ls hl => ?_)
            refine L124 100000 q_20.2 u1 u2 u3 u4 u5 q_23 u7 (0 : Int32) _ (fun m_39 b1_31 b2_32 b3_33 b4_34 b5_35 b6_36 b7_37 b9_38 hf H locs ls hw hl => ?_) hf _ _ _ hw (lv_sub hl [3, 4, 5, 6, 7, 8, 1, 9, 0] rfl)
            refine lv_iinc (v := b7_37 + (1 : Int32)) (lv' := [(7, .int (b7_37 + (1 : Int32))), (0, .ref (ad (136))), (1, .int (b1_31)), (2, .int (b2_32)), (3, .int (b3_33)), (4, .int (b4_34)), (5, .int (b5_35)), (6, .int (b6_36)), (9, .int (b9_38))]) hx hb dX7_hear_151 hl (k := 7) rfl (congrArg (fun z => b7_37 + z) (by decide)) (by decide) rfl (fun ls hl => ?_)
            refine lv_goto (tgt := 80) hx hb dX7_hear_154 (by decide) ?_
            exact ih m_39 b1_31 b2_32 b3_33 b4_34 b5_35 b6_36 (b7_37 + (1 : Int32)) K hKK hf _ _ _ hw (lv_sub hl [1, 2, 3, 4, 5, 6, 7, 0] rfl)
          · rw [if_neg c_25] at hf
            refine lv_iload hx hb dX7_hear_110 (lv_at hl 0 rfl) ?_
            refine lv_iload hx hb dX7_hear_112 (lv_at hl 7 rfl) ?_
            refine lv_icmp_ge (tgt := 151) hx hb dX7_hear_114 (by decide) (fun c_40 => ?_) (fun c_40 => ?_)
            · rw [if_pos c_40] at hf
              refine lv_iinc (v := u7 + (1 : Int32)) (lv' := [(7, .int (u7 + (1 : Int32))), (8, .int (q_23)), (0, .ref (ad (136))), (1, .int (u1)), (2, .int (u2)), (3, .int (u3)), (4, .int (u4)), (5, .int (u5)), (6, .int (u6))]) hx hb dX7_hear_151 hl (k := 8) rfl (congrArg (fun z => u7 + z) (by decide)) (by decide) rfl (fun ls hl => ?_)
              refine lv_goto (tgt := 80) hx hb dX7_hear_154 (by decide) ?_
              exact ih q_20.2 u1 u2 u3 u4 u5 u6 (u7 + (1 : Int32)) K hKK hf _ _ _ hw (lv_sub hl [2, 3, 4, 5, 6, 7, 8, 0] rfl)
            · rw [if_neg c_40] at hf
              refine lv_iload hx hb dX7_hear_117 (lv_at hl 0 rfl) ?_
              refine lv_istore (lv' := [(6, .int (q_23)), (8, .int (q_23)), (0, .ref (ad (136))), (1, .int (u1)), (2, .int (u2)), (3, .int (u3)), (4, .int (u4)), (5, .int (u5)), (7, .int (u7))]) hx hb dX7_hear_119 hl (by decide) rfl (fun ls hl => ?_)
              refine lv_iconst (v := 0) hx hb dX7_hear_121 (by decide) ?_
              refine lv_istore (lv' := [(9, .int ((0 : Int32))), (6, .int (q_23)), (8, .int (q_23)), (0, .ref (ad (136))), (1, .int (u1)), (2, .int (u2)), (3, .int (u3)), (4, .int (u4)), (5, .int (u5)), (7, .int (u7))]) hx hb dX7_hear_122 hl (by decide) rfl (fun ls hl => ?_)
              refine L124 100000 q_20.2 u1 u2 u3 u4 u5 q_23 u7 (0 : Int32) _ (fun m_49 b1_41 b2_42 b3_43 b4_44 b5_45 b6_46 b7_47 b9_48 hf H locs ls hw hl => ?_) hf _ _ _ hw (lv_sub hl [3, 4, 5, 6, 7, 8, 1, 9, 0] rfl)
              refine lv_iinc (v := b7_47 + (1 : Int32)) (lv' := [(7, .int (b7_47 + (1 : Int32))), (0, .ref (ad (136))), (1, .int (b1_41)), (2, .int (b2_42)), (3, .int (b3_43)), (4, .int (b4_44)), (5, .int (b5_45)), (6, .int (b6_46)), (9, .int (b9_48))]) hx hb dX7_hear_151 hl (k := 7) rfl (congrArg (fun z => b7_47 + z) (by decide)) (by decide) rfl (fun ls hl => ?_)
              refine lv_goto (tgt := 80) hx hb dX7_hear_154 (by decide) ?_
              exact ih m_49 b1_41 b2_42 b3_43 b4_44 b5_45 b6_46 (b7_47 + (1 : Int32)) K hKK hf _ _ _ hw (lv_sub hl [1, 2, 3, 4, 5, 6, 7, 0] rfl)
  refine lv_aload_n hx hb dX7_hear_0 rfl (lv_at hl 0 rfl) ?_
  refine lv_iload_n hx hb dX7_hear_1 rfl (lv_at hl 1 rfl) ?_
  obtain ⟨q_1, h_2, hf⟩ := nn_bind hf
  refine nn_calliV S (As := [.int (a1)]) (rest := []) (ce_M (k := 0)) (by decide) rfl rfl (c_X7_isVillage l D cy ad A (sM σ m) m rfl a1 q_1 h_2) mv_X7_isVillage tb_3_232 hK hw ⟨Nat.le_of_ble_eq_true rfl, Nat.le_of_ble_eq_true rfl⟩ ⟨Nat.zero_le _, Nat.zero_le _⟩ rfl hl.1 rfl (Nat.le_of_ble_eq_true rfl) dX7_hear_2 (fun H locs hw => ?_)
  refine lv_if_eq (tgt := 38) hx hb dX7_hear_5 (by decide) (fun c_3 => ?_) (fun c_3 => ?_)
  · rw [if_pos c_3] at hf
    refine lv_iconst (v := -1) hx hb dX7_hear_38 (by decide) ?_
    obtain rfl := Option.some.inj hf
    exact nn_iret S hr hlk hw rfl hσ dX7_hear_39
  · rw [if_neg c_3] at hf
    refine lv_iload_n hx hb dX7_hear_8 rfl (lv_at hl 2 rfl) ?_
    refine lv_i2l (v := a2.toInt64) hx hb dX7_hear_9 rfl ?_
    refine lv_lconst (v := 0) hx hb dX7_hear_10 (by decide) ?_
    refine lv_ldc2 (v := 59) hx hb S.2.2.2.1 (S.2.2.2.2 _ tb_3_217) dX7_hear_11 ?_
    obtain ⟨q_4, h_5, hf⟩ := nn_bind hf
    refine nn_calliS S (As := [.long (a2.toInt64), .long ((0 : Int64)), .long ((59 : Int64))]) (rest := []) (c_X7_in l D cy ad A (sM σ m) a2.toInt64 (0 : Int64) (59 : Int64) q_4 h_5) mv_X7_in tb_3_214 hK hw ⟨Nat.le_of_ble_eq_true rfl, Nat.le_of_ble_eq_true rfl⟩ ⟨Nat.zero_le _, Nat.zero_le _⟩ rfl hl.1 rfl (Nat.le_of_ble_eq_true rfl) dX7_hear_14 (fun H locs hw => ?_)
    refine lv_if_eq (tgt := 38) hx hb dX7_hear_17 (by decide) (fun c_6 => ?_) (fun c_6 => ?_)
    · rw [if_pos c_6] at hf
      refine lv_iconst (v := -1) hx hb dX7_hear_38 (by decide) ?_
      obtain rfl := Option.some.inj hf
      exact nn_iret S hr hlk hw rfl hσ dX7_hear_39
    · rw [if_neg c_6] at hf
      refine lv_iload_n hx hb dX7_hear_20 rfl (lv_at hl 3 rfl) ?_
      refine lv_i2l (v := a3.toInt64) hx hb dX7_hear_21 rfl ?_
      refine lv_lconst (v := 1) hx hb dX7_hear_22 (by decide) ?_
      refine lv_ldc2 (v := 9) hx hb S.2.2.2.1 (S.2.2.2.2 _ tb_3_219) dX7_hear_23 ?_
      obtain ⟨q_7, h_8, hf⟩ := nn_bind hf
      refine nn_calliS S (As := [.long (a3.toInt64), .long ((1 : Int64)), .long ((9 : Int64))]) (rest := []) (c_X7_in l D cy ad A (sM σ m) a3.toInt64 (1 : Int64) (9 : Int64) q_7 h_8) mv_X7_in tb_3_214 hK hw ⟨Nat.le_of_ble_eq_true rfl, Nat.le_of_ble_eq_true rfl⟩ ⟨Nat.zero_le _, Nat.zero_le _⟩ rfl hl.1 rfl (Nat.le_of_ble_eq_true rfl) dX7_hear_26 (fun H locs hw => ?_)
      refine lv_if_eq (tgt := 38) hx hb dX7_hear_29 (by decide) (fun c_9 => ?_) (fun c_9 => ?_)
      · rw [if_pos c_9] at hf
        refine lv_iconst (v := -1) hx hb dX7_hear_38 (by decide) ?_
        obtain rfl := Option.some.inj hf
        exact nn_iret S hr hlk hw rfl hσ dX7_hear_39
      · rw [if_neg c_9] at hf
        refine lv_iload hx hb dX7_hear_32 (lv_at hl 4 rfl) ?_
        refine lv_iconst (v := -1) hx hb dX7_hear_34 (by decide) ?_
        refine lv_icmp_ge (tgt := 40) hx hb dX7_hear_35 (by decide) (fun c_10 => ?_) (fun c_10 => ?_)
        · rw [if_pos c_10] at hf
          refine lv_iconst (v := 1) hx hb dX7_hear_40 (by decide) ?_
          refine lv_istore (lv' := [(5, .int ((1 : Int32))), (0, .ref (ad (136))), (1, .int (a1)), (2, .int (a2)), (3, .int (a3)), (4, .int (a4))]) hx hb dX7_hear_41 hl (by decide) rfl (fun ls hl => ?_)
          refine lv_iconst (v := 0) hx hb dX7_hear_43 (by decide) ?_
          refine lv_istore (lv' := [(6, .int ((0 : Int32))), (5, .int ((1 : Int32))), (0, .ref (ad (136))), (1, .int (a1)), (2, .int (a2)), (3, .int (a3)), (4, .int (a4))]) hx hb dX7_hear_44 hl (by decide) rfl (fun ls hl => ?_)
          refine L46 100000 m a1 a2 a3 a4 (1 : Int32) (0 : Int32) _ (fun m_18 b1_12 b2_13 b3_14 b4_15 b5_16 b6_17 hf H locs ls hw hl => ?_) hf _ _ _ hw (lv_sub hl [2, 3, 4, 5, 6, 1, 0] rfl)
          refine lv_iconst (v := -1) hx hb dX7_hear_74 (by decide) ?_
          refine lv_istore (lv' := [(6, .int ((-1 : Int32))), (0, .ref (ad (136))), (1, .int (b1_12)), (2, .int (b2_13)), (3, .int (b3_14)), (4, .int (b4_15)), (5, .int (b5_16))]) hx hb dX7_hear_75 hl (by decide) rfl (fun ls hl => ?_)
          refine lv_iconst (v := 0) hx hb dX7_hear_77 (by decide) ?_
          refine lv_istore (lv' := [(7, .int ((0 : Int32))), (6, .int ((-1 : Int32))), (0, .ref (ad (136))), (1, .int (b1_12)), (2, .int (b2_13)), (3, .int (b3_14)), (4, .int (b4_15)), (5, .int (b5_16))]) hx hb dX7_hear_78 hl (by decide) rfl (fun ls hl => ?_)
          refine L80 100000 m_18 b1_12 b2_13 b3_14 b4_15 b5_16 (-1 : Int32) (0 : Int32) _ (fun m_57 b1_50 b2_51 b3_52 b4_53 b5_54 b6_55 b7_56 hf H locs ls hw hl => ?_) hf _ _ _ hw (lv_sub hl [2, 3, 4, 5, 6, 7, 1, 0] rfl)
          refine lv_iload hx hb dX7_hear_157 (lv_at hl 4 rfl) ?_
          refine lv_if_ge (tgt := 167) hx hb dX7_hear_159 (by decide) (fun c_58 => ?_) (fun c_58 => ?_)
          · rw [if_pos c_58] at hf
            refine lv_iload hx hb dX7_hear_167 (lv_at hl 4 rfl) ?_
            refine lv_aload_n hx hb dX7_hear_169 rfl (lv_at hl 0 rfl) ?_
            refine gf_Md_now S hK hw tb_3_145 dX7_hear_170 ?_
            refine lv_iconst (v := 0) hx hb dX7_hear_173 (by decide) ?_
            refine al_Md_now S hK hw (x := m_57) rfl (by decide) dX7_hear_174 ?_
            refine lv_icmp_ge (tgt := 188) hx hb dX7_hear_175 (by decide) (fun c_59 => ?_) (fun c_59 => ?_)
            · rw [if_pos c_59] at hf
              refine lv_bipush (v := -4) hx hb dX7_hear_188 (by decide) ?_
              obtain rfl := Option.some.inj hf
              exact nn_iret S hr hlk hw rfl hσ dX7_hear_190
            · rw [if_neg c_59] at hf
              refine lv_aload_n hx hb dX7_hear_178 rfl (lv_at hl 0 rfl) ?_
              refine gf_Md_best S hK hw tb_3_157 dX7_hear_179 ?_
              refine lv_iload hx hb dX7_hear_182 (lv_at hl 4 rfl) ?_
              obtain ⟨g_60, hf⟩ := nn_ix_some hf
              refine al_Md_best S hK hw (x := m_57) rfl g_60 dX7_hear_184 ?_
              refine lv_goto (tgt := 190) hx hb dX7_hear_185 (by decide) ?_
              obtain rfl := Option.some.inj hf
              exact nn_iret S hr hlk hw rfl hσ dX7_hear_190
          · rw [if_neg c_58] at hf
            refine lv_iload hx hb dX7_hear_162 (lv_at hl 6 rfl) ?_
            refine lv_goto (tgt := 190) hx hb dX7_hear_164 (by decide) ?_
            obtain rfl := Option.some.inj hf
            exact nn_iret S hr hlk hw rfl hσ dX7_hear_190
        · rw [if_neg c_10] at hf
          refine lv_iconst (v := -1) hx hb dX7_hear_38 (by decide) ?_
          obtain rfl := Option.some.inj hf
          exact nn_iret S hr hlk hw rfl hσ dX7_hear_39
set_option maxRecDepth 100000 in
set_option maxHeartbeats 4000000 in
theorem c_X7_isAsAside (l : Launch) (D : va_G) (cy : Nat → ClassId) (ad : Nat → Nat) (A : Nat → Prop) (σ : nG) (m : nMd) (hx_M : gM σ = m) (q : Int32) (hf : f_X7_isAsAside m = some q) : nn_I l yX7_isAsAside (nn_ws yX7_isAsAside cX7_isAsAside 3 (some .boolean)) (nn_R 2) D cy ad A [.ref (ad (136))] σ q σ := by
  refine nn_enterI (plainFor_of_name (by decide +kernel)) (Nat.le_of_ble_eq_true rfl) (lv := [(0, .ref (ad (136)))]) rfl ?_
  intro pp ee ss mm bb me co S hr hlk hK hw ls hl
  have hx := S.1
  have hb := S.2.1
  unfold f_X7_isAsAside at hf
  have L4 : ∀ (n : Nat) (u1 : Int32) (u2 : Int32) (K : Int32 → Int32 → Option (Int32)), (∀ (u1 : Int32) (u2 : Int32), K u1 u2 = some q → ∀ (H : Heap) (locs : List Loc) (ls : Array Slot), nn_W D cy ad A ss.heap σ H locs → lv_has ls 3 [(0, .ref (ad (136))), (1, .int (u1)), (2, .int (u2))] → W pp l ee (nn_R 2) ss mm ([.ref (ad (136))] : List Value).toArray bb me co H locs 0 0 (MQ bb (nn_qi D cy ad A q σ) ([.ref (ad (136))] : List Value).toArray ss 0 0 A) (F0 mm 50 ls [])) → f_X7_isAsAside_L4 m n u1 u2 K = some q → ∀ (H : Heap) (locs : List Loc) (ls : Array Slot), nn_W D cy ad A ss.heap σ H locs → lv_has ls 3 [(0, .ref (ad (136))), (1, .int (u1)), (2, .int (u2))] → W pp l ee (nn_R 2) ss mm ([.ref (ad (136))] : List Value).toArray bb me co H locs 0 0 (MQ bb (nn_qi D cy ad A q σ) ([.ref (ad (136))] : List Value).toArray ss 0 0 A) (F0 mm 4 ls []) := by
    intro n
    induction n with
    | zero => intro u1 u2 K hKK hf; exact absurd hf (by simp [f_X7_isAsAside_L4])
    | succ n ih =>
      intro u1 u2 K hKK hf H locs ls hw hl
      rw [f_X7_isAsAside_L4] at hf
      refine lv_iload_n hx hb dX7_isAsAside_4 rfl (lv_at hl 2 rfl) ?_
      refine lv_aload_n hx hb dX7_isAsAside_5 rfl (lv_at hl 0 rfl) ?_
      refine gf_Md_now S hK hw tb_3_145 dX7_isAsAside_6 ?_
      refine lv_iconst (v := 0) hx hb dX7_isAsAside_9 (by decide) ?_
      refine al_Md_now S hK hw (x := m) hx_M (by decide) dX7_isAsAside_10 ?_
      refine lv_icmp_ge (tgt := 50) hx hb dX7_isAsAside_11 (by decide) (fun c_1 => ?_) (fun c_1 => ?_)
      · rw [if_pos c_1] at hf
        exact hKK u1 u2 hf _ _ _ hw (lv_sub hl [0, 1, 2] rfl)
      · rw [if_neg c_1] at hf
        refine lv_iload_n hx hb dX7_isAsAside_14 rfl (lv_at hl 1 rfl) ?_
        refine lv_if_eq (tgt := 42) hx hb dX7_isAsAside_15 (by decide) (fun c_2 => ?_) (fun c_2 => ?_)
        · rw [if_pos c_2] at hf
          refine lv_iconst (v := 0) hx hb dX7_isAsAside_42 (by decide) ?_
          refine lv_istore_n (lv' := [(1, .int ((0 : Int32))), (0, .ref (ad (136))), (2, .int (u2))]) hx hb dX7_isAsAside_43 rfl hl (by decide) rfl (fun ls hl => ?_)
          refine lv_iinc (v := u2 + (1 : Int32)) (lv' := [(2, .int (u2 + (1 : Int32))), (1, .int ((0 : Int32))), (0, .ref (ad (136)))]) hx hb dX7_isAsAside_44 hl (k := 2) rfl (congrArg (fun z => u2 + z) (by decide)) (by decide) rfl (fun ls hl => ?_)
          refine lv_goto (tgt := 4) hx hb dX7_isAsAside_47 (by decide) ?_
          exact ih (0 : Int32) (u2 + (1 : Int32)) K hKK hf _ _ _ hw (lv_sub hl [2, 1, 0] rfl)
        · rw [if_neg c_2] at hf
          refine lv_aload_n hx hb dX7_isAsAside_18 rfl (lv_at hl 0 rfl) ?_
          refine lv_iload_n hx hb dX7_isAsAside_19 rfl (lv_at hl 2 rfl) ?_
          obtain ⟨q_3, h_4, hf⟩ := nn_bind hf
          refine nn_calliV S (As := [.int (u2)]) (rest := []) (ce_M (k := 0)) (by decide) rfl rfl (c_X7_minuteOf l D cy ad A σ m hx_M u2 q_3 h_4) mv_X7_minuteOf tb_4_8 hK hw ⟨Nat.le_of_ble_eq_true rfl, Nat.le_of_ble_eq_true rfl⟩ ⟨Nat.zero_le _, Nat.zero_le _⟩ rfl hl.1 rfl (Nat.le_of_ble_eq_true rfl) dX7_isAsAside_20 (fun H locs hw => ?_)
          refine lv_aload_n hx hb dX7_isAsAside_23 rfl (lv_at hl 0 rfl) ?_
          refine gf_Md_aside S hK hw tb_3_154 dX7_isAsAside_24 ?_
          refine lv_iconst (v := 3) hx hb dX7_isAsAside_27 (by decide) ?_
          refine lv_iconst (v := 4) hx hb dX7_isAsAside_28 (by decide) ?_
          refine lv_iload_n hx hb dX7_isAsAside_29 rfl (lv_at hl 2 rfl) ?_
          refine lv_imul hx hb dX7_isAsAside_30 ?_
          refine lv_iadd hx hb dX7_isAsAside_31 ?_
          refine lv_iconst (v := 1) hx hb dX7_isAsAside_32 (by decide) ?_
          refine lv_iadd hx hb dX7_isAsAside_33 ?_
          obtain ⟨g_5, hf⟩ := nn_ix_some hf
          refine al_Md_aside S hK hw (x := m) hx_M g_5 dX7_isAsAside_34 ?_
          refine lv_icmp_ne (tgt := 42) hx hb dX7_isAsAside_35 (by decide) (fun c_6 => ?_) (fun c_6 => ?_)
          · rw [if_neg c_6] at hf
            refine lv_iconst (v := 0) hx hb dX7_isAsAside_42 (by decide) ?_
            refine lv_istore_n (lv' := [(1, .int ((0 : Int32))), (0, .ref (ad (136))), (2, .int (u2))]) hx hb dX7_isAsAside_43 rfl hl (by decide) rfl (fun ls hl => ?_)
            refine lv_iinc (v := u2 + (1 : Int32)) (lv' := [(2, .int (u2 + (1 : Int32))), (1, .int ((0 : Int32))), (0, .ref (ad (136)))]) hx hb dX7_isAsAside_44 hl (k := 2) rfl (congrArg (fun z => u2 + z) (by decide)) (by decide) rfl (fun ls hl => ?_)
            refine lv_goto (tgt := 4) hx hb dX7_isAsAside_47 (by decide) ?_
            exact ih (0 : Int32) (u2 + (1 : Int32)) K hKK hf _ _ _ hw (lv_sub hl [2, 1, 0] rfl)
          · rw [if_pos c_6] at hf
            refine lv_iconst (v := 1) hx hb dX7_isAsAside_38 (by decide) ?_
            refine lv_goto (tgt := 43) hx hb dX7_isAsAside_39 (by decide) ?_
            refine lv_istore_n (lv' := [(1, .int ((1 : Int32))), (0, .ref (ad (136))), (2, .int (u2))]) hx hb dX7_isAsAside_43 rfl hl (by decide) rfl (fun ls hl => ?_)
            refine lv_iinc (v := u2 + (1 : Int32)) (lv' := [(2, .int (u2 + (1 : Int32))), (1, .int ((1 : Int32))), (0, .ref (ad (136)))]) hx hb dX7_isAsAside_44 hl (k := 2) rfl (congrArg (fun z => u2 + z) (by decide)) (by decide) rfl (fun ls hl => ?_)
            refine lv_goto (tgt := 4) hx hb dX7_isAsAside_47 (by decide) ?_
            exact ih (1 : Int32) (u2 + (1 : Int32)) K hKK hf _ _ _ hw (lv_sub hl [2, 1, 0] rfl)
  refine lv_iconst (v := 1) hx hb dX7_isAsAside_0 (by decide) ?_
  refine lv_istore_n (lv' := [(1, .int ((1 : Int32))), (0, .ref (ad (136)))]) hx hb dX7_isAsAside_1 rfl hl (by decide) rfl (fun ls hl => ?_)
  refine lv_iconst (v := 0) hx hb dX7_isAsAside_2 (by decide) ?_
  refine lv_istore_n (lv' := [(2, .int ((0 : Int32))), (1, .int ((1 : Int32))), (0, .ref (ad (136)))]) hx hb dX7_isAsAside_3 rfl hl (by decide) rfl (fun ls hl => ?_)
  refine L4 100000 (1 : Int32) (0 : Int32) _ (fun b1_7 b2_8 hf H locs ls hw hl => ?_) hf _ _ _ hw (lv_sub hl [2, 1, 0] rfl)
  refine lv_iload_n hx hb dX7_isAsAside_50 rfl (lv_at hl 1 rfl) ?_
  obtain ⟨g_9, hf⟩ := nn_bo_some hf
  obtain rfl := Option.some.inj hf
  exact nn_zret S hr hlk hw (by rcases g_9 with h9 | h9 <;> rw [h9] <;> rfl) rfl rfl dX7_isAsAside_51
set_option maxRecDepth 100000 in
set_option maxHeartbeats 4000000 in
theorem c_X7_again (l : Launch) (D : va_G) (cy : Nat → ClassId) (ad : Nat → Nat) (A : Nat → Prop) (σ : nG) (m : nMd) (hx_M : gM σ = m) (q : Int32 × nMd) (hf : f_X7_again m = some q) (σ' : nG) (hσ : (sM σ q.2) = σ') : nn_I l yX7_again (nn_ws yX7_again cX7_again 3 (some .int)) (nn_R 6) D cy ad A [.ref (ad (136))] σ q.1 σ' := by
  refine nn_enterI (plainFor_of_name (by decide +kernel)) (Nat.le_of_ble_eq_true rfl) (lv := [(0, .ref (ad (136)))]) rfl ?_
  intro pp ee ss mm bb me co S hr hlk hK hw ls hl
  have hx := S.1
  have hb := S.2.1
  have hw : nn_W D cy ad A ss.heap (sM σ m) ss.heap [] := nn_W.eq (by rw [← hx_M]; rfl) hw
  unfold f_X7_again at hf
  have L9 : ∀ (n : Nat) (m : nMd) (u1 : Int32) (u2 : Int32) (K : nMd → Int32 → Int32 → Option (Int32 × nMd)), (∀ (m : nMd) (u1 : Int32) (u2 : Int32), K m u1 u2 = some q → ∀ (H : Heap) (locs : List Loc) (ls : Array Slot), nn_W D cy ad A ss.heap (sM σ m) H locs → lv_has ls 3 [(0, .ref (ad (136))), (1, .int (u1)), (2, .int (u2))] → W pp l ee (nn_R 6) ss mm ([.ref (ad (136))] : List Value).toArray bb me co H locs 0 0 (MQ bb (nn_qi D cy ad A q.1 σ') ([.ref (ad (136))] : List Value).toArray ss 0 0 A) (F0 mm 47 ls [])) → f_X7_again_L9 n m u1 u2 K = some q → ∀ (H : Heap) (locs : List Loc) (ls : Array Slot), nn_W D cy ad A ss.heap (sM σ m) H locs → lv_has ls 3 [(0, .ref (ad (136))), (1, .int (u1)), (2, .int (u2))] → W pp l ee (nn_R 6) ss mm ([.ref (ad (136))] : List Value).toArray bb me co H locs 0 0 (MQ bb (nn_qi D cy ad A q.1 σ') ([.ref (ad (136))] : List Value).toArray ss 0 0 A) (F0 mm 9 ls []) := by
    intro n
    induction n with
    | zero => intro m u1 u2 K hKK hf; exact absurd hf (by simp [f_X7_again_L9])
    | succ n ih =>
      intro m u1 u2 K hKK hf H locs ls hw hl
      rw [f_X7_again_L9] at hf
      refine lv_iload_n hx hb dX7_again_9 rfl (lv_at hl 2 rfl) ?_
      refine lv_sipush (v := 241) hx hb dX7_again_10 (by decide) ?_
      refine lv_icmp_ge (tgt := 47) hx hb dX7_again_13 (by decide) (fun c_3 => ?_) (fun c_3 => ?_)
      · rw [if_pos c_3] at hf
        exact hKK m u1 u2 hf _ _ _ hw (lv_sub hl [0, 1, 2] rfl)
      · rw [if_neg c_3] at hf
        refine lv_iload_n hx hb dX7_again_16 rfl (lv_at hl 1 rfl) ?_
        refine lv_bipush (v := -4) hx hb dX7_again_17 (by decide) ?_
        refine lv_icmp_ne (tgt := 47) hx hb dX7_again_19 (by decide) (fun c_4 => ?_) (fun c_4 => ?_)
        · rw [if_neg c_4] at hf
          exact hKK m u1 u2 hf _ _ _ hw (lv_sub hl [0, 1, 2] rfl)
        · rw [if_pos c_4] at hf
          refine lv_aload_n hx hb dX7_again_22 rfl (lv_at hl 0 rfl) ?_
          refine lv_iconst (v := 2) hx hb dX7_again_23 (by decide) ?_
          obtain ⟨q_5, h_6, hf⟩ := nn_bind hf
          refine nn_callvV S (As := [.int ((2 : Int32))]) (rest := []) (ce_M (k := 0)) (by decide) rfl rfl (c_X7_goesOn l D cy ad A (sM σ m) m rfl (2 : Int32) q_5 h_6 (sM σ q_5) rfl) mv_X7_goesOn tb_4_133 hK hw ⟨Nat.le_of_ble_eq_true rfl, Nat.le_of_ble_eq_true rfl⟩ ⟨Nat.zero_le _, Nat.zero_le _⟩ rfl hl.1 rfl (Nat.le_of_ble_eq_true rfl) dX7_again_24 (fun H locs hw => ?_)
          refine lv_aload_n hx hb dX7_again_27 rfl (lv_at hl 0 rfl) ?_
          obtain ⟨q_7, h_8, hf⟩ := nn_bind hf
          refine nn_calliV S (As := []) (rest := []) (ce_M (k := 0)) (by decide) rfl rfl (c_X7_isAsAside l D cy ad A (sM σ q_5) q_5 rfl q_7 h_8) mv_X7_isAsAside tb_4_190 hK hw ⟨Nat.le_of_ble_eq_true rfl, Nat.le_of_ble_eq_true rfl⟩ ⟨Nat.zero_le _, Nat.zero_le _⟩ rfl hl.1 rfl (Nat.le_of_ble_eq_true rfl) dX7_again_28 (fun H locs hw => ?_)
          refine lv_if_eq (tgt := 38) hx hb dX7_again_31 (by decide) (fun c_9 => ?_) (fun c_9 => ?_)
          · rw [if_pos c_9] at hf
            refine lv_bipush (v := -4) hx hb dX7_again_38 (by decide) ?_
            refine lv_istore_n (lv' := [(1, .int ((-4 : Int32))), (0, .ref (ad (136))), (2, .int (u2))]) hx hb dX7_again_40 rfl hl (by decide) rfl (fun ls hl => ?_)
            refine lv_iinc (v := u2 + (2 : Int32)) (lv' := [(2, .int (u2 + (2 : Int32))), (1, .int ((-4 : Int32))), (0, .ref (ad (136)))]) hx hb dX7_again_41 hl (k := 2) rfl (congrArg (fun z => u2 + z) (by decide)) (by decide) rfl (fun ls hl => ?_)
            refine lv_goto (tgt := 9) hx hb dX7_again_44 (by decide) ?_
            exact ih q_5 (-4 : Int32) (u2 + (2 : Int32)) K hKK hf _ _ _ hw (lv_sub hl [2, 1, 0] rfl)
          · rw [if_neg c_9] at hf
            refine lv_iload_n hx hb dX7_again_34 rfl (lv_at hl 2 rfl) ?_
            refine lv_goto (tgt := 40) hx hb dX7_again_35 (by decide) ?_
            refine lv_istore_n (lv' := [(1, .int (u2)), (0, .ref (ad (136))), (2, .int (u2))]) hx hb dX7_again_40 rfl hl (by decide) rfl (fun ls hl => ?_)
            refine lv_iinc (v := u2 + (2 : Int32)) (lv' := [(2, .int (u2 + (2 : Int32))), (1, .int (u2)), (0, .ref (ad (136)))]) hx hb dX7_again_41 hl (k := 2) rfl (congrArg (fun z => u2 + z) (by decide)) (by decide) rfl (fun ls hl => ?_)
            refine lv_goto (tgt := 9) hx hb dX7_again_44 (by decide) ?_
            exact ih q_5 u2 (u2 + (2 : Int32)) K hKK hf _ _ _ hw (lv_sub hl [2, 1, 0] rfl)
  refine lv_aload_n hx hb dX7_again_0 rfl (lv_at hl 0 rfl) ?_
  obtain ⟨q_1, h_2, hf⟩ := nn_bind hf
  refine nn_callvV S (As := []) (rest := []) (ce_M (k := 0)) (by decide) rfl rfl (c_X7_asides l D cy ad A (sM σ m) m rfl q_1 h_2 (sM σ q_1) rfl) mv_X7_asides tb_4_129 hK hw ⟨Nat.le_of_ble_eq_true rfl, Nat.le_of_ble_eq_true rfl⟩ ⟨Nat.zero_le _, Nat.zero_le _⟩ rfl hl.1 rfl (Nat.le_of_ble_eq_true rfl) dX7_again_1 (fun H locs hw => ?_)
  refine lv_bipush (v := -4) hx hb dX7_again_4 (by decide) ?_
  refine lv_istore_n (lv' := [(1, .int ((-4 : Int32))), (0, .ref (ad (136)))]) hx hb dX7_again_6 rfl hl (by decide) rfl (fun ls hl => ?_)
  refine lv_iconst (v := 2) hx hb dX7_again_7 (by decide) ?_
  refine lv_istore_n (lv' := [(2, .int ((2 : Int32))), (1, .int ((-4 : Int32))), (0, .ref (ad (136)))]) hx hb dX7_again_8 rfl hl (by decide) rfl (fun ls hl => ?_)
  refine L9 100000 q_1 (-4 : Int32) (2 : Int32) _ (fun m_12 b1_10 b2_11 hf H locs ls hw hl => ?_) hf _ _ _ hw (lv_sub hl [2, 1, 0] rfl)
  refine lv_aload_n hx hb dX7_again_47 rfl (lv_at hl 0 rfl) ?_
  obtain ⟨q_13, h_14, hf⟩ := nn_bind hf
  refine nn_callvV S (As := []) (rest := []) (ce_M (k := 0)) (by decide) rfl rfl (c_X7_backs l D cy ad A (sM σ m_12) m_12 rfl q_13 h_14 (sM σ q_13) rfl) mv_X7_backs tb_4_137 hK hw ⟨Nat.le_of_ble_eq_true rfl, Nat.le_of_ble_eq_true rfl⟩ ⟨Nat.zero_le _, Nat.zero_le _⟩ rfl hl.1 rfl (Nat.le_of_ble_eq_true rfl) dX7_again_48 (fun H locs hw => ?_)
  refine lv_iload_n hx hb dX7_again_51 rfl (lv_at hl 1 rfl) ?_
  obtain rfl := Option.some.inj hf
  exact nn_iret S hr hlk hw rfl hσ dX7_again_52
set_option maxRecDepth 100000 in
set_option maxHeartbeats 4000000 in
theorem c_X7_worst (l : Launch) (D : va_G) (cy : Nat → ClassId) (ad : Nat → Nat) (A : Nat → Prop) (σ : nG) (m : nMd) (hx_M : gM σ = m) (a1 : Int32) (q : Int32 × nMd) (hf : f_X7_worst m a1 = some q) (σ' : nG) (hσ : (sM σ q.2) = σ') : nn_I l yX7_worst (nn_ws yX7_worst cX7_worst 6 (some .int)) (nn_R 6) D cy ad A [.ref (ad (136)), .int (a1)] σ q.1 σ' := by
  refine nn_enterI (plainFor_of_name (by decide +kernel)) (Nat.le_of_ble_eq_true rfl) (lv := [(0, .ref (ad (136))), (1, .int (a1))]) rfl ?_
  intro pp ee ss mm bb me co S hr hlk hK hw ls hl
  have hx := S.1
  have hb := S.2.1
  have hw : nn_W D cy ad A ss.heap (sM σ m) ss.heap [] := nn_W.eq (by rw [← hx_M]; rfl) hw
  unfold f_X7_worst at hf
  have J77 : ∀ (m : nMd) (u1 : Int32) (u3 : Int32) (u4 : Int32) (u5 : Int32) (s0 : Int32) (RC K : nMd → Int32 → Int32 → Int32 → Int32 → Option (Int32 × nMd)), (∀ (m : nMd) (u1 : Int32) (u2 : Int32) (u3 : Int32) (u4 : Int32), RC m u1 u2 u3 u4 = some q → ∀ (H : Heap) (locs : List Loc) (ls : Array Slot), nn_W D cy ad A ss.heap (sM σ m) H locs → lv_has ls 6 [(0, .ref (ad (136))), (1, .int (u1)), (2, .int (u2)), (3, .int (u3)), (4, .int (u4))] → W pp l ee (nn_R 6) ss mm ([.ref (ad (136)), .int (a1)] : List Value).toArray bb me co H locs 0 0 (MQ bb (nn_qi D cy ad A q.1 σ') ([.ref (ad (136)), .int (a1)] : List Value).toArray ss 0 0 A) (F0 mm 24 ls [])) → (∀ (m : nMd) (u1 : Int32) (u2 : Int32) (u3 : Int32) (u4 : Int32), K m u1 u2 u3 u4 = some q → ∀ (H : Heap) (locs : List Loc) (ls : Array Slot), nn_W D cy ad A ss.heap (sM σ m) H locs → lv_has ls 6 [(0, .ref (ad (136))), (1, .int (u1)), (2, .int (u2)), (3, .int (u3)), (4, .int (u4))] → W pp l ee (nn_R 6) ss mm ([.ref (ad (136)), .int (a1)] : List Value).toArray bb me co H locs 0 0 (MQ bb (nn_qi D cy ad A q.1 σ') ([.ref (ad (136)), .int (a1)] : List Value).toArray ss 0 0 A) (F0 mm 97 ls [])) → f_X7_worst_J77 m u1 u3 u4 u5 s0 RC K = some q → ∀ (H : Heap) (locs : List Loc) (ls : Array Slot), nn_W D cy ad A ss.heap (sM σ m) H locs → lv_has ls 6 [(0, .ref (ad (136))), (1, .int (u1)), (3, .int (u3)), (4, .int (u4)), (5, .int (u5))] → W pp l ee (nn_R 6) ss mm ([.ref (ad (136)), .int (a1)] : List Value).toArray bb me co H locs 0 0 (MQ bb (nn_qi D cy ad A q.1 σ') ([.ref (ad (136)), .int (a1)] : List Value).toArray ss 0 0 A) (F0 mm 77 ls [.int (s0)]) := by
    intro m u1 u3 u4 u5 s0 RC K hRC hKK hf H locs ls hw hl
    unfold f_X7_worst_J77 at hf
    refine lv_istore_n (lv' := [(2, .int (s0)), (0, .ref (ad (136))), (1, .int (u1)), (3, .int (u3)), (4, .int (u4)), (5, .int (u5))]) hx hb dX7_worst_77 rfl hl (by decide) rfl (fun ls hl => ?_)
    refine lv_iload hx hb dX7_worst_78 (lv_at hl 5 rfl) ?_
    refine lv_iload_n hx hb dX7_worst_80 rfl (lv_at hl 3 rfl) ?_
    refine lv_icmp_le (tgt := 89) hx hb dX7_worst_81 (by decide) (fun c_13 => ?_) (fun c_13 => ?_)
    · rw [if_pos c_13] at hf
      refine lv_iload_n hx hb dX7_worst_89 rfl (lv_at hl 3 rfl) ?_
      refine lv_istore_n (lv' := [(3, .int (u3)), (2, .int (s0)), (0, .ref (ad (136))), (1, .int (u1)), (4, .int (u4)), (5, .int (u5))]) hx hb dX7_worst_90 rfl hl (by decide) rfl (fun ls hl => ?_)
      refine lv_iinc (v := u4 + (1 : Int32)) (lv' := [(4, .int (u4 + (1 : Int32))), (3, .int (u3)), (2, .int (s0)), (0, .ref (ad (136))), (1, .int (u1)), (5, .int (u5))]) hx hb dX7_worst_91 hl (k := 4) rfl (congrArg (fun z => u4 + z) (by decide)) (by decide) rfl (fun ls hl => ?_)
      refine lv_goto (tgt := 24) hx hb dX7_worst_94 (by decide) ?_
      exact hRC m u1 s0 u3 (u4 + (1 : Int32)) hf _ _ _ hw (lv_sub hl [3, 4, 2, 1, 0] rfl)
    · rw [if_neg c_13] at hf
      refine lv_iload hx hb dX7_worst_84 (lv_at hl 5 rfl) ?_
      refine lv_goto (tgt := 90) hx hb dX7_worst_86 (by decide) ?_
      refine lv_istore_n (lv' := [(3, .int (u5)), (2, .int (s0)), (0, .ref (ad (136))), (1, .int (u1)), (4, .int (u4)), (5, .int (u5))]) hx hb dX7_worst_90 rfl hl (by decide) rfl (fun ls hl => ?_)
      refine lv_iinc (v := u4 + (1 : Int32)) (lv' := [(4, .int (u4 + (1 : Int32))), (3, .int (u5)), (2, .int (s0)), (0, .ref (ad (136))), (1, .int (u1)), (5, .int (u5))]) hx hb dX7_worst_91 hl (k := 4) rfl (congrArg (fun z => u4 + z) (by decide)) (by decide) rfl (fun ls hl => ?_)
      refine lv_goto (tgt := 24) hx hb dX7_worst_94 (by decide) ?_
      exact hRC m u1 s0 u5 (u4 + (1 : Int32)) hf _ _ _ hw (lv_sub hl [3, 4, 2, 1, 0] rfl)
  have J63 : ∀ (m : nMd) (u1 : Int32) (u2 : Int32) (u3 : Int32) (u4 : Int32) (s0 : Int32) (RC K : nMd → Int32 → Int32 → Int32 → Int32 → Option (Int32 × nMd)), (∀ (m : nMd) (u1 : Int32) (u2 : Int32) (u3 : Int32) (u4 : Int32), RC m u1 u2 u3 u4 = some q → ∀ (H : Heap) (locs : List Loc) (ls : Array Slot), nn_W D cy ad A ss.heap (sM σ m) H locs → lv_has ls 6 [(0, .ref (ad (136))), (1, .int (u1)), (2, .int (u2)), (3, .int (u3)), (4, .int (u4))] → W pp l ee (nn_R 6) ss mm ([.ref (ad (136)), .int (a1)] : List Value).toArray bb me co H locs 0 0 (MQ bb (nn_qi D cy ad A q.1 σ') ([.ref (ad (136)), .int (a1)] : List Value).toArray ss 0 0 A) (F0 mm 24 ls [])) → (∀ (m : nMd) (u1 : Int32) (u2 : Int32) (u3 : Int32) (u4 : Int32), K m u1 u2 u3 u4 = some q → ∀ (H : Heap) (locs : List Loc) (ls : Array Slot), nn_W D cy ad A ss.heap (sM σ m) H locs → lv_has ls 6 [(0, .ref (ad (136))), (1, .int (u1)), (2, .int (u2)), (3, .int (u3)), (4, .int (u4))] → W pp l ee (nn_R 6) ss mm ([.ref (ad (136)), .int (a1)] : List Value).toArray bb me co H locs 0 0 (MQ bb (nn_qi D cy ad A q.1 σ') ([.ref (ad (136)), .int (a1)] : List Value).toArray ss 0 0 A) (F0 mm 97 ls [])) → f_X7_worst_J63 m u1 u2 u3 u4 s0 RC K = some q → ∀ (H : Heap) (locs : List Loc) (ls : Array Slot), nn_W D cy ad A ss.heap (sM σ m) H locs → lv_has ls 6 [(0, .ref (ad (136))), (1, .int (u1)), (2, .int (u2)), (3, .int (u3)), (4, .int (u4))] → W pp l ee (nn_R 6) ss mm ([.ref (ad (136)), .int (a1)] : List Value).toArray bb me co H locs 0 0 (MQ bb (nn_qi D cy ad A q.1 σ') ([.ref (ad (136)), .int (a1)] : List Value).toArray ss 0 0 A) (F0 mm 63 ls [.int (s0)]) := by
    intro m u1 u2 u3 u4 s0 RC K hRC hKK hf H locs ls hw hl
    unfold f_X7_worst_J63 at hf
    refine lv_istore (lv' := [(5, .int (s0)), (0, .ref (ad (136))), (1, .int (u1)), (2, .int (u2)), (3, .int (u3)), (4, .int (u4))]) hx hb dX7_worst_63 hl (by decide) rfl (fun ls hl => ?_)
    refine lv_iload hx hb dX7_worst_65 (lv_at hl 0 rfl) ?_
    refine lv_iload_n hx hb dX7_worst_67 rfl (lv_at hl 4 rfl) ?_
    refine lv_icmp_le (tgt := 76) hx hb dX7_worst_68 (by decide) (fun c_12 => ?_) (fun c_12 => ?_)
    · rw [if_pos c_12] at hf
      refine lv_iload_n hx hb dX7_worst_76 rfl (lv_at hl 3 rfl) ?_
      exact J77 m u1 u3 u4 s0 u2 RC K hRC hKK hf _ _ _ hw (lv_sub hl [1, 2, 4, 5, 0] rfl)
    · rw [if_neg c_12] at hf
      refine lv_iload hx hb dX7_worst_71 (lv_at hl 5 rfl) ?_
      refine lv_goto (tgt := 77) hx hb dX7_worst_73 (by decide) ?_
      exact J77 m u1 u3 u4 s0 u4 RC K hRC hKK hf _ _ _ hw (lv_sub hl [1, 2, 4, 5, 0] rfl)
  have L24 : ∀ (n : Nat) (m : nMd) (u1 : Int32) (u2 : Int32) (u3 : Int32) (u4 : Int32) (K : nMd → Int32 → Int32 → Int32 → Int32 → Option (Int32 × nMd)), (∀ (m : nMd) (u1 : Int32) (u2 : Int32) (u3 : Int32) (u4 : Int32), K m u1 u2 u3 u4 = some q → ∀ (H : Heap) (locs : List Loc) (ls : Array Slot), nn_W D cy ad A ss.heap (sM σ m) H locs → lv_has ls 6 [(0, .ref (ad (136))), (1, .int (u1)), (2, .int (u2)), (3, .int (u3)), (4, .int (u4))] → W pp l ee (nn_R 6) ss mm ([.ref (ad (136)), .int (a1)] : List Value).toArray bb me co H locs 0 0 (MQ bb (nn_qi D cy ad A q.1 σ') ([.ref (ad (136)), .int (a1)] : List Value).toArray ss 0 0 A) (F0 mm 97 ls [])) → f_X7_worst_L24 n m u1 u2 u3 u4 K = some q → ∀ (H : Heap) (locs : List Loc) (ls : Array Slot), nn_W D cy ad A ss.heap (sM σ m) H locs → lv_has ls 6 [(0, .ref (ad (136))), (1, .int (u1)), (2, .int (u2)), (3, .int (u3)), (4, .int (u4))] → W pp l ee (nn_R 6) ss mm ([.ref (ad (136)), .int (a1)] : List Value).toArray bb me co H locs 0 0 (MQ bb (nn_qi D cy ad A q.1 σ') ([.ref (ad (136)), .int (a1)] : List Value).toArray ss 0 0 A) (F0 mm 24 ls []) := by
    intro n
    induction n with
    | zero => intro m u1 u2 u3 u4 K hKK hf; exact absurd hf (by simp [f_X7_worst_L24])
    | succ n ih =>
      intro m u1 u2 u3 u4 K hKK hf H locs ls hw hl
      rw [f_X7_worst_L24] at hf
      refine lv_iload hx hb dX7_worst_24 (lv_at hl 4 rfl) ?_
      refine lv_aload_n hx hb dX7_worst_26 rfl (lv_at hl 0 rfl) ?_
      refine gf_Md_now S hK hw tb_3_145 dX7_worst_27 ?_
      refine lv_iconst (v := 0) hx hb dX7_worst_30 (by decide) ?_
      refine al_Md_now S hK hw (x := m) rfl (by decide) dX7_worst_31 ?_
      refine lv_icmp_ge (tgt := 97) hx hb dX7_worst_32 (by decide) (fun c_6 => ?_) (fun c_6 => ?_)
      · rw [if_pos c_6] at hf
        exact hKK m u1 u2 u3 u4 hf _ _ _ hw (lv_sub hl [0, 1, 2, 3, 4] rfl)
      · rw [if_neg c_6] at hf
        refine lv_aload_n hx hb dX7_worst_35 rfl (lv_at hl 0 rfl) ?_
        refine lv_iload hx hb dX7_worst_36 (lv_at hl 4 rfl) ?_
        refine lv_iconst (v := 2) hx hb dX7_worst_38 (by decide) ?_
        refine lv_iconst (v := 0) hx hb dX7_worst_39 (by decide) ?_
        obtain ⟨q_7, h_8, hf⟩ := nn_bind hf
        refine nn_callvV S (As := [.int (u4), .int ((2 : Int32)), .int ((0 : Int32))]) (rest := []) (ce_M (k := 0)) (by decide) rfl rfl (c_X7_tells l D cy ad A (sM σ m) m rfl u4 (2 : Int32) (0 : Int32) q_7 h_8 (sM σ q_7) rfl) mv_X7_tells tb_3_224 hK hw ⟨Nat.le_of_ble_eq_true rfl, Nat.le_of_ble_eq_true rfl⟩ ⟨Nat.zero_le _, Nat.zero_le _⟩ rfl hl.1 rfl (Nat.le_of_ble_eq_true rfl) dX7_worst_40 (fun H locs hw => ?_)
        refine lv_aload_n hx hb dX7_worst_43 rfl (lv_at hl 0 rfl) ?_
        obtain ⟨q_9, h_10, hf⟩ := nn_bind hf
        refine nn_calliV S (As := []) (rest := []) (ce_M (k := 0)) (by decide) rfl rfl (c_X7_whenTogether l D cy ad A (sM σ q_7) q_7 rfl q_9 h_10 (sM σ q_9.2) rfl) mv_X7_whenTogether tb_4_153 hK hw ⟨Nat.le_of_ble_eq_true rfl, Nat.le_of_ble_eq_true rfl⟩ ⟨Nat.zero_le _, Nat.zero_le _⟩ rfl hl.1 rfl (Nat.le_of_ble_eq_true rfl) dX7_worst_44 (fun H locs hw => ?_)
        refine lv_istore (lv' := [(5, .int (q_9.1)), (0, .ref (ad (136))), (1, .int (u1)), (2, .int (u2)), (3, .int (u3)), (4, .int (u4))]) hx hb dX7_worst_47 hl (by decide) rfl (fun ls hl => ?_)
        refine lv_iload hx hb dX7_worst_49 (lv_at hl 0 rfl) ?_
        refine lv_bipush (v := -4) hx hb dX7_worst_51 (by decide) ?_
        refine lv_icmp_ne (tgt := 61) hx hb dX7_worst_53 (by decide) (fun c_11 => ?_) (fun c_11 => ?_)
        · rw [if_neg c_11] at hf
          refine lv_iload hx hb dX7_worst_61 (lv_at hl 0 rfl) ?_
          exact J63 q_9.2 u1 u2 u3 u4 q_9.1 _ K (fun m u1 u2 u3 u4 hf H locs ls hw hl => ih m u1 u2 u3 u4 K hKK hf H locs ls hw hl) hKK hf _ _ _ hw (lv_sub hl [1, 2, 3, 4, 5] rfl)
        · rw [if_pos c_11] at hf
          refine lv_bipush (v := 99) hx hb dX7_worst_56 (by decide) ?_
          refine lv_goto (tgt := 63) hx hb dX7_worst_58 (by decide) ?_
          exact J63 q_9.2 u1 u2 u3 u4 (99 : Int32) _ K (fun m u1 u2 u3 u4 hf H locs ls hw hl => ih m u1 u2 u3 u4 K hKK hf H locs ls hw hl) hKK hf _ _ _ hw (lv_sub hl [1, 2, 3, 4, 5] rfl)
  refine lv_iload_n hx hb dX7_worst_0 rfl (lv_at hl 1 rfl) ?_
  refine lv_i2l (v := a1.toInt64) hx hb dX7_worst_1 rfl ?_
  refine lv_lconst (v := 0) hx hb dX7_worst_2 (by decide) ?_
  refine lv_lconst (v := 1) hx hb dX7_worst_3 (by decide) ?_
  obtain ⟨q_1, h_2, hf⟩ := nn_bind hf
  refine nn_calliS S (As := [.long (a1.toInt64), .long ((0 : Int64)), .long ((1 : Int64))]) (rest := []) (c_X7_in l D cy ad A (sM σ m) a1.toInt64 (0 : Int64) (1 : Int64) q_1 h_2) mv_X7_in tb_3_214 hK hw ⟨Nat.le_of_ble_eq_true rfl, Nat.le_of_ble_eq_true rfl⟩ ⟨Nat.zero_le _, Nat.zero_le _⟩ rfl hl.1 rfl (Nat.le_of_ble_eq_true rfl) dX7_worst_4 (fun H locs hw => ?_)
  refine lv_if_ne (tgt := 12) hx hb dX7_worst_7 (by decide) (fun c_3 => ?_) (fun c_3 => ?_)
  · rw [if_neg c_3] at hf
    refine lv_bipush (v := -4) hx hb dX7_worst_12 (by decide) ?_
    refine lv_istore_n (lv' := [(2, .int ((-4 : Int32))), (0, .ref (ad (136))), (1, .int (a1))]) hx hb dX7_worst_14 rfl hl (by decide) rfl (fun ls hl => ?_)
    refine lv_iconst (v := -1) hx hb dX7_worst_15 (by decide) ?_
    refine lv_istore_n (lv' := [(3, .int ((-1 : Int32))), (2, .int ((-4 : Int32))), (0, .ref (ad (136))), (1, .int (a1))]) hx hb dX7_worst_16 rfl hl (by decide) rfl (fun ls hl => ?_)
    refine lv_aload_n hx hb dX7_worst_17 rfl (lv_at hl 2 rfl) ?_
    obtain ⟨q_4, h_5, hf⟩ := nn_bind hf
    refine nn_callvV S (As := []) (rest := []) (ce_M (k := 0)) (by decide) rfl rfl (c_X7_asides l D cy ad A (sM σ m) m rfl q_4 h_5 (sM σ q_4) rfl) mv_X7_asides tb_4_129 hK hw ⟨Nat.le_of_ble_eq_true rfl, Nat.le_of_ble_eq_true rfl⟩ ⟨Nat.zero_le _, Nat.zero_le _⟩ rfl hl.1 rfl (Nat.le_of_ble_eq_true rfl) dX7_worst_18 (fun H locs hw => ?_)
    refine lv_iconst (v := 0) hx hb dX7_worst_21 (by decide) ?_
    refine lv_istore (lv' := [(4, .int ((0 : Int32))), (3, .int ((-1 : Int32))), (2, .int ((-4 : Int32))), (0, .ref (ad (136))), (1, .int (a1))]) hx hb dX7_worst_22 hl (by decide) rfl (fun ls hl => ?_)
    refine L24 100000 q_4 a1 (-4 : Int32) (-1 : Int32) (0 : Int32) _ (fun m_18 b1_14 b2_15 b3_16 b4_17 hf H locs ls hw hl => ?_) hf _ _ _ hw (lv_sub hl [3, 4, 2, 1, 0] rfl)
    refine lv_iload_n hx hb dX7_worst_97 rfl (lv_at hl 1 rfl) ?_
    refine lv_if_ne (tgt := 105) hx hb dX7_worst_98 (by decide) (fun c_19 => ?_) (fun c_19 => ?_)
    · rw [if_neg c_19] at hf
      refine lv_iload_n hx hb dX7_worst_105 rfl (lv_at hl 3 rfl) ?_
      refine lv_if_lt (tgt := 115) hx hb dX7_worst_106 (by decide) (fun c_20 => ?_) (fun c_20 => ?_)
      · rw [if_pos c_20] at hf
        refine lv_bipush (v := -4) hx hb dX7_worst_115 (by decide) ?_
        refine lv_goto (tgt := 121) hx hb dX7_worst_117 (by decide) ?_
        obtain rfl := Option.some.inj hf
        exact nn_iret S hr hlk hw rfl hσ dX7_worst_121
      · rw [if_neg c_20] at hf
        refine lv_iload_n hx hb dX7_worst_109 rfl (lv_at hl 3 rfl) ?_
        refine lv_bipush (v := 99) hx hb dX7_worst_110 (by decide) ?_
        refine lv_icmp_ne (tgt := 120) hx hb dX7_worst_112 (by decide) (fun c_21 => ?_) (fun c_21 => ?_)
        · rw [if_neg c_21] at hf
          refine lv_iload_n hx hb dX7_worst_120 rfl (lv_at hl 3 rfl) ?_
          obtain rfl := Option.some.inj hf
          exact nn_iret S hr hlk hw rfl hσ dX7_worst_121
        · rw [if_pos c_21] at hf
          refine lv_bipush (v := -4) hx hb dX7_worst_115 (by decide) ?_
          refine lv_goto (tgt := 121) hx hb dX7_worst_117 (by decide) ?_
          obtain rfl := Option.some.inj hf
          exact nn_iret S hr hlk hw rfl hσ dX7_worst_121
    · rw [if_pos c_19] at hf
      refine lv_iload_n hx hb dX7_worst_101 rfl (lv_at hl 2 rfl) ?_
      refine lv_goto (tgt := 121) hx hb dX7_worst_102 (by decide) ?_
      obtain rfl := Option.some.inj hf
      exact nn_iret S hr hlk hw rfl hσ dX7_worst_121
  · rw [if_pos c_3] at hf
    refine lv_iconst (v := -1) hx hb dX7_worst_10 (by decide) ?_
    obtain rfl := Option.some.inj hf
    exact nn_iret S hr hlk hw rfl hσ dX7_worst_11
set_option maxRecDepth 100000 in
set_option maxHeartbeats 4000000 in
theorem c_X7_fog (l : Launch) (D : va_G) (cy : Nat → ClassId) (ad : Nat → Nat) (A : Nat → Prop) (σ : nG) (m : nMd) (hx_M : gM σ = m) (a1 : Int32) (a2 : Int32) (q : Int32 × nMd) (hf : f_X7_fog m a1 a2 = some q) (σ' : nG) (hσ : (sM σ q.2) = σ') : nn_I l yX7_fog (nn_ws yX7_fog cX7_fog 9 (some .int)) (nn_R 4) D cy ad A [.ref (ad (136)), .int (a1), .int (a2)] σ q.1 σ' := by
  refine nn_enterI (plainFor_of_name (by decide +kernel)) (Nat.le_of_ble_eq_true rfl) (lv := [(0, .ref (ad (136))), (1, .int (a1)), (2, .int (a2))]) rfl ?_
  intro pp ee ss mm bb me co S hr hlk hK hw ls hl
  have hx := S.1
  have hb := S.2.1
  have hw : nn_W D cy ad A ss.heap (sM σ m) ss.heap [] := nn_W.eq (by rw [← hx_M]; rfl) hw
  unfold f_X7_fog at hf
  have J99 : ∀ (m : nMd) (u1 : Int32) (u2 : Int32) (u3 : Int32) (u4 : Int32) (u5 : Int32) (u7 : Int32) (u8 : Int32) (s0 : Int32) (s1 : Int32) (RC K : nMd → Int32 → Int32 → Int32 → Int32 → Int32 → Int32 → Int32 → Option (Int32 × nMd)), (∀ (m : nMd) (u1 : Int32) (u2 : Int32) (u3 : Int32) (u4 : Int32) (u5 : Int32) (u6 : Int32) (u7 : Int32), RC m u1 u2 u3 u4 u5 u6 u7 = some q → ∀ (H : Heap) (locs : List Loc) (ls : Array Slot), nn_W D cy ad A ss.heap (sM σ m) H locs → lv_has ls 9 [(0, .ref (ad (136))), (1, .int (u1)), (2, .int (u2)), (3, .int (u3)), (4, .int (u4)), (5, .int (u5)), (6, .int (u6)), (7, .int (u7))] → W pp l ee (nn_R 4) ss mm ([.ref (ad (136)), .int (a1), .int (a2)] : List Value).toArray bb me co H locs 0 0 (MQ bb (nn_qi D cy ad A q.1 σ') ([.ref (ad (136)), .int (a1), .int (a2)] : List Value).toArray ss 0 0 A) (F0 mm 55 ls [])) → (∀ (m : nMd) (u1 : Int32) (u2 : Int32) (u3 : Int32) (u4 : Int32) (u5 : Int32) (u6 : Int32) (u7 : Int32), K m u1 u2 u3 u4 u5 u6 u7 = some q → ∀ (H : Heap) (locs : List Loc) (ls : Array Slot), nn_W D cy ad A ss.heap (sM σ m) H locs → lv_has ls 9 [(0, .ref (ad (136))), (1, .int (u1)), (2, .int (u2)), (3, .int (u3)), (4, .int (u4)), (5, .int (u5)), (6, .int (u6)), (7, .int (u7))] → W pp l ee (nn_R 4) ss mm ([.ref (ad (136)), .int (a1), .int (a2)] : List Value).toArray bb me co H locs 0 0 (MQ bb (nn_qi D cy ad A q.1 σ') ([.ref (ad (136)), .int (a1), .int (a2)] : List Value).toArray ss 0 0 A) (F0 mm 135 ls [])) → f_X7_fog_J99 m u1 u2 u3 u4 u5 u7 u8 s0 s1 RC K = some q → ∀ (H : Heap) (locs : List Loc) (ls : Array Slot), nn_W D cy ad A ss.heap (sM σ m) H locs → lv_has ls 9 [(0, .ref (ad (136))), (1, .int (u1)), (2, .int (u2)), (3, .int (u3)), (4, .int (u4)), (5, .int (u5)), (7, .int (u7)), (8, .int (u8))] → W pp l ee (nn_R 4) ss mm ([.ref (ad (136)), .int (a1), .int (a2)] : List Value).toArray bb me co H locs 0 0 (MQ bb (nn_qi D cy ad A q.1 σ') ([.ref (ad (136)), .int (a1), .int (a2)] : List Value).toArray ss 0 0 A) (F0 mm 99 ls [.int (s0), .int (s1)]) := by
    intro m u1 u2 u3 u4 u5 u7 u8 s0 s1 RC K hRC hKK hf H locs ls hw hl
    unfold f_X7_fog_J99 at hf
    refine lv_imul hx hb dX7_fog_99 ?_
    refine lv_istore (lv' := [(6, .int (s1 * s0)), (0, .ref (ad (136))), (1, .int (u1)), (2, .int (u2)), (3, .int (u3)), (4, .int (u4)), (5, .int (u5)), (7, .int (u7)), (8, .int (u8))]) hx hb dX7_fog_100 hl (by decide) rfl (fun ls hl => ?_)
    refine lv_aload_n hx hb dX7_fog_102 rfl (lv_at hl 1 rfl) ?_
    refine lv_iload hx hb dX7_fog_103 (lv_at hl 7 rfl) ?_
    refine lv_iconst (v := 1) hx hb dX7_fog_105 (by decide) ?_
    refine lv_aload_n hx hb dX7_fog_106 rfl (lv_at hl 1 rfl) ?_
    refine lv_iload hx hb dX7_fog_107 (lv_at hl 7 rfl) ?_
    obtain ⟨q_13, h_14, hf⟩ := nn_bind hf
    refine nn_calliV S (As := [.int (u7)]) (rest := [.int ((1 : Int32)), .int (u7), .ref (ad (136))]) (ce_M (k := 0)) (by decide) rfl rfl (c_X7_minuteOf l D cy ad A (sM σ m) m rfl u7 q_13 h_14) mv_X7_minuteOf tb_4_8 hK hw ⟨Nat.le_of_ble_eq_true rfl, Nat.le_of_ble_eq_true rfl⟩ ⟨Nat.zero_le _, Nat.zero_le _⟩ rfl hl.1 rfl (Nat.le_of_ble_eq_true rfl) dX7_fog_109 (fun H locs hw => ?_)
    refine lv_iload hx hb dX7_fog_112 (lv_at hl 8 rfl) ?_
    refine lv_if_eq (tgt := 121) hx hb dX7_fog_114 (by decide) (fun c_15 => ?_) (fun c_15 => ?_)
    · rw [if_pos c_15] at hf
      refine lv_iconst (v := 0) hx hb dX7_fog_121 (by decide) ?_
      refine lv_iadd hx hb dX7_fog_122 ?_
      obtain ⟨q_16, h_17, hf⟩ := nn_bind hf
      refine nn_calliS S (As := [.int (q_13 + (0 : Int32))]) (rest := [.int ((1 : Int32)), .int (u7), .ref (ad (136))]) (c_X7_round l D cy ad A (sM σ m) (q_13 + (0 : Int32)) q_16 h_17) mv_X7_round tb_4_15 hK hw ⟨Nat.le_of_ble_eq_true rfl, Nat.le_of_ble_eq_true rfl⟩ ⟨Nat.zero_le _, Nat.zero_le _⟩ rfl hl.1 rfl (Nat.le_of_ble_eq_true rfl) dX7_fog_123 (fun H locs hw => ?_)
      obtain ⟨q_18, h_19, hf⟩ := nn_bind hf
      refine nn_callvV S (As := [.int (u7), .int ((1 : Int32)), .int (q_16)]) (rest := []) (ce_M (k := 0)) (by decide) rfl rfl (c_X7_tells l D cy ad A (sM σ m) m rfl u7 (1 : Int32) q_16 q_18 h_19 (sM σ q_18) rfl) mv_X7_tells tb_3_224 hK hw ⟨Nat.le_of_ble_eq_true rfl, Nat.le_of_ble_eq_true rfl⟩ ⟨Nat.zero_le _, Nat.zero_le _⟩ rfl hl.1 rfl (Nat.le_of_ble_eq_true rfl) dX7_fog_126 (fun H locs hw => ?_)
      refine lv_iinc (v := u7 + (1 : Int32)) (lv' := [(7, .int (u7 + (1 : Int32))), (6, .int (s1 * s0)), (0, .ref (ad (136))), (1, .int (u1)), (2, .int (u2)), (3, .int (u3)), (4, .int (u4)), (5, .int (u5)), (8, .int (u8))]) hx hb dX7_fog_129 hl (k := 7) rfl (congrArg (fun z => u7 + z) (by decide)) (by decide) rfl (fun ls hl => ?_)
      refine lv_goto (tgt := 55) hx hb dX7_fog_132 (by decide) ?_
      exact hRC q_18 u1 u2 u3 u4 u5 (s1 * s0) (u7 + (1 : Int32)) hf _ _ _ hw (lv_sub hl [2, 3, 4, 5, 6, 7, 1, 0] rfl)
    · rw [if_neg c_15] at hf
      refine lv_iconst (v := 1) hx hb dX7_fog_117 (by decide) ?_
      refine lv_goto (tgt := 122) hx hb dX7_fog_118 (by decide) ?_
      refine lv_iadd hx hb dX7_fog_122 ?_
      obtain ⟨q_20, h_21, hf⟩ := nn_bind hf
      refine nn_calliS S (As := [.int (q_13 + (1 : Int32))]) (rest := [.int ((1 : Int32)), .int (u7), .ref (ad (136))]) (c_X7_round l D cy ad A (sM σ m) (q_13 + (1 : Int32)) q_20 h_21) mv_X7_round tb_4_15 hK hw ⟨Nat.le_of_ble_eq_true rfl, Nat.le_of_ble_eq_true rfl⟩ ⟨Nat.zero_le _, Nat.zero_le _⟩ rfl hl.1 rfl (Nat.le_of_ble_eq_true rfl) dX7_fog_123 (fun H locs hw => ?_)
      obtain ⟨q_22, h_23, hf⟩ := nn_bind hf
      refine nn_callvV S (As := [.int (u7), .int ((1 : Int32)), .int (q_20)]) (rest := []) (ce_M (k := 0)) (by decide) rfl rfl (c_X7_tells l D cy ad A (sM σ m) m rfl u7 (1 : Int32) q_20 q_22 h_23 (sM σ q_22) rfl) mv_X7_tells tb_3_224 hK hw ⟨Nat.le_of_ble_eq_true rfl, Nat.le_of_ble_eq_true rfl⟩ ⟨Nat.zero_le _, Nat.zero_le _⟩ rfl hl.1 rfl (Nat.le_of_ble_eq_true rfl) dX7_fog_126 (fun H locs hw => ?_)
      refine lv_iinc (v := u7 + (1 : Int32)) (lv' := [(7, .int (u7 + (1 : Int32))), (6, .int (s1 * s0)), (0, .ref (ad (136))), (1, .int (u1)), (2, .int (u2)), (3, .int (u3)), (4, .int (u4)), (5, .int (u5)), (8, .int (u8))]) hx hb dX7_fog_129 hl (k := 7) rfl (congrArg (fun z => u7 + z) (by decide)) (by decide) rfl (fun ls hl => ?_)
      refine lv_goto (tgt := 55) hx hb dX7_fog_132 (by decide) ?_
      exact hRC q_22 u1 u2 u3 u4 u5 (s1 * s0) (u7 + (1 : Int32)) hf _ _ _ hw (lv_sub hl [2, 3, 4, 5, 6, 7, 1, 0] rfl)
  have J82 : ∀ (m : nMd) (u1 : Int32) (u2 : Int32) (u3 : Int32) (u4 : Int32) (u5 : Int32) (u6 : Int32) (u7 : Int32) (s0 : Int32) (RC K : nMd → Int32 → Int32 → Int32 → Int32 → Int32 → Int32 → Int32 → Option (Int32 × nMd)), (∀ (m : nMd) (u1 : Int32) (u2 : Int32) (u3 : Int32) (u4 : Int32) (u5 : Int32) (u6 : Int32) (u7 : Int32), RC m u1 u2 u3 u4 u5 u6 u7 = some q → ∀ (H : Heap) (locs : List Loc) (ls : Array Slot), nn_W D cy ad A ss.heap (sM σ m) H locs → lv_has ls 9 [(0, .ref (ad (136))), (1, .int (u1)), (2, .int (u2)), (3, .int (u3)), (4, .int (u4)), (5, .int (u5)), (6, .int (u6)), (7, .int (u7))] → W pp l ee (nn_R 4) ss mm ([.ref (ad (136)), .int (a1), .int (a2)] : List Value).toArray bb me co H locs 0 0 (MQ bb (nn_qi D cy ad A q.1 σ') ([.ref (ad (136)), .int (a1), .int (a2)] : List Value).toArray ss 0 0 A) (F0 mm 55 ls [])) → (∀ (m : nMd) (u1 : Int32) (u2 : Int32) (u3 : Int32) (u4 : Int32) (u5 : Int32) (u6 : Int32) (u7 : Int32), K m u1 u2 u3 u4 u5 u6 u7 = some q → ∀ (H : Heap) (locs : List Loc) (ls : Array Slot), nn_W D cy ad A ss.heap (sM σ m) H locs → lv_has ls 9 [(0, .ref (ad (136))), (1, .int (u1)), (2, .int (u2)), (3, .int (u3)), (4, .int (u4)), (5, .int (u5)), (6, .int (u6)), (7, .int (u7))] → W pp l ee (nn_R 4) ss mm ([.ref (ad (136)), .int (a1), .int (a2)] : List Value).toArray bb me co H locs 0 0 (MQ bb (nn_qi D cy ad A q.1 σ') ([.ref (ad (136)), .int (a1), .int (a2)] : List Value).toArray ss 0 0 A) (F0 mm 135 ls [])) → f_X7_fog_J82 m u1 u2 u3 u4 u5 u6 u7 s0 RC K = some q → ∀ (H : Heap) (locs : List Loc) (ls : Array Slot), nn_W D cy ad A ss.heap (sM σ m) H locs → lv_has ls 9 [(0, .ref (ad (136))), (1, .int (u1)), (2, .int (u2)), (3, .int (u3)), (4, .int (u4)), (5, .int (u5)), (6, .int (u6)), (7, .int (u7))] → W pp l ee (nn_R 4) ss mm ([.ref (ad (136)), .int (a1), .int (a2)] : List Value).toArray bb me co H locs 0 0 (MQ bb (nn_qi D cy ad A q.1 σ') ([.ref (ad (136)), .int (a1), .int (a2)] : List Value).toArray ss 0 0 A) (F0 mm 82 ls [.int (s0)]) := by
    intro m u1 u2 u3 u4 u5 u6 u7 s0 RC K hRC hKK hf H locs ls hw hl
    unfold f_X7_fog_J82 at hf
    refine lv_istore (lv' := [(8, .int (s0)), (0, .ref (ad (136))), (1, .int (u1)), (2, .int (u2)), (3, .int (u3)), (4, .int (u4)), (5, .int (u5)), (6, .int (u6)), (7, .int (u7))]) hx hb dX7_fog_82 hl (by decide) rfl (fun ls hl => ?_)
    refine lv_iload hx hb dX7_fog_84 (lv_at hl 7 rfl) ?_
    refine lv_iload hx hb dX7_fog_86 (lv_at hl 0 rfl) ?_
    refine lv_if_eq (tgt := 95) hx hb dX7_fog_88 (by decide) (fun c_12 => ?_) (fun c_12 => ?_)
    · rw [if_pos c_12] at hf
      refine lv_bipush (v := 10) hx hb dX7_fog_95 (by decide) ?_
      refine lv_iload_n hx hb dX7_fog_97 rfl (lv_at hl 2 rfl) ?_
      refine lv_isub hx hb dX7_fog_98 ?_
      exact J99 m u1 u2 u3 u4 u5 u7 s0 ((10 : Int32) - u1) u6 RC K hRC hKK hf _ _ _ hw (lv_sub hl [1, 2, 3, 4, 5, 6, 8, 0] rfl)
    · rw [if_neg c_12] at hf
      refine lv_iload_n hx hb dX7_fog_91 rfl (lv_at hl 2 rfl) ?_
      refine lv_goto (tgt := 99) hx hb dX7_fog_92 (by decide) ?_
      exact J99 m u1 u2 u3 u4 u5 u7 s0 u1 u6 RC K hRC hKK hf _ _ _ hw (lv_sub hl [1, 2, 3, 4, 5, 6, 8, 0] rfl)
  have L55 : ∀ (n : Nat) (m : nMd) (u1 : Int32) (u2 : Int32) (u3 : Int32) (u4 : Int32) (u5 : Int32) (u6 : Int32) (u7 : Int32) (K : nMd → Int32 → Int32 → Int32 → Int32 → Int32 → Int32 → Int32 → Option (Int32 × nMd)), (∀ (m : nMd) (u1 : Int32) (u2 : Int32) (u3 : Int32) (u4 : Int32) (u5 : Int32) (u6 : Int32) (u7 : Int32), K m u1 u2 u3 u4 u5 u6 u7 = some q → ∀ (H : Heap) (locs : List Loc) (ls : Array Slot), nn_W D cy ad A ss.heap (sM σ m) H locs → lv_has ls 9 [(0, .ref (ad (136))), (1, .int (u1)), (2, .int (u2)), (3, .int (u3)), (4, .int (u4)), (5, .int (u5)), (6, .int (u6)), (7, .int (u7))] → W pp l ee (nn_R 4) ss mm ([.ref (ad (136)), .int (a1), .int (a2)] : List Value).toArray bb me co H locs 0 0 (MQ bb (nn_qi D cy ad A q.1 σ') ([.ref (ad (136)), .int (a1), .int (a2)] : List Value).toArray ss 0 0 A) (F0 mm 135 ls [])) → f_X7_fog_L55 n m u1 u2 u3 u4 u5 u6 u7 K = some q → ∀ (H : Heap) (locs : List Loc) (ls : Array Slot), nn_W D cy ad A ss.heap (sM σ m) H locs → lv_has ls 9 [(0, .ref (ad (136))), (1, .int (u1)), (2, .int (u2)), (3, .int (u3)), (4, .int (u4)), (5, .int (u5)), (6, .int (u6)), (7, .int (u7))] → W pp l ee (nn_R 4) ss mm ([.ref (ad (136)), .int (a1), .int (a2)] : List Value).toArray bb me co H locs 0 0 (MQ bb (nn_qi D cy ad A q.1 σ') ([.ref (ad (136)), .int (a1), .int (a2)] : List Value).toArray ss 0 0 A) (F0 mm 55 ls []) := by
    intro n
    induction n with
    | zero => intro m u1 u2 u3 u4 u5 u6 u7 K hKK hf; exact absurd hf (by simp [f_X7_fog_L55])
    | succ n ih =>
      intro m u1 u2 u3 u4 u5 u6 u7 K hKK hf H locs ls hw hl
      rw [f_X7_fog_L55] at hf
      refine lv_iload hx hb dX7_fog_55 (lv_at hl 7 rfl) ?_
      refine lv_aload_n hx hb dX7_fog_57 rfl (lv_at hl 0 rfl) ?_
      refine gf_Md_now S hK hw tb_3_145 dX7_fog_58 ?_
      refine lv_iconst (v := 0) hx hb dX7_fog_61 (by decide) ?_
      refine al_Md_now S hK hw (x := m) rfl (by decide) dX7_fog_62 ?_
      refine lv_icmp_ge (tgt := 135) hx hb dX7_fog_63 (by decide) (fun c_10 => ?_) (fun c_10 => ?_)
      · rw [if_pos c_10] at hf
        exact hKK m u1 u2 u3 u4 u5 u6 u7 hf _ _ _ hw (lv_sub hl [0, 1, 2, 3, 4, 5, 6, 7] rfl)
      · rw [if_neg c_10] at hf
        refine lv_iload hx hb dX7_fog_66 (lv_at hl 5 rfl) ?_
        refine lv_iload hx hb dX7_fog_68 (lv_at hl 7 rfl) ?_
        refine lv_ishr hx hb dX7_fog_70 ?_
        refine lv_iconst (v := 1) hx hb dX7_fog_71 (by decide) ?_
        refine lv_iand hx hb dX7_fog_72 ?_
        refine lv_iconst (v := 1) hx hb dX7_fog_73 (by decide) ?_
        refine lv_icmp_ne (tgt := 81) hx hb dX7_fog_74 (by decide) (fun c_11 => ?_) (fun c_11 => ?_)
        · rw [if_neg c_11] at hf
          refine lv_iconst (v := 0) hx hb dX7_fog_81 (by decide) ?_
          exact J82 m u1 u2 u3 u4 u5 u6 u7 (0 : Int32) _ K (fun m u1 u2 u3 u4 u5 u6 u7 hf H locs ls hw hl => ih m u1 u2 u3 u4 u5 u6 u7 K hKK hf H locs ls hw hl) hKK hf _ _ _ hw (lv_sub hl [0, 1, 2, 3, 4, 5, 6, 7] rfl)
        · rw [if_pos c_11] at hf
          refine lv_iconst (v := 1) hx hb dX7_fog_77 (by decide) ?_
          refine lv_goto (tgt := 82) hx hb dX7_fog_78 (by decide) ?_
          exact J82 m u1 u2 u3 u4 u5 u6 u7 (1 : Int32) _ K (fun m u1 u2 u3 u4 u5 u6 u7 hf H locs ls hw hl => ih m u1 u2 u3 u4 u5 u6 u7 K hKK hf H locs ls hw hl) hKK hf _ _ _ hw (lv_sub hl [0, 1, 2, 3, 4, 5, 6, 7] rfl)
  have L36 : ∀ (n : Nat) (m : nMd) (u1 : Int32) (u2 : Int32) (u3 : Int32) (u4 : Int32) (u5 : Int32) (K : nMd → Int32 → Int32 → Int32 → Int32 → Int32 → Option (Int32 × nMd)), (∀ (m : nMd) (u1 : Int32) (u2 : Int32) (u3 : Int32) (u4 : Int32) (u5 : Int32), K m u1 u2 u3 u4 u5 = some q → ∀ (H : Heap) (locs : List Loc) (ls : Array Slot), nn_W D cy ad A ss.heap (sM σ m) H locs → lv_has ls 9 [(0, .ref (ad (136))), (1, .int (u1)), (2, .int (u2)), (3, .int (u3)), (4, .int (u4)), (5, .int (u5))] → W pp l ee (nn_R 4) ss mm ([.ref (ad (136)), .int (a1), .int (a2)] : List Value).toArray bb me co H locs 0 0 (MQ bb (nn_qi D cy ad A q.1 σ') ([.ref (ad (136)), .int (a1), .int (a2)] : List Value).toArray ss 0 0 A) (F0 mm 168 ls [])) → f_X7_fog_L36 n m u1 u2 u3 u4 u5 K = some q → ∀ (H : Heap) (locs : List Loc) (ls : Array Slot), nn_W D cy ad A ss.heap (sM σ m) H locs → lv_has ls 9 [(0, .ref (ad (136))), (1, .int (u1)), (2, .int (u2)), (3, .int (u3)), (4, .int (u4)), (5, .int (u5))] → W pp l ee (nn_R 4) ss mm ([.ref (ad (136)), .int (a1), .int (a2)] : List Value).toArray bb me co H locs 0 0 (MQ bb (nn_qi D cy ad A q.1 σ') ([.ref (ad (136)), .int (a1), .int (a2)] : List Value).toArray ss 0 0 A) (F0 mm 36 ls []) := by
    intro n
    induction n with
    | zero => intro m u1 u2 u3 u4 u5 K hKK hf; exact absurd hf (by simp [f_X7_fog_L36])
    | succ n ih =>
      intro m u1 u2 u3 u4 u5 K hKK hf H locs ls hw hl
      rw [f_X7_fog_L36] at hf
      refine lv_iload hx hb dX7_fog_36 (lv_at hl 5 rfl) ?_
      refine lv_iconst (v := 1) hx hb dX7_fog_38 (by decide) ?_
      refine lv_aload_n hx hb dX7_fog_39 rfl (lv_at hl 0 rfl) ?_
      refine gf_Md_now S hK hw tb_3_145 dX7_fog_40 ?_
      refine lv_iconst (v := 0) hx hb dX7_fog_43 (by decide) ?_
      refine al_Md_now S hK hw (x := m) rfl (by decide) dX7_fog_44 ?_
      refine lv_ishl hx hb dX7_fog_45 ?_
      refine lv_icmp_ge (tgt := 168) hx hb dX7_fog_46 (by decide) (fun c_9 => ?_) (fun c_9 => ?_)
      · rw [if_pos c_9] at hf
        exact hKK m u1 u2 u3 u4 u5 hf _ _ _ hw (lv_sub hl [0, 1, 2, 3, 4, 5] rfl)
      · rw [if_neg c_9] at hf
        refine lv_iconst (v := 1) hx hb dX7_fog_49 (by decide) ?_
        refine lv_istore (lv' := [(6, .int ((1 : Int32))), (0, .ref (ad (136))), (1, .int (u1)), (2, .int (u2)), (3, .int (u3)), (4, .int (u4)), (5, .int (u5))]) hx hb dX7_fog_50 hl (by decide) rfl (fun ls hl => ?_)
        refine lv_iconst (v := 0) hx hb dX7_fog_52 (by decide) ?_
        refine lv_istore (lv' := [(7, .int ((0 : Int32))), (6, .int ((1 : Int32))), (0, .ref (ad (136))), (1, .int (u1)), (2, .int (u2)), (3, .int (u3)), (4, .int (u4)), (5, .int (u5))]) hx hb dX7_fog_53 hl (by decide) rfl (fun ls hl => ?_)
        refine L55 100000 m u1 u2 u3 u4 u5 (1 : Int32) (0 : Int32) _ (fun m_31 b1_24 b2_25 b3_26 b4_27 b5_28 b6_29 b7_30 hf H locs ls hw hl => ?_) hf _ _ _ hw (lv_sub hl [2, 3, 4, 5, 6, 7, 1, 0] rfl)
        refine lv_iload hx hb dX7_fog_135 (lv_at hl 4 rfl) ?_
        refine lv_iload hx hb dX7_fog_137 (lv_at hl 6 rfl) ?_
        refine lv_iadd hx hb dX7_fog_139 ?_
        refine lv_istore (lv' := [(4, .int (b4_27 + b6_29)), (0, .ref (ad (136))), (1, .int (b1_24)), (2, .int (b2_25)), (3, .int (b3_26)), (5, .int (b5_28)), (6, .int (b6_29)), (7, .int (b7_30))]) hx hb dX7_fog_140 hl (by decide) rfl (fun ls hl => ?_)
        refine lv_iload_n hx hb dX7_fog_142 rfl (lv_at hl 4 rfl) ?_
        refine lv_aload_n hx hb dX7_fog_143 rfl (lv_at hl 1 rfl) ?_
        obtain ⟨q_32, h_33, hf⟩ := nn_bind hf
        refine nn_calliV S (As := []) (rest := [.int (b3_26)]) (ce_M (k := 0)) (by decide) rfl rfl (c_X7_allAlike l D cy ad A (sM σ m_31) m_31 rfl q_32 h_33) mv_X7_allAlike tb_4_42 hK hw ⟨Nat.le_of_ble_eq_true rfl, Nat.le_of_ble_eq_true rfl⟩ ⟨Nat.zero_le _, Nat.zero_le _⟩ rfl hl.1 rfl (Nat.le_of_ble_eq_true rfl) dX7_fog_144 (fun H locs hw => ?_)
        refine lv_if_ne (tgt := 155) hx hb dX7_fog_147 (by decide) (fun c_34 => ?_) (fun c_34 => ?_)
        · rw [if_neg c_34] at hf
          refine lv_iconst (v := 0) hx hb dX7_fog_155 (by decide) ?_
          refine lv_iadd hx hb dX7_fog_156 ?_
          refine lv_istore_n (lv' := [(3, .int (b3_26 + (0 : Int32))), (4, .int (b4_27 + b6_29)), (0, .ref (ad (136))), (1, .int (b1_24)), (2, .int (b2_25)), (5, .int (b5_28)), (6, .int (b6_29)), (7, .int (b7_30))]) hx hb dX7_fog_157 rfl hl (by decide) rfl (fun ls hl => ?_)
          refine lv_aload_n hx hb dX7_fog_158 rfl (lv_at hl 2 rfl) ?_
          obtain ⟨q_35, h_36, hf⟩ := nn_bind hf
          refine nn_callvV S (As := []) (rest := []) (ce_M (k := 0)) (by decide) rfl rfl (c_X7_backs l D cy ad A (sM σ m_31) m_31 rfl q_35 h_36 (sM σ q_35) rfl) mv_X7_backs tb_4_137 hK hw ⟨Nat.le_of_ble_eq_true rfl, Nat.le_of_ble_eq_true rfl⟩ ⟨Nat.zero_le _, Nat.zero_le _⟩ rfl hl.1 rfl (Nat.le_of_ble_eq_true rfl) dX7_fog_159 (fun H locs hw => ?_)
          refine lv_iinc (v := b5_28 + (1 : Int32)) (lv' := [(5, .int (b5_28 + (1 : Int32))), (3, .int (b3_26 + (0 : Int32))), (4, .int (b4_27 + b6_29)), (0, .ref (ad (136))), (1, .int (b1_24)), (2, .int (b2_25)), (6, .int (b6_29)), (7, .int (b7_30))]) hx hb dX7_fog_162 hl (k := 5) rfl (congrArg (fun z => b5_28 + z) (by decide)) (by decide) rfl (fun ls hl => ?_)
          refine lv_goto (tgt := 36) hx hb dX7_fog_165 (by decide) ?_
          exact ih q_35 b1_24 b2_25 (b3_26 + (0 : Int32)) (b4_27 + b6_29) (b5_28 + (1 : Int32)) K hKK hf _ _ _ hw (lv_sub hl [3, 4, 5, 1, 2, 0] rfl)
        · rw [if_pos c_34] at hf
          refine lv_iload hx hb dX7_fog_150 (lv_at hl 6 rfl) ?_
          refine lv_goto (tgt := 156) hx hb dX7_fog_152 (by decide) ?_
          refine lv_iadd hx hb dX7_fog_156 ?_
          refine lv_istore_n (lv' := [(3, .int (b3_26 + b6_29)), (4, .int (b4_27 + b6_29)), (0, .ref (ad (136))), (1, .int (b1_24)), (2, .int (b2_25)), (5, .int (b5_28)), (6, .int (b6_29)), (7, .int (b7_30))]) hx hb dX7_fog_157 rfl hl (by decide) rfl (fun ls hl => ?_)
          refine lv_aload_n hx hb dX7_fog_158 rfl (lv_at hl 2 rfl) ?_
          obtain ⟨q_37, h_38, hf⟩ := nn_bind hf
          refine nn_callvV S (As := []) (rest := []) (ce_M (k := 0)) (by decide) rfl rfl (c_X7_backs l D cy ad A (sM σ m_31) m_31 rfl q_37 h_38 (sM σ q_37) rfl) mv_X7_backs tb_4_137 hK hw ⟨Nat.le_of_ble_eq_true rfl, Nat.le_of_ble_eq_true rfl⟩ ⟨Nat.zero_le _, Nat.zero_le _⟩ rfl hl.1 rfl (Nat.le_of_ble_eq_true rfl) dX7_fog_159 (fun H locs hw => ?_)
          refine lv_iinc (v := b5_28 + (1 : Int32)) (lv' := [(5, .int (b5_28 + (1 : Int32))), (3, .int (b3_26 + b6_29)), (4, .int (b4_27 + b6_29)), (0, .ref (ad (136))), (1, .int (b1_24)), (2, .int (b2_25)), (6, .int (b6_29)), (7, .int (b7_30))]) hx hb dX7_fog_162 hl (k := 5) rfl (congrArg (fun z => b5_28 + z) (by decide)) (by decide) rfl (fun ls hl => ?_)
          refine lv_goto (tgt := 36) hx hb dX7_fog_165 (by decide) ?_
          exact ih q_37 b1_24 b2_25 (b3_26 + b6_29) (b4_27 + b6_29) (b5_28 + (1 : Int32)) K hKK hf _ _ _ hw (lv_sub hl [3, 4, 5, 1, 2, 0] rfl)
  have L175 : ∀ (n : Nat) (m : nMd) (u2 : Int32) (u3 : Int32) (u4 : Int32) (u5 : Int32) (u6 : Int32) (K : nMd → Int32 → Int32 → Int32 → Int32 → Int32 → Option (Int32 × nMd)), (∀ (m : nMd) (u2 : Int32) (u3 : Int32) (u4 : Int32) (u5 : Int32) (u6 : Int32), K m u2 u3 u4 u5 u6 = some q → ∀ (H : Heap) (locs : List Loc) (ls : Array Slot), nn_W D cy ad A ss.heap (sM σ m) H locs → lv_has ls 9 [(2, .int (u2)), (3, .int (u3)), (4, .int (u4)), (5, .int (u5)), (6, .int (u6))] → W pp l ee (nn_R 4) ss mm ([.ref (ad (136)), .int (a1), .int (a2)] : List Value).toArray bb me co H locs 0 0 (MQ bb (nn_qi D cy ad A q.1 σ') ([.ref (ad (136)), .int (a1), .int (a2)] : List Value).toArray ss 0 0 A) (F0 mm 198 ls [])) → f_X7_fog_L175 n m u2 u3 u4 u5 u6 K = some q → ∀ (H : Heap) (locs : List Loc) (ls : Array Slot), nn_W D cy ad A ss.heap (sM σ m) H locs → lv_has ls 9 [(2, .int (u2)), (3, .int (u3)), (4, .int (u4)), (5, .int (u5)), (6, .int (u6))] → W pp l ee (nn_R 4) ss mm ([.ref (ad (136)), .int (a1), .int (a2)] : List Value).toArray bb me co H locs 0 0 (MQ bb (nn_qi D cy ad A q.1 σ') ([.ref (ad (136)), .int (a1), .int (a2)] : List Value).toArray ss 0 0 A) (F0 mm 175 ls []) := by
    intro n
    induction n with
    | zero => intro m u2 u3 u4 u5 u6 K hKK hf; exact absurd hf (by simp [f_X7_fog_L175])
    | succ n ih =>
      intro m u2 u3 u4 u5 u6 K hKK hf H locs ls hw hl
      rw [f_X7_fog_L175] at hf
      refine lv_iload hx hb dX7_fog_175 (lv_at hl 4 rfl) ?_
      refine lv_if_eq (tgt := 198) hx hb dX7_fog_177 (by decide) (fun c_45 => ?_) (fun c_45 => ?_)
      · rw [if_pos c_45] at hf
        exact hKK m u2 u3 u4 u5 u6 hf _ _ _ hw (lv_sub hl [0, 1, 2, 3, 4] rfl)
      · rw [if_neg c_45] at hf
        refine lv_iload hx hb dX7_fog_180 (lv_at hl 3 rfl) ?_
        refine lv_iload hx hb dX7_fog_182 (lv_at hl 4 rfl) ?_
        obtain ⟨g_46, hf⟩ := nn_nz_some hf
        refine lv_irem hx hb dX7_fog_184 g_46 ?_
        refine lv_istore (lv' := [(7, .int (u5 - u5 / u6 * u6)), (2, .int (u2)), (3, .int (u3)), (4, .int (u4)), (5, .int (u5)), (6, .int (u6))]) hx hb dX7_fog_185 hl (by decide) rfl (fun ls hl => ?_)
        refine lv_iload hx hb dX7_fog_187 (lv_at hl 5 rfl) ?_
        refine lv_istore (lv' := [(5, .int (u6)), (7, .int (u5 - u5 / u6 * u6)), (2, .int (u2)), (3, .int (u3)), (4, .int (u4)), (6, .int (u6))]) hx hb dX7_fog_189 hl (by decide) rfl (fun ls hl => ?_)
        refine lv_iload hx hb dX7_fog_191 (lv_at hl 1 rfl) ?_
        refine lv_istore (lv' := [(6, .int (u5 - u5 / u6 * u6)), (5, .int (u6)), (7, .int (u5 - u5 / u6 * u6)), (2, .int (u2)), (3, .int (u3)), (4, .int (u4))]) hx hb dX7_fog_193 hl (by decide) rfl (fun ls hl => ?_)
        refine lv_goto (tgt := 175) hx hb dX7_fog_195 (by decide) ?_
        exact ih m u2 u3 u4 u6 (u5 - u5 / u6 * u6) K hKK hf _ _ _ hw (lv_sub hl [3, 4, 5, 1, 0] rfl)
  refine lv_iload_n hx hb dX7_fog_0 rfl (lv_at hl 1 rfl) ?_
  refine lv_i2l (v := a1.toInt64) hx hb dX7_fog_1 rfl ?_
  refine lv_lconst (v := 0) hx hb dX7_fog_2 (by decide) ?_
  refine lv_ldc2 (v := 10) hx hb S.2.2.2.1 (S.2.2.2.2 _ tb_4_202) dX7_fog_3 ?_
  obtain ⟨q_1, h_2, hf⟩ := nn_bind hf
  refine nn_calliS S (As := [.long (a1.toInt64), .long ((0 : Int64)), .long ((10 : Int64))]) (rest := []) (c_X7_in l D cy ad A (sM σ m) a1.toInt64 (0 : Int64) (10 : Int64) q_1 h_2) mv_X7_in tb_3_214 hK hw ⟨Nat.le_of_ble_eq_true rfl, Nat.le_of_ble_eq_true rfl⟩ ⟨Nat.zero_le _, Nat.zero_le _⟩ rfl hl.1 rfl (Nat.le_of_ble_eq_true rfl) dX7_fog_6 (fun H locs hw => ?_)
  refine lv_if_eq (tgt := 22) hx hb dX7_fog_9 (by decide) (fun c_3 => ?_) (fun c_3 => ?_)
  · rw [if_pos c_3] at hf
    refine lv_iconst (v := -1) hx hb dX7_fog_22 (by decide) ?_
    obtain rfl := Option.some.inj hf
    exact nn_iret S hr hlk hw rfl hσ dX7_fog_23
  · rw [if_neg c_3] at hf
    refine lv_iload_n hx hb dX7_fog_12 rfl (lv_at hl 2 rfl) ?_
    refine lv_i2l (v := a2.toInt64) hx hb dX7_fog_13 rfl ?_
    refine lv_lconst (v := 0) hx hb dX7_fog_14 (by decide) ?_
    refine lv_lconst (v := 1) hx hb dX7_fog_15 (by decide) ?_
    obtain ⟨q_4, h_5, hf⟩ := nn_bind hf
    refine nn_calliS S (As := [.long (a2.toInt64), .long ((0 : Int64)), .long ((1 : Int64))]) (rest := []) (c_X7_in l D cy ad A (sM σ m) a2.toInt64 (0 : Int64) (1 : Int64) q_4 h_5) mv_X7_in tb_3_214 hK hw ⟨Nat.le_of_ble_eq_true rfl, Nat.le_of_ble_eq_true rfl⟩ ⟨Nat.zero_le _, Nat.zero_le _⟩ rfl hl.1 rfl (Nat.le_of_ble_eq_true rfl) dX7_fog_16 (fun H locs hw => ?_)
    refine lv_if_ne (tgt := 24) hx hb dX7_fog_19 (by decide) (fun c_6 => ?_) (fun c_6 => ?_)
    · rw [if_neg c_6] at hf
      refine lv_iconst (v := 0) hx hb dX7_fog_24 (by decide) ?_
      refine lv_istore_n (lv' := [(3, .int ((0 : Int32))), (0, .ref (ad (136))), (1, .int (a1)), (2, .int (a2))]) hx hb dX7_fog_25 rfl hl (by decide) rfl (fun ls hl => ?_)
      refine lv_iconst (v := 0) hx hb dX7_fog_26 (by decide) ?_
      refine lv_istore (lv' := [(4, .int ((0 : Int32))), (3, .int ((0 : Int32))), (0, .ref (ad (136))), (1, .int (a1)), (2, .int (a2))]) hx hb dX7_fog_27 hl (by decide) rfl (fun ls hl => ?_)
      refine lv_aload_n hx hb dX7_fog_29 rfl (lv_at hl 2 rfl) ?_
      obtain ⟨q_7, h_8, hf⟩ := nn_bind hf
      refine nn_callvV S (As := []) (rest := []) (ce_M (k := 0)) (by decide) rfl rfl (c_X7_asides l D cy ad A (sM σ m) m rfl q_7 h_8 (sM σ q_7) rfl) mv_X7_asides tb_4_129 hK hw ⟨Nat.le_of_ble_eq_true rfl, Nat.le_of_ble_eq_true rfl⟩ ⟨Nat.zero_le _, Nat.zero_le _⟩ rfl hl.1 rfl (Nat.le_of_ble_eq_true rfl) dX7_fog_30 (fun H locs hw => ?_)
      refine lv_iconst (v := 0) hx hb dX7_fog_33 (by decide) ?_
      refine lv_istore (lv' := [(5, .int ((0 : Int32))), (4, .int ((0 : Int32))), (3, .int ((0 : Int32))), (0, .ref (ad (136))), (1, .int (a1)), (2, .int (a2))]) hx hb dX7_fog_34 hl (by decide) rfl (fun ls hl => ?_)
      refine L36 100000 q_7 a1 a2 (0 : Int32) (0 : Int32) (0 : Int32) _ (fun m_44 b1_39 b2_40 b3_41 b4_42 b5_43 hf H locs ls hw hl => ?_) hf _ _ _ hw (lv_sub hl [3, 4, 5, 2, 1, 0] rfl)
      refine lv_iload_n hx hb dX7_fog_168 rfl (lv_at hl 3 rfl) ?_
      refine lv_istore (lv' := [(5, .int (b3_41)), (0, .ref (ad (136))), (1, .int (b1_39)), (2, .int (b2_40)), (3, .int (b3_41)), (4, .int (b4_42))]) hx hb dX7_fog_169 hl (by decide) rfl (fun ls hl => ?_)
      refine lv_iload hx hb dX7_fog_171 (lv_at hl 5 rfl) ?_
      refine lv_istore (lv' := [(6, .int (b4_42)), (5, .int (b3_41)), (0, .ref (ad (136))), (1, .int (b1_39)), (2, .int (b2_40)), (3, .int (b3_41)), (4, .int (b4_42))]) hx hb dX7_fog_173 hl (by decide) rfl (fun ls hl => ?_)
      refine L175 100000 m_44 b2_40 b3_41 b4_42 b3_41 b4_42 _ (fun m_52 b2_47 b3_48 b4_49 b5_50 b6_51 hf H locs ls hw hl => ?_) hf _ _ _ hw (lv_sub hl [4, 5, 6, 1, 0] rfl)
      refine lv_iload_n hx hb dX7_fog_198 rfl (lv_at hl 0 rfl) ?_
      refine lv_if_ne (tgt := 209) hx hb dX7_fog_199 (by decide) (fun c_53 => ?_) (fun c_53 => ?_)
      · rw [if_neg c_53] at hf
        refine lv_iload hx hb dX7_fog_209 (lv_at hl 2 rfl) ?_
        refine lv_iload hx hb dX7_fog_211 (lv_at hl 3 rfl) ?_
        obtain ⟨g_54, hf⟩ := nn_nz_some hf
        refine lv_idiv hx hb dX7_fog_213 g_54 ?_
        obtain rfl := Option.some.inj hf
        exact nn_iret S hr hlk hw rfl hσ dX7_fog_214
      · rw [if_pos c_53] at hf
        refine lv_iload_n hx hb dX7_fog_202 rfl (lv_at hl 1 rfl) ?_
        refine lv_iload hx hb dX7_fog_203 (lv_at hl 3 rfl) ?_
        obtain ⟨g_55, hf⟩ := nn_nz_some hf
        refine lv_idiv hx hb dX7_fog_205 g_55 ?_
        refine lv_goto (tgt := 214) hx hb dX7_fog_206 (by decide) ?_
        obtain rfl := Option.some.inj hf
        exact nn_iret S hr hlk hw rfl hσ dX7_fog_214
    · rw [if_pos c_6] at hf
      refine lv_iconst (v := -1) hx hb dX7_fog_22 (by decide) ?_
      obtain rfl := Option.some.inj hf
      exact nn_iret S hr hlk hw rfl hσ dX7_fog_23
set_option maxRecDepth 100000 in
set_option maxHeartbeats 4000000 in
theorem c_X7_image (l : Launch) (D : va_G) (cy : Nat → ClassId) (ad : Nat → Nat) (A : Nat → Prop) (σ : nG) (m : nMd) (hx_M : gM σ = m) (q : Int32 × nMd) (hf : f_X7_image m = some q) (σ' : nG) (hσ : (sM σ q.2) = σ') : nn_I l yX7_image (nn_ws yX7_image cX7_image 2 (some .int)) (nn_R 0) D cy ad A [.ref (ad (136))] σ q.1 σ' := by
  refine nn_enterI (plainFor_of_name (by decide +kernel)) (Nat.le_of_ble_eq_true rfl) (lv := [(0, .ref (ad (136)))]) rfl ?_
  intro pp ee ss mm bb me co S hr hlk hK hw ls hl
  have hx := S.1
  have hb := S.2.1
  have hw : nn_W D cy ad A ss.heap (sM σ m) ss.heap [] := nn_W.eq (by rw [← hx_M]; rfl) hw
  unfold f_X7_image at hf
  have L2 : ∀ (n : Nat) (m : nMd) (u1 : Int32) (K : nMd → Int32 → Option (Int32 × nMd)), (∀ (m : nMd) (u1 : Int32), K m u1 = some q → ∀ (H : Heap) (locs : List Loc) (ls : Array Slot), nn_W D cy ad A ss.heap (sM σ m) H locs → lv_has ls 2 [(0, .ref (ad (136))), (1, .int (u1))] → W pp l ee (nn_R 0) ss mm ([.ref (ad (136))] : List Value).toArray bb me co H locs 0 0 (MQ bb (nn_qi D cy ad A q.1 σ') ([.ref (ad (136))] : List Value).toArray ss 0 0 A) (F0 mm 26 ls [])) → f_X7_image_L2 n m u1 K = some q → ∀ (H : Heap) (locs : List Loc) (ls : Array Slot), nn_W D cy ad A ss.heap (sM σ m) H locs → lv_has ls 2 [(0, .ref (ad (136))), (1, .int (u1))] → W pp l ee (nn_R 0) ss mm ([.ref (ad (136))] : List Value).toArray bb me co H locs 0 0 (MQ bb (nn_qi D cy ad A q.1 σ') ([.ref (ad (136))] : List Value).toArray ss 0 0 A) (F0 mm 2 ls []) := by
    intro n
    induction n with
    | zero => intro m u1 K hKK hf; exact absurd hf (by simp [f_X7_image_L2])
    | succ n ih =>
      intro m u1 K hKK hf H locs ls hw hl
      rw [f_X7_image_L2] at hf
      refine lv_iload_n hx hb dX7_image_2 rfl (lv_at hl 1 rfl) ?_
      refine lv_bipush (v := 27) hx hb dX7_image_3 (by decide) ?_
      refine lv_icmp_ge (tgt := 26) hx hb dX7_image_5 (by decide) (fun c_1 => ?_) (fun c_1 => ?_)
      · rw [if_pos c_1] at hf
        exact hKK m u1 hf _ _ _ hw (lv_sub hl [0, 1] rfl)
      · rw [if_neg c_1] at hf
        refine lv_aload_n hx hb dX7_image_8 rfl (lv_at hl 0 rfl) ?_
        refine gf_Md_kept S hK hw tb_3_159 dX7_image_9 ?_
        refine lv_iload_n hx hb dX7_image_12 rfl (lv_at hl 1 rfl) ?_
        refine lv_aload_n hx hb dX7_image_13 rfl (lv_at hl 0 rfl) ?_
        refine gf_Md_now S hK hw tb_3_145 dX7_image_14 ?_
        refine lv_iload_n hx hb dX7_image_17 rfl (lv_at hl 1 rfl) ?_
        obtain ⟨g_2, hf⟩ := nn_ix_some hf
        refine al_Md_now S hK hw (x := m) rfl g_2 dX7_image_18 ?_
        obtain ⟨g_3, hf⟩ := nn_ix_some hf
        obtain ⟨m_4, h_5, hf⟩ := nn_bind hf
        replace h_5 := Option.some.inj h_5
        refine as_Md_kept S hK hw (x := m) rfl g_3 (τ' := (sM σ m_4)) ((rfl : _ = (sM σ (s_Md_kept m (upd (g_Md_kept m) u1.toNatClampNeg ((g_Md_now m) u1.toNatClampNeg))))).trans (by rw [h_5])) dX7_image_19 (fun H locs hw => ?_)
        refine lv_iinc (v := u1 + (1 : Int32)) (lv' := [(1, .int (u1 + (1 : Int32))), (0, .ref (ad (136)))]) hx hb dX7_image_20 hl (k := 1) rfl (congrArg (fun z => u1 + z) (by decide)) (by decide) rfl (fun ls hl => ?_)
        refine lv_goto (tgt := 2) hx hb dX7_image_23 (by decide) ?_
        exact ih m_4 (u1 + (1 : Int32)) K hKK hf _ _ _ hw (lv_sub hl [1, 0] rfl)
  have L28 : ∀ (n : Nat) (m : nMd) (u1 : Int32) (K : nMd → Int32 → Option (Int32 × nMd)), (∀ (m : nMd) (u1 : Int32), K m u1 = some q → ∀ (H : Heap) (locs : List Loc) (ls : Array Slot), nn_W D cy ad A ss.heap (sM σ m) H locs → lv_has ls 2 [(0, .ref (ad (136))), (1, .int (u1))] → W pp l ee (nn_R 0) ss mm ([.ref (ad (136))] : List Value).toArray bb me co H locs 0 0 (MQ bb (nn_qi D cy ad A q.1 σ') ([.ref (ad (136))] : List Value).toArray ss 0 0 A) (F0 mm 56 ls [])) → f_X7_image_L28 n m u1 K = some q → ∀ (H : Heap) (locs : List Loc) (ls : Array Slot), nn_W D cy ad A ss.heap (sM σ m) H locs → lv_has ls 2 [(0, .ref (ad (136))), (1, .int (u1))] → W pp l ee (nn_R 0) ss mm ([.ref (ad (136))] : List Value).toArray bb me co H locs 0 0 (MQ bb (nn_qi D cy ad A q.1 σ') ([.ref (ad (136))] : List Value).toArray ss 0 0 A) (F0 mm 28 ls []) := by
    intro n
    induction n with
    | zero => intro m u1 K hKK hf; exact absurd hf (by simp [f_X7_image_L28])
    | succ n ih =>
      intro m u1 K hKK hf H locs ls hw hl
      rw [f_X7_image_L28] at hf
      refine lv_iload_n hx hb dX7_image_28 rfl (lv_at hl 1 rfl) ?_
      refine lv_sipush (v := 216) hx hb dX7_image_29 (by decide) ?_
      refine lv_icmp_ge (tgt := 56) hx hb dX7_image_32 (by decide) (fun c_8 => ?_) (fun c_8 => ?_)
      · rw [if_pos c_8] at hf
        exact hKK m u1 hf _ _ _ hw (lv_sub hl [0, 1] rfl)
      · rw [if_neg c_8] at hf
        refine lv_aload_n hx hb dX7_image_35 rfl (lv_at hl 0 rfl) ?_
        refine gf_Md_kept S hK hw tb_3_159 dX7_image_36 ?_
        refine lv_bipush (v := 27) hx hb dX7_image_39 (by decide) ?_
        refine lv_iload_n hx hb dX7_image_41 rfl (lv_at hl 1 rfl) ?_
        refine lv_iadd hx hb dX7_image_42 ?_
        refine lv_aload_n hx hb dX7_image_43 rfl (lv_at hl 0 rfl) ?_
        refine gf_Md_undone S hK hw tb_3_152 dX7_image_44 ?_
        refine lv_iload_n hx hb dX7_image_47 rfl (lv_at hl 1 rfl) ?_
        obtain ⟨g_9, hf⟩ := nn_ix_some hf
        refine al_Md_undone S hK hw (x := m) rfl g_9 dX7_image_48 ?_
        obtain ⟨g_10, hf⟩ := nn_ix_some hf
        obtain ⟨m_11, h_12, hf⟩ := nn_bind hf
        replace h_12 := Option.some.inj h_12
        refine as_Md_kept S hK hw (x := m) rfl g_10 (τ' := (sM σ m_11)) ((rfl : _ = (sM σ (s_Md_kept m (upd (g_Md_kept m) ((27 : Int32) + u1).toNatClampNeg ((g_Md_undone m) u1.toNatClampNeg))))).trans (by rw [h_12])) dX7_image_49 (fun H locs hw => ?_)
        refine lv_iinc (v := u1 + (1 : Int32)) (lv' := [(1, .int (u1 + (1 : Int32))), (0, .ref (ad (136)))]) hx hb dX7_image_50 hl (k := 1) rfl (congrArg (fun z => u1 + z) (by decide)) (by decide) rfl (fun ls hl => ?_)
        refine lv_goto (tgt := 28) hx hb dX7_image_53 (by decide) ?_
        exact ih m_11 (u1 + (1 : Int32)) K hKK hf _ _ _ hw (lv_sub hl [1, 0] rfl)
  refine lv_iconst (v := 0) hx hb dX7_image_0 (by decide) ?_
  refine lv_istore_n (lv' := [(1, .int ((0 : Int32))), (0, .ref (ad (136)))]) hx hb dX7_image_1 rfl hl (by decide) rfl (fun ls hl => ?_)
  refine L2 100000 m (0 : Int32) _ (fun m_7 b1_6 hf H locs ls hw hl => ?_) hf _ _ _ hw (lv_sub hl [1, 0] rfl)
  refine lv_iconst (v := 0) hx hb dX7_image_26 (by decide) ?_
  refine lv_istore_n (lv' := [(1, .int ((0 : Int32))), (0, .ref (ad (136)))]) hx hb dX7_image_27 rfl hl (by decide) rfl (fun ls hl => ?_)
  refine L28 100000 m_7 (0 : Int32) _ (fun m_14 b1_13 hf H locs ls hw hl => ?_) hf _ _ _ hw (lv_sub hl [1, 0] rfl)
  refine lv_aload_n hx hb dX7_image_56 rfl (lv_at hl 0 rfl) ?_
  refine lv_aload_n hx hb dX7_image_57 rfl (lv_at hl 0 rfl) ?_
  refine gf_Md_undos S hK hw (x := m_14) rfl tb_3_153 dX7_image_58 ?_
  refine pf_Md_keptUndos S hK hw (x := m_14) rfl (τ' := (sM σ (s_Md_keptUndos m_14 (g_Md_undos m_14)))) rfl tb_3_160 dX7_image_61 (fun H locs hw => ?_)
  refine lv_aload_n hx hb dX7_image_64 rfl (lv_at hl 0 rfl) ?_
  refine lv_iconst (v := 1) hx hb dX7_image_65 (by decide) ?_
  refine pf_Md_isKept S hK hw (x := (s_Md_keptUndos m_14 (g_Md_undos m_14))) rfl (by decide) (τ' := (sM σ (s_Md_isKept (s_Md_keptUndos m_14 (g_Md_undos m_14)) (1 : Int32)))) rfl tb_3_161 dX7_image_66 (fun H locs hw => ?_)
  refine lv_iconst (v := 1) hx hb dX7_image_69 (by decide) ?_
  obtain rfl := Option.some.inj hf
  exact nn_iret S hr hlk hw rfl hσ dX7_image_70
set_option maxRecDepth 100000 in
set_option maxHeartbeats 4000000 in
theorem c_X7_restore (l : Launch) (D : va_G) (cy : Nat → ClassId) (ad : Nat → Nat) (A : Nat → Prop) (σ : nG) (m : nMd) (hx_M : gM σ = m) (q : Int32 × nMd) (hf : f_X7_restore m = some q) (σ' : nG) (hσ : (sM σ q.2) = σ') : nn_I l yX7_restore (nn_ws yX7_restore cX7_restore 2 (some .int)) (nn_R 0) D cy ad A [.ref (ad (136))] σ q.1 σ' := by
  refine nn_enterI (plainFor_of_name (by decide +kernel)) (Nat.le_of_ble_eq_true rfl) (lv := [(0, .ref (ad (136)))]) rfl ?_
  intro pp ee ss mm bb me co S hr hlk hK hw ls hl
  have hx := S.1
  have hb := S.2.1
  have hw : nn_W D cy ad A ss.heap (sM σ m) ss.heap [] := nn_W.eq (by rw [← hx_M]; rfl) hw
  unfold f_X7_restore at hf
  have L12 : ∀ (n : Nat) (m : nMd) (u1 : Int32) (K : nMd → Int32 → Option (Int32 × nMd)), (∀ (m : nMd) (u1 : Int32), K m u1 = some q → ∀ (H : Heap) (locs : List Loc) (ls : Array Slot), nn_W D cy ad A ss.heap (sM σ m) H locs → lv_has ls 2 [(0, .ref (ad (136))), (1, .int (u1))] → W pp l ee (nn_R 0) ss mm ([.ref (ad (136))] : List Value).toArray bb me co H locs 0 0 (MQ bb (nn_qi D cy ad A q.1 σ') ([.ref (ad (136))] : List Value).toArray ss 0 0 A) (F0 mm 36 ls [])) → f_X7_restore_L12 n m u1 K = some q → ∀ (H : Heap) (locs : List Loc) (ls : Array Slot), nn_W D cy ad A ss.heap (sM σ m) H locs → lv_has ls 2 [(0, .ref (ad (136))), (1, .int (u1))] → W pp l ee (nn_R 0) ss mm ([.ref (ad (136))] : List Value).toArray bb me co H locs 0 0 (MQ bb (nn_qi D cy ad A q.1 σ') ([.ref (ad (136))] : List Value).toArray ss 0 0 A) (F0 mm 12 ls []) := by
    intro n
    induction n with
    | zero => intro m u1 K hKK hf; exact absurd hf (by simp [f_X7_restore_L12])
    | succ n ih =>
      intro m u1 K hKK hf H locs ls hw hl
      rw [f_X7_restore_L12] at hf
      refine lv_iload_n hx hb dX7_restore_12 rfl (lv_at hl 1 rfl) ?_
      refine lv_bipush (v := 27) hx hb dX7_restore_13 (by decide) ?_
      refine lv_icmp_ge (tgt := 36) hx hb dX7_restore_15 (by decide) (fun c_2 => ?_) (fun c_2 => ?_)
      · rw [if_pos c_2] at hf
        exact hKK m u1 hf _ _ _ hw (lv_sub hl [0, 1] rfl)
      · rw [if_neg c_2] at hf
        refine lv_aload_n hx hb dX7_restore_18 rfl (lv_at hl 0 rfl) ?_
        refine gf_Md_now S hK hw tb_3_145 dX7_restore_19 ?_
        refine lv_iload_n hx hb dX7_restore_22 rfl (lv_at hl 1 rfl) ?_
        refine lv_aload_n hx hb dX7_restore_23 rfl (lv_at hl 0 rfl) ?_
        refine gf_Md_kept S hK hw tb_3_159 dX7_restore_24 ?_
        refine lv_iload_n hx hb dX7_restore_27 rfl (lv_at hl 1 rfl) ?_
        obtain ⟨g_3, hf⟩ := nn_ix_some hf
        refine al_Md_kept S hK hw (x := m) rfl g_3 dX7_restore_28 ?_
        obtain ⟨g_4, hf⟩ := nn_ix_some hf
        obtain ⟨m_5, h_6, hf⟩ := nn_bind hf
        replace h_6 := Option.some.inj h_6
        refine as_Md_now S hK hw (x := m) rfl g_4 (τ' := (sM σ m_5)) ((rfl : _ = (sM σ (s_Md_now m (upd (g_Md_now m) u1.toNatClampNeg ((g_Md_kept m) u1.toNatClampNeg))))).trans (by rw [h_6])) dX7_restore_29 (fun H locs hw => ?_)
        refine lv_iinc (v := u1 + (1 : Int32)) (lv' := [(1, .int (u1 + (1 : Int32))), (0, .ref (ad (136)))]) hx hb dX7_restore_30 hl (k := 1) rfl (congrArg (fun z => u1 + z) (by decide)) (by decide) rfl (fun ls hl => ?_)
        refine lv_goto (tgt := 12) hx hb dX7_restore_33 (by decide) ?_
        exact ih m_5 (u1 + (1 : Int32)) K hKK hf _ _ _ hw (lv_sub hl [1, 0] rfl)
  have L38 : ∀ (n : Nat) (m : nMd) (u1 : Int32) (K : nMd → Int32 → Option (Int32 × nMd)), (∀ (m : nMd) (u1 : Int32), K m u1 = some q → ∀ (H : Heap) (locs : List Loc) (ls : Array Slot), nn_W D cy ad A ss.heap (sM σ m) H locs → lv_has ls 2 [(0, .ref (ad (136))), (1, .int (u1))] → W pp l ee (nn_R 0) ss mm ([.ref (ad (136))] : List Value).toArray bb me co H locs 0 0 (MQ bb (nn_qi D cy ad A q.1 σ') ([.ref (ad (136))] : List Value).toArray ss 0 0 A) (F0 mm 66 ls [])) → f_X7_restore_L38 n m u1 K = some q → ∀ (H : Heap) (locs : List Loc) (ls : Array Slot), nn_W D cy ad A ss.heap (sM σ m) H locs → lv_has ls 2 [(0, .ref (ad (136))), (1, .int (u1))] → W pp l ee (nn_R 0) ss mm ([.ref (ad (136))] : List Value).toArray bb me co H locs 0 0 (MQ bb (nn_qi D cy ad A q.1 σ') ([.ref (ad (136))] : List Value).toArray ss 0 0 A) (F0 mm 38 ls []) := by
    intro n
    induction n with
    | zero => intro m u1 K hKK hf; exact absurd hf (by simp [f_X7_restore_L38])
    | succ n ih =>
      intro m u1 K hKK hf H locs ls hw hl
      rw [f_X7_restore_L38] at hf
      refine lv_iload_n hx hb dX7_restore_38 rfl (lv_at hl 1 rfl) ?_
      refine lv_sipush (v := 216) hx hb dX7_restore_39 (by decide) ?_
      refine lv_icmp_ge (tgt := 66) hx hb dX7_restore_42 (by decide) (fun c_9 => ?_) (fun c_9 => ?_)
      · rw [if_pos c_9] at hf
        exact hKK m u1 hf _ _ _ hw (lv_sub hl [0, 1] rfl)
      · rw [if_neg c_9] at hf
        refine lv_aload_n hx hb dX7_restore_45 rfl (lv_at hl 0 rfl) ?_
        refine gf_Md_undone S hK hw tb_3_152 dX7_restore_46 ?_
        refine lv_iload_n hx hb dX7_restore_49 rfl (lv_at hl 1 rfl) ?_
        refine lv_aload_n hx hb dX7_restore_50 rfl (lv_at hl 0 rfl) ?_
        refine gf_Md_kept S hK hw tb_3_159 dX7_restore_51 ?_
        refine lv_bipush (v := 27) hx hb dX7_restore_54 (by decide) ?_
        refine lv_iload_n hx hb dX7_restore_56 rfl (lv_at hl 1 rfl) ?_
        refine lv_iadd hx hb dX7_restore_57 ?_
        obtain ⟨g_10, hf⟩ := nn_ix_some hf
        refine al_Md_kept S hK hw (x := m) rfl g_10 dX7_restore_58 ?_
        obtain ⟨g_11, hf⟩ := nn_ix_some hf
        obtain ⟨m_12, h_13, hf⟩ := nn_bind hf
        replace h_13 := Option.some.inj h_13
        refine as_Md_undone S hK hw (x := m) rfl g_11 (τ' := (sM σ m_12)) ((rfl : _ = (sM σ (s_Md_undone m (upd (g_Md_undone m) u1.toNatClampNeg ((g_Md_kept m) ((27 : Int32) + u1).toNatClampNeg))))).trans (by rw [h_13])) dX7_restore_59 (fun H locs hw => ?_)
        refine lv_iinc (v := u1 + (1 : Int32)) (lv' := [(1, .int (u1 + (1 : Int32))), (0, .ref (ad (136)))]) hx hb dX7_restore_60 hl (k := 1) rfl (congrArg (fun z => u1 + z) (by decide)) (by decide) rfl (fun ls hl => ?_)
        refine lv_goto (tgt := 38) hx hb dX7_restore_63 (by decide) ?_
        exact ih m_12 (u1 + (1 : Int32)) K hKK hf _ _ _ hw (lv_sub hl [1, 0] rfl)
  refine lv_aload_n hx hb dX7_restore_0 rfl (lv_at hl 0 rfl) ?_
  refine gf_Md_isKept S hK hw (x := m) rfl tb_3_161 dX7_restore_1 ?_
  refine lv_if_ne (tgt := 10) hx hb dX7_restore_4 (by decide) (fun c_1 => ?_) (fun c_1 => ?_)
  · rw [if_neg c_1] at hf
    refine lv_iconst (v := 0) hx hb dX7_restore_10 (by decide) ?_
    refine lv_istore_n (lv' := [(1, .int ((0 : Int32))), (0, .ref (ad (136)))]) hx hb dX7_restore_11 rfl hl (by decide) rfl (fun ls hl => ?_)
    refine L12 100000 m (0 : Int32) _ (fun m_8 b1_7 hf H locs ls hw hl => ?_) hf _ _ _ hw (lv_sub hl [1, 0] rfl)
    refine lv_iconst (v := 0) hx hb dX7_restore_36 (by decide) ?_
    refine lv_istore_n (lv' := [(1, .int ((0 : Int32))), (0, .ref (ad (136)))]) hx hb dX7_restore_37 rfl hl (by decide) rfl (fun ls hl => ?_)
    refine L38 100000 m_8 (0 : Int32) _ (fun m_15 b1_14 hf H locs ls hw hl => ?_) hf _ _ _ hw (lv_sub hl [1, 0] rfl)
    refine lv_aload_n hx hb dX7_restore_66 rfl (lv_at hl 0 rfl) ?_
    refine lv_aload_n hx hb dX7_restore_67 rfl (lv_at hl 0 rfl) ?_
    refine gf_Md_keptUndos S hK hw (x := m_15) rfl tb_3_160 dX7_restore_68 ?_
    refine pf_Md_undos S hK hw (x := m_15) rfl (τ' := (sM σ (s_Md_undos m_15 (g_Md_keptUndos m_15)))) rfl tb_3_153 dX7_restore_71 (fun H locs hw => ?_)
    refine lv_iconst (v := 1) hx hb dX7_restore_74 (by decide) ?_
    obtain rfl := Option.some.inj hf
    exact nn_iret S hr hlk hw rfl hσ dX7_restore_75
  · rw [if_pos c_1] at hf
    refine lv_bipush (v := -4) hx hb dX7_restore_7 (by decide) ?_
    obtain rfl := Option.some.inj hf
    exact nn_iret S hr hlk hw rfl hσ dX7_restore_9
set_option maxRecDepth 100000 in
set_option maxHeartbeats 4000000 in
theorem c_X7_why (l : Launch) (D : va_G) (cy : Nat → ClassId) (ad : Nat → Nat) (A : Nat → Prop) (σ : nG) (m : nMd) (hx_M : gM σ = m) (a1 : Int32) (a2 : Int32) (a3 : Int32) (a4 : Int32) (q : Int32) (hf : f_X7_why m a1 a2 a3 a4 = some q) : nn_I l yX7_why (nn_ws yX7_why cX7_why 5 (some .int)) (nn_R 0) D cy ad A [.ref (ad (136)), .int (a1), .int (a2), .int (a3), .int (a4)] σ q σ := by
  refine nn_enterI (plainFor_of_name (by decide +kernel)) (Nat.le_of_ble_eq_true rfl) (lv := [(0, .ref (ad (136))), (1, .int (a1)), (2, .int (a2)), (3, .int (a3)), (4, .int (a4))]) rfl ?_
  intro pp ee ss mm bb me co S hr hlk hK hw ls hl
  have hx := S.1
  have hb := S.2.1
  unfold f_X7_why at hf
  refine lv_aload_n hx hb dX7_why_0 rfl (lv_at hl 0 rfl) ?_
  refine gf_Md_lanes S hK hw tb_3_162 dX7_why_1 ?_
  refine lv_iload_n hx hb dX7_why_4 rfl (lv_at hl 1 rfl) ?_
  obtain ⟨g_1, hf⟩ := nn_ix_some hf
  refine al_Md_lanes S hK hw (x := m) hx_M g_1 dX7_why_5 ?_
  refine lv_if_ge (tgt := 12) hx hb dX7_why_6 (by decide) (fun c_2 => ?_) (fun c_2 => ?_)
  · rw [if_pos c_2] at hf
    refine lv_aload_n hx hb dX7_why_12 rfl (lv_at hl 0 rfl) ?_
    refine gf_Md_lanes S hK hw tb_3_162 dX7_why_13 ?_
    refine lv_iload_n hx hb dX7_why_16 rfl (lv_at hl 1 rfl) ?_
    obtain ⟨g_3, hf⟩ := nn_ix_some hf
    refine al_Md_lanes S hK hw (x := m) hx_M g_3 dX7_why_17 ?_
    refine lv_iload_n hx hb dX7_why_18 rfl (lv_at hl 2 rfl) ?_
    refine lv_icmp_eq (tgt := 25) hx hb dX7_why_19 (by decide) (fun c_4 => ?_) (fun c_4 => ?_)
    · rw [if_pos c_4] at hf
      refine lv_iload_n hx hb dX7_why_25 rfl (lv_at hl 3 rfl) ?_
      refine lv_if_lt (tgt := 51) hx hb dX7_why_26 (by decide) (fun c_5 => ?_) (fun c_5 => ?_)
      · rw [if_pos c_5] at hf
        refine lv_bipush (v := -13) hx hb dX7_why_51 (by decide) ?_
        refine lv_goto (tgt := 57) hx hb dX7_why_53 (by decide) ?_
        obtain rfl := Option.some.inj hf
        exact nn_iret S hr hlk hw rfl rfl dX7_why_57
      · rw [if_neg c_5] at hf
        refine lv_iload hx hb dX7_why_29 (lv_at hl 4 rfl) ?_
        refine lv_if_lt (tgt := 51) hx hb dX7_why_31 (by decide) (fun c_6 => ?_) (fun c_6 => ?_)
        · rw [if_pos c_6] at hf
          refine lv_bipush (v := -13) hx hb dX7_why_51 (by decide) ?_
          refine lv_goto (tgt := 57) hx hb dX7_why_53 (by decide) ?_
          obtain rfl := Option.some.inj hf
          exact nn_iret S hr hlk hw rfl rfl dX7_why_57
        · rw [if_neg c_6] at hf
          refine lv_iload_n hx hb dX7_why_34 rfl (lv_at hl 3 rfl) ?_
          refine lv_i2l (v := a3.toInt64) hx hb dX7_why_35 rfl ?_
          refine lv_iload hx hb dX7_why_36 (lv_at hl 4 rfl) ?_
          refine lv_i2l (v := a4.toInt64) hx hb dX7_why_38 rfl ?_
          refine lv_ladd hx hb dX7_why_39 ?_
          refine lv_aload_n hx hb dX7_why_40 rfl (lv_at hl 0 rfl) ?_
          refine gf_Md_sizes S hK hw tb_3_163 dX7_why_41 ?_
          refine lv_iload_n hx hb dX7_why_44 rfl (lv_at hl 1 rfl) ?_
          obtain ⟨g_7, hf⟩ := nn_ix_some hf
          refine al_Md_sizes S hK hw (x := m) hx_M g_7 dX7_why_45 ?_
          refine lv_i2l (v := ((g_Md_sizes m) a1.toNatClampNeg).toInt64) hx hb dX7_why_46 rfl ?_
          refine W.lcmp hx hb dX7_why_47 ?_
          refine lv_if_le (tgt := 56) hx hb dX7_why_48 (by decide) (fun c_8 => ?_) (fun c_8 => ?_)
          · rw [if_pos c_8] at hf
            refine lv_iconst (v := 0) hx hb dX7_why_56 (by decide) ?_
            obtain rfl := Option.some.inj hf
            exact nn_iret S hr hlk hw rfl rfl dX7_why_57
          · rw [if_neg c_8] at hf
            refine lv_bipush (v := -13) hx hb dX7_why_51 (by decide) ?_
            refine lv_goto (tgt := 57) hx hb dX7_why_53 (by decide) ?_
            obtain rfl := Option.some.inj hf
            exact nn_iret S hr hlk hw rfl rfl dX7_why_57
    · rw [if_neg c_4] at hf
      refine lv_bipush (v := -12) hx hb dX7_why_22 (by decide) ?_
      obtain rfl := Option.some.inj hf
      exact nn_iret S hr hlk hw rfl rfl dX7_why_24
  · rw [if_neg c_2] at hf
    refine lv_bipush (v := -11) hx hb dX7_why_9 (by decide) ?_
    obtain rfl := Option.some.inj hf
    exact nn_iret S hr hlk hw rfl rfl dX7_why_11
set_option maxRecDepth 100000 in
set_option maxHeartbeats 4000000 in
theorem c_X7_isSo (l : Launch) (D : va_G) (cy : Nat → ClassId) (ad : Nat → Nat) (A : Nat → Prop) (σ : nG) (m : nMd) (hx_M : gM σ = m) (a1 : Int32) (a2 : Int32) (a3 : Int32) (q : Int32 × nMd) (hf : f_X7_isSo m a1 a2 a3 = some q) (σ' : nG) (hσ : (sM σ q.2) = σ') : nn_I l yX7_isSo (nn_ws yX7_isSo cX7_isSo 6 (some .boolean)) (nn_R 5) D cy ad A [.ref (ad (136)), .int (a1), .int (a2), .int (a3)] σ q.1 σ' := by
  refine nn_enterI (plainFor_of_name (by decide +kernel)) (Nat.le_of_ble_eq_true rfl) (lv := [(0, .ref (ad (136))), (1, .int (a1)), (2, .int (a2)), (3, .int (a3))]) rfl ?_
  intro pp ee ss mm bb me co S hr hlk hK hw ls hl
  have hx := S.1
  have hb := S.2.1
  have hw : nn_W D cy ad A ss.heap (sM σ m) ss.heap [] := nn_W.eq (by rw [← hx_M]; rfl) hw
  unfold f_X7_isSo at hf
  have L6 : ∀ (n : Nat) (m : nMd) (u1 : Int32) (u2 : Int32) (u3 : Int32) (u4 : Int32) (u5 : Int32) (K : nMd → Int32 → Int32 → Int32 → Int32 → Int32 → Option (Int32 × nMd)), (∀ (m : nMd) (u1 : Int32) (u2 : Int32) (u3 : Int32) (u4 : Int32) (u5 : Int32), K m u1 u2 u3 u4 u5 = some q → ∀ (H : Heap) (locs : List Loc) (ls : Array Slot), nn_W D cy ad A ss.heap (sM σ m) H locs → lv_has ls 6 [(0, .ref (ad (136))), (1, .int (u1)), (2, .int (u2)), (3, .int (u3)), (4, .int (u4)), (5, .int (u5))] → W pp l ee (nn_R 5) ss mm ([.ref (ad (136)), .int (a1), .int (a2), .int (a3)] : List Value).toArray bb me co H locs 0 0 (MQ bb (nn_qi D cy ad A q.1 σ') ([.ref (ad (136)), .int (a1), .int (a2), .int (a3)] : List Value).toArray ss 0 0 A) (F0 mm 53 ls [])) → f_X7_isSo_L6 n m u1 u2 u3 u4 u5 K = some q → ∀ (H : Heap) (locs : List Loc) (ls : Array Slot), nn_W D cy ad A ss.heap (sM σ m) H locs → lv_has ls 6 [(0, .ref (ad (136))), (1, .int (u1)), (2, .int (u2)), (3, .int (u3)), (4, .int (u4)), (5, .int (u5))] → W pp l ee (nn_R 5) ss mm ([.ref (ad (136)), .int (a1), .int (a2), .int (a3)] : List Value).toArray bb me co H locs 0 0 (MQ bb (nn_qi D cy ad A q.1 σ') ([.ref (ad (136)), .int (a1), .int (a2), .int (a3)] : List Value).toArray ss 0 0 A) (F0 mm 6 ls []) := by
    intro n
    induction n with
    | zero => intro m u1 u2 u3 u4 u5 K hKK hf; exact absurd hf (by simp [f_X7_isSo_L6])
    | succ n ih =>
      intro m u1 u2 u3 u4 u5 K hKK hf H locs ls hw hl
      rw [f_X7_isSo_L6] at hf
      refine lv_iload hx hb dX7_isSo_6 (lv_at hl 5 rfl) ?_
      refine lv_iload_n hx hb dX7_isSo_8 rfl (lv_at hl 3 rfl) ?_
      refine lv_icmp_ge (tgt := 53) hx hb dX7_isSo_9 (by decide) (fun c_1 => ?_) (fun c_1 => ?_)
      · rw [if_pos c_1] at hf
        exact hKK m u1 u2 u3 u4 u5 hf _ _ _ hw (lv_sub hl [0, 1, 2, 3, 4, 5] rfl)
      · rw [if_neg c_1] at hf
        refine lv_aload_n hx hb dX7_isSo_12 rfl (lv_at hl 0 rfl) ?_
        obtain ⟨q_2, h_3, hf⟩ := nn_bind hf
        refine nn_callvV S (As := []) (rest := []) (ce_M (k := 0)) (by decide) rfl rfl (c_X7_goesBy l D cy ad A (sM σ m) m rfl q_2 h_3 (sM σ q_2) rfl) mv_X7_goesBy tb_4_87 hK hw ⟨Nat.le_of_ble_eq_true rfl, Nat.le_of_ble_eq_true rfl⟩ ⟨Nat.zero_le _, Nat.zero_le _⟩ rfl hl.1 rfl (Nat.le_of_ble_eq_true rfl) dX7_isSo_13 (fun H locs hw => ?_)
        refine lv_iload hx hb dX7_isSo_16 (lv_at hl 4 rfl) ?_
        refine lv_if_eq (tgt := 44) hx hb dX7_isSo_18 (by decide) (fun c_4 => ?_) (fun c_4 => ?_)
        · rw [if_pos c_4] at hf
          refine lv_iconst (v := 0) hx hb dX7_isSo_44 (by decide) ?_
          refine lv_istore (lv' := [(4, .int ((0 : Int32))), (0, .ref (ad (136))), (1, .int (u1)), (2, .int (u2)), (3, .int (u3)), (5, .int (u5))]) hx hb dX7_isSo_45 hl (by decide) rfl (fun ls hl => ?_)
          refine lv_iinc (v := u5 + (1 : Int32)) (lv' := [(5, .int (u5 + (1 : Int32))), (4, .int ((0 : Int32))), (0, .ref (ad (136))), (1, .int (u1)), (2, .int (u2)), (3, .int (u3))]) hx hb dX7_isSo_47 hl (k := 5) rfl (congrArg (fun z => u5 + z) (by decide)) (by decide) rfl (fun ls hl => ?_)
          refine lv_goto (tgt := 6) hx hb dX7_isSo_50 (by decide) ?_
          exact ih q_2 u1 u2 u3 (0 : Int32) (u5 + (1 : Int32)) K hKK hf _ _ _ hw (lv_sub hl [2, 3, 4, 5, 1, 0] rfl)
        · rw [if_neg c_4] at hf
          refine lv_aload_n hx hb dX7_isSo_21 rfl (lv_at hl 0 rfl) ?_
          refine lv_iload_n hx hb dX7_isSo_22 rfl (lv_at hl 1 rfl) ?_
          obtain ⟨q_5, h_6, hf⟩ := nn_bind hf
          refine nn_calliV S (As := [.int (u1)]) (rest := []) (ce_M (k := 0)) (by decide) rfl rfl (c_X7_minuteOf l D cy ad A (sM σ q_2) q_2 rfl u1 q_5 h_6) mv_X7_minuteOf tb_4_8 hK hw ⟨Nat.le_of_ble_eq_true rfl, Nat.le_of_ble_eq_true rfl⟩ ⟨Nat.zero_le _, Nat.zero_le _⟩ rfl hl.1 rfl (Nat.le_of_ble_eq_true rfl) dX7_isSo_23 (fun H locs hw => ?_)
          refine lv_i2l (v := q_5.toInt64) hx hb dX7_isSo_26 rfl ?_
          refine lv_aload_n hx hb dX7_isSo_27 rfl (lv_at hl 0 rfl) ?_
          refine gf_Md_items S hK hw tb_3_164 dX7_isSo_28 ?_
          refine lv_iload_n hx hb dX7_isSo_31 rfl (lv_at hl 2 rfl) ?_
          refine lv_iload hx hb dX7_isSo_32 (lv_at hl 5 rfl) ?_
          refine lv_iadd hx hb dX7_isSo_34 ?_
          obtain ⟨g_7, hf⟩ := nn_ix_some hf
          refine al_Md_items S hK hw (x := q_2) rfl g_7 dX7_isSo_35 ?_
          refine W.lcmp hx hb dX7_isSo_36 ?_
          refine lv_if_ne (tgt := 44) hx hb dX7_isSo_37 (by decide) (fun c_8 => ?_) (fun c_8 => ?_)
          · rw [if_neg c_8] at hf
            refine lv_iconst (v := 0) hx hb dX7_isSo_44 (by decide) ?_
            refine lv_istore (lv' := [(4, .int ((0 : Int32))), (0, .ref (ad (136))), (1, .int (u1)), (2, .int (u2)), (3, .int (u3)), (5, .int (u5))]) hx hb dX7_isSo_45 hl (by decide) rfl (fun ls hl => ?_)
            refine lv_iinc (v := u5 + (1 : Int32)) (lv' := [(5, .int (u5 + (1 : Int32))), (4, .int ((0 : Int32))), (0, .ref (ad (136))), (1, .int (u1)), (2, .int (u2)), (3, .int (u3))]) hx hb dX7_isSo_47 hl (k := 5) rfl (congrArg (fun z => u5 + z) (by decide)) (by decide) rfl (fun ls hl => ?_)
            refine lv_goto (tgt := 6) hx hb dX7_isSo_50 (by decide) ?_
            exact ih q_2 u1 u2 u3 (0 : Int32) (u5 + (1 : Int32)) K hKK hf _ _ _ hw (lv_sub hl [2, 3, 4, 5, 1, 0] rfl)
          · rw [if_pos c_8] at hf
            refine lv_iconst (v := 1) hx hb dX7_isSo_40 (by decide) ?_
            refine lv_goto (tgt := 45) hx hb dX7_isSo_41 (by decide) ?_
            refine lv_istore (lv' := [(4, .int ((1 : Int32))), (0, .ref (ad (136))), (1, .int (u1)), (2, .int (u2)), (3, .int (u3)), (5, .int (u5))]) hx hb dX7_isSo_45 hl (by decide) rfl (fun ls hl => ?_)
            refine lv_iinc (v := u5 + (1 : Int32)) (lv' := [(5, .int (u5 + (1 : Int32))), (4, .int ((1 : Int32))), (0, .ref (ad (136))), (1, .int (u1)), (2, .int (u2)), (3, .int (u3))]) hx hb dX7_isSo_47 hl (k := 5) rfl (congrArg (fun z => u5 + z) (by decide)) (by decide) rfl (fun ls hl => ?_)
            refine lv_goto (tgt := 6) hx hb dX7_isSo_50 (by decide) ?_
            exact ih q_2 u1 u2 u3 (1 : Int32) (u5 + (1 : Int32)) K hKK hf _ _ _ hw (lv_sub hl [2, 3, 4, 5, 1, 0] rfl)
  refine lv_iconst (v := 1) hx hb dX7_isSo_0 (by decide) ?_
  refine lv_istore (lv' := [(4, .int ((1 : Int32))), (0, .ref (ad (136))), (1, .int (a1)), (2, .int (a2)), (3, .int (a3))]) hx hb dX7_isSo_1 hl (by decide) rfl (fun ls hl => ?_)
  refine lv_iconst (v := 0) hx hb dX7_isSo_3 (by decide) ?_
  refine lv_istore (lv' := [(5, .int ((0 : Int32))), (4, .int ((1 : Int32))), (0, .ref (ad (136))), (1, .int (a1)), (2, .int (a2)), (3, .int (a3))]) hx hb dX7_isSo_4 hl (by decide) rfl (fun ls hl => ?_)
  refine L6 100000 m a1 a2 a3 (1 : Int32) (0 : Int32) _ (fun m_14 b1_9 b2_10 b3_11 b4_12 b5_13 hf H locs ls hw hl => ?_) hf _ _ _ hw (lv_sub hl [2, 3, 4, 5, 1, 0] rfl)
  refine lv_aload_n hx hb dX7_isSo_53 rfl (lv_at hl 0 rfl) ?_
  obtain ⟨q_15, h_16, hf⟩ := nn_bind hf
  refine nn_callvV S (As := []) (rest := []) (ce_M (k := 0)) (by decide) rfl rfl (c_X7_backs l D cy ad A (sM σ m_14) m_14 rfl q_15 h_16 (sM σ q_15) rfl) mv_X7_backs tb_4_137 hK hw ⟨Nat.le_of_ble_eq_true rfl, Nat.le_of_ble_eq_true rfl⟩ ⟨Nat.zero_le _, Nat.zero_le _⟩ rfl hl.1 rfl (Nat.le_of_ble_eq_true rfl) dX7_isSo_54 (fun H locs hw => ?_)
  refine lv_iload hx hb dX7_isSo_57 (lv_at hl 4 rfl) ?_
  obtain ⟨g_17, hf⟩ := nn_bo_some hf
  obtain rfl := Option.some.inj hf
  exact nn_zret S hr hlk hw (by rcases g_17 with h9 | h9 <;> rw [h9] <;> rfl) rfl hσ dX7_isSo_59
set_option maxRecDepth 100000 in
set_option maxHeartbeats 4000000 in
theorem c_X7_heard (l : Launch) (D : va_G) (cy : Nat → ClassId) (ad : Nat → Nat) (A : Nat → Prop) (σ : nG) (m : nMd) (hx_M : gM σ = m) (a1 : Int32) (a2 : Int32) (a3 : Int32) (a4 : Int32) (a5 : Int32) (a6 : Int32) (q : Int32 × nMd) (hf : f_X7_heard m a1 a2 a3 a4 a5 a6 = some q) (σ' : nG) (hσ : (sM σ q.2) = σ') : nn_I l yX7_heard (nn_ws yX7_heard cX7_heard 10 (some .int)) (nn_R 6) D cy ad A [.ref (ad (136)), .int (a1), .int (a2), .int (a3), .int (a4), .int (a5), .int (a6)] σ q.1 σ' := by
  refine nn_enterI (plainFor_of_name (by decide +kernel)) (Nat.le_of_ble_eq_true rfl) (lv := [(0, .ref (ad (136))), (1, .int (a1)), (2, .int (a2)), (3, .int (a3)), (4, .int (a4)), (5, .int (a5)), (6, .int (a6))]) rfl ?_
  intro pp ee ss mm bb me co S hr hlk hK hw ls hl
  have hx := S.1
  have hb := S.2.1
  have hw : nn_W D cy ad A ss.heap (sM σ m) ss.heap [] := nn_W.eq (by rw [← hx_M]; rfl) hw
  unfold f_X7_heard at hf
  have J115 : ∀ (m : nMd) (u1 : Int32) (u2 : Int32) (u4 : Int32) (u5 : Int32) (u6 : Int32) (u8 : Int32) (u9 : Int32) (s0 : Int32) (s1 : Int32) (s2 : Int32) (RC K : nMd → Int32 → Int32 → Int32 → Int32 → Int32 → Int32 → Int32 → Option (Int32 × nMd)), (∀ (m : nMd) (u1 : Int32) (u2 : Int32) (u4 : Int32) (u5 : Int32) (u6 : Int32) (u8 : Int32) (u9 : Int32), RC m u1 u2 u4 u5 u6 u8 u9 = some q → ∀ (H : Heap) (locs : List Loc) (ls : Array Slot), nn_W D cy ad A ss.heap (sM σ m) H locs → lv_has ls 10 [(0, .ref (ad (136))), (1, .int (u1)), (2, .int (u2)), (4, .int (u4)), (5, .int (u5)), (6, .int (u6)), (8, .int (u8)), (9, .int (u9))] → W pp l ee (nn_R 6) ss mm ([.ref (ad (136)), .int (a1), .int (a2), .int (a3), .int (a4), .int (a5), .int (a6)] : List Value).toArray bb me co H locs 0 0 (MQ bb (nn_qi D cy ad A q.1 σ') ([.ref (ad (136)), .int (a1), .int (a2), .int (a3), .int (a4), .int (a5), .int (a6)] : List Value).toArray ss 0 0 A) (F0 mm 78 ls [])) → (∀ (m : nMd) (u1 : Int32) (u2 : Int32) (u4 : Int32) (u5 : Int32) (u6 : Int32) (u8 : Int32) (u9 : Int32), K m u1 u2 u4 u5 u6 u8 u9 = some q → ∀ (H : Heap) (locs : List Loc) (ls : Array Slot), nn_W D cy ad A ss.heap (sM σ m) H locs → lv_has ls 10 [(0, .ref (ad (136))), (1, .int (u1)), (2, .int (u2)), (4, .int (u4)), (5, .int (u5)), (6, .int (u6)), (8, .int (u8)), (9, .int (u9))] → W pp l ee (nn_R 6) ss mm ([.ref (ad (136)), .int (a1), .int (a2), .int (a3), .int (a4), .int (a5), .int (a6)] : List Value).toArray bb me co H locs 0 0 (MQ bb (nn_qi D cy ad A q.1 σ') ([.ref (ad (136)), .int (a1), .int (a2), .int (a3), .int (a4), .int (a5), .int (a6)] : List Value).toArray ss 0 0 A) (F0 mm 154 ls [])) → f_X7_heard_J115 m u1 u2 u4 u5 u6 u8 u9 s0 s1 s2 RC K = some q → ∀ (H : Heap) (locs : List Loc) (ls : Array Slot), nn_W D cy ad A ss.heap (sM σ m) H locs → lv_has ls 10 [(0, .ref (ad (136))), (1, .int (u1)), (2, .int (u2)), (4, .int (u4)), (5, .int (u5)), (6, .int (u6)), (8, .int (u8)), (9, .int (u9))] → W pp l ee (nn_R 6) ss mm ([.ref (ad (136)), .int (a1), .int (a2), .int (a3), .int (a4), .int (a5), .int (a6)] : List Value).toArray bb me co H locs 0 0 (MQ bb (nn_qi D cy ad A q.1 σ') ([.ref (ad (136)), .int (a1), .int (a2), .int (a3), .int (a4), .int (a5), .int (a6)] : List Value).toArray ss 0 0 A) (F0 mm 115 ls [.int (s0), .int (s1), .int (s2), .ref (ad (136))]) := by
    intro m u1 u2 u4 u5 u6 u8 u9 s0 s1 s2 RC K hRC hKK hf H locs ls hw hl
    unfold f_X7_heard_J115 at hf
    obtain ⟨q_24, h_25, hf⟩ := nn_bind hf
    refine nn_callvV S (As := [.int (s2), .int (s1), .int (s0)]) (rest := []) (ce_M (k := 0)) (by decide) rfl rfl (c_X7_tells l D cy ad A (sM σ m) m rfl s2 s1 s0 q_24 h_25 (sM σ q_24) rfl) mv_X7_tells tb_3_224 hK hw ⟨Nat.le_of_ble_eq_true rfl, Nat.le_of_ble_eq_true rfl⟩ ⟨Nat.zero_le _, Nat.zero_le _⟩ rfl hl.1 rfl (Nat.le_of_ble_eq_true rfl) dX7_heard_115 (fun H locs hw => ?_)
    refine lv_iload hx hb dX7_heard_118 (lv_at hl 6 rfl) ?_
    refine lv_aload_n hx hb dX7_heard_120 rfl (lv_at hl 0 rfl) ?_
    refine lv_iload_n hx hb dX7_heard_121 rfl (lv_at hl 1 rfl) ?_
    refine lv_bipush (v := 24) hx hb dX7_heard_122 (by decide) ?_
    refine lv_iload_n hx hb dX7_heard_124 rfl (lv_at hl 2 rfl) ?_
    refine lv_imul hx hb dX7_heard_125 ?_
    refine lv_iload hx hb dX7_heard_126 (lv_at hl 3 rfl) ?_
    refine lv_iadd hx hb dX7_heard_128 ?_
    refine lv_iload hx hb dX7_heard_129 (lv_at hl 4 rfl) ?_
    obtain ⟨q_26, h_27, hf⟩ := nn_bind hf
    refine nn_calliV S (As := [.int (u1), .int (((24 : Int32) * u2) + u4), .int (u5)]) (rest := [.int (u8)]) (ce_M (k := 0)) (by decide) rfl rfl (c_X7_isSo l D cy ad A (sM σ q_24) q_24 rfl u1 (((24 : Int32) * u2) + u4) u5 q_26 h_27 (sM σ q_26.2) rfl) mv_X7_isSo tb_4_227 hK hw ⟨Nat.le_of_ble_eq_true rfl, Nat.le_of_ble_eq_true rfl⟩ ⟨Nat.zero_le _, Nat.zero_le _⟩ rfl hl.1 rfl (Nat.le_of_ble_eq_true rfl) dX7_heard_131 (fun H locs hw => ?_)
    refine lv_if_eq (tgt := 144) hx hb dX7_heard_134 (by decide) (fun c_28 => ?_) (fun c_28 => ?_)
    · rw [if_pos c_28] at hf
      refine lv_iconst (v := 0) hx hb dX7_heard_144 (by decide) ?_
      refine lv_ior hx hb dX7_heard_145 ?_
      refine lv_istore (lv' := [(8, .int (u8 ||| (0 : Int32))), (0, .ref (ad (136))), (1, .int (u1)), (2, .int (u2)), (4, .int (u4)), (5, .int (u5)), (6, .int (u6)), (9, .int (u9))]) hx hb dX7_heard_146 hl (by decide) rfl (fun ls hl => ?_)
      refine lv_iinc (v := u9 + (1 : Int32)) (lv' := [(9, .int (u9 + (1 : Int32))), (8, .int (u8 ||| (0 : Int32))), (0, .ref (ad (136))), (1, .int (u1)), (2, .int (u2)), (4, .int (u4)), (5, .int (u5)), (6, .int (u6))]) hx hb dX7_heard_148 hl (k := 7) rfl (congrArg (fun z => u9 + z) (by decide)) (by decide) rfl (fun ls hl => ?_)
      refine lv_goto (tgt := 78) hx hb dX7_heard_151 (by decide) ?_
      exact hRC q_26.2 u1 u2 u4 u5 u6 (u8 ||| (0 : Int32)) (u9 + (1 : Int32)) hf _ _ _ hw (lv_sub hl [2, 3, 4, 5, 6, 7, 1, 0] rfl)
    · rw [if_neg c_28] at hf
      refine lv_iconst (v := 1) hx hb dX7_heard_137 (by decide) ?_
      refine lv_iload hx hb dX7_heard_138 (lv_at hl 7 rfl) ?_
      refine lv_ishl hx hb dX7_heard_140 ?_
      refine lv_goto (tgt := 145) hx hb dX7_heard_141 (by decide) ?_
      refine lv_ior hx hb dX7_heard_145 ?_
      refine lv_istore (lv' := [(8, .int (u8 ||| ((1 : Int32) <<< (u9 &&& 31)))), (0, .ref (ad (136))), (1, .int (u1)), (2, .int (u2)), (4, .int (u4)), (5, .int (u5)), (6, .int (u6)), (9, .int (u9))]) hx hb dX7_heard_146 hl (by decide) rfl (fun ls hl => ?_)
      refine lv_iinc (v := u9 + (1 : Int32)) (lv' := [(9, .int (u9 + (1 : Int32))), (8, .int (u8 ||| ((1 : Int32) <<< (u9 &&& 31)))), (0, .ref (ad (136))), (1, .int (u1)), (2, .int (u2)), (4, .int (u4)), (5, .int (u5)), (6, .int (u6))]) hx hb dX7_heard_148 hl (k := 7) rfl (congrArg (fun z => u9 + z) (by decide)) (by decide) rfl (fun ls hl => ?_)
      refine lv_goto (tgt := 78) hx hb dX7_heard_151 (by decide) ?_
      exact hRC q_26.2 u1 u2 u4 u5 u6 (u8 ||| ((1 : Int32) <<< (u9 &&& 31))) (u9 + (1 : Int32)) hf _ _ _ hw (lv_sub hl [2, 3, 4, 5, 6, 7, 1, 0] rfl)
  have J91 : ∀ (m : nMd) (u1 : Int32) (u2 : Int32) (u4 : Int32) (u5 : Int32) (u6 : Int32) (u8 : Int32) (u9 : Int32) (s0 : Int32) (s1 : Int32) (RC K : nMd → Int32 → Int32 → Int32 → Int32 → Int32 → Int32 → Int32 → Option (Int32 × nMd)), (∀ (m : nMd) (u1 : Int32) (u2 : Int32) (u4 : Int32) (u5 : Int32) (u6 : Int32) (u8 : Int32) (u9 : Int32), RC m u1 u2 u4 u5 u6 u8 u9 = some q → ∀ (H : Heap) (locs : List Loc) (ls : Array Slot), nn_W D cy ad A ss.heap (sM σ m) H locs → lv_has ls 10 [(0, .ref (ad (136))), (1, .int (u1)), (2, .int (u2)), (4, .int (u4)), (5, .int (u5)), (6, .int (u6)), (8, .int (u8)), (9, .int (u9))] → W pp l ee (nn_R 6) ss mm ([.ref (ad (136)), .int (a1), .int (a2), .int (a3), .int (a4), .int (a5), .int (a6)] : List Value).toArray bb me co H locs 0 0 (MQ bb (nn_qi D cy ad A q.1 σ') ([.ref (ad (136)), .int (a1), .int (a2), .int (a3), .int (a4), .int (a5), .int (a6)] : List Value).toArray ss 0 0 A) (F0 mm 78 ls [])) → (∀ (m : nMd) (u1 : Int32) (u2 : Int32) (u4 : Int32) (u5 : Int32) (u6 : Int32) (u8 : Int32) (u9 : Int32), K m u1 u2 u4 u5 u6 u8 u9 = some q → ∀ (H : Heap) (locs : List Loc) (ls : Array Slot), nn_W D cy ad A ss.heap (sM σ m) H locs → lv_has ls 10 [(0, .ref (ad (136))), (1, .int (u1)), (2, .int (u2)), (4, .int (u4)), (5, .int (u5)), (6, .int (u6)), (8, .int (u8)), (9, .int (u9))] → W pp l ee (nn_R 6) ss mm ([.ref (ad (136)), .int (a1), .int (a2), .int (a3), .int (a4), .int (a5), .int (a6)] : List Value).toArray bb me co H locs 0 0 (MQ bb (nn_qi D cy ad A q.1 σ') ([.ref (ad (136)), .int (a1), .int (a2), .int (a3), .int (a4), .int (a5), .int (a6)] : List Value).toArray ss 0 0 A) (F0 mm 154 ls [])) → f_X7_heard_J91 m u1 u2 u4 u5 u6 u8 u9 s0 s1 RC K = some q → ∀ (H : Heap) (locs : List Loc) (ls : Array Slot), nn_W D cy ad A ss.heap (sM σ m) H locs → lv_has ls 10 [(0, .ref (ad (136))), (1, .int (u1)), (2, .int (u2)), (4, .int (u4)), (5, .int (u5)), (6, .int (u6)), (8, .int (u8)), (9, .int (u9))] → W pp l ee (nn_R 6) ss mm ([.ref (ad (136)), .int (a1), .int (a2), .int (a3), .int (a4), .int (a5), .int (a6)] : List Value).toArray bb me co H locs 0 0 (MQ bb (nn_qi D cy ad A q.1 σ') ([.ref (ad (136)), .int (a1), .int (a2), .int (a3), .int (a4), .int (a5), .int (a6)] : List Value).toArray ss 0 0 A) (F0 mm 91 ls [.int (s0), .int (s1)]) := by
    intro m u1 u2 u4 u5 u6 u8 u9 s0 s1 RC K hRC hKK hf H locs ls hw hl
    unfold f_X7_heard_J91 at hf
    refine lv_icmp_ge (tgt := 154) hx hb dX7_heard_91 (by decide) (fun c_22 => ?_) (fun c_22 => ?_)
    · rw [if_pos c_22] at hf
      exact hKK m u1 u2 u4 u5 u6 u8 u9 hf _ _ _ hw (lv_sub hl [0, 1, 2, 3, 4, 5, 6, 7] rfl)
    · rw [if_neg c_22] at hf
      refine lv_aload_n hx hb dX7_heard_94 rfl (lv_at hl 0 rfl) ?_
      refine lv_iload_n hx hb dX7_heard_95 rfl (lv_at hl 1 rfl) ?_
      refine lv_iconst (v := 2) hx hb dX7_heard_96 (by decide) ?_
      refine lv_iload hx hb dX7_heard_97 (lv_at hl 5 rfl) ?_
      refine lv_imul hx hb dX7_heard_99 ?_
      refine lv_iload hx hb dX7_heard_100 (lv_at hl 5 rfl) ?_
      refine lv_if_ne (tgt := 110) hx hb dX7_heard_102 (by decide) (fun c_23 => ?_) (fun c_23 => ?_)
      · rw [if_neg c_23] at hf
        refine lv_iload hx hb dX7_heard_110 (lv_at hl 7 rfl) ?_
        refine lv_bipush (v := 9) hx hb dX7_heard_112 (by decide) ?_
        refine lv_isub hx hb dX7_heard_114 ?_
        exact J115 m u1 u2 u4 u5 u6 u8 u9 (u9 - (9 : Int32)) ((2 : Int32) * u6) u1 RC K hRC hKK hf _ _ _ hw (lv_sub hl [0, 1, 2, 3, 4, 5, 6, 7] rfl)
      · rw [if_pos c_23] at hf
        refine lv_iload hx hb dX7_heard_105 (lv_at hl 7 rfl) ?_
        refine lv_goto (tgt := 115) hx hb dX7_heard_107 (by decide) ?_
        exact J115 m u1 u2 u4 u5 u6 u8 u9 u9 ((2 : Int32) * u6) u1 RC K hRC hKK hf _ _ _ hw (lv_sub hl [0, 1, 2, 3, 4, 5, 6, 7] rfl)
  have L78 : ∀ (n : Nat) (m : nMd) (u1 : Int32) (u2 : Int32) (u4 : Int32) (u5 : Int32) (u6 : Int32) (u8 : Int32) (u9 : Int32) (K : nMd → Int32 → Int32 → Int32 → Int32 → Int32 → Int32 → Int32 → Option (Int32 × nMd)), (∀ (m : nMd) (u1 : Int32) (u2 : Int32) (u4 : Int32) (u5 : Int32) (u6 : Int32) (u8 : Int32) (u9 : Int32), K m u1 u2 u4 u5 u6 u8 u9 = some q → ∀ (H : Heap) (locs : List Loc) (ls : Array Slot), nn_W D cy ad A ss.heap (sM σ m) H locs → lv_has ls 10 [(0, .ref (ad (136))), (1, .int (u1)), (2, .int (u2)), (4, .int (u4)), (5, .int (u5)), (6, .int (u6)), (8, .int (u8)), (9, .int (u9))] → W pp l ee (nn_R 6) ss mm ([.ref (ad (136)), .int (a1), .int (a2), .int (a3), .int (a4), .int (a5), .int (a6)] : List Value).toArray bb me co H locs 0 0 (MQ bb (nn_qi D cy ad A q.1 σ') ([.ref (ad (136)), .int (a1), .int (a2), .int (a3), .int (a4), .int (a5), .int (a6)] : List Value).toArray ss 0 0 A) (F0 mm 154 ls [])) → f_X7_heard_L78 n m u1 u2 u4 u5 u6 u8 u9 K = some q → ∀ (H : Heap) (locs : List Loc) (ls : Array Slot), nn_W D cy ad A ss.heap (sM σ m) H locs → lv_has ls 10 [(0, .ref (ad (136))), (1, .int (u1)), (2, .int (u2)), (4, .int (u4)), (5, .int (u5)), (6, .int (u6)), (8, .int (u8)), (9, .int (u9))] → W pp l ee (nn_R 6) ss mm ([.ref (ad (136)), .int (a1), .int (a2), .int (a3), .int (a4), .int (a5), .int (a6)] : List Value).toArray bb me co H locs 0 0 (MQ bb (nn_qi D cy ad A q.1 σ') ([.ref (ad (136)), .int (a1), .int (a2), .int (a3), .int (a4), .int (a5), .int (a6)] : List Value).toArray ss 0 0 A) (F0 mm 78 ls []) := by
    intro n
    induction n with
    | zero => intro m u1 u2 u4 u5 u6 u8 u9 K hKK hf; exact absurd hf (by simp [f_X7_heard_L78])
    | succ n ih =>
      intro m u1 u2 u4 u5 u6 u8 u9 K hKK hf H locs ls hw hl
      rw [f_X7_heard_L78] at hf
      refine lv_iload hx hb dX7_heard_78 (lv_at hl 7 rfl) ?_
      refine lv_iload hx hb dX7_heard_80 (lv_at hl 5 rfl) ?_
      refine lv_if_ne (tgt := 89) hx hb dX7_heard_82 (by decide) (fun c_21 => ?_) (fun c_21 => ?_)
      · rw [if_neg c_21] at hf
        refine lv_bipush (v := 19) hx hb dX7_heard_89 (by decide) ?_
        exact J91 m u1 u2 u4 u5 u6 u8 u9 (19 : Int32) u9 _ K (fun m u1 u2 u4 u5 u6 u8 u9 hf H locs ls hw hl => ih m u1 u2 u4 u5 u6 u8 u9 K hKK hf H locs ls hw hl) hKK hf _ _ _ hw (lv_sub hl [0, 1, 2, 3, 4, 5, 6, 7] rfl)
      · rw [if_pos c_21] at hf
        refine lv_iconst (v := 5) hx hb dX7_heard_85 (by decide) ?_
        refine lv_goto (tgt := 91) hx hb dX7_heard_86 (by decide) ?_
        exact J91 m u1 u2 u4 u5 u6 u8 u9 (5 : Int32) u9 _ K (fun m u1 u2 u4 u5 u6 u8 u9 hf H locs ls hw hl => ih m u1 u2 u4 u5 u6 u8 u9 K hKK hf H locs ls hw hl) hKK hf _ _ _ hw (lv_sub hl [0, 1, 2, 3, 4, 5, 6, 7] rfl)
  refine lv_aload_n hx hb dX7_heard_0 rfl (lv_at hl 0 rfl) ?_
  refine lv_iload_n hx hb dX7_heard_1 rfl (lv_at hl 1 rfl) ?_
  obtain ⟨q_1, h_2, hf⟩ := nn_bind hf
  refine nn_calliV S (As := [.int (a1)]) (rest := []) (ce_M (k := 0)) (by decide) rfl rfl (c_X7_isVillage l D cy ad A (sM σ m) m rfl a1 q_1 h_2) mv_X7_isVillage tb_3_232 hK hw ⟨Nat.le_of_ble_eq_true rfl, Nat.le_of_ble_eq_true rfl⟩ ⟨Nat.zero_le _, Nat.zero_le _⟩ rfl hl.1 rfl (Nat.le_of_ble_eq_true rfl) dX7_heard_2 (fun H locs hw => ?_)
  refine lv_if_eq (tgt := 46) hx hb dX7_heard_5 (by decide) (fun c_3 => ?_) (fun c_3 => ?_)
  · rw [if_pos c_3] at hf
    refine lv_iconst (v := -1) hx hb dX7_heard_46 (by decide) ?_
    obtain rfl := Option.some.inj hf
    exact nn_iret S hr hlk hw rfl hσ dX7_heard_47
  · rw [if_neg c_3] at hf
    refine lv_iload_n hx hb dX7_heard_8 rfl (lv_at hl 2 rfl) ?_
    obtain ⟨q_4, h_5, hf⟩ := nn_bind hf
    refine nn_calliS S (As := [.int (a2)]) (rest := []) (c_X7_isSheet l D cy ad A (sM σ m) a2 q_4 h_5) mv_X7_isSheet tb_4_215 hK hw ⟨Nat.le_of_ble_eq_true rfl, Nat.le_of_ble_eq_true rfl⟩ ⟨Nat.zero_le _, Nat.zero_le _⟩ rfl hl.1 rfl (Nat.le_of_ble_eq_true rfl) dX7_heard_9 (fun H locs hw => ?_)
    refine lv_if_eq (tgt := 46) hx hb dX7_heard_12 (by decide) (fun c_6 => ?_) (fun c_6 => ?_)
    · rw [if_pos c_6] at hf
      refine lv_iconst (v := -1) hx hb dX7_heard_46 (by decide) ?_
      obtain rfl := Option.some.inj hf
      exact nn_iret S hr hlk hw rfl hσ dX7_heard_47
    · rw [if_neg c_6] at hf
      refine lv_iload_n hx hb dX7_heard_15 rfl (lv_at hl 3 rfl) ?_
      obtain ⟨q_7, h_8, hf⟩ := nn_bind hf
      refine nn_calliS S (As := [.int (a3)]) (rest := []) (c_X7_isLane l D cy ad A (sM σ m) a3 q_7 h_8) mv_X7_isLane tb_4_219 hK hw ⟨Nat.le_of_ble_eq_true rfl, Nat.le_of_ble_eq_true rfl⟩ ⟨Nat.zero_le _, Nat.zero_le _⟩ rfl hl.1 rfl (Nat.le_of_ble_eq_true rfl) dX7_heard_16 (fun H locs hw => ?_)
      refine lv_if_eq (tgt := 46) hx hb dX7_heard_19 (by decide) (fun c_9 => ?_) (fun c_9 => ?_)
      · rw [if_pos c_9] at hf
        refine lv_iconst (v := -1) hx hb dX7_heard_46 (by decide) ?_
        obtain rfl := Option.some.inj hf
        exact nn_iret S hr hlk hw rfl hσ dX7_heard_47
      · rw [if_neg c_9] at hf
        refine lv_iload hx hb dX7_heard_22 (lv_at hl 5 rfl) ?_
        refine lv_i2l (v := a5.toInt64) hx hb dX7_heard_24 rfl ?_
        refine lv_lconst (v := 1) hx hb dX7_heard_25 (by decide) ?_
        refine lv_ldc2 (v := 8) hx hb S.2.2.2.1 (S.2.2.2.2 _ tb_4_222) dX7_heard_26 ?_
        obtain ⟨q_10, h_11, hf⟩ := nn_bind hf
        refine nn_calliS S (As := [.long (a5.toInt64), .long ((1 : Int64)), .long ((8 : Int64))]) (rest := []) (c_X7_in l D cy ad A (sM σ m) a5.toInt64 (1 : Int64) (8 : Int64) q_10 h_11) mv_X7_in tb_3_214 hK hw ⟨Nat.le_of_ble_eq_true rfl, Nat.le_of_ble_eq_true rfl⟩ ⟨Nat.zero_le _, Nat.zero_le _⟩ rfl hl.1 rfl (Nat.le_of_ble_eq_true rfl) dX7_heard_29 (fun H locs hw => ?_)
        refine lv_if_eq (tgt := 46) hx hb dX7_heard_32 (by decide) (fun c_12 => ?_) (fun c_12 => ?_)
        · rw [if_pos c_12] at hf
          refine lv_iconst (v := -1) hx hb dX7_heard_46 (by decide) ?_
          obtain rfl := Option.some.inj hf
          exact nn_iret S hr hlk hw rfl hσ dX7_heard_47
        · rw [if_neg c_12] at hf
          refine lv_iload hx hb dX7_heard_35 (lv_at hl 6 rfl) ?_
          refine lv_i2l (v := a6.toInt64) hx hb dX7_heard_37 rfl ?_
          refine lv_lconst (v := 0) hx hb dX7_heard_38 (by decide) ?_
          refine lv_lconst (v := 1) hx hb dX7_heard_39 (by decide) ?_
          obtain ⟨q_13, h_14, hf⟩ := nn_bind hf
          refine nn_calliS S (As := [.long (a6.toInt64), .long ((0 : Int64)), .long ((1 : Int64))]) (rest := []) (c_X7_in l D cy ad A (sM σ m) a6.toInt64 (0 : Int64) (1 : Int64) q_13 h_14) mv_X7_in tb_3_214 hK hw ⟨Nat.le_of_ble_eq_true rfl, Nat.le_of_ble_eq_true rfl⟩ ⟨Nat.zero_le _, Nat.zero_le _⟩ rfl hl.1 rfl (Nat.le_of_ble_eq_true rfl) dX7_heard_40 (fun H locs hw => ?_)
          refine lv_if_ne (tgt := 48) hx hb dX7_heard_43 (by decide) (fun c_15 => ?_) (fun c_15 => ?_)
          · rw [if_neg c_15] at hf
            refine lv_aload_n hx hb dX7_heard_48 rfl (lv_at hl 0 rfl) ?_
            refine lv_iload_n hx hb dX7_heard_49 rfl (lv_at hl 2 rfl) ?_
            refine lv_iload_n hx hb dX7_heard_50 rfl (lv_at hl 3 rfl) ?_
            refine lv_iload hx hb dX7_heard_51 (lv_at hl 4 rfl) ?_
            refine lv_iload hx hb dX7_heard_53 (lv_at hl 5 rfl) ?_
            obtain ⟨q_16, h_17, hf⟩ := nn_bind hf
            refine nn_calliV S (As := [.int (a2), .int (a3), .int (a4), .int (a5)]) (rest := []) (ce_M (k := 0)) (by decide) rfl rfl (c_X7_why l D cy ad A (sM σ m) m rfl a2 a3 a4 a5 q_16 h_17) mv_X7_why tb_4_223 hK hw ⟨Nat.le_of_ble_eq_true rfl, Nat.le_of_ble_eq_true rfl⟩ ⟨Nat.zero_le _, Nat.zero_le _⟩ rfl hl.1 rfl (Nat.le_of_ble_eq_true rfl) dX7_heard_55 (fun H locs hw => ?_)
            refine lv_istore (lv' := [(7, .int (q_16)), (0, .ref (ad (136))), (1, .int (a1)), (2, .int (a2)), (3, .int (a3)), (4, .int (a4)), (5, .int (a5)), (6, .int (a6))]) hx hb dX7_heard_58 hl (by decide) rfl (fun ls hl => ?_)
            refine lv_iload hx hb dX7_heard_60 (lv_at hl 0 rfl) ?_
            refine lv_if_ge (tgt := 68) hx hb dX7_heard_62 (by decide) (fun c_18 => ?_) (fun c_18 => ?_)
            · rw [if_pos c_18] at hf
              refine lv_iconst (v := 0) hx hb dX7_heard_68 (by decide) ?_
              refine lv_istore (lv' := [(8, .int ((0 : Int32))), (7, .int (q_16)), (0, .ref (ad (136))), (1, .int (a1)), (2, .int (a2)), (3, .int (a3)), (4, .int (a4)), (5, .int (a5)), (6, .int (a6))]) hx hb dX7_heard_69 hl (by decide) rfl (fun ls hl => ?_)
              refine lv_aload_n hx hb dX7_heard_71 rfl (lv_at hl 2 rfl) ?_
              obtain ⟨q_19, h_20, hf⟩ := nn_bind hf
              refine nn_callvV S (As := []) (rest := []) (ce_M (k := 0)) (by decide) rfl rfl (c_X7_asides l D cy ad A (sM σ m) m rfl q_19 h_20 (sM σ q_19) rfl) mv_X7_asides tb_4_129 hK hw ⟨Nat.le_of_ble_eq_true rfl, Nat.le_of_ble_eq_true rfl⟩ ⟨Nat.zero_le _, Nat.zero_le _⟩ rfl hl.1 rfl (Nat.le_of_ble_eq_true rfl) dX7_heard_72 (fun H locs hw => ?_)
              refine lv_iconst (v := 0) hx hb dX7_heard_75 (by decide) ?_
              refine lv_istore (lv' := [(9, .int ((0 : Int32))), (8, .int ((0 : Int32))), (7, .int (q_16)), (0, .ref (ad (136))), (1, .int (a1)), (2, .int (a2)), (3, .int (a3)), (4, .int (a4)), (5, .int (a5)), (6, .int (a6))]) hx hb dX7_heard_76 hl (by decide) rfl (fun ls hl => ?_)
              refine L78 100000 q_19 a1 a2 a4 a5 a6 (0 : Int32) (0 : Int32) _ (fun m_36 b1_29 b2_30 b4_31 b5_32 b6_33 b8_34 b9_35 hf H locs ls hw hl => ?_) hf _ _ _ hw (lv_sub hl [3, 4, 5, 7, 8, 9, 1, 0] rfl)
              refine lv_iload hx hb dX7_heard_154 (lv_at hl 6 rfl) ?_
              obtain rfl := Option.some.inj hf
              exact nn_iret S hr hlk hw rfl hσ dX7_heard_156
            · rw [if_neg c_18] at hf
              refine lv_iload hx hb dX7_heard_65 (lv_at hl 0 rfl) ?_
              obtain rfl := Option.some.inj hf
              exact nn_iret S hr hlk hw rfl hσ dX7_heard_67
          · rw [if_pos c_15] at hf
            refine lv_iconst (v := -1) hx hb dX7_heard_46 (by decide) ?_
            obtain rfl := Option.some.inj hf
            exact nn_iret S hr hlk hw rfl hσ dX7_heard_47
