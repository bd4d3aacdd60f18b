set_option maxRecDepth 100000 in
set_option maxHeartbeats 4000000 in
theorem c_X0_hearFirst_o (l : Launch) (D : va_G) (cy : Nat → ClassId) (ad : Nat → Nat) (A : Nat → Prop) (d : Nat) (rc : nCa → nVl → Int32 → Int32 → Int32 → Int32 → Option (nCa)) (hrc : ∀ (σ : nG) (v : Nat) (hn_v : v < 19) (ca : nCa) (hx_Ca : gCa σ = ca) (x : nVl) (hx_Vv : gV σ v = x) (a2 : Int32) (a3 : Int32) (a4 : Int32) (a5 : Int32) (q : nCa) (hf : rc ca x a2 a3 a4 a5 = some q) (σ' : nG) (hσ : (sCa σ q) = σ'), nn_V l yX0_hearRest (nn_ws yX0_hearRest cX0_hearRest 8 none) (nn_R (d)) D cy ad A [.ref (ad (122)), .ref (ad (6*v)), .int (a2), .int (a3), .int (a4), .int (a5)] σ σ') (σ : nG) (v : Nat) (hn_v : v < 19) (ca : nCa) (hx_Ca : gCa σ = ca) (x : nVl) (hx_Vv : gV σ v = x) (a2 : Int32) (a3 : Int32) (a4 : Int32) (a5 : Int32) (q : nCa) (hf : f_X0_hearFirst_o rc ca x a2 a3 a4 a5 = some q) (σ' : nG) (hσ : (sCa σ q) = σ') : nn_V l yX0_hearFirst (nn_ws yX0_hearFirst cX0_hearFirst 7 none) (nn_R (d + 5)) D cy ad A [.ref (ad (122)), .ref (ad (6*v)), .int (a2), .int (a3), .int (a4), .int (a5)] σ σ' := by
  refine nn_enterV (plainFor_of_name (by decide +kernel)) (Nat.le_of_ble_eq_true rfl) (lv := [(0, .ref (ad (122))), (1, .ref (ad (6*v))), (2, .int (a2)), (3, .int (a3)), (4, .int (a4)), (5, .int (a5))]) rfl ?_
  intro pp ee ss mm bb me co S hr hlk hK hw ls hl
  have hx := S.1
  have hb := S.2.1
  have hw : nn_W D cy ad A ss.heap (sCa σ ca) ss.heap [] := nn_W.eq (by rw [← hx_Ca]; rfl) hw
  unfold f_X0_hearFirst_o at hf
  refine lv_iload_n hx hb dX0_hearFirst_0 rfl (lv_at hl 3 rfl) ?_
  refine lv_aload_n hx hb dX0_hearFirst_1 rfl (lv_at hl 1 rfl) ?_
  refine gf_Vl_minutes S hK hw (v := v) hn_v tb_1_32 dX0_hearFirst_2 ?_
  refine lv_iload_n hx hb dX0_hearFirst_5 rfl (lv_at hl 2 rfl) ?_
  obtain ⟨g_1, hf⟩ := nn_ix_some hf
  refine al_Vl_minutes S hK hw (v := v) hn_v (x := x) hx_Vv g_1 dX0_hearFirst_6 ?_
  refine lv_iload_n hx hb dX0_hearFirst_7 rfl (lv_at hl 3 rfl) ?_
  refine lv_isub hx hb dX0_hearFirst_8 ?_
  obtain ⟨q_2, h_3, hf⟩ := nn_bind hf
  refine nn_calliN S (As := [.int (((g_Vl_minutes x) a2.toNatClampNeg) - a3)]) (rest := [.int (a3)]) (c_X6_roundTheHour l D cy ad A (sCa σ ca) (((g_Vl_minutes x) a2.toNatClampNeg) - a3) q_2 h_3) mv_X6_roundTheHour (nw_13 hK.2) hK hw ⟨by show 1 + 1 ≤ (d + 5); omega, by show 8 + (1 + 11) + 100 * 1 ≤ 100 * (d + 5); omega⟩ ⟨Nat.zero_le _, Nat.zero_le _⟩ rfl hl.1 rfl (Nat.le_of_ble_eq_true rfl) dX0_hearFirst_9 (fun H locs hw => ?_)
  refine lv_iadd hx hb dX0_hearFirst_12 ?_
  refine lv_istore (lv' := [(6, .int (a3 + q_2)), (0, .ref (ad (122))), (1, .ref (ad (6*v))), (2, .int (a2)), (3, .int (a3)), (4, .int (a4)), (5, .int (a5))]) hx hb dX0_hearFirst_13 hl (by decide) rfl (fun ls hl => ?_)
  refine lv_iload hx hb dX0_hearFirst_15 (lv_at hl 0 rfl) ?_
  refine lv_aload_n hx hb dX0_hearFirst_17 rfl (lv_at hl 1 rfl) ?_
  refine gf_Ca_bestTime S hK hw (x := ca) rfl tb_1_112 dX0_hearFirst_18 ?_
  refine lv_icmp_ge (tgt := 55) hx hb dX0_hearFirst_21 (by decide) (fun c_4 => ?_) (fun c_4 => ?_)
  · rw [if_pos c_4] at hf
    obtain rfl := Option.some.inj hf
    exact nn_vret S hr hlk hw hσ dX0_hearFirst_55
  · rw [if_neg c_4] at hf
    refine lv_aload_n hx hb dX0_hearFirst_24 rfl (lv_at hl 1 rfl) ?_
    refine gf_Ca_order S hK hw tb_1_109 dX0_hearFirst_25 ?_
    refine lv_iload hx hb dX0_hearFirst_28 (lv_at hl 6 rfl) ?_
    refine lv_iload_n hx hb dX0_hearFirst_30 rfl (lv_at hl 3 rfl) ?_
    obtain ⟨g_5, hf⟩ := nn_ix_some hf
    refine as_Ca_order S hK hw (x := ca) rfl g_5 (τ' := (sCa σ (s_Ca_order ca (upd (g_Ca_order ca) a5.toNatClampNeg a2)))) rfl dX0_hearFirst_31 (fun H locs hw => ?_)
    refine lv_aload_n hx hb dX0_hearFirst_32 rfl (lv_at hl 1 rfl) ?_
    refine lv_aload_n hx hb dX0_hearFirst_33 rfl (lv_at hl 2 rfl) ?_
    refine lv_aload_n hx hb dX0_hearFirst_34 rfl (lv_at hl 2 rfl) ?_
    refine gf_Vl_miles S hK hw (v := v) hn_v tb_1_36 dX0_hearFirst_35 ?_
    refine lv_iload_n hx hb dX0_hearFirst_38 rfl (lv_at hl 3 rfl) ?_
    obtain ⟨g_6, hf⟩ := nn_ix_some hf
    refine al_Vl_miles S hK hw (v := v) hn_v (x := x) hx_Vv g_6 dX0_hearFirst_39 ?_
    refine lv_iload hx hb dX0_hearFirst_40 (lv_at hl 0 rfl) ?_
    refine lv_iload hx hb dX0_hearFirst_42 (lv_at hl 5 rfl) ?_
    refine lv_iconst (v := 1) hx hb dX0_hearFirst_44 (by decide) ?_
    refine lv_iload_n hx hb dX0_hearFirst_45 rfl (lv_at hl 3 rfl) ?_
    refine lv_ishl hx hb dX0_hearFirst_46 ?_
    refine lv_ior hx hb dX0_hearFirst_47 ?_
    refine lv_iload hx hb dX0_hearFirst_48 (lv_at hl 6 rfl) ?_
    refine lv_iconst (v := 1) hx hb dX0_hearFirst_50 (by decide) ?_
    refine lv_iadd hx hb dX0_hearFirst_51 ?_
    obtain ⟨q_7, h_8, hf⟩ := nn_bind hf
    refine nn_callvV S (As := [.ref (ad (6*v)), .int ((g_Vl_miles x) a2.toNatClampNeg), .int (a3 + q_2), .int (a4 ||| ((1 : Int32) <<< (a2 &&& 31))), .int (a5 + (1 : Int32))]) (rest := []) (ce_O (k := 4) (by decide)) (by decide) rfl rfl (hrc (sCa σ (s_Ca_order ca (upd (g_Ca_order ca) a5.toNatClampNeg a2))) v hn_v (s_Ca_order ca (upd (g_Ca_order ca) a5.toNatClampNeg a2)) rfl x hx_Vv ((g_Vl_miles x) a2.toNatClampNeg) (a3 + q_2) (a4 ||| ((1 : Int32) <<< (a2 &&& 31))) (a5 + (1 : Int32)) q_7 h_8 (sCa σ q_7) rfl) mv_X0_hearRest tb_3_11 hK hw ⟨by show d + 1 ≤ (d + 5); omega, by show 8 + (8 + 11) + 100 * d ≤ 100 * (d + 5); omega⟩ ⟨Nat.zero_le _, Nat.zero_le _⟩ rfl hl.1 rfl (Nat.le_of_ble_eq_true rfl) dX0_hearFirst_52 (fun H locs hw => ?_)
    obtain rfl := Option.some.inj hf
    exact nn_vret S hr hlk hw hσ dX0_hearFirst_55
set_option maxRecDepth 100000 in
set_option maxHeartbeats 4000000 in
theorem c_X0_hearRest_o (l : Launch) (D : va_G) (cy : Nat → ClassId) (ad : Nat → Nat) (A : Nat → Prop) (d : Nat) (rc : nCa → nVl → Int32 → Int32 → Int32 → Int32 → Option (nCa)) (hrc : ∀ (σ : nG) (v : Nat) (hn_v : v < 19) (ca : nCa) (hx_Ca : gCa σ = ca) (x : nVl) (hx_Vv : gV σ v = x) (a2 : Int32) (a3 : Int32) (a4 : Int32) (a5 : Int32) (q : nCa) (hf : rc ca x a2 a3 a4 a5 = some q) (σ' : nG) (hσ : (sCa σ q) = σ'), nn_V l yX0_hearRest (nn_ws yX0_hearRest cX0_hearRest 8 none) (nn_R (d)) D cy ad A [.ref (ad (122)), .ref (ad (6*v)), .int (a2), .int (a3), .int (a4), .int (a5)] σ σ') (σ : nG) (v : Nat) (hn_v : v < 19) (ca : nCa) (hx_Ca : gCa σ = ca) (x : nVl) (hx_Vv : gV σ v = x) (a2 : Int32) (a3 : Int32) (a4 : Int32) (a5 : Int32) (q : nCa) (hf : f_X0_hearRest_o rc ca x a2 a3 a4 a5 = some q) (σ' : nG) (hσ : (sCa σ q) = σ') : nn_V l yX0_hearRest (nn_ws yX0_hearRest cX0_hearRest 8 none) (nn_R (d + 6)) D cy ad A [.ref (ad (122)), .ref (ad (6*v)), .int (a2), .int (a3), .int (a4), .int (a5)] σ σ' := by
  refine nn_enterV (plainFor_of_name (by decide +kernel)) (Nat.le_of_ble_eq_true rfl) (lv := [(0, .ref (ad (122))), (1, .ref (ad (6*v))), (2, .int (a2)), (3, .int (a3)), (4, .int (a4)), (5, .int (a5))]) rfl ?_
  intro pp ee ss mm bb me co S hr hlk hK hw ls hl
  have hx := S.1
  have hb := S.2.1
  have hw : nn_W D cy ad A ss.heap (sCa σ ca) ss.heap [] := nn_W.eq (by rw [← hx_Ca]; rfl) hw
  unfold f_X0_hearRest_o at hf
  have L33 : ∀ (n : Nat) (ca : nCa) (u2 : Int32) (u3 : Int32) (u4 : Int32) (u5 : Int32) (u6 : Int32) (K : nCa → Int32 → Int32 → Int32 → Int32 → Int32 → Option (nCa)), (∀ (ca : nCa) (u2 : Int32) (u3 : Int32) (u4 : Int32) (u5 : Int32) (u6 : Int32), K ca u2 u3 u4 u5 u6 = some q → ∀ (H : Heap) (locs : List Loc) (ls : Array Slot), nn_W D cy ad A ss.heap (sCa σ ca) H locs → lv_has ls 8 [(0, .ref (ad (122))), (1, .ref (ad (6*v))), (2, .int (u2)), (3, .int (u3)), (4, .int (u4)), (5, .int (u5)), (6, .int (u6))] → W pp l ee (nn_R (d + 6)) ss mm ([.ref (ad (122)), .ref (ad (6*v)), .int (a2), .int (a3), .int (a4), .int (a5)] : List Value).toArray bb me co H locs 0 0 (MQ bb (nn_qv D cy ad A σ') ([.ref (ad (122)), .ref (ad (6*v)), .int (a2), .int (a3), .int (a4), .int (a5)] : List Value).toArray ss 0 0 A) (F0 mm 92 ls [])) → f_X0_hearRest_L33 rc x n ca u2 u3 u4 u5 u6 K = some q → ∀ (H : Heap) (locs : List Loc) (ls : Array Slot), nn_W D cy ad A ss.heap (sCa σ ca) H locs → lv_has ls 8 [(0, .ref (ad (122))), (1, .ref (ad (6*v))), (2, .int (u2)), (3, .int (u3)), (4, .int (u4)), (5, .int (u5)), (6, .int (u6))] → W pp l ee (nn_R (d + 6)) ss mm ([.ref (ad (122)), .ref (ad (6*v)), .int (a2), .int (a3), .int (a4), .int (a5)] : List Value).toArray bb me co H locs 0 0 (MQ bb (nn_qv D cy ad A σ') ([.ref (ad (122)), .ref (ad (6*v)), .int (a2), .int (a3), .int (a4), .int (a5)] : List Value).toArray ss 0 0 A) (F0 mm 33 ls []) := by
    intro n
    induction n with
    | zero => intro ca u2 u3 u4 u5 u6 K hKK hf; exact absurd hf (by simp [f_X0_hearRest_L33])
    | succ n ih =>
      intro ca u2 u3 u4 u5 u6 K hKK hf H locs ls hw hl
      rw [f_X0_hearRest_L33] at hf
      refine lv_iload hx hb dX0_hearRest_33 (lv_at hl 6 rfl) ?_
      refine lv_aload_n hx hb dX0_hearRest_35 rfl (lv_at hl 1 rfl) ?_
      refine gf_Vl_villages S hK hw (v := v) hn_v (x := x) hx_Vv tb_1_42 dX0_hearRest_36 ?_
      refine lv_icmp_ge (tgt := 92) hx hb dX0_hearRest_39 (by decide) (fun c_2 => ?_) (fun c_2 => ?_)
      · rw [if_pos c_2] at hf
        exact hKK ca u2 u3 u4 u5 u6 hf _ _ _ hw (lv_sub hl [0, 1, 2, 3, 4, 5, 6] rfl)
      · rw [if_neg c_2] at hf
        refine lv_iload hx hb dX0_hearRest_42 (lv_at hl 4 rfl) ?_
        refine lv_iload hx hb dX0_hearRest_44 (lv_at hl 6 rfl) ?_
        obtain ⟨q_3, h_4, hf⟩ := nn_bind hf
        refine nn_calliN S (As := [.int (u4), .int (u6)]) (rest := []) (c_X6_isIn l D cy ad A (sCa σ ca) u4 u6 q_3 h_4) mv_X6_isIn (nw_12 hK.2) hK hw ⟨by show 0 + 1 ≤ (d + 6); omega, by show 8 + (2 + 11) + 100 * 0 ≤ 100 * (d + 6); omega⟩ ⟨Nat.zero_le _, Nat.zero_le _⟩ rfl hl.1 rfl (Nat.le_of_ble_eq_true rfl) dX0_hearRest_46 (fun H locs hw => ?_)
        refine lv_if_ne (tgt := 86) hx hb dX0_hearRest_49 (by decide) (fun c_5 => ?_) (fun c_5 => ?_)
        · rw [if_neg c_5] at hf
          refine lv_iinc (v := u6 + (1 : Int32)) (lv' := [(6, .int (u6 + (1 : Int32))), (0, .ref (ad (122))), (1, .ref (ad (6*v))), (2, .int (u2)), (3, .int (u3)), (4, .int (u4)), (5, .int (u5))]) hx hb dX0_hearRest_86 hl (k := 6) rfl (congrArg (fun z => u6 + z) (by decide)) (by decide) rfl (fun ls hl => ?_)
          refine lv_goto (tgt := 33) hx hb dX0_hearRest_89 (by decide) ?_
          exact ih ca u2 u3 u4 u5 (u6 + (1 : Int32)) K hKK hf _ _ _ hw (lv_sub hl [1, 2, 3, 4, 5, 6, 0] rfl)
        · rw [if_pos c_5] at hf
          refine lv_iload_n hx hb dX0_hearRest_52 rfl (lv_at hl 3 rfl) ?_
          refine lv_aload_n hx hb dX0_hearRest_53 rfl (lv_at hl 1 rfl) ?_
          refine gf_Vl_miles S hK hw (v := v) hn_v tb_1_36 dX0_hearRest_54 ?_
          refine lv_iload hx hb dX0_hearRest_57 (lv_at hl 6 rfl) ?_
          obtain ⟨g_6, hf⟩ := nn_ix_some hf
          refine al_Vl_miles S hK hw (v := v) hn_v (x := x) hx_Vv g_6 dX0_hearRest_59 ?_
          refine lv_iload_n hx hb dX0_hearRest_60 rfl (lv_at hl 2 rfl) ?_
          refine lv_isub hx hb dX0_hearRest_61 ?_
          obtain ⟨q_7, h_8, hf⟩ := nn_bind hf
          refine nn_calliS S (As := [.int (((g_Vl_miles x) u6.toNatClampNeg) - u2)]) (rest := [.int (u3)]) (c_J9_abs_0f7a4 l D cy ad A (sCa σ ca) (((g_Vl_miles x) u6.toNatClampNeg) - u2) q_7 h_8) mv_J9_abs_0f7a4 tb_3_19 hK hw ⟨by show 0 + 1 ≤ (d + 6); omega, by show 8 + (1 + 11) + 100 * 0 ≤ 100 * (d + 6); omega⟩ ⟨Nat.zero_le _, Nat.zero_le _⟩ rfl hl.1 rfl (Nat.le_of_ble_eq_true rfl) dX0_hearRest_62 (fun H locs hw => ?_)
          refine lv_aload_n hx hb dX0_hearRest_65 rfl (lv_at hl 0 rfl) ?_
          refine gf_Ca_minutesAMile S hK hw (x := ca) rfl tb_1_113 dX0_hearRest_66 ?_
          refine lv_imul hx hb dX0_hearRest_69 ?_
          refine lv_iadd hx hb dX0_hearRest_70 ?_
          refine lv_istore (lv' := [(7, .int (u3 + (q_7 * (g_Ca_minutesAMile ca)))), (0, .ref (ad (122))), (1, .ref (ad (6*v))), (2, .int (u2)), (3, .int (u3)), (4, .int (u4)), (5, .int (u5)), (6, .int (u6))]) hx hb dX0_hearRest_71 hl (by decide) rfl (fun ls hl => ?_)
          refine lv_aload_n hx hb dX0_hearRest_73 rfl (lv_at hl 1 rfl) ?_
          refine lv_aload_n hx hb dX0_hearRest_74 rfl (lv_at hl 2 rfl) ?_
          refine lv_iload hx hb dX0_hearRest_75 (lv_at hl 7 rfl) ?_
          refine lv_iload hx hb dX0_hearRest_77 (lv_at hl 0 rfl) ?_
          refine lv_iload hx hb dX0_hearRest_79 (lv_at hl 5 rfl) ?_
          refine lv_iload hx hb dX0_hearRest_81 (lv_at hl 6 rfl) ?_
          obtain ⟨q_9, h_10, hf⟩ := nn_bind hf
          refine nn_callvV S (As := [.ref (ad (6*v)), .int (u6), .int (u3 + (q_7 * (g_Ca_minutesAMile ca))), .int (u4), .int (u5)]) (rest := []) (ce_O (k := 4) (by decide)) (by decide) rfl rfl (c_X0_hearFirst_o l D cy ad A d rc hrc (sCa σ ca) v hn_v ca rfl x hx_Vv u6 (u3 + (q_7 * (g_Ca_minutesAMile ca))) u4 u5 q_9 h_10 (sCa σ q_9) rfl) mv_X0_hearFirst tb_3_20 hK hw ⟨by show (d + 5) + 1 ≤ (d + 6); omega, by show 8 + (7 + 11) + 100 * (d + 5) ≤ 100 * (d + 6); omega⟩ ⟨Nat.zero_le _, Nat.zero_le _⟩ rfl hl.1 rfl (Nat.le_of_ble_eq_true rfl) dX0_hearRest_83 (fun H locs hw => ?_)
          refine lv_iinc (v := u6 + (1 : Int32)) (lv' := [(6, .int (u6 + (1 : Int32))), (7, .int (u3 + (q_7 * (g_Ca_minutesAMile ca)))), (0, .ref (ad (122))), (1, .ref (ad (6*v))), (2, .int (u2)), (3, .int (u3)), (4, .int (u4)), (5, .int (u5))]) hx hb dX0_hearRest_86 hl (k := 7) rfl (congrArg (fun z => u6 + z) (by decide)) (by decide) rfl (fun ls hl => ?_)
          refine lv_goto (tgt := 33) hx hb dX0_hearRest_89 (by decide) ?_
          exact ih q_9 u2 u3 u4 u5 (u6 + (1 : Int32)) K hKK hf _ _ _ hw (lv_sub hl [2, 3, 4, 5, 6, 7, 0] rfl)
  refine lv_iload hx hb dX0_hearRest_0 (lv_at hl 5 rfl) ?_
  refine lv_aload_n hx hb dX0_hearRest_2 rfl (lv_at hl 1 rfl) ?_
  refine gf_Vl_villages S hK hw (v := v) hn_v (x := x) hx_Vv tb_1_42 dX0_hearRest_3 ?_
  refine lv_icmp_lt (tgt := 30) hx hb dX0_hearRest_6 (by decide) (fun c_1 => ?_) (fun c_1 => ?_)
  · rw [if_pos c_1] at hf
    refine lv_iconst (v := 0) hx hb dX0_hearRest_30 (by decide) ?_
    refine lv_istore (lv' := [(6, .int ((0 : Int32))), (0, .ref (ad (122))), (1, .ref (ad (6*v))), (2, .int (a2)), (3, .int (a3)), (4, .int (a4)), (5, .int (a5))]) hx hb dX0_hearRest_31 hl (by decide) rfl (fun ls hl => ?_)
    refine L33 100000 ca a2 a3 a4 a5 (0 : Int32) _ (fun ca_16 b2_11 b3_12 b4_13 b5_14 b6_15 hf H locs ls hw hl => ?_) hf _ _ _ hw (lv_sub hl [1, 2, 3, 4, 5, 6, 0] rfl)
    obtain rfl := Option.some.inj hf
    exact nn_vret S hr hlk hw hσ dX0_hearRest_92
  · rw [if_neg c_1] at hf
    refine lv_aload_n hx hb dX0_hearRest_9 rfl (lv_at hl 0 rfl) ?_
    refine lv_iload_n hx hb dX0_hearRest_10 rfl (lv_at hl 3 rfl) ?_
    refine pf_Ca_bestTime S hK hw (x := ca) rfl (τ' := (sCa σ (s_Ca_bestTime ca a3))) rfl tb_1_112 dX0_hearRest_11 (fun H locs hw => ?_)
    refine lv_aload_n hx hb dX0_hearRest_14 rfl (lv_at hl 0 rfl) ?_
    refine gf_Ca_order S hK hw tb_1_109 dX0_hearRest_15 ?_
    refine lv_iconst (v := 0) hx hb dX0_hearRest_18 (by decide) ?_
    refine lv_aload_n hx hb dX0_hearRest_19 rfl (lv_at hl 0 rfl) ?_
    refine gf_Ca_bestOrder S hK hw tb_1_110 dX0_hearRest_20 ?_
    refine lv_iconst (v := 0) hx hb dX0_hearRest_23 (by decide) ?_
    refine lv_bipush (v := 6) hx hb dX0_hearRest_24 (by decide) ?_
    obtain ⟨ca_17, h_18, hf⟩ := nn_bind hf
    replace h_18 := Option.some.inj h_18
    refine ac_Ca S hK hw (x := (s_Ca_bestTime ca a3)) rfl (by decide) (by decide) (by decide) (by decide) (by decide) hl.1 (by show 1 ≤ (d + 6); omega) (Nat.le_trans (m := 100) (by decide) (by show 100 ≤ 100 * (d + 6); omega)) (τ' := (sCa σ ca_17)) ((rfl : _ = (sCa σ (s_Ca_bestOrder (s_Ca_bestTime ca a3) (va_cpy (g_Ca_order (s_Ca_bestTime ca a3)) (g_Ca_bestOrder (s_Ca_bestTime ca a3)) (0 : Int32).toNatClampNeg (0 : Int32).toNatClampNeg (6 : Int32).toNatClampNeg)))).trans (by rw [h_18])) tb_3_15 dX0_hearRest_26 (fun H locs hw => ?_)
    obtain rfl := Option.some.inj hf
    exact nn_vret S hr hlk hw hσ dX0_hearRest_29
theorem c_X0_hearRest (l : Launch) (D : va_G) (cy : Nat → ClassId) (ad : Nat → Nat) (A : Nat → Prop) : ∀ (n : Nat), ∀ (σ : nG) (v : Nat) (hn_v : v < 19) (ca : nCa) (hx_Ca : gCa σ = ca) (x : nVl) (hx_Vv : gV σ v = x) (a2 : Int32) (a3 : Int32) (a4 : Int32) (a5 : Int32) (q : nCa) (hf : f_X0_hearRest n ca x a2 a3 a4 a5 = some q) (σ' : nG) (hσ : (sCa σ q) = σ'), nn_V l yX0_hearRest (nn_ws yX0_hearRest cX0_hearRest 8 none) (nn_R (6 * n)) D cy ad A [.ref (ad (122)), .ref (ad (6*v)), .int (a2), .int (a3), .int (a4), .int (a5)] σ σ' := by
  intro n
  induction n with
  | zero => intro σ v hn_v ca hx_Ca x hx_Vv a2 a3 a4 a5 q hf σ' hσ; exact absurd hf (by simp [f_X0_hearRest])
  | succ n ih => intro σ v hn_v ca hx_Ca x hx_Vv a2 a3 a4 a5 q hf σ' hσ; exact c_X0_hearRest_o l D cy ad A (6 * n) (f_X0_hearRest n) ih σ v hn_v ca hx_Ca x hx_Vv a2 a3 a4 a5 q hf σ' hσ
set_option maxRecDepth 100000 in
set_option maxHeartbeats 4000000 in
theorem c_X0_soonest (l : Launch) (D : va_G) (cy : Nat → ClassId) (ad : Nat → Nat) (A : Nat → Prop) (σ : nG) (v : Nat) (hn_v : v < 19) (ca : nCa) (hx_Ca : gCa σ = ca) (x : nVl) (hx_Vv : gV σ v = x) (a2 : Int32) (a3 : Int32) (a4 : Int32) (q : Int32 × nCa) (hf : f_X0_soonest ca x a2 a3 a4 = some q) (σ' : nG) (hσ : (sCa σ q.2) = σ') : nn_I l yX0_soonest (nn_ws yX0_soonest cX0_soonest 5 (some .int)) (nn_R 61) D cy ad A [.ref (ad (122)), .ref (ad (6*v)), .int (a2), .int (a3), .int (a4)] σ q.1 σ' := by
  refine nn_enterI (plainFor_of_name (by decide +kernel)) (Nat.le_of_ble_eq_true rfl) (lv := [(0, .ref (ad (122))), (1, .ref (ad (6*v))), (2, .int (a2)), (3, .int (a3)), (4, .int (a4))]) rfl ?_
  intro pp ee ss mm bb me co S hr hlk hK hw ls hl
  have hx := S.1
  have hb := S.2.1
  have hw : nn_W D cy ad A ss.heap (sCa σ ca) ss.heap [] := nn_W.eq (by rw [← hx_Ca]; rfl) hw
  unfold f_X0_soonest at hf
  refine lv_aload_n hx hb dX0_soonest_0 rfl (lv_at hl 0 rfl) ?_
  refine lv_ldc (v := 1000000) hx hb S.2.2.2.1 (S.2.2.2.2 _ tb_1_108) dX0_soonest_1 ?_
  refine pf_Ca_bestTime S hK hw (x := ca) rfl (τ' := (sCa σ (s_Ca_bestTime ca (1000000 : Int32)))) rfl tb_1_112 dX0_soonest_3 (fun H locs hw => ?_)
  refine lv_aload_n hx hb dX0_soonest_6 rfl (lv_at hl 0 rfl) ?_
  refine lv_iload hx hb dX0_soonest_7 (lv_at hl 4 rfl) ?_
  refine pf_Ca_minutesAMile S hK hw (x := (s_Ca_bestTime ca (1000000 : Int32))) rfl (τ' := (sCa σ (s_Ca_minutesAMile (s_Ca_bestTime ca (1000000 : Int32)) a4))) rfl tb_1_113 dX0_soonest_9 (fun H locs hw => ?_)
  refine lv_aload_n hx hb dX0_soonest_12 rfl (lv_at hl 0 rfl) ?_
  refine lv_aload_n hx hb dX0_soonest_13 rfl (lv_at hl 1 rfl) ?_
  refine lv_aload_n hx hb dX0_soonest_14 rfl (lv_at hl 1 rfl) ?_
  refine gf_Vl_miles S hK hw (v := v) hn_v tb_1_36 dX0_soonest_15 ?_
  refine lv_iload_n hx hb dX0_soonest_18 rfl (lv_at hl 2 rfl) ?_
  obtain ⟨g_1, hf⟩ := nn_ix_some hf
  refine al_Vl_miles S hK hw (v := v) hn_v (x := x) hx_Vv g_1 dX0_soonest_19 ?_
  refine lv_iload_n hx hb dX0_soonest_20 rfl (lv_at hl 3 rfl) ?_
  refine lv_iconst (v := 0) hx hb dX0_soonest_21 (by decide) ?_
  refine lv_iconst (v := 0) hx hb dX0_soonest_22 (by decide) ?_
  obtain ⟨q_2, h_3, hf⟩ := nn_bind hf
  refine nn_callvV S (As := [.ref (ad (6*v)), .int ((g_Vl_miles x) a2.toNatClampNeg), .int (a3), .int ((0 : Int32)), .int ((0 : Int32))]) (rest := []) (ce_O (k := 4) (by decide)) (by decide) rfl rfl (c_X0_hearRest l D cy ad A 10 (sCa σ (s_Ca_minutesAMile (s_Ca_bestTime ca (1000000 : Int32)) a4)) v hn_v (s_Ca_minutesAMile (s_Ca_bestTime ca (1000000 : Int32)) a4) rfl x hx_Vv ((g_Vl_miles x) a2.toNatClampNeg) a3 (0 : Int32) (0 : Int32) q_2 h_3 (sCa σ q_2) rfl) mv_X0_hearRest tb_3_11 hK hw ⟨Nat.le_of_ble_eq_true rfl, Nat.le_of_ble_eq_true rfl⟩ ⟨Nat.zero_le _, Nat.zero_le _⟩ rfl hl.1 rfl (Nat.le_of_ble_eq_true rfl) dX0_soonest_23 (fun H locs hw => ?_)
  refine lv_aload_n hx hb dX0_soonest_26 rfl (lv_at hl 0 rfl) ?_
  refine gf_Ca_bestTime S hK hw (x := q_2) rfl tb_1_112 dX0_soonest_27 ?_
  refine lv_iload_n hx hb dX0_soonest_30 rfl (lv_at hl 3 rfl) ?_
  refine lv_isub hx hb dX0_soonest_31 ?_
  obtain rfl := Option.some.inj hf
  exact nn_iret S hr hlk hw rfl hσ dX0_soonest_32
set_option maxRecDepth 100000 in
set_option maxHeartbeats 4000000 in
theorem c_X1_forget (l : Launch) (D : va_G) (cy : Nat → ClassId) (ad : Nat → Nat) (A : Nat → Prop) (σ : nG) (h : Nat) (hn_h : h < 2) (c : nCs) (hx_C : gC σ = c) (q : nCs) (hf : f_X1_forget h c = some q) (σ' : nG) (hσ : (sC σ q) = σ') : nn_V l yX1_forget (nn_ws yX1_forget cX1_forget 1 none) (nn_R 0) D cy ad A [.ref (ad (114+2*h))] σ σ' := by
  refine nn_enterV (plainFor_of_name (by decide +kernel)) (Nat.le_of_ble_eq_true rfl) (lv := [(0, .ref (ad (114+2*h)))]) rfl ?_
  intro pp ee ss mm bb me co S hr hlk hK hw ls hl
  have hx := S.1
  have hb := S.2.1
  have hw : nn_W D cy ad A ss.heap (sC σ c) ss.heap [] := nn_W.eq (by rw [← hx_C]; rfl) hw
  unfold f_X1_forget at hf
  refine lv_aload_n hx hb dX1_forget_0 rfl (lv_at hl 0 rfl) ?_
  refine lv_iconst (v := 0) hx hb dX1_forget_1 (by decide) ?_
  refine pf_Hi_known S hK hw (v := h) hn_h (x := (cH c h)) rfl (τ' := (sC σ (cHs c h (s_Hi_known (cH c h) (0 : Int32))))) rfl tb_1_76 dX1_forget_2 (fun H locs hw => ?_)
  obtain rfl := Option.some.inj hf
  exact nn_vret S hr hlk hw hσ dX1_forget_5
set_option maxRecDepth 100000 in
set_option maxHeartbeats 4000000 in
theorem c_X1_remember (l : Launch) (D : va_G) (cy : Nat → ClassId) (ad : Nat → Nat) (A : Nat → Prop) (σ : nG) (h : Nat) (hn_h : h < 2) (v : Nat) (hn_v : v < 3) (c : nCs) (hx_C : gC σ = c) (q : nCs) (hf : f_X1_remember h v c = some q) (σ' : nG) (hσ : (sC σ q) = σ') : nn_V l yX1_remember (nn_ws yX1_remember cX1_remember 2 none) (nn_R 2) D cy ad A [.ref (ad (114+2*h)), .ref (ad (6*v))] σ σ' := by
  refine nn_enterV (plainFor_of_name (by decide +kernel)) (Nat.le_of_ble_eq_true rfl) (lv := [(0, .ref (ad (114+2*h))), (1, .ref (ad (6*v)))]) rfl ?_
  intro pp ee ss mm bb me co S hr hlk hK hw ls hl
  have hx := S.1
  have hb := S.2.1
  have hw : nn_W D cy ad A ss.heap (sC σ c) ss.heap [] := nn_W.eq (by rw [← hx_C]; rfl) hw
  unfold f_X1_remember at hf
  refine lv_aload_n hx hb dX1_remember_0 rfl (lv_at hl 0 rfl) ?_
  refine gf_Hi_past S hK hw (v := h) hn_h tb_1_74 dX1_remember_1 ?_
  refine lv_aload_n hx hb dX1_remember_4 rfl (lv_at hl 0 rfl) ?_
  refine gf_Hi_next S hK hw (v := h) hn_h (x := (cH c h)) rfl tb_1_75 dX1_remember_5 ?_
  obtain ⟨g_1, hf⟩ := nn_ix_some hf
  have hg_1 := nn_ix_lt g_1
  refine nn_aldV S hK hw (h := h) hn_h g_1 dX1_remember_8 ?_
  refine lv_aload_n hx hb dX1_remember_9 rfl (lv_at hl 1 rfl) ?_
  obtain ⟨q_2, h_3, hf⟩ := nn_bind hf
  refine nn_callvV S (As := [.ref (ad (6*v))]) (rest := []) (ce_V (k := 0) (v := (3+8*h+(g_Hi_next (cH c h)).toNatClampNeg)) (by omega) (by decide)) (by omega) rfl rfl (c_X5_becomeLike l D cy ad A (sC σ c) (3+8*h+(g_Hi_next (cH c h)).toNatClampNeg) (by omega) v (by omega) (by omega) (cV c (3+8*h+(g_Hi_next (cH c h)).toNatClampNeg)) rfl (cV c v) rfl q_2 h_3 (sC σ (cVs c (3+8*h+(g_Hi_next (cH c h)).toNatClampNeg) q_2)) rfl) mv_X5_becomeLike tb_2_117 hK hw ⟨Nat.le_of_ble_eq_true rfl, Nat.le_of_ble_eq_true rfl⟩ ⟨Nat.zero_le _, Nat.zero_le _⟩ rfl hl.1 rfl (Nat.le_of_ble_eq_true rfl) dX1_remember_10 (fun H locs hw => ?_)
  refine lv_aload_n hx hb dX1_remember_13 rfl (lv_at hl 0 rfl) ?_
  refine lv_aload_n hx hb dX1_remember_14 rfl (lv_at hl 0 rfl) ?_
  refine gf_Hi_next S hK hw (v := h) hn_h (x := (cH (cVs c (3+8*h+(g_Hi_next (cH c h)).toNatClampNeg) q_2) h)) rfl tb_1_75 dX1_remember_15 ?_
  refine lv_iconst (v := 1) hx hb dX1_remember_18 (by decide) ?_
  refine lv_iadd hx hb dX1_remember_19 ?_
  refine lv_bipush (v := 8) hx hb dX1_remember_20 (by decide) ?_
  refine lv_irem hx hb dX1_remember_22 (by decide) ?_
  obtain ⟨c_4, h_5, hf⟩ := nn_bind hf
  replace h_5 := Option.some.inj h_5
  refine pf_Hi_next S hK hw (v := h) hn_h (x := (cH (cVs c (3+8*h+(g_Hi_next (cH c h)).toNatClampNeg) q_2) h)) rfl (τ' := (sC σ c_4)) ((rfl : _ = (sC σ (cHs (cVs c (3+8*h+(g_Hi_next (cH c h)).toNatClampNeg) q_2) h (s_Hi_next (cH (cVs c (3+8*h+(g_Hi_next (cH c h)).toNatClampNeg) q_2) h) (((g_Hi_next (cH (cVs c (3+8*h+(g_Hi_next (cH c h)).toNatClampNeg) q_2) h)) + (1 : Int32)) - ((g_Hi_next (cH (cVs c (3+8*h+(g_Hi_next (cH c h)).toNatClampNeg) q_2) h)) + (1 : Int32)) / (8 : Int32) * (8 : Int32)))))).trans (by rw [h_5])) tb_1_75 dX1_remember_23 (fun H locs hw => ?_)
  refine lv_aload_n hx hb dX1_remember_26 rfl (lv_at hl 0 rfl) ?_
  refine lv_aload_n hx hb dX1_remember_27 rfl (lv_at hl 0 rfl) ?_
  refine gf_Hi_known S hK hw (v := h) hn_h (x := (cH c_4 h)) rfl tb_1_76 dX1_remember_28 ?_
  refine lv_iconst (v := 1) hx hb dX1_remember_31 (by decide) ?_
  refine lv_iadd hx hb dX1_remember_32 ?_
  refine lv_bipush (v := 8) hx hb dX1_remember_33 (by decide) ?_
  obtain ⟨q_6, h_7, hf⟩ := nn_bind hf
  refine nn_calliS S (As := [.int ((g_Hi_known (cH c_4 h)) + (1 : Int32)), .int ((8 : Int32))]) (rest := [.ref (ad (114+2*h))]) (c_J9_min_7cf53 l D cy ad A (sC σ c_4) ((g_Hi_known (cH c_4 h)) + (1 : Int32)) (8 : Int32) q_6 h_7) mv_J9_min_7cf53 tb_2_118 hK hw ⟨Nat.le_of_ble_eq_true rfl, Nat.le_of_ble_eq_true rfl⟩ ⟨Nat.zero_le _, Nat.zero_le _⟩ rfl hl.1 rfl (Nat.le_of_ble_eq_true rfl) dX1_remember_35 (fun H locs hw => ?_)
  refine pf_Hi_known S hK hw (v := h) hn_h (x := (cH c_4 h)) rfl (τ' := (sC σ (cHs c_4 h (s_Hi_known (cH c_4 h) q_6)))) rfl tb_1_76 dX1_remember_38 (fun H locs hw => ?_)
  obtain rfl := Option.some.inj hf
  exact nn_vret S hr hlk hw hσ dX1_remember_41
set_option maxRecDepth 100000 in
set_option maxHeartbeats 4000000 in
theorem c_X1_takeBack (l : Launch) (D : va_G) (cy : Nat → ClassId) (ad : Nat → Nat) (A : Nat → Prop) (σ : nG) (h : Nat) (hn_h : h < 2) (v : Nat) (hn_v : v < 3) (c : nCs) (hx_C : gC σ = c) (q : Int32 × nCs) (hf : f_X1_takeBack h v c = some q) (σ' : nG) (hσ : (sC σ q.2) = σ') : nn_I l yX1_takeBack (nn_ws yX1_takeBack cX1_takeBack 2 (some .boolean)) (nn_R 2) D cy ad A [.ref (ad (114+2*h)), .ref (ad (6*v))] σ q.1 σ' := by
  refine nn_enterI (plainFor_of_name (by decide +kernel)) (Nat.le_of_ble_eq_true rfl) (lv := [(0, .ref (ad (114+2*h))), (1, .ref (ad (6*v)))]) rfl ?_
  intro pp ee ss mm bb me co S hr hlk hK hw ls hl
  have hx := S.1
  have hb := S.2.1
  have hw : nn_W D cy ad A ss.heap (sC σ c) ss.heap [] := nn_W.eq (by rw [← hx_C]; rfl) hw
  unfold f_X1_takeBack at hf
  refine lv_aload_n hx hb dX1_takeBack_0 rfl (lv_at hl 0 rfl) ?_
  refine gf_Hi_known S hK hw (v := h) hn_h (x := (cH c h)) rfl tb_1_76 dX1_takeBack_1 ?_
  refine lv_if_ne (tgt := 9) hx hb dX1_takeBack_4 (by decide) (fun c_1 => ?_) (fun c_1 => ?_)
  · rw [if_neg c_1] at hf
    refine lv_aload_n hx hb dX1_takeBack_9 rfl (lv_at hl 0 rfl) ?_
    refine lv_aload_n hx hb dX1_takeBack_10 rfl (lv_at hl 0 rfl) ?_
    refine gf_Hi_next S hK hw (v := h) hn_h (x := (cH c h)) rfl tb_1_75 dX1_takeBack_11 ?_
    refine lv_bipush (v := 8) hx hb dX1_takeBack_14 (by decide) ?_
    refine lv_iadd hx hb dX1_takeBack_16 ?_
    refine lv_iconst (v := 1) hx hb dX1_takeBack_17 (by decide) ?_
    refine lv_isub hx hb dX1_takeBack_18 ?_
    refine lv_bipush (v := 8) hx hb dX1_takeBack_19 (by decide) ?_
    refine lv_irem hx hb dX1_takeBack_21 (by decide) ?_
    obtain ⟨c_2, h_3, hf⟩ := nn_bind hf
    replace h_3 := Option.some.inj h_3
    refine pf_Hi_next S hK hw (v := h) hn_h (x := (cH c h)) rfl (τ' := (sC σ c_2)) ((rfl : _ = (sC σ (cHs c h (s_Hi_next (cH c h) ((((g_Hi_next (cH c h)) + (8 : Int32)) - (1 : Int32)) - (((g_Hi_next (cH c h)) + (8 : Int32)) - (1 : Int32)) / (8 : Int32) * (8 : Int32)))))).trans (by rw [h_3])) tb_1_75 dX1_takeBack_22 (fun H locs hw => ?_)
    refine lv_aload_n hx hb dX1_takeBack_25 rfl (lv_at hl 0 rfl) ?_
    refine lv_dup hx hb dX1_takeBack_26 rfl ?_
    refine gf_Hi_known S hK hw (v := h) hn_h (x := (cH c_2 h)) rfl tb_1_76 dX1_takeBack_27 ?_
    refine lv_iconst (v := 1) hx hb dX1_takeBack_30 (by decide) ?_
    refine lv_isub hx hb dX1_takeBack_31 ?_
    refine pf_Hi_known S hK hw (v := h) hn_h (x := (cH c_2 h)) rfl (τ' := (sC σ (cHs c_2 h (s_Hi_known (cH c_2 h) ((g_Hi_known (cH c_2 h)) - (1 : Int32)))))) rfl tb_1_76 dX1_takeBack_32 (fun H locs hw => ?_)
    refine lv_aload_n hx hb dX1_takeBack_35 rfl (lv_at hl 1 rfl) ?_
    refine lv_aload_n hx hb dX1_takeBack_36 rfl (lv_at hl 0 rfl) ?_
    refine gf_Hi_past S hK hw (v := h) hn_h tb_1_74 dX1_takeBack_37 ?_
    refine lv_aload_n hx hb dX1_takeBack_40 rfl (lv_at hl 0 rfl) ?_
    refine gf_Hi_next S hK hw (v := h) hn_h (x := (cH (cHs c_2 h (s_Hi_known (cH c_2 h) ((g_Hi_known (cH c_2 h)) - (1 : Int32)))) h)) rfl tb_1_75 dX1_takeBack_41 ?_
    obtain ⟨g_4, hf⟩ := nn_ix_some hf
    have hg_4 := nn_ix_lt g_4
    refine nn_aldV S hK hw (h := h) hn_h g_4 dX1_takeBack_44 ?_
    obtain ⟨q_5, h_6, hf⟩ := nn_bind hf
    refine nn_callvV S (As := [.ref (ad (6*(3+8*h+(g_Hi_next (cH (cHs c_2 h (s_Hi_known (cH c_2 h) ((g_Hi_known (cH c_2 h)) - (1 : Int32)))) h)).toNatClampNeg)))]) (rest := []) (ce_V (k := 0) (v := v) (by omega) (by decide)) (by omega) rfl rfl (c_X5_becomeLike l D cy ad A (sC σ (cHs c_2 h (s_Hi_known (cH c_2 h) ((g_Hi_known (cH c_2 h)) - (1 : Int32))))) v (by omega) (3+8*h+(g_Hi_next (cH (cHs c_2 h (s_Hi_known (cH c_2 h) ((g_Hi_known (cH c_2 h)) - (1 : Int32)))) h)).toNatClampNeg) (by omega) (by omega) (cV (cHs c_2 h (s_Hi_known (cH c_2 h) ((g_Hi_known (cH c_2 h)) - (1 : Int32)))) v) rfl (cV (cHs c_2 h (s_Hi_known (cH c_2 h) ((g_Hi_known (cH c_2 h)) - (1 : Int32)))) (3+8*h+(g_Hi_next (cH (cHs c_2 h (s_Hi_known (cH c_2 h) ((g_Hi_known (cH c_2 h)) - (1 : Int32)))) h)).toNatClampNeg)) rfl q_5 h_6 (sC σ (cVs (cHs c_2 h (s_Hi_known (cH c_2 h) ((g_Hi_known (cH c_2 h)) - (1 : Int32)))) v q_5)) rfl) mv_X5_becomeLike tb_2_117 hK hw ⟨Nat.le_of_ble_eq_true rfl, Nat.le_of_ble_eq_true rfl⟩ ⟨Nat.zero_le _, Nat.zero_le _⟩ rfl hl.1 rfl (Nat.le_of_ble_eq_true rfl) dX1_takeBack_45 (fun H locs hw => ?_)
    refine lv_iconst (v := 1) hx hb dX1_takeBack_48 (by decide) ?_
    obtain rfl := Option.some.inj hf
    exact nn_zret S hr hlk hw rfl rfl hσ dX1_takeBack_49
  · rw [if_pos c_1] at hf
    refine lv_iconst (v := 0) hx hb dX1_takeBack_7 (by decide) ?_
    obtain rfl := Option.some.inj hf
    exact nn_zret S hr hlk hw rfl rfl hσ dX1_takeBack_8
set_option maxRecDepth 100000 in
set_option maxHeartbeats 4000000 in
theorem c_X1_becomeLike (l : Launch) (D : va_G) (cy : Nat → ClassId) (ad : Nat → Nat) (A : Nat → Prop) (σ : nG) (h : Nat) (hn_h : h < 2) (h2 : Nat) (hn_h2 : h2 < 2) (hne : h2 ≠ h) (c : nCs) (hx_C : gC σ = c) (q : nCs) (hf : f_X1_becomeLike h h2 c = some q) (σ' : nG) (hσ : (sC σ q) = σ') : nn_V l yX1_becomeLike (nn_ws yX1_becomeLike cX1_becomeLike 3 none) (nn_R 2) D cy ad A [.ref (ad (114+2*h)), .ref (ad (114+2*h2))] σ σ' := by
  refine nn_enterV (plainFor_of_name (by decide +kernel)) (Nat.le_of_ble_eq_true rfl) (lv := [(0, .ref (ad (114+2*h))), (1, .ref (ad (114+2*h2)))]) rfl ?_
  intro pp ee ss mm bb me co S hr hlk hK hw ls hl
  have hx := S.1
  have hb := S.2.1
  have hw : nn_W D cy ad A ss.heap (sC σ c) ss.heap [] := nn_W.eq (by rw [← hx_C]; rfl) hw
  unfold f_X1_becomeLike at hf
  have L2 : ∀ (n : Nat) (c : nCs) (u2 : Int32) (K : nCs → Int32 → Option (nCs)), (∀ (c : nCs) (u2 : Int32), K c u2 = some q → ∀ (H : Heap) (locs : List Loc) (ls : Array Slot), nn_W D cy ad A ss.heap (sC σ c) H locs → lv_has ls 3 [(0, .ref (ad (114+2*h))), (1, .ref (ad (114+2*h2))), (2, .int (u2))] → W pp l ee (nn_R 2) ss mm ([.ref (ad (114+2*h)), .ref (ad (114+2*h2))] : List Value).toArray bb me co H locs 0 0 (MQ bb (nn_qv D cy ad A σ') ([.ref (ad (114+2*h)), .ref (ad (114+2*h2))] : List Value).toArray ss 0 0 A) (F0 mm 29 ls [])) → f_X1_becomeLike_L2 h h2 n c u2 K = some q → ∀ (H : Heap) (locs : List Loc) (ls : Array Slot), nn_W D cy ad A ss.heap (sC σ c) H locs → lv_has ls 3 [(0, .ref (ad (114+2*h))), (1, .ref (ad (114+2*h2))), (2, .int (u2))] → W pp l ee (nn_R 2) ss mm ([.ref (ad (114+2*h)), .ref (ad (114+2*h2))] : List Value).toArray bb me co H locs 0 0 (MQ bb (nn_qv D cy ad A σ') ([.ref (ad (114+2*h)), .ref (ad (114+2*h2))] : List Value).toArray ss 0 0 A) (F0 mm 2 ls []) := by
    intro n
    induction n with
    | zero => intro c u2 K hKK hf; exact absurd hf (by simp [f_X1_becomeLike_L2])
    | succ n ih =>
      intro c u2 K hKK hf H locs ls hw hl
      rw [f_X1_becomeLike_L2] at hf
      refine lv_iload_n hx hb dX1_becomeLike_2 rfl (lv_at hl 2 rfl) ?_
      refine lv_bipush (v := 8) hx hb dX1_becomeLike_3 (by decide) ?_
      refine lv_icmp_ge (tgt := 29) hx hb dX1_becomeLike_5 (by decide) (fun c_1 => ?_) (fun c_1 => ?_)
      · rw [if_pos c_1] at hf
        exact hKK c u2 hf _ _ _ hw (lv_sub hl [0, 1, 2] rfl)
      · rw [if_neg c_1] at hf
        refine lv_aload_n hx hb dX1_becomeLike_8 rfl (lv_at hl 0 rfl) ?_
        refine gf_Hi_past S hK hw (v := h) hn_h tb_1_74 dX1_becomeLike_9 ?_
        refine lv_iload_n hx hb dX1_becomeLike_12 rfl (lv_at hl 2 rfl) ?_
        obtain ⟨g_2, hf⟩ := nn_ix_some hf
        have hg_2 := nn_ix_lt g_2
        refine nn_aldV S hK hw (h := h) hn_h g_2 dX1_becomeLike_13 ?_
        refine lv_aload_n hx hb dX1_becomeLike_14 rfl (lv_at hl 1 rfl) ?_
        refine gf_Hi_past S hK hw (v := h2) hn_h2 tb_1_74 dX1_becomeLike_15 ?_
        refine lv_iload_n hx hb dX1_becomeLike_18 rfl (lv_at hl 2 rfl) ?_
        obtain ⟨g_3, hf⟩ := nn_ix_some hf
        have hg_3 := nn_ix_lt g_3
        refine nn_aldV S hK hw (h := h2) hn_h2 g_3 dX1_becomeLike_19 ?_
        obtain ⟨q_4, h_5, hf⟩ := nn_bind hf
        refine nn_callvV S (As := [.ref (ad (6*(3+8*h2+u2.toNatClampNeg)))]) (rest := []) (ce_V (k := 0) (v := (3+8*h+u2.toNatClampNeg)) (by omega) (by decide)) (by omega) rfl rfl (c_X5_becomeLike l D cy ad A (sC σ c) (3+8*h+u2.toNatClampNeg) (by omega) (3+8*h2+u2.toNatClampNeg) (by omega) (by omega) (cV c (3+8*h+u2.toNatClampNeg)) rfl (cV c (3+8*h2+u2.toNatClampNeg)) rfl q_4 h_5 (sC σ (cVs c (3+8*h+u2.toNatClampNeg) q_4)) rfl) mv_X5_becomeLike tb_2_117 hK hw ⟨Nat.le_of_ble_eq_true rfl, Nat.le_of_ble_eq_true rfl⟩ ⟨Nat.zero_le _, Nat.zero_le _⟩ rfl hl.1 rfl (Nat.le_of_ble_eq_true rfl) dX1_becomeLike_20 (fun H locs hw => ?_)
        refine lv_iinc (v := u2 + (1 : Int32)) (lv' := [(2, .int (u2 + (1 : Int32))), (0, .ref (ad (114+2*h))), (1, .ref (ad (114+2*h2)))]) hx hb dX1_becomeLike_23 hl (k := 2) rfl (congrArg (fun z => u2 + z) (by decide)) (by decide) rfl (fun ls hl => ?_)
        refine lv_goto (tgt := 2) hx hb dX1_becomeLike_26 (by decide) ?_
        exact ih (cVs c (3+8*h+u2.toNatClampNeg) q_4) (u2 + (1 : Int32)) K hKK hf _ _ _ hw (lv_sub hl [1, 2, 0] rfl)
  refine lv_iconst (v := 0) hx hb dX1_becomeLike_0 (by decide) ?_
  refine lv_istore_n (lv' := [(2, .int ((0 : Int32))), (0, .ref (ad (114+2*h))), (1, .ref (ad (114+2*h2)))]) hx hb dX1_becomeLike_1 rfl hl (by decide) rfl (fun ls hl => ?_)
  refine L2 100000 c (0 : Int32) _ (fun c_7 b2_6 hf H locs ls hw hl => ?_) hf _ _ _ hw (lv_sub hl [1, 2, 0] rfl)
  refine lv_aload_n hx hb dX1_becomeLike_29 rfl (lv_at hl 0 rfl) ?_
  refine lv_aload_n hx hb dX1_becomeLike_30 rfl (lv_at hl 1 rfl) ?_
  refine gf_Hi_next S hK hw (v := h2) hn_h2 (x := (cH c_7 h2)) rfl tb_1_75 dX1_becomeLike_31 ?_
  refine pf_Hi_next S hK hw (v := h) hn_h (x := (cH c_7 h)) rfl (τ' := (sC σ (cHs c_7 h (s_Hi_next (cH c_7 h) (g_Hi_next (cH c_7 h2)))))) rfl tb_1_75 dX1_becomeLike_34 (fun H locs hw => ?_)
  refine lv_aload_n hx hb dX1_becomeLike_37 rfl (lv_at hl 0 rfl) ?_
  refine lv_aload_n hx hb dX1_becomeLike_38 rfl (lv_at hl 1 rfl) ?_
  refine gf_Hi_known S hK hw (v := h2) hn_h2 (x := (cH (cHs c_7 h (s_Hi_next (cH c_7 h) (g_Hi_next (cH c_7 h2)))) h2)) rfl tb_1_76 dX1_becomeLike_39 ?_
  obtain ⟨c_8, h_9, hf⟩ := nn_bind hf
  replace h_9 := Option.some.inj h_9
  refine pf_Hi_known S hK hw (v := h) hn_h (x := (cH (cHs c_7 h (s_Hi_next (cH c_7 h) (g_Hi_next (cH c_7 h2)))) h)) rfl (τ' := (sC σ c_8)) ((rfl : _ = (sC σ (cHs (cHs c_7 h (s_Hi_next (cH c_7 h) (g_Hi_next (cH c_7 h2)))) h (s_Hi_known (cH (cHs c_7 h (s_Hi_next (cH c_7 h) (g_Hi_next (cH c_7 h2)))) h) (g_Hi_known (cH (cHs c_7 h (s_Hi_next (cH c_7 h) (g_Hi_next (cH c_7 h2)))) h2)))))).trans (by rw [h_9])) tb_1_76 dX1_becomeLike_42 (fun H locs hw => ?_)
  obtain rfl := Option.some.inj hf
  exact nn_vret S hr hlk hw hσ dX1_becomeLike_45
set_option maxRecDepth 100000 in
set_option maxHeartbeats 4000000 in
theorem c_X2_settleBy_o (l : Launch) (D : va_G) (cy : Nat → ClassId) (ad : Nat → Nat) (A : Nat → Prop) (d : Nat) (rc : nSe → nVl → Int32 → Int32 → Int64 → Int32 → Option (nSe)) (hrc : ∀ (σ : nG) (v : Nat) (hn_v : v < 19) (se : nSe) (hx_Se : gSe σ = se) (x : nVl) (hx_Vv : gV σ v = x) (a2 : Int32) (a3 : Int32) (a4 : Int64) (a6 : Int32) (q : nSe) (hf : rc se x a2 a3 a4 a6 = some q) (σ' : nG) (hσ : (sSe σ q) = σ'), nn_V l yX2_settleRest (nn_ws yX2_settleRest cX2_settleRest 9 none) (nn_R (d)) D cy ad A [.ref (ad (119)), .ref (ad (6*v)), .int (a2), .int (a3), .long (a4), .int (a6)] σ σ') (σ : nG) (v : Nat) (hn_v : v < 19) (se : nSe) (hx_Se : gSe σ = se) (x : nVl) (hx_Vv : gV σ v = x) (a2 : Int32) (a3 : Int32) (a4 : Int32) (a5 : Int64) (a7 : Int32) (q : nSe) (hf : f_X2_settleBy_o rc se x a2 a3 a4 a5 a7 = some q) (σ' : nG) (hσ : (sSe σ q) = σ') : nn_V l yX2_settleBy (nn_ws yX2_settleBy cX2_settleBy 9 none) (nn_R (d + 5)) D cy ad A [.ref (ad (119)), .ref (ad (6*v)), .int (a2), .int (a3), .int (a4), .long (a5), .int (a7)] σ σ' := by
  refine nn_enterV (plainFor_of_name (by decide +kernel)) (Nat.le_of_ble_eq_true rfl) (lv := [(0, .ref (ad (119))), (1, .ref (ad (6*v))), (2, .int (a2)), (3, .int (a3)), (4, .int (a4)), (5, .long (a5)), (7, .int (a7))]) rfl ?_
  intro pp ee ss mm bb me co S hr hlk hK hw ls hl
  have hx := S.1
  have hb := S.2.1
  have hw : nn_W D cy ad A ss.heap (sSe σ se) ss.heap [] := nn_W.eq (by rw [← hx_Se]; rfl) hw
  unfold f_X2_settleBy_o at hf
  refine lv_aload_n hx hb dX2_settleBy_0 rfl (lv_at hl 1 rfl) ?_
  refine gf_Vl_minutes S hK hw (v := v) hn_v tb_1_31 dX2_settleBy_1 ?_
  refine lv_iload_n hx hb dX2_settleBy_4 rfl (lv_at hl 3 rfl) ?_
  obtain ⟨g_1, hf⟩ := nn_ix_some hf
  refine al_Vl_minutes S hK hw (v := v) hn_v (x := x) hx_Vv g_1 dX2_settleBy_5 ?_
  refine lv_iload hx hb dX2_settleBy_6 (lv_at hl 4 rfl) ?_
  refine lv_iadd hx hb dX2_settleBy_8 ?_
  obtain ⟨q_2, h_3, hf⟩ := nn_bind hf
  refine nn_calliN S (As := [.int (((g_Vl_minutes x) a3.toNatClampNeg) + a4)]) (rest := []) (c_X6_roundTheHour l D cy ad A (sSe σ se) (((g_Vl_minutes x) a3.toNatClampNeg) + a4) q_2 h_3) mv_X6_roundTheHour (nw_9 hK.2) hK hw ⟨by show 1 + 1 ≤ (d + 5); omega, by show 8 + (1 + 11) + 100 * 1 ≤ 100 * (d + 5); omega⟩ ⟨Nat.zero_le _, Nat.zero_le _⟩ rfl hl.1 rfl (Nat.le_of_ble_eq_true rfl) dX2_settleBy_9 (fun H locs hw => ?_)
  refine lv_istore (lv' := [(8, .int (q_2)), (0, .ref (ad (119))), (1, .ref (ad (6*v))), (2, .int (a2)), (3, .int (a3)), (4, .int (a4)), (5, .long (a5)), (7, .int (a7))]) hx hb dX2_settleBy_12 hl (by decide) rfl (fun ls hl => ?_)
  refine lv_lload hx hb dX2_settleBy_14 (lv_at hl 6 rfl) ?_
  refine lv_iload hx hb dX2_settleBy_16 (lv_at hl 0 rfl) ?_
  refine lv_lshr (v := a5 >>> (q_2.toInt64 &&& 63)) hx hb dX2_settleBy_18 rfl ?_
  refine lv_lconst (v := 1) hx hb dX2_settleBy_19 (by decide) ?_
  refine lv_land hx hb dX2_settleBy_20 ?_
  refine lv_lconst (v := 0) hx hb dX2_settleBy_21 (by decide) ?_
  refine W.lcmp hx hb dX2_settleBy_22 ?_
  refine lv_if_eq (tgt := 58) hx hb dX2_settleBy_23 (by decide) (fun c_4 => ?_) (fun c_4 => ?_)
  · rw [if_pos c_4] at hf
    obtain rfl := Option.some.inj hf
    exact nn_vret S hr hlk hw hσ dX2_settleBy_58
  · rw [if_neg c_4] at hf
    refine lv_aload_n hx hb dX2_settleBy_26 rfl (lv_at hl 1 rfl) ?_
    refine gf_Se_shifts S hK hw tb_1_91 dX2_settleBy_27 ?_
    refine lv_iload_n hx hb dX2_settleBy_30 rfl (lv_at hl 4 rfl) ?_
    refine lv_iload hx hb dX2_settleBy_31 (lv_at hl 5 rfl) ?_
    obtain ⟨g_5, hf⟩ := nn_ix_some hf
    refine as_Se_shifts S hK hw (x := se) rfl g_5 (τ' := (sSe σ (s_Se_shifts se (upd (g_Se_shifts se) a3.toNatClampNeg a4)))) rfl dX2_settleBy_33 (fun H locs hw => ?_)
    refine lv_aload_n hx hb dX2_settleBy_34 rfl (lv_at hl 1 rfl) ?_
    refine lv_aload_n hx hb dX2_settleBy_35 rfl (lv_at hl 2 rfl) ?_
    refine lv_iload_n hx hb dX2_settleBy_36 rfl (lv_at hl 3 rfl) ?_
    refine lv_iload_n hx hb dX2_settleBy_37 rfl (lv_at hl 4 rfl) ?_
    refine lv_iconst (v := 1) hx hb dX2_settleBy_38 (by decide) ?_
    refine lv_iadd hx hb dX2_settleBy_39 ?_
    refine lv_lload hx hb dX2_settleBy_40 (lv_at hl 6 rfl) ?_
    refine lv_iload hx hb dX2_settleBy_42 (lv_at hl 0 rfl) ?_
    refine lv_iload_n hx hb dX2_settleBy_44 rfl (lv_at hl 3 rfl) ?_
    obtain ⟨q_6, h_7, hf⟩ := nn_bind hf
    refine nn_calllN S (As := [.int (q_2), .int (a2)]) (rest := [.long (a5), .int (a3 + (1 : Int32)), .int (a2), .ref (ad (6*v)), .ref (ad (119))]) (c_X6_minutesNear l D cy ad A (sSe σ (s_Se_shifts se (upd (g_Se_shifts se) a3.toNatClampNeg a4))) q_2 a2 q_6 h_7) mv_X6_minutesNear (nw_10 hK.2) hK hw ⟨by show 2 + 1 ≤ (d + 5); omega, by show 8 + (5 + 11) + 100 * 2 ≤ 100 * (d + 5); omega⟩ ⟨Nat.zero_le _, Nat.zero_le _⟩ rfl hl.1 rfl (Nat.le_of_ble_eq_true rfl) dX2_settleBy_45 (fun H locs hw => ?_)
    refine lv_ldc2 (v := -1) hx hb S.2.2.2.1 (S.2.2.2.2 _ tb_2_216) dX2_settleBy_48 ?_
    refine lv_lxor hx hb dX2_settleBy_51 ?_
    refine lv_land hx hb dX2_settleBy_52 ?_
    refine lv_iload hx hb dX2_settleBy_53 (lv_at hl 7 rfl) ?_
    obtain ⟨q_8, h_9, hf⟩ := nn_bind hf
    refine nn_callvV S (As := [.ref (ad (6*v)), .int (a2), .int (a3 + (1 : Int32)), .long (a5 &&& (q_6 ^^^ (-1 : Int64))), .int (a7)]) (rest := []) (ce_O (k := 1) (by decide)) (by decide) rfl rfl (hrc (sSe σ (s_Se_shifts se (upd (g_Se_shifts se) a3.toNatClampNeg a4))) v hn_v (s_Se_shifts se (upd (g_Se_shifts se) a3.toNatClampNeg a4)) rfl x hx_Vv a2 (a3 + (1 : Int32)) (a5 &&& (q_6 ^^^ (-1 : Int64))) a7 q_8 h_9 (sSe σ q_8) rfl) mv_X2_settleRest tb_2_200 hK hw ⟨by show d + 1 ≤ (d + 5); omega, by show 8 + (9 + 11) + 100 * d ≤ 100 * (d + 5); omega⟩ ⟨Nat.zero_le _, Nat.zero_le _⟩ rfl hl.1 rfl (Nat.le_of_ble_eq_true rfl) dX2_settleBy_55 (fun H locs hw => ?_)
    obtain rfl := Option.some.inj hf
    exact nn_vret S hr hlk hw hσ dX2_settleBy_58
set_option maxRecDepth 100000 in
set_option maxHeartbeats 4000000 in
theorem c_X2_settleRest_o (l : Launch) (D : va_G) (cy : Nat → ClassId) (ad : Nat → Nat) (A : Nat → Prop) (d : Nat) (rc : nSe → nVl → Int32 → Int32 → Int64 → Int32 → Option (nSe)) (hrc : ∀ (σ : nG) (v : Nat) (hn_v : v < 19) (se : nSe) (hx_Se : gSe σ = se) (x : nVl) (hx_Vv : gV σ v = x) (a2 : Int32) (a3 : Int32) (a4 : Int64) (a6 : Int32) (q : nSe) (hf : rc se x a2 a3 a4 a6 = some q) (σ' : nG) (hσ : (sSe σ q) = σ'), nn_V l yX2_settleRest (nn_ws yX2_settleRest cX2_settleRest 9 none) (nn_R (d)) D cy ad A [.ref (ad (119)), .ref (ad (6*v)), .int (a2), .int (a3), .long (a4), .int (a6)] σ σ') (σ : nG) (v : Nat) (hn_v : v < 19) (se : nSe) (hx_Se : gSe σ = se) (x : nVl) (hx_Vv : gV σ v = x) (a2 : Int32) (a3 : Int32) (a4 : Int64) (a6 : Int32) (q : nSe) (hf : f_X2_settleRest_o rc se x a2 a3 a4 a6 = some q) (σ' : nG) (hσ : (sSe σ q) = σ') : nn_V l yX2_settleRest (nn_ws yX2_settleRest cX2_settleRest 9 none) (nn_R (d + 6)) D cy ad A [.ref (ad (119)), .ref (ad (6*v)), .int (a2), .int (a3), .long (a4), .int (a6)] σ σ' := by
  refine nn_enterV (plainFor_of_name (by decide +kernel)) (Nat.le_of_ble_eq_true rfl) (lv := [(0, .ref (ad (119))), (1, .ref (ad (6*v))), (2, .int (a2)), (3, .int (a3)), (4, .long (a4)), (6, .int (a6))]) rfl ?_
  intro pp ee ss mm bb me co S hr hlk hK hw ls hl
  have hx := S.1
  have hb := S.2.1
  have hw : nn_W D cy ad A ss.heap (sSe σ se) ss.heap [] := nn_W.eq (by rw [← hx_Se]; rfl) hw
  unfold f_X2_settleRest_o at hf
  have L34 : ∀ (n : Nat) (se : nSe) (u2 : Int32) (u3 : Int32) (u4 : Int64) (u6 : Int32) (u7 : Int32) (K : nSe → Int32 → Int32 → Int64 → Int32 → Int32 → Option (nSe)), (∀ (se : nSe) (u2 : Int32) (u3 : Int32) (u4 : Int64) (u6 : Int32) (u7 : Int32), K se u2 u3 u4 u6 u7 = some q → ∀ (H : Heap) (locs : List Loc) (ls : Array Slot), nn_W D cy ad A ss.heap (sSe σ se) H locs → lv_has ls 9 [(0, .ref (ad (119))), (1, .ref (ad (6*v))), (2, .int (u2)), (3, .int (u3)), (4, .long (u4)), (6, .int (u6)), (7, .int (u7))] → W pp l ee (nn_R (d + 6)) ss mm ([.ref (ad (119)), .ref (ad (6*v)), .int (a2), .int (a3), .long (a4), .int (a6)] : List Value).toArray bb me co H locs 0 0 (MQ bb (nn_qv D cy ad A σ') ([.ref (ad (119)), .ref (ad (6*v)), .int (a2), .int (a3), .long (a4), .int (a6)] : List Value).toArray ss 0 0 A) (F0 mm 78 ls [])) → f_X2_settleRest_L34 rc x n se u2 u3 u4 u6 u7 K = some q → ∀ (H : Heap) (locs : List Loc) (ls : Array Slot), nn_W D cy ad A ss.heap (sSe σ se) H locs → lv_has ls 9 [(0, .ref (ad (119))), (1, .ref (ad (6*v))), (2, .int (u2)), (3, .int (u3)), (4, .long (u4)), (6, .int (u6)), (7, .int (u7))] → W pp l ee (nn_R (d + 6)) ss mm ([.ref (ad (119)), .ref (ad (6*v)), .int (a2), .int (a3), .long (a4), .int (a6)] : List Value).toArray bb me co H locs 0 0 (MQ bb (nn_qv D cy ad A σ') ([.ref (ad (119)), .ref (ad (6*v)), .int (a2), .int (a3), .long (a4), .int (a6)] : List Value).toArray ss 0 0 A) (F0 mm 34 ls []) := by
    intro n
    induction n with
    | zero => intro se u2 u3 u4 u6 u7 K hKK hf; exact absurd hf (by simp [f_X2_settleRest_L34])
    | succ n ih =>
      intro se u2 u3 u4 u6 u7 K hKK hf H locs ls hw hl
      rw [f_X2_settleRest_L34] at hf
      refine lv_iload hx hb dX2_settleRest_34 (lv_at hl 6 rfl) ?_
      refine lv_iconst (v := 2) hx hb dX2_settleRest_36 (by decide) ?_
      refine lv_icmp_gt (tgt := 78) hx hb dX2_settleRest_37 (by decide) (fun c_2 => ?_) (fun c_2 => ?_)
      · rw [if_pos c_2] at hf
        exact hKK se u2 u3 u4 u6 u7 hf _ _ _ hw (lv_sub hl [0, 1, 2, 3, 4, 5, 6] rfl)
      · rw [if_neg c_2] at hf
        refine lv_iload hx hb dX2_settleRest_40 (lv_at hl 5 rfl) ?_
        refine lv_iload hx hb dX2_settleRest_42 (lv_at hl 6 rfl) ?_
        obtain ⟨q_3, h_4, hf⟩ := nn_bind hf
        refine nn_calliS S (As := [.int (u7)]) (rest := [.int (u6)]) (c_J9_abs_0f7a4 l D cy ad A (sSe σ se) u7 q_3 h_4) mv_J9_abs_0f7a4 tb_2_205 hK hw ⟨by show 0 + 1 ≤ (d + 6); omega, by show 8 + (1 + 11) + 100 * 0 ≤ 100 * (d + 6); omega⟩ ⟨Nat.zero_le _, Nat.zero_le _⟩ rfl hl.1 rfl (Nat.le_of_ble_eq_true rfl) dX2_settleRest_44 (fun H locs hw => ?_)
        refine lv_iadd hx hb dX2_settleRest_47 ?_
        refine lv_istore (lv' := [(8, .int (u6 + q_3)), (0, .ref (ad (119))), (1, .ref (ad (6*v))), (2, .int (u2)), (3, .int (u3)), (4, .long (u4)), (6, .int (u6)), (7, .int (u7))]) hx hb dX2_settleRest_48 hl (by decide) rfl (fun ls hl => ?_)
        refine lv_iload hx hb dX2_settleRest_50 (lv_at hl 0 rfl) ?_
        refine lv_aload_n hx hb dX2_settleRest_52 rfl (lv_at hl 1 rfl) ?_
        refine gf_Se_bestTotal S hK hw (x := se) rfl tb_1_94 dX2_settleRest_53 ?_
        refine lv_icmp_ge (tgt := 72) hx hb dX2_settleRest_56 (by decide) (fun c_5 => ?_) (fun c_5 => ?_)
        · rw [if_pos c_5] at hf
          refine lv_iinc (v := u7 + (1 : Int32)) (lv' := [(7, .int (u7 + (1 : Int32))), (8, .int (u6 + q_3)), (0, .ref (ad (119))), (1, .ref (ad (6*v))), (2, .int (u2)), (3, .int (u3)), (4, .long (u4)), (6, .int (u6))]) hx hb dX2_settleRest_72 hl (k := 7) rfl (congrArg (fun z => u7 + z) (by decide)) (by decide) rfl (fun ls hl => ?_)
          refine lv_goto (tgt := 34) hx hb dX2_settleRest_75 (by decide) ?_
          exact ih se u2 u3 u4 u6 (u7 + (1 : Int32)) K hKK hf _ _ _ hw (lv_sub hl [2, 3, 4, 5, 6, 7, 0] rfl)
        · rw [if_neg c_5] at hf
          refine lv_aload_n hx hb dX2_settleRest_59 rfl (lv_at hl 1 rfl) ?_
          refine lv_aload_n hx hb dX2_settleRest_60 rfl (lv_at hl 2 rfl) ?_
          refine lv_iload_n hx hb dX2_settleRest_61 rfl (lv_at hl 3 rfl) ?_
          refine lv_iload_n hx hb dX2_settleRest_62 rfl (lv_at hl 4 rfl) ?_
          refine lv_iload hx hb dX2_settleRest_63 (lv_at hl 7 rfl) ?_
          refine lv_lload hx hb dX2_settleRest_65 (lv_at hl 5 rfl) ?_
          refine lv_iload hx hb dX2_settleRest_67 (lv_at hl 0 rfl) ?_
          obtain ⟨q_6, h_7, hf⟩ := nn_bind hf
          refine nn_callvV S (As := [.ref (ad (6*v)), .int (u2), .int (u3), .int (u7), .long (u4), .int (u6 + q_3)]) (rest := []) (ce_O (k := 1) (by decide)) (by decide) rfl rfl (c_X2_settleBy_o l D cy ad A d rc hrc (sSe σ se) v hn_v se rfl x hx_Vv u2 u3 u7 u4 (u6 + q_3) q_6 h_7 (sSe σ q_6) rfl) mv_X2_settleBy tb_2_206 hK hw ⟨by show (d + 5) + 1 ≤ (d + 6); omega, by show 8 + (9 + 11) + 100 * (d + 5) ≤ 100 * (d + 6); omega⟩ ⟨Nat.zero_le _, Nat.zero_le _⟩ rfl hl.1 rfl (Nat.le_of_ble_eq_true rfl) dX2_settleRest_69 (fun H locs hw => ?_)
          refine lv_iinc (v := u7 + (1 : Int32)) (lv' := [(7, .int (u7 + (1 : Int32))), (8, .int (u6 + q_3)), (0, .ref (ad (119))), (1, .ref (ad (6*v))), (2, .int (u2)), (3, .int (u3)), (4, .long (u4)), (6, .int (u6))]) hx hb dX2_settleRest_72 hl (k := 7) rfl (congrArg (fun z => u7 + z) (by decide)) (by decide) rfl (fun ls hl => ?_)
          refine lv_goto (tgt := 34) hx hb dX2_settleRest_75 (by decide) ?_
          exact ih q_6 u2 u3 u4 u6 (u7 + (1 : Int32)) K hKK hf _ _ _ hw (lv_sub hl [2, 3, 4, 5, 6, 7, 0] rfl)
  refine lv_iload_n hx hb dX2_settleRest_0 rfl (lv_at hl 3 rfl) ?_
  refine lv_aload_n hx hb dX2_settleRest_1 rfl (lv_at hl 1 rfl) ?_
  refine gf_Vl_villages S hK hw (v := v) hn_v (x := x) hx_Vv tb_1_41 dX2_settleRest_2 ?_
  refine lv_icmp_lt (tgt := 30) hx hb dX2_settleRest_5 (by decide) (fun c_1 => ?_) (fun c_1 => ?_)
  · rw [if_pos c_1] at hf
    refine lv_bipush (v := -2) hx hb dX2_settleRest_30 (by decide) ?_
    refine lv_istore (lv' := [(7, .int ((-2 : Int32))), (0, .ref (ad (119))), (1, .ref (ad (6*v))), (2, .int (a2)), (3, .int (a3)), (4, .long (a4)), (6, .int (a6))]) hx hb dX2_settleRest_32 hl (by decide) rfl (fun ls hl => ?_)
    refine L34 100000 se a2 a3 a4 a6 (-2 : Int32) _ (fun se_13 b2_8 b3_9 b4_10 b6_11 b7_12 hf H locs ls hw hl => ?_) hf _ _ _ hw (lv_sub hl [1, 2, 3, 4, 5, 6, 0] rfl)
    obtain rfl := Option.some.inj hf
    exact nn_vret S hr hlk hw hσ dX2_settleRest_78
  · rw [if_neg c_1] at hf
    refine lv_aload_n hx hb dX2_settleRest_8 rfl (lv_at hl 0 rfl) ?_
    refine lv_iload hx hb dX2_settleRest_9 (lv_at hl 5 rfl) ?_
    refine pf_Se_bestTotal S hK hw (x := se) rfl (τ' := (sSe σ (s_Se_bestTotal se a6))) rfl tb_1_94 dX2_settleRest_11 (fun H locs hw => ?_)
    refine lv_aload_n hx hb dX2_settleRest_14 rfl (lv_at hl 0 rfl) ?_
    refine gf_Se_shifts S hK hw tb_1_91 dX2_settleRest_15 ?_
    refine lv_iconst (v := 0) hx hb dX2_settleRest_18 (by decide) ?_
    refine lv_aload_n hx hb dX2_settleRest_19 rfl (lv_at hl 0 rfl) ?_
    refine gf_Se_bestShifts S hK hw tb_1_92 dX2_settleRest_20 ?_
    refine lv_iconst (v := 0) hx hb dX2_settleRest_23 (by decide) ?_
    refine lv_bipush (v := 6) hx hb dX2_settleRest_24 (by decide) ?_
    obtain ⟨se_14, h_15, hf⟩ := nn_bind hf
    replace h_15 := Option.some.inj h_15
    refine ac_Se S hK hw (x := (s_Se_bestTotal se a6)) rfl (by decide) (by decide) (by decide) (by decide) (by decide) hl.1 (by show 1 ≤ (d + 6); omega) (Nat.le_trans (m := 100) (by decide) (by show 100 ≤ 100 * (d + 6); omega)) (τ' := (sSe σ se_14)) ((rfl : _ = (sSe σ (s_Se_bestShifts (s_Se_bestTotal se a6) (va_cpy (g_Se_shifts (s_Se_bestTotal se a6)) (g_Se_bestShifts (s_Se_bestTotal se a6)) (0 : Int32).toNatClampNeg (0 : Int32).toNatClampNeg (6 : Int32).toNatClampNeg)))).trans (by rw [h_15])) tb_2_204 dX2_settleRest_26 (fun H locs hw => ?_)
    obtain rfl := Option.some.inj hf
    exact nn_vret S hr hlk hw hσ dX2_settleRest_29
theorem c_X2_settleRest (l : Launch) (D : va_G) (cy : Nat → ClassId) (ad : Nat → Nat) (A : Nat → Prop) : ∀ (n : Nat), ∀ (σ : nG) (v : Nat) (hn_v : v < 19) (se : nSe) (hx_Se : gSe σ = se) (x : nVl) (hx_Vv : gV σ v = x) (a2 : Int32) (a3 : Int32) (a4 : Int64) (a6 : Int32) (q : nSe) (hf : f_X2_settleRest n se x a2 a3 a4 a6 = some q) (σ' : nG) (hσ : (sSe σ q) = σ'), nn_V l yX2_settleRest (nn_ws yX2_settleRest cX2_settleRest 9 none) (nn_R (6 * n)) D cy ad A [.ref (ad (119)), .ref (ad (6*v)), .int (a2), .int (a3), .long (a4), .int (a6)] σ σ' := by
  intro n
  induction n with
  | zero => intro σ v hn_v se hx_Se x hx_Vv a2 a3 a4 a6 q hf σ' hσ; exact absurd hf (by simp [f_X2_settleRest])
  | succ n ih => intro σ v hn_v se hx_Se x hx_Vv a2 a3 a4 a6 q hf σ' hσ; exact c_X2_settleRest_o l D cy ad A (6 * n) (f_X2_settleRest n) ih σ v hn_v se hx_Se x hx_Vv a2 a3 a4 a6 q hf σ' hσ
set_option maxRecDepth 100000 in
set_option maxHeartbeats 4000000 in
theorem c_X2_leastTotal (l : Launch) (D : va_G) (cy : Nat → ClassId) (ad : Nat → Nat) (A : Nat → Prop) (σ : nG) (v : Nat) (hn_v : v < 19) (se : nSe) (hx_Se : gSe σ = se) (x : nVl) (hx_Vv : gV σ v = x) (a2 : Int32) (q : Int32 × nSe) (hf : f_X2_leastTotal se x a2 = some q) (σ' : nG) (hσ : (sSe σ q.2) = σ') : nn_I l yX2_leastTotal (nn_ws yX2_leastTotal cX2_leastTotal 3 (some .int)) (nn_R 61) D cy ad A [.ref (ad (119)), .ref (ad (6*v)), .int (a2)] σ q.1 σ' := by
  refine nn_enterI (plainFor_of_name (by decide +kernel)) (Nat.le_of_ble_eq_true rfl) (lv := [(0, .ref (ad (119))), (1, .ref (ad (6*v))), (2, .int (a2))]) rfl ?_
  intro pp ee ss mm bb me co S hr hlk hK hw ls hl
  have hx := S.1
  have hb := S.2.1
  have hw : nn_W D cy ad A ss.heap (sSe σ se) ss.heap [] := nn_W.eq (by rw [← hx_Se]; rfl) hw
  unfold f_X2_leastTotal at hf
  refine lv_aload_n hx hb dX2_leastTotal_0 rfl (lv_at hl 0 rfl) ?_
  refine lv_bipush (v := 13) hx hb dX2_leastTotal_1 (by decide) ?_
  refine pf_Se_bestTotal S hK hw (x := se) rfl (τ' := (sSe σ (s_Se_bestTotal se (13 : Int32)))) rfl tb_1_94 dX2_leastTotal_3 (fun H locs hw => ?_)
  refine lv_aload_n hx hb dX2_leastTotal_6 rfl (lv_at hl 0 rfl) ?_
  refine lv_aload_n hx hb dX2_leastTotal_7 rfl (lv_at hl 1 rfl) ?_
  refine lv_iload_n hx hb dX2_leastTotal_8 rfl (lv_at hl 2 rfl) ?_
  refine lv_iconst (v := 0) hx hb dX2_leastTotal_9 (by decide) ?_
  refine lv_ldc2 (v := 1152921504606846975) hx hb S.2.2.2.1 (S.2.2.2.2 _ tb_2_199) dX2_leastTotal_10 ?_
  refine lv_iconst (v := 0) hx hb dX2_leastTotal_13 (by decide) ?_
  obtain ⟨q_1, h_2, hf⟩ := nn_bind hf
  refine nn_callvV S (As := [.ref (ad (6*v)), .int (a2), .int ((0 : Int32)), .long ((1152921504606846975 : Int64)), .int ((0 : Int32))]) (rest := []) (ce_O (k := 1) (by decide)) (by decide) rfl rfl (c_X2_settleRest l D cy ad A 10 (sSe σ (s_Se_bestTotal se (13 : Int32))) v hn_v (s_Se_bestTotal se (13 : Int32)) rfl x hx_Vv a2 (0 : Int32) (1152921504606846975 : Int64) (0 : Int32) q_1 h_2 (sSe σ q_1) rfl) mv_X2_settleRest tb_2_200 hK hw ⟨Nat.le_of_ble_eq_true rfl, Nat.le_of_ble_eq_true rfl⟩ ⟨Nat.zero_le _, Nat.zero_le _⟩ rfl hl.1 rfl (Nat.le_of_ble_eq_true rfl) dX2_leastTotal_14 (fun H locs hw => ?_)
  refine lv_aload_n hx hb dX2_leastTotal_17 rfl (lv_at hl 0 rfl) ?_
  refine gf_Se_bestTotal S hK hw (x := q_1) rfl tb_1_94 dX2_leastTotal_18 ?_
  refine lv_bipush (v := 13) hx hb dX2_leastTotal_21 (by decide) ?_
  refine lv_icmp_ne (tgt := 31) hx hb dX2_leastTotal_23 (by decide) (fun c_3 => ?_) (fun c_3 => ?_)
  · rw [if_neg c_3] at hf
    refine lv_aload_n hx hb dX2_leastTotal_31 rfl (lv_at hl 0 rfl) ?_
    refine gf_Se_bestTotal S hK hw (x := q_1) rfl tb_1_94 dX2_leastTotal_32 ?_
    obtain rfl := Option.some.inj hf
    exact nn_iret S hr hlk hw rfl hσ dX2_leastTotal_35
  · rw [if_pos c_3] at hf
    refine lv_bipush (v := -4) hx hb dX2_leastTotal_26 (by decide) ?_
    refine lv_goto (tgt := 35) hx hb dX2_leastTotal_28 (by decide) ?_
    obtain rfl := Option.some.inj hf
    exact nn_iret S hr hlk hw rfl hσ dX2_leastTotal_35
set_option maxRecDepth 100000 in
set_option maxHeartbeats 4000000 in
theorem c_X3_renew (l : Launch) (D : va_G) (cy : Nat → ClassId) (ad : Nat → Nat) (A : Nat → Prop) (σ : nG) (j : Nat) (hn_j : j < 4) (sh : nSh) (hx_Shj : gSh σ j = sh) (a1 : Int32) (a2 : Int32) (q : nSh) (hf : f_X3_renew sh a1 a2 = some q) (σ' : nG) (hσ : (sSh σ j q) = σ') : nn_V l yX3_renew (nn_ws yX3_renew cX3_renew 4 none) (nn_R 0) D cy ad A [.ref (ad (128+2*j)), .int (a1), .int (a2)] σ σ' := by
  refine nn_enterV (plainFor_of_name (by decide +kernel)) (Nat.le_of_ble_eq_true rfl) (lv := [(0, .ref (ad (128+2*j))), (1, .int (a1)), (2, .int (a2))]) rfl ?_
  intro pp ee ss mm bb me co S hr hlk hK hw ls hl
  have hx := S.1
  have hb := S.2.1
  have hw : nn_W D cy ad A ss.heap (sSh σ j sh) ss.heap [] := nn_W.eq (by rw [← hx_Shj]; exact (esS σ j).symm) hw
  unfold f_X3_renew at hf
  have L2 : ∀ (n : Nat) (sh : nSh) (u1 : Int32) (u2 : Int32) (u3 : Int32) (K : nSh → Int32 → Int32 → Int32 → Option (nSh)), (∀ (sh : nSh) (u1 : Int32) (u2 : Int32) (u3 : Int32), K sh u1 u2 u3 = some q → ∀ (H : Heap) (locs : List Loc) (ls : Array Slot), nn_W D cy ad A ss.heap (sSh σ j sh) H locs → lv_has ls 4 [(0, .ref (ad (128+2*j))), (1, .int (u1)), (2, .int (u2)), (3, .int (u3))] → W pp l ee (nn_R 0) ss mm ([.ref (ad (128+2*j)), .int (a1), .int (a2)] : List Value).toArray bb me co H locs 0 0 (MQ bb (nn_qv D cy ad A σ') ([.ref (ad (128+2*j)), .int (a1), .int (a2)] : List Value).toArray ss 0 0 A) (F0 mm 21 ls [])) → f_X3_renew_L2 n sh u1 u2 u3 K = some q → ∀ (H : Heap) (locs : List Loc) (ls : Array Slot), nn_W D cy ad A ss.heap (sSh σ j sh) H locs → lv_has ls 4 [(0, .ref (ad (128+2*j))), (1, .int (u1)), (2, .int (u2)), (3, .int (u3))] → W pp l ee (nn_R 0) ss mm ([.ref (ad (128+2*j)), .int (a1), .int (a2)] : List Value).toArray bb me co H locs 0 0 (MQ bb (nn_qv D cy ad A σ') ([.ref (ad (128+2*j)), .int (a1), .int (a2)] : List Value).toArray ss 0 0 A) (F0 mm 2 ls []) := by
    intro n
    induction n with
    | zero => intro sh u1 u2 u3 K hKK hf; exact absurd hf (by simp [f_X3_renew_L2])
    | succ n ih =>
      intro sh u1 u2 u3 K hKK hf H locs ls hw hl
      rw [f_X3_renew_L2] at hf
      refine lv_iload_n hx hb dX3_renew_2 rfl (lv_at hl 3 rfl) ?_
      refine lv_bipush (v := 24) hx hb dX3_renew_3 (by decide) ?_
      refine lv_icmp_ge (tgt := 21) hx hb dX3_renew_5 (by decide) (fun c_1 => ?_) (fun c_1 => ?_)
      · rw [if_pos c_1] at hf
        exact hKK sh u1 u2 u3 hf _ _ _ hw (lv_sub hl [0, 1, 2, 3] rfl)
      · rw [if_neg c_1] at hf
        refine lv_aload_n hx hb dX3_renew_8 rfl (lv_at hl 0 rfl) ?_
        refine gf_Sh_items S hK hw (v := j) hn_j tb_1_151 dX3_renew_9 ?_
        refine lv_iload_n hx hb dX3_renew_12 rfl (lv_at hl 3 rfl) ?_
        refine lv_lconst (v := 0) hx hb dX3_renew_13 (by decide) ?_
        obtain ⟨g_2, hf⟩ := nn_ix_some hf
        refine as_Sh_items S hK hw (v := j) hn_j (x := sh) (gsS _ _ _) g_2 (τ' := (sSh σ j (s_Sh_items sh (vp_updL (g_Sh_items sh) u3.toNatClampNeg (0 : Int64))))) (ssS σ j sh (s_Sh_items sh (vp_updL (g_Sh_items sh) u3.toNatClampNeg (0 : Int64)))) dX3_renew_14 (fun H locs hw => ?_)
        refine lv_iinc (v := u3 + (1 : Int32)) (lv' := [(3, .int (u3 + (1 : Int32))), (0, .ref (ad (128+2*j))), (1, .int (u1)), (2, .int (u2))]) hx hb dX3_renew_15 hl (k := 3) rfl (congrArg (fun z => u3 + z) (by decide)) (by decide) rfl (fun ls hl => ?_)
        refine lv_goto (tgt := 2) hx hb dX3_renew_18 (by decide) ?_
        exact ih (s_Sh_items sh (vp_updL (g_Sh_items sh) u3.toNatClampNeg (0 : Int64))) u1 u2 (u3 + (1 : Int32)) K hKK hf _ _ _ hw (lv_sub hl [1, 2, 3, 0] rfl)
  refine lv_iconst (v := 0) hx hb dX3_renew_0 (by decide) ?_
  refine lv_istore_n (lv' := [(3, .int ((0 : Int32))), (0, .ref (ad (128+2*j))), (1, .int (a1)), (2, .int (a2))]) hx hb dX3_renew_1 rfl hl (by decide) rfl (fun ls hl => ?_)
  refine L2 100000 sh a1 a2 (0 : Int32) _ (fun sh_6 b1_3 b2_4 b3_5 hf H locs ls hw hl => ?_) hf _ _ _ hw (lv_sub hl [1, 2, 3, 0] rfl)
  refine lv_aload_n hx hb dX3_renew_21 rfl (lv_at hl 0 rfl) ?_
  refine lv_iload_n hx hb dX3_renew_22 rfl (lv_at hl 1 rfl) ?_
  refine pf_Sh_lane S hK hw (v := j) hn_j (x := sh_6) (gsS _ _ _) (τ' := (sSh σ j (s_Sh_lane sh_6 b1_3))) (ssS σ j sh_6 (s_Sh_lane sh_6 b1_3)) tb_1_153 dX3_renew_23 (fun H locs hw => ?_)
  refine lv_aload_n hx hb dX3_renew_26 rfl (lv_at hl 0 rfl) ?_
  refine lv_iload_n hx hb dX3_renew_27 rfl (lv_at hl 2 rfl) ?_
  refine pf_Sh_length S hK hw (v := j) hn_j (x := (s_Sh_lane sh_6 b1_3)) (gsS _ _ _) (τ' := (sSh σ j (s_Sh_length (s_Sh_lane sh_6 b1_3) b2_4))) (ssS σ j (s_Sh_lane sh_6 b1_3) (s_Sh_length (s_Sh_lane sh_6 b1_3) b2_4)) tb_1_155 dX3_renew_28 (fun H locs hw => ?_)
  obtain rfl := Option.some.inj hf
  exact nn_vret S hr hlk hw hσ dX3_renew_31
set_option maxRecDepth 100000 in
set_option maxHeartbeats 4000000 in
theorem c_X3_remove (l : Launch) (D : va_G) (cy : Nat → ClassId) (ad : Nat → Nat) (A : Nat → Prop) (σ : nG) (j : Nat) (hn_j : j < 4) (sh : nSh) (hx_Shj : gSh σ j = sh) (q : nSh) (hf : f_X3_remove sh = some q) (σ' : nG) (hσ : (sSh σ j q) = σ') : nn_V l yX3_remove (nn_ws yX3_remove cX3_remove 1 none) (nn_R 0) D cy ad A [.ref (ad (128+2*j))] σ σ' := by
  refine nn_enterV (plainFor_of_name (by decide +kernel)) (Nat.le_of_ble_eq_true rfl) (lv := [(0, .ref (ad (128+2*j)))]) rfl ?_
  intro pp ee ss mm bb me co S hr hlk hK hw ls hl
  have hx := S.1
  have hb := S.2.1
  have hw : nn_W D cy ad A ss.heap (sSh σ j sh) ss.heap [] := nn_W.eq (by rw [← hx_Shj]; exact (esS σ j).symm) hw
  unfold f_X3_remove at hf
  refine lv_aload_n hx hb dX3_remove_0 rfl (lv_at hl 0 rfl) ?_
  refine lv_iconst (v := -1) hx hb dX3_remove_1 (by decide) ?_
  refine pf_Sh_lane S hK hw (v := j) hn_j (x := sh) (gsS _ _ _) (τ' := (sSh σ j (s_Sh_lane sh (-1 : Int32)))) (ssS σ j sh (s_Sh_lane sh (-1 : Int32))) tb_1_153 dX3_remove_2 (fun H locs hw => ?_)
  refine lv_aload_n hx hb dX3_remove_5 rfl (lv_at hl 0 rfl) ?_
  refine lv_iconst (v := 0) hx hb dX3_remove_6 (by decide) ?_
  refine pf_Sh_length S hK hw (v := j) hn_j (x := (s_Sh_lane sh (-1 : Int32))) (gsS _ _ _) (τ' := (sSh σ j (s_Sh_length (s_Sh_lane sh (-1 : Int32)) (0 : Int32)))) (ssS σ j (s_Sh_lane sh (-1 : Int32)) (s_Sh_length (s_Sh_lane sh (-1 : Int32)) (0 : Int32))) tb_1_155 dX3_remove_7 (fun H locs hw => ?_)
  obtain rfl := Option.some.inj hf
  exact nn_vret S hr hlk hw hσ dX3_remove_10
set_option maxRecDepth 100000 in
set_option maxHeartbeats 4000000 in
theorem c_X3_isMissing (l : Launch) (D : va_G) (cy : Nat → ClassId) (ad : Nat → Nat) (A : Nat → Prop) (σ : nG) (j : Nat) (hn_j : j < 4) (sh : nSh) (hx_Shj : gSh σ j = sh) (q : Int32) (hf : f_X3_isMissing sh = some q) : nn_I l yX3_isMissing (nn_ws yX3_isMissing cX3_isMissing 1 (some .boolean)) (nn_R 0) D cy ad A [.ref (ad (128+2*j))] σ q σ := by
  refine nn_enterI (plainFor_of_name (by decide +kernel)) (Nat.le_of_ble_eq_true rfl) (lv := [(0, .ref (ad (128+2*j)))]) rfl ?_
  intro pp ee ss mm bb me co S hr hlk hK hw ls hl
  have hx := S.1
  have hb := S.2.1
  unfold f_X3_isMissing at hf
  refine lv_aload_n hx hb dX3_isMissing_0 rfl (lv_at hl 0 rfl) ?_
  refine gf_Sh_lane S hK hw (v := j) hn_j (x := sh) hx_Shj tb_1_153 dX3_isMissing_1 ?_
  refine lv_iconst (v := -1) hx hb dX3_isMissing_4 (by decide) ?_
  refine lv_icmp_ne (tgt := 12) hx hb dX3_isMissing_5 (by decide) (fun c_1 => ?_) (fun c_1 => ?_)
  · rw [if_neg c_1] at hf
    refine lv_iconst (v := 0) hx hb dX3_isMissing_12 (by decide) ?_
    obtain rfl := Option.some.inj hf
    exact nn_zret S hr hlk hw rfl rfl rfl dX3_isMissing_13
  · rw [if_pos c_1] at hf
    refine lv_iconst (v := 1) hx hb dX3_isMissing_8 (by decide) ?_
    refine lv_goto (tgt := 13) hx hb dX3_isMissing_9 (by decide) ?_
    obtain rfl := Option.some.inj hf
    exact nn_zret S hr hlk hw rfl rfl rfl dX3_isMissing_13
set_option maxRecDepth 100000 in
set_option maxHeartbeats 4000000 in
theorem c_X3_reaches (l : Launch) (D : va_G) (cy : Nat → ClassId) (ad : Nat → Nat) (A : Nat → Prop) (σ : nG) (j : Nat) (hn_j : j < 4) (sh : nSh) (hx_Shj : gSh σ j = sh) (a1 : Int32) (a2 : Int32) (q : Int32) (hf : f_X3_reaches sh a1 a2 = some q) : nn_I l yX3_reaches (nn_ws yX3_reaches cX3_reaches 3 (some .boolean)) (nn_R 0) D cy ad A [.ref (ad (128+2*j)), .int (a1), .int (a2)] σ q σ := by
  refine nn_enterI (plainFor_of_name (by decide +kernel)) (Nat.le_of_ble_eq_true rfl) (lv := [(0, .ref (ad (128+2*j))), (1, .int (a1)), (2, .int (a2))]) rfl ?_
  intro pp ee ss mm bb me co S hr hlk hK hw ls hl
  have hx := S.1
  have hb := S.2.1
  unfold f_X3_reaches at hf
  refine lv_iload_n hx hb dX3_reaches_0 rfl (lv_at hl 1 rfl) ?_
  refine lv_if_lt (tgt := 30) hx hb dX3_reaches_1 (by decide) (fun c_1 => ?_) (fun c_1 => ?_)
  · rw [if_pos c_1] at hf
    refine lv_iconst (v := 0) hx hb dX3_reaches_30 (by decide) ?_
    obtain rfl := Option.some.inj hf
    exact nn_zret S hr hlk hw rfl rfl rfl dX3_reaches_31
  · rw [if_neg c_1] at hf
    refine lv_iload_n hx hb dX3_reaches_4 rfl (lv_at hl 2 rfl) ?_
    refine lv_if_lt (tgt := 30) hx hb dX3_reaches_5 (by decide) (fun c_2 => ?_) (fun c_2 => ?_)
    · rw [if_pos c_2] at hf
      refine lv_iconst (v := 0) hx hb dX3_reaches_30 (by decide) ?_
      obtain rfl := Option.some.inj hf
      exact nn_zret S hr hlk hw rfl rfl rfl dX3_reaches_31
    · rw [if_neg c_2] at hf
      refine lv_iload_n hx hb dX3_reaches_8 rfl (lv_at hl 2 rfl) ?_
      refine lv_aload_n hx hb dX3_reaches_9 rfl (lv_at hl 0 rfl) ?_
      refine gf_Sh_length S hK hw (v := j) hn_j (x := sh) hx_Shj tb_1_155 dX3_reaches_10 ?_
      refine lv_icmp_gt (tgt := 30) hx hb dX3_reaches_13 (by decide) (fun c_3 => ?_) (fun c_3 => ?_)
      · rw [if_pos c_3] at hf
        refine lv_iconst (v := 0) hx hb dX3_reaches_30 (by decide) ?_
        obtain rfl := Option.some.inj hf
        exact nn_zret S hr hlk hw rfl rfl rfl dX3_reaches_31
      · rw [if_neg c_3] at hf
        refine lv_iload_n hx hb dX3_reaches_16 rfl (lv_at hl 1 rfl) ?_
        refine lv_aload_n hx hb dX3_reaches_17 rfl (lv_at hl 0 rfl) ?_
        refine gf_Sh_length S hK hw (v := j) hn_j (x := sh) hx_Shj tb_1_155 dX3_reaches_18 ?_
        refine lv_iload_n hx hb dX3_reaches_21 rfl (lv_at hl 2 rfl) ?_
        refine lv_isub hx hb dX3_reaches_22 ?_
        refine lv_icmp_gt (tgt := 30) hx hb dX3_reaches_23 (by decide) (fun c_4 => ?_) (fun c_4 => ?_)
        · rw [if_pos c_4] at hf
          refine lv_iconst (v := 0) hx hb dX3_reaches_30 (by decide) ?_
          obtain rfl := Option.some.inj hf
          exact nn_zret S hr hlk hw rfl rfl rfl dX3_reaches_31
        · rw [if_neg c_4] at hf
          refine lv_iconst (v := 1) hx hb dX3_reaches_26 (by decide) ?_
          refine lv_goto (tgt := 31) hx hb dX3_reaches_27 (by decide) ?_
          obtain rfl := Option.some.inj hf
          exact nn_zret S hr hlk hw rfl rfl rfl dX3_reaches_31
set_option maxRecDepth 100000 in
set_option maxHeartbeats 4000000 in
theorem c_X3_refusal (l : Launch) (D : va_G) (cy : Nat → ClassId) (ad : Nat → Nat) (A : Nat → Prop) (σ : nG) (j : Nat) (hn_j : j < 4) (sh : nSh) (hx_Shj : gSh σ j = sh) (a1 : Int32) (a2 : Int32) (a3 : Int32) (q : Int32) (hf : f_X3_refusal sh a1 a2 a3 = some q) : nn_I l yX3_refusal (nn_ws yX3_refusal cX3_refusal 4 (some .int)) (nn_R 1) D cy ad A [.ref (ad (128+2*j)), .int (a1), .int (a2), .int (a3)] σ q σ := by
  refine nn_enterI (plainFor_of_name (by decide +kernel)) (Nat.le_of_ble_eq_true rfl) (lv := [(0, .ref (ad (128+2*j))), (1, .int (a1)), (2, .int (a2)), (3, .int (a3))]) rfl ?_
  intro pp ee ss mm bb me co S hr hlk hK hw ls hl
  have hx := S.1
  have hb := S.2.1
  unfold f_X3_refusal at hf
  refine lv_aload_n hx hb dX3_refusal_0 rfl (lv_at hl 0 rfl) ?_
  obtain ⟨q_1, h_2, hf⟩ := nn_bind hf
  refine nn_calliV S (As := []) (rest := []) (ce_S (k := 0) (v := j) hn_j (by decide)) (by omega) rfl rfl (c_X3_isMissing l D cy ad A σ j hn_j sh hx_Shj q_1 h_2) mv_X3_isMissing tb_3_84 hK hw ⟨Nat.le_of_ble_eq_true rfl, Nat.le_of_ble_eq_true rfl⟩ ⟨Nat.zero_le _, Nat.zero_le _⟩ rfl hl.1 rfl (Nat.le_of_ble_eq_true rfl) dX3_refusal_1 (fun H locs hw => ?_)
  refine lv_if_eq (tgt := 10) hx hb dX3_refusal_4 (by decide) (fun c_3 => ?_) (fun c_3 => ?_)
  · rw [if_pos c_3] at hf
    refine lv_aload_n hx hb dX3_refusal_10 rfl (lv_at hl 0 rfl) ?_
    refine gf_Sh_lane S hK hw (v := j) hn_j (x := sh) hx_Shj tb_1_153 dX3_refusal_11 ?_
    refine lv_iload_n hx hb dX3_refusal_14 rfl (lv_at hl 1 rfl) ?_
    refine lv_icmp_eq (tgt := 21) hx hb dX3_refusal_15 (by decide) (fun c_4 => ?_) (fun c_4 => ?_)
    · rw [if_pos c_4] at hf
      refine lv_aload_n hx hb dX3_refusal_21 rfl (lv_at hl 0 rfl) ?_
      refine lv_iload_n hx hb dX3_refusal_22 rfl (lv_at hl 2 rfl) ?_
      refine lv_iload_n hx hb dX3_refusal_23 rfl (lv_at hl 3 rfl) ?_
      obtain ⟨q_5, h_6, hf⟩ := nn_bind hf
      refine nn_calliV S (As := [.int (a2), .int (a3)]) (rest := []) (ce_S (k := 0) (v := j) hn_j (by decide)) (by omega) rfl rfl (c_X3_reaches l D cy ad A σ j hn_j sh hx_Shj a2 a3 q_5 h_6) mv_X3_reaches tb_3_88 hK hw ⟨Nat.le_of_ble_eq_true rfl, Nat.le_of_ble_eq_true rfl⟩ ⟨Nat.zero_le _, Nat.zero_le _⟩ rfl hl.1 rfl (Nat.le_of_ble_eq_true rfl) dX3_refusal_24 (fun H locs hw => ?_)
      refine lv_if_eq (tgt := 34) hx hb dX3_refusal_27 (by decide) (fun c_7 => ?_) (fun c_7 => ?_)
      · rw [if_pos c_7] at hf
        refine lv_bipush (v := -13) hx hb dX3_refusal_34 (by decide) ?_
        obtain rfl := Option.some.inj hf
        exact nn_iret S hr hlk hw rfl rfl dX3_refusal_36
      · rw [if_neg c_7] at hf
        refine lv_iconst (v := 0) hx hb dX3_refusal_30 (by decide) ?_
        refine lv_goto (tgt := 36) hx hb dX3_refusal_31 (by decide) ?_
        obtain rfl := Option.some.inj hf
        exact nn_iret S hr hlk hw rfl rfl dX3_refusal_36
    · rw [if_neg c_4] at hf
      refine lv_bipush (v := -12) hx hb dX3_refusal_18 (by decide) ?_
      obtain rfl := Option.some.inj hf
      exact nn_iret S hr hlk hw rfl rfl dX3_refusal_20
  · rw [if_neg c_3] at hf
    refine lv_bipush (v := -11) hx hb dX3_refusal_7 (by decide) ?_
    obtain rfl := Option.some.inj hf
    exact nn_iret S hr hlk hw rfl rfl dX3_refusal_9
set_option maxRecDepth 100000 in
set_option maxHeartbeats 4000000 in
theorem c_X3_put (l : Launch) (D : va_G) (cy : Nat → ClassId) (ad : Nat → Nat) (A : Nat → Prop) (σ : nG) (j : Nat) (hn_j : j < 4) (sh : nSh) (hx_Shj : gSh σ j = sh) (a1 : Int32) (a2 : Int64) (q : nSh) (hf : f_X3_put sh a1 a2 = some q) (σ' : nG) (hσ : (sSh σ j q) = σ') : nn_V l yX3_put (nn_ws yX3_put cX3_put 4 none) (nn_R 0) D cy ad A [.ref (ad (128+2*j)), .int (a1), .long (a2)] σ σ' := by
  refine nn_enterV (plainFor_of_name (by decide +kernel)) (Nat.le_of_ble_eq_true rfl) (lv := [(0, .ref (ad (128+2*j))), (1, .int (a1)), (2, .long (a2))]) rfl ?_
  intro pp ee ss mm bb me co S hr hlk hK hw ls hl
  have hx := S.1
  have hb := S.2.1
  have hw : nn_W D cy ad A ss.heap (sSh σ j sh) ss.heap [] := nn_W.eq (by rw [← hx_Shj]; exact (esS σ j).symm) hw
  unfold f_X3_put at hf
  refine lv_aload_n hx hb dX3_put_0 rfl (lv_at hl 0 rfl) ?_
  refine gf_Sh_lane S hK hw (v := j) hn_j (x := sh) (gsS _ _ _) tb_1_153 dX3_put_1 ?_
  by_cases c_1 : (g_Sh_lane sh) = (0 : Int32)
  · rw [if_pos c_1] at hf
    refine lv_tableIn (tgt := 32) hx hb dX3_put_4 (by rw [c_1]; decide) (by rw [c_1]; decide) (by rw [c_1]; rfl) (by decide) ?_
    refine lv_aload_n hx hb dX3_put_32 rfl (lv_at hl 0 rfl) ?_
    refine gf_Sh_items S hK hw (v := j) hn_j tb_1_151 dX3_put_33 ?_
    refine lv_iload_n hx hb dX3_put_36 rfl (lv_at hl 1 rfl) ?_
    refine lv_lload_n hx hb dX3_put_37 rfl (lv_at hl 2 rfl) ?_
    refine lv_l2i (v := a2.toInt32) hx hb dX3_put_38 rfl ?_
    refine lv_i2b (v := a2.toInt32.toInt8.toInt32) hx hb dX3_put_39 rfl ?_
    refine lv_i2l (v := a2.toInt32.toInt8.toInt32.toInt64) hx hb dX3_put_40 rfl ?_
    obtain ⟨g_2, hf⟩ := nn_ix_some hf
    obtain ⟨sh_3, h_4, hf⟩ := nn_bind hf
    replace h_4 := Option.some.inj h_4
    refine as_Sh_items S hK hw (v := j) hn_j (x := sh) (gsS _ _ _) g_2 (τ' := (sSh σ j sh_3)) (((ssS σ j sh (s_Sh_items sh (vp_updL (g_Sh_items sh) a1.toNatClampNeg a2.toInt32.toInt8.toInt32.toInt64))) : _ = (sSh σ j (s_Sh_items sh (vp_updL (g_Sh_items sh) a1.toNatClampNeg a2.toInt32.toInt8.toInt32.toInt64)))).trans (by rw [h_4])) dX3_put_41 (fun H locs hw => ?_)
    refine lv_goto (tgt := 77) hx hb dX3_put_42 (by decide) ?_
    obtain rfl := Option.some.inj hf
    exact nn_vret S hr hlk hw hσ dX3_put_77
  · rw [if_neg c_1] at hf
    by_cases c_5 : (g_Sh_lane sh) = (1 : Int32)
    · rw [if_pos c_5] at hf
      refine lv_tableIn (tgt := 45) hx hb dX3_put_4 (by rw [c_5]; decide) (by rw [c_5]; decide) (by rw [c_5]; rfl) (by decide) ?_
      refine lv_aload_n hx hb dX3_put_45 rfl (lv_at hl 0 rfl) ?_
      refine gf_Sh_items S hK hw (v := j) hn_j tb_1_151 dX3_put_46 ?_
      refine lv_iload_n hx hb dX3_put_49 rfl (lv_at hl 1 rfl) ?_
      refine lv_lload_n hx hb dX3_put_50 rfl (lv_at hl 2 rfl) ?_
      refine lv_l2i (v := a2.toInt32) hx hb dX3_put_51 rfl ?_
      refine lv_i2s (v := a2.toInt32.toInt16.toInt32) hx hb dX3_put_52 rfl ?_
      refine lv_i2l (v := a2.toInt32.toInt16.toInt32.toInt64) hx hb dX3_put_53 rfl ?_
      obtain ⟨g_6, hf⟩ := nn_ix_some hf
      obtain ⟨sh_7, h_8, hf⟩ := nn_bind hf
      replace h_8 := Option.some.inj h_8
      refine as_Sh_items S hK hw (v := j) hn_j (x := sh) (gsS _ _ _) g_6 (τ' := (sSh σ j sh_7)) (((ssS σ j sh (s_Sh_items sh (vp_updL (g_Sh_items sh) a1.toNatClampNeg a2.toInt32.toInt16.toInt32.toInt64))) : _ = (sSh σ j (s_Sh_items sh (vp_updL (g_Sh_items sh) a1.toNatClampNeg a2.toInt32.toInt16.toInt32.toInt64)))).trans (by rw [h_8])) dX3_put_54 (fun H locs hw => ?_)
      refine lv_goto (tgt := 77) hx hb dX3_put_55 (by decide) ?_
      obtain rfl := Option.some.inj hf
      exact nn_vret S hr hlk hw hσ dX3_put_77
    · rw [if_neg c_5] at hf
      by_cases c_9 : (g_Sh_lane sh) = (2 : Int32)
      · rw [if_pos c_9] at hf
        refine lv_tableIn (tgt := 58) hx hb dX3_put_4 (by rw [c_9]; decide) (by rw [c_9]; decide) (by rw [c_9]; rfl) (by decide) ?_
        refine lv_aload_n hx hb dX3_put_58 rfl (lv_at hl 0 rfl) ?_
        refine gf_Sh_items S hK hw (v := j) hn_j tb_1_151 dX3_put_59 ?_
        refine lv_iload_n hx hb dX3_put_62 rfl (lv_at hl 1 rfl) ?_
        refine lv_lload_n hx hb dX3_put_63 rfl (lv_at hl 2 rfl) ?_
        refine lv_l2i (v := a2.toInt32) hx hb dX3_put_64 rfl ?_
        refine lv_i2l (v := a2.toInt32.toInt64) hx hb dX3_put_65 rfl ?_
        obtain ⟨g_10, hf⟩ := nn_ix_some hf
        refine as_Sh_items S hK hw (v := j) hn_j (x := sh) (gsS _ _ _) g_10 (τ' := (sSh σ j (s_Sh_items sh (vp_updL (g_Sh_items sh) a1.toNatClampNeg a2.toInt32.toInt64)))) (ssS σ j sh (s_Sh_items sh (vp_updL (g_Sh_items sh) a1.toNatClampNeg a2.toInt32.toInt64))) dX3_put_66 (fun H locs hw => ?_)
        refine lv_goto (tgt := 77) hx hb dX3_put_67 (by decide) ?_
        obtain rfl := Option.some.inj hf
        exact nn_vret S hr hlk hw hσ dX3_put_77
      · rw [if_neg c_9] at hf
        refine lv_tableOut (tgt := 70) hx hb dX3_put_4 (nn_swout 2 (by decide) (fun k hk => by have h9 : k = 0 ∨ k = 1 ∨ k = 2 := (by omega); rcases h9 with rfl | rfl | rfl <;> assumption)) (by decide) ?_
        refine lv_aload_n hx hb dX3_put_70 rfl (lv_at hl 0 rfl) ?_
        refine gf_Sh_items S hK hw (v := j) hn_j tb_1_151 dX3_put_71 ?_
        refine lv_iload_n hx hb dX3_put_74 rfl (lv_at hl 1 rfl) ?_
        refine lv_lload_n hx hb dX3_put_75 rfl (lv_at hl 2 rfl) ?_
        obtain ⟨g_11, hf⟩ := nn_ix_some hf
        refine as_Sh_items S hK hw (v := j) hn_j (x := sh) (gsS _ _ _) g_11 (τ' := (sSh σ j (s_Sh_items sh (vp_updL (g_Sh_items sh) a1.toNatClampNeg a2)))) (ssS σ j sh (s_Sh_items sh (vp_updL (g_Sh_items sh) a1.toNatClampNeg a2))) dX3_put_76 (fun H locs hw => ?_)
        obtain rfl := Option.some.inj hf
        exact nn_vret S hr hlk hw hσ dX3_put_77
