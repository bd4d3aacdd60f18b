/-! THE CLAIM OUT OF ONE WALK OF THE LAW'S BODY. Your part is whole_start (and what it stands on); all else here is the same for every law, but numbers. -/
def R_law : String := "NineNoonsLaw"
def lw_P (b : Addr) (xs : List Int32) (args : Array Value) (s : State) : Prop := args = #[.ref b] ∧ s.IntsAt b xs ∧ xs.length ≤ 3584 ∧ (Jvm.Cond.and given_1 narrow_1).before args s = true
def lw_Q (_ : Array Value) (s : State) (o : Outcome) (t : State) : Prop := o = .returned (some (.int 1)) ∧ Framed s o t [] 600000 7302250
def lw_Z (below : List Frame) (a : Array Value) (s : State) : State → Prop := fun t => ∃ o, t.status = .running ∧ Ended t below o ∧ lw_Q a s o t
/-- the law's own end, with 1 on the stack, nothing written that was there before, its room as the claim has it -/
theorem lw_ret {p : Program} {l : Launch} {e : Env} {s : State} {m : MethodId} {below : List Frame} {meth : Method} {c : Code} {b : Nat} (hx : p.tables.exec = Jvm.exec) (hb : c.code = code) (hr : meth.sig.returnType = ret) (hlocks : meth.locks = false) {pc : Nat} {H : Heap} {ls : Array Slot} (hdg : decode code pc = .ok (.ireturn, 1)) : W p l e room_1 s m #[Value.ref b] below meth c H [] 600000 7302250 (lw_Z below #[Value.ref b] s) (F0 m pc ls [.int 1]) := by
  intro T hT X
  obtain ⟨fs, hret, hrun, hended, hW, hframe⟩ := X.leave (v := some (.int 1)) (hlocks := hlocks) (fun h => by rw [hr] at h; cases h)
  have hmeth' : T.vm.method? m = some meth := X.method'
  refine ⟨T.setFrames fs, ?_, .returned (some (.int 1)), hrun, hended, rfl, ⟨_, rfl⟩, hW, hframe⟩
  jvm_step X.here [X.here.top, hx, hb, hdg, hmeth', hr, ret, narrow_b1]
  (try refine ⟨rfl, ?_⟩); (try refine ⟨rfl, ?_⟩)
  first | (intro acts; rw [hret _ acts rfl rfl rfl]) | rw [hret _ _ rfl rfl rfl]
  exact Steps.refl _
/-- what holds at the law's entry: the machine, the code, the tables' words (any of lw_tbl by 'hts w (by decide +kernel)'), the script of L ints xs at the cell b, what the Statement gives of the start (any of its parts by flat_of_before) -/
def lw_At (p : Program) (s : State) (m : MethodId) (meth : Method) (c : Code) (b L : Nat) (xs : Nat → Int32) : Prop :=
  p.tables.exec = Jvm.exec ∧ c.code = code ∧ meth.sig.returnType = ret ∧ c.maxLocals = 4 ∧ s.vm.findClass R_law = some m.cls ∧ (∀ w ∈ lw_tbl, w.before #[Value.ref b] s = true) ∧ va_X b L xs s s.heap ∧ b < s.heap.size ∧ meth.locks = false ∧ (Jvm.Cond.and given_1 narrow_1).before #[Value.ref b] s = true
set_option maxRecDepth 100000 in
set_option maxHeartbeats 4000000 in
theorem law_0 {pp : Program} {ee : Env} {ss : State} {mm : MethodId} {bb : List Frame} {me : Method} {co : Code} (l : Launch) {b L : Nat} {xs : Nat → Int32} (C0 : lw_At pp ss mm me co b L xs) {D : va_G} {cy : Nat → ClassId} {ad : Nat → Nat} (hK : nn_K D cy ss) (c : nCs) (m : nMd) (u3 : Int32) (NEXT : nCs → nMd → Option Int32) (hN : ∀ (c : nCs) (m : nMd), NEXT c m = some 1 → ∀ (H : Heap) (locs : List Loc) (ls : Array Slot), nn_W D cy ad (fun q : Nat => ss.heap.size ≤ q) ss.heap (c, m) H locs → lv_has ls 4 [(0, .ref b), (1, .ref (ad 118)), (2, .ref (ad 136)), (3, .int u3)] → W pp l ee room_1 ss mm #[Value.ref b] bb me co H locs 600000 7302250 (lw_Z bb #[Value.ref b] ss) (F0 mm 1198 ls [])) (hf : f_law_0 xs L c m u3 NEXT = some 1) : ∀ (H : Heap) (locs : List Loc) (ls : Array Slot), nn_W D cy ad (fun q : Nat => ss.heap.size ≤ q) ss.heap (c, m) H locs → lv_has ls 4 [(0, .ref b), (1, .ref (ad 118)), (2, .ref (ad 136)), (3, .int u3)] → W pp l ee room_1 ss mm #[Value.ref b] bb me co H locs 600000 7302250 (lw_Z bb #[Value.ref b] ss) (F0 mm 172 ls []) := by
  obtain ⟨hx, hb, hr, hml, hown, hts0, hX, hbl, hlk, hgv⟩ := C0
  have hts : ∀ w ∈ nn_B, w.before #[Value.ref b] ss = true := fun w hw => hts0 w (List.mem_filter.mp hw).1
  have S : CallFix pp mm co code 4 ss #[Value.ref b] nn_B "NineNoonsLaw" := ⟨hx, hb, hml, hown, hts⟩
  have hbA : ¬ (fun q : Nat => ss.heap.size ≤ q) b := Nat.not_le.mpr hbl
  intro H locs ls hw hl
  unfold f_law_0 at hf
  refine lv_aload_n hx hb dL_law_172 rfl (lv_at hl 1 rfl) ?_
  refine lv_aload_n hx hb dL_law_173 rfl (lv_at hl 0 rfl) ?_
  refine lv_iload_n hx hb dL_law_174 rfl (lv_at hl 3 rfl) ?_
  refine lv_iconst (v := 1) hx hb dL_law_175 (by decide) ?_
  refine lv_iadd hx hb dL_law_176 ?_
  obtain ⟨g_1, hf⟩ := nn_ix_some hf
  refine va_sld hx hb hX hbl hbA hw.2.2 g_1 dL_law_177 ?_
  refine lv_aload_n hx hb dL_law_178 rfl (lv_at hl 0 rfl) ?_
  refine lv_iload_n hx hb dL_law_179 rfl (lv_at hl 3 rfl) ?_
  refine lv_iconst (v := 2) hx hb dL_law_180 (by decide) ?_
  refine lv_iadd hx hb dL_law_181 ?_
  obtain ⟨g_2, hf⟩ := nn_ix_some hf
  refine va_sld hx hb hX hbl hbA hw.2.2 g_2 dL_law_182 ?_
  refine lv_aload_n hx hb dL_law_183 rfl (lv_at hl 0 rfl) ?_
  refine lv_iload_n hx hb dL_law_184 rfl (lv_at hl 3 rfl) ?_
  refine lv_iconst (v := 3) hx hb dL_law_185 (by decide) ?_
  refine lv_iadd hx hb dL_law_186 ?_
  obtain ⟨g_3, hf⟩ := nn_ix_some hf
  refine va_sld hx hb hX hbl hbA hw.2.2 g_3 dL_law_187 ?_
  obtain ⟨q_4, h_5, hf⟩ := nn_bind hf
  refine nn_calliV S (As := [.int (xs (u3 + (1 : Int32)).toNatClampNeg), .int (xs (u3 + (2 : Int32)).toNatClampNeg), .int (xs (u3 + (3 : Int32)).toNatClampNeg)]) (rest := []) (ce_O (k := 0) (by decide)) (by decide) rfl rfl (c_X6_village l D cy ad (fun q : Nat => ss.heap.size ≤ q) (c, m) c rfl (xs (u3 + (1 : Int32)).toNatClampNeg) (xs (u3 + (2 : Int32)).toNatClampNeg) (xs (u3 + (3 : Int32)).toNatClampNeg) q_4 h_5 (q_4.2, m) rfl) mv_X6_village tb_1_196 hK hw ⟨by decide, by decide⟩ ⟨by decide, by decide⟩ rfl hl.1 rfl (Nat.le_of_ble_eq_true rfl) dL_law_188 (fun H locs hw => ?_)
  refine lv_aload_n hx hb dL_law_191 rfl (lv_at hl 2 rfl) ?_
  refine lv_aload_n hx hb dL_law_192 rfl (lv_at hl 0 rfl) ?_
  refine lv_iload_n hx hb dL_law_193 rfl (lv_at hl 3 rfl) ?_
  refine lv_iconst (v := 1) hx hb dL_law_194 (by decide) ?_
  refine lv_iadd hx hb dL_law_195 ?_
  obtain ⟨g_6, hf⟩ := nn_ix_some hf
  refine va_sld hx hb hX hbl hbA hw.2.2 g_6 dL_law_196 ?_
  refine lv_aload_n hx hb dL_law_197 rfl (lv_at hl 0 rfl) ?_
  refine lv_iload_n hx hb dL_law_198 rfl (lv_at hl 3 rfl) ?_
  refine lv_iconst (v := 2) hx hb dL_law_199 (by decide) ?_
  refine lv_iadd hx hb dL_law_200 ?_
  obtain ⟨g_7, hf⟩ := nn_ix_some hf
  refine va_sld hx hb hX hbl hbA hw.2.2 g_7 dL_law_201 ?_
  refine lv_aload_n hx hb dL_law_202 rfl (lv_at hl 0 rfl) ?_
  refine lv_iload_n hx hb dL_law_203 rfl (lv_at hl 3 rfl) ?_
  refine lv_iconst (v := 3) hx hb dL_law_204 (by decide) ?_
  refine lv_iadd hx hb dL_law_205 ?_
  obtain ⟨g_8, hf⟩ := nn_ix_some hf
  refine va_sld hx hb hX hbl hbA hw.2.2 g_8 dL_law_206 ?_
  obtain ⟨q_9, h_10, hf⟩ := nn_bind hf
  refine nn_calliV S (As := [.int (xs (u3 + (1 : Int32)).toNatClampNeg), .int (xs (u3 + (2 : Int32)).toNatClampNeg), .int (xs (u3 + (3 : Int32)).toNatClampNeg)]) (rest := [.int (q_4.1)]) (ce_M (k := 0)) (by decide) rfl rfl (c_X7_village l D cy ad (fun q : Nat => ss.heap.size ≤ q) (q_4.2, m) m rfl (xs (u3 + (1 : Int32)).toNatClampNeg) (xs (u3 + (2 : Int32)).toNatClampNeg) (xs (u3 + (3 : Int32)).toNatClampNeg) q_9 h_10 (q_4.2, q_9.2) rfl) mv_X7_village tb_3_209 hK hw ⟨by decide, by decide⟩ ⟨by decide, by decide⟩ rfl hl.1 rfl (Nat.le_of_ble_eq_true rfl) dL_law_207 (fun H locs hw => ?_)
  refine lv_icmp_eq (tgt := 1198) hx hb dL_law_210 (by decide) (fun c_11 => ?_) (fun c_11 => ?_)
  · rw [if_pos c_11] at hf
    exact hN q_4.2 q_9.2 hf _ _ _ hw hl
  · rw [if_neg c_11] at hf
    exact absurd hf (by decide)
set_option maxRecDepth 100000 in
set_option maxHeartbeats 4000000 in
theorem law_1 {pp : Program} {ee : Env} {ss : State} {mm : MethodId} {bb : List Frame} {me : Method} {co : Code} (l : Launch) {b L : Nat} {xs : Nat → Int32} (C0 : lw_At pp ss mm me co b L xs) {D : va_G} {cy : Nat → ClassId} {ad : Nat → Nat} (hK : nn_K D cy ss) (c : nCs) (m : nMd) (u3 : Int32) (NEXT : nCs → nMd → Option Int32) (hN : ∀ (c : nCs) (m : nMd), NEXT c m = some 1 → ∀ (H : Heap) (locs : List Loc) (ls : Array Slot), nn_W D cy ad (fun q : Nat => ss.heap.size ≤ q) ss.heap (c, m) H locs → lv_has ls 4 [(0, .ref b), (1, .ref (ad 118)), (2, .ref (ad 136)), (3, .int u3)] → W pp l ee room_1 ss mm #[Value.ref b] bb me co H locs 600000 7302250 (lw_Z bb #[Value.ref b] ss) (F0 mm 1198 ls [])) (hf : f_law_1 xs L c m u3 NEXT = some 1) : ∀ (H : Heap) (locs : List Loc) (ls : Array Slot), nn_W D cy ad (fun q : Nat => ss.heap.size ≤ q) ss.heap (c, m) H locs → lv_has ls 4 [(0, .ref b), (1, .ref (ad 118)), (2, .ref (ad 136)), (3, .int u3)] → W pp l ee room_1 ss mm #[Value.ref b] bb me co H locs 600000 7302250 (lw_Z bb #[Value.ref b] ss) (F0 mm 215 ls []) := by
  obtain ⟨hx, hb, hr, hml, hown, hts0, hX, hbl, hlk, hgv⟩ := C0
  have hts : ∀ w ∈ nn_B, w.before #[Value.ref b] ss = true := fun w hw => hts0 w (List.mem_filter.mp hw).1
  have S : CallFix pp mm co code 4 ss #[Value.ref b] nn_B "NineNoonsLaw" := ⟨hx, hb, hml, hown, hts⟩
  have hbA : ¬ (fun q : Nat => ss.heap.size ≤ q) b := Nat.not_le.mpr hbl
  intro H locs ls hw hl
  unfold f_law_1 at hf
  refine lv_aload_n hx hb dL_law_215 rfl (lv_at hl 1 rfl) ?_
  refine lv_aload_n hx hb dL_law_216 rfl (lv_at hl 0 rfl) ?_
  refine lv_iload_n hx hb dL_law_217 rfl (lv_at hl 3 rfl) ?_
  refine lv_iconst (v := 1) hx hb dL_law_218 (by decide) ?_
  refine lv_iadd hx hb dL_law_219 ?_
  obtain ⟨g_1, hf⟩ := nn_ix_some hf
  refine va_sld hx hb hX hbl hbA hw.2.2 g_1 dL_law_220 ?_
  refine lv_aload_n hx hb dL_law_221 rfl (lv_at hl 0 rfl) ?_
  refine lv_iload_n hx hb dL_law_222 rfl (lv_at hl 3 rfl) ?_
  refine lv_iconst (v := 2) hx hb dL_law_223 (by decide) ?_
  refine lv_iadd hx hb dL_law_224 ?_
  obtain ⟨g_2, hf⟩ := nn_ix_some hf
  refine va_sld hx hb hX hbl hbA hw.2.2 g_2 dL_law_225 ?_
  obtain ⟨q_3, h_4, hf⟩ := nn_bind hf
  refine nn_calliV S (As := [.int (xs (u3 + (1 : Int32)).toNatClampNeg), .int (xs (u3 + (2 : Int32)).toNatClampNeg)]) (rest := []) (ce_O (k := 0) (by decide)) (by decide) rfl rfl (c_X6_of l D cy ad (fun q : Nat => ss.heap.size ≤ q) (c, m) c rfl (xs (u3 + (1 : Int32)).toNatClampNeg) (xs (u3 + (2 : Int32)).toNatClampNeg) q_3 h_4) mv_X6_of tb_1_214 hK hw ⟨by decide, by decide⟩ ⟨by decide, by decide⟩ rfl hl.1 rfl (Nat.le_of_ble_eq_true rfl) dL_law_226 (fun H locs hw => ?_)
  refine lv_aload_n hx hb dL_law_229 rfl (lv_at hl 2 rfl) ?_
  refine lv_aload_n hx hb dL_law_230 rfl (lv_at hl 0 rfl) ?_
  refine lv_iload_n hx hb dL_law_231 rfl (lv_at hl 3 rfl) ?_
  refine lv_iconst (v := 1) hx hb dL_law_232 (by decide) ?_
  refine lv_iadd hx hb dL_law_233 ?_
  obtain ⟨g_5, hf⟩ := nn_ix_some hf
  refine va_sld hx hb hX hbl hbA hw.2.2 g_5 dL_law_234 ?_
  refine lv_aload_n hx hb dL_law_235 rfl (lv_at hl 0 rfl) ?_
  refine lv_iload_n hx hb dL_law_236 rfl (lv_at hl 3 rfl) ?_
  refine lv_iconst (v := 2) hx hb dL_law_237 (by decide) ?_
  refine lv_iadd hx hb dL_law_238 ?_
  obtain ⟨g_6, hf⟩ := nn_ix_some hf
  refine va_sld hx hb hX hbl hbA hw.2.2 g_6 dL_law_239 ?_
  obtain ⟨q_7, h_8, hf⟩ := nn_bind hf
  refine nn_calliV S (As := [.int (xs (u3 + (1 : Int32)).toNatClampNeg), .int (xs (u3 + (2 : Int32)).toNatClampNeg)]) (rest := [.int (q_3)]) (ce_M (k := 0)) (by decide) rfl rfl (c_X7_of l D cy ad (fun q : Nat => ss.heap.size ≤ q) (c, m) m rfl (xs (u3 + (1 : Int32)).toNatClampNeg) (xs (u3 + (2 : Int32)).toNatClampNeg) q_7 h_8) mv_X7_of tb_3_228 hK hw ⟨by decide, by decide⟩ ⟨by decide, by decide⟩ rfl hl.1 rfl (Nat.le_of_ble_eq_true rfl) dL_law_240 (fun H locs hw => ?_)
  refine lv_icmp_eq (tgt := 1198) hx hb dL_law_243 (by decide) (fun c_9 => ?_) (fun c_9 => ?_)
  · rw [if_pos c_9] at hf
    exact hN c m hf _ _ _ hw hl
  · rw [if_neg c_9] at hf
    exact absurd hf (by decide)
set_option maxRecDepth 100000 in
set_option maxHeartbeats 4000000 in
theorem law_2 {pp : Program} {ee : Env} {ss : State} {mm : MethodId} {bb : List Frame} {me : Method} {co : Code} (l : Launch) {b L : Nat} {xs : Nat → Int32} (C0 : lw_At pp ss mm me co b L xs) {D : va_G} {cy : Nat → ClassId} {ad : Nat → Nat} (hK : nn_K D cy ss) (c : nCs) (m : nMd) (u3 : Int32) (NEXT : nCs → nMd → Option Int32) (hN : ∀ (c : nCs) (m : nMd), NEXT c m = some 1 → ∀ (H : Heap) (locs : List Loc) (ls : Array Slot), nn_W D cy ad (fun q : Nat => ss.heap.size ≤ q) ss.heap (c, m) H locs → lv_has ls 4 [(0, .ref b), (1, .ref (ad 118)), (2, .ref (ad 136)), (3, .int u3)] → W pp l ee room_1 ss mm #[Value.ref b] bb me co H locs 600000 7302250 (lw_Z bb #[Value.ref b] ss) (F0 mm 1198 ls [])) (hf : f_law_2 xs L c m u3 NEXT = some 1) : ∀ (H : Heap) (locs : List Loc) (ls : Array Slot), nn_W D cy ad (fun q : Nat => ss.heap.size ≤ q) ss.heap (c, m) H locs → lv_has ls 4 [(0, .ref b), (1, .ref (ad 118)), (2, .ref (ad 136)), (3, .int u3)] → W pp l ee room_1 ss mm #[Value.ref b] bb me co H locs 600000 7302250 (lw_Z bb #[Value.ref b] ss) (F0 mm 248 ls []) := by
  obtain ⟨hx, hb, hr, hml, hown, hts0, hX, hbl, hlk, hgv⟩ := C0
  have hts : ∀ w ∈ nn_B, w.before #[Value.ref b] ss = true := fun w hw => hts0 w (List.mem_filter.mp hw).1
  have S : CallFix pp mm co code 4 ss #[Value.ref b] nn_B "NineNoonsLaw" := ⟨hx, hb, hml, hown, hts⟩
  have hbA : ¬ (fun q : Nat => ss.heap.size ≤ q) b := Nat.not_le.mpr hbl
  intro H locs ls hw hl
  unfold f_law_2 at hf
  refine lv_aload_n hx hb dL_law_248 rfl (lv_at hl 1 rfl) ?_
  refine lv_aload_n hx hb dL_law_249 rfl (lv_at hl 0 rfl) ?_
  refine lv_iload_n hx hb dL_law_250 rfl (lv_at hl 3 rfl) ?_
  refine lv_iconst (v := 1) hx hb dL_law_251 (by decide) ?_
  refine lv_iadd hx hb dL_law_252 ?_
  obtain ⟨g_1, hf⟩ := nn_ix_some hf
  refine va_sld hx hb hX hbl hbA hw.2.2 g_1 dL_law_253 ?_
  refine lv_aload_n hx hb dL_law_254 rfl (lv_at hl 0 rfl) ?_
  refine lv_iload_n hx hb dL_law_255 rfl (lv_at hl 3 rfl) ?_
  refine lv_iconst (v := 2) hx hb dL_law_256 (by decide) ?_
  refine lv_iadd hx hb dL_law_257 ?_
  obtain ⟨g_2, hf⟩ := nn_ix_some hf
  refine va_sld hx hb hX hbl hbA hw.2.2 g_2 dL_law_258 ?_
  obtain ⟨q_3, h_4, hf⟩ := nn_bind hf
  refine nn_calliV S (As := [.int (xs (u3 + (1 : Int32)).toNatClampNeg), .int (xs (u3 + (2 : Int32)).toNatClampNeg)]) (rest := []) (ce_O (k := 0) (by decide)) (by decide) rfl rfl (c_X6_gap l D cy ad (fun q : Nat => ss.heap.size ≤ q) (c, m) c rfl (xs (u3 + (1 : Int32)).toNatClampNeg) (xs (u3 + (2 : Int32)).toNatClampNeg) q_3 h_4) mv_X6_gap tb_2_8 hK hw ⟨by decide, by decide⟩ ⟨by decide, by decide⟩ rfl hl.1 rfl (Nat.le_of_ble_eq_true rfl) dL_law_259 (fun H locs hw => ?_)
  refine lv_aload_n hx hb dL_law_262 rfl (lv_at hl 2 rfl) ?_
  refine lv_aload_n hx hb dL_law_263 rfl (lv_at hl 0 rfl) ?_
  refine lv_iload_n hx hb dL_law_264 rfl (lv_at hl 3 rfl) ?_
  refine lv_iconst (v := 1) hx hb dL_law_265 (by decide) ?_
  refine lv_iadd hx hb dL_law_266 ?_
  obtain ⟨g_5, hf⟩ := nn_ix_some hf
  refine va_sld hx hb hX hbl hbA hw.2.2 g_5 dL_law_267 ?_
  refine lv_aload_n hx hb dL_law_268 rfl (lv_at hl 0 rfl) ?_
  refine lv_iload_n hx hb dL_law_269 rfl (lv_at hl 3 rfl) ?_
  refine lv_iconst (v := 2) hx hb dL_law_270 (by decide) ?_
  refine lv_iadd hx hb dL_law_271 ?_
  obtain ⟨g_6, hf⟩ := nn_ix_some hf
  refine va_sld hx hb hX hbl hbA hw.2.2 g_6 dL_law_272 ?_
  obtain ⟨q_7, h_8, hf⟩ := nn_bind hf
  refine nn_calliV S (As := [.int (xs (u3 + (1 : Int32)).toNatClampNeg), .int (xs (u3 + (2 : Int32)).toNatClampNeg)]) (rest := [.int (q_3)]) (ce_M (k := 0)) (by decide) rfl rfl (c_X7_gap l D cy ad (fun q : Nat => ss.heap.size ≤ q) (c, m) m rfl (xs (u3 + (1 : Int32)).toNatClampNeg) (xs (u3 + (2 : Int32)).toNatClampNeg) q_7 h_8) mv_X7_gap tb_4_26 hK hw ⟨by decide, by decide⟩ ⟨by decide, by decide⟩ rfl hl.1 rfl (Nat.le_of_ble_eq_true rfl) dL_law_273 (fun H locs hw => ?_)
  refine lv_icmp_eq (tgt := 1198) hx hb dL_law_276 (by decide) (fun c_9 => ?_) (fun c_9 => ?_)
  · rw [if_pos c_9] at hf
    exact hN c m hf _ _ _ hw hl
  · rw [if_neg c_9] at hf
    exact absurd hf (by decide)
set_option maxRecDepth 100000 in
set_option maxHeartbeats 4000000 in
theorem law_3 {pp : Program} {ee : Env} {ss : State} {mm : MethodId} {bb : List Frame} {me : Method} {co : Code} (l : Launch) {b L : Nat} {xs : Nat → Int32} (C0 : lw_At pp ss mm me co b L xs) {D : va_G} {cy : Nat → ClassId} {ad : Nat → Nat} (hK : nn_K D cy ss) (c : nCs) (m : nMd) (u3 : Int32) (NEXT : nCs → nMd → Option Int32) (hN : ∀ (c : nCs) (m : nMd), NEXT c m = some 1 → ∀ (H : Heap) (locs : List Loc) (ls : Array Slot), nn_W D cy ad (fun q : Nat => ss.heap.size ≤ q) ss.heap (c, m) H locs → lv_has ls 4 [(0, .ref b), (1, .ref (ad 118)), (2, .ref (ad 136)), (3, .int u3)] → W pp l ee room_1 ss mm #[Value.ref b] bb me co H locs 600000 7302250 (lw_Z bb #[Value.ref b] ss) (F0 mm 1198 ls [])) (hf : f_law_3 xs L c m u3 NEXT = some 1) : ∀ (H : Heap) (locs : List Loc) (ls : Array Slot), nn_W D cy ad (fun q : Nat => ss.heap.size ≤ q) ss.heap (c, m) H locs → lv_has ls 4 [(0, .ref b), (1, .ref (ad 118)), (2, .ref (ad 136)), (3, .int u3)] → W pp l ee room_1 ss mm #[Value.ref b] bb me co H locs 600000 7302250 (lw_Z bb #[Value.ref b] ss) (F0 mm 281 ls []) := by
  obtain ⟨hx, hb, hr, hml, hown, hts0, hX, hbl, hlk, hgv⟩ := C0
  have hts : ∀ w ∈ nn_B, w.before #[Value.ref b] ss = true := fun w hw => hts0 w (List.mem_filter.mp hw).1
  have S : CallFix pp mm co code 4 ss #[Value.ref b] nn_B "NineNoonsLaw" := ⟨hx, hb, hml, hown, hts⟩
  have hbA : ¬ (fun q : Nat => ss.heap.size ≤ q) b := Nat.not_le.mpr hbl
  intro H locs ls hw hl
  unfold f_law_3 at hf
  refine lv_aload_n hx hb dL_law_281 rfl (lv_at hl 1 rfl) ?_
  refine lv_aload_n hx hb dL_law_282 rfl (lv_at hl 0 rfl) ?_
  refine lv_iload_n hx hb dL_law_283 rfl (lv_at hl 3 rfl) ?_
  refine lv_iconst (v := 1) hx hb dL_law_284 (by decide) ?_
  refine lv_iadd hx hb dL_law_285 ?_
  obtain ⟨g_1, hf⟩ := nn_ix_some hf
  refine va_sld hx hb hX hbl hbA hw.2.2 g_1 dL_law_286 ?_
  obtain ⟨q_2, h_3, hf⟩ := nn_bind hf
  refine nn_calliV S (As := [.int (xs (u3 + (1 : Int32)).toNatClampNeg)]) (rest := []) (ce_O (k := 0) (by decide)) (by decide) rfl rfl (c_X6_type l D cy ad (fun q : Nat => ss.heap.size ≤ q) (c, m) c rfl (xs (u3 + (1 : Int32)).toNatClampNeg) q_2 h_3 (q_2.2, m) rfl) mv_X6_type tb_2_21 hK hw ⟨by decide, by decide⟩ ⟨by decide, by decide⟩ rfl hl.1 rfl (Nat.le_of_ble_eq_true rfl) dL_law_287 (fun H locs hw => ?_)
  refine lv_aload_n hx hb dL_law_290 rfl (lv_at hl 2 rfl) ?_
  refine lv_aload_n hx hb dL_law_291 rfl (lv_at hl 0 rfl) ?_
  refine lv_iload_n hx hb dL_law_292 rfl (lv_at hl 3 rfl) ?_
  refine lv_iconst (v := 1) hx hb dL_law_293 (by decide) ?_
  refine lv_iadd hx hb dL_law_294 ?_
  obtain ⟨g_4, hf⟩ := nn_ix_some hf
  refine va_sld hx hb hX hbl hbA hw.2.2 g_4 dL_law_295 ?_
  obtain ⟨q_5, h_6, hf⟩ := nn_bind hf
  refine nn_calliV S (As := [.int (xs (u3 + (1 : Int32)).toNatClampNeg)]) (rest := [.int (q_2.1)]) (ce_M (k := 0)) (by decide) rfl rfl (c_X7_type l D cy ad (fun q : Nat => ss.heap.size ≤ q) (q_2.2, m) m rfl (xs (u3 + (1 : Int32)).toNatClampNeg) q_5 h_6 (q_2.2, q_5.2) rfl) mv_X7_type tb_4_50 hK hw ⟨by decide, by decide⟩ ⟨by decide, by decide⟩ rfl hl.1 rfl (Nat.le_of_ble_eq_true rfl) dL_law_296 (fun H locs hw => ?_)
  refine lv_icmp_eq (tgt := 1198) hx hb dL_law_299 (by decide) (fun c_7 => ?_) (fun c_7 => ?_)
  · rw [if_pos c_7] at hf
    exact hN q_2.2 q_5.2 hf _ _ _ hw hl
  · rw [if_neg c_7] at hf
    exact absurd hf (by decide)
set_option maxRecDepth 100000 in
set_option maxHeartbeats 4000000 in
theorem law_4 {pp : Program} {ee : Env} {ss : State} {mm : MethodId} {bb : List Frame} {me : Method} {co : Code} (l : Launch) {b L : Nat} {xs : Nat → Int32} (C0 : lw_At pp ss mm me co b L xs) {D : va_G} {cy : Nat → ClassId} {ad : Nat → Nat} (hK : nn_K D cy ss) (c : nCs) (m : nMd) (u3 : Int32) (NEXT : nCs → nMd → Option Int32) (hN : ∀ (c : nCs) (m : nMd), NEXT c m = some 1 → ∀ (H : Heap) (locs : List Loc) (ls : Array Slot), nn_W D cy ad (fun q : Nat => ss.heap.size ≤ q) ss.heap (c, m) H locs → lv_has ls 4 [(0, .ref b), (1, .ref (ad 118)), (2, .ref (ad 136)), (3, .int u3)] → W pp l ee room_1 ss mm #[Value.ref b] bb me co H locs 600000 7302250 (lw_Z bb #[Value.ref b] ss) (F0 mm 1198 ls [])) (hf : f_law_4 xs L c m u3 NEXT = some 1) : ∀ (H : Heap) (locs : List Loc) (ls : Array Slot), nn_W D cy ad (fun q : Nat => ss.heap.size ≤ q) ss.heap (c, m) H locs → lv_has ls 4 [(0, .ref b), (1, .ref (ad 118)), (2, .ref (ad 136)), (3, .int u3)] → W pp l ee room_1 ss mm #[Value.ref b] bb me co H locs 600000 7302250 (lw_Z bb #[Value.ref b] ss) (F0 mm 304 ls []) := by
  obtain ⟨hx, hb, hr, hml, hown, hts0, hX, hbl, hlk, hgv⟩ := C0
  have hts : ∀ w ∈ nn_B, w.before #[Value.ref b] ss = true := fun w hw => hts0 w (List.mem_filter.mp hw).1
  have S : CallFix pp mm co code 4 ss #[Value.ref b] nn_B "NineNoonsLaw" := ⟨hx, hb, hml, hown, hts⟩
  have hbA : ¬ (fun q : Nat => ss.heap.size ≤ q) b := Nat.not_le.mpr hbl
  intro H locs ls hw hl
  unfold f_law_4 at hf
  refine lv_aload_n hx hb dL_law_304 rfl (lv_at hl 1 rfl) ?_
  obtain ⟨q_1, h_2, hf⟩ := nn_bind hf
  refine nn_calliV S (As := []) (rest := []) (ce_O (k := 0) (by decide)) (by decide) rfl rfl (c_X6_valley l D cy ad (fun q : Nat => ss.heap.size ≤ q) (c, m) c rfl  q_1 h_2 (q_1.2, m) rfl) mv_X6_valley tb_2_29 hK hw ⟨by decide, by decide⟩ ⟨by decide, by decide⟩ rfl hl.1 rfl (Nat.le_of_ble_eq_true rfl) dL_law_305 (fun H locs hw => ?_)
  refine lv_aload_n hx hb dL_law_308 rfl (lv_at hl 2 rfl) ?_
  obtain ⟨q_3, h_4, hf⟩ := nn_bind hf
  refine nn_calliV S (As := []) (rest := [.int (q_1.1)]) (ce_M (k := 0)) (by decide) rfl rfl (c_X7_valley l D cy ad (fun q : Nat => ss.heap.size ≤ q) (q_1.2, m) m rfl  q_3 h_4 (q_1.2, q_3.2) rfl) mv_X7_valley tb_4_56 hK hw ⟨by decide, by decide⟩ ⟨by decide, by decide⟩ rfl hl.1 rfl (Nat.le_of_ble_eq_true rfl) dL_law_309 (fun H locs hw => ?_)
  refine lv_icmp_eq (tgt := 1198) hx hb dL_law_312 (by decide) (fun c_5 => ?_) (fun c_5 => ?_)
  · rw [if_pos c_5] at hf
    exact hN q_1.2 q_3.2 hf _ _ _ hw hl
  · rw [if_neg c_5] at hf
    exact absurd hf (by decide)
set_option maxRecDepth 100000 in
set_option maxHeartbeats 4000000 in
theorem law_5 {pp : Program} {ee : Env} {ss : State} {mm : MethodId} {bb : List Frame} {me : Method} {co : Code} (l : Launch) {b L : Nat} {xs : Nat → Int32} (C0 : lw_At pp ss mm me co b L xs) {D : va_G} {cy : Nat → ClassId} {ad : Nat → Nat} (hK : nn_K D cy ss) (c : nCs) (m : nMd) (u3 : Int32) (NEXT : nCs → nMd → Option Int32) (hN : ∀ (c : nCs) (m : nMd), NEXT c m = some 1 → ∀ (H : Heap) (locs : List Loc) (ls : Array Slot), nn_W D cy ad (fun q : Nat => ss.heap.size ≤ q) ss.heap (c, m) H locs → lv_has ls 4 [(0, .ref b), (1, .ref (ad 118)), (2, .ref (ad 136)), (3, .int u3)] → W pp l ee room_1 ss mm #[Value.ref b] bb me co H locs 600000 7302250 (lw_Z bb #[Value.ref b] ss) (F0 mm 1198 ls [])) (hf : f_law_5 xs L c m u3 NEXT = some 1) : ∀ (H : Heap) (locs : List Loc) (ls : Array Slot), nn_W D cy ad (fun q : Nat => ss.heap.size ≤ q) ss.heap (c, m) H locs → lv_has ls 4 [(0, .ref b), (1, .ref (ad 118)), (2, .ref (ad 136)), (3, .int u3)] → W pp l ee room_1 ss mm #[Value.ref b] bb me co H locs 600000 7302250 (lw_Z bb #[Value.ref b] ss) (F0 mm 317 ls []) := by
  obtain ⟨hx, hb, hr, hml, hown, hts0, hX, hbl, hlk, hgv⟩ := C0
  have hts : ∀ w ∈ nn_B, w.before #[Value.ref b] ss = true := fun w hw => hts0 w (List.mem_filter.mp hw).1
  have S : CallFix pp mm co code 4 ss #[Value.ref b] nn_B "NineNoonsLaw" := ⟨hx, hb, hml, hown, hts⟩
  have hbA : ¬ (fun q : Nat => ss.heap.size ≤ q) b := Nat.not_le.mpr hbl
  intro H locs ls hw hl
  unfold f_law_5 at hf
  refine lv_aload_n hx hb dL_law_317 rfl (lv_at hl 1 rfl) ?_
  refine lv_aload_n hx hb dL_law_318 rfl (lv_at hl 0 rfl) ?_
  refine lv_iload_n hx hb dL_law_319 rfl (lv_at hl 3 rfl) ?_
  refine lv_iconst (v := 1) hx hb dL_law_320 (by decide) ?_
  refine lv_iadd hx hb dL_law_321 ?_
  obtain ⟨g_1, hf⟩ := nn_ix_some hf
  refine va_sld hx hb hX hbl hbA hw.2.2 g_1 dL_law_322 ?_
  obtain ⟨q_2, h_3, hf⟩ := nn_bind hf
  refine nn_calliV S (As := [.int (xs (u3 + (1 : Int32)).toNatClampNeg)]) (rest := []) (ce_O (k := 0) (by decide)) (by decide) rfl rfl (c_X6_count l D cy ad (fun q : Nat => ss.heap.size ≤ q) (c, m) c rfl (xs (u3 + (1 : Int32)).toNatClampNeg) q_2 h_3) mv_X6_count tb_2_84 hK hw ⟨by decide, by decide⟩ ⟨by decide, by decide⟩ rfl hl.1 rfl (Nat.le_of_ble_eq_true rfl) dL_law_323 (fun H locs hw => ?_)
  refine lv_aload_n hx hb dL_law_326 rfl (lv_at hl 2 rfl) ?_
  refine lv_aload_n hx hb dL_law_327 rfl (lv_at hl 0 rfl) ?_
  refine lv_iload_n hx hb dL_law_328 rfl (lv_at hl 3 rfl) ?_
  refine lv_iconst (v := 1) hx hb dL_law_329 (by decide) ?_
  refine lv_iadd hx hb dL_law_330 ?_
  obtain ⟨g_4, hf⟩ := nn_ix_some hf
  refine va_sld hx hb hX hbl hbA hw.2.2 g_4 dL_law_331 ?_
  obtain ⟨q_5, h_6, hf⟩ := nn_bind hf
  refine nn_calliV S (As := [.int (xs (u3 + (1 : Int32)).toNatClampNeg)]) (rest := [.int (q_2)]) (ce_M (k := 0)) (by decide) rfl rfl (c_X7_count l D cy ad (fun q : Nat => ss.heap.size ≤ q) (c, m) m rfl (xs (u3 + (1 : Int32)).toNatClampNeg) q_5 h_6) mv_X7_count tb_4_34 hK hw ⟨by decide, by decide⟩ ⟨by decide, by decide⟩ rfl hl.1 rfl (Nat.le_of_ble_eq_true rfl) dL_law_332 (fun H locs hw => ?_)
  refine lv_icmp_eq (tgt := 1198) hx hb dL_law_335 (by decide) (fun c_7 => ?_) (fun c_7 => ?_)
  · rw [if_pos c_7] at hf
    exact hN c m hf _ _ _ hw hl
  · rw [if_neg c_7] at hf
    exact absurd hf (by decide)
set_option maxRecDepth 100000 in
set_option maxHeartbeats 4000000 in
theorem law_6 {pp : Program} {ee : Env} {ss : State} {mm : MethodId} {bb : List Frame} {me : Method} {co : Code} (l : Launch) {b L : Nat} {xs : Nat → Int32} (C0 : lw_At pp ss mm me co b L xs) {D : va_G} {cy : Nat → ClassId} {ad : Nat → Nat} (hK : nn_K D cy ss) (c : nCs) (m : nMd) (u3 : Int32) (NEXT : nCs → nMd → Option Int32) (hN : ∀ (c : nCs) (m : nMd), NEXT c m = some 1 → ∀ (H : Heap) (locs : List Loc) (ls : Array Slot), nn_W D cy ad (fun q : Nat => ss.heap.size ≤ q) ss.heap (c, m) H locs → lv_has ls 4 [(0, .ref b), (1, .ref (ad 118)), (2, .ref (ad 136)), (3, .int u3)] → W pp l ee room_1 ss mm #[Value.ref b] bb me co H locs 600000 7302250 (lw_Z bb #[Value.ref b] ss) (F0 mm 1198 ls [])) (hf : f_law_6 xs L c m u3 NEXT = some 1) : ∀ (H : Heap) (locs : List Loc) (ls : Array Slot), nn_W D cy ad (fun q : Nat => ss.heap.size ≤ q) ss.heap (c, m) H locs → lv_has ls 4 [(0, .ref b), (1, .ref (ad 118)), (2, .ref (ad 136)), (3, .int u3)] → W pp l ee room_1 ss mm #[Value.ref b] bb me co H locs 600000 7302250 (lw_Z bb #[Value.ref b] ss) (F0 mm 340 ls []) := by
  obtain ⟨hx, hb, hr, hml, hown, hts0, hX, hbl, hlk, hgv⟩ := C0
  have hts : ∀ w ∈ nn_B, w.before #[Value.ref b] ss = true := fun w hw => hts0 w (List.mem_filter.mp hw).1
  have S : CallFix pp mm co code 4 ss #[Value.ref b] nn_B "NineNoonsLaw" := ⟨hx, hb, hml, hown, hts⟩
  have hbA : ¬ (fun q : Nat => ss.heap.size ≤ q) b := Nat.not_le.mpr hbl
  intro H locs ls hw hl
  unfold f_law_6 at hf
  refine lv_aload_n hx hb dL_law_340 rfl (lv_at hl 1 rfl) ?_
  refine lv_aload_n hx hb dL_law_341 rfl (lv_at hl 0 rfl) ?_
  refine lv_iload_n hx hb dL_law_342 rfl (lv_at hl 3 rfl) ?_
  refine lv_iconst (v := 1) hx hb dL_law_343 (by decide) ?_
  refine lv_iadd hx hb dL_law_344 ?_
  obtain ⟨g_1, hf⟩ := nn_ix_some hf
  refine va_sld hx hb hX hbl hbA hw.2.2 g_1 dL_law_345 ?_
  obtain ⟨q_2, h_3, hf⟩ := nn_bind hf
  refine nn_calliV S (As := [.int (xs (u3 + (1 : Int32)).toNatClampNeg)]) (rest := []) (ce_O (k := 0) (by decide)) (by decide) rfl rfl (c_X6_days l D cy ad (fun q : Nat => ss.heap.size ≤ q) (c, m) c rfl (xs (u3 + (1 : Int32)).toNatClampNeg) q_2 h_3 (q_2.2, m) rfl) mv_X6_days tb_2_105 hK hw ⟨by decide, by decide⟩ ⟨by decide, by decide⟩ rfl hl.1 rfl (Nat.le_of_ble_eq_true rfl) dL_law_346 (fun H locs hw => ?_)
  refine lv_aload_n hx hb dL_law_349 rfl (lv_at hl 2 rfl) ?_
  refine lv_aload_n hx hb dL_law_350 rfl (lv_at hl 0 rfl) ?_
  refine lv_iload_n hx hb dL_law_351 rfl (lv_at hl 3 rfl) ?_
  refine lv_iconst (v := 1) hx hb dL_law_352 (by decide) ?_
  refine lv_iadd hx hb dL_law_353 ?_
  obtain ⟨g_4, hf⟩ := nn_ix_some hf
  refine va_sld hx hb hX hbl hbA hw.2.2 g_4 dL_law_354 ?_
  obtain ⟨q_5, h_6, hf⟩ := nn_bind hf
  refine nn_calliV S (As := [.int (xs (u3 + (1 : Int32)).toNatClampNeg)]) (rest := [.int (q_2.1)]) (ce_M (k := 0)) (by decide) rfl rfl (c_X7_days l D cy ad (fun q : Nat => ss.heap.size ≤ q) (q_2.2, m) m rfl (xs (u3 + (1 : Int32)).toNatClampNeg) q_5 h_6 (q_2.2, q_5.2) rfl) mv_X7_days tb_4_78 hK hw ⟨by decide, by decide⟩ ⟨by decide, by decide⟩ rfl hl.1 rfl (Nat.le_of_ble_eq_true rfl) dL_law_355 (fun H locs hw => ?_)
  refine lv_icmp_eq (tgt := 1198) hx hb dL_law_358 (by decide) (fun c_7 => ?_) (fun c_7 => ?_)
  · rw [if_pos c_7] at hf
    exact hN q_2.2 q_5.2 hf _ _ _ hw hl
  · rw [if_neg c_7] at hf
    exact absurd hf (by decide)
set_option maxRecDepth 100000 in
set_option maxHeartbeats 4000000 in
theorem law_7 {pp : Program} {ee : Env} {ss : State} {mm : MethodId} {bb : List Frame} {me : Method} {co : Code} (l : Launch) {b L : Nat} {xs : Nat → Int32} (C0 : lw_At pp ss mm me co b L xs) {D : va_G} {cy : Nat → ClassId} {ad : Nat → Nat} (hK : nn_K D cy ss) (c : nCs) (m : nMd) (u3 : Int32) (NEXT : nCs → nMd → Option Int32) (hN : ∀ (c : nCs) (m : nMd), NEXT c m = some 1 → ∀ (H : Heap) (locs : List Loc) (ls : Array Slot), nn_W D cy ad (fun q : Nat => ss.heap.size ≤ q) ss.heap (c, m) H locs → lv_has ls 4 [(0, .ref b), (1, .ref (ad 118)), (2, .ref (ad 136)), (3, .int u3)] → W pp l ee room_1 ss mm #[Value.ref b] bb me co H locs 600000 7302250 (lw_Z bb #[Value.ref b] ss) (F0 mm 1198 ls [])) (hf : f_law_7 xs L c m u3 NEXT = some 1) : ∀ (H : Heap) (locs : List Loc) (ls : Array Slot), nn_W D cy ad (fun q : Nat => ss.heap.size ≤ q) ss.heap (c, m) H locs → lv_has ls 4 [(0, .ref b), (1, .ref (ad 118)), (2, .ref (ad 136)), (3, .int u3)] → W pp l ee room_1 ss mm #[Value.ref b] bb me co H locs 600000 7302250 (lw_Z bb #[Value.ref b] ss) (F0 mm 363 ls []) := by
  obtain ⟨hx, hb, hr, hml, hown, hts0, hX, hbl, hlk, hgv⟩ := C0
  have hts : ∀ w ∈ nn_B, w.before #[Value.ref b] ss = true := fun w hw => hts0 w (List.mem_filter.mp hw).1
  have S : CallFix pp mm co code 4 ss #[Value.ref b] nn_B "NineNoonsLaw" := ⟨hx, hb, hml, hown, hts⟩
  have hbA : ¬ (fun q : Nat => ss.heap.size ≤ q) b := Nat.not_le.mpr hbl
  intro H locs ls hw hl
  unfold f_law_7 at hf
  refine lv_aload_n hx hb dL_law_363 rfl (lv_at hl 1 rfl) ?_
  refine lv_aload_n hx hb dL_law_364 rfl (lv_at hl 0 rfl) ?_
  refine lv_iload_n hx hb dL_law_365 rfl (lv_at hl 3 rfl) ?_
  refine lv_iconst (v := 1) hx hb dL_law_366 (by decide) ?_
  refine lv_iadd hx hb dL_law_367 ?_
  obtain ⟨g_1, hf⟩ := nn_ix_some hf
  refine va_sld hx hb hX hbl hbA hw.2.2 g_1 dL_law_368 ?_
  refine lv_aload_n hx hb dL_law_369 rfl (lv_at hl 0 rfl) ?_
  refine lv_iload_n hx hb dL_law_370 rfl (lv_at hl 3 rfl) ?_
  refine lv_iconst (v := 2) hx hb dL_law_371 (by decide) ?_
  refine lv_iadd hx hb dL_law_372 ?_
  obtain ⟨g_2, hf⟩ := nn_ix_some hf
  refine va_sld hx hb hX hbl hbA hw.2.2 g_2 dL_law_373 ?_
  obtain ⟨q_3, h_4, hf⟩ := nn_bind hf
  refine nn_calliV S (As := [.int (xs (u3 + (1 : Int32)).toNatClampNeg), .int (xs (u3 + (2 : Int32)).toNatClampNeg)]) (rest := []) (ce_O (k := 0) (by decide)) (by decide) rfl rfl (c_X6_set l D cy ad (fun q : Nat => ss.heap.size ≤ q) (c, m) c rfl (xs (u3 + (1 : Int32)).toNatClampNeg) (xs (u3 + (2 : Int32)).toNatClampNeg) q_3 h_4 (q_3.2, m) rfl) mv_X6_set tb_2_137 hK hw ⟨by decide, by decide⟩ ⟨by decide, by decide⟩ rfl hl.1 rfl (Nat.le_of_ble_eq_true rfl) dL_law_374 (fun H locs hw => ?_)
  refine lv_aload_n hx hb dL_law_377 rfl (lv_at hl 2 rfl) ?_
  refine lv_aload_n hx hb dL_law_378 rfl (lv_at hl 0 rfl) ?_
  refine lv_iload_n hx hb dL_law_379 rfl (lv_at hl 3 rfl) ?_
  refine lv_iconst (v := 1) hx hb dL_law_380 (by decide) ?_
  refine lv_iadd hx hb dL_law_381 ?_
  obtain ⟨g_5, hf⟩ := nn_ix_some hf
  refine va_sld hx hb hX hbl hbA hw.2.2 g_5 dL_law_382 ?_
  refine lv_aload_n hx hb dL_law_383 rfl (lv_at hl 0 rfl) ?_
  refine lv_iload_n hx hb dL_law_384 rfl (lv_at hl 3 rfl) ?_
  refine lv_iconst (v := 2) hx hb dL_law_385 (by decide) ?_
  refine lv_iadd hx hb dL_law_386 ?_
  obtain ⟨g_6, hf⟩ := nn_ix_some hf
  refine va_sld hx hb hX hbl hbA hw.2.2 g_6 dL_law_387 ?_
  obtain ⟨q_7, h_8, hf⟩ := nn_bind hf
  refine nn_calliV S (As := [.int (xs (u3 + (1 : Int32)).toNatClampNeg), .int (xs (u3 + (2 : Int32)).toNatClampNeg)]) (rest := [.int (q_3.1)]) (ce_M (k := 0)) (by decide) rfl rfl (c_X7_set l D cy ad (fun q : Nat => ss.heap.size ≤ q) (q_3.2, m) m rfl (xs (u3 + (1 : Int32)).toNatClampNeg) (xs (u3 + (2 : Int32)).toNatClampNeg) q_7 h_8 (q_3.2, q_7.2) rfl) mv_X7_set tb_4_91 hK hw ⟨by decide, by decide⟩ ⟨by decide, by decide⟩ rfl hl.1 rfl (Nat.le_of_ble_eq_true rfl) dL_law_388 (fun H locs hw => ?_)
  refine lv_icmp_eq (tgt := 1198) hx hb dL_law_391 (by decide) (fun c_9 => ?_) (fun c_9 => ?_)
  · rw [if_pos c_9] at hf
    exact hN q_3.2 q_7.2 hf _ _ _ hw hl
  · rw [if_neg c_9] at hf
    exact absurd hf (by decide)
set_option maxRecDepth 100000 in
set_option maxHeartbeats 4000000 in
theorem law_8 {pp : Program} {ee : Env} {ss : State} {mm : MethodId} {bb : List Frame} {me : Method} {co : Code} (l : Launch) {b L : Nat} {xs : Nat → Int32} (C0 : lw_At pp ss mm me co b L xs) {D : va_G} {cy : Nat → ClassId} {ad : Nat → Nat} (hK : nn_K D cy ss) (c : nCs) (m : nMd) (u3 : Int32) (NEXT : nCs → nMd → Option Int32) (hN : ∀ (c : nCs) (m : nMd), NEXT c m = some 1 → ∀ (H : Heap) (locs : List Loc) (ls : Array Slot), nn_W D cy ad (fun q : Nat => ss.heap.size ≤ q) ss.heap (c, m) H locs → lv_has ls 4 [(0, .ref b), (1, .ref (ad 118)), (2, .ref (ad 136)), (3, .int u3)] → W pp l ee room_1 ss mm #[Value.ref b] bb me co H locs 600000 7302250 (lw_Z bb #[Value.ref b] ss) (F0 mm 1198 ls [])) (hf : f_law_8 xs L c m u3 NEXT = some 1) : ∀ (H : Heap) (locs : List Loc) (ls : Array Slot), nn_W D cy ad (fun q : Nat => ss.heap.size ≤ q) ss.heap (c, m) H locs → lv_has ls 4 [(0, .ref b), (1, .ref (ad 118)), (2, .ref (ad 136)), (3, .int u3)] → W pp l ee room_1 ss mm #[Value.ref b] bb me co H locs 600000 7302250 (lw_Z bb #[Value.ref b] ss) (F0 mm 396 ls []) := by
  obtain ⟨hx, hb, hr, hml, hown, hts0, hX, hbl, hlk, hgv⟩ := C0
  have hts : ∀ w ∈ nn_B, w.before #[Value.ref b] ss = true := fun w hw => hts0 w (List.mem_filter.mp hw).1
  have S : CallFix pp mm co code 4 ss #[Value.ref b] nn_B "NineNoonsLaw" := ⟨hx, hb, hml, hown, hts⟩
  have hbA : ¬ (fun q : Nat => ss.heap.size ≤ q) b := Nat.not_le.mpr hbl
  intro H locs ls hw hl
  unfold f_law_8 at hf
  refine lv_aload_n hx hb dL_law_396 rfl (lv_at hl 1 rfl) ?_
  refine lv_aload_n hx hb dL_law_397 rfl (lv_at hl 0 rfl) ?_
  refine lv_iload_n hx hb dL_law_398 rfl (lv_at hl 3 rfl) ?_
  refine lv_iconst (v := 1) hx hb dL_law_399 (by decide) ?_
  refine lv_iadd hx hb dL_law_400 ?_
  obtain ⟨g_1, hf⟩ := nn_ix_some hf
  refine va_sld hx hb hX hbl hbA hw.2.2 g_1 dL_law_401 ?_
  refine lv_aload_n hx hb dL_law_402 rfl (lv_at hl 0 rfl) ?_
  refine lv_iload_n hx hb dL_law_403 rfl (lv_at hl 3 rfl) ?_
  refine lv_iconst (v := 2) hx hb dL_law_404 (by decide) ?_
  refine lv_iadd hx hb dL_law_405 ?_
  obtain ⟨g_2, hf⟩ := nn_ix_some hf
  refine va_sld hx hb hX hbl hbA hw.2.2 g_2 dL_law_406 ?_
  obtain ⟨q_3, h_4, hf⟩ := nn_bind hf
  refine nn_calliV S (As := [.int (xs (u3 + (1 : Int32)).toNatClampNeg), .int (xs (u3 + (2 : Int32)).toNatClampNeg)]) (rest := []) (ce_O (k := 0) (by decide)) (by decide) rfl rfl (c_X6_move l D cy ad (fun q : Nat => ss.heap.size ≤ q) (c, m) c rfl (xs (u3 + (1 : Int32)).toNatClampNeg) (xs (u3 + (2 : Int32)).toNatClampNeg) q_3 h_4 (q_3.2, m) rfl) mv_X6_move tb_2_141 hK hw ⟨by decide, by decide⟩ ⟨by decide, by decide⟩ rfl hl.1 rfl (Nat.le_of_ble_eq_true rfl) dL_law_407 (fun H locs hw => ?_)
  refine lv_aload_n hx hb dL_law_410 rfl (lv_at hl 2 rfl) ?_
  refine lv_aload_n hx hb dL_law_411 rfl (lv_at hl 0 rfl) ?_
  refine lv_iload_n hx hb dL_law_412 rfl (lv_at hl 3 rfl) ?_
  refine lv_iconst (v := 1) hx hb dL_law_413 (by decide) ?_
  refine lv_iadd hx hb dL_law_414 ?_
  obtain ⟨g_5, hf⟩ := nn_ix_some hf
  refine va_sld hx hb hX hbl hbA hw.2.2 g_5 dL_law_415 ?_
  refine lv_aload_n hx hb dL_law_416 rfl (lv_at hl 0 rfl) ?_
  refine lv_iload_n hx hb dL_law_417 rfl (lv_at hl 3 rfl) ?_
  refine lv_iconst (v := 2) hx hb dL_law_418 (by decide) ?_
  refine lv_iadd hx hb dL_law_419 ?_
  obtain ⟨g_6, hf⟩ := nn_ix_some hf
  refine va_sld hx hb hX hbl hbA hw.2.2 g_6 dL_law_420 ?_
  obtain ⟨q_7, h_8, hf⟩ := nn_bind hf
  refine nn_calliV S (As := [.int (xs (u3 + (1 : Int32)).toNatClampNeg), .int (xs (u3 + (2 : Int32)).toNatClampNeg)]) (rest := [.int (q_3.1)]) (ce_M (k := 0)) (by decide) rfl rfl (c_X7_move l D cy ad (fun q : Nat => ss.heap.size ≤ q) (q_3.2, m) m rfl (xs (u3 + (1 : Int32)).toNatClampNeg) (xs (u3 + (2 : Int32)).toNatClampNeg) q_7 h_8 (q_3.2, q_7.2) rfl) mv_X7_move tb_4_99 hK hw ⟨by decide, by decide⟩ ⟨by decide, by decide⟩ rfl hl.1 rfl (Nat.le_of_ble_eq_true rfl) dL_law_421 (fun H locs hw => ?_)
  refine lv_icmp_eq (tgt := 1198) hx hb dL_law_424 (by decide) (fun c_9 => ?_) (fun c_9 => ?_)
  · rw [if_pos c_9] at hf
    exact hN q_3.2 q_7.2 hf _ _ _ hw hl
  · rw [if_neg c_9] at hf
    exact absurd hf (by decide)
set_option maxRecDepth 100000 in
set_option maxHeartbeats 4000000 in
theorem law_9 {pp : Program} {ee : Env} {ss : State} {mm : MethodId} {bb : List Frame} {me : Method} {co : Code} (l : Launch) {b L : Nat} {xs : Nat → Int32} (C0 : lw_At pp ss mm me co b L xs) {D : va_G} {cy : Nat → ClassId} {ad : Nat → Nat} (hK : nn_K D cy ss) (c : nCs) (m : nMd) (u3 : Int32) (NEXT : nCs → nMd → Option Int32) (hN : ∀ (c : nCs) (m : nMd), NEXT c m = some 1 → ∀ (H : Heap) (locs : List Loc) (ls : Array Slot), nn_W D cy ad (fun q : Nat => ss.heap.size ≤ q) ss.heap (c, m) H locs → lv_has ls 4 [(0, .ref b), (1, .ref (ad 118)), (2, .ref (ad 136)), (3, .int u3)] → W pp l ee room_1 ss mm #[Value.ref b] bb me co H locs 600000 7302250 (lw_Z bb #[Value.ref b] ss) (F0 mm 1198 ls [])) (hf : f_law_9 xs L c m u3 NEXT = some 1) : ∀ (H : Heap) (locs : List Loc) (ls : Array Slot), nn_W D cy ad (fun q : Nat => ss.heap.size ≤ q) ss.heap (c, m) H locs → lv_has ls 4 [(0, .ref b), (1, .ref (ad 118)), (2, .ref (ad 136)), (3, .int u3)] → W pp l ee room_1 ss mm #[Value.ref b] bb me co H locs 600000 7302250 (lw_Z bb #[Value.ref b] ss) (F0 mm 429 ls []) := by
  obtain ⟨hx, hb, hr, hml, hown, hts0, hX, hbl, hlk, hgv⟩ := C0
  have hts : ∀ w ∈ nn_B, w.before #[Value.ref b] ss = true := fun w hw => hts0 w (List.mem_filter.mp hw).1
  have S : CallFix pp mm co code 4 ss #[Value.ref b] nn_B "NineNoonsLaw" := ⟨hx, hb, hml, hown, hts⟩
  have hbA : ¬ (fun q : Nat => ss.heap.size ≤ q) b := Nat.not_le.mpr hbl
  intro H locs ls hw hl
  unfold f_law_9 at hf
  refine lv_aload_n hx hb dL_law_429 rfl (lv_at hl 1 rfl) ?_
  refine lv_aload_n hx hb dL_law_430 rfl (lv_at hl 0 rfl) ?_
  refine lv_iload_n hx hb dL_law_431 rfl (lv_at hl 3 rfl) ?_
  refine lv_iconst (v := 1) hx hb dL_law_432 (by decide) ?_
  refine lv_iadd hx hb dL_law_433 ?_
  obtain ⟨g_1, hf⟩ := nn_ix_some hf
  refine va_sld hx hb hX hbl hbA hw.2.2 g_1 dL_law_434 ?_
  refine lv_aload_n hx hb dL_law_435 rfl (lv_at hl 0 rfl) ?_
  refine lv_iload_n hx hb dL_law_436 rfl (lv_at hl 3 rfl) ?_
  refine lv_iconst (v := 2) hx hb dL_law_437 (by decide) ?_
  refine lv_iadd hx hb dL_law_438 ?_
  obtain ⟨g_2, hf⟩ := nn_ix_some hf
  refine va_sld hx hb hX hbl hbA hw.2.2 g_2 dL_law_439 ?_
  obtain ⟨q_3, h_4, hf⟩ := nn_bind hf
  refine nn_calliV S (As := [.int (xs (u3 + (1 : Int32)).toNatClampNeg), .int (xs (u3 + (2 : Int32)).toNatClampNeg)]) (rest := []) (ce_O (k := 0) (by decide)) (by decide) rfl rfl (c_X6_tune l D cy ad (fun q : Nat => ss.heap.size ≤ q) (c, m) c rfl (xs (u3 + (1 : Int32)).toNatClampNeg) (xs (u3 + (2 : Int32)).toNatClampNeg) q_3 h_4 (q_3.2, m) rfl) mv_X6_tune tb_2_145 hK hw ⟨by decide, by decide⟩ ⟨by decide, by decide⟩ rfl hl.1 rfl (Nat.le_of_ble_eq_true rfl) dL_law_440 (fun H locs hw => ?_)
  refine lv_aload_n hx hb dL_law_443 rfl (lv_at hl 2 rfl) ?_
  refine lv_aload_n hx hb dL_law_444 rfl (lv_at hl 0 rfl) ?_
  refine lv_iload_n hx hb dL_law_445 rfl (lv_at hl 3 rfl) ?_
  refine lv_iconst (v := 1) hx hb dL_law_446 (by decide) ?_
  refine lv_iadd hx hb dL_law_447 ?_
  obtain ⟨g_5, hf⟩ := nn_ix_some hf
  refine va_sld hx hb hX hbl hbA hw.2.2 g_5 dL_law_448 ?_
  refine lv_aload_n hx hb dL_law_449 rfl (lv_at hl 0 rfl) ?_
  refine lv_iload_n hx hb dL_law_450 rfl (lv_at hl 3 rfl) ?_
  refine lv_iconst (v := 2) hx hb dL_law_451 (by decide) ?_
  refine lv_iadd hx hb dL_law_452 ?_
  obtain ⟨g_6, hf⟩ := nn_ix_some hf
  refine va_sld hx hb hX hbl hbA hw.2.2 g_6 dL_law_453 ?_
  obtain ⟨q_7, h_8, hf⟩ := nn_bind hf
  refine nn_calliV S (As := [.int (xs (u3 + (1 : Int32)).toNatClampNeg), .int (xs (u3 + (2 : Int32)).toNatClampNeg)]) (rest := [.int (q_3.1)]) (ce_M (k := 0)) (by decide) rfl rfl (c_X7_tune l D cy ad (fun q : Nat => ss.heap.size ≤ q) (q_3.2, m) m rfl (xs (u3 + (1 : Int32)).toNatClampNeg) (xs (u3 + (2 : Int32)).toNatClampNeg) q_7 h_8 (q_3.2, q_7.2) rfl) mv_X7_tune tb_4_103 hK hw ⟨by decide, by decide⟩ ⟨by decide, by decide⟩ rfl hl.1 rfl (Nat.le_of_ble_eq_true rfl) dL_law_454 (fun H locs hw => ?_)
  refine lv_icmp_eq (tgt := 1198) hx hb dL_law_457 (by decide) (fun c_9 => ?_) (fun c_9 => ?_)
  · rw [if_pos c_9] at hf
    exact hN q_3.2 q_7.2 hf _ _ _ hw hl
  · rw [if_neg c_9] at hf
    exact absurd hf (by decide)
set_option maxRecDepth 100000 in
set_option maxHeartbeats 4000000 in
theorem law_10 {pp : Program} {ee : Env} {ss : State} {mm : MethodId} {bb : List Frame} {me : Method} {co : Code} (l : Launch) {b L : Nat} {xs : Nat → Int32} (C0 : lw_At pp ss mm me co b L xs) {D : va_G} {cy : Nat → ClassId} {ad : Nat → Nat} (hK : nn_K D cy ss) (c : nCs) (m : nMd) (u3 : Int32) (NEXT : nCs → nMd → Option Int32) (hN : ∀ (c : nCs) (m : nMd), NEXT c m = some 1 → ∀ (H : Heap) (locs : List Loc) (ls : Array Slot), nn_W D cy ad (fun q : Nat => ss.heap.size ≤ q) ss.heap (c, m) H locs → lv_has ls 4 [(0, .ref b), (1, .ref (ad 118)), (2, .ref (ad 136)), (3, .int u3)] → W pp l ee room_1 ss mm #[Value.ref b] bb me co H locs 600000 7302250 (lw_Z bb #[Value.ref b] ss) (F0 mm 1198 ls [])) (hf : f_law_10 xs L c m u3 NEXT = some 1) : ∀ (H : Heap) (locs : List Loc) (ls : Array Slot), nn_W D cy ad (fun q : Nat => ss.heap.size ≤ q) ss.heap (c, m) H locs → lv_has ls 4 [(0, .ref b), (1, .ref (ad 118)), (2, .ref (ad 136)), (3, .int u3)] → W pp l ee room_1 ss mm #[Value.ref b] bb me co H locs 600000 7302250 (lw_Z bb #[Value.ref b] ss) (F0 mm 462 ls []) := by
  obtain ⟨hx, hb, hr, hml, hown, hts0, hX, hbl, hlk, hgv⟩ := C0
  have hts : ∀ w ∈ nn_B, w.before #[Value.ref b] ss = true := fun w hw => hts0 w (List.mem_filter.mp hw).1
  have S : CallFix pp mm co code 4 ss #[Value.ref b] nn_B "NineNoonsLaw" := ⟨hx, hb, hml, hown, hts⟩
  have hbA : ¬ (fun q : Nat => ss.heap.size ≤ q) b := Nat.not_le.mpr hbl
  intro H locs ls hw hl
  unfold f_law_10 at hf
  refine lv_aload_n hx hb dL_law_462 rfl (lv_at hl 1 rfl) ?_
  refine lv_aload_n hx hb dL_law_463 rfl (lv_at hl 0 rfl) ?_
  refine lv_iload_n hx hb dL_law_464 rfl (lv_at hl 3 rfl) ?_
  refine lv_iconst (v := 1) hx hb dL_law_465 (by decide) ?_
  refine lv_iadd hx hb dL_law_466 ?_
  obtain ⟨g_1, hf⟩ := nn_ix_some hf
  refine va_sld hx hb hX hbl hbA hw.2.2 g_1 dL_law_467 ?_
  obtain ⟨q_2, h_3, hf⟩ := nn_bind hf
  refine nn_calliV S (As := [.int (xs (u3 + (1 : Int32)).toNatClampNeg)]) (rest := []) (ce_O (k := 0) (by decide)) (by decide) rfl rfl (c_X6_storm l D cy ad (fun q : Nat => ss.heap.size ≤ q) (c, m) c rfl (xs (u3 + (1 : Int32)).toNatClampNeg) q_2 h_3 (q_2.2, m) rfl) mv_X6_storm tb_2_149 hK hw ⟨by decide, by decide⟩ ⟨by decide, by decide⟩ rfl hl.1 rfl (Nat.le_of_ble_eq_true rfl) dL_law_468 (fun H locs hw => ?_)
  refine lv_aload_n hx hb dL_law_471 rfl (lv_at hl 2 rfl) ?_
  refine lv_aload_n hx hb dL_law_472 rfl (lv_at hl 0 rfl) ?_
  refine lv_iload_n hx hb dL_law_473 rfl (lv_at hl 3 rfl) ?_
  refine lv_iconst (v := 1) hx hb dL_law_474 (by decide) ?_
  refine lv_iadd hx hb dL_law_475 ?_
  obtain ⟨g_4, hf⟩ := nn_ix_some hf
  refine va_sld hx hb hX hbl hbA hw.2.2 g_4 dL_law_476 ?_
  obtain ⟨q_5, h_6, hf⟩ := nn_bind hf
  refine nn_calliV S (As := [.int (xs (u3 + (1 : Int32)).toNatClampNeg)]) (rest := [.int (q_2.1)]) (ce_M (k := 0)) (by decide) rfl rfl (c_X7_storm l D cy ad (fun q : Nat => ss.heap.size ≤ q) (q_2.2, m) m rfl (xs (u3 + (1 : Int32)).toNatClampNeg) q_5 h_6 (q_2.2, q_5.2) rfl) mv_X7_storm tb_4_108 hK hw ⟨by decide, by decide⟩ ⟨by decide, by decide⟩ rfl hl.1 rfl (Nat.le_of_ble_eq_true rfl) dL_law_477 (fun H locs hw => ?_)
  refine lv_icmp_eq (tgt := 1198) hx hb dL_law_480 (by decide) (fun c_7 => ?_) (fun c_7 => ?_)
  · rw [if_pos c_7] at hf
    exact hN q_2.2 q_5.2 hf _ _ _ hw hl
  · rw [if_neg c_7] at hf
    exact absurd hf (by decide)
set_option maxRecDepth 100000 in
set_option maxHeartbeats 4000000 in
theorem law_11 {pp : Program} {ee : Env} {ss : State} {mm : MethodId} {bb : List Frame} {me : Method} {co : Code} (l : Launch) {b L : Nat} {xs : Nat → Int32} (C0 : lw_At pp ss mm me co b L xs) {D : va_G} {cy : Nat → ClassId} {ad : Nat → Nat} (hK : nn_K D cy ss) (c : nCs) (m : nMd) (u3 : Int32) (NEXT : nCs → nMd → Option Int32) (hN : ∀ (c : nCs) (m : nMd), NEXT c m = some 1 → ∀ (H : Heap) (locs : List Loc) (ls : Array Slot), nn_W D cy ad (fun q : Nat => ss.heap.size ≤ q) ss.heap (c, m) H locs → lv_has ls 4 [(0, .ref b), (1, .ref (ad 118)), (2, .ref (ad 136)), (3, .int u3)] → W pp l ee room_1 ss mm #[Value.ref b] bb me co H locs 600000 7302250 (lw_Z bb #[Value.ref b] ss) (F0 mm 1198 ls [])) (hf : f_law_11 xs L c m u3 NEXT = some 1) : ∀ (H : Heap) (locs : List Loc) (ls : Array Slot), nn_W D cy ad (fun q : Nat => ss.heap.size ≤ q) ss.heap (c, m) H locs → lv_has ls 4 [(0, .ref b), (1, .ref (ad 118)), (2, .ref (ad 136)), (3, .int u3)] → W pp l ee room_1 ss mm #[Value.ref b] bb me co H locs 600000 7302250 (lw_Z bb #[Value.ref b] ss) (F0 mm 485 ls []) := by
  obtain ⟨hx, hb, hr, hml, hown, hts0, hX, hbl, hlk, hgv⟩ := C0
  have hts : ∀ w ∈ nn_B, w.before #[Value.ref b] ss = true := fun w hw => hts0 w (List.mem_filter.mp hw).1
  have S : CallFix pp mm co code 4 ss #[Value.ref b] nn_B "NineNoonsLaw" := ⟨hx, hb, hml, hown, hts⟩
  have hbA : ¬ (fun q : Nat => ss.heap.size ≤ q) b := Nat.not_le.mpr hbl
  intro H locs ls hw hl
  unfold f_law_11 at hf
  refine lv_aload_n hx hb dL_law_485 rfl (lv_at hl 1 rfl) ?_
  obtain ⟨q_1, h_2, hf⟩ := nn_bind hf
  refine nn_calliV S (As := []) (rest := []) (ce_O (k := 0) (by decide)) (by decide) rfl rfl (c_X6_undo l D cy ad (fun q : Nat => ss.heap.size ≤ q) (c, m) c rfl  q_1 h_2 (q_1.2, m) rfl) mv_X6_undo tb_2_153 hK hw ⟨by decide, by decide⟩ ⟨by decide, by decide⟩ rfl hl.1 rfl (Nat.le_of_ble_eq_true rfl) dL_law_486 (fun H locs hw => ?_)
  refine lv_aload_n hx hb dL_law_489 rfl (lv_at hl 2 rfl) ?_
  obtain ⟨q_3, h_4, hf⟩ := nn_bind hf
  refine nn_calliV S (As := []) (rest := [.int (q_1.1)]) (ce_M (k := 0)) (by decide) rfl rfl (c_X7_undo l D cy ad (fun q : Nat => ss.heap.size ≤ q) (q_1.2, m) m rfl  q_3 h_4 (q_1.2, q_3.2) rfl) mv_X7_undo tb_4_116 hK hw ⟨by decide, by decide⟩ ⟨by decide, by decide⟩ rfl hl.1 rfl (Nat.le_of_ble_eq_true rfl) dL_law_490 (fun H locs hw => ?_)
  refine lv_icmp_eq (tgt := 1198) hx hb dL_law_493 (by decide) (fun c_5 => ?_) (fun c_5 => ?_)
  · rw [if_pos c_5] at hf
    exact hN q_1.2 q_3.2 hf _ _ _ hw hl
  · rw [if_neg c_5] at hf
    exact absurd hf (by decide)
set_option maxRecDepth 100000 in
set_option maxHeartbeats 4000000 in
theorem law_12 {pp : Program} {ee : Env} {ss : State} {mm : MethodId} {bb : List Frame} {me : Method} {co : Code} (l : Launch) {b L : Nat} {xs : Nat → Int32} (C0 : lw_At pp ss mm me co b L xs) {D : va_G} {cy : Nat → ClassId} {ad : Nat → Nat} (hK : nn_K D cy ss) (c : nCs) (m : nMd) (u3 : Int32) (NEXT : nCs → nMd → Option Int32) (hN : ∀ (c : nCs) (m : nMd), NEXT c m = some 1 → ∀ (H : Heap) (locs : List Loc) (ls : Array Slot), nn_W D cy ad (fun q : Nat => ss.heap.size ≤ q) ss.heap (c, m) H locs → lv_has ls 4 [(0, .ref b), (1, .ref (ad 118)), (2, .ref (ad 136)), (3, .int u3)] → W pp l ee room_1 ss mm #[Value.ref b] bb me co H locs 600000 7302250 (lw_Z bb #[Value.ref b] ss) (F0 mm 1198 ls [])) (hf : f_law_12 xs L c m u3 NEXT = some 1) : ∀ (H : Heap) (locs : List Loc) (ls : Array Slot), nn_W D cy ad (fun q : Nat => ss.heap.size ≤ q) ss.heap (c, m) H locs → lv_has ls 4 [(0, .ref b), (1, .ref (ad 118)), (2, .ref (ad 136)), (3, .int u3)] → W pp l ee room_1 ss mm #[Value.ref b] bb me co H locs 600000 7302250 (lw_Z bb #[Value.ref b] ss) (F0 mm 498 ls []) := by
  obtain ⟨hx, hb, hr, hml, hown, hts0, hX, hbl, hlk, hgv⟩ := C0
  have hts : ∀ w ∈ nn_B, w.before #[Value.ref b] ss = true := fun w hw => hts0 w (List.mem_filter.mp hw).1
  have S : CallFix pp mm co code 4 ss #[Value.ref b] nn_B "NineNoonsLaw" := ⟨hx, hb, hml, hown, hts⟩
  have hbA : ¬ (fun q : Nat => ss.heap.size ≤ q) b := Nat.not_le.mpr hbl
  intro H locs ls hw hl
  unfold f_law_12 at hf
  refine lv_aload_n hx hb dL_law_498 rfl (lv_at hl 1 rfl) ?_
  refine lv_aload_n hx hb dL_law_499 rfl (lv_at hl 0 rfl) ?_
  refine lv_iload_n hx hb dL_law_500 rfl (lv_at hl 3 rfl) ?_
  refine lv_iconst (v := 1) hx hb dL_law_501 (by decide) ?_
  refine lv_iadd hx hb dL_law_502 ?_
  obtain ⟨g_1, hf⟩ := nn_ix_some hf
  refine va_sld hx hb hX hbl hbA hw.2.2 g_1 dL_law_503 ?_
  obtain ⟨q_2, h_3, hf⟩ := nn_bind hf
  refine nn_calliV S (As := [.int (xs (u3 + (1 : Int32)).toNatClampNeg)]) (rest := []) (ce_O (k := 0) (by decide)) (by decide) rfl rfl (c_X6_seed l D cy ad (fun q : Nat => ss.heap.size ≤ q) (c, m) c rfl (xs (u3 + (1 : Int32)).toNatClampNeg) q_2 h_3 (q_2.2, m) rfl) mv_X6_seed tb_2_161 hK hw ⟨by decide, by decide⟩ ⟨by decide, by decide⟩ rfl hl.1 rfl (Nat.le_of_ble_eq_true rfl) dL_law_504 (fun H locs hw => ?_)
  refine lv_aload_n hx hb dL_law_507 rfl (lv_at hl 2 rfl) ?_
  refine lv_aload_n hx hb dL_law_508 rfl (lv_at hl 0 rfl) ?_
  refine lv_iload_n hx hb dL_law_509 rfl (lv_at hl 3 rfl) ?_
  refine lv_iconst (v := 1) hx hb dL_law_510 (by decide) ?_
  refine lv_iadd hx hb dL_law_511 ?_
  obtain ⟨g_4, hf⟩ := nn_ix_some hf
  refine va_sld hx hb hX hbl hbA hw.2.2 g_4 dL_law_512 ?_
  obtain ⟨q_5, h_6, hf⟩ := nn_bind hf
  refine nn_calliV S (As := [.int (xs (u3 + (1 : Int32)).toNatClampNeg)]) (rest := [.int (q_2.1)]) (ce_M (k := 0)) (by decide) rfl rfl (c_X7_seed l D cy ad (fun q : Nat => ss.heap.size ≤ q) (q_2.2, m) m rfl (xs (u3 + (1 : Int32)).toNatClampNeg) q_5 h_6 (q_2.2, q_5.2) rfl) mv_X7_seed tb_4_120 hK hw ⟨by decide, by decide⟩ ⟨by decide, by decide⟩ rfl hl.1 rfl (Nat.le_of_ble_eq_true rfl) dL_law_513 (fun H locs hw => ?_)
  refine lv_icmp_eq (tgt := 1198) hx hb dL_law_516 (by decide) (fun c_7 => ?_) (fun c_7 => ?_)
  · rw [if_pos c_7] at hf
    exact hN q_2.2 q_5.2 hf _ _ _ hw hl
  · rw [if_neg c_7] at hf
    exact absurd hf (by decide)
set_option maxRecDepth 100000 in
set_option maxHeartbeats 4000000 in
theorem law_13 {pp : Program} {ee : Env} {ss : State} {mm : MethodId} {bb : List Frame} {me : Method} {co : Code} (l : Launch) {b L : Nat} {xs : Nat → Int32} (C0 : lw_At pp ss mm me co b L xs) {D : va_G} {cy : Nat → ClassId} {ad : Nat → Nat} (hK : nn_K D cy ss) (c : nCs) (m : nMd) (u3 : Int32) (NEXT : nCs → nMd → Option Int32) (hN : ∀ (c : nCs) (m : nMd), NEXT c m = some 1 → ∀ (H : Heap) (locs : List Loc) (ls : Array Slot), nn_W D cy ad (fun q : Nat => ss.heap.size ≤ q) ss.heap (c, m) H locs → lv_has ls 4 [(0, .ref b), (1, .ref (ad 118)), (2, .ref (ad 136)), (3, .int u3)] → W pp l ee room_1 ss mm #[Value.ref b] bb me co H locs 600000 7302250 (lw_Z bb #[Value.ref b] ss) (F0 mm 1198 ls [])) (hf : f_law_13 xs L c m u3 NEXT = some 1) : ∀ (H : Heap) (locs : List Loc) (ls : Array Slot), nn_W D cy ad (fun q : Nat => ss.heap.size ≤ q) ss.heap (c, m) H locs → lv_has ls 4 [(0, .ref b), (1, .ref (ad 118)), (2, .ref (ad 136)), (3, .int u3)] → W pp l ee room_1 ss mm #[Value.ref b] bb me co H locs 600000 7302250 (lw_Z bb #[Value.ref b] ss) (F0 mm 521 ls []) := by
  obtain ⟨hx, hb, hr, hml, hown, hts0, hX, hbl, hlk, hgv⟩ := C0
  have hts : ∀ w ∈ nn_B, w.before #[Value.ref b] ss = true := fun w hw => hts0 w (List.mem_filter.mp hw).1
  have S : CallFix pp mm co code 4 ss #[Value.ref b] nn_B "NineNoonsLaw" := ⟨hx, hb, hml, hown, hts⟩
  have hbA : ¬ (fun q : Nat => ss.heap.size ≤ q) b := Nat.not_le.mpr hbl
  intro H locs ls hw hl
  unfold f_law_13 at hf
  refine lv_aload_n hx hb dL_law_521 rfl (lv_at hl 1 rfl) ?_
  refine lv_aload_n hx hb dL_law_522 rfl (lv_at hl 0 rfl) ?_
  refine lv_iload_n hx hb dL_law_523 rfl (lv_at hl 3 rfl) ?_
  refine lv_iconst (v := 1) hx hb dL_law_524 (by decide) ?_
  refine lv_iadd hx hb dL_law_525 ?_
  obtain ⟨g_1, hf⟩ := nn_ix_some hf
  refine va_sld hx hb hX hbl hbA hw.2.2 g_1 dL_law_526 ?_
  refine lv_aload_n hx hb dL_law_527 rfl (lv_at hl 0 rfl) ?_
  refine lv_iload_n hx hb dL_law_528 rfl (lv_at hl 3 rfl) ?_
  refine lv_iconst (v := 2) hx hb dL_law_529 (by decide) ?_
  refine lv_iadd hx hb dL_law_530 ?_
  obtain ⟨g_2, hf⟩ := nn_ix_some hf
  refine va_sld hx hb hX hbl hbA hw.2.2 g_2 dL_law_531 ?_
  obtain ⟨q_3, h_4, hf⟩ := nn_bind hf
  refine nn_calliV S (As := [.int (xs (u3 + (1 : Int32)).toNatClampNeg), .int (xs (u3 + (2 : Int32)).toNatClampNeg)]) (rest := []) (ce_O (k := 0) (by decide)) (by decide) rfl rfl (c_X6_ahead l D cy ad (fun q : Nat => ss.heap.size ≤ q) (c, m) c rfl (xs (u3 + (1 : Int32)).toNatClampNeg) (xs (u3 + (2 : Int32)).toNatClampNeg) q_3 h_4 (q_3.2, m) rfl) mv_X6_ahead tb_2_165 hK hw ⟨by decide, by decide⟩ ⟨by decide, by decide⟩ rfl hl.1 rfl (Nat.le_of_ble_eq_true rfl) dL_law_532 (fun H locs hw => ?_)
  refine lv_aload_n hx hb dL_law_535 rfl (lv_at hl 2 rfl) ?_
  refine lv_aload_n hx hb dL_law_536 rfl (lv_at hl 0 rfl) ?_
  refine lv_iload_n hx hb dL_law_537 rfl (lv_at hl 3 rfl) ?_
  refine lv_iconst (v := 1) hx hb dL_law_538 (by decide) ?_
  refine lv_iadd hx hb dL_law_539 ?_
  obtain ⟨g_5, hf⟩ := nn_ix_some hf
  refine va_sld hx hb hX hbl hbA hw.2.2 g_5 dL_law_540 ?_
  refine lv_aload_n hx hb dL_law_541 rfl (lv_at hl 0 rfl) ?_
  refine lv_iload_n hx hb dL_law_542 rfl (lv_at hl 3 rfl) ?_
  refine lv_iconst (v := 2) hx hb dL_law_543 (by decide) ?_
  refine lv_iadd hx hb dL_law_544 ?_
  obtain ⟨g_6, hf⟩ := nn_ix_some hf
  refine va_sld hx hb hX hbl hbA hw.2.2 g_6 dL_law_545 ?_
  obtain ⟨q_7, h_8, hf⟩ := nn_bind hf
  refine nn_calliV S (As := [.int (xs (u3 + (1 : Int32)).toNatClampNeg), .int (xs (u3 + (2 : Int32)).toNatClampNeg)]) (rest := [.int (q_3.1)]) (ce_M (k := 0)) (by decide) rfl rfl (c_X7_ahead l D cy ad (fun q : Nat => ss.heap.size ≤ q) (q_3.2, m) m rfl (xs (u3 + (1 : Int32)).toNatClampNeg) (xs (u3 + (2 : Int32)).toNatClampNeg) q_7 h_8 (q_3.2, q_7.2) rfl) mv_X7_ahead tb_4_124 hK hw ⟨by decide, by decide⟩ ⟨by decide, by decide⟩ rfl hl.1 rfl (Nat.le_of_ble_eq_true rfl) dL_law_546 (fun H locs hw => ?_)
  refine lv_icmp_eq (tgt := 1198) hx hb dL_law_549 (by decide) (fun c_9 => ?_) (fun c_9 => ?_)
  · rw [if_pos c_9] at hf
    exact hN q_3.2 q_7.2 hf _ _ _ hw hl
  · rw [if_neg c_9] at hf
    exact absurd hf (by decide)
set_option maxRecDepth 100000 in
set_option maxHeartbeats 4000000 in
theorem law_14 {pp : Program} {ee : Env} {ss : State} {mm : MethodId} {bb : List Frame} {me : Method} {co : Code} (l : Launch) {b L : Nat} {xs : Nat → Int32} (C0 : lw_At pp ss mm me co b L xs) {D : va_G} {cy : Nat → ClassId} {ad : Nat → Nat} (hK : nn_K D cy ss) (c : nCs) (m : nMd) (u3 : Int32) (NEXT : nCs → nMd → Option Int32) (hN : ∀ (c : nCs) (m : nMd), NEXT c m = some 1 → ∀ (H : Heap) (locs : List Loc) (ls : Array Slot), nn_W D cy ad (fun q : Nat => ss.heap.size ≤ q) ss.heap (c, m) H locs → lv_has ls 4 [(0, .ref b), (1, .ref (ad 118)), (2, .ref (ad 136)), (3, .int u3)] → W pp l ee room_1 ss mm #[Value.ref b] bb me co H locs 600000 7302250 (lw_Z bb #[Value.ref b] ss) (F0 mm 1198 ls [])) (hf : f_law_14 xs L c m u3 NEXT = some 1) : ∀ (H : Heap) (locs : List Loc) (ls : Array Slot), nn_W D cy ad (fun q : Nat => ss.heap.size ≤ q) ss.heap (c, m) H locs → lv_has ls 4 [(0, .ref b), (1, .ref (ad 118)), (2, .ref (ad 136)), (3, .int u3)] → W pp l ee room_1 ss mm #[Value.ref b] bb me co H locs 600000 7302250 (lw_Z bb #[Value.ref b] ss) (F0 mm 554 ls []) := by
  obtain ⟨hx, hb, hr, hml, hown, hts0, hX, hbl, hlk, hgv⟩ := C0
  have hts : ∀ w ∈ nn_B, w.before #[Value.ref b] ss = true := fun w hw => hts0 w (List.mem_filter.mp hw).1
  have S : CallFix pp mm co code 4 ss #[Value.ref b] nn_B "NineNoonsLaw" := ⟨hx, hb, hml, hown, hts⟩
  have hbA : ¬ (fun q : Nat => ss.heap.size ≤ q) b := Nat.not_le.mpr hbl
  intro H locs ls hw hl
  unfold f_law_14 at hf
  refine lv_aload_n hx hb dL_law_554 rfl (lv_at hl 1 rfl) ?_
  refine lv_aload_n hx hb dL_law_555 rfl (lv_at hl 0 rfl) ?_
  refine lv_iload_n hx hb dL_law_556 rfl (lv_at hl 3 rfl) ?_
  refine lv_iconst (v := 1) hx hb dL_law_557 (by decide) ?_
  refine lv_iadd hx hb dL_law_558 ?_
  obtain ⟨g_1, hf⟩ := nn_ix_some hf
  refine va_sld hx hb hX hbl hbA hw.2.2 g_1 dL_law_559 ?_
  obtain ⟨q_2, h_3, hf⟩ := nn_bind hf
  refine nn_calliV S (As := [.int (xs (u3 + (1 : Int32)).toNatClampNeg)]) (rest := []) (ce_O (k := 0) (by decide)) (by decide) rfl rfl (c_X6_near l D cy ad (fun q : Nat => ss.heap.size ≤ q) (c, m) c rfl (xs (u3 + (1 : Int32)).toNatClampNeg) q_2 h_3 (q_2.2, m) rfl) mv_X6_near tb_2_173 hK hw ⟨by decide, by decide⟩ ⟨by decide, by decide⟩ rfl hl.1 rfl (Nat.le_of_ble_eq_true rfl) dL_law_560 (fun H locs hw => ?_)
  refine lv_aload_n hx hb dL_law_563 rfl (lv_at hl 2 rfl) ?_
  refine lv_aload_n hx hb dL_law_564 rfl (lv_at hl 0 rfl) ?_
  refine lv_iload_n hx hb dL_law_565 rfl (lv_at hl 3 rfl) ?_
  refine lv_iconst (v := 1) hx hb dL_law_566 (by decide) ?_
  refine lv_iadd hx hb dL_law_567 ?_
  obtain ⟨g_4, hf⟩ := nn_ix_some hf
  refine va_sld hx hb hX hbl hbA hw.2.2 g_4 dL_law_568 ?_
  obtain ⟨q_5, h_6, hf⟩ := nn_bind hf
  refine nn_calliV S (As := [.int (xs (u3 + (1 : Int32)).toNatClampNeg)]) (rest := [.int (q_2.1)]) (ce_M (k := 0)) (by decide) rfl rfl (c_X7_near l D cy ad (fun q : Nat => ss.heap.size ≤ q) (q_2.2, m) m rfl (xs (u3 + (1 : Int32)).toNatClampNeg) q_5 h_6 (q_2.2, q_5.2) rfl) mv_X7_near tb_4_141 hK hw ⟨by decide, by decide⟩ ⟨by decide, by decide⟩ rfl hl.1 rfl (Nat.le_of_ble_eq_true rfl) dL_law_569 (fun H locs hw => ?_)
  refine lv_icmp_eq (tgt := 1198) hx hb dL_law_572 (by decide) (fun c_7 => ?_) (fun c_7 => ?_)
  · rw [if_pos c_7] at hf
    exact hN q_2.2 q_5.2 hf _ _ _ hw hl
  · rw [if_neg c_7] at hf
    exact absurd hf (by decide)
set_option maxRecDepth 100000 in
set_option maxHeartbeats 4000000 in
theorem law_15 {pp : Program} {ee : Env} {ss : State} {mm : MethodId} {bb : List Frame} {me : Method} {co : Code} (l : Launch) {b L : Nat} {xs : Nat → Int32} (C0 : lw_At pp ss mm me co b L xs) {D : va_G} {cy : Nat → ClassId} {ad : Nat → Nat} (hK : nn_K D cy ss) (c : nCs) (m : nMd) (u3 : Int32) (NEXT : nCs → nMd → Option Int32) (hN : ∀ (c : nCs) (m : nMd), NEXT c m = some 1 → ∀ (H : Heap) (locs : List Loc) (ls : Array Slot), nn_W D cy ad (fun q : Nat => ss.heap.size ≤ q) ss.heap (c, m) H locs → lv_has ls 4 [(0, .ref b), (1, .ref (ad 118)), (2, .ref (ad 136)), (3, .int u3)] → W pp l ee room_1 ss mm #[Value.ref b] bb me co H locs 600000 7302250 (lw_Z bb #[Value.ref b] ss) (F0 mm 1198 ls [])) (hf : f_law_15 xs L c m u3 NEXT = some 1) : ∀ (H : Heap) (locs : List Loc) (ls : Array Slot), nn_W D cy ad (fun q : Nat => ss.heap.size ≤ q) ss.heap (c, m) H locs → lv_has ls 4 [(0, .ref b), (1, .ref (ad 118)), (2, .ref (ad 136)), (3, .int u3)] → W pp l ee room_1 ss mm #[Value.ref b] bb me co H locs 600000 7302250 (lw_Z bb #[Value.ref b] ss) (F0 mm 577 ls []) := by
  obtain ⟨hx, hb, hr, hml, hown, hts0, hX, hbl, hlk, hgv⟩ := C0
  have hts : ∀ w ∈ nn_B, w.before #[Value.ref b] ss = true := fun w hw => hts0 w (List.mem_filter.mp hw).1
  have S : CallFix pp mm co code 4 ss #[Value.ref b] nn_B "NineNoonsLaw" := ⟨hx, hb, hml, hown, hts⟩
  have hbA : ¬ (fun q : Nat => ss.heap.size ≤ q) b := Nat.not_le.mpr hbl
  intro H locs ls hw hl
  unfold f_law_15 at hf
  refine lv_aload_n hx hb dL_law_577 rfl (lv_at hl 1 rfl) ?_
  refine lv_aload_n hx hb dL_law_578 rfl (lv_at hl 0 rfl) ?_
  refine lv_iload_n hx hb dL_law_579 rfl (lv_at hl 3 rfl) ?_
  refine lv_iconst (v := 1) hx hb dL_law_580 (by decide) ?_
  refine lv_iadd hx hb dL_law_581 ?_
  obtain ⟨g_1, hf⟩ := nn_ix_some hf
  refine va_sld hx hb hX hbl hbA hw.2.2 g_1 dL_law_582 ?_
  refine lv_aload_n hx hb dL_law_583 rfl (lv_at hl 0 rfl) ?_
  refine lv_iload_n hx hb dL_law_584 rfl (lv_at hl 3 rfl) ?_
  refine lv_iconst (v := 2) hx hb dL_law_585 (by decide) ?_
  refine lv_iadd hx hb dL_law_586 ?_
  obtain ⟨g_2, hf⟩ := nn_ix_some hf
  refine va_sld hx hb hX hbl hbA hw.2.2 g_2 dL_law_587 ?_
  obtain ⟨q_3, h_4, hf⟩ := nn_bind hf
  refine nn_calliV S (As := [.int (xs (u3 + (1 : Int32)).toNatClampNeg), .int (xs (u3 + (2 : Int32)).toNatClampNeg)]) (rest := []) (ce_O (k := 0) (by decide)) (by decide) rfl rfl (c_X6_meet l D cy ad (fun q : Nat => ss.heap.size ≤ q) (c, m) c rfl (xs (u3 + (1 : Int32)).toNatClampNeg) (xs (u3 + (2 : Int32)).toNatClampNeg) q_3 h_4 (q_3.2, m) rfl) mv_X6_meet tb_2_177 hK hw ⟨by decide, by decide⟩ ⟨by decide, by decide⟩ rfl hl.1 rfl (Nat.le_of_ble_eq_true rfl) dL_law_588 (fun H locs hw => ?_)
  refine lv_aload_n hx hb dL_law_591 rfl (lv_at hl 2 rfl) ?_
  refine lv_aload_n hx hb dL_law_592 rfl (lv_at hl 0 rfl) ?_
  refine lv_iload_n hx hb dL_law_593 rfl (lv_at hl 3 rfl) ?_
  refine lv_iconst (v := 1) hx hb dL_law_594 (by decide) ?_
  refine lv_iadd hx hb dL_law_595 ?_
  obtain ⟨g_5, hf⟩ := nn_ix_some hf
  refine va_sld hx hb hX hbl hbA hw.2.2 g_5 dL_law_596 ?_
  refine lv_aload_n hx hb dL_law_597 rfl (lv_at hl 0 rfl) ?_
  refine lv_iload_n hx hb dL_law_598 rfl (lv_at hl 3 rfl) ?_
  refine lv_iconst (v := 2) hx hb dL_law_599 (by decide) ?_
  refine lv_iadd hx hb dL_law_600 ?_
  obtain ⟨g_6, hf⟩ := nn_ix_some hf
  refine va_sld hx hb hX hbl hbA hw.2.2 g_6 dL_law_601 ?_
  obtain ⟨q_7, h_8, hf⟩ := nn_bind hf
  refine nn_calliV S (As := [.int (xs (u3 + (1 : Int32)).toNatClampNeg), .int (xs (u3 + (2 : Int32)).toNatClampNeg)]) (rest := [.int (q_3.1)]) (ce_M (k := 0)) (by decide) rfl rfl (c_X7_meet l D cy ad (fun q : Nat => ss.heap.size ≤ q) (q_3.2, m) m rfl (xs (u3 + (1 : Int32)).toNatClampNeg) (xs (u3 + (2 : Int32)).toNatClampNeg) q_7 h_8 (q_3.2, q_7.2) rfl) mv_X7_meet tb_4_145 hK hw ⟨by decide, by decide⟩ ⟨by decide, by decide⟩ rfl hl.1 rfl (Nat.le_of_ble_eq_true rfl) dL_law_602 (fun H locs hw => ?_)
  refine lv_icmp_eq (tgt := 1198) hx hb dL_law_605 (by decide) (fun c_9 => ?_) (fun c_9 => ?_)
  · rw [if_pos c_9] at hf
    exact hN q_3.2 q_7.2 hf _ _ _ hw hl
  · rw [if_neg c_9] at hf
    exact absurd hf (by decide)
set_option maxRecDepth 100000 in
set_option maxHeartbeats 4000000 in
theorem law_16 {pp : Program} {ee : Env} {ss : State} {mm : MethodId} {bb : List Frame} {me : Method} {co : Code} (l : Launch) {b L : Nat} {xs : Nat → Int32} (C0 : lw_At pp ss mm me co b L xs) {D : va_G} {cy : Nat → ClassId} {ad : Nat → Nat} (hK : nn_K D cy ss) (c : nCs) (m : nMd) (u3 : Int32) (NEXT : nCs → nMd → Option Int32) (hN : ∀ (c : nCs) (m : nMd), NEXT c m = some 1 → ∀ (H : Heap) (locs : List Loc) (ls : Array Slot), nn_W D cy ad (fun q : Nat => ss.heap.size ≤ q) ss.heap (c, m) H locs → lv_has ls 4 [(0, .ref b), (1, .ref (ad 118)), (2, .ref (ad 136)), (3, .int u3)] → W pp l ee room_1 ss mm #[Value.ref b] bb me co H locs 600000 7302250 (lw_Z bb #[Value.ref b] ss) (F0 mm 1198 ls [])) (hf : f_law_16 xs L c m u3 NEXT = some 1) : ∀ (H : Heap) (locs : List Loc) (ls : Array Slot), nn_W D cy ad (fun q : Nat => ss.heap.size ≤ q) ss.heap (c, m) H locs → lv_has ls 4 [(0, .ref b), (1, .ref (ad 118)), (2, .ref (ad 136)), (3, .int u3)] → W pp l ee room_1 ss mm #[Value.ref b] bb me co H locs 600000 7302250 (lw_Z bb #[Value.ref b] ss) (F0 mm 610 ls []) := by
  obtain ⟨hx, hb, hr, hml, hown, hts0, hX, hbl, hlk, hgv⟩ := C0
  have hts : ∀ w ∈ nn_B, w.before #[Value.ref b] ss = true := fun w hw => hts0 w (List.mem_filter.mp hw).1
  have S : CallFix pp mm co code 4 ss #[Value.ref b] nn_B "NineNoonsLaw" := ⟨hx, hb, hml, hown, hts⟩
  have hbA : ¬ (fun q : Nat => ss.heap.size ≤ q) b := Nat.not_le.mpr hbl
  intro H locs ls hw hl
  unfold f_law_16 at hf
  refine lv_aload_n hx hb dL_law_610 rfl (lv_at hl 1 rfl) ?_
  refine lv_aload_n hx hb dL_law_611 rfl (lv_at hl 0 rfl) ?_
  refine lv_iload_n hx hb dL_law_612 rfl (lv_at hl 3 rfl) ?_
  refine lv_iconst (v := 1) hx hb dL_law_613 (by decide) ?_
  refine lv_iadd hx hb dL_law_614 ?_
  obtain ⟨g_1, hf⟩ := nn_ix_some hf
  refine va_sld hx hb hX hbl hbA hw.2.2 g_1 dL_law_615 ?_
  obtain ⟨q_2, h_3, hf⟩ := nn_bind hf
  refine nn_calliV S (As := [.int (xs (u3 + (1 : Int32)).toNatClampNeg)]) (rest := []) (ce_O (k := 0) (by decide)) (by decide) rfl rfl (c_X6_together l D cy ad (fun q : Nat => ss.heap.size ≤ q) (c, m) c rfl (xs (u3 + (1 : Int32)).toNatClampNeg) q_2 h_3 (q_2.2, m) rfl) mv_X6_together tb_2_181 hK hw ⟨by decide, by decide⟩ ⟨by decide, by decide⟩ rfl hl.1 rfl (Nat.le_of_ble_eq_true rfl) dL_law_616 (fun H locs hw => ?_)
  refine lv_aload_n hx hb dL_law_619 rfl (lv_at hl 2 rfl) ?_
  refine lv_aload_n hx hb dL_law_620 rfl (lv_at hl 0 rfl) ?_
  refine lv_iload_n hx hb dL_law_621 rfl (lv_at hl 3 rfl) ?_
  refine lv_iconst (v := 1) hx hb dL_law_622 (by decide) ?_
  refine lv_iadd hx hb dL_law_623 ?_
  obtain ⟨g_4, hf⟩ := nn_ix_some hf
  refine va_sld hx hb hX hbl hbA hw.2.2 g_4 dL_law_624 ?_
  obtain ⟨q_5, h_6, hf⟩ := nn_bind hf
  refine nn_calliV S (As := [.int (xs (u3 + (1 : Int32)).toNatClampNeg)]) (rest := [.int (q_2.1)]) (ce_M (k := 0)) (by decide) rfl rfl (c_X7_together l D cy ad (fun q : Nat => ss.heap.size ≤ q) (q_2.2, m) m rfl (xs (u3 + (1 : Int32)).toNatClampNeg) q_5 h_6 (q_2.2, q_5.2) rfl) mv_X7_together tb_4_149 hK hw ⟨by decide, by decide⟩ ⟨by decide, by decide⟩ rfl hl.1 rfl (Nat.le_of_ble_eq_true rfl) dL_law_625 (fun H locs hw => ?_)
  refine lv_icmp_eq (tgt := 1198) hx hb dL_law_628 (by decide) (fun c_7 => ?_) (fun c_7 => ?_)
  · rw [if_pos c_7] at hf
    exact hN q_2.2 q_5.2 hf _ _ _ hw hl
  · rw [if_neg c_7] at hf
    exact absurd hf (by decide)
set_option maxRecDepth 100000 in
set_option maxHeartbeats 4000000 in
theorem law_17 {pp : Program} {ee : Env} {ss : State} {mm : MethodId} {bb : List Frame} {me : Method} {co : Code} (l : Launch) {b L : Nat} {xs : Nat → Int32} (C0 : lw_At pp ss mm me co b L xs) {D : va_G} {cy : Nat → ClassId} {ad : Nat → Nat} (hK : nn_K D cy ss) (c : nCs) (m : nMd) (u3 : Int32) (NEXT : nCs → nMd → Option Int32) (hN : ∀ (c : nCs) (m : nMd), NEXT c m = some 1 → ∀ (H : Heap) (locs : List Loc) (ls : Array Slot), nn_W D cy ad (fun q : Nat => ss.heap.size ≤ q) ss.heap (c, m) H locs → lv_has ls 4 [(0, .ref b), (1, .ref (ad 118)), (2, .ref (ad 136)), (3, .int u3)] → W pp l ee room_1 ss mm #[Value.ref b] bb me co H locs 600000 7302250 (lw_Z bb #[Value.ref b] ss) (F0 mm 1198 ls [])) (hf : f_law_17 xs L c m u3 NEXT = some 1) : ∀ (H : Heap) (locs : List Loc) (ls : Array Slot), nn_W D cy ad (fun q : Nat => ss.heap.size ≤ q) ss.heap (c, m) H locs → lv_has ls 4 [(0, .ref b), (1, .ref (ad 118)), (2, .ref (ad 136)), (3, .int u3)] → W pp l ee room_1 ss mm #[Value.ref b] bb me co H locs 600000 7302250 (lw_Z bb #[Value.ref b] ss) (F0 mm 633 ls []) := by
  obtain ⟨hx, hb, hr, hml, hown, hts0, hX, hbl, hlk, hgv⟩ := C0
  have hts : ∀ w ∈ nn_B, w.before #[Value.ref b] ss = true := fun w hw => hts0 w (List.mem_filter.mp hw).1
  have S : CallFix pp mm co code 4 ss #[Value.ref b] nn_B "NineNoonsLaw" := ⟨hx, hb, hml, hown, hts⟩
  have hbA : ¬ (fun q : Nat => ss.heap.size ≤ q) b := Nat.not_le.mpr hbl
  intro H locs ls hw hl
  unfold f_law_17 at hf
  refine lv_aload_n hx hb dL_law_633 rfl (lv_at hl 1 rfl) ?_
  refine lv_aload_n hx hb dL_law_634 rfl (lv_at hl 0 rfl) ?_
  refine lv_iload_n hx hb dL_law_635 rfl (lv_at hl 3 rfl) ?_
  refine lv_iconst (v := 1) hx hb dL_law_636 (by decide) ?_
  refine lv_iadd hx hb dL_law_637 ?_
  obtain ⟨g_1, hf⟩ := nn_ix_some hf
  refine va_sld hx hb hX hbl hbA hw.2.2 g_1 dL_law_638 ?_
  refine lv_aload_n hx hb dL_law_639 rfl (lv_at hl 0 rfl) ?_
  refine lv_iload_n hx hb dL_law_640 rfl (lv_at hl 3 rfl) ?_
  refine lv_iconst (v := 2) hx hb dL_law_641 (by decide) ?_
  refine lv_iadd hx hb dL_law_642 ?_
  obtain ⟨g_2, hf⟩ := nn_ix_some hf
  refine va_sld hx hb hX hbl hbA hw.2.2 g_2 dL_law_643 ?_
  obtain ⟨q_3, h_4, hf⟩ := nn_bind hf
  refine nn_calliV S (As := [.int (xs (u3 + (1 : Int32)).toNatClampNeg), .int (xs (u3 + (2 : Int32)).toNatClampNeg)]) (rest := []) (ce_O (k := 0) (by decide)) (by decide) rfl rfl (c_X6_fix l D cy ad (fun q : Nat => ss.heap.size ≤ q) (c, m) c rfl (xs (u3 + (1 : Int32)).toNatClampNeg) (xs (u3 + (2 : Int32)).toNatClampNeg) q_3 h_4 (q_3.2, m) rfl) mv_X6_fix tb_2_191 hK hw ⟨by decide, by decide⟩ ⟨by decide, by decide⟩ rfl hl.1 rfl (Nat.le_of_ble_eq_true rfl) dL_law_644 (fun H locs hw => ?_)
  refine lv_aload_n hx hb dL_law_647 rfl (lv_at hl 2 rfl) ?_
  refine lv_aload_n hx hb dL_law_648 rfl (lv_at hl 0 rfl) ?_
  refine lv_iload_n hx hb dL_law_649 rfl (lv_at hl 3 rfl) ?_
  refine lv_iconst (v := 1) hx hb dL_law_650 (by decide) ?_
  refine lv_iadd hx hb dL_law_651 ?_
  obtain ⟨g_5, hf⟩ := nn_ix_some hf
  refine va_sld hx hb hX hbl hbA hw.2.2 g_5 dL_law_652 ?_
  refine lv_aload_n hx hb dL_law_653 rfl (lv_at hl 0 rfl) ?_
  refine lv_iload_n hx hb dL_law_654 rfl (lv_at hl 3 rfl) ?_
  refine lv_iconst (v := 2) hx hb dL_law_655 (by decide) ?_
  refine lv_iadd hx hb dL_law_656 ?_
  obtain ⟨g_6, hf⟩ := nn_ix_some hf
  refine va_sld hx hb hX hbl hbA hw.2.2 g_6 dL_law_657 ?_
  obtain ⟨q_7, h_8, hf⟩ := nn_bind hf
  refine nn_calliV S (As := [.int (xs (u3 + (1 : Int32)).toNatClampNeg), .int (xs (u3 + (2 : Int32)).toNatClampNeg)]) (rest := [.int (q_3.1)]) (ce_M (k := 0)) (by decide) rfl rfl (c_X7_fix l D cy ad (fun q : Nat => ss.heap.size ≤ q) (q_3.2, m) m rfl (xs (u3 + (1 : Int32)).toNatClampNeg) (xs (u3 + (2 : Int32)).toNatClampNeg) q_7 h_8 (q_3.2, q_7.2) rfl) mv_X7_fix tb_4_157 hK hw ⟨by decide, by decide⟩ ⟨by decide, by decide⟩ rfl hl.1 rfl (Nat.le_of_ble_eq_true rfl) dL_law_658 (fun H locs hw => ?_)
  refine lv_icmp_eq (tgt := 1198) hx hb dL_law_661 (by decide) (fun c_9 => ?_) (fun c_9 => ?_)
  · rw [if_pos c_9] at hf
    exact hN q_3.2 q_7.2 hf _ _ _ hw hl
  · rw [if_neg c_9] at hf
    exact absurd hf (by decide)
set_option maxRecDepth 100000 in
set_option maxHeartbeats 4000000 in
theorem law_18 {pp : Program} {ee : Env} {ss : State} {mm : MethodId} {bb : List Frame} {me : Method} {co : Code} (l : Launch) {b L : Nat} {xs : Nat → Int32} (C0 : lw_At pp ss mm me co b L xs) {D : va_G} {cy : Nat → ClassId} {ad : Nat → Nat} (hK : nn_K D cy ss) (c : nCs) (m : nMd) (u3 : Int32) (NEXT : nCs → nMd → Option Int32) (hN : ∀ (c : nCs) (m : nMd), NEXT c m = some 1 → ∀ (H : Heap) (locs : List Loc) (ls : Array Slot), nn_W D cy ad (fun q : Nat => ss.heap.size ≤ q) ss.heap (c, m) H locs → lv_has ls 4 [(0, .ref b), (1, .ref (ad 118)), (2, .ref (ad 136)), (3, .int u3)] → W pp l ee room_1 ss mm #[Value.ref b] bb me co H locs 600000 7302250 (lw_Z bb #[Value.ref b] ss) (F0 mm 1198 ls [])) (hf : f_law_18 xs L c m u3 NEXT = some 1) : ∀ (H : Heap) (locs : List Loc) (ls : Array Slot), nn_W D cy ad (fun q : Nat => ss.heap.size ≤ q) ss.heap (c, m) H locs → lv_has ls 4 [(0, .ref b), (1, .ref (ad 118)), (2, .ref (ad 136)), (3, .int u3)] → W pp l ee room_1 ss mm #[Value.ref b] bb me co H locs 600000 7302250 (lw_Z bb #[Value.ref b] ss) (F0 mm 666 ls []) := by
  obtain ⟨hx, hb, hr, hml, hown, hts0, hX, hbl, hlk, hgv⟩ := C0
  have hts : ∀ w ∈ nn_B, w.before #[Value.ref b] ss = true := fun w hw => hts0 w (List.mem_filter.mp hw).1
  have S : CallFix pp mm co code 4 ss #[Value.ref b] nn_B "NineNoonsLaw" := ⟨hx, hb, hml, hown, hts⟩
  have hbA : ¬ (fun q : Nat => ss.heap.size ≤ q) b := Nat.not_le.mpr hbl
  intro H locs ls hw hl
  unfold f_law_18 at hf
  refine lv_aload_n hx hb dL_law_666 rfl (lv_at hl 1 rfl) ?_
  refine lv_aload_n hx hb dL_law_667 rfl (lv_at hl 0 rfl) ?_
  refine lv_iload_n hx hb dL_law_668 rfl (lv_at hl 3 rfl) ?_
  refine lv_iconst (v := 1) hx hb dL_law_669 (by decide) ?_
  refine lv_iadd hx hb dL_law_670 ?_
  obtain ⟨g_1, hf⟩ := nn_ix_some hf
  refine va_sld hx hb hX hbl hbA hw.2.2 g_1 dL_law_671 ?_
  refine lv_aload_n hx hb dL_law_672 rfl (lv_at hl 0 rfl) ?_
  refine lv_iload_n hx hb dL_law_673 rfl (lv_at hl 3 rfl) ?_
  refine lv_iconst (v := 2) hx hb dL_law_674 (by decide) ?_
  refine lv_iadd hx hb dL_law_675 ?_
  obtain ⟨g_2, hf⟩ := nn_ix_some hf
  refine va_sld hx hb hX hbl hbA hw.2.2 g_2 dL_law_676 ?_
  obtain ⟨q_3, h_4, hf⟩ := nn_bind hf
  refine nn_calllV S (As := [.int (xs (u3 + (1 : Int32)).toNatClampNeg), .int (xs (u3 + (2 : Int32)).toNatClampNeg)]) (rest := []) (ce_O (k := 0) (by decide)) (by decide) rfl rfl (c_X6_free l D cy ad (fun q : Nat => ss.heap.size ≤ q) (c, m) c rfl (xs (u3 + (1 : Int32)).toNatClampNeg) (xs (u3 + (2 : Int32)).toNatClampNeg) q_3 h_4) mv_X6_free tb_2_217 hK hw ⟨by decide, by decide⟩ ⟨by decide, by decide⟩ rfl hl.1 rfl (Nat.le_of_ble_eq_true rfl) dL_law_677 (fun H locs hw => ?_)
  refine lv_aload_n hx hb dL_law_680 rfl (lv_at hl 2 rfl) ?_
  refine lv_aload_n hx hb dL_law_681 rfl (lv_at hl 0 rfl) ?_
  refine lv_iload_n hx hb dL_law_682 rfl (lv_at hl 3 rfl) ?_
  refine lv_iconst (v := 1) hx hb dL_law_683 (by decide) ?_
  refine lv_iadd hx hb dL_law_684 ?_
  obtain ⟨g_5, hf⟩ := nn_ix_some hf
  refine va_sld hx hb hX hbl hbA hw.2.2 g_5 dL_law_685 ?_
  refine lv_aload_n hx hb dL_law_686 rfl (lv_at hl 0 rfl) ?_
  refine lv_iload_n hx hb dL_law_687 rfl (lv_at hl 3 rfl) ?_
  refine lv_iconst (v := 2) hx hb dL_law_688 (by decide) ?_
  refine lv_iadd hx hb dL_law_689 ?_
  obtain ⟨g_6, hf⟩ := nn_ix_some hf
  refine va_sld hx hb hX hbl hbA hw.2.2 g_6 dL_law_690 ?_
  obtain ⟨q_7, h_8, hf⟩ := nn_bind hf
  refine nn_calllV S (As := [.int (xs (u3 + (1 : Int32)).toNatClampNeg), .int (xs (u3 + (2 : Int32)).toNatClampNeg)]) (rest := [.long (q_3)]) (ce_M (k := 0)) (by decide) rfl rfl (c_X7_free l D cy ad (fun q : Nat => ss.heap.size ≤ q) (c, m) m rfl (xs (u3 + (1 : Int32)).toNatClampNeg) (xs (u3 + (2 : Int32)).toNatClampNeg) q_7 h_8) mv_X7_free tb_4_167 hK hw ⟨by decide, by decide⟩ ⟨by decide, by decide⟩ rfl hl.1 rfl (Nat.le_of_ble_eq_true rfl) dL_law_691 (fun H locs hw => ?_)
  refine W.lcmp hx hb dL_law_694 ?_
  refine lv_if_eq (tgt := 1198) hx hb dL_law_695 (by decide) (fun c_9 => ?_) (fun c_9 => ?_)
  · rw [if_pos c_9] at hf
    exact hN c m hf _ _ _ hw hl
  · rw [if_neg c_9] at hf
    exact absurd hf (by decide)
set_option maxRecDepth 100000 in
set_option maxHeartbeats 4000000 in
theorem law_19 {pp : Program} {ee : Env} {ss : State} {mm : MethodId} {bb : List Frame} {me : Method} {co : Code} (l : Launch) {b L : Nat} {xs : Nat → Int32} (C0 : lw_At pp ss mm me co b L xs) {D : va_G} {cy : Nat → ClassId} {ad : Nat → Nat} (hK : nn_K D cy ss) (c : nCs) (m : nMd) (u3 : Int32) (NEXT : nCs → nMd → Option Int32) (hN : ∀ (c : nCs) (m : nMd), NEXT c m = some 1 → ∀ (H : Heap) (locs : List Loc) (ls : Array Slot), nn_W D cy ad (fun q : Nat => ss.heap.size ≤ q) ss.heap (c, m) H locs → lv_has ls 4 [(0, .ref b), (1, .ref (ad 118)), (2, .ref (ad 136)), (3, .int u3)] → W pp l ee room_1 ss mm #[Value.ref b] bb me co H locs 600000 7302250 (lw_Z bb #[Value.ref b] ss) (F0 mm 1198 ls [])) (hf : f_law_19 xs L c m u3 NEXT = some 1) : ∀ (H : Heap) (locs : List Loc) (ls : Array Slot), nn_W D cy ad (fun q : Nat => ss.heap.size ≤ q) ss.heap (c, m) H locs → lv_has ls 4 [(0, .ref b), (1, .ref (ad 118)), (2, .ref (ad 136)), (3, .int u3)] → W pp l ee room_1 ss mm #[Value.ref b] bb me co H locs 600000 7302250 (lw_Z bb #[Value.ref b] ss) (F0 mm 700 ls []) := by
  obtain ⟨hx, hb, hr, hml, hown, hts0, hX, hbl, hlk, hgv⟩ := C0
  have hts : ∀ w ∈ nn_B, w.before #[Value.ref b] ss = true := fun w hw => hts0 w (List.mem_filter.mp hw).1
  have S : CallFix pp mm co code 4 ss #[Value.ref b] nn_B "NineNoonsLaw" := ⟨hx, hb, hml, hown, hts⟩
  have hbA : ¬ (fun q : Nat => ss.heap.size ≤ q) b := Nat.not_le.mpr hbl
  intro H locs ls hw hl
  unfold f_law_19 at hf
  refine lv_aload_n hx hb dL_law_700 rfl (lv_at hl 1 rfl) ?_
  refine lv_aload_n hx hb dL_law_701 rfl (lv_at hl 0 rfl) ?_
  refine lv_iload_n hx hb dL_law_702 rfl (lv_at hl 3 rfl) ?_
  refine lv_iconst (v := 1) hx hb dL_law_703 (by decide) ?_
  refine lv_iadd hx hb dL_law_704 ?_
  obtain ⟨g_1, hf⟩ := nn_ix_some hf
  refine va_sld hx hb hX hbl hbA hw.2.2 g_1 dL_law_705 ?_
  refine lv_aload_n hx hb dL_law_706 rfl (lv_at hl 0 rfl) ?_
  refine lv_iload_n hx hb dL_law_707 rfl (lv_at hl 3 rfl) ?_
  refine lv_iconst (v := 2) hx hb dL_law_708 (by decide) ?_
  refine lv_iadd hx hb dL_law_709 ?_
  obtain ⟨g_2, hf⟩ := nn_ix_some hf
  refine va_sld hx hb hX hbl hbA hw.2.2 g_2 dL_law_710 ?_
  refine lv_aload_n hx hb dL_law_711 rfl (lv_at hl 0 rfl) ?_
  refine lv_iload_n hx hb dL_law_712 rfl (lv_at hl 3 rfl) ?_
  refine lv_iconst (v := 3) hx hb dL_law_713 (by decide) ?_
  refine lv_iadd hx hb dL_law_714 ?_
  obtain ⟨g_3, hf⟩ := nn_ix_some hf
  refine va_sld hx hb hX hbl hbA hw.2.2 g_3 dL_law_715 ?_
  refine lv_aload_n hx hb dL_law_716 rfl (lv_at hl 0 rfl) ?_
  refine lv_iload_n hx hb dL_law_717 rfl (lv_at hl 3 rfl) ?_
  refine lv_iconst (v := 4) hx hb dL_law_718 (by decide) ?_
  refine lv_iadd hx hb dL_law_719 ?_
  obtain ⟨g_4, hf⟩ := nn_ix_some hf
  refine va_sld hx hb hX hbl hbA hw.2.2 g_4 dL_law_720 ?_
  obtain ⟨q_5, h_6, hf⟩ := nn_bind hf
  refine nn_calliV S (As := [.int (xs (u3 + (1 : Int32)).toNatClampNeg), .int (xs (u3 + (2 : Int32)).toNatClampNeg), .int (xs (u3 + (3 : Int32)).toNatClampNeg), .int (xs (u3 + (4 : Int32)).toNatClampNeg)]) (rest := []) (ce_O (k := 0) (by decide)) (by decide) rfl rfl (c_X6_hear l D cy ad (fun q : Nat => ss.heap.size ≤ q) (c, m) c rfl (xs (u3 + (1 : Int32)).toNatClampNeg) (xs (u3 + (2 : Int32)).toNatClampNeg) (xs (u3 + (3 : Int32)).toNatClampNeg) (xs (u3 + (4 : Int32)).toNatClampNeg) q_5 h_6 (q_5.2, m) rfl) mv_X6_hear tb_3_3 hK hw ⟨by decide, by decide⟩ ⟨by decide, by decide⟩ rfl hl.1 rfl (Nat.le_of_ble_eq_true rfl) dL_law_721 (fun H locs hw => ?_)
  refine lv_aload_n hx hb dL_law_724 rfl (lv_at hl 2 rfl) ?_
  refine lv_aload_n hx hb dL_law_725 rfl (lv_at hl 0 rfl) ?_
  refine lv_iload_n hx hb dL_law_726 rfl (lv_at hl 3 rfl) ?_
  refine lv_iconst (v := 1) hx hb dL_law_727 (by decide) ?_
  refine lv_iadd hx hb dL_law_728 ?_
  obtain ⟨g_7, hf⟩ := nn_ix_some hf
  refine va_sld hx hb hX hbl hbA hw.2.2 g_7 dL_law_729 ?_
  refine lv_aload_n hx hb dL_law_730 rfl (lv_at hl 0 rfl) ?_
  refine lv_iload_n hx hb dL_law_731 rfl (lv_at hl 3 rfl) ?_
  refine lv_iconst (v := 2) hx hb dL_law_732 (by decide) ?_
  refine lv_iadd hx hb dL_law_733 ?_
  obtain ⟨g_8, hf⟩ := nn_ix_some hf
  refine va_sld hx hb hX hbl hbA hw.2.2 g_8 dL_law_734 ?_
  refine lv_aload_n hx hb dL_law_735 rfl (lv_at hl 0 rfl) ?_
  refine lv_iload_n hx hb dL_law_736 rfl (lv_at hl 3 rfl) ?_
  refine lv_iconst (v := 3) hx hb dL_law_737 (by decide) ?_
  refine lv_iadd hx hb dL_law_738 ?_
  obtain ⟨g_9, hf⟩ := nn_ix_some hf
  refine va_sld hx hb hX hbl hbA hw.2.2 g_9 dL_law_739 ?_
  refine lv_aload_n hx hb dL_law_740 rfl (lv_at hl 0 rfl) ?_
  refine lv_iload_n hx hb dL_law_741 rfl (lv_at hl 3 rfl) ?_
  refine lv_iconst (v := 4) hx hb dL_law_742 (by decide) ?_
  refine lv_iadd hx hb dL_law_743 ?_
  obtain ⟨g_10, hf⟩ := nn_ix_some hf
  refine va_sld hx hb hX hbl hbA hw.2.2 g_10 dL_law_744 ?_
  obtain ⟨q_11, h_12, hf⟩ := nn_bind hf
  refine nn_calliV S (As := [.int (xs (u3 + (1 : Int32)).toNatClampNeg), .int (xs (u3 + (2 : Int32)).toNatClampNeg), .int (xs (u3 + (3 : Int32)).toNatClampNeg), .int (xs (u3 + (4 : Int32)).toNatClampNeg)]) (rest := [.int (q_5.1)]) (ce_M (k := 0)) (by decide) rfl rfl (c_X7_hear l D cy ad (fun q : Nat => ss.heap.size ≤ q) (q_5.2, m) m rfl (xs (u3 + (1 : Int32)).toNatClampNeg) (xs (u3 + (2 : Int32)).toNatClampNeg) (xs (u3 + (3 : Int32)).toNatClampNeg) (xs (u3 + (4 : Int32)).toNatClampNeg) q_11 h_12 (q_5.2, q_11.2) rfl) mv_X7_hear tb_4_174 hK hw ⟨by decide, by decide⟩ ⟨by decide, by decide⟩ rfl hl.1 rfl (Nat.le_of_ble_eq_true rfl) dL_law_745 (fun H locs hw => ?_)
  refine lv_icmp_eq (tgt := 1198) hx hb dL_law_748 (by decide) (fun c_13 => ?_) (fun c_13 => ?_)
  · rw [if_pos c_13] at hf
    exact hN q_5.2 q_11.2 hf _ _ _ hw hl
  · rw [if_neg c_13] at hf
    exact absurd hf (by decide)
set_option maxRecDepth 100000 in
set_option maxHeartbeats 4000000 in
theorem law_20 {pp : Program} {ee : Env} {ss : State} {mm : MethodId} {bb : List Frame} {me : Method} {co : Code} (l : Launch) {b L : Nat} {xs : Nat → Int32} (C0 : lw_At pp ss mm me co b L xs) {D : va_G} {cy : Nat → ClassId} {ad : Nat → Nat} (hK : nn_K D cy ss) (c : nCs) (m : nMd) (u3 : Int32) (NEXT : nCs → nMd → Option Int32) (hN : ∀ (c : nCs) (m : nMd), NEXT c m = some 1 → ∀ (H : Heap) (locs : List Loc) (ls : Array Slot), nn_W D cy ad (fun q : Nat => ss.heap.size ≤ q) ss.heap (c, m) H locs → lv_has ls 4 [(0, .ref b), (1, .ref (ad 118)), (2, .ref (ad 136)), (3, .int u3)] → W pp l ee room_1 ss mm #[Value.ref b] bb me co H locs 600000 7302250 (lw_Z bb #[Value.ref b] ss) (F0 mm 1198 ls [])) (hf : f_law_20 xs L c m u3 NEXT = some 1) : ∀ (H : Heap) (locs : List Loc) (ls : Array Slot), nn_W D cy ad (fun q : Nat => ss.heap.size ≤ q) ss.heap (c, m) H locs → lv_has ls 4 [(0, .ref b), (1, .ref (ad 118)), (2, .ref (ad 136)), (3, .int u3)] → W pp l ee room_1 ss mm #[Value.ref b] bb me co H locs 600000 7302250 (lw_Z bb #[Value.ref b] ss) (F0 mm 753 ls []) := by
  obtain ⟨hx, hb, hr, hml, hown, hts0, hX, hbl, hlk, hgv⟩ := C0
  have hts : ∀ w ∈ nn_B, w.before #[Value.ref b] ss = true := fun w hw => hts0 w (List.mem_filter.mp hw).1
  have S : CallFix pp mm co code 4 ss #[Value.ref b] nn_B "NineNoonsLaw" := ⟨hx, hb, hml, hown, hts⟩
  have hbA : ¬ (fun q : Nat => ss.heap.size ≤ q) b := Nat.not_le.mpr hbl
  intro H locs ls hw hl
  unfold f_law_20 at hf
  refine lv_aload_n hx hb dL_law_753 rfl (lv_at hl 1 rfl) ?_
  obtain ⟨q_1, h_2, hf⟩ := nn_bind hf
  refine nn_calliV S (As := []) (rest := []) (ce_O (k := 0) (by decide)) (by decide) rfl rfl (c_X6_again l D cy ad (fun q : Nat => ss.heap.size ≤ q) (c, m) c rfl  q_1 h_2 (q_1.2, m) rfl) mv_X6_again tb_3_25 hK hw ⟨by decide, by decide⟩ ⟨by decide, by decide⟩ rfl hl.1 rfl (Nat.le_of_ble_eq_true rfl) dL_law_754 (fun H locs hw => ?_)
  refine lv_aload_n hx hb dL_law_757 rfl (lv_at hl 2 rfl) ?_
  obtain ⟨q_3, h_4, hf⟩ := nn_bind hf
  refine nn_calliV S (As := []) (rest := [.int (q_1.1)]) (ce_M (k := 0)) (by decide) rfl rfl (c_X7_again l D cy ad (fun q : Nat => ss.heap.size ≤ q) (q_1.2, m) m rfl  q_3 h_4 (q_1.2, q_3.2) rfl) mv_X7_again tb_4_186 hK hw ⟨by decide, by decide⟩ ⟨by decide, by decide⟩ rfl hl.1 rfl (Nat.le_of_ble_eq_true rfl) dL_law_758 (fun H locs hw => ?_)
  refine lv_icmp_eq (tgt := 1198) hx hb dL_law_761 (by decide) (fun c_5 => ?_) (fun c_5 => ?_)
  · rw [if_pos c_5] at hf
    exact hN q_1.2 q_3.2 hf _ _ _ hw hl
  · rw [if_neg c_5] at hf
    exact absurd hf (by decide)
set_option maxRecDepth 100000 in
set_option maxHeartbeats 4000000 in
theorem law_21 {pp : Program} {ee : Env} {ss : State} {mm : MethodId} {bb : List Frame} {me : Method} {co : Code} (l : Launch) {b L : Nat} {xs : Nat → Int32} (C0 : lw_At pp ss mm me co b L xs) {D : va_G} {cy : Nat → ClassId} {ad : Nat → Nat} (hK : nn_K D cy ss) (c : nCs) (m : nMd) (u3 : Int32) (NEXT : nCs → nMd → Option Int32) (hN : ∀ (c : nCs) (m : nMd), NEXT c m = some 1 → ∀ (H : Heap) (locs : List Loc) (ls : Array Slot), nn_W D cy ad (fun q : Nat => ss.heap.size ≤ q) ss.heap (c, m) H locs → lv_has ls 4 [(0, .ref b), (1, .ref (ad 118)), (2, .ref (ad 136)), (3, .int u3)] → W pp l ee room_1 ss mm #[Value.ref b] bb me co H locs 600000 7302250 (lw_Z bb #[Value.ref b] ss) (F0 mm 1198 ls [])) (hf : f_law_21 xs L c m u3 NEXT = some 1) : ∀ (H : Heap) (locs : List Loc) (ls : Array Slot), nn_W D cy ad (fun q : Nat => ss.heap.size ≤ q) ss.heap (c, m) H locs → lv_has ls 4 [(0, .ref b), (1, .ref (ad 118)), (2, .ref (ad 136)), (3, .int u3)] → W pp l ee room_1 ss mm #[Value.ref b] bb me co H locs 600000 7302250 (lw_Z bb #[Value.ref b] ss) (F0 mm 766 ls []) := by
  obtain ⟨hx, hb, hr, hml, hown, hts0, hX, hbl, hlk, hgv⟩ := C0
  have hts : ∀ w ∈ nn_B, w.before #[Value.ref b] ss = true := fun w hw => hts0 w (List.mem_filter.mp hw).1
  have S : CallFix pp mm co code 4 ss #[Value.ref b] nn_B "NineNoonsLaw" := ⟨hx, hb, hml, hown, hts⟩
  have hbA : ¬ (fun q : Nat => ss.heap.size ≤ q) b := Nat.not_le.mpr hbl
  intro H locs ls hw hl
  unfold f_law_21 at hf
  refine lv_aload_n hx hb dL_law_766 rfl (lv_at hl 1 rfl) ?_
  refine lv_aload_n hx hb dL_law_767 rfl (lv_at hl 0 rfl) ?_
  refine lv_iload_n hx hb dL_law_768 rfl (lv_at hl 3 rfl) ?_
  refine lv_iconst (v := 1) hx hb dL_law_769 (by decide) ?_
  refine lv_iadd hx hb dL_law_770 ?_
  obtain ⟨g_1, hf⟩ := nn_ix_some hf
  refine va_sld hx hb hX hbl hbA hw.2.2 g_1 dL_law_771 ?_
  obtain ⟨q_2, h_3, hf⟩ := nn_bind hf
  refine nn_calliV S (As := [.int (xs (u3 + (1 : Int32)).toNatClampNeg)]) (rest := []) (ce_O (k := 0) (by decide)) (by decide) rfl rfl (c_X6_worst l D cy ad (fun q : Nat => ss.heap.size ≤ q) (c, m) c rfl (xs (u3 + (1 : Int32)).toNatClampNeg) q_2 h_3 (q_2.2, m) rfl) mv_X6_worst tb_3_33 hK hw ⟨by decide, by decide⟩ ⟨by decide, by decide⟩ rfl hl.1 rfl (Nat.le_of_ble_eq_true rfl) dL_law_772 (fun H locs hw => ?_)
  refine lv_aload_n hx hb dL_law_775 rfl (lv_at hl 2 rfl) ?_
  refine lv_aload_n hx hb dL_law_776 rfl (lv_at hl 0 rfl) ?_
  refine lv_iload_n hx hb dL_law_777 rfl (lv_at hl 3 rfl) ?_
  refine lv_iconst (v := 1) hx hb dL_law_778 (by decide) ?_
  refine lv_iadd hx hb dL_law_779 ?_
  obtain ⟨g_4, hf⟩ := nn_ix_some hf
  refine va_sld hx hb hX hbl hbA hw.2.2 g_4 dL_law_780 ?_
  obtain ⟨q_5, h_6, hf⟩ := nn_bind hf
  refine nn_calliV S (As := [.int (xs (u3 + (1 : Int32)).toNatClampNeg)]) (rest := [.int (q_2.1)]) (ce_M (k := 0)) (by decide) rfl rfl (c_X7_worst l D cy ad (fun q : Nat => ss.heap.size ≤ q) (q_2.2, m) m rfl (xs (u3 + (1 : Int32)).toNatClampNeg) q_5 h_6 (q_2.2, q_5.2) rfl) mv_X7_worst tb_4_194 hK hw ⟨by decide, by decide⟩ ⟨by decide, by decide⟩ rfl hl.1 rfl (Nat.le_of_ble_eq_true rfl) dL_law_781 (fun H locs hw => ?_)
  refine lv_icmp_eq (tgt := 1198) hx hb dL_law_784 (by decide) (fun c_7 => ?_) (fun c_7 => ?_)
  · rw [if_pos c_7] at hf
    exact hN q_2.2 q_5.2 hf _ _ _ hw hl
  · rw [if_neg c_7] at hf
    exact absurd hf (by decide)
set_option maxRecDepth 100000 in
set_option maxHeartbeats 4000000 in
theorem law_22 {pp : Program} {ee : Env} {ss : State} {mm : MethodId} {bb : List Frame} {me : Method} {co : Code} (l : Launch) {b L : Nat} {xs : Nat → Int32} (C0 : lw_At pp ss mm me co b L xs) {D : va_G} {cy : Nat → ClassId} {ad : Nat → Nat} (hK : nn_K D cy ss) (c : nCs) (m : nMd) (u3 : Int32) (NEXT : nCs → nMd → Option Int32) (hN : ∀ (c : nCs) (m : nMd), NEXT c m = some 1 → ∀ (H : Heap) (locs : List Loc) (ls : Array Slot), nn_W D cy ad (fun q : Nat => ss.heap.size ≤ q) ss.heap (c, m) H locs → lv_has ls 4 [(0, .ref b), (1, .ref (ad 118)), (2, .ref (ad 136)), (3, .int u3)] → W pp l ee room_1 ss mm #[Value.ref b] bb me co H locs 600000 7302250 (lw_Z bb #[Value.ref b] ss) (F0 mm 1198 ls [])) (hf : f_law_22 xs L c m u3 NEXT = some 1) : ∀ (H : Heap) (locs : List Loc) (ls : Array Slot), nn_W D cy ad (fun q : Nat => ss.heap.size ≤ q) ss.heap (c, m) H locs → lv_has ls 4 [(0, .ref b), (1, .ref (ad 118)), (2, .ref (ad 136)), (3, .int u3)] → W pp l ee room_1 ss mm #[Value.ref b] bb me co H locs 600000 7302250 (lw_Z bb #[Value.ref b] ss) (F0 mm 789 ls []) := by
  obtain ⟨hx, hb, hr, hml, hown, hts0, hX, hbl, hlk, hgv⟩ := C0
  have hts : ∀ w ∈ nn_B, w.before #[Value.ref b] ss = true := fun w hw => hts0 w (List.mem_filter.mp hw).1
  have S : CallFix pp mm co code 4 ss #[Value.ref b] nn_B "NineNoonsLaw" := ⟨hx, hb, hml, hown, hts⟩
  have hbA : ¬ (fun q : Nat => ss.heap.size ≤ q) b := Nat.not_le.mpr hbl
  intro H locs ls hw hl
  unfold f_law_22 at hf
  refine lv_aload_n hx hb dL_law_789 rfl (lv_at hl 1 rfl) ?_
  refine lv_aload_n hx hb dL_law_790 rfl (lv_at hl 0 rfl) ?_
  refine lv_iload_n hx hb dL_law_791 rfl (lv_at hl 3 rfl) ?_
  refine lv_iconst (v := 1) hx hb dL_law_792 (by decide) ?_
  refine lv_iadd hx hb dL_law_793 ?_
  obtain ⟨g_1, hf⟩ := nn_ix_some hf
  refine va_sld hx hb hX hbl hbA hw.2.2 g_1 dL_law_794 ?_
  refine lv_aload_n hx hb dL_law_795 rfl (lv_at hl 0 rfl) ?_
  refine lv_iload_n hx hb dL_law_796 rfl (lv_at hl 3 rfl) ?_
  refine lv_iconst (v := 2) hx hb dL_law_797 (by decide) ?_
  refine lv_iadd hx hb dL_law_798 ?_
  obtain ⟨g_2, hf⟩ := nn_ix_some hf
  refine va_sld hx hb hX hbl hbA hw.2.2 g_2 dL_law_799 ?_
  obtain ⟨q_3, h_4, hf⟩ := nn_bind hf
  refine nn_calliV S (As := [.int (xs (u3 + (1 : Int32)).toNatClampNeg), .int (xs (u3 + (2 : Int32)).toNatClampNeg)]) (rest := []) (ce_O (k := 0) (by decide)) (by decide) rfl rfl (c_X6_fog l D cy ad (fun q : Nat => ss.heap.size ≤ q) (c, m) c rfl (xs (u3 + (1 : Int32)).toNatClampNeg) (xs (u3 + (2 : Int32)).toNatClampNeg) q_3 h_4) mv_X6_fog tb_3_41 hK hw ⟨by decide, by decide⟩ ⟨by decide, by decide⟩ rfl hl.1 rfl (Nat.le_of_ble_eq_true rfl) dL_law_800 (fun H locs hw => ?_)
  refine lv_aload_n hx hb dL_law_803 rfl (lv_at hl 2 rfl) ?_
  refine lv_aload_n hx hb dL_law_804 rfl (lv_at hl 0 rfl) ?_
  refine lv_iload_n hx hb dL_law_805 rfl (lv_at hl 3 rfl) ?_
  refine lv_iconst (v := 1) hx hb dL_law_806 (by decide) ?_
  refine lv_iadd hx hb dL_law_807 ?_
  obtain ⟨g_5, hf⟩ := nn_ix_some hf
  refine va_sld hx hb hX hbl hbA hw.2.2 g_5 dL_law_808 ?_
  refine lv_aload_n hx hb dL_law_809 rfl (lv_at hl 0 rfl) ?_
  refine lv_iload_n hx hb dL_law_810 rfl (lv_at hl 3 rfl) ?_
  refine lv_iconst (v := 2) hx hb dL_law_811 (by decide) ?_
  refine lv_iadd hx hb dL_law_812 ?_
  obtain ⟨g_6, hf⟩ := nn_ix_some hf
  refine va_sld hx hb hX hbl hbA hw.2.2 g_6 dL_law_813 ?_
  obtain ⟨q_7, h_8, hf⟩ := nn_bind hf
  refine nn_calliV S (As := [.int (xs (u3 + (1 : Int32)).toNatClampNeg), .int (xs (u3 + (2 : Int32)).toNatClampNeg)]) (rest := [.int (q_3)]) (ce_M (k := 0)) (by decide) rfl rfl (c_X7_fog l D cy ad (fun q : Nat => ss.heap.size ≤ q) (c, m) m rfl (xs (u3 + (1 : Int32)).toNatClampNeg) (xs (u3 + (2 : Int32)).toNatClampNeg) q_7 h_8 (c, q_7.2) rfl) mv_X7_fog tb_4_198 hK hw ⟨by decide, by decide⟩ ⟨by decide, by decide⟩ rfl hl.1 rfl (Nat.le_of_ble_eq_true rfl) dL_law_814 (fun H locs hw => ?_)
  refine lv_icmp_eq (tgt := 1198) hx hb dL_law_817 (by decide) (fun c_9 => ?_) (fun c_9 => ?_)
  · rw [if_pos c_9] at hf
    exact hN c q_7.2 hf _ _ _ hw hl
  · rw [if_neg c_9] at hf
    exact absurd hf (by decide)
set_option maxRecDepth 100000 in
set_option maxHeartbeats 4000000 in
theorem law_23 {pp : Program} {ee : Env} {ss : State} {mm : MethodId} {bb : List Frame} {me : Method} {co : Code} (l : Launch) {b L : Nat} {xs : Nat → Int32} (C0 : lw_At pp ss mm me co b L xs) {D : va_G} {cy : Nat → ClassId} {ad : Nat → Nat} (hK : nn_K D cy ss) (c : nCs) (m : nMd) (u3 : Int32) (NEXT : nCs → nMd → Option Int32) (hN : ∀ (c : nCs) (m : nMd), NEXT c m = some 1 → ∀ (H : Heap) (locs : List Loc) (ls : Array Slot), nn_W D cy ad (fun q : Nat => ss.heap.size ≤ q) ss.heap (c, m) H locs → lv_has ls 4 [(0, .ref b), (1, .ref (ad 118)), (2, .ref (ad 136)), (3, .int u3)] → W pp l ee room_1 ss mm #[Value.ref b] bb me co H locs 600000 7302250 (lw_Z bb #[Value.ref b] ss) (F0 mm 1198 ls [])) (hf : f_law_23 xs L c m u3 NEXT = some 1) : ∀ (H : Heap) (locs : List Loc) (ls : Array Slot), nn_W D cy ad (fun q : Nat => ss.heap.size ≤ q) ss.heap (c, m) H locs → lv_has ls 4 [(0, .ref b), (1, .ref (ad 118)), (2, .ref (ad 136)), (3, .int u3)] → W pp l ee room_1 ss mm #[Value.ref b] bb me co H locs 600000 7302250 (lw_Z bb #[Value.ref b] ss) (F0 mm 822 ls []) := by
  obtain ⟨hx, hb, hr, hml, hown, hts0, hX, hbl, hlk, hgv⟩ := C0
  have hts : ∀ w ∈ nn_B, w.before #[Value.ref b] ss = true := fun w hw => hts0 w (List.mem_filter.mp hw).1
  have S : CallFix pp mm co code 4 ss #[Value.ref b] nn_B "NineNoonsLaw" := ⟨hx, hb, hml, hown, hts⟩
  have hbA : ¬ (fun q : Nat => ss.heap.size ≤ q) b := Nat.not_le.mpr hbl
  intro H locs ls hw hl
  unfold f_law_23 at hf
  refine lv_aload_n hx hb dL_law_822 rfl (lv_at hl 1 rfl) ?_
  obtain ⟨q_1, h_2, hf⟩ := nn_bind hf
  refine nn_calliV S (As := []) (rest := []) (ce_O (k := 0) (by decide)) (by decide) rfl rfl (c_X6_image l D cy ad (fun q : Nat => ss.heap.size ≤ q) (c, m) c rfl  q_1 h_2 (q_1.2, m) rfl) mv_X6_image tb_3_61 hK hw ⟨by decide, by decide⟩ ⟨by decide, by decide⟩ rfl hl.1 rfl (Nat.le_of_ble_eq_true rfl) dL_law_823 (fun H locs hw => ?_)
  refine lv_aload_n hx hb dL_law_826 rfl (lv_at hl 2 rfl) ?_
  obtain ⟨q_3, h_4, hf⟩ := nn_bind hf
  refine nn_calliV S (As := []) (rest := [.int (q_1.1)]) (ce_M (k := 0)) (by decide) rfl rfl (c_X7_image l D cy ad (fun q : Nat => ss.heap.size ≤ q) (q_1.2, m) m rfl  q_3 h_4 (q_1.2, q_3.2) rfl) mv_X7_image tb_4_203 hK hw ⟨by decide, by decide⟩ ⟨by decide, by decide⟩ rfl hl.1 rfl (Nat.le_of_ble_eq_true rfl) dL_law_827 (fun H locs hw => ?_)
  refine lv_icmp_eq (tgt := 1198) hx hb dL_law_830 (by decide) (fun c_5 => ?_) (fun c_5 => ?_)
  · rw [if_pos c_5] at hf
    exact hN q_1.2 q_3.2 hf _ _ _ hw hl
  · rw [if_neg c_5] at hf
    exact absurd hf (by decide)
set_option maxRecDepth 100000 in
set_option maxHeartbeats 4000000 in
theorem law_24 {pp : Program} {ee : Env} {ss : State} {mm : MethodId} {bb : List Frame} {me : Method} {co : Code} (l : Launch) {b L : Nat} {xs : Nat → Int32} (C0 : lw_At pp ss mm me co b L xs) {D : va_G} {cy : Nat → ClassId} {ad : Nat → Nat} (hK : nn_K D cy ss) (c : nCs) (m : nMd) (u3 : Int32) (NEXT : nCs → nMd → Option Int32) (hN : ∀ (c : nCs) (m : nMd), NEXT c m = some 1 → ∀ (H : Heap) (locs : List Loc) (ls : Array Slot), nn_W D cy ad (fun q : Nat => ss.heap.size ≤ q) ss.heap (c, m) H locs → lv_has ls 4 [(0, .ref b), (1, .ref (ad 118)), (2, .ref (ad 136)), (3, .int u3)] → W pp l ee room_1 ss mm #[Value.ref b] bb me co H locs 600000 7302250 (lw_Z bb #[Value.ref b] ss) (F0 mm 1198 ls [])) (hf : f_law_24 xs L c m u3 NEXT = some 1) : ∀ (H : Heap) (locs : List Loc) (ls : Array Slot), nn_W D cy ad (fun q : Nat => ss.heap.size ≤ q) ss.heap (c, m) H locs → lv_has ls 4 [(0, .ref b), (1, .ref (ad 118)), (2, .ref (ad 136)), (3, .int u3)] → W pp l ee room_1 ss mm #[Value.ref b] bb me co H locs 600000 7302250 (lw_Z bb #[Value.ref b] ss) (F0 mm 835 ls []) := by
  obtain ⟨hx, hb, hr, hml, hown, hts0, hX, hbl, hlk, hgv⟩ := C0
  have hts : ∀ w ∈ nn_B, w.before #[Value.ref b] ss = true := fun w hw => hts0 w (List.mem_filter.mp hw).1
  have S : CallFix pp mm co code 4 ss #[Value.ref b] nn_B "NineNoonsLaw" := ⟨hx, hb, hml, hown, hts⟩
  have hbA : ¬ (fun q : Nat => ss.heap.size ≤ q) b := Nat.not_le.mpr hbl
  intro H locs ls hw hl
  unfold f_law_24 at hf
  refine lv_aload_n hx hb dL_law_835 rfl (lv_at hl 1 rfl) ?_
  obtain ⟨q_1, h_2, hf⟩ := nn_bind hf
  refine nn_calliV S (As := []) (rest := []) (ce_O (k := 0) (by decide)) (by decide) rfl rfl (c_X6_restore l D cy ad (fun q : Nat => ss.heap.size ≤ q) (c, m) c rfl  q_1 h_2 (q_1.2, m) rfl) mv_X6_restore tb_3_69 hK hw ⟨by decide, by decide⟩ ⟨by decide, by decide⟩ rfl hl.1 rfl (Nat.le_of_ble_eq_true rfl) dL_law_836 (fun H locs hw => ?_)
  refine lv_aload_n hx hb dL_law_839 rfl (lv_at hl 2 rfl) ?_
  obtain ⟨q_3, h_4, hf⟩ := nn_bind hf
  refine nn_calliV S (As := []) (rest := [.int (q_1.1)]) (ce_M (k := 0)) (by decide) rfl rfl (c_X7_restore l D cy ad (fun q : Nat => ss.heap.size ≤ q) (q_1.2, m) m rfl  q_3 h_4 (q_1.2, q_3.2) rfl) mv_X7_restore tb_4_207 hK hw ⟨by decide, by decide⟩ ⟨by decide, by decide⟩ rfl hl.1 rfl (Nat.le_of_ble_eq_true rfl) dL_law_840 (fun H locs hw => ?_)
  refine lv_icmp_eq (tgt := 1198) hx hb dL_law_843 (by decide) (fun c_5 => ?_) (fun c_5 => ?_)
  · rw [if_pos c_5] at hf
    exact hN q_1.2 q_3.2 hf _ _ _ hw hl
  · rw [if_neg c_5] at hf
    exact absurd hf (by decide)
set_option maxRecDepth 100000 in
set_option maxHeartbeats 4000000 in
theorem law_25 {pp : Program} {ee : Env} {ss : State} {mm : MethodId} {bb : List Frame} {me : Method} {co : Code} (l : Launch) {b L : Nat} {xs : Nat → Int32} (C0 : lw_At pp ss mm me co b L xs) {D : va_G} {cy : Nat → ClassId} {ad : Nat → Nat} (hK : nn_K D cy ss) (c : nCs) (m : nMd) (u3 : Int32) (NEXT : nCs → nMd → Option Int32) (hN : ∀ (c : nCs) (m : nMd), NEXT c m = some 1 → ∀ (H : Heap) (locs : List Loc) (ls : Array Slot), nn_W D cy ad (fun q : Nat => ss.heap.size ≤ q) ss.heap (c, m) H locs → lv_has ls 4 [(0, .ref b), (1, .ref (ad 118)), (2, .ref (ad 136)), (3, .int u3)] → W pp l ee room_1 ss mm #[Value.ref b] bb me co H locs 600000 7302250 (lw_Z bb #[Value.ref b] ss) (F0 mm 1198 ls [])) (hf : f_law_25 xs L c m u3 NEXT = some 1) : ∀ (H : Heap) (locs : List Loc) (ls : Array Slot), nn_W D cy ad (fun q : Nat => ss.heap.size ≤ q) ss.heap (c, m) H locs → lv_has ls 4 [(0, .ref b), (1, .ref (ad 118)), (2, .ref (ad 136)), (3, .int u3)] → W pp l ee room_1 ss mm #[Value.ref b] bb me co H locs 600000 7302250 (lw_Z bb #[Value.ref b] ss) (F0 mm 848 ls []) := by
  obtain ⟨hx, hb, hr, hml, hown, hts0, hX, hbl, hlk, hgv⟩ := C0
  have hts : ∀ w ∈ nn_B, w.before #[Value.ref b] ss = true := fun w hw => hts0 w (List.mem_filter.mp hw).1
  have S : CallFix pp mm co code 4 ss #[Value.ref b] nn_B "NineNoonsLaw" := ⟨hx, hb, hml, hown, hts⟩
  have hbA : ¬ (fun q : Nat => ss.heap.size ≤ q) b := Nat.not_le.mpr hbl
  intro H locs ls hw hl
  unfold f_law_25 at hf
  refine lv_aload_n hx hb dL_law_848 rfl (lv_at hl 1 rfl) ?_
  refine lv_aload_n hx hb dL_law_849 rfl (lv_at hl 0 rfl) ?_
  refine lv_iload_n hx hb dL_law_850 rfl (lv_at hl 3 rfl) ?_
  refine lv_iconst (v := 1) hx hb dL_law_851 (by decide) ?_
  refine lv_iadd hx hb dL_law_852 ?_
  obtain ⟨g_1, hf⟩ := nn_ix_some hf
  refine va_sld hx hb hX hbl hbA hw.2.2 g_1 dL_law_853 ?_
  refine lv_aload_n hx hb dL_law_854 rfl (lv_at hl 0 rfl) ?_
  refine lv_iload_n hx hb dL_law_855 rfl (lv_at hl 3 rfl) ?_
  refine lv_iconst (v := 2) hx hb dL_law_856 (by decide) ?_
  refine lv_iadd hx hb dL_law_857 ?_
  obtain ⟨g_2, hf⟩ := nn_ix_some hf
  refine va_sld hx hb hX hbl hbA hw.2.2 g_2 dL_law_858 ?_
  refine lv_aload_n hx hb dL_law_859 rfl (lv_at hl 0 rfl) ?_
  refine lv_iload_n hx hb dL_law_860 rfl (lv_at hl 3 rfl) ?_
  refine lv_iconst (v := 3) hx hb dL_law_861 (by decide) ?_
  refine lv_iadd hx hb dL_law_862 ?_
  obtain ⟨g_3, hf⟩ := nn_ix_some hf
  refine va_sld hx hb hX hbl hbA hw.2.2 g_3 dL_law_863 ?_
  refine lv_aload_n hx hb dL_law_864 rfl (lv_at hl 0 rfl) ?_
  refine lv_iload_n hx hb dL_law_865 rfl (lv_at hl 3 rfl) ?_
  refine lv_iconst (v := 4) hx hb dL_law_866 (by decide) ?_
  refine lv_iadd hx hb dL_law_867 ?_
  obtain ⟨g_4, hf⟩ := nn_ix_some hf
  refine va_sld hx hb hX hbl hbA hw.2.2 g_4 dL_law_868 ?_
  refine lv_aload_n hx hb dL_law_869 rfl (lv_at hl 0 rfl) ?_
  refine lv_iload_n hx hb dL_law_870 rfl (lv_at hl 3 rfl) ?_
  refine lv_iconst (v := 5) hx hb dL_law_871 (by decide) ?_
  refine lv_iadd hx hb dL_law_872 ?_
  obtain ⟨g_5, hf⟩ := nn_ix_some hf
  refine va_sld hx hb hX hbl hbA hw.2.2 g_5 dL_law_873 ?_
  refine lv_aload_n hx hb dL_law_874 rfl (lv_at hl 0 rfl) ?_
  refine lv_iload_n hx hb dL_law_875 rfl (lv_at hl 3 rfl) ?_
  refine lv_bipush (v := 6) hx hb dL_law_876 (by decide) ?_
  refine lv_iadd hx hb dL_law_878 ?_
  obtain ⟨g_6, hf⟩ := nn_ix_some hf
  refine va_sld hx hb hX hbl hbA hw.2.2 g_6 dL_law_879 ?_
  obtain ⟨q_7, h_8, hf⟩ := nn_bind hf
  refine nn_calliV S (As := [.int (xs (u3 + (1 : Int32)).toNatClampNeg), .int (xs (u3 + (2 : Int32)).toNatClampNeg), .int (xs (u3 + (3 : Int32)).toNatClampNeg), .int (xs (u3 + (4 : Int32)).toNatClampNeg), .int (xs (u3 + (5 : Int32)).toNatClampNeg), .int (xs (u3 + (6 : Int32)).toNatClampNeg)]) (rest := []) (ce_O (k := 0) (by decide)) (by decide) rfl rfl (c_X6_heard l D cy ad (fun q : Nat => ss.heap.size ≤ q) (c, m) c rfl (xs (u3 + (1 : Int32)).toNatClampNeg) (xs (u3 + (2 : Int32)).toNatClampNeg) (xs (u3 + (3 : Int32)).toNatClampNeg) (xs (u3 + (4 : Int32)).toNatClampNeg) (xs (u3 + (5 : Int32)).toNatClampNeg) (xs (u3 + (6 : Int32)).toNatClampNeg) q_7 h_8 (q_7.2, m) rfl) mv_X6_heard tb_3_73 hK hw ⟨by decide, by decide⟩ ⟨by decide, by decide⟩ rfl hl.1 rfl (Nat.le_of_ble_eq_true rfl) dL_law_880 (fun H locs hw => ?_)
  refine lv_aload_n hx hb dL_law_883 rfl (lv_at hl 2 rfl) ?_
  refine lv_aload_n hx hb dL_law_884 rfl (lv_at hl 0 rfl) ?_
  refine lv_iload_n hx hb dL_law_885 rfl (lv_at hl 3 rfl) ?_
  refine lv_iconst (v := 1) hx hb dL_law_886 (by decide) ?_
  refine lv_iadd hx hb dL_law_887 ?_
  obtain ⟨g_9, hf⟩ := nn_ix_some hf
  refine va_sld hx hb hX hbl hbA hw.2.2 g_9 dL_law_888 ?_
  refine lv_aload_n hx hb dL_law_889 rfl (lv_at hl 0 rfl) ?_
  refine lv_iload_n hx hb dL_law_890 rfl (lv_at hl 3 rfl) ?_
  refine lv_iconst (v := 2) hx hb dL_law_891 (by decide) ?_
  refine lv_iadd hx hb dL_law_892 ?_
  obtain ⟨g_10, hf⟩ := nn_ix_some hf
  refine va_sld hx hb hX hbl hbA hw.2.2 g_10 dL_law_893 ?_
  refine lv_aload_n hx hb dL_law_894 rfl (lv_at hl 0 rfl) ?_
  refine lv_iload_n hx hb dL_law_895 rfl (lv_at hl 3 rfl) ?_
  refine lv_iconst (v := 3) hx hb dL_law_896 (by decide) ?_
  refine lv_iadd hx hb dL_law_897 ?_
  obtain ⟨g_11, hf⟩ := nn_ix_some hf
  refine va_sld hx hb hX hbl hbA hw.2.2 g_11 dL_law_898 ?_
  refine lv_aload_n hx hb dL_law_899 rfl (lv_at hl 0 rfl) ?_
  refine lv_iload_n hx hb dL_law_900 rfl (lv_at hl 3 rfl) ?_
  refine lv_iconst (v := 4) hx hb dL_law_901 (by decide) ?_
  refine lv_iadd hx hb dL_law_902 ?_
  obtain ⟨g_12, hf⟩ := nn_ix_some hf
  refine va_sld hx hb hX hbl hbA hw.2.2 g_12 dL_law_903 ?_
  refine lv_aload_n hx hb dL_law_904 rfl (lv_at hl 0 rfl) ?_
  refine lv_iload_n hx hb dL_law_905 rfl (lv_at hl 3 rfl) ?_
  refine lv_iconst (v := 5) hx hb dL_law_906 (by decide) ?_
  refine lv_iadd hx hb dL_law_907 ?_
  obtain ⟨g_13, hf⟩ := nn_ix_some hf
  refine va_sld hx hb hX hbl hbA hw.2.2 g_13 dL_law_908 ?_
  refine lv_aload_n hx hb dL_law_909 rfl (lv_at hl 0 rfl) ?_
  refine lv_iload_n hx hb dL_law_910 rfl (lv_at hl 3 rfl) ?_
  refine lv_bipush (v := 6) hx hb dL_law_911 (by decide) ?_
  refine lv_iadd hx hb dL_law_913 ?_
  obtain ⟨g_14, hf⟩ := nn_ix_some hf
  refine va_sld hx hb hX hbl hbA hw.2.2 g_14 dL_law_914 ?_
  obtain ⟨q_15, h_16, hf⟩ := nn_bind hf
  refine nn_calliV S (As := [.int (xs (u3 + (1 : Int32)).toNatClampNeg), .int (xs (u3 + (2 : Int32)).toNatClampNeg), .int (xs (u3 + (3 : Int32)).toNatClampNeg), .int (xs (u3 + (4 : Int32)).toNatClampNeg), .int (xs (u3 + (5 : Int32)).toNatClampNeg), .int (xs (u3 + (6 : Int32)).toNatClampNeg)]) (rest := [.int (q_7.1)]) (ce_M (k := 0)) (by decide) rfl rfl (c_X7_heard l D cy ad (fun q : Nat => ss.heap.size ≤ q) (q_7.2, m) m rfl (xs (u3 + (1 : Int32)).toNatClampNeg) (xs (u3 + (2 : Int32)).toNatClampNeg) (xs (u3 + (3 : Int32)).toNatClampNeg) (xs (u3 + (4 : Int32)).toNatClampNeg) (xs (u3 + (5 : Int32)).toNatClampNeg) (xs (u3 + (6 : Int32)).toNatClampNeg) q_15 h_16 (q_7.2, q_15.2) rfl) mv_X7_heard tb_4_211 hK hw ⟨by decide, by decide⟩ ⟨by decide, by decide⟩ rfl hl.1 rfl (Nat.le_of_ble_eq_true rfl) dL_law_915 (fun H locs hw => ?_)
  refine lv_icmp_eq (tgt := 1198) hx hb dL_law_918 (by decide) (fun c_17 => ?_) (fun c_17 => ?_)
  · rw [if_pos c_17] at hf
    exact hN q_7.2 q_15.2 hf _ _ _ hw hl
  · rw [if_neg c_17] at hf
    exact absurd hf (by decide)
set_option maxRecDepth 100000 in
set_option maxHeartbeats 4000000 in
theorem law_26 {pp : Program} {ee : Env} {ss : State} {mm : MethodId} {bb : List Frame} {me : Method} {co : Code} (l : Launch) {b L : Nat} {xs : Nat → Int32} (C0 : lw_At pp ss mm me co b L xs) {D : va_G} {cy : Nat → ClassId} {ad : Nat → Nat} (hK : nn_K D cy ss) (c : nCs) (m : nMd) (u3 : Int32) (NEXT : nCs → nMd → Option Int32) (hN : ∀ (c : nCs) (m : nMd), NEXT c m = some 1 → ∀ (H : Heap) (locs : List Loc) (ls : Array Slot), nn_W D cy ad (fun q : Nat => ss.heap.size ≤ q) ss.heap (c, m) H locs → lv_has ls 4 [(0, .ref b), (1, .ref (ad 118)), (2, .ref (ad 136)), (3, .int u3)] → W pp l ee room_1 ss mm #[Value.ref b] bb me co H locs 600000 7302250 (lw_Z bb #[Value.ref b] ss) (F0 mm 1198 ls [])) (hf : f_law_26 xs L c m u3 NEXT = some 1) : ∀ (H : Heap) (locs : List Loc) (ls : Array Slot), nn_W D cy ad (fun q : Nat => ss.heap.size ≤ q) ss.heap (c, m) H locs → lv_has ls 4 [(0, .ref b), (1, .ref (ad 118)), (2, .ref (ad 136)), (3, .int u3)] → W pp l ee room_1 ss mm #[Value.ref b] bb me co H locs 600000 7302250 (lw_Z bb #[Value.ref b] ss) (F0 mm 923 ls []) := by
  obtain ⟨hx, hb, hr, hml, hown, hts0, hX, hbl, hlk, hgv⟩ := C0
  have hts : ∀ w ∈ nn_B, w.before #[Value.ref b] ss = true := fun w hw => hts0 w (List.mem_filter.mp hw).1
  have S : CallFix pp mm co code 4 ss #[Value.ref b] nn_B "NineNoonsLaw" := ⟨hx, hb, hml, hown, hts⟩
  have hbA : ¬ (fun q : Nat => ss.heap.size ≤ q) b := Nat.not_le.mpr hbl
  intro H locs ls hw hl
  unfold f_law_26 at hf
  refine lv_aload_n hx hb dL_law_923 rfl (lv_at hl 1 rfl) ?_
  refine lv_aload_n hx hb dL_law_924 rfl (lv_at hl 0 rfl) ?_
  refine lv_iload_n hx hb dL_law_925 rfl (lv_at hl 3 rfl) ?_
  refine lv_iconst (v := 1) hx hb dL_law_926 (by decide) ?_
  refine lv_iadd hx hb dL_law_927 ?_
  obtain ⟨g_1, hf⟩ := nn_ix_some hf
  refine va_sld hx hb hX hbl hbA hw.2.2 g_1 dL_law_928 ?_
  refine lv_aload_n hx hb dL_law_929 rfl (lv_at hl 0 rfl) ?_
  refine lv_iload_n hx hb dL_law_930 rfl (lv_at hl 3 rfl) ?_
  refine lv_iconst (v := 2) hx hb dL_law_931 (by decide) ?_
  refine lv_iadd hx hb dL_law_932 ?_
  obtain ⟨g_2, hf⟩ := nn_ix_some hf
  refine va_sld hx hb hX hbl hbA hw.2.2 g_2 dL_law_933 ?_
  refine lv_aload_n hx hb dL_law_934 rfl (lv_at hl 0 rfl) ?_
  refine lv_iload_n hx hb dL_law_935 rfl (lv_at hl 3 rfl) ?_
  refine lv_iconst (v := 3) hx hb dL_law_936 (by decide) ?_
  refine lv_iadd hx hb dL_law_937 ?_
  obtain ⟨g_3, hf⟩ := nn_ix_some hf
  refine va_sld hx hb hX hbl hbA hw.2.2 g_3 dL_law_938 ?_
  refine lv_aload_n hx hb dL_law_939 rfl (lv_at hl 0 rfl) ?_
  refine lv_iload_n hx hb dL_law_940 rfl (lv_at hl 3 rfl) ?_
  refine lv_iconst (v := 4) hx hb dL_law_941 (by decide) ?_
  refine lv_iadd hx hb dL_law_942 ?_
  obtain ⟨g_4, hf⟩ := nn_ix_some hf
  refine va_sld hx hb hX hbl hbA hw.2.2 g_4 dL_law_943 ?_
  refine lv_aload_n hx hb dL_law_944 rfl (lv_at hl 0 rfl) ?_
  refine lv_iload_n hx hb dL_law_945 rfl (lv_at hl 3 rfl) ?_
  refine lv_iconst (v := 5) hx hb dL_law_946 (by decide) ?_
  refine lv_iadd hx hb dL_law_947 ?_
  obtain ⟨g_5, hf⟩ := nn_ix_some hf
  refine va_sld hx hb hX hbl hbA hw.2.2 g_5 dL_law_948 ?_
  obtain ⟨q_6, h_7, hf⟩ := nn_bind hf
  refine nn_calliV S (As := [.int (xs (u3 + (1 : Int32)).toNatClampNeg), .int (xs (u3 + (2 : Int32)).toNatClampNeg), .int (xs (u3 + (3 : Int32)).toNatClampNeg), .int (xs (u3 + (4 : Int32)).toNatClampNeg), .int (xs (u3 + (5 : Int32)).toNatClampNeg)]) (rest := []) (ce_O (k := 0) (by decide)) (by decide) rfl rfl (c_X6_film l D cy ad (fun q : Nat => ss.heap.size ≤ q) (c, m) c rfl (xs (u3 + (1 : Int32)).toNatClampNeg) (xs (u3 + (2 : Int32)).toNatClampNeg) (xs (u3 + (3 : Int32)).toNatClampNeg) (xs (u3 + (4 : Int32)).toNatClampNeg) (xs (u3 + (5 : Int32)).toNatClampNeg) q_6 h_7 (q_6.2, m) rfl) mv_X6_film tb_3_104 hK hw ⟨by decide, by decide⟩ ⟨by decide, by decide⟩ rfl hl.1 rfl (Nat.le_of_ble_eq_true rfl) dL_law_949 (fun H locs hw => ?_)
  refine lv_aload_n hx hb dL_law_952 rfl (lv_at hl 2 rfl) ?_
  refine lv_aload_n hx hb dL_law_953 rfl (lv_at hl 0 rfl) ?_
  refine lv_iload_n hx hb dL_law_954 rfl (lv_at hl 3 rfl) ?_
  refine lv_iconst (v := 1) hx hb dL_law_955 (by decide) ?_
  refine lv_iadd hx hb dL_law_956 ?_
  obtain ⟨g_8, hf⟩ := nn_ix_some hf
  refine va_sld hx hb hX hbl hbA hw.2.2 g_8 dL_law_957 ?_
  refine lv_aload_n hx hb dL_law_958 rfl (lv_at hl 0 rfl) ?_
  refine lv_iload_n hx hb dL_law_959 rfl (lv_at hl 3 rfl) ?_
  refine lv_iconst (v := 2) hx hb dL_law_960 (by decide) ?_
  refine lv_iadd hx hb dL_law_961 ?_
  obtain ⟨g_9, hf⟩ := nn_ix_some hf
  refine va_sld hx hb hX hbl hbA hw.2.2 g_9 dL_law_962 ?_
  refine lv_aload_n hx hb dL_law_963 rfl (lv_at hl 0 rfl) ?_
  refine lv_iload_n hx hb dL_law_964 rfl (lv_at hl 3 rfl) ?_
  refine lv_iconst (v := 3) hx hb dL_law_965 (by decide) ?_
  refine lv_iadd hx hb dL_law_966 ?_
  obtain ⟨g_10, hf⟩ := nn_ix_some hf
  refine va_sld hx hb hX hbl hbA hw.2.2 g_10 dL_law_967 ?_
  refine lv_aload_n hx hb dL_law_968 rfl (lv_at hl 0 rfl) ?_
  refine lv_iload_n hx hb dL_law_969 rfl (lv_at hl 3 rfl) ?_
  refine lv_iconst (v := 4) hx hb dL_law_970 (by decide) ?_
  refine lv_iadd hx hb dL_law_971 ?_
  obtain ⟨g_11, hf⟩ := nn_ix_some hf
  refine va_sld hx hb hX hbl hbA hw.2.2 g_11 dL_law_972 ?_
  refine lv_aload_n hx hb dL_law_973 rfl (lv_at hl 0 rfl) ?_
  refine lv_iload_n hx hb dL_law_974 rfl (lv_at hl 3 rfl) ?_
  refine lv_iconst (v := 5) hx hb dL_law_975 (by decide) ?_
  refine lv_iadd hx hb dL_law_976 ?_
  obtain ⟨g_12, hf⟩ := nn_ix_some hf
  refine va_sld hx hb hX hbl hbA hw.2.2 g_12 dL_law_977 ?_
  obtain ⟨q_13, h_14, hf⟩ := nn_bind hf
  refine nn_calliV S (As := [.int (xs (u3 + (1 : Int32)).toNatClampNeg), .int (xs (u3 + (2 : Int32)).toNatClampNeg), .int (xs (u3 + (3 : Int32)).toNatClampNeg), .int (xs (u3 + (4 : Int32)).toNatClampNeg), .int (xs (u3 + (5 : Int32)).toNatClampNeg)]) (rest := [.int (q_6.1)]) (ce_M (k := 0)) (by decide) rfl rfl (c_X7_film l D cy ad (fun q : Nat => ss.heap.size ≤ q) (q_6.2, m) m rfl (xs (u3 + (1 : Int32)).toNatClampNeg) (xs (u3 + (2 : Int32)).toNatClampNeg) (xs (u3 + (3 : Int32)).toNatClampNeg) (xs (u3 + (4 : Int32)).toNatClampNeg) (xs (u3 + (5 : Int32)).toNatClampNeg) q_13 h_14 (q_6.2, q_13.2) rfl) mv_X7_film tb_4_231 hK hw ⟨by decide, by decide⟩ ⟨by decide, by decide⟩ rfl hl.1 rfl (Nat.le_of_ble_eq_true rfl) dL_law_978 (fun H locs hw => ?_)
  refine lv_icmp_eq (tgt := 1198) hx hb dL_law_981 (by decide) (fun c_15 => ?_) (fun c_15 => ?_)
  · rw [if_pos c_15] at hf
    exact hN q_6.2 q_13.2 hf _ _ _ hw hl
  · rw [if_neg c_15] at hf
    exact absurd hf (by decide)
set_option maxRecDepth 100000 in
set_option maxHeartbeats 4000000 in
theorem law_27 {pp : Program} {ee : Env} {ss : State} {mm : MethodId} {bb : List Frame} {me : Method} {co : Code} (l : Launch) {b L : Nat} {xs : Nat → Int32} (C0 : lw_At pp ss mm me co b L xs) {D : va_G} {cy : Nat → ClassId} {ad : Nat → Nat} (hK : nn_K D cy ss) (c : nCs) (m : nMd) (u3 : Int32) (NEXT : nCs → nMd → Option Int32) (hN : ∀ (c : nCs) (m : nMd), NEXT c m = some 1 → ∀ (H : Heap) (locs : List Loc) (ls : Array Slot), nn_W D cy ad (fun q : Nat => ss.heap.size ≤ q) ss.heap (c, m) H locs → lv_has ls 4 [(0, .ref b), (1, .ref (ad 118)), (2, .ref (ad 136)), (3, .int u3)] → W pp l ee room_1 ss mm #[Value.ref b] bb me co H locs 600000 7302250 (lw_Z bb #[Value.ref b] ss) (F0 mm 1198 ls [])) (hf : f_law_27 xs L c m u3 NEXT = some 1) : ∀ (H : Heap) (locs : List Loc) (ls : Array Slot), nn_W D cy ad (fun q : Nat => ss.heap.size ≤ q) ss.heap (c, m) H locs → lv_has ls 4 [(0, .ref b), (1, .ref (ad 118)), (2, .ref (ad 136)), (3, .int u3)] → W pp l ee room_1 ss mm #[Value.ref b] bb me co H locs 600000 7302250 (lw_Z bb #[Value.ref b] ss) (F0 mm 986 ls []) := by
  obtain ⟨hx, hb, hr, hml, hown, hts0, hX, hbl, hlk, hgv⟩ := C0
  have hts : ∀ w ∈ nn_B, w.before #[Value.ref b] ss = true := fun w hw => hts0 w (List.mem_filter.mp hw).1
  have S : CallFix pp mm co code 4 ss #[Value.ref b] nn_B "NineNoonsLaw" := ⟨hx, hb, hml, hown, hts⟩
  have hbA : ¬ (fun q : Nat => ss.heap.size ≤ q) b := Nat.not_le.mpr hbl
  intro H locs ls hw hl
  unfold f_law_27 at hf
  refine lv_aload_n hx hb dL_law_986 rfl (lv_at hl 1 rfl) ?_
  refine lv_aload_n hx hb dL_law_987 rfl (lv_at hl 0 rfl) ?_
  refine lv_iload_n hx hb dL_law_988 rfl (lv_at hl 3 rfl) ?_
  refine lv_iconst (v := 1) hx hb dL_law_989 (by decide) ?_
  refine lv_iadd hx hb dL_law_990 ?_
  obtain ⟨g_1, hf⟩ := nn_ix_some hf
  refine va_sld hx hb hX hbl hbA hw.2.2 g_1 dL_law_991 ?_
  refine lv_aload_n hx hb dL_law_992 rfl (lv_at hl 0 rfl) ?_
  refine lv_iload_n hx hb dL_law_993 rfl (lv_at hl 3 rfl) ?_
  refine lv_iconst (v := 2) hx hb dL_law_994 (by decide) ?_
  refine lv_iadd hx hb dL_law_995 ?_
  obtain ⟨g_2, hf⟩ := nn_ix_some hf
  refine va_sld hx hb hX hbl hbA hw.2.2 g_2 dL_law_996 ?_
  refine lv_aload_n hx hb dL_law_997 rfl (lv_at hl 0 rfl) ?_
  refine lv_iload_n hx hb dL_law_998 rfl (lv_at hl 3 rfl) ?_
  refine lv_iconst (v := 3) hx hb dL_law_999 (by decide) ?_
  refine lv_iadd hx hb dL_law_1000 ?_
  obtain ⟨g_3, hf⟩ := nn_ix_some hf
  refine va_sld hx hb hX hbl hbA hw.2.2 g_3 dL_law_1001 ?_
  obtain ⟨q_4, h_5, hf⟩ := nn_bind hf
  refine nn_calliV S (As := [.int (xs (u3 + (1 : Int32)).toNatClampNeg), .int (xs (u3 + (2 : Int32)).toNatClampNeg), .int (xs (u3 + (3 : Int32)).toNatClampNeg)]) (rest := []) (ce_O (k := 0) (by decide)) (by decide) rfl rfl (c_X6_sheet l D cy ad (fun q : Nat => ss.heap.size ≤ q) (c, m) c rfl (xs (u3 + (1 : Int32)).toNatClampNeg) (xs (u3 + (2 : Int32)).toNatClampNeg) (xs (u3 + (3 : Int32)).toNatClampNeg) q_4 h_5 (q_4.2, m) rfl) mv_X6_sheet tb_3_112 hK hw ⟨by decide, by decide⟩ ⟨by decide, by decide⟩ rfl hl.1 rfl (Nat.le_of_ble_eq_true rfl) dL_law_1002 (fun H locs hw => ?_)
  refine lv_aload_n hx hb dL_law_1005 rfl (lv_at hl 2 rfl) ?_
  refine lv_aload_n hx hb dL_law_1006 rfl (lv_at hl 0 rfl) ?_
  refine lv_iload_n hx hb dL_law_1007 rfl (lv_at hl 3 rfl) ?_
  refine lv_iconst (v := 1) hx hb dL_law_1008 (by decide) ?_
  refine lv_iadd hx hb dL_law_1009 ?_
  obtain ⟨g_6, hf⟩ := nn_ix_some hf
  refine va_sld hx hb hX hbl hbA hw.2.2 g_6 dL_law_1010 ?_
  refine lv_aload_n hx hb dL_law_1011 rfl (lv_at hl 0 rfl) ?_
  refine lv_iload_n hx hb dL_law_1012 rfl (lv_at hl 3 rfl) ?_
  refine lv_iconst (v := 2) hx hb dL_law_1013 (by decide) ?_
  refine lv_iadd hx hb dL_law_1014 ?_
  obtain ⟨g_7, hf⟩ := nn_ix_some hf
  refine va_sld hx hb hX hbl hbA hw.2.2 g_7 dL_law_1015 ?_
  refine lv_aload_n hx hb dL_law_1016 rfl (lv_at hl 0 rfl) ?_
  refine lv_iload_n hx hb dL_law_1017 rfl (lv_at hl 3 rfl) ?_
  refine lv_iconst (v := 3) hx hb dL_law_1018 (by decide) ?_
  refine lv_iadd hx hb dL_law_1019 ?_
  obtain ⟨g_8, hf⟩ := nn_ix_some hf
  refine va_sld hx hb hX hbl hbA hw.2.2 g_8 dL_law_1020 ?_
  obtain ⟨q_9, h_10, hf⟩ := nn_bind hf
  refine nn_calliV S (As := [.int (xs (u3 + (1 : Int32)).toNatClampNeg), .int (xs (u3 + (2 : Int32)).toNatClampNeg), .int (xs (u3 + (3 : Int32)).toNatClampNeg)]) (rest := [.int (q_4.1)]) (ce_M (k := 0)) (by decide) rfl rfl (c_X7_sheet l D cy ad (fun q : Nat => ss.heap.size ≤ q) (q_4.2, m) m rfl (xs (u3 + (1 : Int32)).toNatClampNeg) (xs (u3 + (2 : Int32)).toNatClampNeg) (xs (u3 + (3 : Int32)).toNatClampNeg) q_9 h_10 (q_4.2, q_9.2) rfl) mv_X7_sheet tb_4_236 hK hw ⟨by decide, by decide⟩ ⟨by decide, by decide⟩ rfl hl.1 rfl (Nat.le_of_ble_eq_true rfl) dL_law_1021 (fun H locs hw => ?_)
  refine lv_icmp_eq (tgt := 1198) hx hb dL_law_1024 (by decide) (fun c_11 => ?_) (fun c_11 => ?_)
  · rw [if_pos c_11] at hf
    exact hN q_4.2 q_9.2 hf _ _ _ hw hl
  · rw [if_neg c_11] at hf
    exact absurd hf (by decide)
set_option maxRecDepth 100000 in
set_option maxHeartbeats 4000000 in
theorem law_28 {pp : Program} {ee : Env} {ss : State} {mm : MethodId} {bb : List Frame} {me : Method} {co : Code} (l : Launch) {b L : Nat} {xs : Nat → Int32} (C0 : lw_At pp ss mm me co b L xs) {D : va_G} {cy : Nat → ClassId} {ad : Nat → Nat} (hK : nn_K D cy ss) (c : nCs) (m : nMd) (u3 : Int32) (NEXT : nCs → nMd → Option Int32) (hN : ∀ (c : nCs) (m : nMd), NEXT c m = some 1 → ∀ (H : Heap) (locs : List Loc) (ls : Array Slot), nn_W D cy ad (fun q : Nat => ss.heap.size ≤ q) ss.heap (c, m) H locs → lv_has ls 4 [(0, .ref b), (1, .ref (ad 118)), (2, .ref (ad 136)), (3, .int u3)] → W pp l ee room_1 ss mm #[Value.ref b] bb me co H locs 600000 7302250 (lw_Z bb #[Value.ref b] ss) (F0 mm 1198 ls [])) (hf : f_law_28 xs L c m u3 NEXT = some 1) : ∀ (H : Heap) (locs : List Loc) (ls : Array Slot), nn_W D cy ad (fun q : Nat => ss.heap.size ≤ q) ss.heap (c, m) H locs → lv_has ls 4 [(0, .ref b), (1, .ref (ad 118)), (2, .ref (ad 136)), (3, .int u3)] → W pp l ee room_1 ss mm #[Value.ref b] bb me co H locs 600000 7302250 (lw_Z bb #[Value.ref b] ss) (F0 mm 1029 ls []) := by
  obtain ⟨hx, hb, hr, hml, hown, hts0, hX, hbl, hlk, hgv⟩ := C0
  have hts : ∀ w ∈ nn_B, w.before #[Value.ref b] ss = true := fun w hw => hts0 w (List.mem_filter.mp hw).1
  have S : CallFix pp mm co code 4 ss #[Value.ref b] nn_B "NineNoonsLaw" := ⟨hx, hb, hml, hown, hts⟩
  have hbA : ¬ (fun q : Nat => ss.heap.size ≤ q) b := Nat.not_le.mpr hbl
  intro H locs ls hw hl
  unfold f_law_28 at hf
  refine lv_aload_n hx hb dL_law_1029 rfl (lv_at hl 1 rfl) ?_
  refine lv_aload_n hx hb dL_law_1030 rfl (lv_at hl 0 rfl) ?_
  refine lv_iload_n hx hb dL_law_1031 rfl (lv_at hl 3 rfl) ?_
  refine lv_iconst (v := 1) hx hb dL_law_1032 (by decide) ?_
  refine lv_iadd hx hb dL_law_1033 ?_
  obtain ⟨g_1, hf⟩ := nn_ix_some hf
  refine va_sld hx hb hX hbl hbA hw.2.2 g_1 dL_law_1034 ?_
  obtain ⟨q_2, h_3, hf⟩ := nn_bind hf
  refine nn_calliV S (As := [.int (xs (u3 + (1 : Int32)).toNatClampNeg)]) (rest := []) (ce_O (k := 0) (by decide)) (by decide) rfl rfl (c_X6_drop l D cy ad (fun q : Nat => ss.heap.size ≤ q) (c, m) c rfl (xs (u3 + (1 : Int32)).toNatClampNeg) q_2 h_3 (q_2.2, m) rfl) mv_X6_drop tb_3_120 hK hw ⟨by decide, by decide⟩ ⟨by decide, by decide⟩ rfl hl.1 rfl (Nat.le_of_ble_eq_true rfl) dL_law_1035 (fun H locs hw => ?_)
  refine lv_aload_n hx hb dL_law_1038 rfl (lv_at hl 2 rfl) ?_
  refine lv_aload_n hx hb dL_law_1039 rfl (lv_at hl 0 rfl) ?_
  refine lv_iload_n hx hb dL_law_1040 rfl (lv_at hl 3 rfl) ?_
  refine lv_iconst (v := 1) hx hb dL_law_1041 (by decide) ?_
  refine lv_iadd hx hb dL_law_1042 ?_
  obtain ⟨g_4, hf⟩ := nn_ix_some hf
  refine va_sld hx hb hX hbl hbA hw.2.2 g_4 dL_law_1043 ?_
  obtain ⟨q_5, h_6, hf⟩ := nn_bind hf
  refine nn_calliV S (As := [.int (xs (u3 + (1 : Int32)).toNatClampNeg)]) (rest := [.int (q_2.1)]) (ce_M (k := 0)) (by decide) rfl rfl (c_X7_drop l D cy ad (fun q : Nat => ss.heap.size ≤ q) (q_2.2, m) m rfl (xs (u3 + (1 : Int32)).toNatClampNeg) q_5 h_6 (q_2.2, q_5.2) rfl) mv_X7_drop tb_5_0 hK hw ⟨by decide, by decide⟩ ⟨by decide, by decide⟩ rfl hl.1 rfl (Nat.le_of_ble_eq_true rfl) dL_law_1044 (fun H locs hw => ?_)
  refine lv_icmp_eq (tgt := 1198) hx hb dL_law_1047 (by decide) (fun c_7 => ?_) (fun c_7 => ?_)
  · rw [if_pos c_7] at hf
    exact hN q_2.2 q_5.2 hf _ _ _ hw hl
  · rw [if_neg c_7] at hf
    exact absurd hf (by decide)
set_option maxRecDepth 100000 in
set_option maxHeartbeats 4000000 in
theorem law_29 {pp : Program} {ee : Env} {ss : State} {mm : MethodId} {bb : List Frame} {me : Method} {co : Code} (l : Launch) {b L : Nat} {xs : Nat → Int32} (C0 : lw_At pp ss mm me co b L xs) {D : va_G} {cy : Nat → ClassId} {ad : Nat → Nat} (hK : nn_K D cy ss) (c : nCs) (m : nMd) (u3 : Int32) (NEXT : nCs → nMd → Option Int32) (hN : ∀ (c : nCs) (m : nMd), NEXT c m = some 1 → ∀ (H : Heap) (locs : List Loc) (ls : Array Slot), nn_W D cy ad (fun q : Nat => ss.heap.size ≤ q) ss.heap (c, m) H locs → lv_has ls 4 [(0, .ref b), (1, .ref (ad 118)), (2, .ref (ad 136)), (3, .int u3)] → W pp l ee room_1 ss mm #[Value.ref b] bb me co H locs 600000 7302250 (lw_Z bb #[Value.ref b] ss) (F0 mm 1198 ls [])) (hf : f_law_29 xs L c m u3 NEXT = some 1) : ∀ (H : Heap) (locs : List Loc) (ls : Array Slot), nn_W D cy ad (fun q : Nat => ss.heap.size ≤ q) ss.heap (c, m) H locs → lv_has ls 4 [(0, .ref b), (1, .ref (ad 118)), (2, .ref (ad 136)), (3, .int u3)] → W pp l ee room_1 ss mm #[Value.ref b] bb me co H locs 600000 7302250 (lw_Z bb #[Value.ref b] ss) (F0 mm 1052 ls []) := by
  obtain ⟨hx, hb, hr, hml, hown, hts0, hX, hbl, hlk, hgv⟩ := C0
  have hts : ∀ w ∈ nn_B, w.before #[Value.ref b] ss = true := fun w hw => hts0 w (List.mem_filter.mp hw).1
  have S : CallFix pp mm co code 4 ss #[Value.ref b] nn_B "NineNoonsLaw" := ⟨hx, hb, hml, hown, hts⟩
  have hbA : ¬ (fun q : Nat => ss.heap.size ≤ q) b := Nat.not_le.mpr hbl
  intro H locs ls hw hl
  unfold f_law_29 at hf
  refine lv_aload_n hx hb dL_law_1052 rfl (lv_at hl 1 rfl) ?_
  refine lv_aload_n hx hb dL_law_1053 rfl (lv_at hl 0 rfl) ?_
  refine lv_iload_n hx hb dL_law_1054 rfl (lv_at hl 3 rfl) ?_
  refine lv_iconst (v := 1) hx hb dL_law_1055 (by decide) ?_
  refine lv_iadd hx hb dL_law_1056 ?_
  obtain ⟨g_1, hf⟩ := nn_ix_some hf
  refine va_sld hx hb hX hbl hbA hw.2.2 g_1 dL_law_1057 ?_
  refine lv_aload_n hx hb dL_law_1058 rfl (lv_at hl 0 rfl) ?_
  refine lv_iload_n hx hb dL_law_1059 rfl (lv_at hl 3 rfl) ?_
  refine lv_iconst (v := 2) hx hb dL_law_1060 (by decide) ?_
  refine lv_iadd hx hb dL_law_1061 ?_
  obtain ⟨g_2, hf⟩ := nn_ix_some hf
  refine va_sld hx hb hX hbl hbA hw.2.2 g_2 dL_law_1062 ?_
  refine lv_aload_n hx hb dL_law_1063 rfl (lv_at hl 0 rfl) ?_
  refine lv_iload_n hx hb dL_law_1064 rfl (lv_at hl 3 rfl) ?_
  refine lv_iconst (v := 3) hx hb dL_law_1065 (by decide) ?_
  refine lv_iadd hx hb dL_law_1066 ?_
  obtain ⟨g_3, hf⟩ := nn_ix_some hf
  refine va_sld hx hb hX hbl hbA hw.2.2 g_3 dL_law_1067 ?_
  refine lv_aload_n hx hb dL_law_1068 rfl (lv_at hl 0 rfl) ?_
  refine lv_iload_n hx hb dL_law_1069 rfl (lv_at hl 3 rfl) ?_
  refine lv_iconst (v := 4) hx hb dL_law_1070 (by decide) ?_
  refine lv_iadd hx hb dL_law_1071 ?_
  obtain ⟨g_4, hf⟩ := nn_ix_some hf
  refine va_sld hx hb hX hbl hbA hw.2.2 g_4 dL_law_1072 ?_
  refine lv_i2l (v := (xs (u3 + (4 : Int32)).toNatClampNeg).toInt64) hx hb dL_law_1073 rfl ?_
  refine lv_bipush (v := 32) hx hb dL_law_1074 (by decide) ?_
  refine lv_lshl (v := ((xs (u3 + (4 : Int32)).toNatClampNeg).toInt64) <<< ((32 : Int32).toInt64 &&& 63)) hx hb dL_law_1076 rfl ?_
  refine lv_aload_n hx hb dL_law_1077 rfl (lv_at hl 0 rfl) ?_
  refine lv_iload_n hx hb dL_law_1078 rfl (lv_at hl 3 rfl) ?_
  refine lv_iconst (v := 5) hx hb dL_law_1079 (by decide) ?_
  refine lv_iadd hx hb dL_law_1080 ?_
  obtain ⟨g_5, hf⟩ := nn_ix_some hf
  refine va_sld hx hb hX hbl hbA hw.2.2 g_5 dL_law_1081 ?_
  refine lv_i2l (v := (xs (u3 + (5 : Int32)).toNatClampNeg).toInt64) hx hb dL_law_1082 rfl ?_
  refine lv_ldc2 (v := 4294967295) hx hb S.2.2.2.1 (S.2.2.2.2 _ tb_5_12) dL_law_1083 ?_
  refine lv_land hx hb dL_law_1086 ?_
  refine lv_lor hx hb dL_law_1087 ?_
  obtain ⟨q_6, h_7, hf⟩ := nn_bind hf
  refine nn_calliV S (As := [.int (xs (u3 + (1 : Int32)).toNatClampNeg), .int (xs (u3 + (2 : Int32)).toNatClampNeg), .int (xs (u3 + (3 : Int32)).toNatClampNeg), .long ((((xs (u3 + (4 : Int32)).toNatClampNeg).toInt64) <<< ((32 : Int32).toInt64 &&& 63)) ||| (((xs (u3 + (5 : Int32)).toNatClampNeg).toInt64) &&& (4294967295 : Int64)))]) (rest := []) (ce_O (k := 0) (by decide)) (by decide) rfl rfl (c_X6_item l D cy ad (fun q : Nat => ss.heap.size ≤ q) (c, m) c rfl (xs (u3 + (1 : Int32)).toNatClampNeg) (xs (u3 + (2 : Int32)).toNatClampNeg) (xs (u3 + (3 : Int32)).toNatClampNeg) ((((xs (u3 + (4 : Int32)).toNatClampNeg).toInt64) <<< ((32 : Int32).toInt64 &&& 63)) ||| (((xs (u3 + (5 : Int32)).toNatClampNeg).toInt64) &&& (4294967295 : Int64))) q_6 h_7 (q_6.2, m) rfl) mv_X6_item tb_3_129 hK hw ⟨by decide, by decide⟩ ⟨by decide, by decide⟩ rfl hl.1 rfl (Nat.le_of_ble_eq_true rfl) dL_law_1088 (fun H locs hw => ?_)
  refine lv_aload_n hx hb dL_law_1091 rfl (lv_at hl 2 rfl) ?_
  refine lv_aload_n hx hb dL_law_1092 rfl (lv_at hl 0 rfl) ?_
  refine lv_iload_n hx hb dL_law_1093 rfl (lv_at hl 3 rfl) ?_
  refine lv_iconst (v := 1) hx hb dL_law_1094 (by decide) ?_
  refine lv_iadd hx hb dL_law_1095 ?_
  obtain ⟨g_8, hf⟩ := nn_ix_some hf
  refine va_sld hx hb hX hbl hbA hw.2.2 g_8 dL_law_1096 ?_
  refine lv_aload_n hx hb dL_law_1097 rfl (lv_at hl 0 rfl) ?_
  refine lv_iload_n hx hb dL_law_1098 rfl (lv_at hl 3 rfl) ?_
  refine lv_iconst (v := 2) hx hb dL_law_1099 (by decide) ?_
  refine lv_iadd hx hb dL_law_1100 ?_
  obtain ⟨g_9, hf⟩ := nn_ix_some hf
  refine va_sld hx hb hX hbl hbA hw.2.2 g_9 dL_law_1101 ?_
  refine lv_aload_n hx hb dL_law_1102 rfl (lv_at hl 0 rfl) ?_
  refine lv_iload_n hx hb dL_law_1103 rfl (lv_at hl 3 rfl) ?_
  refine lv_iconst (v := 3) hx hb dL_law_1104 (by decide) ?_
  refine lv_iadd hx hb dL_law_1105 ?_
  obtain ⟨g_10, hf⟩ := nn_ix_some hf
  refine va_sld hx hb hX hbl hbA hw.2.2 g_10 dL_law_1106 ?_
  refine lv_aload_n hx hb dL_law_1107 rfl (lv_at hl 0 rfl) ?_
  refine lv_iload_n hx hb dL_law_1108 rfl (lv_at hl 3 rfl) ?_
  refine lv_iconst (v := 4) hx hb dL_law_1109 (by decide) ?_
  refine lv_iadd hx hb dL_law_1110 ?_
  obtain ⟨g_11, hf⟩ := nn_ix_some hf
  refine va_sld hx hb hX hbl hbA hw.2.2 g_11 dL_law_1111 ?_
  refine lv_i2l (v := (xs (u3 + (4 : Int32)).toNatClampNeg).toInt64) hx hb dL_law_1112 rfl ?_
  refine lv_bipush (v := 32) hx hb dL_law_1113 (by decide) ?_
  refine lv_lshl (v := ((xs (u3 + (4 : Int32)).toNatClampNeg).toInt64) <<< ((32 : Int32).toInt64 &&& 63)) hx hb dL_law_1115 rfl ?_
  refine lv_aload_n hx hb dL_law_1116 rfl (lv_at hl 0 rfl) ?_
  refine lv_iload_n hx hb dL_law_1117 rfl (lv_at hl 3 rfl) ?_
  refine lv_iconst (v := 5) hx hb dL_law_1118 (by decide) ?_
  refine lv_iadd hx hb dL_law_1119 ?_
  obtain ⟨g_12, hf⟩ := nn_ix_some hf
  refine va_sld hx hb hX hbl hbA hw.2.2 g_12 dL_law_1120 ?_
  refine lv_i2l (v := (xs (u3 + (5 : Int32)).toNatClampNeg).toInt64) hx hb dL_law_1121 rfl ?_
  refine lv_ldc2 (v := 4294967295) hx hb S.2.2.2.1 (S.2.2.2.2 _ tb_5_12) dL_law_1122 ?_
  refine lv_land hx hb dL_law_1125 ?_
  refine lv_lor hx hb dL_law_1126 ?_
  obtain ⟨q_13, h_14, hf⟩ := nn_bind hf
  refine nn_calliV S (As := [.int (xs (u3 + (1 : Int32)).toNatClampNeg), .int (xs (u3 + (2 : Int32)).toNatClampNeg), .int (xs (u3 + (3 : Int32)).toNatClampNeg), .long ((((xs (u3 + (4 : Int32)).toNatClampNeg).toInt64) <<< ((32 : Int32).toInt64 &&& 63)) ||| (((xs (u3 + (5 : Int32)).toNatClampNeg).toInt64) &&& (4294967295 : Int64)))]) (rest := [.int (q_6.1)]) (ce_M (k := 0)) (by decide) rfl rfl (c_X7_item l D cy ad (fun q : Nat => ss.heap.size ≤ q) (q_6.2, m) m rfl (xs (u3 + (1 : Int32)).toNatClampNeg) (xs (u3 + (2 : Int32)).toNatClampNeg) (xs (u3 + (3 : Int32)).toNatClampNeg) ((((xs (u3 + (4 : Int32)).toNatClampNeg).toInt64) <<< ((32 : Int32).toInt64 &&& 63)) ||| (((xs (u3 + (5 : Int32)).toNatClampNeg).toInt64) &&& (4294967295 : Int64))) q_13 h_14 (q_6.2, q_13.2) rfl) mv_X7_item tb_5_4 hK hw ⟨by decide, by decide⟩ ⟨by decide, by decide⟩ rfl hl.1 rfl (Nat.le_of_ble_eq_true rfl) dL_law_1127 (fun H locs hw => ?_)
  refine lv_icmp_eq (tgt := 1198) hx hb dL_law_1130 (by decide) (fun c_15 => ?_) (fun c_15 => ?_)
  · rw [if_pos c_15] at hf
    exact hN q_6.2 q_13.2 hf _ _ _ hw hl
  · rw [if_neg c_15] at hf
    exact absurd hf (by decide)
set_option maxRecDepth 100000 in
set_option maxHeartbeats 4000000 in
theorem law_30 {pp : Program} {ee : Env} {ss : State} {mm : MethodId} {bb : List Frame} {me : Method} {co : Code} (l : Launch) {b L : Nat} {xs : Nat → Int32} (C0 : lw_At pp ss mm me co b L xs) {D : va_G} {cy : Nat → ClassId} {ad : Nat → Nat} (hK : nn_K D cy ss) (c : nCs) (m : nMd) (u3 : Int32) (NEXT : nCs → nMd → Option Int32) (hN : ∀ (c : nCs) (m : nMd), NEXT c m = some 1 → ∀ (H : Heap) (locs : List Loc) (ls : Array Slot), nn_W D cy ad (fun q : Nat => ss.heap.size ≤ q) ss.heap (c, m) H locs → lv_has ls 4 [(0, .ref b), (1, .ref (ad 118)), (2, .ref (ad 136)), (3, .int u3)] → W pp l ee room_1 ss mm #[Value.ref b] bb me co H locs 600000 7302250 (lw_Z bb #[Value.ref b] ss) (F0 mm 1198 ls [])) (hf : f_law_30 xs L c m u3 NEXT = some 1) : ∀ (H : Heap) (locs : List Loc) (ls : Array Slot), nn_W D cy ad (fun q : Nat => ss.heap.size ≤ q) ss.heap (c, m) H locs → lv_has ls 4 [(0, .ref b), (1, .ref (ad 118)), (2, .ref (ad 136)), (3, .int u3)] → W pp l ee room_1 ss mm #[Value.ref b] bb me co H locs 600000 7302250 (lw_Z bb #[Value.ref b] ss) (F0 mm 1135 ls []) := by
  obtain ⟨hx, hb, hr, hml, hown, hts0, hX, hbl, hlk, hgv⟩ := C0
  have hts : ∀ w ∈ nn_B, w.before #[Value.ref b] ss = true := fun w hw => hts0 w (List.mem_filter.mp hw).1
  have S : CallFix pp mm co code 4 ss #[Value.ref b] nn_B "NineNoonsLaw" := ⟨hx, hb, hml, hown, hts⟩
  have hbA : ¬ (fun q : Nat => ss.heap.size ≤ q) b := Nat.not_le.mpr hbl
  intro H locs ls hw hl
  unfold f_law_30 at hf
  refine lv_aload_n hx hb dL_law_1135 rfl (lv_at hl 1 rfl) ?_
  refine lv_aload_n hx hb dL_law_1136 rfl (lv_at hl 0 rfl) ?_
  refine lv_iload_n hx hb dL_law_1137 rfl (lv_at hl 3 rfl) ?_
  refine lv_iconst (v := 1) hx hb dL_law_1138 (by decide) ?_
  refine lv_iadd hx hb dL_law_1139 ?_
  obtain ⟨g_1, hf⟩ := nn_ix_some hf
  refine va_sld hx hb hX hbl hbA hw.2.2 g_1 dL_law_1140 ?_
  refine lv_aload_n hx hb dL_law_1141 rfl (lv_at hl 0 rfl) ?_
  refine lv_iload_n hx hb dL_law_1142 rfl (lv_at hl 3 rfl) ?_
  refine lv_iconst (v := 2) hx hb dL_law_1143 (by decide) ?_
  refine lv_iadd hx hb dL_law_1144 ?_
  obtain ⟨g_2, hf⟩ := nn_ix_some hf
  refine va_sld hx hb hX hbl hbA hw.2.2 g_2 dL_law_1145 ?_
  refine lv_aload_n hx hb dL_law_1146 rfl (lv_at hl 0 rfl) ?_
  refine lv_iload_n hx hb dL_law_1147 rfl (lv_at hl 3 rfl) ?_
  refine lv_iconst (v := 3) hx hb dL_law_1148 (by decide) ?_
  refine lv_iadd hx hb dL_law_1149 ?_
  obtain ⟨g_3, hf⟩ := nn_ix_some hf
  refine va_sld hx hb hX hbl hbA hw.2.2 g_3 dL_law_1150 ?_
  refine lv_aload_n hx hb dL_law_1151 rfl (lv_at hl 0 rfl) ?_
  refine lv_iload_n hx hb dL_law_1152 rfl (lv_at hl 3 rfl) ?_
  refine lv_iconst (v := 4) hx hb dL_law_1153 (by decide) ?_
  refine lv_iadd hx hb dL_law_1154 ?_
  obtain ⟨g_4, hf⟩ := nn_ix_some hf
  refine va_sld hx hb hX hbl hbA hw.2.2 g_4 dL_law_1155 ?_
  refine lv_aload_n hx hb dL_law_1156 rfl (lv_at hl 0 rfl) ?_
  refine lv_iload_n hx hb dL_law_1157 rfl (lv_at hl 3 rfl) ?_
  refine lv_iconst (v := 5) hx hb dL_law_1158 (by decide) ?_
  refine lv_iadd hx hb dL_law_1159 ?_
  obtain ⟨g_5, hf⟩ := nn_ix_some hf
  refine va_sld hx hb hX hbl hbA hw.2.2 g_5 dL_law_1160 ?_
  obtain ⟨q_6, h_7, hf⟩ := nn_bind hf
  refine nn_calliV S (As := [.int (xs (u3 + (1 : Int32)).toNatClampNeg), .int (xs (u3 + (2 : Int32)).toNatClampNeg), .int (xs (u3 + (3 : Int32)).toNatClampNeg), .int (xs (u3 + (4 : Int32)).toNatClampNeg), .int (xs (u3 + (5 : Int32)).toNatClampNeg)]) (rest := []) (ce_O (k := 0) (by decide)) (by decide) rfl rfl (c_X6_copy l D cy ad (fun q : Nat => ss.heap.size ≤ q) (c, m) c rfl (xs (u3 + (1 : Int32)).toNatClampNeg) (xs (u3 + (2 : Int32)).toNatClampNeg) (xs (u3 + (3 : Int32)).toNatClampNeg) (xs (u3 + (4 : Int32)).toNatClampNeg) (xs (u3 + (5 : Int32)).toNatClampNeg) q_6 h_7 (q_6.2, m) rfl) mv_X6_copy tb_3_133 hK hw ⟨by decide, by decide⟩ ⟨by decide, by decide⟩ rfl hl.1 rfl (Nat.le_of_ble_eq_true rfl) dL_law_1161 (fun H locs hw => ?_)
  refine lv_aload_n hx hb dL_law_1164 rfl (lv_at hl 2 rfl) ?_
  refine lv_aload_n hx hb dL_law_1165 rfl (lv_at hl 0 rfl) ?_
  refine lv_iload_n hx hb dL_law_1166 rfl (lv_at hl 3 rfl) ?_
  refine lv_iconst (v := 1) hx hb dL_law_1167 (by decide) ?_
  refine lv_iadd hx hb dL_law_1168 ?_
  obtain ⟨g_8, hf⟩ := nn_ix_some hf
  refine va_sld hx hb hX hbl hbA hw.2.2 g_8 dL_law_1169 ?_
  refine lv_aload_n hx hb dL_law_1170 rfl (lv_at hl 0 rfl) ?_
  refine lv_iload_n hx hb dL_law_1171 rfl (lv_at hl 3 rfl) ?_
  refine lv_iconst (v := 2) hx hb dL_law_1172 (by decide) ?_
  refine lv_iadd hx hb dL_law_1173 ?_
  obtain ⟨g_9, hf⟩ := nn_ix_some hf
  refine va_sld hx hb hX hbl hbA hw.2.2 g_9 dL_law_1174 ?_
  refine lv_aload_n hx hb dL_law_1175 rfl (lv_at hl 0 rfl) ?_
  refine lv_iload_n hx hb dL_law_1176 rfl (lv_at hl 3 rfl) ?_
  refine lv_iconst (v := 3) hx hb dL_law_1177 (by decide) ?_
  refine lv_iadd hx hb dL_law_1178 ?_
  obtain ⟨g_10, hf⟩ := nn_ix_some hf
  refine va_sld hx hb hX hbl hbA hw.2.2 g_10 dL_law_1179 ?_
  refine lv_aload_n hx hb dL_law_1180 rfl (lv_at hl 0 rfl) ?_
  refine lv_iload_n hx hb dL_law_1181 rfl (lv_at hl 3 rfl) ?_
  refine lv_iconst (v := 4) hx hb dL_law_1182 (by decide) ?_
  refine lv_iadd hx hb dL_law_1183 ?_
  obtain ⟨g_11, hf⟩ := nn_ix_some hf
  refine va_sld hx hb hX hbl hbA hw.2.2 g_11 dL_law_1184 ?_
  refine lv_aload_n hx hb dL_law_1185 rfl (lv_at hl 0 rfl) ?_
  refine lv_iload_n hx hb dL_law_1186 rfl (lv_at hl 3 rfl) ?_
  refine lv_iconst (v := 5) hx hb dL_law_1187 (by decide) ?_
  refine lv_iadd hx hb dL_law_1188 ?_
  obtain ⟨g_12, hf⟩ := nn_ix_some hf
  refine va_sld hx hb hX hbl hbA hw.2.2 g_12 dL_law_1189 ?_
  obtain ⟨q_13, h_14, hf⟩ := nn_bind hf
  refine nn_calliV S (As := [.int (xs (u3 + (1 : Int32)).toNatClampNeg), .int (xs (u3 + (2 : Int32)).toNatClampNeg), .int (xs (u3 + (3 : Int32)).toNatClampNeg), .int (xs (u3 + (4 : Int32)).toNatClampNeg), .int (xs (u3 + (5 : Int32)).toNatClampNeg)]) (rest := [.int (q_6.1)]) (ce_M (k := 0)) (by decide) rfl rfl (c_X7_copy l D cy ad (fun q : Nat => ss.heap.size ≤ q) (q_6.2, m) m rfl (xs (u3 + (1 : Int32)).toNatClampNeg) (xs (u3 + (2 : Int32)).toNatClampNeg) (xs (u3 + (3 : Int32)).toNatClampNeg) (xs (u3 + (4 : Int32)).toNatClampNeg) (xs (u3 + (5 : Int32)).toNatClampNeg) q_13 h_14 (q_6.2, q_13.2) rfl) mv_X7_copy tb_5_8 hK hw ⟨by decide, by decide⟩ ⟨by decide, by decide⟩ rfl hl.1 rfl (Nat.le_of_ble_eq_true rfl) dL_law_1190 (fun H locs hw => ?_)
  refine lv_icmp_eq (tgt := 1198) hx hb dL_law_1193 (by decide) (fun c_15 => ?_) (fun c_15 => ?_)
  · rw [if_pos c_15] at hf
    exact hN q_6.2 q_13.2 hf _ _ _ hw hl
  · rw [if_neg c_15] at hf
    exact absurd hf (by decide)
set_option maxRecDepth 100000 in
set_option maxHeartbeats 4000000 in
theorem law_loop {pp : Program} {ee : Env} {ss : State} {mm : MethodId} {bb : List Frame} {me : Method} {co : Code} (l : Launch) {b L : Nat} {xs : Nat → Int32} (C0 : lw_At pp ss mm me co b L xs) {D : va_G} {cy : Nat → ClassId} {ad : Nat → Nat} (hK : nn_K D cy ss) : ∀ (n : Nat) (c : nCs) (m : nMd) (u3 : Int32), f_law_L xs L n c m u3 = some 1 → ∀ (H : Heap) (locs : List Loc) (ls : Array Slot), nn_W D cy ad (fun q : Nat => ss.heap.size ≤ q) ss.heap (c, m) H locs → lv_has ls 4 [(0, .ref b), (1, .ref (ad 118)), (2, .ref (ad 136)), (3, .int u3)] → W pp l ee room_1 ss mm #[Value.ref b] bb me co H locs 600000 7302250 (lw_Z bb #[Value.ref b] ss) (F0 mm 18 ls []) := by
  have C1 := C0
  obtain ⟨hx, hb, hr, hml, hown, hts0, hX, hbl, hlk, hgv⟩ := C0
  have hts : ∀ w ∈ nn_B, w.before #[Value.ref b] ss = true := fun w hw => hts0 w (List.mem_filter.mp hw).1
  have S : CallFix pp mm co code 4 ss #[Value.ref b] nn_B "NineNoonsLaw" := ⟨hx, hb, hml, hown, hts⟩
  have hbA : ¬ (fun q : Nat => ss.heap.size ≤ q) b := Nat.not_le.mpr hbl
  intro n
  induction n with
  | zero => intro c m u3 hf; exact absurd hf (by simp [f_law_L])
  | succ n ih =>
    intro c m u3 hf H locs ls hw hl
    rw [f_law_L] at hf
    refine lv_iload_n hx hb dL_law_18 rfl (lv_at hl 3 rfl) ?_
    refine lv_aload_n hx hb dL_law_19 rfl (lv_at hl 0 rfl) ?_
    refine va_slen hx hb hX hbl hbA hw.2.2 dL_law_20 ?_
    refine lv_bipush (v := 7) hx hb dL_law_21 (by decide) ?_
    refine lv_isub hx hb dL_law_23 ?_
    refine lv_icmp_gt (tgt := 1204) hx hb dL_law_24 (by decide) (fun c_1 => ?_) (fun c_1 => ?_)
    · refine lv_iconst (v := 1) hx hb dL_law_1204 (by decide) ?_
      refine va_forget (fun q hq => hw.2.2.2.2 q hq) ?_
      exact lw_ret hx hb hr hlk dL_law_1205
    · rw [if_neg c_1] at hf
      obtain ⟨g_1, hf⟩ := nn_ix_some hf
      refine lv_aload_n hx hb dL_law_27 rfl (lv_at hl 0 rfl) ?_
      refine lv_iload_n hx hb dL_law_28 rfl (lv_at hl 3 rfl) ?_
      refine va_sld hx hb hX hbl hbA hw.2.2 g_1 dL_law_29 ?_
      refine lv_bipush (v := 31) hx hb dL_law_30 (by decide) ?_
      refine lv_iand hx hb dL_law_32 ?_
      have hN : ∀ (c : nCs) (m : nMd), f_law_L xs L n c m (u3 + (7 : Int32)) = some 1 → ∀ (H : Heap) (locs : List Loc) (ls : Array Slot), nn_W D cy ad (fun q : Nat => ss.heap.size ≤ q) ss.heap (c, m) H locs → lv_has ls 4 [(0, .ref b), (1, .ref (ad 118)), (2, .ref (ad 136)), (3, .int u3)] → W pp l ee room_1 ss mm #[Value.ref b] bb me co H locs 600000 7302250 (lw_Z bb #[Value.ref b] ss) (F0 mm 1198 ls []) := by
        intro c m hf H locs ls hw hl
        refine lv_iinc (v := u3 + (7 : Int32)) (lv' := [(3, .int (u3 + (7 : Int32))), (0, .ref b), (1, .ref (ad 118)), (2, .ref (ad 136))]) hx hb dL_law_1198 hl (k := 3) rfl (congrArg (fun z => u3 + z) (by decide)) (by decide) rfl (fun ls hl => ?_)
        refine lv_goto (tgt := 18) hx hb dL_law_1201 (by decide) ?_
        exact ih c m (u3 + (7 : Int32)) hf _ _ _ hw (lv_sub hl [1, 2, 3, 0] rfl)
      by_cases d_0 : ((xs u3.toNatClampNeg) &&& (31 : Int32)) = (0 : Int32)
      · rw [if_pos d_0] at hf
        refine lv_tableIn (tgt := 172) hx hb dL_law_33 (by rw [d_0]; decide) (by rw [d_0]; decide) (by rw [d_0]; rfl) (by decide) ?_
        exact law_0 l C1 hK c m u3 _ hN hf _ _ _ hw hl
      rw [if_neg d_0] at hf
      by_cases d_1 : ((xs u3.toNatClampNeg) &&& (31 : Int32)) = (1 : Int32)
      · rw [if_pos d_1] at hf
        refine lv_tableIn (tgt := 215) hx hb dL_law_33 (by rw [d_1]; decide) (by rw [d_1]; decide) (by rw [d_1]; rfl) (by decide) ?_
        exact law_1 l C1 hK c m u3 _ hN hf _ _ _ hw hl
      rw [if_neg d_1] at hf
      by_cases d_2 : ((xs u3.toNatClampNeg) &&& (31 : Int32)) = (2 : Int32)
      · rw [if_pos d_2] at hf
        refine lv_tableIn (tgt := 248) hx hb dL_law_33 (by rw [d_2]; decide) (by rw [d_2]; decide) (by rw [d_2]; rfl) (by decide) ?_
        exact law_2 l C1 hK c m u3 _ hN hf _ _ _ hw hl
      rw [if_neg d_2] at hf
      by_cases d_3 : ((xs u3.toNatClampNeg) &&& (31 : Int32)) = (3 : Int32)
      · rw [if_pos d_3] at hf
        refine lv_tableIn (tgt := 281) hx hb dL_law_33 (by rw [d_3]; decide) (by rw [d_3]; decide) (by rw [d_3]; rfl) (by decide) ?_
        exact law_3 l C1 hK c m u3 _ hN hf _ _ _ hw hl
      rw [if_neg d_3] at hf
      by_cases d_4 : ((xs u3.toNatClampNeg) &&& (31 : Int32)) = (4 : Int32)
      · rw [if_pos d_4] at hf
        refine lv_tableIn (tgt := 304) hx hb dL_law_33 (by rw [d_4]; decide) (by rw [d_4]; decide) (by rw [d_4]; rfl) (by decide) ?_
        exact law_4 l C1 hK c m u3 _ hN hf _ _ _ hw hl
      rw [if_neg d_4] at hf
      by_cases d_5 : ((xs u3.toNatClampNeg) &&& (31 : Int32)) = (5 : Int32)
      · rw [if_pos d_5] at hf
        refine lv_tableIn (tgt := 317) hx hb dL_law_33 (by rw [d_5]; decide) (by rw [d_5]; decide) (by rw [d_5]; rfl) (by decide) ?_
        exact law_5 l C1 hK c m u3 _ hN hf _ _ _ hw hl
      rw [if_neg d_5] at hf
      by_cases d_6 : ((xs u3.toNatClampNeg) &&& (31 : Int32)) = (6 : Int32)
      · rw [if_pos d_6] at hf
        refine lv_tableIn (tgt := 340) hx hb dL_law_33 (by rw [d_6]; decide) (by rw [d_6]; decide) (by rw [d_6]; rfl) (by decide) ?_
        exact law_6 l C1 hK c m u3 _ hN hf _ _ _ hw hl
      rw [if_neg d_6] at hf
      by_cases d_7 : ((xs u3.toNatClampNeg) &&& (31 : Int32)) = (7 : Int32)
      · rw [if_pos d_7] at hf
        refine lv_tableIn (tgt := 363) hx hb dL_law_33 (by rw [d_7]; decide) (by rw [d_7]; decide) (by rw [d_7]; rfl) (by decide) ?_
        exact law_7 l C1 hK c m u3 _ hN hf _ _ _ hw hl
      rw [if_neg d_7] at hf
      by_cases d_8 : ((xs u3.toNatClampNeg) &&& (31 : Int32)) = (8 : Int32)
      · rw [if_pos d_8] at hf
        refine lv_tableIn (tgt := 396) hx hb dL_law_33 (by rw [d_8]; decide) (by rw [d_8]; decide) (by rw [d_8]; rfl) (by decide) ?_
        exact law_8 l C1 hK c m u3 _ hN hf _ _ _ hw hl
      rw [if_neg d_8] at hf
      by_cases d_9 : ((xs u3.toNatClampNeg) &&& (31 : Int32)) = (9 : Int32)
      · rw [if_pos d_9] at hf
        refine lv_tableIn (tgt := 429) hx hb dL_law_33 (by rw [d_9]; decide) (by rw [d_9]; decide) (by rw [d_9]; rfl) (by decide) ?_
        exact law_9 l C1 hK c m u3 _ hN hf _ _ _ hw hl
      rw [if_neg d_9] at hf
      by_cases d_10 : ((xs u3.toNatClampNeg) &&& (31 : Int32)) = (10 : Int32)
      · rw [if_pos d_10] at hf
        refine lv_tableIn (tgt := 462) hx hb dL_law_33 (by rw [d_10]; decide) (by rw [d_10]; decide) (by rw [d_10]; rfl) (by decide) ?_
        exact law_10 l C1 hK c m u3 _ hN hf _ _ _ hw hl
      rw [if_neg d_10] at hf
      by_cases d_11 : ((xs u3.toNatClampNeg) &&& (31 : Int32)) = (11 : Int32)
      · rw [if_pos d_11] at hf
        refine lv_tableIn (tgt := 485) hx hb dL_law_33 (by rw [d_11]; decide) (by rw [d_11]; decide) (by rw [d_11]; rfl) (by decide) ?_
        exact law_11 l C1 hK c m u3 _ hN hf _ _ _ hw hl
      rw [if_neg d_11] at hf
      by_cases d_12 : ((xs u3.toNatClampNeg) &&& (31 : Int32)) = (12 : Int32)
      · rw [if_pos d_12] at hf
        refine lv_tableIn (tgt := 498) hx hb dL_law_33 (by rw [d_12]; decide) (by rw [d_12]; decide) (by rw [d_12]; rfl) (by decide) ?_
        exact law_12 l C1 hK c m u3 _ hN hf _ _ _ hw hl
      rw [if_neg d_12] at hf
      by_cases d_13 : ((xs u3.toNatClampNeg) &&& (31 : Int32)) = (13 : Int32)
      · rw [if_pos d_13] at hf
        refine lv_tableIn (tgt := 521) hx hb dL_law_33 (by rw [d_13]; decide) (by rw [d_13]; decide) (by rw [d_13]; rfl) (by decide) ?_
        exact law_13 l C1 hK c m u3 _ hN hf _ _ _ hw hl
      rw [if_neg d_13] at hf
      by_cases d_14 : ((xs u3.toNatClampNeg) &&& (31 : Int32)) = (14 : Int32)
      · rw [if_pos d_14] at hf
        refine lv_tableIn (tgt := 554) hx hb dL_law_33 (by rw [d_14]; decide) (by rw [d_14]; decide) (by rw [d_14]; rfl) (by decide) ?_
        exact law_14 l C1 hK c m u3 _ hN hf _ _ _ hw hl
      rw [if_neg d_14] at hf
      by_cases d_15 : ((xs u3.toNatClampNeg) &&& (31 : Int32)) = (15 : Int32)
      · rw [if_pos d_15] at hf
        refine lv_tableIn (tgt := 577) hx hb dL_law_33 (by rw [d_15]; decide) (by rw [d_15]; decide) (by rw [d_15]; rfl) (by decide) ?_
        exact law_15 l C1 hK c m u3 _ hN hf _ _ _ hw hl
      rw [if_neg d_15] at hf
      by_cases d_16 : ((xs u3.toNatClampNeg) &&& (31 : Int32)) = (16 : Int32)
      · rw [if_pos d_16] at hf
        refine lv_tableIn (tgt := 610) hx hb dL_law_33 (by rw [d_16]; decide) (by rw [d_16]; decide) (by rw [d_16]; rfl) (by decide) ?_
        exact law_16 l C1 hK c m u3 _ hN hf _ _ _ hw hl
      rw [if_neg d_16] at hf
      by_cases d_17 : ((xs u3.toNatClampNeg) &&& (31 : Int32)) = (17 : Int32)
      · rw [if_pos d_17] at hf
        refine lv_tableIn (tgt := 633) hx hb dL_law_33 (by rw [d_17]; decide) (by rw [d_17]; decide) (by rw [d_17]; rfl) (by decide) ?_
        exact law_17 l C1 hK c m u3 _ hN hf _ _ _ hw hl
      rw [if_neg d_17] at hf
      by_cases d_18 : ((xs u3.toNatClampNeg) &&& (31 : Int32)) = (18 : Int32)
      · rw [if_pos d_18] at hf
        refine lv_tableIn (tgt := 666) hx hb dL_law_33 (by rw [d_18]; decide) (by rw [d_18]; decide) (by rw [d_18]; rfl) (by decide) ?_
        exact law_18 l C1 hK c m u3 _ hN hf _ _ _ hw hl
      rw [if_neg d_18] at hf
      by_cases d_19 : ((xs u3.toNatClampNeg) &&& (31 : Int32)) = (19 : Int32)
      · rw [if_pos d_19] at hf
        refine lv_tableIn (tgt := 700) hx hb dL_law_33 (by rw [d_19]; decide) (by rw [d_19]; decide) (by rw [d_19]; rfl) (by decide) ?_
        exact law_19 l C1 hK c m u3 _ hN hf _ _ _ hw hl
      rw [if_neg d_19] at hf
      by_cases d_20 : ((xs u3.toNatClampNeg) &&& (31 : Int32)) = (20 : Int32)
      · rw [if_pos d_20] at hf
        refine lv_tableIn (tgt := 753) hx hb dL_law_33 (by rw [d_20]; decide) (by rw [d_20]; decide) (by rw [d_20]; rfl) (by decide) ?_
        exact law_20 l C1 hK c m u3 _ hN hf _ _ _ hw hl
      rw [if_neg d_20] at hf
      by_cases d_21 : ((xs u3.toNatClampNeg) &&& (31 : Int32)) = (21 : Int32)
      · rw [if_pos d_21] at hf
        refine lv_tableIn (tgt := 766) hx hb dL_law_33 (by rw [d_21]; decide) (by rw [d_21]; decide) (by rw [d_21]; rfl) (by decide) ?_
        exact law_21 l C1 hK c m u3 _ hN hf _ _ _ hw hl
      rw [if_neg d_21] at hf
      by_cases d_22 : ((xs u3.toNatClampNeg) &&& (31 : Int32)) = (22 : Int32)
      · rw [if_pos d_22] at hf
        refine lv_tableIn (tgt := 789) hx hb dL_law_33 (by rw [d_22]; decide) (by rw [d_22]; decide) (by rw [d_22]; rfl) (by decide) ?_
        exact law_22 l C1 hK c m u3 _ hN hf _ _ _ hw hl
      rw [if_neg d_22] at hf
      by_cases d_23 : ((xs u3.toNatClampNeg) &&& (31 : Int32)) = (23 : Int32)
      · rw [if_pos d_23] at hf
        refine lv_tableIn (tgt := 822) hx hb dL_law_33 (by rw [d_23]; decide) (by rw [d_23]; decide) (by rw [d_23]; rfl) (by decide) ?_
        exact law_23 l C1 hK c m u3 _ hN hf _ _ _ hw hl
      rw [if_neg d_23] at hf
      by_cases d_24 : ((xs u3.toNatClampNeg) &&& (31 : Int32)) = (24 : Int32)
      · rw [if_pos d_24] at hf
        refine lv_tableIn (tgt := 835) hx hb dL_law_33 (by rw [d_24]; decide) (by rw [d_24]; decide) (by rw [d_24]; rfl) (by decide) ?_
        exact law_24 l C1 hK c m u3 _ hN hf _ _ _ hw hl
      rw [if_neg d_24] at hf
      by_cases d_25 : ((xs u3.toNatClampNeg) &&& (31 : Int32)) = (25 : Int32)
      · rw [if_pos d_25] at hf
        refine lv_tableIn (tgt := 848) hx hb dL_law_33 (by rw [d_25]; decide) (by rw [d_25]; decide) (by rw [d_25]; rfl) (by decide) ?_
        exact law_25 l C1 hK c m u3 _ hN hf _ _ _ hw hl
      rw [if_neg d_25] at hf
      by_cases d_26 : ((xs u3.toNatClampNeg) &&& (31 : Int32)) = (26 : Int32)
      · rw [if_pos d_26] at hf
        refine lv_tableIn (tgt := 923) hx hb dL_law_33 (by rw [d_26]; decide) (by rw [d_26]; decide) (by rw [d_26]; rfl) (by decide) ?_
        exact law_26 l C1 hK c m u3 _ hN hf _ _ _ hw hl
      rw [if_neg d_26] at hf
      by_cases d_27 : ((xs u3.toNatClampNeg) &&& (31 : Int32)) = (27 : Int32)
      · rw [if_pos d_27] at hf
        refine lv_tableIn (tgt := 986) hx hb dL_law_33 (by rw [d_27]; decide) (by rw [d_27]; decide) (by rw [d_27]; rfl) (by decide) ?_
        exact law_27 l C1 hK c m u3 _ hN hf _ _ _ hw hl
      rw [if_neg d_27] at hf
      by_cases d_28 : ((xs u3.toNatClampNeg) &&& (31 : Int32)) = (28 : Int32)
      · rw [if_pos d_28] at hf
        refine lv_tableIn (tgt := 1029) hx hb dL_law_33 (by rw [d_28]; decide) (by rw [d_28]; decide) (by rw [d_28]; rfl) (by decide) ?_
        exact law_28 l C1 hK c m u3 _ hN hf _ _ _ hw hl
      rw [if_neg d_28] at hf
      by_cases d_29 : ((xs u3.toNatClampNeg) &&& (31 : Int32)) = (29 : Int32)
      · rw [if_pos d_29] at hf
        refine lv_tableIn (tgt := 1052) hx hb dL_law_33 (by rw [d_29]; decide) (by rw [d_29]; decide) (by rw [d_29]; rfl) (by decide) ?_
        exact law_29 l C1 hK c m u3 _ hN hf _ _ _ hw hl
      rw [if_neg d_29] at hf
      by_cases d_30 : ((xs u3.toNatClampNeg) &&& (31 : Int32)) = (30 : Int32)
      · rw [if_pos d_30] at hf
        refine lv_tableIn (tgt := 1135) hx hb dL_law_33 (by rw [d_30]; decide) (by rw [d_30]; decide) (by rw [d_30]; rfl) (by decide) ?_
        exact law_30 l C1 hK c m u3 _ hN hf _ _ _ hw hl
      rw [if_neg d_30] at hf
      refine lv_tableOut (tgt := 1198) hx hb dL_law_33 (nn_swout 30 (by decide) (fun k hk => by have h9 : k = 0 ∨ k = 1 ∨ k = 2 ∨ k = 3 ∨ k = 4 ∨ k = 5 ∨ k = 6 ∨ k = 7 ∨ k = 8 ∨ k = 9 ∨ k = 10 ∨ k = 11 ∨ k = 12 ∨ k = 13 ∨ k = 14 ∨ k = 15 ∨ k = 16 ∨ k = 17 ∨ k = 18 ∨ k = 19 ∨ k = 20 ∨ k = 21 ∨ k = 22 ∨ k = 23 ∨ k = 24 ∨ k = 25 ∨ k = 26 ∨ k = 27 ∨ k = 28 ∨ k = 29 ∨ k = 30 := (by omega); rcases h9 with rfl | rfl | rfl | rfl | rfl | rfl | rfl | rfl | rfl | rfl | rfl | rfl | rfl | rfl | rfl | rfl | rfl | rfl | rfl | rfl | rfl | rfl | rfl | rfl | rfl | rfl | rfl | rfl | rfl | rfl | rfl <;> assumption)) (by decide) ?_
      exact hN c m hf _ _ _ hw hl
