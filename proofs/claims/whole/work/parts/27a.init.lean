/-! objects are made: rows for the constructors -/
def ni_K (D : va_G) (cy : Nat → ClassId) (U : State) : Prop := nn_K D cy U ∧ va_AO "NineNoons$Valley" U ∧ va_AO "NineNoons$Sheet" U
def ni_W (D : va_G) (A : Nat → Prop) (H0 : Heap) (ws : va_W) (H : Heap) (locs : List Loc) : Prop := va_P D vwCl ws H ∧ va_D A ws ∧ va_S A H0 H locs
theorem ni_W.eq {D : va_G} {A : Nat → Prop} {H0 H : Heap} {ws ws' : va_W} {locs : List Loc} (h : ws = ws') (hw : ni_W D A H0 ws H locs) : ni_W D A H0 ws' H locs := h ▸ hw
theorem ni_set {α : Type} (y x : α) (R : List α) : ∀ P : List α, (P ++ x :: R).set P.length y = P ++ y :: R := by
  intro P
  induction P with
  | nil => rfl
  | cons a P ih =>
    show a :: (P ++ x :: R).set P.length y = a :: (P ++ y :: R)
    rw [ih]
theorem ni_mid {α : Type} (x : α) (R : List α) : ∀ P : List α, (P ++ x :: R)[P.length]? = some x := by
  intro P
  induction P with
  | nil => rfl
  | cons a P ih => exact ih
theorem ni_cI {D : va_G} {cy : Nat → ClassId} {U : State} {cA : ClassId} (hK : nn_K D cy U) (h : va_K D vwCl (nn_t cy ++ [(cA, .int)]) U) : cA = cy 0 := Option.some.inj ((h.2 5 _ rfl).2.symm.trans (hK.1.2 0 _ rfl).2)
theorem ni_cC {D : va_G} {cy : Nat → ClassId} {U : State} {cA : ClassId} (hK : nn_K D cy U) (h : va_K D vwCl (nn_t cy ++ [(cA, .char)]) U) : cA = cy 1 := Option.some.inj ((h.2 5 _ rfl).2.symm.trans (hK.1.2 1 _ rfl).2)
theorem ni_cL {D : va_G} {cy : Nat → ClassId} {U : State} {cA : ClassId} (hK : nn_K D cy U) (h : va_K D vwCl (nn_t cy ++ [(cA, .long)]) U) : cA = cy 2 := Option.some.inj ((h.2 5 _ rfl).2.symm.trans (hK.1.2 2 _ rfl).2)
theorem ni_cS {D : va_G} {cy : Nat → ClassId} {U : State} {cA : ClassId} (hK : nn_K D cy U) (h : va_K D vwCl (nn_t cy ++ [(cA, .object "NineNoons$Sheet")]) U) : cA = cy 3 := by
  obtain ⟨_, _, _, _, _, h1⟩ := (h.2 5 _ rfl).2
  obtain ⟨_, _, _, _, _, h2⟩ := (hK.1.2 3 _ rfl).2
  exact Option.some.inj (h1.symm.trans h2)
theorem ni_cV {D : va_G} {cy : Nat → ClassId} {U : State} {cA : ClassId} (hK : nn_K D cy U) (h : va_K D vwCl (nn_t cy ++ [(cA, .object "NineNoons$Valley")]) U) : cA = cy 4 := by
  obtain ⟨_, _, _, _, _, h1⟩ := (h.2 5 _ rfl).2
  obtain ⟨_, _, _, _, _, h2⟩ := (hK.1.2 4 _ rfl).2
  exact Option.some.inj (h1.symm.trans h2)
abbrev ni_Pre (D : va_G) (cy : Nat → ClassId) (h0 : Nat) (e0 : va_E) (sz : Nat) : State → Prop := fun U => U.heap.size = sz ∧ ni_K D cy U ∧ va_P D vwCl [(h0, e0)] U.heap
abbrev ni_qv {S : Type} (D : va_G) (h0 : Nat) (e0 : va_E) (sz : Nat) (w : S → va_W) : Array Value → State → Outcome → State → Prop := va_Qv (fun (_ : S) => True) (fun u t => va_P D vwCl (w u) t.heap ∧ va_D (va_A [(h0, e0)] sz) (w u)) (va_A [(h0, e0)] sz)
abbrev ni_R (d k n : Nat) : Room := { frames := d, cells := k, slots := n, locals := 100 * d }
def ni_I {S : Type} (l : Launch) (y : MethodName) (bytes : ByteArray) (maxL d k n : Nat) (D : va_G) (cy : Nat → ClassId) (h0 : Nat) (e0 : va_E) (w : S → va_W) : Prop := ∀ sz : Nat, Met l y (nn_ws y bytes maxL none) (ni_R d k n) (va_Pc [.ref h0] (ni_Pre D cy h0 e0 sz)) (ni_qv D h0 e0 sz w) k n (va_A [(h0, e0)] sz)
theorem ni_K.same {D : va_G} {cy : Nat → ClassId} {u U : State} (hvm : u.vm.Alike U.vm) (hN : nn_N U) (h : ni_K D cy u) : ni_K D cy U := ⟨⟨va_K.moved hvm h.1.1, hN⟩, va_AO.moved hvm h.2.1, va_AO.moved hvm h.2.2⟩
theorem ni_blind {D : va_G} {cy : Nat → ClassId} {h0 sz : Nat} {e0 : va_E} {av : List Value} : FrameBlind (va_Pc av (ni_Pre D cy h0 e0 sz)) := by
  intro a U g mk q
  obtain ⟨q0, qs, qK, qP⟩ := q
  exact ⟨q0, qs, ni_K.same (u := U) (U := U.calling g mk a) (Vm.Alike.refl U.vm) (nn_N.same rfl qK.1.2) qK, qP⟩
abbrev ni_mI (y : MethodName) (bytes : ByteArray) (maxL : Nat) : Prop := Cond.instanceMethod y ∈ nn_B ∧ Cond.initialized y.cls ∈ nn_B ∧ Cond.code y bytes maxL none ∈ nn_B ∧ nn_hd y 0 ∧ y.name = "<init>"
section NI
variable {p : Program} {l : Launch} {e : Env} {R : Room} {s : State} {m : MethodId} {args : Array Value} {below : List Frame} {meth : Method} {c : Code} {H H0 : Heap} {locs : List Loc} {cells slots : Nat} {Q : State → Prop} {cc : ByteArray} {nL : Nat} {own : String} {pc : Nat} {ls : Array Slot} {rest st : List Value} {D : va_G} {cy : Nat → ClassId} {A : Nat → Prop} {ws : va_W}
theorem ni_newI (S : CallFix p m c cc nL s args nn_B own) (hK : nn_K D cy s) (hA : ∀ q, H0.size ≤ q → A q) (hw : ni_W D A H0 ws H locs) {n : Int32} {N : Nat} (hn : ¬ n < 0) (hN : n.toNatClampNeg = N) (hbytes : N * componentBytes .int ≤ 536870912) (hc : cells + 1 ≤ R.cells) (hs : slots + N ≤ R.slots) (hdg : decode cc pc = .ok (.newarray .int, 2)) (kk : ∀ (q : Nat) (H : Heap), ni_W D A H0 (ws ++ [(q, .inl (cy 0, N, .inl (fun _ => 0)))]) H locs → W p l e R s m args below meth c H locs (cells + 1) (slots + N) Q (F0 m (pc + 2) ls (.ref q :: rest))) : W p l e R s m args below meth c H locs cells slots Q (F0 m pc ls (.int n :: rest)) := by
  refine va_newa (atype := .int) S.1 S.2.1 (S.2.2.2.2 _ tb_1_64) rfl hK.1 hw.1 hw.2.1 hw.2.2 hA (a0 := (N, .inl (fun _ => 0))) (fun _ => rfl) hn hN hbytes hc hs hdg (fun q cA H1 h1 h2 h3 h4 => ?_)
  obtain rfl := ni_cI hK h1
  exact kk q H1 ⟨h2, h3, h4⟩
theorem ni_newC (S : CallFix p m c cc nL s args nn_B own) (hK : nn_K D cy s) (hA : ∀ q, H0.size ≤ q → A q) (hw : ni_W D A H0 ws H locs) {n : Int32} {N : Nat} (hn : ¬ n < 0) (hN : n.toNatClampNeg = N) (hbytes : N * componentBytes .char ≤ 536870912) (hc : cells + 1 ≤ R.cells) (hs : slots + N ≤ R.slots) (hdg : decode cc pc = .ok (.newarray .char, 2)) (kk : ∀ (q : Nat) (H : Heap), ni_W D A H0 (ws ++ [(q, .inl (cy 1, N, .inl (fun _ => 0)))]) H locs → W p l e R s m args below meth c H locs (cells + 1) (slots + N) Q (F0 m (pc + 2) ls (.ref q :: rest))) : W p l e R s m args below meth c H locs cells slots Q (F0 m pc ls (.int n :: rest)) := by
  refine va_newa (atype := .char) S.1 S.2.1 (S.2.2.2.2 _ tb_1_143) rfl hK.1 hw.1 hw.2.1 hw.2.2 hA (a0 := (N, .inl (fun _ => 0))) (fun _ => rfl) hn hN hbytes hc hs hdg (fun q cA H1 h1 h2 h3 h4 => ?_)
  obtain rfl := ni_cC hK h1
  exact kk q H1 ⟨h2, h3, h4⟩
theorem ni_newL (S : CallFix p m c cc nL s args nn_B own) (hK : nn_K D cy s) (hA : ∀ q, H0.size ≤ q → A q) (hw : ni_W D A H0 ws H locs) {n : Int32} {N : Nat} (hn : ¬ n < 0) (hN : n.toNatClampNeg = N) (hbytes : N * componentBytes .long ≤ 536870912) (hc : cells + 1 ≤ R.cells) (hs : slots + N ≤ R.slots) (hdg : decode cc pc = .ok (.newarray .long, 2)) (kk : ∀ (q : Nat) (H : Heap), ni_W D A H0 (ws ++ [(q, .inl (cy 2, N, .inr (.inl (fun _ => 0))))]) H locs → W p l e R s m args below meth c H locs (cells + 1) (slots + N) Q (F0 m (pc + 2) ls (.ref q :: rest))) : W p l e R s m args below meth c H locs cells slots Q (F0 m pc ls (.int n :: rest)) := by
  refine va_newa (atype := .long) S.1 S.2.1 (S.2.2.2.2 _ tb_1_164) rfl hK.1 hw.1 hw.2.1 hw.2.2 hA (a0 := (N, .inr (.inl (fun _ => 0)))) (fun _ => rfl) hn hN hbytes hc hs hdg (fun q cA H1 h1 h2 h3 h4 => ?_)
  obtain rfl := ni_cL hK h1
  exact kk q H1 ⟨h2, h3, h4⟩
theorem ni_newV (S : CallFix p m c cc nL s args nn_B own) (hK : ni_K D cy s) (hA : ∀ q, H0.size ≤ q → A q) (hw : ni_W D A H0 ws H locs) {index : Nat} (hcl : Cond.classLink own index "NineNoons$Valley" ∈ nn_B) {n : Int32} {N : Nat} (hn : ¬ n < 0) (hN : n.toNatClampNeg = N) (hbytes : N * 4 ≤ 536870912) (hc : cells + 1 ≤ R.cells) (hs : slots + N ≤ R.slots) (hdg : decode cc pc = .ok (.anewarray index, 3)) (kk : ∀ (q : Nat) (H : Heap), ni_W D A H0 (ws ++ [(q, .inl (cy 4, N, .inr (.inr (.inr (.inr (fun _ => none))))))]) H locs → W p l e R s m args below meth c H locs (cells + 1) (slots + N) Q (F0 m (pc + 3) ls (.ref q :: rest))) : W p l e R s m args below meth c H locs cells slots Q (F0 m pc ls (.int n :: rest)) := by
  refine va_newq S.1 S.2.1 S.2.2.2.1 (S.2.2.2.2 _ hcl) hK.2.1 hK.1.1 hw.1 hw.2.1 hw.2.2 hA hn hN hbytes hc hs hdg (fun q cA H1 h1 h2 h3 h4 => ?_)
  obtain rfl := ni_cV hK.1 h1
  exact kk q H1 ⟨h2, h3, h4⟩
theorem ni_newS (S : CallFix p m c cc nL s args nn_B own) (hK : ni_K D cy s) (hA : ∀ q, H0.size ≤ q → A q) (hw : ni_W D A H0 ws H locs) {index : Nat} (hcl : Cond.classLink own index "NineNoons$Sheet" ∈ nn_B) {n : Int32} {N : Nat} (hn : ¬ n < 0) (hN : n.toNatClampNeg = N) (hbytes : N * 4 ≤ 536870912) (hc : cells + 1 ≤ R.cells) (hs : slots + N ≤ R.slots) (hdg : decode cc pc = .ok (.anewarray index, 3)) (kk : ∀ (q : Nat) (H : Heap), ni_W D A H0 (ws ++ [(q, .inl (cy 3, N, .inr (.inr (.inr (.inr (fun _ => none))))))]) H locs → W p l e R s m args below meth c H locs (cells + 1) (slots + N) Q (F0 m (pc + 3) ls (.ref q :: rest))) : W p l e R s m args below meth c H locs cells slots Q (F0 m pc ls (.int n :: rest)) := by
  refine va_newq S.1 S.2.1 S.2.2.2.1 (S.2.2.2.2 _ hcl) hK.2.2 hK.1.1 hw.1 hw.2.1 hw.2.2 hA hn hN hbytes hc hs hdg (fun q cA H1 h1 h2 h3 h4 => ?_)
  obtain rfl := ni_cS hK.1 h1
  exact kk q H1 ⟨h2, h3, h4⟩
theorem ni_new (S : CallFix p m c cc nL s args nn_B own) (hK : nn_K D cy s) (hA : ∀ q, H0.size ≤ q → A q) (hw : ni_W D A H0 ws H locs) {ci N : Nat} {C : String} {T : u_T} (hc : vwCl[ci]? = some (C, T, N)) (hin : ∀ w ∈ u_ws C T N, w ∈ nn_B) (ty : Nat → FieldType) (hty : ∀ k, k < N → parseFieldDescriptor (T k).2.2.1 = some (ty k)) {index : Nat} (hcl : Cond.classLink own index C ∈ nn_B) (hinst : Cond.instantiable C N ∈ nn_B) (hini : Cond.initialized C ∈ nn_B) {fs : List Value} (hfs : ∀ j, j < N → defaultValue (ty j) = vp_V fs j) (hcells : cells + 1 ≤ R.cells) (hslots : slots + N ≤ R.slots) (hdg : decode cc pc = .ok (.new index, 3)) (kk : ∀ (q : Nat) (H : Heap), ni_W D A H0 (ws ++ [(q, .inr (ci, fs))]) H locs → W p l e R s m args below meth c H locs (cells + 1) (slots + N) Q (F0 m (pc + 3) ls (.ref q :: rest))) : W p l e R s m args below meth c H locs cells slots Q (F0 m pc ls rest) :=
  va_new S.1 S.2.1 S.2.2.2.2 hin ty hty S.2.2.2.1 (S.2.2.2.2 _ hcl) (S.2.2.2.2 _ hinst) (S.2.2.2.2 _ hini) hK.1 hw.1 hw.2.1 hw.2.2 hA hc hfs hcells hslots hdg (fun q H1 h2 h3 h4 => kk q H1 ⟨h2, h3, h4⟩)
theorem ni_putF (S : CallFix p m c cc nL s args nn_B own) (hK : nn_K D cy s) {h0 ci : Nat} {fs fs' : List Value} {R0 : va_W} (hw : ni_W D A H0 ((h0, .inr (ci, fs)) :: R0) H locs) (hin2 : meth.name = "<init>") {C : String} {T : u_T} {N : Nat} (hc : vwCl[ci]? = some (C, T, N)) (hin : ∀ w ∈ u_ws C T N, w ∈ nn_B) (ty0 : Nat → FieldType) (hty : ∀ k, k < N → parseFieldDescriptor (T k).2.2.1 = some (ty0 k)) (hnm : ∀ a, a < N → ∀ b, b < N → a ≠ b → (T a).2.1 ≠ (T b).2.1) (k : Nat) (hk : k < N) {index : Nat} (hlink : Cond.fieldLink own index (T k).1 (T k).2.1 (T k).2.2.1 ∈ nn_B) (hfin : (T k).2.2.2 = true) (hdecl : (T k).1 = own) {v : Value} (hn : narrow (ty0 k) v = v) (hfit : fits (ty0 k) v = true) (hl : k < fs.length) (hfs : fs.set k v = fs') (hdg : decode cc pc = .ok (.putfield index, 3)) (kk : ∀ (H : Heap) (locs : List Loc), ni_W D A H0 ((h0, .inr (ci, fs')) :: R0) H locs → W p l e R s m args below meth c H locs cells slots Q (F0 m (pc + 3) ls rest)) : W p l e R s m args below meth c H locs cells slots Q (F0 m pc ls (v :: .ref h0 :: rest)) := by
  subst hfs
  exact va_putF S.1 S.2.1 S.2.2.2.2 hin ty0 hty hnm S.2.2.2.1 hK.1 hw.1 hw.2.1 hw.2.2 0 rfl hc k hk (S.2.2.2.2 _ hlink) (fun _ h => h) hfin hin2 hdecl (hty k hk) hn hfit hl hdg (fun H1 locs1 h1 h2 h3 => kk H1 locs1 ⟨h1, h2, h3⟩)
theorem ni_put (S : CallFix p m c cc nL s args nn_B own) (hK : nn_K D cy s) {h0 ci : Nat} {fs fs' : List Value} {R0 : va_W} (hw : ni_W D A H0 ((h0, .inr (ci, fs)) :: R0) H locs) {C : String} {T : u_T} {N : Nat} (hc : vwCl[ci]? = some (C, T, N)) (hin : ∀ w ∈ u_ws C T N, w ∈ nn_B) (ty0 : Nat → FieldType) (hty : ∀ k, k < N → parseFieldDescriptor (T k).2.2.1 = some (ty0 k)) (hnm : ∀ a, a < N → ∀ b, b < N → a ≠ b → (T a).2.1 ≠ (T b).2.1) (k : Nat) (hk : k < N) {index : Nat} (hlink : Cond.fieldLink own index (T k).1 (T k).2.1 (T k).2.2.1 ∈ nn_B) (hfin : (T k).2.2.2 = false) {v : Value} (hn : narrow (ty0 k) v = v) (hfit : fits (ty0 k) v = true) (hl : k < fs.length) (hfs : fs.set k v = fs') (hdg : decode cc pc = .ok (.putfield index, 3)) (kk : ∀ (H : Heap) (locs : List Loc), ni_W D A H0 ((h0, .inr (ci, fs')) :: R0) H locs → W p l e R s m args below meth c H locs cells slots Q (F0 m (pc + 3) ls rest)) : W p l e R s m args below meth c H locs cells slots Q (F0 m pc ls (v :: .ref h0 :: rest)) := by
  subst hfs
  exact va_put S.1 S.2.1 S.2.2.2.2 hin ty0 hty hnm S.2.2.2.1 hK.1 hw.1 hw.2.1 hw.2.2 0 rfl hc k hk (S.2.2.2.2 _ hlink) (fun _ h => h) hfin (hty k hk) hn hfit hl hdg (fun H1 locs1 h1 h2 h3 => kk H1 locs1 ⟨h1, h2, h3⟩)
theorem ni_ast (S : CallFix p m c cc nL s args nn_B own) (hK : nn_K D cy s) {qa n v ci t0 : Nat} {cA : ClassId} {f : Nat → Option Nat} {vs : List Value} {P R1 : va_W} {r : vw_C} (hw : ni_W D A H0 (P ++ (qa, .inl (cA, n, .inr (.inr (.inr (.inr f))))) :: R1) H locs) (ht : (nn_t cy)[t0]? = some (cA, .object r.1)) (hv : (v, .inr (ci, vs)) ∈ P ++ (qa, .inl (cA, n, .inr (.inr (.inr (.inr f))))) :: R1) (hc : vwCl[ci]? = some r) {j : Int32} (hin : vp_in j n) (hdg : decode cc pc = .ok (.aastore, 1)) (kk : ∀ (H : Heap) (locs : List Loc), ni_W D A H0 (P ++ (qa, .inl (cA, n, .inr (.inr (.inr (.inr (va_up f j.toNatClampNeg (some v))))))) :: R1) H locs → W p l e R s m args below meth c H locs cells slots Q (F0 m (pc + 1) ls rest)) : W p l e R s m args below meth c H locs cells slots Q (F0 m pc ls (.ref v :: .int j :: .ref qa :: rest)) := by
  obtain ⟨qk, hqk⟩ := List.getElem?_of_mem hv
  refine va_astq S.1 S.2.1 hK.1 hw.1 hw.2.1 hw.2.2 P.length t0 qk ci (ni_mid _ _ P) ht hqk hc hin hdg (fun H1 locs1 h1 h2 h3 => ?_)
  rw [ni_set] at h1 h2
  exact kk H1 locs1 ⟨h1, h2, h3⟩
/-- behind a constructor: its object and what it made stand where the blank object stood -/
theorem ni_join {R0 w1 : va_W} {q : Nat} {e0 : va_E} {H1 : Heap} (hP : va_P D vwCl (R0 ++ [(q, e0)]) H) (hD : va_D A (R0 ++ [(q, e0)])) (hk : ∀ x : Nat, x < H.size → ¬ va_A [(q, e0)] H.size x → H1[x]? = H[x]?) (hF : ∀ x, va_A [(q, e0)] H.size x → A x) (hP1 : va_P D vwCl w1 H1) (hD1 : va_D (va_A [(q, e0)] H.size) w1) : va_P D vwCl (R0 ++ w1) H1 ∧ va_D A (R0 ++ w1) := by
  have hq : (R0 ++ [(q, e0)])[R0.length]? = some (q, e0) := ni_mid _ _ R0
  have hin : ∀ (k : Nat) (x : Nat × va_E), R0[k]? = some x → (R0 ++ [(q, e0)])[k]? = some x := by
    intro k x hx
    rw [List.getElem?_append_left (List.getElem?_eq_some_iff.mp hx).1]; exact hx
  have apart : ∀ (k : Nat) (x : Nat × va_E), R0[k]? = some x → x.1 < H.size ∧ ¬ va_A [(q, e0)] H.size x.1 := by
    intro k x hx
    have hl := (hP k x (hin k x hx)).lt
    refine ⟨hl, fun h => ?_⟩
    rcases h with ⟨k2, e, h⟩ | h
    · have hz : k2 < 1 := (List.getElem?_eq_some_iff.mp h).1
      obtain rfl : k2 = 0 := by omega
      have h1 : (q, e0) = (x.1, e) := Option.some.inj h
      have h2 : x.1 = q := (congrArg Prod.fst h1).symm
      have h3 := hD.1 k R0.length x (q, e0) (hin k x hx) hq h2
      have h4 := (List.getElem?_eq_some_iff.mp hx).1
      omega
    · omega
  refine ⟨va_P.app (fun k x hx => ?_) hP1, va_D.app ⟨fun i j x y hx hy hxy => hD.1 i j x y (hin i x hx) (hin j y hy) hxy, fun k x hx => hD.2 k x (hin k x hx)⟩ (hD1.weaken (fun k x _ h => hF x.1 h)) (fun i j x y hx hy hxy => ?_)⟩
  · obtain ⟨g1, g2⟩ := apart k x hx
    exact (hP k x (hin k x hx)).kept (hk x.1 g1 g2)
  · exact (apart i x hx).2 (by rw [hxy]; exact hD1.2 j y hy)
theorem ni_free {R0 : va_W} {q : Nat} {e0 : va_E} (hD : va_D A (R0 ++ [(q, e0)])) (hS : va_S A H0 H locs) (hA : ∀ x, H0.size ≤ x → A x) : ∀ x, va_A [(q, e0)] H.size x → A x := by
  intro x h
  rcases h with ⟨k2, e, h⟩ | h
  · have hz : k2 < 1 := (List.getElem?_eq_some_iff.mp h).1
    obtain rfl : k2 = 0 := by omega
    have h1 : (q, e0) = (x, e) := Option.some.inj h
    have h2 : q = x := congrArg Prod.fst h1
    rw [← h2]
    exact hD.2 R0.length _ (ni_mid _ _ R0)
  · exact hA x (Nat.le_trans hS.1 h)
theorem ni_preS {R0 : va_W} {q : Nat} {e0 : va_E} (hK : ni_K D cy s) (hP : va_P D vwCl (R0 ++ [(q, e0)]) H) : PreS s H (va_Pc [.ref q] (ni_Pre D cy q e0 H.size)) [.ref q] := ⟨ni_blind, fun U hU hW => ⟨rfl, by rw [hU], ni_K.same hW.alike (hK.1.2.warm hW) hK, by
  rw [hU]
  intro k x hx
  have hz : k < 1 := (List.getElem?_eq_some_iff.mp hx).1
  obtain rfl : k = 0 := by omega
  cases hx
  exact hP R0.length _ (ni_mid _ _ R0)⟩⟩
theorem ni_callN {T : Type} (S : CallFix p m c cc nL s args nn_B own) (hK : ni_K D cy s) (hA : ∀ q, H0.size ≤ q → A q) {R0 : va_W} {q : Nat} {e0 : va_E} (hw : ni_W D A H0 (R0 ++ [(q, e0)]) H locs) {y : MethodName} {bytes : ByteArray} {maxL d k n index : Nat} {host : String} {w : T → va_W} (hM : ni_I l y bytes maxL d k n D cy q e0 w) (mv : ni_mI y bytes maxL) (hlink : va_Nw (.methodLinkNest own index y host) s) (hR : d + 1 ≤ R.frames ∧ 8 + (maxL + 11) + 100 * d ≤ R.locals) (hcs : cells + k ≤ R.cells ∧ slots + n ≤ R.slots) (hsz : ls.size = nL) (hW : (rest.map fun v => v.category).sum ≤ 8) (hdg : decode cc pc = .ok (.invokespecial index, 3)) (kk : ∀ (u : T) (H : Heap) (locs : List Loc), ni_W D A H0 (R0 ++ w u) H locs → W p l e R s m args below meth c H locs (cells + k) (slots + n) Q (F0 m (pc + 3) ls rest)) : W p l e R s m args below meth c H locs cells slots Q (F0 m pc ls (.ref q :: rest)) := by
  have hF := ni_free hw.2.1 hw.2.2 hA
  refine va_callv (va_runIN (As := []) (rest := rest) S (hM H.size) ⟨va_cnB 0 S.2.2.2.2 (nn_pay mv.2.2.1) rfl rfl rfl hlink (S.2.2.2.2 _ mv.2.1) mv.2.2.2.1 hR, mv.2.2.2.2, S.2.2.2.2 _ mv.1⟩ (ni_preS hK hw.1) rfl rfl hsz rfl (lv_room hW) hdg hcs) hw.2.2 (fun x _ h => hF x h) hF (fun u t H1 locs1 ht hvm hp hB hz hk hS => ?_)
  obtain ⟨hB1, hB2⟩ := hB
  rw [ht] at hB1
  obtain ⟨h1, h2⟩ := ni_join hw.1 hw.2.1 hk hF hB1 hB2
  exact kk u H1 locs1 ⟨h1, h2, hS⟩
theorem ni_callI {T : Type} (S : CallFix p m c cc nL s args nn_B own) (hK : ni_K D cy s) (hA : ∀ q, H0.size ≤ q → A q) {R0 : va_W} {q : Nat} {e0 : va_E} (hw : ni_W D A H0 (R0 ++ [(q, e0)]) H locs) {y : MethodName} {bytes : ByteArray} {maxL d k n index : Nat} {w : T → va_W} (hM : ni_I l y bytes maxL d k n D cy q e0 w) (mv : ni_mI y bytes maxL) (hlink : Cond.methodLink own index y ∈ nn_B) (hR : d + 1 ≤ R.frames ∧ 8 + (maxL + 11) + 100 * d ≤ R.locals) (hcs : cells + k ≤ R.cells ∧ slots + n ≤ R.slots) (hsz : ls.size = nL) (hW : (rest.map fun v => v.category).sum ≤ 8) (hdg : decode cc pc = .ok (.invokespecial index, 3)) (kk : ∀ (u : T) (H : Heap) (locs : List Loc), ni_W D A H0 (R0 ++ w u) H locs → W p l e R s m args below meth c H locs (cells + k) (slots + n) Q (F0 m (pc + 3) ls rest)) : W p l e R s m args below meth c H locs cells slots Q (F0 m pc ls (.ref q :: rest)) := by
  have hF := ni_free hw.2.1 hw.2.2 hA
  refine va_callv (va_runI (As := []) (rest := rest) S (hM H.size) ⟨callB_of 0 S.2.2.2.2 (nn_pay mv.2.2.1) rfl rfl rfl (S.2.2.2.2 _ mv.2.1) (S.2.2.2.2 _ hlink) mv.2.2.2.1 hR, mv.2.2.2.2, S.2.2.2.2 _ mv.1⟩ (ni_preS hK hw.1) rfl rfl hsz rfl (lv_room hW) hdg hcs) hw.2.2 (fun x _ h => hF x h) hF (fun u t H1 locs1 ht hvm hp hB hz hk hS => ?_)
  obtain ⟨hB1, hB2⟩ := hB
  rw [ht] at hB1
  obtain ⟨h1, h2⟩ := ni_join hw.1 hw.2.1 hk hF hB1 hB2
  exact kk u H1 locs1 ⟨h1, h2, hS⟩
theorem ni_obj (S : CallFix p m c cc nL s args nn_B own) {index : Nat} (hlink : Cond.methodLink own index objectInit ∈ nn_B) (hsz : ls.size = nL) {a : Nat} (hdg : decode cc pc = .ok (.invokespecial index, 3)) (hf : 1 ≤ R.frames) (hl : (rest.map fun v => v.category).sum + 12 ≤ R.locals) (kk : W p l e R s m args below meth c H locs cells slots Q (F0 m (pc + 3) ls rest)) : W p l e R s m args below meth c H locs cells slots Q (F0 m pc ls (.ref a :: rest)) :=
  W.objInit S.1 S.2.1 S.2.2.2.1 (S.2.2.2.2 _ hlink) (S.2.2.2.2 _ tb_1_19) (S.2.2.2.2 _ tb_1_20) rfl (by rw [S.2.2.1]; exact hsz) rfl hdg hf (by show 2 * 0 + _ + 12 ≤ _; omega) kk
theorem ni_ret {T : Type} {h0 : Nat} {e0 : va_E} {w : T → va_W} (S : CallFix p m c cc nL s args nn_B own) (hr : meth.sig.returnType = none) (hlk : meth.locks = false) (u : T) (hw : ni_W D (va_A [(h0, e0)] s.heap.size) s.heap (w u) H locs) (hdg : decode cc pc = .ok (.return_, 1)) : W p l e R s m args below meth c H locs cells slots (MQ below (ni_qv D h0 e0 s.heap.size w) args s cells slots (va_A [(h0, e0)] s.heap.size)) (F0 m pc ls []) :=
  W.vret S.1 S.2.1 hr (fun t ht hW => ⟨⟨u, rfl, trivial, by rw [ht]; exact hw.1, hw.2.1⟩, hw.2.2.F ht⟩) hw.2.2.2.2 hdg hlk
end NI
theorem ni_enter {T : Type} {l : Launch} {y : MethodName} {cc : ByteArray} {maxL d k n : Nat} {D : va_G} {cy : Nat → ClassId} {h0 : Nat} {e0 : va_E} {w : T → va_W} (hy : plainFor y = true) (hyn : y.name = "<init>") (hlen : 1 ≤ maxL) (body : ∀ (p : Program) (e : Env) (s : State) (m : MethodId) (below : List Frame) (meth : Method) (c : Code), CallFix p m c cc maxL s #[.ref h0] nn_B y.cls → meth.sig.returnType = none → meth.locks = false → meth.name = "<init>" → ni_K D cy s → (∀ q, s.heap.size ≤ q → va_A [(h0, e0)] s.heap.size q) → ni_W D (va_A [(h0, e0)] s.heap.size) s.heap [(h0, e0)] s.heap [] → ∀ ls : Array Slot, lv_has ls maxL [(0, .ref h0)] → W p l e (ni_R d k n) s m #[.ref h0] below meth c s.heap [] 0 0 (MQ below (ni_qv D h0 e0 s.heap.size w) #[.ref h0] s k n (va_A [(h0, e0)] s.heap.size)) (F0 m 0 ls [])) : ni_I l y cc maxL d k n D cy h0 e0 w := by
  intro sz
  refine nn_ofW (cc := cc) (maxL := maxL) (ret := none) hy rfl ?_
  intro p e s m args below meth c s₁ B hml hv
  obtain ⟨rfl, rfl, hK, hP⟩ := hv
  have hts := atoms_spec (ws := nn_ws y cc maxL none) B.pre
  have hown : s.vm.findClass y.cls = some m.cls := findClass_of_methodNamed B.named
  have hl := lv_entry [.ref h0] (n := maxL) hlen
  rw [lg_entry_eq]
  have hname : meth.name = "<init>" := ((name_of_methodNamed B.named B.method).1).trans hyn
  have hD : va_D (va_A [(h0, e0)] s.heap.size) [(h0, e0)] := by
    refine ⟨fun i j x z hx hz _ => ?_, fun k x hx => va_A.in hx⟩
    have h1 := (List.getElem?_eq_some_iff.mp hx).1
    have h2 := (List.getElem?_eq_some_iff.mp hz).1
    simp at h1 h2
    omega
  exact body p e s m below meth c ⟨B.exec, B.bytes, hml, hown, fun w hw => hts w (List.mem_cons_of_mem _ hw)⟩ B.returns B.notSynchronized hname hK (fun q h => Or.inr h) ⟨hP, hD, va_S.rf⟩ _ hl
