/-! constructors: rows over worlds as lists -/
abbrev gTy (a : Nat → ClassId) : List (ClassId × FieldType) := [(a 0, .int), (a 1, .object "PoleNave$Row"), (a 2, .object "PoleNave$Deeds"), (a 3, .array .int)]
theorem ra_int {U : State} {x y : ClassId} (h : va_RA U x .int) (g : va_RA U y .int) : x = y := Option.some.inj (Eq.trans (Eq.symm (show U.vm.findClass ("[" ++ FieldType.int.toString) = some x from h)) g)
theorem ra_arr {U : State} {x y : ClassId} (h : va_RA U x (.array .int)) (g : va_RA U y (.array .int)) : x = y := Option.some.inj (Eq.trans (Eq.symm (show U.vm.findClass ("[" ++ (FieldType.array .int).toString) = some x from h)) g)
theorem ra_obj {U : State} {x y : ClassId} {C : String} (h : va_RA U x (.object C)) (g : va_RA U y (.object C)) : x = y := by
  obtain ⟨_, _, _, _, _, h4⟩ := h
  obtain ⟨_, _, _, _, _, g4⟩ := g
  exact Option.some.inj (h4.symm.trans g4)
theorem K_tail {D : va_G} {cl : List vw_C} {tys : List (ClassId × FieldType)} {x : ClassId} {ty : FieldType} {U : State} (h : va_K D cl (tys ++ [(x, ty)]) U) : va_RA U x ty := (h.2 tys.length (x, ty) (by simp)).2
/-- a world behind the call of the constructor of its last cell -/
theorem mk_join {A0 : Nat → Prop} {D : va_G} {cl : List vw_C} {ws w1 : va_W} {q : Nat} {e0 : va_E} {H H1 : Heap} (hP : va_P D cl (ws ++ [(q, e0)]) H) (hD : va_D A0 (ws ++ [(q, e0)])) (hk : ∀ x : Nat, x < H.size → ¬ va_A [(q, e0)] H.size x → H1[x]? = H[x]?) (hF : ∀ x, va_A [(q, e0)] H.size x → A0 x) (hP1 : va_P D cl w1 H1) (hD1 : va_D (va_A [(q, e0)] H.size) w1) :
    va_P D cl (ws ++ w1) H1 ∧ va_D A0 (ws ++ w1) := by
  have up : ∀ (k : Nat) (x : Nat × va_E), ws[k]? = some x → (ws ++ [(q, e0)])[k]? = some x := fun k x hx => by
    have hl : k < ws.length := (List.getElem?_eq_some_iff.mp hx).1
    rw [List.getElem?_append_left hl]; exact hx
  have last : (ws ++ [(q, e0)])[ws.length]? = some (q, e0) := by simp
  have apart : ∀ (k : Nat) (x : Nat × va_E), ws[k]? = some x → x.1 < H.size ∧ ¬ va_A [(q, e0)] H.size x.1 := fun k x hx => by
    have hl := (hP k x (up k x hx)).lt
    refine ⟨hl, fun h => ?_⟩
    rcases h with ⟨j, z, hj⟩ | h
    · have hz : j < 1 := (List.getElem?_eq_some_iff.mp hj).1
      rw [show j = 0 by omega] at hj
      cases hj
      have e := hD.1 k ws.length x (x.1, e0) (up k x hx) last rfl
      have hk' : k < ws.length := (List.getElem?_eq_some_iff.mp hx).1
      omega
    · omega
  refine ⟨va_P.app (fun k x hx => (hP k x (up k x hx)).kept (hk x.1 (apart k x hx).1 (apart k x hx).2)) hP1, va_D.app ⟨fun i j x y hx hy h => hD.1 i j x y (up i x hx) (up j y hy) h, fun k x hx => hD.2 k x (up k x hx)⟩ (hD1.weaken (fun k x _ h => hF x.1 h)) (fun i j x y hx hy hxy => ?_)⟩
  exact (apart i x hx).2 (by rw [hxy]; exact hD1.2 j y hy)
/-- the classes of rows of references, as the tables have them -/
def AO3 (U : State) : Prop := va_AO "PoleNave$Row" U ∧ va_AO "PoleNave$Deeds" U ∧ (Cond.arrayOver (.array .int)).before #[] U = true
theorem AO3.moved {u U : State} (hvm : u.vm.Alike U.vm) (h : AO3 u) : AO3 U := ⟨h.1.moved hvm, h.2.1.moved hvm, Stand.arrayOver_alikeB hvm h.2.2⟩
/-- a constructor's start and end -/
def mPre (D : va_G) (a : Nat → ClassId) (w0 : va_W) (sz : Nat) (U : State) : Prop := U.heap.size = sz ∧ va_P D vwCl w0 U.heap ∧ va_K D vwCl (gTy a) U ∧ va_D (fun _ => True) w0 ∧ (∀ w ∈ NB, va_Nw w U) ∧ AO3 U
def mB (D : va_G) (w0 : va_W) (sz : Nat) : va_W → State → Prop := fun ws t => va_P D vwCl ws t.heap ∧ va_D (va_A w0 sz) ws
def CN (D : va_G) (a : Nat → ClassId) (l : Launch) (y : MethodName) (rm : Room) (cc : ByteArray) (nL : Nat) (h0 : Nat) (e0 : va_E) (As : List Value) (post : va_W → Prop) : Prop :=
  ∀ sz : Nat, Met l y (.code y cc nL none :: TB) rm (va_Pc (.ref h0 :: As) (mPre D a [(h0, e0)] sz)) (va_Qv post (mB D [(h0, e0)] sz) (va_A [(h0, e0)] sz)) rm.cells rm.slots (va_A [(h0, e0)] sz)
/-- what holds all the way through a constructor -/
def AmbN (p : Program) (c : Code) (cc : ByteArray) (nL : Nat) (s : State) (args : Array Value) (own : String) (m : MethodId) (meth : Method) (D : va_G) (a : Nat → ClassId) : Prop :=
  p.tables.exec = Jvm.exec ∧ c.code = cc ∧ c.maxLocals = nL ∧ s.vm.findClass own = some m.cls ∧ (∀ w ∈ TB, w.before args s = true) ∧ meth.sig.returnType = none ∧ meth.locks = false ∧ meth.name = "<init>" ∧ va_K D vwCl (gTy a) s ∧ (∀ w ∈ NB, va_Nw w s) ∧ AO3 s
set_option maxHeartbeats 1000000 in
theorem mbegin {D : va_G} {a : Nat → ClassId} {l : Launch} {y : MethodName} {rm : Room} {cc : ByteArray} {nL : Nat} {h0 : Nat} {e0 : va_E} {As : List Value} {post : va_W → Prop} (hy : plainName y.cls = true) (hi : y.name = "<init>") (hle : (lg_sl (.ref h0 :: As)).length ≤ nL)
    (body : ∀ (p : Program) (e : Env) (s : State) (m : MethodId) (below : List Frame) (meth : Method) (c : Code) (ls : Array Slot), AmbN p c cc nL s (Value.ref h0 :: As).toArray y.cls m meth D a → va_P D vwCl [(h0, e0)] s.heap → va_D (va_A [(h0, e0)] s.heap.size) [(h0, e0)] → va_S (va_A [(h0, e0)] s.heap.size) s.heap s.heap [] → (∀ q, s.heap.size ≤ q → va_A [(h0, e0)] s.heap.size q) → lv_has ls nL (lv_args 0 (.ref h0 :: As)) →
      W p l e rm s m (Value.ref h0 :: As).toArray below meth c s.heap [] 0 0 (MQ below (va_Qv post (mB D [(h0, e0)] s.heap.size) (va_A [(h0, e0)] s.heap.size)) (Value.ref h0 :: As).toArray s rm.cells rm.slots (va_A [(h0, e0)] s.heap.size)) (F0 m 0 ls [])) : CN D a l y rm cc nL h0 e0 As post := by
  intro sz
  refine Met.ofW (cc := cc) (maxL := nL) (ret := none) hy rfl ?_
  intro p e s m args below meth c s₁ B hml hv
  obtain ⟨rfl, hsz, hP, hK, hD, hN, hO⟩ := hv
  have hts := atoms_spec (ws := .code y cc nL none :: TB) B.pre
  have hown : s.vm.findClass y.cls = some m.cls := findClass_of_methodNamed B.named
  have hl := lv_entry (.ref h0 :: As) (n := nL) hle
  rw [lg_entry_eq]
  subst hsz
  exact body p e s m below meth c _ ⟨B.exec, B.bytes, hml, hown, fun w h => hts w (List.mem_cons_of_mem _ h), B.returns, B.notSynchronized, ((name_of_methodNamed B.named B.method).1.trans hi), hK, hN, hO⟩ hP hD.self va_S.rf (fun q h => Or.inr h) hl
section MK
variable {p : Program} {l : Launch} {e : Env} {R : Room} {s : State} {m : MethodId} {args : Array Value} {below : List Frame} {meth : Method} {c : Code} {H : Heap} {locs : List Loc} {cells slots : Nat} {Q : State → Prop}
variable {cc : ByteArray} {pc nL : Nat} {ls : Array Slot} {rest : List Value} {D : va_G} {a : Nat → ClassId} {A : Nat → Prop} {ws : va_W} {H0 : Heap} {own : String}
theorem mk_newi (hx : p.tables.exec = Jvm.exec) (hb : c.code = cc) (harr : (Cond.arrayClass .int).before args s = true) (hK : va_K D vwCl (gTy a) s) (hP : va_P D vwCl ws H) (hD : va_D A ws) (hS : va_S A H0 H locs) (hA : ∀ q, H0.size ≤ q → A q)
    {n : Int32} {N' : Nat} (hn : ¬ n < 0) (hN : n.toNatClampNeg = N') (hbytes : N' * 4 ≤ 536870912) (hcells : cells + 1 ≤ R.cells) (hslots : slots + N' ≤ R.slots) (hdg : decode cc pc = .ok (.newarray .int, 2))
    (kk : ∀ (q : Nat) (H1 : Heap), va_P D vwCl (ws ++ [(q, .inl (a 0, N', .inl (fun _ => 0)))]) H1 → va_D A (ws ++ [(q, .inl (a 0, N', .inl (fun _ => 0)))]) → va_S A H0 H1 locs → W p l e R s m args below meth c H1 locs (cells + 1) (slots + N') Q (F0 m (pc + 2) ls (.ref q :: rest))) : W p l e R s m args below meth c H locs cells slots Q (F0 m pc ls (.int n :: rest)) := by
  refine va_newa (atype := .int) (ty := .int) (a0 := (N', .inl (fun _ => 0))) hx hb harr rfl hK hP hD hS hA (fun cA => rfl) hn hN hbytes hcells hslots hdg (fun q cA H1 hK1 hP1 hD1 hS1 => ?_)
  have e1 : cA = a 0 := ra_int (K_tail hK1) ((hK.2 0 (a 0, .int) rfl).2)
  rw [e1] at hP1 hD1
  exact kk q H1 hP1 hD1 hS1
theorem mk_newq (hx : p.tables.exec = Jvm.exec) (hb : c.code = cc) {C : String} {index t0 : Nat} (ht : (gTy a)[t0]? = some (a t0, .object C)) (hown : s.vm.findClass own = some m.cls) (hclink : (Cond.classLink own index C).before args s = true) (hover : va_AO C s) (hK : va_K D vwCl (gTy a) s) (hP : va_P D vwCl ws H) (hD : va_D A ws) (hS : va_S A H0 H locs) (hA : ∀ q, H0.size ≤ q → A q)
    {n : Int32} {N' : Nat} (hn : ¬ n < 0) (hN : n.toNatClampNeg = N') (hbytes : N' * 4 ≤ 536870912) (hcells : cells + 1 ≤ R.cells) (hslots : slots + N' ≤ R.slots) (hdg : decode cc pc = .ok (.anewarray index, 3))
    (kk : ∀ (q : Nat) (H1 : Heap), va_P D vwCl (ws ++ [(q, .inl (a t0, N', .inr (.inr (.inr (.inr (fun _ => none))))))]) H1 → va_D A (ws ++ [(q, .inl (a t0, N', .inr (.inr (.inr (.inr (fun _ => none))))))]) → va_S A H0 H1 locs → W p l e R s m args below meth c H1 locs (cells + 1) (slots + N') Q (F0 m (pc + 3) ls (.ref q :: rest))) : W p l e R s m args below meth c H locs cells slots Q (F0 m pc ls (.int n :: rest)) := by
  refine va_newq hx hb hown hclink hover hK hP hD hS hA hn hN hbytes hcells hslots hdg (fun q cA H1 hK1 hP1 hD1 hS1 => ?_)
  have e1 : cA = a t0 := ra_obj (K_tail hK1) ((hK.2 t0 _ ht).2)
  rw [e1] at hP1 hD1
  exact kk q H1 hP1 hD1 hS1
theorem mblind {w0 : va_W} {As : List Value} {sz : Nat} : FrameBlind (va_Pc As (mPre D a w0 sz)) := by
  intro b U g mk q
  obtain ⟨q1, q2, q3, q4, q5, q6, q7⟩ := q
  exact ⟨q1, q2, q3, va_K.moved (u := U) (U := U.calling g mk b) (Vm.Alike.refl U.vm) q4, q5, nb_same (s := U) (U := U.calling g mk b) rfl q6, q7.moved (u := U) (U := U.calling g mk b) (Vm.Alike.refl U.vm)⟩
theorem mfree {q : Nat} {e0 : va_E} (hD : va_D A (ws ++ [(q, e0)])) (hS : va_S A H0 H locs) (hA : ∀ q, H0.size ≤ q → A q) : ∀ x, va_A [(q, e0)] H.size x → A x := fun x h => by
  rcases h with ⟨j, z, hj⟩ | h
  · have hz : j < 1 := (List.getElem?_eq_some_iff.mp hj).1
    rw [show j = 0 by omega] at hj
    cases hj
    exact hD.2 ws.length (q, e0) (by simp)
  · exact hA x (Nat.le_trans hS.1 h)
theorem mone_P {q : Nat} {e0 : va_E} (hP : va_P D vwCl (ws ++ [(q, e0)]) H) : va_P D vwCl [(q, e0)] H := fun k x hx => by
  have hz : k < 1 := (List.getElem?_eq_some_iff.mp hx).1
  rw [show k = 0 by omega] at hx
  have ex : x = (q, e0) := (Option.some.inj hx).symm
  subst ex
  exact hP ws.length _ (by simp)
theorem mone_D {q : Nat} {e0 : va_E} : va_D (fun _ => True) [(q, e0)] := ⟨fun i j x y hi hj _ => by
  have h1 : i < 1 := (List.getElem?_eq_some_iff.mp hi).1
  have h2 : j < 1 := (List.getElem?_eq_some_iff.mp hj).1
  omega, fun _ _ _ => trivial⟩
set_option maxHeartbeats 1000000 in
/-- a constructor called on the last cell -/
theorem mk_call (ha : AmbN p c cc nL s args own m meth D a) {q : Nat} {e0 : va_E} (hP : va_P D vwCl (ws ++ [(q, e0)]) H) (hD : va_D A (ws ++ [(q, e0)])) (hS : va_S A H0 H locs) (hA : ∀ q, H0.size ≤ q → A q) {y : MethodName} {bytes : ByteArray} {maxL index : Nat} {rm : Room} {As : List Value} {post : va_W → Prop} {n : Nat} (hM : CN D a l y rm bytes maxL q e0 As post)
    (hw : ∀ w ∈ [Cond.methodLink own index y, .instanceMethod y, .initialized y.cls, .code y bytes maxL none], w ∈ TB) (hname : y.name = "<init>") (hd : kHd y n) (hn : As.length = n) (hR : rm.frames + 1 ≤ R.frames ∧ 8 + (maxL + 11) + rm.locals ≤ R.locals) (hf : cells + rm.cells ≤ R.cells ∧ slots + rm.slots ≤ R.slots) (hls : ls.size = nL) (hst : (rest.map fun v => v.category).sum ≤ 8) {st0 : List Value} (hs0 : st0 = As.reverse ++ .ref q :: rest) (hdg : decode cc pc = .ok (.invokespecial index, 3))
    (kk : ∀ (w1 : va_W) (H1 : Heap) (locs1 : List Loc), post w1 → va_P D vwCl (ws ++ w1) H1 → va_D A (ws ++ w1) → va_S A H0 H1 locs1 → W p l e R s m args below meth c H1 locs1 (cells + rm.cells) (slots + rm.slots) Q (F0 m (pc + 3) ls rest)) : W p l e R s m args below meth c H locs cells slots Q (F0 m pc ls st0) := by
  subst hs0
  obtain ⟨hx, hb, hml, hown, hts, -, -, -, hK, hN, hO⟩ := ha
  have hF := mfree hD hS hA
  refine va_callv (va_runI (As := As) (rest := rest) ⟨hx, hb, hml, hown, hts⟩ (hM H.size) ⟨k_cwB n hts (hw _ (by simp)) (hw _ (by simp)) (hw _ (by simp)) hd hR, hname, hts _ (hw _ (by simp))⟩ ⟨mblind, fun U hU hW => ⟨rfl, by rw [hU], by rw [hU]; exact mone_P hP, va_K.moved hW.alike hK, mone_D, nb_warm hW hN, hO.moved hW.alike⟩⟩ rfl hn hls rfl (lv_room hst) hdg hf) hS (fun x _ h => hF x h) hF (fun u t H1 locs1 ht hvm hp hB hz1 hk1 hS1 => ?_)
  obtain ⟨hP1, hD1⟩ := hB
  rw [ht] at hP1
  obtain ⟨hP2, hD2⟩ := mk_join hP hD hk1 hF hP1 hD1
  exact kk u H1 locs1 hp hP2 hD2 hS1
set_option maxHeartbeats 1000000 in
/-- a nest mate's private one -/
theorem mk_callN (ha : AmbN p c cc nL s args own m meth D a) {q : Nat} {e0 : va_E} (hP : va_P D vwCl (ws ++ [(q, e0)]) H) (hD : va_D A (ws ++ [(q, e0)])) (hS : va_S A H0 H locs) (hA : ∀ q, H0.size ≤ q → A q) {y : MethodName} {bytes : ByteArray} {maxL index : Nat} {host : String} {rm : Room} {As : List Value} {post : va_W → Prop} {n : Nat} (hM : CN D a l y rm bytes maxL q e0 As post)
    (hl : Cond.methodLinkNest own index y host ∈ NB) (hw : ∀ w ∈ [Cond.instanceMethod y, .initialized y.cls, .code y bytes maxL none], w ∈ TB) (hname : y.name = "<init>") (hd : kHd y n) (hn : As.length = n) (hR : rm.frames + 1 ≤ R.frames ∧ 8 + (maxL + 11) + rm.locals ≤ R.locals) (hf : cells + rm.cells ≤ R.cells ∧ slots + rm.slots ≤ R.slots) (hls : ls.size = nL) (hst : (rest.map fun v => v.category).sum ≤ 8) {st0 : List Value} (hs0 : st0 = As.reverse ++ .ref q :: rest) (hdg : decode cc pc = .ok (.invokespecial index, 3))
    (kk : ∀ (w1 : va_W) (H1 : Heap) (locs1 : List Loc), post w1 → va_P D vwCl (ws ++ w1) H1 → va_D A (ws ++ w1) → va_S A H0 H1 locs1 → W p l e R s m args below meth c H1 locs1 (cells + rm.cells) (slots + rm.slots) Q (F0 m (pc + 3) ls rest)) : W p l e R s m args below meth c H locs cells slots Q (F0 m pc ls st0) := by
  subst hs0
  obtain ⟨hx, hb, hml, hown, hts, -, -, -, hK, hN, hO⟩ := ha
  have hF := mfree hD hS hA
  refine va_callv (va_runIN (As := As) (rest := rest) (host := host) ⟨hx, hb, hml, hown, hts⟩ (hM H.size) ⟨⟨⟨rfl, rfl, hR.1, hR.2, tb_pay hts (hw _ (by simp)), List.mem_cons_self⟩, hts _ (hw _ (by simp)), hts _ (hw _ (by simp)), ⟨hd.1, hd.2.1⟩, fun sig h => (by have h2 := hd.2.2; rw [h] at h2; exact (Option.some.inj h2).symm), va_Nw.use rfl (hN _ hl)⟩, hname, hts _ (hw _ (by simp))⟩ ⟨mblind, fun U hU hW => ⟨rfl, by rw [hU], by rw [hU]; exact mone_P hP, va_K.moved hW.alike hK, mone_D, nb_warm hW hN, hO.moved hW.alike⟩⟩ rfl hn hls rfl (lv_room hst) hdg hf) hS (fun x _ h => hF x h) hF (fun u t H1 locs1 ht hvm hp hB hz1 hk1 hS1 => ?_)
  obtain ⟨hP1, hD1⟩ := hB
  rw [ht] at hP1
  obtain ⟨hP2, hD2⟩ := mk_join hP hD hk1 hF hP1 hD1
  exact kk u H1 locs1 hp hP2 hD2 hS1
theorem mk_ret (ha : AmbN p c cc nL s args own m meth D a) {w0 : va_W} {post : va_W → Prop} (hP : va_P D vwCl ws H) (hD : va_D (va_A w0 s.heap.size) ws) (hS : va_S (va_A w0 s.heap.size) s.heap H locs) (hp : post ws) (hdg : decode cc pc = .ok (.return_, 1)) : W p l e R s m args below meth c H locs cells slots (MQ below (va_Qv post (mB D w0 s.heap.size) (va_A w0 s.heap.size)) args s cells slots (va_A w0 s.heap.size)) (F0 m pc ls []) := by
  obtain ⟨hx, hb, -, -, -, hr, hlk, -⟩ := ha
  exact W.vret hx hb hr (fun t ht hW => ⟨⟨ws, rfl, hp, by rw [ht]; exact hP, hD⟩, hS.F ht⟩) hS.2.2 hdg (hlocks := hlk)
end MK
/-- six rows of four ints, and the row over them -/
def gridW (a : Nat → ClassId) (q : Nat) (r : Nat → Nat) : va_W := [(q, .inl (a 3, 6, .inr (.inr (.inr (.inr (fun i => if i < 6 then some (r i) else none)))))), (r 0, .inl (a 0, 4, .inl (fun _ => 0))), (r 1, .inl (a 0, 4, .inl (fun _ => 0))), (r 2, .inl (a 0, 4, .inl (fun _ => 0))), (r 3, .inl (a 0, 4, .inl (fun _ => 0))), (r 4, .inl (a 0, 4, .inl (fun _ => 0))), (r 5, .inl (a 0, 4, .inl (fun _ => 0)))]
theorem outer_q (x : ClassId) (N h0 : Nat) : ∀ i : Nat, Jvm.Free.Multi.outerC x N h0 i = vp_cell x (N, .inr (.inr (.inr (.inr (fun j => if j < i then some (h0 + 1 + j) else none)))))
  | 0 => by
    rw [vp_cell_q]
    show ({ cls := x, slots := Array.replicate N .null, vm := .none } : Cell) = _
    rw [arrV_new]
    exact congrArg (arrV x N) (funext fun j => by simp [va_rf])
  | i + 1 => by
    show (Jvm.Free.Multi.outerC x N h0 i).setSlot i (.ref (h0 + 1 + i)) = _
    rw [outer_q x N h0 i, vp_cell_q, vp_cell_q, arrV_store]
    refine congrArg (arrV x N) (funext fun j => ?_)
    by_cases e : j = i
    · subst e; simp [updV, va_rf]
    · by_cases h : j < i
      · simp [updV, e, h, Nat.lt_succ_of_lt h]
      · simp [updV, e, h, show ¬ j < i + 1 by omega]
section MKG
variable {p : Program} {l : Launch} {e : Env} {R : Room} {s : State} {m : MethodId} {args : Array Value} {below : List Frame} {meth : Method} {c : Code} {H : Heap} {locs : List Loc} {cells slots : Nat} {Q : State → Prop}
variable {cc : ByteArray} {pc nL : Nat} {ls : Array Slot} {rest : List Value} {D : va_G} {a : Nat → ClassId} {A : Nat → Prop} {ws : va_W} {H0 : Heap} {own : String}
set_option maxHeartbeats 1000000 in
theorem mk_grid (hx : p.tables.exec = Jvm.exec) (hb : c.code = cc) {index : Nat} (hown : s.vm.findClass own = some m.cls) (hclink : (Cond.classLink own index ("[" ++ (FieldType.array .int).toString)).before args s = true) (hover : (Cond.arrayOver (.array .int)).before #[] s = true) (harr : (Cond.arrayClass .int).before args s = true)
    (hK : va_K D vwCl (gTy a) s) (hP : va_P D vwCl ws H) (hD : va_D A ws) (hS : va_S A H0 H locs) (hA : ∀ q, H0.size ≤ q → A q) (hcells : cells + 7 ≤ R.cells) (hslots : slots + 30 ≤ R.slots) (hdg : decode cc pc = .ok (.multianewarray index 2, 4))
    (kk : ∀ (q : Nat) (r : Nat → Nat) (H1 : Heap), va_P D vwCl (ws ++ gridW a q r) H1 → va_D A (ws ++ gridW a q r) → va_S A H0 H1 locs → W p l e R s m args below meth c H1 locs (cells + 7) (slots + 30) Q (F0 m (pc + 4) ls (.ref q :: rest))) : W p l e R s m args below meth c H locs cells slots Q (F0 m pc ls (.int 4 :: .int 6 :: rest)) := by
  intro T hT Xs
  obtain ⟨vm₁, cA, comp, -, fA, fC, hO, -, X', step⟩ := Xs.multianewarray2F (ty := .int) hx hown hclink hover harr (g := F0 m pc ls (.int 4 :: .int 6 :: rest)) (n := 6) (k := 4) (rest := rest) rfl (by rw [hb]; exact hdg) rfl (by decide) (by decide) (by decide) (by decide) (by decide) rfl rfl (by show cells + (1 + 6) ≤ R.cells; omega) (by show slots + (6 + 6 * 4) ≤ R.slots; omega)
  have e0 : comp = a 0 := Option.some.inj (fC.symm.trans (show s.vm.findClass ("[" ++ FieldType.int.toString) = some (a 0) from (hK.2 0 (a 0, .int) rfl).2))
  have e3 : cA = a 3 := Option.some.inj (fA.symm.trans (show s.vm.findClass ("[" ++ (FieldType.array .int).toString) = some (a 3) from (hK.2 3 (a 3, .array .int) rfl).2))
  subst e0 e3
  have hTh : (T.setVm vm₁).heap = H := hT
  obtain ⟨f1, f2, -, -⟩ := Jvm.Free.Multi.fill_facts (T.setVm vm₁) (a 3) (a 0) 6 4 (defaultValue .int) 6
  have hold : ∀ x : Nat, x < H.size → (Jvm.Free.Multi.fill (T.setVm vm₁) (a 3) (a 0) 6 4 (defaultValue .int) 6).heap[x]? = H[x]? := fun x hx => by
    have q := Jvm.Free.Multi.fill_old (T.setVm vm₁) (a 3) (a 0) 6 4 (defaultValue .int) (a := x) (by rw [hTh]; exact hx) 6
    rw [hTh] at q; exact q
  have hrow : ∀ j : Nat, j < 6 → (Jvm.Free.Multi.fill (T.setVm vm₁) (a 3) (a 0) 6 4 (defaultValue .int) 6).heap[H.size + 1 + j]? = some (vp_cell (a 0) (4, .inl (fun _ => 0))) := fun j hj => by
    have q := Jvm.Free.Multi.fill_inner (T.setVm vm₁) (a 3) (a 0) 6 4 (defaultValue .int) 6 j hj
    rw [hTh] at q
    rw [q]; rfl
  rw [hTh] at f1 f2
  rw [outer_q] at f2
  generalize hF : Jvm.Free.Multi.fill (T.setVm vm₁) (a 3) (a 0) 6 4 (defaultValue .int) 6 = F at f1 f2 hold hrow
  have X2 : Stand p l e R s m args below meth c F locs (cells + 7) (slots + 30) := by rw [← hF]; exact X'
  have cellP : ∀ (k : Nat) (x : Nat × va_E), (gridW a H.size (fun i => H.size + 1 + i))[k]? = some x → va_at D vwCl x F.heap ∧ x.1 = H.size + k ∧ k < 7 := fun k x hx => by
    have hl : k < 7 := (List.getElem?_eq_some_iff.mp hx).1
    rcases (show k = 0 ∨ k = 1 ∨ k = 2 ∨ k = 3 ∨ k = 4 ∨ k = 5 ∨ k = 6 by omega) with rfl | rfl | rfl | rfl | rfl | rfl | rfl
    · cases hx; exact ⟨f2, rfl, hl⟩
    · cases hx; exact ⟨hrow 0 (by decide), rfl, hl⟩
    · cases hx; exact ⟨hrow 1 (by decide), rfl, hl⟩
    · cases hx; exact ⟨hrow 2 (by decide), rfl, hl⟩
    · cases hx; exact ⟨hrow 3 (by decide), rfl, hl⟩
    · cases hx; exact ⟨hrow 4 (by decide), rfl, hl⟩
    · cases hx; exact ⟨hrow 5 (by decide), rfl, hl⟩
  have hP2 : va_P D vwCl (ws ++ gridW a H.size (fun i => H.size + 1 + i)) F.heap := (hP.kept (fun k x hx => hold x.1 ((hP k x hx).lt))).app fun k x hx => (cellP k x hx).1
  have hD2 : va_D A (ws ++ gridW a H.size (fun i => H.size + 1 + i)) := va_D.app hD ⟨fun i j x y hi hj h => by
      have h1 := (cellP i x hi).2.1
      have h2 := (cellP j y hj).2.1
      omega, fun k x hx => hA x.1 (by have := (cellP k x hx).2.1; have := hS.1; omega)⟩ (fun i j x y hx hy h => by
      have h1 := (hP i x hx).lt
      have h2 := (cellP j y hy).2.1
      omega)
  obtain ⟨t, b1, b2⟩ := kk H.size (fun i => H.size + 1 + i) F.heap hP2 hD2 ⟨Nat.le_trans hS.1 (by omega), fun x h1 h2 => (hold x (Nat.lt_of_lt_of_le h1 hS.1)).trans (hS.2.1 x h1 h2), hS.2.2⟩ F rfl X2
  refine ⟨t, step t ?_, b2⟩
  show Steps p.tables e below ((Jvm.Free.Multi.fill (T.setVm vm₁) (a 3) (a 0) 6 4 (defaultValue .int) 6).setTop (F0 m (pc + 4) ls (.ref T.heap.size :: rest))) t
  rw [hF, hT]
  exact b1
end MKG

