/-! rows of the walk over such worlds -/
abbrev xLoc (cs : Mem → Nat → va_E) : Prop := ∀ (σ τ : Mem) (i : Nat), σ i = τ i → cs σ i = cs τ i
theorem xup {cs : Mem → Nat → va_E} (hloc : xLoc cs) {σ τ : Mem} {o : Nat} (h : ∀ q, q ≠ o → τ q = σ q) {e : va_E} (he : cs τ o = e) : va_up (cs σ) o e = cs τ := by
  funext q
  by_cases hq : q = o
  · rw [hq, va_up_self, he]
  · rw [va_up_ne _ _ hq]; exact hloc _ _ _ (h q hq).symm
theorem xA_in {G : GT} {N : Nat} {H0 H : Heap} {A : Nat → Prop} {locs : List Loc} (hS : va_S A H0 H locs) : ∀ q, xA G N H.size q → xA G N H0.size q := fun q h => by
  rcases h with h | h
  · exact Or.inl h
  · exact Or.inr (Nat.le_trans hS.1 h)
section XR
variable {p : Program} {l : Launch} {e : Env} {R : Room} {s : State} {m : MethodId} {args : Array Value} {below : List Frame} {meth : Method} {c : Code} {H : Heap} {locs : List Loc} {cells slots : Nat} {Q : State → Prop}
variable {cc : ByteArray} {pc nL : Nat} {ls : Array Slot} {rest : List Value} {G : GT} {N : Nat} {own : String} {ret : Option FieldType} {cw : Nat → va_E} {cs : Mem → Nat → va_E} {σ : Mem}
theorem xget (ha : Amb p c cc nL s args own m meth ret G N) (hP : va_P G.2.1 vwCl (wl G N cw) H) (o : Nat) (ho : o < N) {ci : Nat} {fs : List Value} (hc : cw o = .inr (ci, fs)) {C : String} {T : u_T} {n index : Nat} (hcl : vwCl[ci]? = some (C, T, n)) (hin : ∀ w ∈ u_ws C T n, w ∈ TB) (k : Nat) (hk : k < n) (hw : Cond.fieldLink own index (T k).1 (T k).2.1 (T k).2.2.1 ∈ TB) {v : Value} (hv : fs[k]? = some v) (hdg : decode cc pc = .ok (.getfield index, 3))
    (kk : W p l e R s m args below meth c H locs cells slots Q (F0 m (pc + 3) ls (v :: rest))) : W p l e R s m args below meth c H locs cells slots Q (F0 m pc ls (.ref (G.1 o) :: rest)) := by
  obtain ⟨hx, hb, -, hown, hts, -, -, hK, -⟩ := ha
  exact va_get (D := G.2.1) (ci := ci) (v := v) (fs := fs) (C := C) (T := T) (N := n) hx hb hts hin hown hK hP o (by rw [wl_get ho, hc]) hcl k hk (hts _ hw) (fun _ h => h) hv hdg kk
theorem xput (ha : Amb p c cc nL s args own m meth ret G N) (hP : va_P G.2.1 vwCl (wl G N (cs σ)) H) (hS : va_S (xA G N s.heap.size) s.heap H locs) (hloc : xLoc cs) (o : Nat) (ho : o < N) {ci : Nat} {fs : List Value} (hc : cs σ o = .inr (ci, fs)) {C : String} {T : u_T} {n index : Nat} (hcl : vwCl[ci]? = some (C, T, n)) (hin : ∀ w ∈ u_ws C T n, w ∈ TB) (ty0 : Nat → FieldType) (hty : ∀ k, k < n → parseFieldDescriptor (T k).2.2.1 = some (ty0 k)) (hnm : ∀ a, a < n → ∀ b, b < n → a ≠ b → (T a).2.1 ≠ (T b).2.1)
    (k : Nat) (hk : k < n) (hw : Cond.fieldLink own index (T k).1 (T k).2.1 (T k).2.2.1 ∈ TB) (hfin : (T k).2.2.2 = false) {v : Value} (hn : narrow (ty0 k) v = v) (hfit : fits (ty0 k) v = true) (hl : k < fs.length) (τ : Mem) (hτ : ∀ q, q ≠ o → τ q = σ q) (hset : cs τ o = .inr (ci, fs.set k v)) (hdg : decode cc pc = .ok (.putfield index, 3))
    (kk : ∀ (H : Heap) (locs : List Loc), va_P G.2.1 vwCl (wl G N (cs τ)) H → va_S (xA G N s.heap.size) s.heap H locs → W p l e R s m args below meth c H locs cells slots Q (F0 m (pc + 3) ls rest)) : W p l e R s m args below meth c H locs cells slots Q (F0 m pc ls (v :: .ref (G.1 o) :: rest)) := by
  obtain ⟨hx, hb, -, hown, hts, -, -, hK, hD, -⟩ := ha
  refine va_put (D := G.2.1) (ci := ci) (v := v) (ty := ty0 k) (fs := fs) (C := C) (T := T) (N := n) hx hb hts hin ty0 hty hnm hown hK hP (wl_D hD) hS o (by rw [wl_get ho, hc]) hcl k hk (hts _ hw) (fun _ h => h) hfin (hty k hk) hn hfit hl hdg (fun H1 locs1 hP1 hD1 hS1 => kk H1 locs1 ?_ hS1)
  rw [wl_set ho, xup hloc hτ hset] at hP1
  exact hP1
theorem xiald (ha : Amb p c cc nL s args own m meth ret G N) (hP : va_P G.2.1 vwCl (wl G N cw) H) (o : Nat) (ho : o < N) {n : Nat} {f : Nat → Int32} (hc : cw o = .inl (G.2.2 0, n, .inl f)) {i : Int32} (hin : vp_in i n) (hdg : decode cc pc = .ok (.iaload, 1))
    (kk : W p l e R s m args below meth c H locs cells slots Q (F0 m (pc + 1) ls (.int (f i.toNatClampNeg) :: rest))) : W p l e R s m args below meth c H locs cells slots Q (F0 m pc ls (.int i :: .ref (G.1 o) :: rest)) := by
  obtain ⟨hx, hb, -, hown, hts, -, -, hK, -⟩ := ha
  exact va_iald (D := G.2.1) hx hb hK hP o 0 (by rw [wl_get ho, hc]) rfl hin hdg kk
theorem xialdN (ha : Amb p c cc nL s args own m meth ret G N) (hP : va_P G.2.1 vwCl (wl G N cw) H) (o : Nat) (ho : o < N) {n : Nat} {f : Nat → Int32} (hc : cw o = .inl (G.2.2 0, n, .inl f)) {i : Int32} (j : Nat) (hj : i = nI j) (hjn : j < n) (hn : Nat.blt n 2147483648 = true) (hdg : decode cc pc = .ok (.iaload, 1))
    (kk : W p l e R s m args below meth c H locs cells slots Q (F0 m (pc + 1) ls (.int (f j) :: rest))) : W p l e R s m args below meth c H locs cells slots Q (F0 m pc ls (.int i :: .ref (G.1 o) :: rest)) := by
  subst hj
  have hn' : n < 2 ^ 31 := by have := Nat.blt_eq.mp hn; omega
  refine xiald ha hP o ho hc (vp_in_nI hjn hn') hdg ?_
  rw [nI_clamp (by omega)]
  exact kk
theorem xiast (ha : Amb p c cc nL s args own m meth ret G N) (hP : va_P G.2.1 vwCl (wl G N (cs σ)) H) (hS : va_S (xA G N s.heap.size) s.heap H locs) (hloc : xLoc cs) (o : Nat) (ho : o < N) {n : Nat} (hc : ∀ τ : Mem, cs τ o = .inl (G.2.2 0, n, .inl (τ o))) {i x : Int32} (hin : vp_in i n) (hdg : decode cc pc = .ok (.iastore, 1))
    (kk : ∀ (H : Heap) (locs : List Loc), va_P G.2.1 vwCl (wl G N (cs (mU σ o i.toNatClampNeg x))) H → va_S (xA G N s.heap.size) s.heap H locs → W p l e R s m args below meth c H locs cells slots Q (F0 m (pc + 1) ls rest)) : W p l e R s m args below meth c H locs cells slots Q (F0 m pc ls (.int x :: .int i :: .ref (G.1 o) :: rest)) := by
  obtain ⟨hx, hb, -, hown, hts, -, -, hK, hD, -⟩ := ha
  refine va_iast (D := G.2.1) (f := σ o) hx hb hK hP (wl_D hD) hS o 0 (by rw [wl_get ho, hc]) rfl hin hdg (fun H1 locs1 hP1 hD1 hS1 => kk H1 locs1 ?_ hS1)
  rw [wl_set ho, xup hloc (τ := mU σ o i.toNatClampNeg x) (fun q hq => mU_n σ _ _ hq) (by rw [hc, mU_s])] at hP1
  exact hP1
theorem xiastN (ha : Amb p c cc nL s args own m meth ret G N) (hP : va_P G.2.1 vwCl (wl G N (cs σ)) H) (hS : va_S (xA G N s.heap.size) s.heap H locs) (hloc : xLoc cs) (o : Nat) (ho : o < N) {n : Nat} (hc : ∀ τ : Mem, cs τ o = .inl (G.2.2 0, n, .inl (τ o))) {i x : Int32} (j : Nat) (hj : i = nI j) (hjn : j < n) (hn : Nat.blt n 2147483648 = true) (hdg : decode cc pc = .ok (.iastore, 1))
    (kk : ∀ (H : Heap) (locs : List Loc), va_P G.2.1 vwCl (wl G N (cs (mU σ o j x))) H → va_S (xA G N s.heap.size) s.heap H locs → W p l e R s m args below meth c H locs cells slots Q (F0 m (pc + 1) ls rest)) : W p l e R s m args below meth c H locs cells slots Q (F0 m pc ls (.int x :: .int i :: .ref (G.1 o) :: rest)) := by
  subst hj
  have hn' : n < 2 ^ 31 := by have := Nat.blt_eq.mp hn; omega
  refine xiast ha hP hS hloc o ho hc (vp_in_nI hjn hn') hdg ?_
  rw [nI_clamp (by omega)]
  exact kk
theorem xalen (ha : Amb p c cc nL s args own m meth ret G N) (hP : va_P G.2.1 vwCl (wl G N cw) H) (o : Nat) (ho : o < N) (t0 : Nat) {x : vp_A} {cA : ClassId} {ty : FieldType} (hc : cw o = .inl (cA, x)) (ht : (gT G)[t0]? = some (cA, ty)) {v : Int32} (hv : Int32.ofNat x.1 = v) (hdg : decode cc pc = .ok (.arraylength, 1))
    (kk : W p l e R s m args below meth c H locs cells slots Q (F0 m (pc + 1) ls (.int v :: rest))) : W p l e R s m args below meth c H locs cells slots Q (F0 m pc ls (.ref (G.1 o) :: rest)) := by
  obtain ⟨hx, hb, -, hown, hts, -, -, hK, -⟩ := ha
  exact va_alen (D := G.2.1) hx hb hK hP o t0 (by rw [wl_get ho, hc]) ht hv hdg kk
/-- a row of references: objects' at t0 1, 2; rows' at 3 -/
theorem xaald (ha : Amb p c cc nL s args own m meth ret G N) (hP : va_P G.2.1 vwCl (wl G N cw) H) (o : Nat) (ho : o < N) (t0 : Nat) {ty : FieldType} {cA : ClassId} {n : Nat} {f : Nat → Option Nat} (hc : cw o = .inl (cA, n, .inr (.inr (.inr (.inr f))))) (ht : (gT G)[t0]? = some (cA, ty)) (hrk : refKind ty = true) {i : Int32} (j : Nat) (hj : i = nI j) (hjn : j < n) (hn : Nat.blt n 2147483648 = true) {q : Nat} (hq : f j = some q) (hdg : decode cc pc = .ok (.aaload, 1))
    (kk : W p l e R s m args below meth c H locs cells slots Q (F0 m (pc + 1) ls (.ref q :: rest))) : W p l e R s m args below meth c H locs cells slots Q (F0 m pc ls (.int i :: .ref (G.1 o) :: rest)) := by
  obtain ⟨hx, hb, -, hown, hts, -, -, hK, -⟩ := ha
  subst hj
  have hn' : n < 2 ^ 31 := by have := Nat.blt_eq.mp hn; omega
  have hin : vp_in (nI j) n := vp_in_nI hjn hn'
  have hk : (nI j).toNatClampNeg = j := nI_clamp (by omega)
  have hPo := wl_P hP ho
  rw [hc] at hPo
  cases ty with
  | object C =>
    refine W.aald (v := va_rf (f (nI j).toNatClampNeg)) (ty := .object C) hx hb hPo ((hK.2 t0 _ ht).1 n (fun j => va_rf (f j))) rfl (fun q => by cases q) (by show ¬ (nI j < 0 ∨ (arrV _ _ _).slots.size ≤ _); rw [arrV_size]; exact hin) (by show (arrV _ _ _).slots[_]? = _; rw [arrV_read _ _ (by rw [hk]; exact hjn)]) rfl rfl hdg ?_
    rw [hk, hq]
    exact kk
  | array t =>
    refine W.aald (v := va_rf (f (nI j).toNatClampNeg)) (ty := .array t) hx hb hPo ((hK.2 t0 _ ht).1 n (fun j => va_rf (f j))) rfl (fun q => by cases q) (by show ¬ (nI j < 0 ∨ (arrV _ _ _).slots.size ≤ _); rw [arrV_size]; exact hin) (by show (arrV _ _ _).slots[_]? = _; rw [arrV_read _ _ (by rw [hk]; exact hjn)]) rfl rfl hdg ?_
    rw [hk, hq]
    exact kk
  | _ => cases hrk

theorem xiret (ha : Amb p c cc nL s args own m meth (some .int) G N) (hP : va_P G.2.1 vwCl (wl G N (cs σ)) H) (hS : va_S (xA G N s.heap.size) s.heap H locs) {v : Int32} (hdg : decode cc pc = .ok (.ireturn, 1)) {post : Int32 → Mem → Prop} (hp : post v σ) {below : List Frame} {st0 : List Value} (hst : st0 = [.int v]) : W p l e R s m args below meth c H locs cells slots (MQ below (va_Qi post (xB G N cs) (xA G N s.heap.size)) args s cells slots (xA G N s.heap.size)) (F0 m pc ls st0) := by
  subst hst
  obtain ⟨hx, hb, -, -, -, hr, hlk, -⟩ := ha
  exact W.iret (v := v) hx hb hr (fun t ht hW => ⟨⟨v, σ, rfl, hp, by show va_P _ _ _ t.heap; rw [ht]; exact hP⟩, hS.F ht⟩) hS.2.2 hdg (hlocks := hlk)

theorem xzret (ha : Amb p c cc nL s args own m meth (some .boolean) G N) (hP : va_P G.2.1 vwCl (wl G N (cs σ)) H) (hS : va_S (xA G N s.heap.size) s.heap H locs) {v : Int32} (hv : narrow .boolean (.int v) = .int v) (hdg : decode cc pc = .ok (.ireturn, 1)) {post : Int32 → Mem → Prop} (hp : post v σ) {below : List Frame} {st0 : List Value} (hst : st0 = [.int v]) : W p l e R s m args below meth c H locs cells slots (MQ below (va_Qi post (xB G N cs) (xA G N s.heap.size)) args s cells slots (xA G N s.heap.size)) (F0 m pc ls st0) := by
  subst hst
  obtain ⟨hx, hb, -, -, -, hr, hlk, -⟩ := ha
  exact W.zret (v := v) hx hb hr hv (fun t ht hW => ⟨⟨v, σ, rfl, hp, by show va_P _ _ _ t.heap; rw [ht]; exact hP⟩, hS.F ht⟩) hS.2.2 hdg (hlocks := hlk)

theorem xlret (ha : Amb p c cc nL s args own m meth (some .long) G N) (hP : va_P G.2.1 vwCl (wl G N (cs σ)) H) (hS : va_S (xA G N s.heap.size) s.heap H locs) {v : Int64} (hdg : decode cc pc = .ok (.lreturn, 1)) {post : Int64 → Mem → Prop} (hp : post v σ) {below : List Frame} {st0 : List Value} (hst : st0 = [.long v]) : W p l e R s m args below meth c H locs cells slots (MQ below (va_Ql post (xB G N cs) (xA G N s.heap.size)) args s cells slots (xA G N s.heap.size)) (F0 m pc ls st0) := by
  subst hst
  obtain ⟨hx, hb, -, -, -, hr, hlk, -⟩ := ha
  exact W.lret (v := v) hx hb hr (fun t ht hW => ⟨⟨v, σ, rfl, hp, by show va_P _ _ _ t.heap; rw [ht]; exact hP⟩, hS.F ht⟩) hS.2.2 hdg (hlocks := hlk)

theorem xvret (ha : Amb p c cc nL s args own m meth none G N) (hP : va_P G.2.1 vwCl (wl G N (cs σ)) H) (hS : va_S (xA G N s.heap.size) s.heap H locs) (hdg : decode cc pc = .ok (.return_, 1)) {post : Mem → Prop} (hp : post σ) {below : List Frame} : W p l e R s m args below meth c H locs cells slots (MQ below (va_Qv post (xB G N cs) (xA G N s.heap.size)) args s cells slots (xA G N s.heap.size)) (F0 m pc ls []) := by
  obtain ⟨hx, hb, -, -, -, hr, hlk, -⟩ := ha
  exact W.vret hx hb hr (fun t ht hW => ⟨⟨σ, rfl, hp, by show va_P _ _ _ t.heap; rw [ht]; exact hP⟩, hS.F ht⟩) hS.2.2 hdg (hlocks := hlk)
theorem xqret {C : String} (ha : Amb p c cc nL s args own m meth (some (.object C)) G N) (hP : va_P G.2.1 vwCl (wl G N (cs σ)) H) (hS : va_S (xA G N s.heap.size) s.heap H locs) (r : Option Nat) (hdg : decode cc pc = .ok (.areturn, 1)) {post : Option Nat → Mem → Prop} (hp : post r σ) {below : List Frame} {st0 : List Value} (hst : st0 = [va_rf r]) : W p l e R s m args below meth c H locs cells slots (MQ below (va_Qq post (xB G N cs) (xA G N s.heap.size)) args s cells slots (xA G N s.heap.size)) (F0 m pc ls st0) := by
  subst hst
  obtain ⟨hx, hb, -, -, -, hr, hlk, -⟩ := ha
  exact W.aret (v := va_rf r) hx hb hr (Or.inl ⟨C, rfl⟩) (va_rf_or r) (fun t ht hW => ⟨⟨r, σ, rfl, hp, by show va_P _ _ _ t.heap; rw [ht]; exact hP⟩, hS.F ht⟩) hS.2.2 hdg (hlocks := hlk)

theorem xblind {As : List Value} {sz : Nat} : FrameBlind (va_Pc As (xPre G N cw sz)) := by
  intro a U g mk q
  obtain ⟨q1, q2, q3, q4, q5, q6, q7⟩ := q
  exact ⟨q1, q2, q3, va_K.moved (u := U) (U := U.calling g mk a) (Vm.Alike.refl U.vm) q4, q5, nb_same (s := U) (U := U.calling g mk a) rfl q6, xKL.moved (u := U) (U := U.calling g mk a) (Vm.Alike.refl U.vm) q7⟩
theorem xpre_of (ha : Amb p c cc nL s args own m meth ret G N) (hP : va_P G.2.1 vwCl (wl G N cw) H) (hS : va_S (xA G N s.heap.size) s.heap H locs) {As : List Value} {a : Array Value} (hAs : a = As.toArray) : ∀ U : State, U.heap = H → s.WarmedH U.vm → va_Pc As (xPre G N cw H.size) a U := by
  intro U hU hW
  obtain ⟨hx, hb, -, hown, hts, -, -, hK, hD, hN, hL⟩ := ha
  refine ⟨hAs, by rw [hU], by rw [hU]; exact hP, va_K.moved hW.alike hK, (wl_D hD).weaken (fun _ _ _ _ => trivial), nb_warm hW hN, ?_⟩
  rw [hU]
  exact (hL.moved hW.alike).on hS

set_option maxHeartbeats 1000000 in
theorem xVi (ha : Amb p c cc nL s args own m meth ret G N) (hP : va_P G.2.1 vwCl (wl G N (cs σ)) H) (hS : va_S (xA G N s.heap.size) s.heap H locs) {y : MethodName} {bytes : ByteArray} {maxL index : Nat} {rty : Option FieldType} {rm : Room} {As : List Value} {post : Int32 → Mem → Prop} {n : Nat} (o : Nat) (ho : o < N) {ci : Nat} {fs : List Value} (hc : cs σ o = .inr (ci, fs)) {q : vw_C} (hci : vwCl[ci]? = some q) (hq : q.1 = y.cls) (hM : CI G N cs l y rm bytes maxL rty (.ref (G.1 o) :: As) σ post) (hw : ∀ w ∈ k5V own index y bytes maxL rty, w ∈ TB) (hd : kHd y n) (hn : As.length = n) (hz : rm.cells = 0 ∧ rm.slots = 0) (hR : rm.frames + 1 ≤ R.frames ∧ 8 + (maxL + 11) + rm.locals ≤ R.locals) (hf : cells ≤ R.cells ∧ slots ≤ R.slots) (hls : ls.size = nL) (hst : (rest.map fun v => v.category).sum ≤ 8) {st0 : List Value} (hs0 : st0 = As.reverse ++ .ref (G.1 o) :: rest) (hdg : decode cc pc = .ok (.invokevirtual index, 3))
    (kk : ∀ (r : Int32) (u : Mem) (H : Heap) (locs : List Loc), post r u → va_P G.2.1 vwCl (wl G N (cs u)) H → va_S (xA G N s.heap.size) s.heap H locs → W p l e R s m args below meth c H locs cells slots Q (F0 m (pc + 3) ls (.int r :: rest))) : W p l e R s m args below meth c H locs cells slots Q (F0 m pc ls st0) := by
  subst hs0
  have ha0 := ha
  obtain ⟨hx, hb, hml, hown, hts, -, -, hK, hD, hN, hL⟩ := ha
  have h9 : CallW R s args own y.cls index y bytes maxL rty (.code y bytes maxL rty :: TB) rm rm.cells rm.slots n := ⟨k_cwB n hts (hw _ (by simp [k5V])) (hw _ (by simp [k5V])) (hw _ (by simp [k5V])) hd hR, hts _ (hw _ (by simp [k5V])), hts _ (hw _ (by simp [k5V]))⟩
  rw [hz.1, hz.2] at h9
  refine va_calli (va_runV (As := As) (rest := rest) ⟨hx, hb, hml, hown, hts⟩ (hM H.size) h9 ⟨xblind, by rw [← hq]; exact va_recv hK hP hci (by rw [wl_get ho, hc]), xpre_of ha0 hP hS rfl⟩ rfl hn hls rfl (lv_room hst) hdg ⟨hf.1, hf.2⟩) hS (fun q _ h => xA_in hS q h) (fun q h => xA_in hS q h) (fun r u t H1 locs1 ht hvm hp hB hz1 hk1 hS1 => ?_)
  have hP1 : va_P G.2.1 vwCl (wl G N (cs u)) t.heap := hB
  rw [ht] at hP1
  exact kk r u H1 locs1 hp hP1 hS1

set_option maxHeartbeats 1000000 in
theorem xVl (ha : Amb p c cc nL s args own m meth ret G N) (hP : va_P G.2.1 vwCl (wl G N (cs σ)) H) (hS : va_S (xA G N s.heap.size) s.heap H locs) {y : MethodName} {bytes : ByteArray} {maxL index : Nat} {rty : Option FieldType} {rm : Room} {As : List Value} {post : Int64 → Mem → Prop} {n : Nat} (o : Nat) (ho : o < N) {ci : Nat} {fs : List Value} (hc : cs σ o = .inr (ci, fs)) {q : vw_C} (hci : vwCl[ci]? = some q) (hq : q.1 = y.cls) (hM : CL G N cs l y rm bytes maxL rty (.ref (G.1 o) :: As) σ post) (hw : ∀ w ∈ k5V own index y bytes maxL rty, w ∈ TB) (hd : kHd y n) (hn : As.length = n) (hz : rm.cells = 0 ∧ rm.slots = 0) (hR : rm.frames + 1 ≤ R.frames ∧ 8 + (maxL + 11) + rm.locals ≤ R.locals) (hf : cells ≤ R.cells ∧ slots ≤ R.slots) (hls : ls.size = nL) (hst : (rest.map fun v => v.category).sum ≤ 8) {st0 : List Value} (hs0 : st0 = As.reverse ++ .ref (G.1 o) :: rest) (hdg : decode cc pc = .ok (.invokevirtual index, 3))
    (kk : ∀ (r : Int64) (u : Mem) (H : Heap) (locs : List Loc), post r u → va_P G.2.1 vwCl (wl G N (cs u)) H → va_S (xA G N s.heap.size) s.heap H locs → W p l e R s m args below meth c H locs cells slots Q (F0 m (pc + 3) ls (.long r :: rest))) : W p l e R s m args below meth c H locs cells slots Q (F0 m pc ls st0) := by
  subst hs0
  have ha0 := ha
  obtain ⟨hx, hb, hml, hown, hts, -, -, hK, hD, hN, hL⟩ := ha
  have h9 : CallW R s args own y.cls index y bytes maxL rty (.code y bytes maxL rty :: TB) rm rm.cells rm.slots n := ⟨k_cwB n hts (hw _ (by simp [k5V])) (hw _ (by simp [k5V])) (hw _ (by simp [k5V])) hd hR, hts _ (hw _ (by simp [k5V])), hts _ (hw _ (by simp [k5V]))⟩
  rw [hz.1, hz.2] at h9
  refine va_calll (va_runV (As := As) (rest := rest) ⟨hx, hb, hml, hown, hts⟩ (hM H.size) h9 ⟨xblind, by rw [← hq]; exact va_recv hK hP hci (by rw [wl_get ho, hc]), xpre_of ha0 hP hS rfl⟩ rfl hn hls rfl (lv_room hst) hdg ⟨hf.1, hf.2⟩) hS (fun q _ h => xA_in hS q h) (fun q h => xA_in hS q h) (fun r u t H1 locs1 ht hvm hp hB hz1 hk1 hS1 => ?_)
  have hP1 : va_P G.2.1 vwCl (wl G N (cs u)) t.heap := hB
  rw [ht] at hP1
  exact kk r u H1 locs1 hp hP1 hS1

set_option maxHeartbeats 1000000 in
theorem xVv (ha : Amb p c cc nL s args own m meth ret G N) (hP : va_P G.2.1 vwCl (wl G N (cs σ)) H) (hS : va_S (xA G N s.heap.size) s.heap H locs) {y : MethodName} {bytes : ByteArray} {maxL index : Nat} {rty : Option FieldType} {rm : Room} {As : List Value} {post : Mem → Prop} {n : Nat} (o : Nat) (ho : o < N) {ci : Nat} {fs : List Value} (hc : cs σ o = .inr (ci, fs)) {q : vw_C} (hci : vwCl[ci]? = some q) (hq : q.1 = y.cls) (hM : CV G N cs l y rm bytes maxL rty (.ref (G.1 o) :: As) σ post) (hw : ∀ w ∈ k5V own index y bytes maxL rty, w ∈ TB) (hd : kHd y n) (hn : As.length = n) (hz : rm.cells = 0 ∧ rm.slots = 0) (hR : rm.frames + 1 ≤ R.frames ∧ 8 + (maxL + 11) + rm.locals ≤ R.locals) (hf : cells ≤ R.cells ∧ slots ≤ R.slots) (hls : ls.size = nL) (hst : (rest.map fun v => v.category).sum ≤ 8) {st0 : List Value} (hs0 : st0 = As.reverse ++ .ref (G.1 o) :: rest) (hdg : decode cc pc = .ok (.invokevirtual index, 3))
    (kk : ∀ (u : Mem) (H : Heap) (locs : List Loc), post u → va_P G.2.1 vwCl (wl G N (cs u)) H → va_S (xA G N s.heap.size) s.heap H locs → W p l e R s m args below meth c H locs cells slots Q (F0 m (pc + 3) ls (rest))) : W p l e R s m args below meth c H locs cells slots Q (F0 m pc ls st0) := by
  subst hs0
  have ha0 := ha
  obtain ⟨hx, hb, hml, hown, hts, -, -, hK, hD, hN, hL⟩ := ha
  have h9 : CallW R s args own y.cls index y bytes maxL rty (.code y bytes maxL rty :: TB) rm rm.cells rm.slots n := ⟨k_cwB n hts (hw _ (by simp [k5V])) (hw _ (by simp [k5V])) (hw _ (by simp [k5V])) hd hR, hts _ (hw _ (by simp [k5V])), hts _ (hw _ (by simp [k5V]))⟩
  rw [hz.1, hz.2] at h9
  refine va_callv (va_runV (As := As) (rest := rest) ⟨hx, hb, hml, hown, hts⟩ (hM H.size) h9 ⟨xblind, by rw [← hq]; exact va_recv hK hP hci (by rw [wl_get ho, hc]), xpre_of ha0 hP hS rfl⟩ rfl hn hls rfl (lv_room hst) hdg ⟨hf.1, hf.2⟩) hS (fun q _ h => xA_in hS q h) (fun q h => xA_in hS q h) (fun u t H1 locs1 ht hvm hp hB hz1 hk1 hS1 => ?_)
  have hP1 : va_P G.2.1 vwCl (wl G N (cs u)) t.heap := hB
  rw [ht] at hP1
  exact kk u H1 locs1 hp hP1 hS1

set_option maxHeartbeats 1000000 in
theorem xVq (ha : Amb p c cc nL s args own m meth ret G N) (hP : va_P G.2.1 vwCl (wl G N (cs σ)) H) (hS : va_S (xA G N s.heap.size) s.heap H locs) {y : MethodName} {bytes : ByteArray} {maxL index : Nat} {rty : Option FieldType} {rm : Room} {As : List Value} {post : Option Nat → Mem → Prop} {n : Nat} (o : Nat) (ho : o < N) {ci : Nat} {fs : List Value} (hc : cs σ o = .inr (ci, fs)) {q : vw_C} (hci : vwCl[ci]? = some q) (hq : q.1 = y.cls) (hM : CQ G N cs l y rm bytes maxL rty (.ref (G.1 o) :: As) σ post) (hw : ∀ w ∈ k5V own index y bytes maxL rty, w ∈ TB) (hd : kHd y n) (hn : As.length = n) (hz : rm.cells = 0 ∧ rm.slots = 0) (hR : rm.frames + 1 ≤ R.frames ∧ 8 + (maxL + 11) + rm.locals ≤ R.locals) (hf : cells ≤ R.cells ∧ slots ≤ R.slots) (hls : ls.size = nL) (hst : (rest.map fun v => v.category).sum ≤ 8) {st0 : List Value} (hs0 : st0 = As.reverse ++ .ref (G.1 o) :: rest) (hdg : decode cc pc = .ok (.invokevirtual index, 3))
    (kk : ∀ (r : Option Nat) (u : Mem) (H : Heap) (locs : List Loc), post r u → va_P G.2.1 vwCl (wl G N (cs u)) H → va_S (xA G N s.heap.size) s.heap H locs → W p l e R s m args below meth c H locs cells slots Q (F0 m (pc + 3) ls (va_rf r :: rest))) : W p l e R s m args below meth c H locs cells slots Q (F0 m pc ls st0) := by
  subst hs0
  have ha0 := ha
  obtain ⟨hx, hb, hml, hown, hts, -, -, hK, hD, hN, hL⟩ := ha
  have h9 : CallW R s args own y.cls index y bytes maxL rty (.code y bytes maxL rty :: TB) rm rm.cells rm.slots n := ⟨k_cwB n hts (hw _ (by simp [k5V])) (hw _ (by simp [k5V])) (hw _ (by simp [k5V])) hd hR, hts _ (hw _ (by simp [k5V])), hts _ (hw _ (by simp [k5V]))⟩
  rw [hz.1, hz.2] at h9
  refine va_callq (va_runV (As := As) (rest := rest) ⟨hx, hb, hml, hown, hts⟩ (hM H.size) h9 ⟨xblind, by rw [← hq]; exact va_recv hK hP hci (by rw [wl_get ho, hc]), xpre_of ha0 hP hS rfl⟩ rfl hn hls rfl (lv_room hst) hdg ⟨hf.1, hf.2⟩) hS (fun q _ h => xA_in hS q h) (fun q h => xA_in hS q h) (fun r u t H1 locs1 ht hvm hp hB hz1 hk1 hS1 => ?_)
  have hP1 : va_P G.2.1 vwCl (wl G N (cs u)) t.heap := hB
  rw [ht] at hP1
  exact kk r u H1 locs1 hp hP1 hS1

set_option maxHeartbeats 1000000 in
theorem xSi (ha : Amb p c cc nL s args own m meth ret G N) (hP : va_P G.2.1 vwCl (wl G N (cs σ)) H) (hS : va_S (xA G N s.heap.size) s.heap H locs) {y : MethodName} {bytes : ByteArray} {maxL index : Nat} {rty : Option FieldType} {rm : Room} {As : List Value} {post : Int32 → Mem → Prop} {n : Nat} (hyc : y.cls = own) (hM : CI G N cs l y rm bytes maxL rty As σ post) (hw : ∀ w ∈ k5S own index y bytes maxL rty, w ∈ TB) (hd : kHd y n) (hn : As.length = n) (hz : rm.cells = 0 ∧ rm.slots = 0) (hR : rm.frames + 1 ≤ R.frames ∧ 8 + (maxL + 11) + rm.locals ≤ R.locals) (hf : cells ≤ R.cells ∧ slots ≤ R.slots) (hls : ls.size = nL) (hst : (rest.map fun v => v.category).sum ≤ 8) {st0 : List Value} (hs0 : st0 = As.reverse ++ rest) (hdg : decode cc pc = .ok (.invokestatic index, 3))
    (kk : ∀ (r : Int32) (u : Mem) (H : Heap) (locs : List Loc), post r u → va_P G.2.1 vwCl (wl G N (cs u)) H → va_S (xA G N s.heap.size) s.heap H locs → W p l e R s m args below meth c H locs cells slots Q (F0 m (pc + 3) ls (.int r :: rest))) : W p l e R s m args below meth c H locs cells slots Q (F0 m pc ls st0) := by
  subst hs0
  have ha0 := ha
  obtain ⟨hx, hb, hml, hown, hts, -, -, hK, hD, hN, hL⟩ := ha
  have h9 : CallB R s args own index y bytes maxL rty (.code y bytes maxL rty :: TB) rm rm.cells rm.slots n ∧ (Cond.static y).before args s = true := ⟨k_cwB n hts (hw _ (by simp [k5S])) (hw _ (by simp [k5S])) (hw _ (by simp [k5S])) hd hR, hts _ (hw _ (by simp [k5S]))⟩
  rw [hz.1, hz.2] at h9
  refine va_calli (va_runS (As := As) (rest := rest) ⟨hx, hb, hml, hown, hts⟩ (hM H.size) h9 ⟨xblind, xpre_of ha0 hP hS rfl⟩ rfl hn hls rfl (lv_room hst) hdg ⟨hf.1, hf.2⟩) hS (fun q _ h => xA_in hS q h) (fun q h => xA_in hS q h) (fun r u t H1 locs1 ht hvm hp hB hz1 hk1 hS1 => ?_)
  have hP1 : va_P G.2.1 vwCl (wl G N (cs u)) t.heap := hB
  rw [ht] at hP1
  exact kk r u H1 locs1 hp hP1 hS1

set_option maxHeartbeats 1000000 in
theorem xSl (ha : Amb p c cc nL s args own m meth ret G N) (hP : va_P G.2.1 vwCl (wl G N (cs σ)) H) (hS : va_S (xA G N s.heap.size) s.heap H locs) {y : MethodName} {bytes : ByteArray} {maxL index : Nat} {rty : Option FieldType} {rm : Room} {As : List Value} {post : Int64 → Mem → Prop} {n : Nat} (hyc : y.cls = own) (hM : CL G N cs l y rm bytes maxL rty As σ post) (hw : ∀ w ∈ k5S own index y bytes maxL rty, w ∈ TB) (hd : kHd y n) (hn : As.length = n) (hz : rm.cells = 0 ∧ rm.slots = 0) (hR : rm.frames + 1 ≤ R.frames ∧ 8 + (maxL + 11) + rm.locals ≤ R.locals) (hf : cells ≤ R.cells ∧ slots ≤ R.slots) (hls : ls.size = nL) (hst : (rest.map fun v => v.category).sum ≤ 8) {st0 : List Value} (hs0 : st0 = As.reverse ++ rest) (hdg : decode cc pc = .ok (.invokestatic index, 3))
    (kk : ∀ (r : Int64) (u : Mem) (H : Heap) (locs : List Loc), post r u → va_P G.2.1 vwCl (wl G N (cs u)) H → va_S (xA G N s.heap.size) s.heap H locs → W p l e R s m args below meth c H locs cells slots Q (F0 m (pc + 3) ls (.long r :: rest))) : W p l e R s m args below meth c H locs cells slots Q (F0 m pc ls st0) := by
  subst hs0
  have ha0 := ha
  obtain ⟨hx, hb, hml, hown, hts, -, -, hK, hD, hN, hL⟩ := ha
  have h9 : CallB R s args own index y bytes maxL rty (.code y bytes maxL rty :: TB) rm rm.cells rm.slots n ∧ (Cond.static y).before args s = true := ⟨k_cwB n hts (hw _ (by simp [k5S])) (hw _ (by simp [k5S])) (hw _ (by simp [k5S])) hd hR, hts _ (hw _ (by simp [k5S]))⟩
  rw [hz.1, hz.2] at h9
  refine va_calll (va_runS (As := As) (rest := rest) ⟨hx, hb, hml, hown, hts⟩ (hM H.size) h9 ⟨xblind, xpre_of ha0 hP hS rfl⟩ rfl hn hls rfl (lv_room hst) hdg ⟨hf.1, hf.2⟩) hS (fun q _ h => xA_in hS q h) (fun q h => xA_in hS q h) (fun r u t H1 locs1 ht hvm hp hB hz1 hk1 hS1 => ?_)
  have hP1 : va_P G.2.1 vwCl (wl G N (cs u)) t.heap := hB
  rw [ht] at hP1
  exact kk r u H1 locs1 hp hP1 hS1

set_option maxHeartbeats 1000000 in
theorem xSv (ha : Amb p c cc nL s args own m meth ret G N) (hP : va_P G.2.1 vwCl (wl G N (cs σ)) H) (hS : va_S (xA G N s.heap.size) s.heap H locs) {y : MethodName} {bytes : ByteArray} {maxL index : Nat} {rty : Option FieldType} {rm : Room} {As : List Value} {post : Mem → Prop} {n : Nat} (hyc : y.cls = own) (hM : CV G N cs l y rm bytes maxL rty As σ post) (hw : ∀ w ∈ k5S own index y bytes maxL rty, w ∈ TB) (hd : kHd y n) (hn : As.length = n) (hz : rm.cells = 0 ∧ rm.slots = 0) (hR : rm.frames + 1 ≤ R.frames ∧ 8 + (maxL + 11) + rm.locals ≤ R.locals) (hf : cells ≤ R.cells ∧ slots ≤ R.slots) (hls : ls.size = nL) (hst : (rest.map fun v => v.category).sum ≤ 8) {st0 : List Value} (hs0 : st0 = As.reverse ++ rest) (hdg : decode cc pc = .ok (.invokestatic index, 3))
    (kk : ∀ (u : Mem) (H : Heap) (locs : List Loc), post u → va_P G.2.1 vwCl (wl G N (cs u)) H → va_S (xA G N s.heap.size) s.heap H locs → W p l e R s m args below meth c H locs cells slots Q (F0 m (pc + 3) ls (rest))) : W p l e R s m args below meth c H locs cells slots Q (F0 m pc ls st0) := by
  subst hs0
  have ha0 := ha
  obtain ⟨hx, hb, hml, hown, hts, -, -, hK, hD, hN, hL⟩ := ha
  have h9 : CallB R s args own index y bytes maxL rty (.code y bytes maxL rty :: TB) rm rm.cells rm.slots n ∧ (Cond.static y).before args s = true := ⟨k_cwB n hts (hw _ (by simp [k5S])) (hw _ (by simp [k5S])) (hw _ (by simp [k5S])) hd hR, hts _ (hw _ (by simp [k5S]))⟩
  rw [hz.1, hz.2] at h9
  refine va_callv (va_runS (As := As) (rest := rest) ⟨hx, hb, hml, hown, hts⟩ (hM H.size) h9 ⟨xblind, xpre_of ha0 hP hS rfl⟩ rfl hn hls rfl (lv_room hst) hdg ⟨hf.1, hf.2⟩) hS (fun q _ h => xA_in hS q h) (fun q h => xA_in hS q h) (fun u t H1 locs1 ht hvm hp hB hz1 hk1 hS1 => ?_)
  have hP1 : va_P G.2.1 vwCl (wl G N (cs u)) t.heap := hB
  rw [ht] at hP1
  exact kk u H1 locs1 hp hP1 hS1

set_option maxHeartbeats 1000000 in
theorem xNi (ha : Amb p c cc nL s args own m meth ret G N) (hP : va_P G.2.1 vwCl (wl G N (cs σ)) H) (hS : va_S (xA G N s.heap.size) s.heap H locs) {y : MethodName} {bytes : ByteArray} {maxL index : Nat} {rty : Option FieldType} {rm : Room} {As : List Value} {post : Int32 → Mem → Prop} {n : Nat} (host : String) (hl : Cond.methodLinkNest own index y host ∈ NB) (hM : CI G N cs l y rm bytes maxL rty As σ post) (hw : ∀ w ∈ k5N y bytes maxL rty, w ∈ TB) (hd : kHd y n) (hn : As.length = n) (hz : rm.cells = 0 ∧ rm.slots = 0) (hR : rm.frames + 1 ≤ R.frames ∧ 8 + (maxL + 11) + rm.locals ≤ R.locals) (hf : cells ≤ R.cells ∧ slots ≤ R.slots) (hls : ls.size = nL) (hst : (rest.map fun v => v.category).sum ≤ 8) {st0 : List Value} (hs0 : st0 = As.reverse ++ rest) (hdg : decode cc pc = .ok (.invokestatic index, 3))
    (kk : ∀ (r : Int32) (u : Mem) (H : Heap) (locs : List Loc), post r u → va_P G.2.1 vwCl (wl G N (cs u)) H → va_S (xA G N s.heap.size) s.heap H locs → W p l e R s m args below meth c H locs cells slots Q (F0 m (pc + 3) ls (.int r :: rest))) : W p l e R s m args below meth c H locs cells slots Q (F0 m pc ls st0) := by
  subst hs0
  have ha0 := ha
  obtain ⟨hx, hb, hml, hown, hts, -, -, hK, hD, hN, hL⟩ := ha
  refine va_calli (va_runSN (As := As) (rest := rest) ⟨hx, hb, hml, hown, hts⟩ (hM H.size) ⟨⟨⟨hz.1, hz.2, hR.1, hR.2, tb_pay hts (hw _ (by simp [k5N])), List.mem_cons_self⟩, hts _ (hw _ (by simp [k5N])), hts _ (hw _ (by simp [k5N])), ⟨hd.1, hd.2.1⟩, fun sig h => (by have h2 := hd.2.2; rw [h] at h2; exact (Option.some.inj h2).symm), va_Nw.use rfl (hN _ hl)⟩, hts _ (hw _ (by simp [k5N])), trivial⟩ ⟨xblind, xpre_of ha0 hP hS rfl⟩ rfl hn hls rfl (lv_room hst) hdg ⟨hf.1, hf.2⟩) hS (fun q _ h => xA_in hS q h) (fun q h => xA_in hS q h) (fun r u t H1 locs1 ht hvm hp hB hz1 hk1 hS1 => ?_)
  have hP1 : va_P G.2.1 vwCl (wl G N (cs u)) t.heap := hB
  rw [ht] at hP1
  exact kk r u H1 locs1 hp hP1 hS1

set_option maxHeartbeats 1000000 in
theorem xNv (ha : Amb p c cc nL s args own m meth ret G N) (hP : va_P G.2.1 vwCl (wl G N (cs σ)) H) (hS : va_S (xA G N s.heap.size) s.heap H locs) {y : MethodName} {bytes : ByteArray} {maxL index : Nat} {rty : Option FieldType} {rm : Room} {As : List Value} {post : Mem → Prop} {n : Nat} (host : String) (hl : Cond.methodLinkNest own index y host ∈ NB) (hM : CV G N cs l y rm bytes maxL rty As σ post) (hw : ∀ w ∈ k5N y bytes maxL rty, w ∈ TB) (hd : kHd y n) (hn : As.length = n) (hz : rm.cells = 0 ∧ rm.slots = 0) (hR : rm.frames + 1 ≤ R.frames ∧ 8 + (maxL + 11) + rm.locals ≤ R.locals) (hf : cells ≤ R.cells ∧ slots ≤ R.slots) (hls : ls.size = nL) (hst : (rest.map fun v => v.category).sum ≤ 8) {st0 : List Value} (hs0 : st0 = As.reverse ++ rest) (hdg : decode cc pc = .ok (.invokestatic index, 3))
    (kk : ∀ (u : Mem) (H : Heap) (locs : List Loc), post u → va_P G.2.1 vwCl (wl G N (cs u)) H → va_S (xA G N s.heap.size) s.heap H locs → W p l e R s m args below meth c H locs cells slots Q (F0 m (pc + 3) ls (rest))) : W p l e R s m args below meth c H locs cells slots Q (F0 m pc ls st0) := by
  subst hs0
  have ha0 := ha
  obtain ⟨hx, hb, hml, hown, hts, -, -, hK, hD, hN, hL⟩ := ha
  refine va_callv (va_runSN (As := As) (rest := rest) ⟨hx, hb, hml, hown, hts⟩ (hM H.size) ⟨⟨⟨hz.1, hz.2, hR.1, hR.2, tb_pay hts (hw _ (by simp [k5N])), List.mem_cons_self⟩, hts _ (hw _ (by simp [k5N])), hts _ (hw _ (by simp [k5N])), ⟨hd.1, hd.2.1⟩, fun sig h => (by have h2 := hd.2.2; rw [h] at h2; exact (Option.some.inj h2).symm), va_Nw.use rfl (hN _ hl)⟩, hts _ (hw _ (by simp [k5N])), trivial⟩ ⟨xblind, xpre_of ha0 hP hS rfl⟩ rfl hn hls rfl (lv_room hst) hdg ⟨hf.1, hf.2⟩) hS (fun q _ h => xA_in hS q h) (fun q h => xA_in hS q h) (fun u t H1 locs1 ht hvm hp hB hz1 hk1 hS1 => ?_)
  have hP1 : va_P G.2.1 vwCl (wl G N (cs u)) t.heap := hB
  rw [ht] at hP1
  exact kk u H1 locs1 hp hP1 hS1

end XR
