/-! the law: rows over both worlds -/
def lA (s : State) : Nat → Prop := fun q => s.heap.size ≤ q
def LGa (s : State) (GX GM : GT) : Prop := (∀ i, i < 72 → s.heap.size ≤ GX.1 i) ∧ (∀ j, j < 24 → s.heap.size ≤ GM.1 j) ∧ ∀ i j, i < 72 → j < 24 → GX.1 i ≠ GM.1 j
def LWS (s : State) (GX GM : GT) (σ μ : Mem) (H : Heap) (locs : List Loc) : Prop := va_P GX.2.1 vwCl (wl GX 72 (cX GX σ)) H ∧ va_P GM.2.1 vwCl (wl GM 24 (cM GM μ)) H ∧ va_S (lA s) s.heap H locs
theorem xA_lA {s : State} {G : GT} {N : Nat} (h : ∀ i, i < N → s.heap.size ≤ G.1 i) : xA G N s.heap.size = lA s := funext fun q => propext ⟨fun w => by
    rcases w with ⟨i, hi, rfl⟩ | w
    · exact h i hi
    · exact w, fun w => Or.inr w⟩
theorem keep_w {D : va_G} {G G' : GT} {N N' : Nat} {cw : Nat → va_E} {H H1 : Heap} (hP : va_P D vwCl (wl G' N' cw) H) (hk : ∀ q : Nat, q < H.size → ¬ xA G N H.size q → H1[q]? = H[q]?) (hap : ∀ i j, i < N → j < N' → G.1 i ≠ G'.1 j) : va_P D vwCl (wl G' N' cw) H1 := hP.kept fun k x hx => by
  obtain ⟨hj, rfl⟩ := wl_inv hx
  have hl := (hP k _ hx).lt
  refine hk _ hl fun w => ?_
  rcases w with ⟨i, hi, e⟩ | w
  · exact hap i k hi hj e.symm
  · exact absurd w (Nat.not_le.mpr hl)
section LR
variable {p : Program} {l : Launch} {e : Env} {R : Room} {s : State} {m : MethodId} {args : Array Value} {below : List Frame} {meth : Method} {c : Code} {H : Heap} {locs : List Loc} {cells slots : Nat} {Q : State → Prop}
variable {cc : ByteArray} {pc nL : Nat} {ls : Array Slot} {rest : List Value} {own : String} {ret : Option FieldType} {GX GM : GT} {σ μ : Mem}
set_option maxHeartbeats 1000000 in
/-- any world's call, and what stays -/
theorem lVi {G : GT} {N : Nat} {cs : Mem → Nat → va_E} {τ : Mem} (ha : Amb p c cc nL s args own m meth ret G N) (hg : ∀ i, i < N → s.heap.size ≤ G.1 i) (hP : va_P G.2.1 vwCl (wl G N (cs τ)) H) (hS : va_S (lA s) s.heap H locs) {y : MethodName} {bytes : ByteArray} {maxL index : Nat} {rty : Option FieldType} {rm : Room} {As : List Value} {post : Int32 → Mem → Prop} {n : Nat} (ho : 0 < N) {ci : Nat} {fs : List Value} (hc : cs τ 0 = .inr (ci, fs)) {q : vw_C} (hci : vwCl[ci]? = some q) (hq : q.1 = y.cls) (hM : CI G N cs l y rm bytes maxL rty (.ref (G.1 0) :: As) τ post) (hw : ∀ w ∈ k5V own index y bytes maxL rty, w ∈ TB) (hd : kHd y n) (hn : As.length = n) (hz : rm.cells = 0 ∧ rm.slots = 0) (hR : rm.frames + 1 ≤ R.frames ∧ 8 + (maxL + 11) + rm.locals ≤ R.locals) (hf : cells ≤ R.cells ∧ slots ≤ R.slots) (hls : ls.size = nL) (hst : (rest.map fun v => v.category).sum ≤ 8) {st0 : List Value} (hs0 : st0 = As.reverse ++ .ref (G.1 0) :: rest) (hdg : decode cc pc = .ok (.invokevirtual index, 3))
    (kk : ∀ (r : Int32) (u : Mem) (H1 : Heap) (locs : List Loc), post r u → va_P G.2.1 vwCl (wl G N (cs u)) H1 → va_S (lA s) s.heap H1 locs → (∀ q : Nat, q < H.size → ¬ xA G N H.size q → H1[q]? = H[q]?) → W p l e R s m args below meth c H1 locs cells slots Q (F0 m (pc + 3) ls (.int r :: rest))) : W p l e R s m args below meth c H locs cells slots Q (F0 m pc ls st0) := by
  subst hs0
  have ha0 := ha
  have eA := xA_lA hg
  rw [← eA] at hS
  obtain ⟨hx, hb, hml, hown, hts, -, -, hK, hD, hN, hL⟩ := ha
  have h9 : CallW R s args own y.cls index y bytes maxL rty (.code y bytes maxL rty :: TB) rm rm.cells rm.slots n := ⟨k_cwB n hts (hw _ (by simp [k5V])) (hw _ (by simp [k5V])) (hw _ (by simp [k5V])) hd hR, hts _ (hw _ (by simp [k5V])), hts _ (hw _ (by simp [k5V]))⟩
  rw [hz.1, hz.2] at h9
  refine va_calli (va_runV (As := As) (rest := rest) ⟨hx, hb, hml, hown, hts⟩ (hM H.size) h9 ⟨xblind, by rw [← hq]; exact va_recv hK hP hci (by rw [wl_get ho, hc]), xpre_of ha0 hP hS rfl⟩ rfl hn hls rfl (lv_room hst) hdg ⟨hf.1, hf.2⟩) hS (fun q _ h => xA_in hS q h) (fun q h => xA_in hS q h) (fun r u t H1 locs1 ht hvm hp hB hz1 hk1 hS1 => ?_)
  have hP1 : va_P G.2.1 vwCl (wl G N (cs u)) t.heap := hB
  rw [ht] at hP1
  rw [eA] at hS1
  exact kk r u H1 locs1 hp hP1 hS1 hk1
set_option maxHeartbeats 1000000 in
theorem lVl {G : GT} {N : Nat} {cs : Mem → Nat → va_E} {τ : Mem} (ha : Amb p c cc nL s args own m meth ret G N) (hg : ∀ i, i < N → s.heap.size ≤ G.1 i) (hP : va_P G.2.1 vwCl (wl G N (cs τ)) H) (hS : va_S (lA s) s.heap H locs) {y : MethodName} {bytes : ByteArray} {maxL index : Nat} {rty : Option FieldType} {rm : Room} {As : List Value} {post : Int64 → Mem → Prop} {n : Nat} (ho : 0 < N) {ci : Nat} {fs : List Value} (hc : cs τ 0 = .inr (ci, fs)) {q : vw_C} (hci : vwCl[ci]? = some q) (hq : q.1 = y.cls) (hM : CL G N cs l y rm bytes maxL rty (.ref (G.1 0) :: As) τ post) (hw : ∀ w ∈ k5V own index y bytes maxL rty, w ∈ TB) (hd : kHd y n) (hn : As.length = n) (hz : rm.cells = 0 ∧ rm.slots = 0) (hR : rm.frames + 1 ≤ R.frames ∧ 8 + (maxL + 11) + rm.locals ≤ R.locals) (hf : cells ≤ R.cells ∧ slots ≤ R.slots) (hls : ls.size = nL) (hst : (rest.map fun v => v.category).sum ≤ 8) {st0 : List Value} (hs0 : st0 = As.reverse ++ .ref (G.1 0) :: rest) (hdg : decode cc pc = .ok (.invokevirtual index, 3))
    (kk : ∀ (r : Int64) (u : Mem) (H1 : Heap) (locs : List Loc), post r u → va_P G.2.1 vwCl (wl G N (cs u)) H1 → va_S (lA s) s.heap H1 locs → (∀ q : Nat, q < H.size → ¬ xA G N H.size q → H1[q]? = H[q]?) → W p l e R s m args below meth c H1 locs cells slots Q (F0 m (pc + 3) ls (.long r :: rest))) : W p l e R s m args below meth c H locs cells slots Q (F0 m pc ls st0) := by
  subst hs0
  have ha0 := ha
  have eA := xA_lA hg
  rw [← eA] at hS
  obtain ⟨hx, hb, hml, hown, hts, -, -, hK, hD, hN, hL⟩ := ha
  have h9 : CallW R s args own y.cls index y bytes maxL rty (.code y bytes maxL rty :: TB) rm rm.cells rm.slots n := ⟨k_cwB n hts (hw _ (by simp [k5V])) (hw _ (by simp [k5V])) (hw _ (by simp [k5V])) hd hR, hts _ (hw _ (by simp [k5V])), hts _ (hw _ (by simp [k5V]))⟩
  rw [hz.1, hz.2] at h9
  refine va_calll (va_runV (As := As) (rest := rest) ⟨hx, hb, hml, hown, hts⟩ (hM H.size) h9 ⟨xblind, by rw [← hq]; exact va_recv hK hP hci (by rw [wl_get ho, hc]), xpre_of ha0 hP hS rfl⟩ rfl hn hls rfl (lv_room hst) hdg ⟨hf.1, hf.2⟩) hS (fun q _ h => xA_in hS q h) (fun q h => xA_in hS q h) (fun r u t H1 locs1 ht hvm hp hB hz1 hk1 hS1 => ?_)
  have hP1 : va_P G.2.1 vwCl (wl G N (cs u)) t.heap := hB
  rw [ht] at hP1
  rw [eA] at hS1
  exact kk r u H1 locs1 hp hP1 hS1 hk1
/-- what holds all the way through the law behind its two constructors -/
def LC (p : Program) (s : State) (args : Array Value) (m : MethodId) (meth : Method) (c : Code) (b L : Nat) (xs : Nat → Int32) (GX GM : GT) : Prop := Amb p c cL_law 4 s args RL m meth (some .boolean) GX 72 ∧ Amb p c cL_law 4 s args RL m meth (some .boolean) GM 24 ∧ LGa s GX GM ∧ va_X b L xs s s.heap ∧ b < s.heap.size
theorem lXi {b L : Nat} {xs : Nat → Int32} (C : LC p s args m meth c b L xs GX GM) (h : LWS s GX GM σ μ H locs) {y : MethodName} {bytes : ByteArray} {maxL index : Nat} {rm : Room} {As : List Value} {post : Int32 → Mem → Prop} {n : Nat} (hq : RX7 = y.cls) (hM : CI GX 72 (cX GX) l y rm bytes maxL (some .int) (.ref (GX.1 0) :: As) σ post) (hw : ∀ w ∈ k5V RL index y bytes maxL (some .int), w ∈ TB) (hd : kHd y n) (hn : As.length = n) (hz : rm.cells = 0 ∧ rm.slots = 0) (hR : rm.frames + 1 ≤ R.frames ∧ 8 + (maxL + 11) + rm.locals ≤ R.locals) (hf : cells ≤ R.cells ∧ slots ≤ R.slots) (hls : ls.size = 4) {st0 : List Value} (hs0 : st0 = As.reverse ++ .ref (GX.1 0) :: []) (hdg : decode cL_law pc = .ok (.invokevirtual index, 3))
    (kk : ∀ (r : Int32) (u : Mem) (H : Heap) (locs : List Loc), post r u → LWS s GX GM u μ H locs → W p l e R s m args below meth c H locs cells slots Q (F0 m (pc + 3) ls [.int r])) : W p l e R s m args below meth c H locs cells slots Q (F0 m pc ls st0) := by
  obtain ⟨haX, haM, ⟨g1, g2, g3⟩, hX, hbl⟩ := C
  exact lVi (rest := []) haX g1 h.1 h.2.2 (by decide) (cX_0 GX σ) rfl hq hM hw hd hn hz hR hf hls (by decide) hs0 hdg (fun r u H1 locs1 hp hP1 hS1 hk => kk r u H1 locs1 hp ⟨hP1, keep_w h.2.1 hk g3, hS1⟩)
theorem lMi {b L : Nat} {xs : Nat → Int32} (C : LC p s args m meth c b L xs GX GM) (h : LWS s GX GM σ μ H locs) {y : MethodName} {bytes : ByteArray} {maxL index : Nat} {rm : Room} {As : List Value} {post : Int32 → Mem → Prop} {n : Nat} {x : Int32} (hq : RX8 = y.cls) (hM : CI GM 24 (cM GM) l y rm bytes maxL (some .int) (.ref (GM.1 0) :: As) μ post) (hw : ∀ w ∈ k5V RL index y bytes maxL (some .int), w ∈ TB) (hd : kHd y n) (hn : As.length = n) (hz : rm.cells = 0 ∧ rm.slots = 0) (hR : rm.frames + 1 ≤ R.frames ∧ 8 + (maxL + 11) + rm.locals ≤ R.locals) (hf : cells ≤ R.cells ∧ slots ≤ R.slots) (hls : ls.size = 4) {st0 : List Value} (hs0 : st0 = As.reverse ++ .ref (GM.1 0) :: [.int x]) (hdg : decode cL_law pc = .ok (.invokevirtual index, 3))
    (kk : ∀ (r : Int32) (u : Mem) (H : Heap) (locs : List Loc), post r u → LWS s GX GM σ u H locs → W p l e R s m args below meth c H locs cells slots Q (F0 m (pc + 3) ls [.int r, .int x])) : W p l e R s m args below meth c H locs cells slots Q (F0 m pc ls st0) := by
  obtain ⟨haX, haM, ⟨g1, g2, g3⟩, hX, hbl⟩ := C
  exact lVi (rest := [.int x]) haM g2 h.2.1 h.2.2 (by decide) (cM_0 GM μ) rfl hq hM hw hd hn hz hR hf hls (Nat.le_of_ble_eq_true rfl) hs0 hdg (fun r u H1 locs1 hp hP1 hS1 hk => kk r u H1 locs1 hp ⟨keep_w h.1 hk (fun i j hi hj q => g3 j i hj hi q.symm), hP1, hS1⟩)
theorem lXl {b L : Nat} {xs : Nat → Int32} (C : LC p s args m meth c b L xs GX GM) (h : LWS s GX GM σ μ H locs) {y : MethodName} {bytes : ByteArray} {maxL index : Nat} {rm : Room} {post : Int64 → Mem → Prop} (hq : RX7 = y.cls) (hM : CL GX 72 (cX GX) l y rm bytes maxL (some .long) [.ref (GX.1 0)] σ post) (hw : ∀ w ∈ k5V RL index y bytes maxL (some .long), w ∈ TB) (hd : kHd y 0) (hz : rm.cells = 0 ∧ rm.slots = 0) (hR : rm.frames + 1 ≤ R.frames ∧ 8 + (maxL + 11) + rm.locals ≤ R.locals) (hf : cells ≤ R.cells ∧ slots ≤ R.slots) (hls : ls.size = 4) (hdg : decode cL_law pc = .ok (.invokevirtual index, 3))
    (kk : ∀ (r : Int64) (u : Mem) (H : Heap) (locs : List Loc), post r u → LWS s GX GM u μ H locs → W p l e R s m args below meth c H locs cells slots Q (F0 m (pc + 3) ls [.long r])) : W p l e R s m args below meth c H locs cells slots Q (F0 m pc ls [.ref (GX.1 0)]) := by
  obtain ⟨haX, haM, ⟨g1, g2, g3⟩, hX, hbl⟩ := C
  exact lVl (rest := []) (As := []) haX g1 h.1 h.2.2 (by decide) (cX_0 GX σ) rfl hq hM hw hd rfl hz hR hf hls (by decide) rfl hdg (fun r u H1 locs1 hp hP1 hS1 hk => kk r u H1 locs1 hp ⟨hP1, keep_w h.2.1 hk g3, hS1⟩)
theorem lMl {b L : Nat} {xs : Nat → Int32} (C : LC p s args m meth c b L xs GX GM) (h : LWS s GX GM σ μ H locs) {y : MethodName} {bytes : ByteArray} {maxL index : Nat} {rm : Room} {post : Int64 → Mem → Prop} {x : Int64} (hq : RX8 = y.cls) (hM : CL GM 24 (cM GM) l y rm bytes maxL (some .long) [.ref (GM.1 0)] μ post) (hw : ∀ w ∈ k5V RL index y bytes maxL (some .long), w ∈ TB) (hd : kHd y 0) (hz : rm.cells = 0 ∧ rm.slots = 0) (hR : rm.frames + 1 ≤ R.frames ∧ 8 + (maxL + 11) + rm.locals ≤ R.locals) (hf : cells ≤ R.cells ∧ slots ≤ R.slots) (hls : ls.size = 4) (hdg : decode cL_law pc = .ok (.invokevirtual index, 3))
    (kk : ∀ (r : Int64) (u : Mem) (H : Heap) (locs : List Loc), post r u → LWS s GX GM σ u H locs → W p l e R s m args below meth c H locs cells slots Q (F0 m (pc + 3) ls [.long r, .long x])) : W p l e R s m args below meth c H locs cells slots Q (F0 m pc ls [.ref (GM.1 0), .long x]) := by
  obtain ⟨haX, haM, ⟨g1, g2, g3⟩, hX, hbl⟩ := C
  exact lVl (rest := [.long x]) (As := []) haM g2 h.2.1 h.2.2 (by decide) (cM_0 GM μ) rfl hq hM hw hd rfl hz hR hf hls (Nat.le_of_ble_eq_true rfl) rfl hdg (fun r u H1 locs1 hp hP1 hS1 hk => kk r u H1 locs1 hp ⟨keep_w h.1 hk (fun i j hi hj q => g3 j i hj hi q.symm), hP1, hS1⟩)
/-- the law's locals -/
abbrev lLoc (b : Nat) (GX GM : GT) (i : Int32) : List (Nat × Value) := [(3, .int i), (2, .ref (GM.1 0)), (1, .ref (GX.1 0)), (0, .ref b)]
/-- a number of the script -/
theorem lArg {b L : Nat} {xs : Nat → Int32} (C : LC p s args m meth c b L xs GX GM) (h : LWS s GX GM σ μ H locs) {t j : Nat} {v : Int} (hj : v = (j : Int)) (ht : t + j < L) (hL : L ≤ 3072) (hl : lv_has ls 4 (lLoc b GX GM (nI t))) (d0 : decode cL_law pc = .ok (.aload_n 0, 1)) (d1 : decode cL_law (pc + 1) = .ok (.iload_n 3, 1)) (d2 : decode cL_law (pc + 1 + 1) = .ok (.iconst v, 1)) (d3 : decode cL_law (pc + 1 + 1 + 1) = .ok (.iadd, 1)) (d4 : decode cL_law (pc + 1 + 1 + 1 + 1) = .ok (.iaload, 1))
    (kk : W p l e R s m args below meth c H locs cells slots Q (F0 m (pc + 1 + 1 + 1 + 1 + 1) ls (.int (xs (t + j)) :: rest))) : W p l e R s m args below meth c H locs cells slots Q (F0 m pc ls rest) := by
  obtain ⟨haX, haM, ⟨g1, g2, g3⟩, hX, hbl⟩ := C
  have hx := haX.1
  have hb := haX.2.1
  refine lv_aload_n hx hb d0 rfl (lv_at hl 3 rfl) ?_
  refine lv_iload_n hx hb d1 rfl (lv_at hl 0 rfl) ?_
  refine lv_iconst (v := nI j) hx hb d2 (by rw [hj]; rfl) ?_
  refine lv_iaddE hx hb d3 (nI_add t j) ?_
  have hA : ¬ lA s b := fun q => absurd q (Nat.not_le.mpr hbl)
  refine va_sld hx hb hX hbl hA h.2.2 (vp_in_nI ht (by omega)) d4 ?_
  have e : (nI (t + j)).toNatClampNeg = t + j := nI_clamp (by omega)
  rw [e]
  exact kk
theorem l_if_eq (hx : p.tables.exec = Jvm.exec) (hb : c.code = cc) {x y : Int64} (h : x = y) {off : Int} {tgt : Nat} (hdg : decode cc pc = .ok (.ifCond .eq off, 3)) (ht : (pc : Int) + off = (tgt : Int)) (kk : W p l e R s m args below meth c H locs cells slots Q (F0 m tgt ls rest)) : W p l e R s m args below meth c H locs cells slots Q (F0 m pc ls (.int (lg_cmp x y) :: rest)) :=
  lv_if_eq hx hb hdg ht (fun _ => kk) (fun q => absurd ((lg_cmp_eq x y).mpr h) q)
end LR
/-- what the contracts ask, from the relation -/
theorem Rl_PO {σ μ : Mem} (h : Rl σ μ) : PO 33 σ := PB_of h.1.1 h.1.2.1
theorem Rl_RM {σ μ : Mem} (h : Rl σ μ) : RM μ := ⟨fun r hr => (h.2.1.1 r hr).2.2.1, fun t ht => (h.2.1.2 t ht).2.2.1⟩
theorem Rl_RZ {σ μ : Mem} (h : Rl σ μ) : RZ σ := fun o ho => by
  have A : ∀ r, r < 6 → (σ (5 + 2 * r) 0).toInt ≤ 60 := fun r hr => by
    have q := h.2.1.1 r hr
    rw [q.1]; have := q.2.2.1; omega
  have B : ∀ t, t < 4 → (σ (17 + 2 * t) 0).toInt ≤ 60 := fun t ht => by
    have q := h.2.1.2 t ht
    rw [q.1]; exact q.2.2.1
  unfold oRow at ho
  rcases ho with rfl | rfl | rfl | rfl | rfl | rfl | rfl | rfl | rfl | rfl
  · exact A 0 (by decide)
  · exact A 1 (by decide)
  · exact A 2 (by decide)
  · exact A 3 (by decide)
  · exact A 4 (by decide)
  · exact A 5 (by decide)
  · exact B 0 (by decide)
  · exact B 1 (by decide)
  · exact B 2 (by decide)
  · exact B 3 (by decide)
