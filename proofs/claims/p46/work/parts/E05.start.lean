/-! the law: what its start stands on -/
def lA (s : State) : Nat → Prop := fun q => s.heap.size ≤ q
theorem xA_lA {s : State} {G : GT} {N : Nat} (h : ∀ i, i < N → s.heap.size ≤ G.1 i) : xA G N s.heap.size = lA s := funext fun q => propext ⟨fun w => by
    rcases w with ⟨i, hi, rfl⟩ | w
    · exact h i hi
    · exact w, fun w => Or.inr w⟩
section KS
variable {s : State} {args : Array Value}
theorem k_arrI (h : (Cond.arrayClass .int).before args s = true) : ∃ x, ArrOfT s x .int ∧ va_RA s x .int := by
  obtain ⟨cA, kA, comp, h1, h2, h3⟩ := Cond.arrayClass_spec h
  exact ⟨cA, fun n z => ⟨(fun k h => by cases h), kA, h2, comp, h3⟩, h1⟩
theorem k_arrO {C : String} (h : (Cond.arrayOver (.object C)).before args s = true) : ∃ x, ArrOfT s x (.object C) ∧ va_RA s x (.object C) := by
  obtain ⟨comp, cA, kA, hcomp, hidx, hkA, hkindA, hnameA⟩ := Cond.arrayOver_spec h
  exact ⟨cA, fun n z => ⟨(fun k h => by cases h), kA, hkA, comp, hkindA⟩, kA, comp, hkA, hkindA, hcomp, hnameA⟩
theorem k_arrA (h : (Cond.arrayOver (.array .int)).before args s = true) : ∃ x, ArrOfT s x (.array .int) ∧ va_RA s x (.array .int) := by
  obtain ⟨comp, cA, kA, hcomp, hidx, hkA, hkindA, hnameA⟩ := arrayOverA_spec h
  exact ⟨cA, fun n z => ⟨(fun k h => by cases h), kA, hkA, comp, hkindA⟩, hnameA⟩
theorem k_nest {w : Cond} (hw : w ∈ NB) (hts : ∀ w ∈ lw_tbl, w.before args s = true) : va_Nw w s := by
  have h1 := (List.mem_filter.mp hw).2
  have h2 := hts w (List.mem_filter.mp hw).1
  match w, h1, h2 with
  | .methodLinkNest a i x h, _, h2 => exact va_Nw.of rfl h2
  | .fieldLinkNest a i b n d h, _, h2 => exact va_Nw.of rfl h2
theorem k_inT (hts : ∀ w ∈ lw_tbl, w.before args s = true) : ∀ w ∈ TB, w.before args s = true := fun w hw => hts w (List.mem_filter.mp hw).1
set_option maxHeartbeats 1000000 in
theorem k_start (hts : ∀ w ∈ lw_tbl, w.before args s = true) : ∃ (D : va_G) (a : Nat → ClassId), va_K D vwCl (gTy a) s ∧ AO3 s := by
  have hT := k_inT hts
  obtain ⟨c0, i0, h0⟩ := u_known (C := RX0) (T := TX0) (N := 2) (n := 2) hT inT0 (hT (.instantiable RX0 2) (tb_in (by decide +kernel)))
  obtain ⟨c1, i1, h1⟩ := u_known (C := RX1) (T := TX1) (N := 8) (n := 8) hT inT1 (hT (.instantiable RX1 8) (tb_in (by decide +kernel)))
  obtain ⟨c2, i2, h2⟩ := u_known (C := RX2) (T := TX2) (N := 7) (n := 7) hT inT2 (hT (.instantiable RX2 7) (tb_in (by decide +kernel)))
  obtain ⟨c3, i3, h3⟩ := u_known (C := RX3) (T := TX3) (N := 2) (n := 2) hT inT3 (hT (.instantiable RX3 2) (tb_in (by decide +kernel)))
  obtain ⟨c4, i4, h4⟩ := u_known (C := RX4) (T := TX4) (N := 6) (n := 6) hT inT4 (hT (.instantiable RX4 6) (tb_in (by decide +kernel)))
  obtain ⟨c5, i5, h5⟩ := u_known (C := RX5) (T := TX5) (N := 6) (n := 6) hT inT5 (hT (.instantiable RX5 6) (tb_in (by decide +kernel)))
  obtain ⟨c6, i6, h6⟩ := u_known (C := RX6) (T := TX6) (N := 7) (n := 7) hT inT6 (hT (.instantiable RX6 7) (tb_in (by decide +kernel)))
  obtain ⟨c7, i7, h7⟩ := u_known (C := RX7) (T := TX7) (N := 16) (n := 16) hT inT7 (hT (.instantiable RX7 16) (tb_in (by decide +kernel)))
  have w1 := hts (.arrayOver (.object "PoleNave$Row")) (by decide +kernel)
  have w2 := hts (.arrayOver (.object "PoleNave$Deeds")) (by decide +kernel)
  have w3 := hts (.arrayOver (.array .int)) (by decide +kernel)
  obtain ⟨y0, a0, r0⟩ := k_arrI (hT _ tb_ac)
  obtain ⟨y1, a1, r1⟩ := k_arrO w1
  obtain ⟨y2, a2, r2⟩ := k_arrO w2
  obtain ⟨y3, a3, r3⟩ := k_arrA w3
  refine ⟨((fun k => match k with | 0 => c0 | 1 => c1 | 2 => c2 | 3 => c3 | 4 => c4 | 5 => c5 | 6 => c6 | _ => c7), (fun k => match k with | 0 => i0 | 1 => i1 | 2 => i2 | 3 => i3 | 4 => i4 | 5 => i5 | 6 => i6 | _ => i7)), (fun k => match k with | 0 => y0 | 1 => y1 | 2 => y2 | _ => y3), ⟨fun k q hq => ?_, fun k q hq => ?_⟩, w1, w2, w3⟩
  · match k, hq with
    | 0, hq => cases hq; exact h0
    | 1, hq => cases hq; exact h1
    | 2, hq => cases hq; exact h2
    | 3, hq => cases hq; exact h3
    | 4, hq => cases hq; exact h4
    | 5, hq => cases hq; exact h5
    | 6, hq => cases hq; exact h6
    | 7, hq => cases hq; exact h7
    | k + 8, hq => exact absurd (List.getElem?_eq_some_iff.mp hq).1 (by show ¬ (k + 8 < 8); omega)
  · match k, hq with
    | 0, hq => cases hq; exact ⟨a0, r0⟩
    | 1, hq => cases hq; exact ⟨a1, r1⟩
    | 2, hq => cases hq; exact ⟨a2, r2⟩
    | 3, hq => cases hq; exact ⟨a3, r3⟩
    | k + 4, hq => exact absurd (List.getElem?_eq_some_iff.mp hq).1 (by show ¬ (k + 4 < 4); omega)
theorem kl_size {tm : Term} {n : Int32} {t : Addr} {cell : Cell} (hlen : (Term.length tm).eval args s none [] s = some (.int n)) (ht : tm.eval args s none [] s = some (.ref t)) (hc : s.heap[t]? = some cell) : (cell.slots.size : Int) = n.toInt := by
  obtain ⟨t', cell', ht', hat, hv⟩ := Term.length_spec hlen
  cases ht.symm.trans ht'
  obtain ⟨hcell, -, -, -⟩ := State.arrayAt?_spec hat
  cases hc.symm.trans hcell
  have hsz : cell.slots.size < 2147483648 := by
    simp only [Term.eval, ht, hat, Option.bind_eq_bind, Option.bind_some] at hlen
    by_cases hlt : cell.slots.size < 2147483648
    · exact hlt
    · simp [hlt] at hlen
  have e : n = nI cell.slots.size := (Value.int.inj hv)
  rw [e, nI_toInt hsz]
theorem kl_start (hts : ∀ w ∈ lw_tbl, w.before args s = true) (hgv : (Jvm.Cond.and given_1 narrow_1).before args s = true) : ∃ kl : Nat, va_X kl 6 klF s s.heap ∧ ∀ A : Nat → Prop, (∀ q : Nat, q < s.heap.size → ¬ A q) → va_Z "PoleNave" "KIND_LETTERS" "[I" (.ref kl) A s s.heap := by
  have hs := flat_of_before _ hgv
  have harr : (Cond.arrayOf (.static "PoleNave" "KIND_LETTERS" "[I") .int).before args s = true := hs _ (by decide +kernel)
  have hlen := va_eqt (hs (.eq (.length (.static "PoleNave" "KIND_LETTERS" "[I")) (.int 6)) (by decide +kernel))
  have e0 := va_eqt (hs (.eq (.elem (.static "PoleNave" "KIND_LETTERS" "[I") (.int 0)) (.int 112)) (by decide +kernel))
  have e1 := va_eqt (hs (.eq (.elem (.static "PoleNave" "KIND_LETTERS" "[I") (.int 1)) (.int 114)) (by decide +kernel))
  have e2 := va_eqt (hs (.eq (.elem (.static "PoleNave" "KIND_LETTERS" "[I") (.int 2)) (.int 108)) (by decide +kernel))
  have e3 := va_eqt (hs (.eq (.elem (.static "PoleNave" "KIND_LETTERS" "[I") (.int 3)) (.int 115)) (by decide +kernel))
  have e4 := va_eqt (hs (.eq (.elem (.static "PoleNave" "KIND_LETTERS" "[I") (.int 4)) (.int 100)) (by decide +kernel))
  have e5 := va_eqt (hs (.eq (.elem (.static "PoleNave" "KIND_LETTERS" "[I") (.int 5)) (.int 107)) (by decide +kernel))
  obtain ⟨t, ht, cell, q1, q2, q3, q4, q5, q6, -⟩ := va_Tof (N := 6) (f := fun j => .int (klF j)) (A := fun _ => False) (by decide) harr hlen (fun j hj => by
    rcases (show j = 0 ∨ j = 1 ∨ j = 2 ∨ j = 3 ∨ j = 4 ∨ j = 5 by omega) with rfl | rfl | rfl | rfl | rfl | rfl
    · exact e0
    · exact e1
    · exact e2
    · exact e3
    · exact e4
    · exact e5) (fun _ _ h => h)
  have z := kl_size hlen ht q1
  have z6 : (6 : Int32).toInt = 6 := rfl
  refine ⟨t, ⟨cell, q1, q2, q3, by omega, q6⟩, fun A hA => va_Zof (hts (.laysStatic "PoleNave" "KIND_LETTERS" "[I") (by decide +kernel)) (hts (.initialized "PoleNave") (by decide +kernel)) ht hA⟩
end KS
theorem P_left {D : va_G} {cl : List vw_C} {w1 w2 : va_W} {H : Heap} (h : va_P D cl (w1 ++ w2) H) : va_P D cl w1 H := fun k x hx => h k x (by rw [List.getElem?_append_left (List.getElem?_eq_some_iff.mp hx).1]; exact hx)
theorem P_right {D : va_G} {cl : List vw_C} {w1 w2 : va_W} {H : Heap} (h : va_P D cl (w1 ++ w2) H) : va_P D cl w2 H := fun k x hx => h (w1.length + k) x (by rw [List.getElem?_append_right (Nat.le_add_right _ _), Nat.add_sub_cancel_left]; exact hx)
theorem D_left {A : Nat → Prop} {w1 w2 : va_W} (h : va_D A (w1 ++ w2)) : va_D A w1 := by
  have up : ∀ (k : Nat) (x : Nat × va_E), w1[k]? = some x → (w1 ++ w2)[k]? = some x := fun k x hx => by rw [List.getElem?_append_left (List.getElem?_eq_some_iff.mp hx).1]; exact hx
  exact ⟨fun i j x y hx hy e => h.1 i j x y (up i x hx) (up j y hy) e, fun k x hx => h.2 k x (up k x hx)⟩
theorem D_right {A : Nat → Prop} {w1 w2 : va_W} (h : va_D A (w1 ++ w2)) : va_D A w2 := by
  have up : ∀ (k : Nat) (x : Nat × va_E), w2[k]? = some x → (w1 ++ w2)[w1.length + k]? = some x := fun k x hx => by rw [List.getElem?_append_right (Nat.le_add_right _ _), Nat.add_sub_cancel_left]; exact hx
  exact ⟨fun i j x y hx hy e => by have := h.1 _ _ x y (up i x hx) (up j y hy) e; omega, fun k x hx => h.2 _ x (up k x hx)⟩
theorem D_apart {A : Nat → Prop} {w1 w2 : va_W} (h : va_D A (w1 ++ w2)) {i j : Nat} {x y : Nat × va_E} (hx : w1[i]? = some x) (hy : w2[j]? = some y) : x.1 ≠ y.1 := fun e => by
  have hi := (List.getElem?_eq_some_iff.mp hx).1
  have w := h.1 i (w1.length + j) x y (by rw [List.getElem?_append_left hi]; exact hx) (by rw [List.getElem?_append_right (Nat.le_add_right _ _), Nat.add_sub_cancel_left]; exact hy) e
  omega
section LK
variable {p : Program} {l : Launch} {e : Env} {R : Room} {s : State} {m : MethodId} {args : Array Value} {below : List Frame} {meth : Method} {c : Code} {H : Heap} {locs : List Loc} {cells slots : Nat} {Q : State → Prop}
variable {cc : ByteArray} {pc nL : Nat} {ls : Array Slot} {rest : List Value} {D : va_G} {a : Nat → ClassId} {A : Nat → Prop} {ws : va_W} {H0 : Heap} {own : String}
set_option maxHeartbeats 1000000 in
theorem lk_call (hx : p.tables.exec = Jvm.exec) (hb : c.code = cc) (hml : c.maxLocals = nL) (hown : s.vm.findClass own = some m.cls) (hts : ∀ w ∈ TB, w.before args s = true) (hK : va_K D vwCl (gTy a) s) (hN : ∀ w ∈ NB, va_Nw w s) (hO : AO3 s) {q : Nat} {e0 : va_E} (hP : va_P D vwCl (ws ++ [(q, e0)]) H) (hD : va_D A (ws ++ [(q, e0)])) (hS : va_S A H0 H locs) (hA : ∀ q, H0.size ≤ q → A q) {y : MethodName} {bytes : ByteArray} {maxL index : Nat} {rm : Room} {As : List Value} {post : va_W → Prop} {n : Nat} (hM : CN D a l y rm bytes maxL q e0 As post)
    (hw : ∀ w ∈ [Cond.methodLink own index y, .instanceMethod y, .initialized y.cls, .code y bytes maxL none], w ∈ TB) (hname : y.name = "<init>") (hd : kHd y n) (hn : As.length = n) (hR : rm.frames + 1 ≤ R.frames ∧ 8 + (maxL + 11) + rm.locals ≤ R.locals) (hf : cells + rm.cells ≤ R.cells ∧ slots + rm.slots ≤ R.slots) (hls : ls.size = nL) (hst : (rest.map fun v => v.category).sum ≤ 8) {st0 : List Value} (hs0 : st0 = As.reverse ++ .ref q :: rest) (hdg : decode cc pc = .ok (.invokespecial index, 3))
    (kk : ∀ (w1 : va_W) (H1 : Heap) (locs1 : List Loc), post w1 → va_P D vwCl (ws ++ w1) H1 → va_D A (ws ++ w1) → va_S A H0 H1 locs1 → W p l e R s m args below meth c H1 locs1 (cells + rm.cells) (slots + rm.slots) Q (F0 m (pc + 3) ls rest)) : W p l e R s m args below meth c H locs cells slots Q (F0 m pc ls st0) := by
  subst hs0
  have hF := mfree hD hS hA
  refine va_callv (va_runI (As := As) (rest := rest) ⟨hx, hb, hml, hown, hts⟩ (hM H.size) ⟨k_cwB n hts (hw _ (by simp)) (hw _ (by simp)) (hw _ (by simp)) hd hR, hname, hts _ (hw _ (by simp))⟩ ⟨mblind, fun U hU hW => ⟨rfl, by rw [hU], by rw [hU]; exact mone_P hP, va_K.moved hW.alike hK, mone_D, nb_warm hW hN, hO.moved hW.alike⟩⟩ rfl hn hls rfl (lv_room hst) hdg hf) hS (fun x _ h => hF x h) hF (fun u t H1 locs1 ht hvm hp hB hz1 hk1 hS1 => ?_)
  obtain ⟨hP1, hD1⟩ := hB
  rw [ht] at hP1
  obtain ⟨hP2, hD2⟩ := mk_join hP hD hk1 hF hP1 hD1
  exact kk u H1 locs1 hp hP2 hD2 hS1
end LK

/-- the world's numbers: the class's cells, the law's arrays, the script -/
def gE (f : Nat → Nat) (q2 q3 b L : Nat) (xs : Nat → Int32) : Nat → Nat := fun i => if i < 72 then f i else if i = 72 then q2 else if i = 73 then q3 else if i = 1000 then b else if i = 1001 then L else (xs (i - 2000)).toBitVec.toNat
section GE
variable (f : Nat → Nat) (q2 q3 b L : Nat) (xs : Nat → Int32)
theorem gE_f {i : Nat} (h : i < 72) : gE f q2 q3 b L xs i = f i := if_pos h
theorem gE_72 : gE f q2 q3 b L xs 72 = q2 := by unfold gE; rw [if_neg (by decide), if_pos rfl]
theorem gE_73 : gE f q2 q3 b L xs 73 = q3 := by unfold gE; rw [if_neg (by decide), if_neg (by decide), if_pos rfl]
theorem gE_b : gE f q2 q3 b L xs 1000 = b := by unfold gE; rw [if_neg (by decide), if_neg (by decide), if_neg (by decide), if_pos rfl]
theorem gE_L : gE f q2 q3 b L xs 1001 = L := by unfold gE; rw [if_neg (by decide), if_neg (by decide), if_neg (by decide), if_neg (by decide), if_pos rfl]
theorem nat_i (v : Int32) : Int32.ofNat v.toBitVec.toNat = v := by
  apply Int32.toBitVec_inj.mp
  show BitVec.ofNat 32 v.toBitVec.toNat = v.toBitVec
  simp
theorem gE_x (j : Nat) : Int32.ofNat (gE f q2 q3 b L xs (2000 + j)) = xs j := by
  unfold gE
  rw [if_neg (by omega), if_neg (by omega), if_neg (by omega), if_neg (by omega), if_neg (by omega), Nat.add_sub_cancel_left]
  exact nat_i _
end GE
