/-! the law: rows -/
section LRO
variable {p : Program} {l : Launch} {e : Env} {R : Room} {s : State} {m : MethodId} {args : Array Value} {below : List Frame} {meth : Method} {c : Code} {H : Heap} {locs : List Loc} {cells slots : Nat} {Q : State → Prop}
variable {cc : ByteArray} {pc nL : Nat} {ls : Array Slot} {rest : List Value}
theorem lw_iaddE (hexec : p.tables.exec = Jvm.exec) (hb : c.code = cc) {x y z : Int32} (hdg : decode cc pc = .ok (.iadd, 1)) (hz : x + y = z)
    (k : W p l e R s m args below meth c H locs cells slots Q (F0 m (pc + 1) ls (.int z :: rest))) : W p l e R s m args below meth c H locs cells slots Q (F0 m pc ls (.int y :: .int x :: rest)) := by
  subst hz; exact lv_iadd hexec hb hdg k
theorem lw_isubE (hexec : p.tables.exec = Jvm.exec) (hb : c.code = cc) {x y z : Int32} (hdg : decode cc pc = .ok (.isub, 1)) (hz : x - y = z)
    (k : W p l e R s m args below meth c H locs cells slots Q (F0 m (pc + 1) ls (.int z :: rest))) : W p l e R s m args below meth c H locs cells slots Q (F0 m pc ls (.int y :: .int x :: rest)) := by
  subst hz; exact lv_isub hexec hb hdg k
theorem lw_imulE (hexec : p.tables.exec = Jvm.exec) (hb : c.code = cc) {x y z : Int32} (hdg : decode cc pc = .ok (.imul, 1)) (hz : x * y = z)
    (k : W p l e R s m args below meth c H locs cells slots Q (F0 m (pc + 1) ls (.int z :: rest))) : W p l e R s m args below meth c H locs cells slots Q (F0 m pc ls (.int y :: .int x :: rest)) := by
  subst hz; exact lv_imul hexec hb hdg k
theorem lw_iandE (hexec : p.tables.exec = Jvm.exec) (hb : c.code = cc) {x y z : Int32} (hdg : decode cc pc = .ok (.iand, 1)) (hz : x &&& y = z)
    (k : W p l e R s m args below meth c H locs cells slots Q (F0 m (pc + 1) ls (.int z :: rest))) : W p l e R s m args below meth c H locs cells slots Q (F0 m pc ls (.int y :: .int x :: rest)) := by
  subst hz; exact lv_iand hexec hb hdg k
theorem lw_iorE (hexec : p.tables.exec = Jvm.exec) (hb : c.code = cc) {x y z : Int32} (hdg : decode cc pc = .ok (.ior, 1)) (hz : x ||| y = z)
    (k : W p l e R s m args below meth c H locs cells slots Q (F0 m (pc + 1) ls (.int z :: rest))) : W p l e R s m args below meth c H locs cells slots Q (F0 m pc ls (.int y :: .int x :: rest)) := by
  subst hz; exact lv_ior hexec hb hdg k
theorem lw_ishrE (hexec : p.tables.exec = Jvm.exec) (hb : c.code = cc) {x y z : Int32} (hdg : decode cc pc = .ok (.ishr, 1)) (hz : x >>> (y &&& 31) = z)
    (k : W p l e R s m args below meth c H locs cells slots Q (F0 m (pc + 1) ls (.int z :: rest))) : W p l e R s m args below meth c H locs cells slots Q (F0 m pc ls (.int y :: .int x :: rest)) := by
  subst hz; exact lv_ishr hexec hb hdg k
theorem lw_idivE (hexec : p.tables.exec = Jvm.exec) (hb : c.code = cc) {x y z : Int32} (hdg : decode cc pc = .ok (.idiv, 1)) (hne : ¬ y = 0) (hz : x / y = z)
    (k : W p l e R s m args below meth c H locs cells slots Q (F0 m (pc + 1) ls (.int z :: rest))) : W p l e R s m args below meth c H locs cells slots Q (F0 m pc ls (.int y :: .int x :: rest)) := by
  subst hz; exact lv_idiv hexec hb hdg hne k
theorem lw_iremE (hexec : p.tables.exec = Jvm.exec) (hb : c.code = cc) {x y z : Int32} (hdg : decode cc pc = .ok (.irem, 1)) (hne : ¬ y = 0) (hz : x - x / y * y = z)
    (k : W p l e R s m args below meth c H locs cells slots Q (F0 m (pc + 1) ls (.int z :: rest))) : W p l e R s m args below meth c H locs cells slots Q (F0 m pc ls (.int y :: .int x :: rest)) := by
  subst hz; exact lv_irem hexec hb hdg hne k
theorem lw_leqT (hx : p.tables.exec = Jvm.exec) (hb : c.code = cc) {x y : Int64} (h : x = y) {off : Int} {tgt : Nat} (hdg : decode cc pc = .ok (.ifCond .eq off, 3)) (ht : (pc : Int) + off = (tgt : Int)) (kk : W p l e R s m args below meth c H locs cells slots Q (F0 m tgt ls rest)) : W p l e R s m args below meth c H locs cells slots Q (F0 m pc ls (.int (lg_cmp x y) :: rest)) :=
  lv_if_eq hx hb hdg ht (fun _ => kk) (fun q => absurd ((lg_cmp_eq x y).mpr h) q)
theorem lw_lneF (hx : p.tables.exec = Jvm.exec) (hb : c.code = cc) {x y : Int64} (h : x = y) {off : Int} {tgt : Nat} (hdg : decode cc pc = .ok (.ifCond .ne off, 3)) (ht : (pc : Int) + off = (tgt : Int)) (kk : W p l e R s m args below meth c H locs cells slots Q (F0 m (pc + 3) ls rest)) : W p l e R s m args below meth c H locs cells slots Q (F0 m pc ls (.int (lg_cmp x y) :: rest)) :=
  lv_if_ne hx hb hdg ht (fun q => absurd ((lg_cmp_eq x y).mpr h) q) (fun _ => kk)
end LRO
theorem lt_of_nle {a b : Nat} (h : ¬ nI b ≤ nI a) (ha : a < 2 ^ 31) (hb : b < 2 ^ 31) : a < b := by
  apply Decidable.byContradiction
  intro q
  exact h (nI_le (by omega) ha)
theorem eq_of_le {a b : Nat} (h : nI b ≤ nI a) (hab : a ≤ b) (hb : b < 2 ^ 31) : a = b := by
  have := (nI_leI (a := b) (b := a) hb (by omega)).mp h
  omega
theorem nI_nn (v : Nat) (h : v < 2 ^ 31) : ¬ nI v < 0 := nI_pos h
/-- what the law's walk stands on, from the view -/
theorem NV_45 {P : PT} {Z : Nat → Int32} {K : KT} {S : PT} {D : Nat} {C : Nat → Int32} {u : Mem} (h : J P Z K S D C u) : nPl P ≤ 4 ∧ nPe P ≤ 5 := ⟨(PB_pl (J_plan h).1).2.1, (PB_pe (J_plan h).1).2.1⟩
theorem flag1 {y : Int32} {b : Bool} (h : y = b2i b) (q : y = 1) : (1 : Int32) = b2i b := q.symm.trans h
theorem flag0 {y : Int32} {b : Bool} (h : y = b2i b) (q : ¬ y = 1) : (0 : Int32) = b2i b := by
  cases b with
  | true => exact absurd h q
  | false => rfl
theorem up_of0 {b : Bool} (h : b2i (!b) = 0) : b = true := by
  cases b with
  | true => rfl
  | false => exact absurd h (by decide)
theorem dYear_0 (P S : PT) : dYear P S 0 0 = S 0 0 ||| y_gave P S := sU_e _ _ _
theorem dYear_1 (P S : PT) : dYear P S 0 1 = S 0 1 + 1 := by
  show sU (sU (S 0) 1 (S 0 1 + 1)) 0 (S 0 0 ||| y_gave P S) 1 = _
  rw [sU_n _ _ (by decide), sU_e]
theorem dYear_2 (P S : PT) : dYear P S 0 2 = S 0 2 := by
  show sU (sU (S 0) 1 (S 0 1 + 1)) 0 (S 0 0 ||| y_gave P S) 2 = _
  rw [sU_n _ _ (by decide), sU_n _ _ (by decide)]
theorem dStone_0 (S : PT) : dStone S 0 0 = S 0 0 := sU_n _ _ (by decide)
/-- behind a deed that is done (1) or refused (0) -/
def E677 (P : PT) (Z : Nat → Int32) (K : KT) (S : PT) (D : Nat) (C : Nat → Int32) (dn : Nat) (v : Mem) : Prop := dn ≤ 1 ∧ ∃ T C1, J P Z K T (D + dn) C1 v ∧ (∀ j, j < D → C1 j = C j) ∧ (dn = 0 → SEq P T S) ∧ T 0 0 &&& S 0 0 = S 0 0
theorem E677_0 {P : PT} {Z : Nat → Int32} {K : KT} {S : PT} {D : Nat} {C : Nat → Int32} {v : Mem} (h : J P Z K S D C v) : E677 P Z K S D C 0 v := ⟨Nat.zero_le _, S, C, h, fun _ _ => rfl, fun _ => SEq.rfl', and_same _⟩
theorem E677_1 {P : PT} {Z : Nat → Int32} {K : KT} {S T : PT} {D : Nat} {C C1 : Nat → Int32} {v : Mem} (h : J P Z K T (D + 1) C1 v) (hc : ∀ j, j < D → C1 j = C j) (e : T 0 0 &&& S 0 0 = S 0 0) : E677 P Z K S D C 1 v := ⟨Nat.le_refl _, T, C1, h, hc, fun q => absurd q (by decide), e⟩
theorem dn_1 {dn : Nat} (h : dn ≤ 1) (q : ¬ nI dn = 0) : (1 : Int32) = nI dn := by
  rcases (show dn = 0 ∨ dn = 1 by omega) with rfl | rfl
  · exact absurd rfl q
  · rfl
theorem dn_one {dn : Nat} (h : dn ≤ 1) (q : ¬ nI dn = 0) : dn = 1 := by
  rcases (show dn = 0 ∨ dn = 1 by omega) with rfl | rfl
  · exact absurd rfl q
  · rfl
theorem nneg_i {a : Int32} (h : 0 ≤ a.toInt) : ¬ a < 0 := nlt_i (by rw [show (0 : Int32).toInt = 0 by decide]; exact h)
theorem n20_i {a : Int32} (h : a.toInt ≤ 20) : ¬ 20 < a := nlt_i (by rw [show (20 : Int32).toInt = 20 by decide]; exact h)
theorem q_undo_r {P : PT} {Z : Nat → Int32} {K : KT} {S T : PT} {D D1 : Nat} {C C1 : Nat → Int32} {v : Mem} (hrp : SEq P (rplP P C D) S) (h : J P Z K T D1 C1 v) (hn : D ≤ D1) (hc : ∀ j, j < D → C1 j = C j) : (k_undo v (nI D)).1 = nI (D1 - D) ∧ J P Z K S D C (k_undo v (nI D)).2 ∧ RS v (k_undo v (nI D)).2 := by
  obtain ⟨a, b, c⟩ := q_undo h hn
  rw [rplP_c D hc] at b
  exact ⟨a, J_s b hrp hc, c⟩
/-- at the loop's head -/
def LH (P : PT) (Z : Nat → Int32) (K : KT) (n : Nat) (v : Mem) : Prop := ∃ S D C, J P Z K S D C v ∧ D ≤ n
