/-! the law: rows -/
section LRO
variable {p : Program} {l : Launch} {e : Env} {R : Room} {s : State} {m : MethodId} {args : Array Value} {below : List Frame} {meth : Method} {c : Code} {H : Heap} {locs : List Loc} {cells slots : Nat} {Q : State → Prop}
variable {cc : ByteArray} {pc nL : Nat} {ls : Array Slot} {rest : List Value}
theorem lw_iaddE (hexec : p.tables.exec = Jvm.exec) (hb : c.code = cc) {x y z : Int32} (hdg : decode cc pc = .ok (.iadd, 1)) (hz : x + y = z)
    (k : W p l e R s m args below meth c H locs cells slots Q (F0 m (pc + 1) ls (.int z :: rest))) : W p l e R s m args below meth c H locs cells slots Q (F0 m pc ls (.int y :: .int x :: rest)) := by
  subst hz; exact lv_iadd hexec hb hdg k
theorem lw_isubE (hexec : p.tables.exec = Jvm.exec) (hb : c.code = cc) {x y z : Int32} (hdg : decode cc pc = .ok (.isub, 1)) (hz : x - y = z)
    (k : W p l e R s m args below meth c H locs cells slots Q (F0 m (pc + 1) ls (.int z :: rest))) : W p l e R s m args below meth c H locs cells slots Q (F0 m pc ls (.int y :: .int x :: rest)) := by
  subst hz; exact lv_isub hexec hb hdg k
theorem lw_imulE (hexec : p.tables.exec = Jvm.exec) (hb : c.code = cc) {x y z : Int32} (hdg : decode cc pc = .ok (.imul, 1)) (hz : x * y = z)
    (k : W p l e R s m args below meth c H locs cells slots Q (F0 m (pc + 1) ls (.int z :: rest))) : W p l e R s m args below meth c H locs cells slots Q (F0 m pc ls (.int y :: .int x :: rest)) := by
  subst hz; exact lv_imul hexec hb hdg k
theorem lw_iandE (hexec : p.tables.exec = Jvm.exec) (hb : c.code = cc) {x y z : Int32} (hdg : decode cc pc = .ok (.iand, 1)) (hz : x &&& y = z)
    (k : W p l e R s m args below meth c H locs cells slots Q (F0 m (pc + 1) ls (.int z :: rest))) : W p l e R s m args below meth c H locs cells slots Q (F0 m pc ls (.int y :: .int x :: rest)) := by
  subst hz; exact lv_iand hexec hb hdg k
theorem lw_iorE (hexec : p.tables.exec = Jvm.exec) (hb : c.code = cc) {x y z : Int32} (hdg : decode cc pc = .ok (.ior, 1)) (hz : x ||| y = z)
    (k : W p l e R s m args below meth c H locs cells slots Q (F0 m (pc + 1) ls (.int z :: rest))) : W p l e R s m args below meth c H locs cells slots Q (F0 m pc ls (.int y :: .int x :: rest)) := by
  subst hz; exact lv_ior hexec hb hdg k
theorem lw_ishrE (hexec : p.tables.exec = Jvm.exec) (hb : c.code = cc) {x y z : Int32} (hdg : decode cc pc = .ok (.ishr, 1)) (hz : x >>> (y &&& 31) = z)
    (k : W p l e R s m args below meth c H locs cells slots Q (F0 m (pc + 1) ls (.int z :: rest))) : W p l e R s m args below meth c H locs cells slots Q (F0 m pc ls (.int y :: .int x :: rest)) := by
  subst hz; exact lv_ishr hexec hb hdg k
theorem lw_idivE (hexec : p.tables.exec = Jvm.exec) (hb : c.code = cc) {x y z : Int32} (hdg : decode cc pc = .ok (.idiv, 1)) (hne : ¬ y = 0) (hz : x / y = z)
    (k : W p l e R s m args below meth c H locs cells slots Q (F0 m (pc + 1) ls (.int z :: rest))) : W p l e R s m args below meth c H locs cells slots Q (F0 m pc ls (.int y :: .int x :: rest)) := by
  subst hz; exact lv_idiv hexec hb hdg hne k
theorem lw_iremE (hexec : p.tables.exec = Jvm.exec) (hb : c.code = cc) {x y z : Int32} (hdg : decode cc pc = .ok (.irem, 1)) (hne : ¬ y = 0) (hz : x - x / y * y = z)
    (k : W p l e R s m args below meth c H locs cells slots Q (F0 m (pc + 1) ls (.int z :: rest))) : W p l e R s m args below meth c H locs cells slots Q (F0 m pc ls (.int y :: .int x :: rest)) := by
  subst hz; exact lv_irem hexec hb hdg hne k
theorem lw_leqT (hx : p.tables.exec = Jvm.exec) (hb : c.code = cc) {x y : Int64} (h : x = y) {off : Int} {tgt : Nat} (hdg : decode cc pc = .ok (.ifCond .eq off, 3)) (ht : (pc : Int) + off = (tgt : Int)) (kk : W p l e R s m args below meth c H locs cells slots Q (F0 m tgt ls rest)) : W p l e R s m args below meth c H locs cells slots Q (F0 m pc ls (.int (lg_cmp x y) :: rest)) :=
  lv_if_eq hx hb hdg ht (fun _ => kk) (fun q => absurd ((lg_cmp_eq x y).mpr h) q)
theorem lw_lneF (hx : p.tables.exec = Jvm.exec) (hb : c.code = cc) {x y : Int64} (h : x = y) {off : Int} {tgt : Nat} (hdg : decode cc pc = .ok (.ifCond .ne off, 3)) (ht : (pc : Int) + off = (tgt : Int)) (kk : W p l e R s m args below meth c H locs cells slots Q (F0 m (pc + 3) ls rest)) : W p l e R s m args below meth c H locs cells slots Q (F0 m pc ls (.int (lg_cmp x y) :: rest)) :=
  lv_if_ne hx hb hdg ht (fun q => absurd ((lg_cmp_eq x y).mpr h) q) (fun _ => kk)
end LRO
theorem lt_of_nle {a b : Nat} (h : ¬ nI b ≤ nI a) (ha : a < 2 ^ 31) (hb : b < 2 ^ 31) : a < b := by
  apply Decidable.byContradiction
  intro q
  exact h (nI_le (by omega) ha)
theorem eq_of_le {a b : Nat} (h : nI b ≤ nI a) (hab : a ≤ b) (hb : b < 2 ^ 31) : a = b := by
  have := (nI_leI (a := b) (b := a) hb (by omega)).mp h
  omega
theorem nI_nn (v : Nat) (h : v < 2 ^ 31) : ¬ nI v < 0 := nI_pos h
/-- what the law's walk stands on, from the view -/
theorem NV_45 {P : PT} {Z : Nat → Int32} {K : KT} {S : PT} {D : Nat} {C : Nat → Int32} {u : Mem} (h : J P Z K S D C u) : nPl P ≤ 4 ∧ nPe P ≤ 5 := ⟨(PB_pl (J_plan h).1).2.1, (PB_pe (J_plan h).1).2.1⟩
theorem flag1 {y : Int32} {b : Bool} (h : y = b2i b) (q : y = 1) : (1 : Int32) = b2i b := q.symm.trans h
theorem flag0 {y : Int32} {b : Bool} (h : y = b2i b) (q : ¬ y = 1) : (0 : Int32) = b2i b := by
  cases b with
  | true => exact absurd h q
  | false => rfl
