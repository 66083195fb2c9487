/-! numbers, booleans, the JDK's max and min, the letters of the kinds -/
theorem i_le {a b : Int32} (h : a ≤ b) : a.toInt ≤ b.toInt := Int32.le_iff_toInt_le.mp h
theorem i_lt {a b : Int32} (h : a < b) : a.toInt < b.toInt := Int32.lt_iff_toInt_lt.mp h
theorem i_nle {a b : Int32} (h : ¬ a ≤ b) : b.toInt < a.toInt := by rw [Int32.le_iff_toInt_le] at h; omega
theorem i_nlt {a b : Int32} (h : ¬ a < b) : b.toInt ≤ a.toInt := by rw [Int32.lt_iff_toInt_lt] at h; omega
theorem i_eq {a b : Int32} (h : a = b) : a.toInt = b.toInt := by rw [h]
theorem i_ne {a b : Int32} (h : ¬ a = b) : ¬ a.toInt = b.toInt := fun e => h (Int32.toInt_inj.mp e)
theorem i_nz {y : Int32} (h : ¬ y.toInt = 0) : ¬ y = 0 := fun e => h (by rw [e]; decide)
theorem i_leI {a b : Int32} (h : a.toInt ≤ b.toInt) : a ≤ b := Int32.le_iff_toInt_le.mpr h
theorem i_ltI {a b : Int32} (h : a.toInt < b.toInt) : a < b := Int32.lt_iff_toInt_lt.mpr h
theorem i_eqI {a b : Int32} (h : a.toInt = b.toInt) : a = b := Int32.toInt_inj.mp h
theorem u_le {a b : Int32} (h : a ≤ b) : ¬ b < a := by rw [Int32.le_iff_toInt_le] at h; rw [Int32.lt_iff_toInt_lt]; omega
theorem u_nle {a b : Int32} (h : ¬ a ≤ b) : b < a := by rw [Int32.le_iff_toInt_le] at h; rw [Int32.lt_iff_toInt_lt]; omega
theorem i_leN {a b : Int32} : (a ≤ b) = ¬ (b < a) := propext ⟨u_le, fun h => by rw [Int32.lt_iff_toInt_lt] at h; rw [Int32.le_iff_toInt_le]; omega⟩
def b2i (b : Bool) : Int32 := if b = true then 1 else 0
theorem b2i_t {b : Bool} (h : ¬ b2i b = 0) : b = true := by cases b <;> simp_all [b2i]
theorem b2i_f {b : Bool} (h : b2i b = 0) : b = false := by cases b <;> simp_all [b2i]
theorem b2i_nar (b : Bool) : narrow .boolean (.int (b2i b)) = .int (b2i b) := by cases b <;> rfl
theorem b2i_1 {b : Bool} (h : b = true) : (1 : Int32) = b2i b := by rw [h]; rfl
theorem b2i_0 {b : Bool} (h : b = false) : (0 : Int32) = b2i b := by rw [h]; rfl
def ix (k : Int32) : Nat := k.toNatClampNeg
theorem ix_toInt {k : Int32} (h : 0 ≤ k.toInt) : ((ix k : Nat) : Int) = k.toInt := by
  unfold ix Int32.toNatClampNeg; omega
theorem ix_nI {k : Int32} (h : 0 ≤ k.toInt) : k = nI (ix k) := by
  apply Int32.toInt_inj.mp
  have h1 : k.toInt < 2 ^ 31 := Int32.toInt_lt k
  have := ix_toInt h
  rw [nI_toInt (by omega)]
  omega
theorem ix_lt {k : Int32} {n : Nat} (h : 0 ≤ k.toInt) (h2 : k.toInt < (n : Int)) : ix k < n := by
  have := ix_toInt h; omega
theorem ix_of {n : Nat} (h : n < 2 ^ 31) : ix (nI n) = n := nI_clamp h
def imax (x y : Int32) : Int32 := if x < y then y else x
def imin (x y : Int32) : Int32 := if y < x then y else x
theorem mU_e (σ : Mem) (o j : Nat) (v : Int32) (q k : Nat) : mU σ o j v q k = if q = o then (if k = j then v else σ q k) else σ q k := by
  unfold mU mA upd
  by_cases h : q = o
  · subst h; simp
  · simp [h]
/-- how many POLES, PEOPLE: what a plan's counts may be -/
def PO (p : Nat) (σ : Mem) : Prop := 0 ≤ (σ p 0).toInt ∧ (σ p 0).toInt ≤ 4 ∧ 0 ≤ (σ p 1).toInt ∧ (σ p 1).toInt ≤ 5
theorem PO_mA {p : Nat} {σ : Mem} {o : Nat} {f : Nat → Int32} (h : PO p σ) (n : p ≠ o) : PO p (mA σ o f) := by
  unfold PO; rw [mA_n _ _ n]; exact h
theorem PO_mU {p : Nat} {σ : Mem} {o j : Nat} {v : Int32} (h : PO p σ) (n : p ≠ o) : PO p (mU σ o j v) := PO_mA h n
theorem PO_eq {p : Nat} {σ τ : Mem} (h : PO p σ) (e : τ p = σ p) : PO p τ := by unfold PO; rw [e]; exact h
section XM
variable {p : Program} {l : Launch} {e : Env} {R : Room} {s : State} {m : MethodId} {args : Array Value} {below : List Frame} {meth : Method} {c : Code} {H : Heap} {locs : List Loc} {cells slots : Nat} {Q : State → Prop}
variable {cc : ByteArray} {pc nL : Nat} {ls : Array Slot} {rest : List Value} {G : GT} {N : Nat} {own : String} {ret : Option FieldType} {cw : Nat → va_E} {cs : Mem → Nat → va_E} {σ : Mem}
theorem xmmax (ha : Amb p c cc nL s args own m meth ret G N) {index : Nat} (hw : Cond.methodLink own index Lib.Math.max.name ∈ TB) (hls : ls.size = nL) (hf : 1 ≤ R.frames) (hlo : (rest.map fun v => v.category).sum + 13 ≤ R.locals) (hc : cells ≤ R.cells ∧ slots ≤ R.slots) {x y : Int32} (hdg : decode cc pc = .ok (.invokestatic index, 3))
    (kk : W p l e R s m args below meth c H locs cells slots Q (F0 m (pc + 3) ls (.int (imax x y) :: rest))) : W p l e R s m args below meth c H locs cells slots Q (F0 m pc ls (.int y :: .int x :: rest)) := by
  obtain ⟨hx, hb, hml, hown, hts, -⟩ := ha
  exact va_mmax hx hb (hml.trans hls.symm) hown (hts _ hw) (hts _ (tb_in (by decide +kernel))) (hts _ (tb_in (by decide +kernel))) (hts _ (tb_in (by decide +kernel))) hf hlo hc.1 hc.2 hdg kk
theorem xmmin (ha : Amb p c cc nL s args own m meth ret G N) {index : Nat} (hw : Cond.methodLink own index Lib.Math.min.name ∈ TB) (hls : ls.size = nL) (hf : 1 ≤ R.frames) (hlo : (rest.map fun v => v.category).sum + 13 ≤ R.locals) (hc : cells ≤ R.cells ∧ slots ≤ R.slots) {x y : Int32} (hdg : decode cc pc = .ok (.invokestatic index, 3))
    (kk : W p l e R s m args below meth c H locs cells slots Q (F0 m (pc + 3) ls (.int (imin x y) :: rest))) : W p l e R s m args below meth c H locs cells slots Q (F0 m pc ls (.int y :: .int x :: rest)) := by
  obtain ⟨hx, hb, hml, hown, hts, -⟩ := ha
  refine va_mmin hx hb (hml.trans hls.symm) hown (hts _ hw) (hts _ (tb_in (by decide +kernel))) (hts _ (tb_in (by decide +kernel))) (hts _ (tb_in (by decide +kernel))) hf hlo hc.1 hc.2 hdg ?_
  exact kk
theorem xklget (ha : Amb p c cc nL s args own m meth ret G N) (hS : va_S (xA G N s.heap.size) s.heap H locs) {kl index : Nat} {host : String} (hz : va_Z "PoleNave" "KIND_LETTERS" "[I" (.ref kl) (xA G N s.heap.size) s s.heap) (hw : Cond.fieldLinkNest own index "PoleNave" "KIND_LETTERS" "[I" host ∈ NB) (hdg : decode cc pc = .ok (.getstatic index, 3))
    (kk : W p l e R s m args below meth c H locs cells slots Q (F0 m (pc + 3) ls (.ref kl :: rest))) : W p l e R s m args below meth c H locs cells slots Q (F0 m pc ls rest) := by
  obtain ⟨hx, hb, hml, hown, hts, -, -, hK, hD, hN, hL⟩ := ha
  exact va_getsN hx hb hz hS hown (va_Nw.use rfl (hN _ hw)) (fun _ h => h) hdg kk
end XM
