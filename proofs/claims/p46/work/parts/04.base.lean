/-! THE WORLD OF A SYSTEM WHOSE OBJECTS ARE ALL MADE BY ITS CONSTRUCTOR: cells by number, a memory of ints, contracts without a frame to join -/
def TB : List Cond := lw_tbl.filter goodWord
theorem tb_in {w : Cond} (h : (decide (w ∈ lw_tbl) && goodWord w) = true) : w ∈ TB := by
  rw [Bool.and_eq_true, decide_eq_true_eq] at h
  exact List.mem_filter.mpr h
theorem tb_ins {ws : List Cond} (h : ws.all (fun w => decide (w ∈ lw_tbl) && goodWord w) = true) : ∀ w ∈ ws, w ∈ TB := fun w hw => tb_in (List.all_eq_true.mp h w hw)
theorem tb_good : ∀ w ∈ TB, (w.onTables && w.keeps) = true ∨ ∃ ty, w = .arrayClass ty := fun w h => good_of_word (List.mem_filter.mp h).2
theorem tb_pay {s : State} {args : Array Value} {cd : Cond} (ht : ∀ w ∈ TB, w.before args s = true) (hcd : cd ∈ TB) : ∀ w ∈ cd :: TB, ∀ (a' : Array Value) (U : State), s.WarmedH U.vm → w.before a' U = true := by
  intro w hw a' U hW
  have h : w ∈ TB := by
    rcases List.mem_cons.mp hw with rfl | h
    · exact hcd
    · exact h
  exact word_at hW (tb_good w h) (ht w h)
theorem k_cwB {R : Room} {s : State} {args : Array Value} {own : String} {index : Nat} {y : MethodName} {bytes : ByteArray} {maxL : Nat} {ret : Option FieldType} {rm : Room} (n : Nat) (ht : ∀ w ∈ TB, w.before args s = true)
    (hini : Cond.initialized y.cls ∈ TB) (hl : Cond.methodLink own index y ∈ TB) (hcd : Cond.code y bytes maxL ret ∈ TB)
    (hd : y.cls ≠ "java/lang/invoke/MethodHandle" ∧ y.cls ≠ "java/lang/invoke/VarHandle" ∧ (parseMethodDescriptor y.desc).map (fun d => d.parameters.length) = some n) (hR : rm.frames + 1 ≤ R.frames ∧ 8 + (maxL + 11) + rm.locals ≤ R.locals) :
    CallB R s args own index y bytes maxL ret (.code y bytes maxL ret :: TB) rm rm.cells rm.slots n := by
  refine ⟨rfl, rfl, hR.1, hR.2, tb_pay ht hcd, List.mem_cons_self, ht _ hcd, ht _ hini, ⟨hd.1, hd.2.1⟩, fun sig h => ?_, ht _ hl⟩
  have h2 := hd.2.2
  rw [h] at h2
  exact (Option.some.inj h2).symm
/-- the words of a call of a method of an object -/
abbrev k5V (own : String) (index : Nat) (y : MethodName) (bytes : ByteArray) (maxL : Nat) (ret : Option FieldType) : List Cond := [.methodLink own index y, .instanceMethod y, .selects y.cls y y, .initialized y.cls, .code y bytes maxL ret]
abbrev k5S (own : String) (index : Nat) (y : MethodName) (bytes : ByteArray) (maxL : Nat) (ret : Option FieldType) : List Cond := [.methodLink own index y, .static y, .initialized y.cls, .code y bytes maxL ret]
/-- of a private static method of a nest mate: its link stands among the nest's words -/
abbrev k5N (y : MethodName) (bytes : ByteArray) (maxL : Nat) (ret : Option FieldType) : List Cond := [.static y, .initialized y.cls, .code y bytes maxL ret]
abbrev kHd (y : MethodName) (n : Nat) : Prop := y.cls ≠ "java/lang/invoke/MethodHandle" ∧ y.cls ≠ "java/lang/invoke/VarHandle" ∧ (parseMethodDescriptor y.desc).map (fun d => d.parameters.length) = some n
-- the nest's words
def NB : List Cond := lw_tbl.filter (fun w => match w with | .methodLinkNest .. => true | .fieldLinkNest .. => true | _ => false)
theorem nb_in {w : Cond} (h : decide (w ∈ NB) = true) : w ∈ NB := of_decide_eq_true h
theorem nb_warm {s U : State} (hW : s.WarmedH U.vm) (h : ∀ w ∈ NB, va_Nw w s) : ∀ w ∈ NB, va_Nw w U := by
  intro w hw
  have h1 := (List.mem_filter.mp hw).2
  have h2 := h w hw
  match w, h1, h2 with
  | .methodLinkNest a i x h, _, h2 => exact va_Nw.warmM hW h2
  | .fieldLinkNest a i b n d h, _, h2 => exact va_Nw.warmF hW h2
theorem nb_same {s U : State} (hW : s.vm = U.vm) (h : ∀ w ∈ NB, va_Nw w s) : ∀ w ∈ NB, va_Nw w U := by
  intro w hw
  have h1 := (List.mem_filter.mp hw).2
  have h2 := h w hw
  match w, h1, h2 with
  | .methodLinkNest a i x h, _, h2 => exact va_Nw.same rfl hW h2
  | .fieldLinkNest a i b n d h, _, h2 => exact va_Nw.same rfl hW h2
-- memories
abbrev Mem : Type := Nat → Nat → Int32
def mA (σ : Mem) (o : Nat) (f : Nat → Int32) : Mem := fun q => if q = o then f else σ q
def mU (σ : Mem) (o j : Nat) (v : Int32) : Mem := mA σ o (upd (σ o) j v)
theorem mA_s (σ : Mem) (o : Nat) (f : Nat → Int32) : mA σ o f o = f := if_pos rfl
theorem mA_n (σ : Mem) {o q : Nat} (f : Nat → Int32) (h : q ≠ o) : mA σ o f q = σ q := if_neg h
theorem mU_s (σ : Mem) (o j : Nat) (v : Int32) : mU σ o j v o = upd (σ o) j v := if_pos rfl
theorem mU_n (σ : Mem) {o q : Nat} (j : Nat) (v : Int32) (h : q ≠ o) : mU σ o j v q = σ q := if_neg h
-- cells by number: addresses, classes' numbers, classes of rows (0 int[], 1 Row[], 2 Deeds[], 3 int[][])
abbrev GT : Type := (Nat → Nat) × va_G × (Nat → ClassId)
abbrev gT (G : GT) : List (ClassId × FieldType) := [(G.2.2 0, .int), (G.2.2 1, .object "PoleNave$Row"), (G.2.2 2, .object "PoleNave$Deeds"), (G.2.2 3, .array .int)]
def wl (G : GT) (N : Nat) (c : Nat → va_E) : va_W := (List.range N).map (fun i => (G.1 i, c i))
theorem wl_get {G : GT} {N : Nat} {c : Nat → va_E} {i : Nat} (h : i < N) : (wl G N c)[i]? = some (G.1 i, c i) := by
  simp [wl, h]
theorem wl_inv {G : GT} {N : Nat} {c : Nat → va_E} {i : Nat} {q : Nat × va_E} (h : (wl G N c)[i]? = some q) : i < N ∧ q = (G.1 i, c i) := by
  have hi : i < N := by
    have := (List.getElem?_eq_some_iff.mp h).1
    simpa [wl] using this
  rw [wl_get hi] at h
  exact ⟨hi, (Option.some.inj h).symm⟩
theorem wl_len {G : GT} {N : Nat} {c : Nat → va_E} : (wl G N c).length = N := by simp [wl]
theorem wl_set {G : GT} {N : Nat} {c : Nat → va_E} {i : Nat} {e : va_E} (h : i < N) : (wl G N c).set i (G.1 i, e) = wl G N (va_up c i e) := by
  apply List.ext_getElem?
  intro j
  rw [List.getElem?_set]
  by_cases hj : j < N
  · by_cases e1 : i = j
    · subst e1
      rw [if_pos rfl, wl_len, if_pos h, wl_get hj, va_up_self]
    · rw [if_neg e1, wl_get hj, wl_get hj, va_up_ne _ _ (fun q => e1 q.symm)]
  · have h1 : (wl G N c)[j]? = none := by rw [List.getElem?_eq_none]; rw [wl_len]; omega
    have h2 : (wl G N (va_up c i e))[j]? = none := by rw [List.getElem?_eq_none]; rw [wl_len]; omega
    rw [h1, h2, if_neg (by omega)]
theorem wl_congr {G : GT} {N : Nat} {c d : Nat → va_E} (h : ∀ i, c i = d i) : wl G N c = wl G N d := by rw [show c = d from funext h]
theorem wl_D {G : GT} {N : Nat} {c d : Nat → va_E} {A : Nat → Prop} (h : va_D A (wl G N c)) : va_D A (wl G N d) := by
  refine ⟨fun i j p q hi hj e => ?_, fun k q hk => ?_⟩
  · obtain ⟨h1, rfl⟩ := wl_inv hi
    obtain ⟨h2, rfl⟩ := wl_inv hj
    exact h.1 i j _ _ (wl_get h1) (wl_get h2) e
  · obtain ⟨h1, rfl⟩ := wl_inv hk
    exact h.2 k (G.1 k, c k) (wl_get h1)
def xA (G : GT) (N sz : Nat) : Nat → Prop := fun q => (∃ i, i < N ∧ q = G.1 i) ∨ sz ≤ q
theorem wl_DA {G : GT} {N : Nat} {c d : Nat → va_E} {A : Nat → Prop} {sz : Nat} (h : va_D A (wl G N c)) : va_D (xA G N sz) (wl G N d) := by
  refine ⟨(wl_D h).1, fun k q hk => ?_⟩
  obtain ⟨h1, rfl⟩ := wl_inv hk
  exact Or.inl ⟨k, h1, rfl⟩
theorem wl_P {G : GT} {N : Nat} {c : Nat → va_E} {D : va_G} {cl : List vw_C} {H : Heap} (h : va_P D cl (wl G N c) H) {i : Nat} (hi : i < N) : va_at D cl (G.1 i, c i) H := h i _ (wl_get hi)
/-- the letters of the kinds -/
def klF : Nat → Int32 := fun j => match j with | 0 => 112 | 1 => 114 | 2 => 108 | 3 => 115 | 4 => 100 | _ => 107
def xKL0 (G : GT) (A : Nat → Prop) (U : State) (H : Heap) : Prop := ∃ kl : Nat, va_Z "PoleNave" "KIND_LETTERS" "[I" (.ref kl) A U H ∧ va_X kl 6 klF U H ∧ ¬ A kl
/-- the script: its cell, its size, its ints lie in the cells' numbers behind the world's -/
def sB (G : GT) : Nat := G.1 1000
def sL (G : GT) : Nat := G.1 1001
def sF (G : GT) : Nat → Int32 := fun j => Int32.ofNat (G.1 (2000 + j))
def xSC (G : GT) (A : Nat → Prop) (U : State) (H : Heap) : Prop := va_X (sB G) (sL G) (sF G) U H ∧ ¬ A (sB G) ∧ sL G ≤ 260
def xKL (G : GT) (A : Nat → Prop) (U : State) (H : Heap) : Prop := xKL0 G A U H ∧ xSC G A U H
theorem xKL.moved {G : GT} {A : Nat → Prop} {u U : State} {H : Heap} (hvm : u.vm.Alike U.vm) (h : xKL G A u H) : xKL G A U H := by
  obtain ⟨⟨kl, h1, h2, h3⟩, h4, h5⟩ := h
  exact ⟨⟨kl, h1.moved hvm, h2.moved hvm, h3⟩, h4.moved hvm, h5⟩
theorem xKL.on {G : GT} {N : Nat} {U : State} {H0 H : Heap} {locs : List Loc} (hS : va_S (xA G N H0.size) H0 H locs) (h : xKL G (xA G N H0.size) U H0) : xKL G (xA G N H.size) U H := by
  have hk : ∀ q : Nat, q < H0.size → ¬ xA G N H0.size q → ¬ xA G N H.size q := fun q h1 h2 h3 => by
    rcases h3 with h3 | h3
    · exact h2 (Or.inl h3)
    · exact absurd h1 (Nat.not_lt.mpr (Nat.le_trans hS.1 h3))
  obtain ⟨⟨kl, ⟨cf, kf, fi, f, a, cell, e1, e2, e3, e4, e5, e6, e7, e8⟩, h2, h3⟩, h4, h5, h6⟩ := h
  have ha : a < H0.size := (Array.getElem?_eq_some_iff.mp e5).1
  have hl : kl < H0.size := by
    obtain ⟨scr, q1, -⟩ := h2
    exact (Array.getElem?_eq_some_iff.mp q1).1
  have hs : sB G < H0.size := by
    obtain ⟨scr, q1, -⟩ := h4
    exact (Array.getElem?_eq_some_iff.mp q1).1
  exact ⟨⟨kl, ⟨cf, kf, fi, f, a, cell, e1, e2, e3, e4, by rw [hS.2.1 a ha e8]; exact e5, e6, e7, hk a ha e8⟩, h2.kept (hS.2.1 kl hl h3), hk kl hl h3⟩, h4.kept (hS.2.1 _ hs h5), hk _ hs h5, h6⟩
/-- a method's start: the world, the machine's tables -/
def xPre (G : GT) (N : Nat) (c : Nat → va_E) (sz : Nat) (U : State) : Prop := U.heap.size = sz ∧ va_P G.2.1 vwCl (wl G N c) U.heap ∧ va_K G.2.1 vwCl (gT G) U ∧ va_D (fun _ => True) (wl G N c) ∧ (∀ w ∈ NB, va_Nw w U) ∧ xKL G (xA G N sz) U U.heap
/-- what holds all the way through a method -/
def Amb (p : Program) (c : Code) (cc : ByteArray) (nL : Nat) (s : State) (args : Array Value) (own : String) (m : MethodId) (meth : Method) (ret : Option FieldType) (G : GT) (N : Nat) : Prop :=
  p.tables.exec = Jvm.exec ∧ c.code = cc ∧ c.maxLocals = nL ∧ s.vm.findClass own = some m.cls ∧ (∀ w ∈ TB, w.before args s = true) ∧ meth.sig.returnType = ret ∧ meth.locks = false ∧ va_K G.2.1 vwCl (gT G) s ∧ va_D (xA G N s.heap.size) (wl G N (fun _ => .inr (0, []))) ∧ (∀ w ∈ NB, va_Nw w s) ∧ xKL G (xA G N s.heap.size) s s.heap
set_option maxHeartbeats 1000000 in
theorem xbegin {G : GT} {N : Nat} {c0 : Nat → va_E} {l : Launch} {y : MethodName} {rm : Room} {cc : ByteArray} {nL : Nat} {ret : Option FieldType} {As : List Value} {Qc : Array Value → State → Outcome → State → Prop} {sz mc ms : Nat} {free : Addr → Prop} (hy : plainName y.cls = true) (hle : (lg_sl As).length ≤ nL)
    (body : ∀ (p : Program) (e : Env) (s : State) (m : MethodId) (below : List Frame) (meth : Method) (c : Code) (ls : Array Slot), s.heap.size = sz → Amb p c cc nL s As.toArray y.cls m meth ret G N → va_P G.2.1 vwCl (wl G N c0) s.heap → lv_has ls nL (lv_args 0 As) →
      W p l e rm s m As.toArray below meth c s.heap [] 0 0 (MQ below Qc As.toArray s mc ms free) (F0 m 0 ls [])) : Met l y (.code y cc nL ret :: TB) rm (va_Pc As (xPre G N c0 sz)) Qc mc ms free := by
  refine Met.ofW (cc := cc) (maxL := nL) (ret := ret) hy rfl ?_
  intro p e s m args below meth c s₁ B hml hv
  obtain ⟨rfl, hsz, hP, hK, hD, hN, hL⟩ := hv
  have hts := atoms_spec (ws := .code y cc nL ret :: TB) B.pre
  have hown : s.vm.findClass y.cls = some m.cls := findClass_of_methodNamed B.named
  have hl := lv_entry As (n := nL) hle
  rw [lg_entry_eq]
  subst hsz
  exact body p e s m below meth c _ rfl ⟨B.exec, B.bytes, hml, hown, fun w h => hts w (List.mem_cons_of_mem _ h), B.returns, B.notSynchronized, hK, wl_DA hD, hN, hL⟩ hP hl
/-- the contracts' form: from the world of σ, to an answer and the world of another memory -/
abbrev xB (G : GT) (N : Nat) (cs : Mem → Nat → va_E) : Mem → State → Prop := fun u t => va_P G.2.1 vwCl (wl G N (cs u)) t.heap
def CI (G : GT) (N : Nat) (cs : Mem → Nat → va_E) (l : Launch) (y : MethodName) (rm : Room) (cc : ByteArray) (nL : Nat) (ret : Option FieldType) (As : List Value) (σ : Mem) (post : Int32 → Mem → Prop) : Prop :=
  ∀ sz : Nat, Met l y (.code y cc nL ret :: TB) rm (va_Pc As (xPre G N (cs σ) sz)) (va_Qi post (xB G N cs) (xA G N sz)) 0 0 (xA G N sz)
def CL (G : GT) (N : Nat) (cs : Mem → Nat → va_E) (l : Launch) (y : MethodName) (rm : Room) (cc : ByteArray) (nL : Nat) (ret : Option FieldType) (As : List Value) (σ : Mem) (post : Int64 → Mem → Prop) : Prop :=
  ∀ sz : Nat, Met l y (.code y cc nL ret :: TB) rm (va_Pc As (xPre G N (cs σ) sz)) (va_Ql post (xB G N cs) (xA G N sz)) 0 0 (xA G N sz)
def CV (G : GT) (N : Nat) (cs : Mem → Nat → va_E) (l : Launch) (y : MethodName) (rm : Room) (cc : ByteArray) (nL : Nat) (ret : Option FieldType) (As : List Value) (σ : Mem) (post : Mem → Prop) : Prop :=
  ∀ sz : Nat, Met l y (.code y cc nL ret :: TB) rm (va_Pc As (xPre G N (cs σ) sz)) (va_Qv post (xB G N cs) (xA G N sz)) 0 0 (xA G N sz)
def CQ (G : GT) (N : Nat) (cs : Mem → Nat → va_E) (l : Launch) (y : MethodName) (rm : Room) (cc : ByteArray) (nL : Nat) (ret : Option FieldType) (As : List Value) (σ : Mem) (post : Option Nat → Mem → Prop) : Prop :=
  ∀ sz : Nat, Met l y (.code y cc nL ret :: TB) rm (va_Pc As (xPre G N (cs σ) sz)) (va_Qq post (xB G N cs) (xA G N sz)) 0 0 (xA G N sz)
