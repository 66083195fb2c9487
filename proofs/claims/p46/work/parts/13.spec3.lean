/-! reading a text -/
def a_fig (σ : Mem) (t : Nat) (i : Int32) : Int32 := if a_get σ t i < 48 then -1 else if 57 < a_get σ t i then -1 else a_get σ t i - 48
def a_kind (x : Int32) : Int32 := if x = 112 then 0 else if x = 114 then 1 else if x = 108 then 2 else if x = 115 then 3 else if x = 100 then 4 else if x = 107 then 5 else -1
theorem a_kind_at {x : Int32} {j : Nat} (hj : j < 6) (h : klF j = x) : nI j = a_kind x := by
  rcases (show j = 0 ∨ j = 1 ∨ j = 2 ∨ j = 3 ∨ j = 4 ∨ j = 5 by omega) with rfl | rfl | rfl | rfl | rfl | rfl <;> (subst h; decide)
theorem a_kind_no {x : Int32} (h : ∀ q, q < 6 → ¬ klF q = x) : (-1 : Int32) = a_kind x := by
  have h0 : ¬ x = 112 := fun e => h 0 (by decide) e.symm
  have h1 : ¬ x = 114 := fun e => h 1 (by decide) e.symm
  have h2 : ¬ x = 108 := fun e => h 2 (by decide) e.symm
  have h3 : ¬ x = 115 := fun e => h 3 (by decide) e.symm
  have h4 : ¬ x = 100 := fun e => h 4 (by decide) e.symm
  have h5 : ¬ x = 107 := fun e => h 5 (by decide) e.symm
  simp [a_kind, h0, h1, h2, h3, h4, h5]
def a_rPole (σ : Mem) (p t : Nat) (i kind : Int32) : Int32 := if kind < 0 then i else if σ p 0 < 4 then (if a_fig σ t (i + 1) < 1 then i + 1 else if a_fig σ t (i + 2) < 0 then i + 2 else if a_fig σ t (i + 3) < 0 then i + 3 else if 60 < 10 * a_fig σ t (i + 2) + a_fig σ t (i + 3) then i + 2 else -9) else i
def m_rPole (σ : Mem) (p t : Nat) (i kind : Int32) : Mem := if kind < 0 then σ else if σ p 0 < 4 then (if a_fig σ t (i + 1) < 1 then σ else if a_fig σ t (i + 2) < 0 then σ else if a_fig σ t (i + 3) < 0 then σ else if 60 < 10 * a_fig σ t (i + 2) + a_fig σ t (i + 3) then σ else mU (mU (mU (mU σ (p + 1) (ix (σ p 0)) kind) (p + 2) (ix (σ p 0)) (a_fig σ t (i + 1))) (p + 3) (ix (σ p 0)) (10 * a_fig σ t (i + 2) + a_fig σ t (i + 3))) p 0 (σ p 0 + 1)) else σ
def a_rOne (σ : Mem) (p t : Nat) (i : Int32) : Int32 := if σ p 1 < 5 then (if a_fig σ t (i + 1) < 1 then i + 1 else if a_fig σ t (i + 2) < 0 then i + 2 else -9) else i
def m_rOne (σ : Mem) (p t : Nat) (i : Int32) : Mem := if σ p 1 < 5 then (if a_fig σ t (i + 1) < 1 then σ else if a_fig σ t (i + 2) < 0 then σ else mU (mU (mU σ (p + 4) (ix (σ p 1)) (a_fig σ t (i + 1))) (p + 5) (ix (σ p 1)) (a_fig σ t (i + 2))) p 1 (σ p 1 + 1)) else σ
theorem m_rPole_n (σ : Mem) (p t : Nat) (i kind : Int32) {q : Nat} (h : q < p ∨ p + 5 < q) : m_rPole σ p t i kind q = σ q := by
  unfold m_rPole
  repeat' split
  all_goals first | rfl | (rw [mU_n _ _ _ (by omega), mU_n _ _ _ (by omega), mU_n _ _ _ (by omega), mU_n _ _ _ (by omega)])
theorem m_rOne_n (σ : Mem) (p t : Nat) (i : Int32) {q : Nat} (h : q < p ∨ p + 5 < q) : m_rOne σ p t i q = σ q := by
  unfold m_rOne
  repeat' split
  all_goals first | rfl | (rw [mU_n _ _ _ (by omega), mU_n _ _ _ (by omega), mU_n _ _ _ (by omega)])
theorem i_succ {x : Int32} {n : Nat} (h0 : 0 ≤ x.toInt) (h : x.toInt < (n : Int)) (hn : n < 2 ^ 30) : (x + 1).toInt = x.toInt + 1 := by
  have h1 := ix_nI h0
  have h2 := ix_toInt h0
  rw [h1, nI_1, nI_toInt (by omega), nI_toInt (by omega)]
  omega
theorem PO_rPole {p : Nat} {σ : Mem} (h : PO p σ) (t : Nat) (i kind : Int32) : PO p (m_rPole σ p t i kind) := by
  unfold m_rPole
  repeat' split
  all_goals first | exact h | skip
  have h1 : (σ p 0).toInt < 4 := by
    have := i_lt (show σ p 0 < 4 by assumption)
    exact this
  have h2 := i_succ h.1 (n := 4) h1 (by decide)
  refine ⟨?_, ?_, ?_, ?_⟩
  · simp only [mU_e, if_true]; rw [h2]; have := h.1; omega
  · simp only [mU_e, if_true]; rw [h2]; omega
  · simp [mU_e]; exact h.2.2.1
  · simp [mU_e]; exact h.2.2.2
theorem PO_rOne {p : Nat} {σ : Mem} (h : PO p σ) (t : Nat) (i : Int32) : PO p (m_rOne σ p t i) := by
  unfold m_rOne
  repeat' split
  all_goals first | exact h | skip
  have h1 : (σ p 1).toInt < 5 := by
    have := i_lt (show σ p 1 < 5 by assumption)
    exact this
  have h2 := i_succ h.2.2.1 (n := 5) h1 (by decide)
  refine ⟨?_, ?_, ?_, ?_⟩
  · simp [mU_e]; exact h.1
  · simp [mU_e]; exact h.2.1
  · simp only [mU_e, if_true]; rw [h2]; have := h.2.2.1; omega
  · simp only [mU_e, if_true]; rw [h2]; omega
theorem PO_00 (p : Nat) (σ : Mem) : PO p (mU (mU σ p 0 0) p 1 0) := by
  refine ⟨?_, ?_, ?_, ?_⟩ <;> simp [mU_e]
def rd (p t : Nat) : Nat → Mem → Int32 → Int32 × Mem
  | 0, σ, _ => (0, σ)
  | n + 1, σ, i => if i < σ t 0 then (if a_get σ t i = 32 then rd p t n σ (i + 1) else if a_get σ t i = 109 then (if a_rOne σ p t i = -9 then rd p t n (m_rOne σ p t i) (i + 3) else (a_rOne σ p t i, m_rOne σ p t i)) else (if a_rPole σ p t i (a_kind (a_get σ t i)) = -9 then rd p t n (m_rPole σ p t i (a_kind (a_get σ t i))) (i + 4) else (a_rPole σ p t i (a_kind (a_get σ t i)), m_rPole σ p t i (a_kind (a_get σ t i)))))
    else (if σ p 0 = 0 then σ t 0 else if σ p 1 = 0 then σ t 0 else -9, σ)
def rd0 (p t : Nat) (σ : Mem) : Int32 × Mem := rd p t 65 (mU (mU σ p 0 0) p 1 0) 0
theorem rd_n (p t : Nat) {q : Nat} (h : q < p ∨ p + 5 < q) : ∀ (n : Nat) (σ : Mem) (i : Int32), (rd p t n σ i).2 q = σ q := by
  intro n
  induction n with
  | zero => intro σ i; rfl
  | succ n ih =>
    intro σ i
    rw [rd]
    split
    · split
      · exact ih _ _
      · split
        · split
          · exact (ih _ _).trans (m_rOne_n _ _ _ _ h)
          · exact m_rOne_n _ _ _ _ h
        · split
          · exact (ih _ _).trans (m_rPole_n _ _ _ _ _ h)
          · exact m_rPole_n _ _ _ _ _ h
    · rfl
theorem PO_rd {p t : Nat} : ∀ (n : Nat) (σ : Mem) (i : Int32), PO p σ → PO p (rd p t n σ i).2 := by
  intro n
  induction n with
  | zero => intro σ i h; exact h
  | succ n ih =>
    intro σ i h
    rw [rd]
    split
    · split
      · exact ih _ _ h
      · split
        · split
          · exact ih _ _ (PO_rOne h _ _)
          · exact PO_rOne h _ _
        · split
          · exact ih _ _ (PO_rPole h _ _ _)
          · exact PO_rPole h _ _ _
    · exact h
theorem PO_rd0 (p t : Nat) (σ : Mem) : PO p (rd0 p t σ).2 := PO_rd _ _ _ (PO_00 p σ)
theorem rd0_n (p t : Nat) (σ : Mem) {q : Nat} (h : q < p ∨ p + 5 < q) : (rd0 p t σ).2 q = σ q := by
  unfold rd0; rw [rd_n p t h, mU_n _ _ _ (by omega), mU_n _ _ _ (by omega)]
section XK
variable {p : Program} {l : Launch} {e : Env} {R : Room} {s : State} {m : MethodId} {args : Array Value} {below : List Frame} {meth : Method} {c : Code} {H : Heap} {locs : List Loc} {cells slots : Nat} {Q : State → Prop}
variable {cc : ByteArray} {pc nL : Nat} {ls : Array Slot} {rest : List Value} {G : GT} {N : Nat} {own : String} {ret : Option FieldType}
theorem xkl_lt {kl : Nat} (h : va_X kl 6 klF s s.heap) : kl < s.heap.size := by
  obtain ⟨scr, q1, -⟩ := h
  exact (Array.getElem?_eq_some_iff.mp q1).1
theorem xkllen (ha : Amb p c cc nL s args own m meth ret G N) (hS : va_S (xA G N s.heap.size) s.heap H locs) {kl : Nat} (hk : va_X kl 6 klF s s.heap ∧ ¬ xA G N s.heap.size kl) (hdg : decode cc pc = .ok (.arraylength, 1))
    (kk : W p l e R s m args below meth c H locs cells slots Q (F0 m (pc + 1) ls (.int 6 :: rest))) : W p l e R s m args below meth c H locs cells slots Q (F0 m pc ls (.ref kl :: rest)) := by
  obtain ⟨hx, hb, hml, hown, hts, -, -, hK, -⟩ := ha
  refine va_slen hx hb hk.1 (xkl_lt hk.1) hk.2 hS hdg ?_
  exact kk
theorem xklald (ha : Amb p c cc nL s args own m meth ret G N) (hS : va_S (xA G N s.heap.size) s.heap H locs) {kl : Nat} (hk : va_X kl 6 klF s s.heap ∧ ¬ xA G N s.heap.size kl) {i : Int32} (j : Nat) (hj : i = nI j) (hjn : j < 6) (hdg : decode cc pc = .ok (.iaload, 1))
    (kk : W p l e R s m args below meth c H locs cells slots Q (F0 m (pc + 1) ls (.int (klF j) :: rest))) : W p l e R s m args below meth c H locs cells slots Q (F0 m pc ls (.int i :: .ref kl :: rest)) := by
  obtain ⟨hx, hb, hml, hown, hts, -, -, hK, -⟩ := ha
  subst hj
  refine va_sld hx hb hk.1 (xkl_lt hk.1) hk.2 hS (vp_in_nI hjn (by decide)) hdg ?_
  rw [nI_clamp (by omega)]
  exact kk
theorem lv_iaddE (hexec : p.tables.exec = Jvm.exec) (hb : c.code = cc) {x y z : Int32} (hdg : decode cc pc = .ok (.iadd, 1)) (hz : x + y = z)
    (k : W p l e R s m args below meth c H locs cells slots Q (F0 m (pc + 1) ls (.int z :: rest))) : W p l e R s m args below meth c H locs cells slots Q (F0 m pc ls (.int y :: .int x :: rest)) := by
  subst hz; exact lv_iadd hexec hb hdg k
theorem lv_isubE (hexec : p.tables.exec = Jvm.exec) (hb : c.code = cc) {x y z : Int32} (hdg : decode cc pc = .ok (.isub, 1)) (hz : x - y = z)
    (k : W p l e R s m args below meth c H locs cells slots Q (F0 m (pc + 1) ls (.int z :: rest))) : W p l e R s m args below meth c H locs cells slots Q (F0 m pc ls (.int y :: .int x :: rest)) := by
  subst hz; exact lv_isub hexec hb hdg k
theorem lv_imulE (hexec : p.tables.exec = Jvm.exec) (hb : c.code = cc) {x y z : Int32} (hdg : decode cc pc = .ok (.imul, 1)) (hz : x * y = z)
    (k : W p l e R s m args below meth c H locs cells slots Q (F0 m (pc + 1) ls (.int z :: rest))) : W p l e R s m args below meth c H locs cells slots Q (F0 m pc ls (.int y :: .int x :: rest)) := by
  subst hz; exact lv_imul hexec hb hdg k
theorem lv_iremE (hexec : p.tables.exec = Jvm.exec) (hb : c.code = cc) {x y z : Int32} (hdg : decode cc pc = .ok (.irem, 1)) (hne : ¬ y = 0) (hz : x - x / y * y = z)
    (k : W p l e R s m args below meth c H locs cells slots Q (F0 m (pc + 1) ls (.int z :: rest))) : W p l e R s m args below meth c H locs cells slots Q (F0 m pc ls (.int y :: .int x :: rest)) := by
  subst hz; exact lv_irem hexec hb hdg hne k
end XK
