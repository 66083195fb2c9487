/-! searches: seatings -/
theorem vS_mA (σ : Mem) {p a : Nat} (f : Nat → Int32) (h : a < p ∨ p + 3 ≤ a) : vS (mA σ a f) p = vS σ p := by
  funext q; unfold vS; by_cases hq : q < 3
  · simp only [hq, if_true]; exact mA_n _ _ (by omega)
  · simp [hq]
theorem vS_mU (σ : Mem) {p a : Nat} (j : Nat) (v : Int32) (h : a < p ∨ p + 3 ≤ a) : vS (mU σ a j v) p = vS σ p := vS_mA _ _ h
theorem vS_mF (σ : Mem) {p a : Nat} (n : Nat) (g : Nat → Int32) (h : a < p ∨ p + 3 ≤ a) : vS (mF σ a n g) p = vS σ p := vS_mA _ _ h
theorem vS_eq {σ τ : Mem} {p : Nat} (h : ∀ q, q < 3 → τ (p + q) = σ (p + q)) : vS τ p = vS σ p := by
  funext q; unfold vS; by_cases hq : q < 3
  · simp only [hq, if_true]; exact h q hq
  · simp [hq]
theorem vP_eq {σ τ : Mem} {p : Nat} (h : ∀ q, q < 6 → τ (p + q) = σ (p + q)) : vP τ p = vP σ p := by
  funext q; unfold vP; by_cases hq : q < 6
  · simp only [hq, if_true]; exact h q hq
  · simp [hq]
def mD (σ : Mem) (a n j : Nat) (h : Nat → Int32) : Mem := mA σ a (fun q => if n - j ≤ q ∧ q ≤ n then h (n - q) else σ a q)
theorem mD_e (σ : Mem) (a n j : Nat) (h : Nat → Int32) (q k : Nat) : mD σ a n j h q k = if q = a then (if n - j ≤ k ∧ k ≤ n then h (n - k) else σ a k) else σ q k := mA_e _ _ _ _ _
theorem mD_n (σ : Mem) {a q : Nat} (n j : Nat) (h : Nat → Int32) (hq : q ≠ a) : mD σ a n j h q = σ q := mA_n _ _ hq
theorem mD_0 (σ : Mem) (a n : Nat) (h : Nat → Int32) {v : Int32} (hv : v = h 0) : mU σ a n v = mD σ a n 0 h := mem_ext fun q k => by
  rw [mU_e, mD_e, hv]
  by_cases h1 : q = a
  · by_cases h2 : k = n
    · subst h2; simp [h1]
    · rw [if_pos h1, if_pos h1, if_neg h2, if_neg (by omega), h1]
  · simp [h1]
theorem mD_s (σ : Mem) (a n j : Nat) (h : Nat → Int32) {v : Int32} {i : Nat} (hi : n = j + i + 1) (hv : v = h (j + 1)) : mU (mD σ a n j h) a i v = mD σ a n (j + 1) h := mem_ext fun q k => by
  rw [mU_e, mD_e, mD_e, hv]
  by_cases h1 : q = a
  · by_cases h2 : k = i
    · subst h2; rw [if_pos h1, if_pos rfl, if_pos h1, if_pos (by omega), show n - k = j + 1 by omega]
    · rw [if_pos h1, if_neg h2, if_pos h1, if_pos h1]
      by_cases h3 : n - j ≤ k ∧ k ≤ n
      · rw [if_pos h3, if_pos (by omega)]
      · rw [if_neg h3, if_neg (by omega)]
  · simp [h1]
def forM (f : Nat → Mem → Mem) : Nat → Mem → Mem
  | 0, τ => τ
  | n + 1, τ => f n (forM f n τ)
theorem forM_n {f : Nat → Mem → Mem} {q : Nat} (h : ∀ k τ, f k τ q = τ q) : ∀ n τ, forM f n τ q = τ q
  | 0, τ => rfl
  | n + 1, τ => (h n _).trans (forM_n h n τ)
def s_spare (P S : PT) (k : Nat) : Int32 := if a_isUp P S (nI k) = true then a_bearsNow P S (nI k) else 0
def s_hm (P : PT) (sp : Nat → Int32) (i : Nat) : Nat → Int32
  | 0 => 0
  | k + 1 => if 0 < sp k then imax (s_hm P sp i k) (a_high P (nI i) (nI k)) else s_hm P sp i k
def s_hv (P : PT) (sp : Nat → Int32) (n : Nat) : Nat → Int32
  | 0 => 0
  | c + 1 => s_hv P sp n c + s_hm P sp (n - c - 1) (nPl P)
def m_sBegin (σ : Mem) : Mem := mU (mU (mD (mF σ 52 (nPl (vP σ 33)) (s_spare (vP σ 33) (vS σ 45))) 53 (nPe (vP σ 33)) (nPe (vP σ 33)) (s_hv (vP σ 33) (mF σ 52 (nPl (vP σ 33)) (s_spare (vP σ 33) (vS σ 45)) 52) (nPe (vP σ 33)))) 51 0 (-1)) 51 1 (-9)
def s_leaf (σ : Mem) (high : Int32) : Mem := if σ 51 0 < high then mF (mU σ 51 0 high) 55 5 (σ 54) else σ
def s_high (P : PT) : Nat → Mem → Nat → Int32 → Mem
  | 0, σ, _, high => s_leaf σ high
  | d + 1, σ, i, high => if σ 51 0 < high + σ 53 i then forM (fun k τ => if τ 52 k < a_loadBy P (nI i) (nI k) then τ else
      mU (s_high P d (mU (mU τ 54 i (nI k)) 52 k (τ 52 k - a_loadBy P (nI i) (nI k))) (i + 1) (high + a_high P (nI i) (nI k))) 52 k (s_high P d (mU (mU τ 54 i (nI k)) 52 k (τ 52 k - a_loadBy P (nI i) (nI k))) (i + 1) (high + a_high P (nI i) (nI k)) 52 k + a_loadBy P (nI i) (nI k)))
      (nPl P) (s_high P d (mU σ 54 i (-9)) (i + 1) high) else σ
def s_hiK (P : PT) (d i : Nat) (high : Int32) (k : Nat) (τ : Mem) : Mem := if τ 52 k < a_loadBy P (nI i) (nI k) then τ else
      mU (s_high P d (mU (mU τ 54 i (nI k)) 52 k (τ 52 k - a_loadBy P (nI i) (nI k))) (i + 1) (high + a_high P (nI i) (nI k))) 52 k (s_high P d (mU (mU τ 54 i (nI k)) 52 k (τ 52 k - a_loadBy P (nI i) (nI k))) (i + 1) (high + a_high P (nI i) (nI k)) 52 k + a_loadBy P (nI i) (nI k))
theorem s_high_s (P : PT) (d : Nat) (σ : Mem) (i : Nat) (high : Int32) : s_high P (d + 1) σ i high = if σ 51 0 < high + σ 53 i then forM (s_hiK P d i high) (nPl P) (s_high P d (mU σ 54 i (-9)) (i + 1) high) else σ := rfl
theorem s_leaf_n (σ : Mem) (high : Int32) {q : Nat} (h : q ≠ 51 ∧ q ≠ 52 ∧ q ≠ 54 ∧ q ≠ 55) : s_leaf σ high q = σ q := by
  unfold s_leaf; split
  · rw [mF_n _ _ _ h.2.2.2, mU_n _ _ _ h.1]
  · rfl
theorem s_high_n (P : PT) {q : Nat} (h : q ≠ 51 ∧ q ≠ 52 ∧ q ≠ 54 ∧ q ≠ 55) : ∀ (d : Nat) (σ : Mem) (i : Nat) (high : Int32), s_high P d σ i high q = σ q := by
  intro d
  induction d with
  | zero => intro σ i high; exact s_leaf_n σ high h
  | succ d ih =>
    intro σ i high
    rw [s_high_s]
    split
    · rw [forM_n (fun k τ => ?_), ih, mU_n _ _ _ h.2.2.1]
      unfold s_hiK
      split
      · rfl
      · rw [mU_n _ _ _ h.2.1, ih, mU_n _ _ _ h.2.1, mU_n _ _ _ h.2.2.1]
    · rfl
theorem s_high_P {P : PT} (d : Nat) {σ : Mem} (i : Nat) (high : Int32) {Q : PT} (hP : vP σ 33 = Q) : vP (s_high P d σ i high) 33 = Q := by
  rw [← hP]; exact vP_eq fun q hq => s_high_n P (by omega) _ _ _ _
theorem PO_s_high {P : PT} (d : Nat) {σ : Mem} (i : Nat) (high : Int32) (h : PO 33 σ) : PO 33 (s_high P d σ i high) := PO_eq h (s_high_n P (by decide) _ _ _ _)
def m_offer (σ : Mem) (used : Int32) : Mem := if σ 51 1 = -9 then mU σ 51 1 used else if a_pop used - a_pop (σ 51 1) < 0 then mU σ 51 1 used else if a_pop used - a_pop (σ 51 1) = 0 then (if used < σ 51 1 then mU σ 51 1 used else σ) else σ
def s_allCut (σ : Mem) (used : Int32) : Bool := !decide (σ 51 1 = -9) && decide (a_pop (σ 51 1) < a_pop used)
def s_all (P : PT) : Nat → Mem → Nat → Int32 → Mem
  | 0, σ, _, used => if s_allCut σ used = true then σ else m_offer σ used
  | d + 1, σ, i, used => if s_allCut σ used = true then σ else forM (fun k τ => if τ 52 k < a_loadBy P (nI i) (nI k) then τ else
      mU (s_all P d (mU τ 52 k (τ 52 k - a_loadBy P (nI i) (nI k))) (i + 1) (used ||| (1 <<< (nI k &&& 31)))) 52 k (s_all P d (mU τ 52 k (τ 52 k - a_loadBy P (nI i) (nI k))) (i + 1) (used ||| (1 <<< (nI k &&& 31))) 52 k + a_loadBy P (nI i) (nI k))) (nPl P) σ
def s_allK (P : PT) (d i : Nat) (used : Int32) (k : Nat) (τ : Mem) : Mem := if τ 52 k < a_loadBy P (nI i) (nI k) then τ else
      mU (s_all P d (mU τ 52 k (τ 52 k - a_loadBy P (nI i) (nI k))) (i + 1) (used ||| (1 <<< (nI k &&& 31)))) 52 k (s_all P d (mU τ 52 k (τ 52 k - a_loadBy P (nI i) (nI k))) (i + 1) (used ||| (1 <<< (nI k &&& 31))) 52 k + a_loadBy P (nI i) (nI k))
theorem s_all_s (P : PT) (d : Nat) (σ : Mem) (i : Nat) (used : Int32) : s_all P (d + 1) σ i used = if s_allCut σ used = true then σ else forM (s_allK P d i used) (nPl P) σ := rfl
theorem m_offer_n (σ : Mem) (used : Int32) {q : Nat} (h : q ≠ 51) : m_offer σ used q = σ q := by
  unfold m_offer
  repeat' split
  all_goals first | rfl | exact mU_n _ _ _ h
theorem s_all_n (P : PT) {q : Nat} (h : q ≠ 51 ∧ q ≠ 52) : ∀ (d : Nat) (σ : Mem) (i : Nat) (used : Int32), s_all P d σ i used q = σ q := by
  intro d
  induction d with
  | zero =>
    intro σ i used
    unfold s_all; split
    · rfl
    · exact m_offer_n σ used h.1
  | succ d ih =>
    intro σ i used
    rw [s_all_s]
    split
    · rfl
    · rw [forM_n (fun k τ => ?_)]
      unfold s_allK
      split
      · rfl
      · rw [mU_n _ _ _ h.2, ih, mU_n _ _ _ h.2]
theorem s_all_P {P : PT} (d : Nat) {σ : Mem} (i : Nat) (used : Int32) {Q : PT} (hP : vP σ 33 = Q) : vP (s_all P d σ i used) 33 = Q := by
  rw [← hP]; exact vP_eq fun q hq => s_all_n P (by omega) _ _ _ _
theorem PO_s_all {P : PT} (d : Nat) {σ : Mem} (i : Nat) (used : Int32) (h : PO 33 σ) : PO 33 (s_all P d σ i used) := PO_eq h (s_all_n P (by decide) _ _ _ _)
section XCP
variable {p : Program} {l : Launch} {e : Env} {R : Room} {s : State} {m : MethodId} {args : Array Value} {below : List Frame} {meth : Method} {c : Code} {H : Heap} {locs : List Loc} {cells slots : Nat} {Q : State → Prop}
variable {cc : ByteArray} {pc nL : Nat} {ls : Array Slot} {rest : List Value} {G : GT} {N : Nat} {own : String} {ret : Option FieldType} {cs : Mem → Nat → va_E} {σ : Mem}
/-- System.arraycopy of the first k ints of a row to another one's start -/
theorem xcopy0 (ha : Amb p c cc nL s args own m meth ret G N) (hP : va_P G.2.1 vwCl (wl G N (cs σ)) H) (hS : va_S (xA G N s.heap.size) s.heap H locs) (hloc : xLoc cs) {index : Nat} (hw : Cond.methodLink own index arraycopyName ∈ TB) (q0 q1 : Nat) (h0 : q0 < N) (h1 : q1 < N) {n0 n1 : Nat} (hc0 : ∀ τ : Mem, cs τ q0 = .inl (G.2.2 0, n0, .inl (τ q0))) (hc1 : ∀ τ : Mem, cs τ q1 = .inl (G.2.2 0, n1, .inl (τ q1))) {k : Nat} (hk0 : k ≤ n0) (hk1 : k ≤ n1) (hk : k < 2 ^ 31) {n : Int32} (hn : n = nI k) (hf : 1 ≤ R.frames) (hlo : (rest.map fun v => v.category).sum + (nativeFrameWords "java/lang/System" "arraycopy" 5 + 11) ≤ R.locals) (hls : ls.size = nL) (hdg : decode cc pc = .ok (.invokestatic index, 3))
    (kk : ∀ (H : Heap) (locs : List Loc), va_P G.2.1 vwCl (wl G N (cs (mF σ q1 k (σ q0)))) H → va_S (xA G N s.heap.size) s.heap H locs → W p l e R s m args below meth c H locs cells slots Q (F0 m (pc + 3) ls rest)) : W p l e R s m args below meth c H locs cells slots Q (F0 m pc ls (.int n :: .int 0 :: .ref (G.1 q1) :: .int 0 :: .ref (G.1 q0) :: rest)) := by
  obtain ⟨hx, hb, hml, hown, hts, -, -, hK, hD, -⟩ := ha
  subst hn
  have hkk : (nI k).toNatClampNeg = k := nI_clamp hk
  refine va_copyi (D := G.2.1) hx hb (hml.trans hls.symm) hown (hts _ hw) (hts _ (tb_in (by decide +kernel))) (hts _ (tb_in (by decide +kernel))) (hts _ (tb_in (by decide +kernel))) hK hP (wl_D hD) hS q0 q1 0 0 (by rw [wl_get h0, hc0]) (by rw [wl_get h1, hc1]) rfl rfl rfl (by decide) (by decide) (nI_pos hk) (by rw [hkk]; show 0 + k ≤ n0; omega) (by rw [hkk]; show 0 + k ≤ n1; omega) (fun i hi => rfl) hf hlo hdg ?_
  intro H1 locs1 hP1 hD1 hS1
  refine kk H1 locs1 ?_ hS1
  have e1 : va_cpy (σ q0) (σ q1) ((0 : Int32).toNatClampNeg) ((0 : Int32).toNatClampNeg) ((nI k).toNatClampNeg) = fun j => if j < k then σ q0 j else σ q1 j := by
    funext j
    rw [hkk]
    show va_cpy (σ q0) (σ q1) 0 0 k j = _
    unfold va_cpy
    simp
  rw [e1, wl_set h1, xup hloc (τ := mF σ q1 k (σ q0)) (fun q hq => mF_n _ _ _ hq) (by rw [hc1]; unfold mF; rw [mA_s])] at hP1
  exact hP1
end XCP
theorem nPe_of {σ : Mem} {P : PT} (h : vP σ 33 = P) : nPe P = ix (σ 33 1) := by subst h; rfl
theorem nPl_of {σ : Mem} {P : PT} (h : vP σ 33 = P) : nPl P = ix (σ 33 0) := by subst h; rfl
theorem cX_p0_0 (G : GT) (σ : Mem) (v : Int32) : cX G (mU σ 0 0 v) 0 = .inr (7, [.ref (G.1 1), .ref (G.1 2), .ref (G.1 33), .ref (G.1 39), .ref (G.1 45), .ref (G.1 48), .ref (G.1 25), .ref (G.1 3), .ref (G.1 51), .ref (G.1 56), .ref (G.1 67), .ref (G.1 4), .int v, .int (σ 0 1), .long (σ 0 2).toInt64, .long (σ 0 3).toInt64]) := rfl
theorem cX_p0_1 (G : GT) (σ : Mem) (v : Int32) : cX G (mU σ 0 1 v) 0 = .inr (7, [.ref (G.1 1), .ref (G.1 2), .ref (G.1 33), .ref (G.1 39), .ref (G.1 45), .ref (G.1 48), .ref (G.1 25), .ref (G.1 3), .ref (G.1 51), .ref (G.1 56), .ref (G.1 67), .ref (G.1 4), .int (σ 0 0), .int v, .long (σ 0 2).toInt64, .long (σ 0 3).toInt64]) := rfl
theorem cX_p0_2 (G : GT) (σ : Mem) (v : Int32) : cX G (mU σ 0 2 v) 0 = .inr (7, [.ref (G.1 1), .ref (G.1 2), .ref (G.1 33), .ref (G.1 39), .ref (G.1 45), .ref (G.1 48), .ref (G.1 25), .ref (G.1 3), .ref (G.1 51), .ref (G.1 56), .ref (G.1 67), .ref (G.1 4), .int (σ 0 0), .int (σ 0 1), .long v.toInt64, .long (σ 0 3).toInt64]) := rfl
theorem cX_p0_3 (G : GT) (σ : Mem) (v : Int32) : cX G (mU σ 0 3 v) 0 = .inr (7, [.ref (G.1 1), .ref (G.1 2), .ref (G.1 33), .ref (G.1 39), .ref (G.1 45), .ref (G.1 48), .ref (G.1 25), .ref (G.1 3), .ref (G.1 51), .ref (G.1 56), .ref (G.1 67), .ref (G.1 4), .int (σ 0 0), .int (σ 0 1), .long (σ 0 2).toInt64, .long v.toInt64]) := rfl
theorem cX_p51_0 (G : GT) (σ : Mem) (v : Int32) : cX G (mU σ 51 0 v) 51 = .inr (6, [.ref (G.1 33), .ref (G.1 52), .ref (G.1 53), .ref (G.1 54), .ref (G.1 55), .int v, .int (σ 51 1)]) := rfl
theorem cX_p51_1 (G : GT) (σ : Mem) (v : Int32) : cX G (mU σ 51 1 v) 51 = .inr (6, [.ref (G.1 33), .ref (G.1 52), .ref (G.1 53), .ref (G.1 54), .ref (G.1 55), .int (σ 51 0), .int v]) := rfl
theorem cX_p56_0 (G : GT) (σ : Mem) (v : Int32) : cX G (mU σ 56 0 v) 56 = .inr (1, [.ref (G.1 33), .ref (G.1 57), .ref (G.1 64), .ref (G.1 65), .ref (G.1 66), .int v, .int (σ 56 1), .int (σ 56 2)]) := rfl
theorem cX_p56_1 (G : GT) (σ : Mem) (v : Int32) : cX G (mU σ 56 1 v) 56 = .inr (1, [.ref (G.1 33), .ref (G.1 57), .ref (G.1 64), .ref (G.1 65), .ref (G.1 66), .int (σ 56 0), .int v, .int (σ 56 2)]) := rfl
theorem cX_p56_2 (G : GT) (σ : Mem) (v : Int32) : cX G (mU σ 56 2 v) 56 = .inr (1, [.ref (G.1 33), .ref (G.1 57), .ref (G.1 64), .ref (G.1 65), .ref (G.1 66), .int (σ 56 0), .int (σ 56 1), .int v]) := rfl
theorem cX_p67_0 (G : GT) (σ : Mem) (v : Int32) : cX G (mU σ 67 0 v) 67 = .inr (5, [.ref (G.1 33), .ref (G.1 68), .ref (G.1 69), .ref (G.1 70), .ref (G.1 71), .int v]) := rfl
theorem down_i {n j : Nat} (hn : n < 2 ^ 30) (hj : j ≤ n) : (nI (n - j) - 1).toInt = (n : Int) - (j : Int) - 1 := by
  rcases Nat.lt_or_ge j n with h | h
  · rw [show n - j = (n - j - 1) + 1 by omega, nI_pred, nI_toInt (by omega)]; omega
  · rw [show n - j = 0 by omega]; show (-1 : Int) = _; omega
section XJ
variable {p : Program} {l : Launch} {e : Env} {R : Room} {s : State} {m : MethodId} {args : Array Value} {below : List Frame} {meth : Method} {c : Code} {H : Heap} {locs : List Loc} {cells slots : Nat} {Q : State → Prop}
variable {cc : ByteArray} {pc nL : Nat} {ls : Array Slot} {rest : List Value} {G : GT} {N : Nat} {own : String} {ret : Option FieldType} {cw : Nat → va_E} {cs : Mem → Nat → va_E} {σ : Mem}
set_option maxHeartbeats 1000000 in
theorem xJi (ha : Amb p c cc nL s args own m meth ret G N) (hP : va_P G.2.1 vwCl (wl G N (cs σ)) H) (hS : va_S (xA G N s.heap.size) s.heap H locs) {y : MethodName} {bytes : ByteArray} {maxL index : Nat} {rty : Option FieldType} {rm : Room} {As : List Value} {post : Int32 → Mem → Prop} {n : Nat} (hM : CI G N cs l y rm bytes maxL rty As σ post) (hw : ∀ w ∈ k5S own index y bytes maxL rty, w ∈ TB) (hd : kHd y n) (hn : As.length = n) (hz : rm.cells = 0 ∧ rm.slots = 0) (hR : rm.frames + 1 ≤ R.frames ∧ 8 + (maxL + 11) + rm.locals ≤ R.locals) (hf : cells ≤ R.cells ∧ slots ≤ R.slots) (hls : ls.size = nL) (hst : (rest.map fun v => v.category).sum ≤ 8) {st0 : List Value} (hs0 : st0 = As.reverse ++ rest) (hdg : decode cc pc = .ok (.invokestatic index, 3))
    (kk : ∀ (r : Int32) (u : Mem) (H : Heap) (locs : List Loc), post r u → va_P G.2.1 vwCl (wl G N (cs u)) H → va_S (xA G N s.heap.size) s.heap H locs → W p l e R s m args below meth c H locs cells slots Q (F0 m (pc + 3) ls (.int r :: rest))) : W p l e R s m args below meth c H locs cells slots Q (F0 m pc ls st0) := by
  subst hs0
  have ha0 := ha
  obtain ⟨hx, hb, hml, hown, hts, -, -, hK, hD, hN, hL⟩ := ha
  have h9 : CallB R s args own index y bytes maxL rty (.code y bytes maxL rty :: TB) rm rm.cells rm.slots n ∧ (Cond.static y).before args s = true := ⟨k_cwB n hts (hw _ (by simp [k5S])) (hw _ (by simp [k5S])) (hw _ (by simp [k5S])) hd hR, hts _ (hw _ (by simp [k5S]))⟩
  rw [hz.1, hz.2] at h9
  refine va_calli (va_runS (As := As) (rest := rest) ⟨hx, hb, hml, hown, hts⟩ (hM H.size) h9 ⟨xblind, xpre_of ha0 hP hS rfl⟩ rfl hn hls rfl (lv_room hst) hdg ⟨hf.1, hf.2⟩) hS (fun q _ h => xA_in hS q h) (fun q h => xA_in hS q h) (fun r u t H1 locs1 ht hvm hp hB hz1 hk1 hS1 => ?_)
  have hP1 : va_P G.2.1 vwCl (wl G N (cs u)) t.heap := hB
  rw [ht] at hP1
  exact kk r u H1 locs1 hp hP1 hS1

end XJ
