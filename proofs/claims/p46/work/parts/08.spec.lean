/-! what the small methods answer: a plan P (0: poles, people; 1 kinds, 2 talls, 3 strongs, 4 weights, 5 devouts), a scaffold S (0: fallen, years, stones; 1 wear, 2 seats) -/
abbrev PT : Type := Nat → Nat → Int32
def vP (σ : Mem) (p : Nat) : PT := fun a => if a < 6 then σ (p + a) else fun _ => 0
def vS (σ : Mem) (p : Nat) : PT := fun a => if a < 3 then σ (p + a) else fun _ => 0
def a_isPole (P : PT) (k : Int32) : Bool := decide (0 ≤ k) && (decide (k < P 0 0) && decide (k < 4))
def a_isOne (P : PT) (i : Int32) : Bool := decide (0 ≤ i) && (decide (i < P 0 1) && decide (i < 5))
theorem isPole_t {P : PT} {k : Int32} (h : a_isPole P k = true) : 0 ≤ k.toInt ∧ k.toInt < (P 0 0).toInt ∧ k.toInt < 4 := by
  simp only [a_isPole, Bool.and_eq_true, decide_eq_true_eq] at h
  exact ⟨i_le h.1, i_lt h.2.1, i_lt h.2.2⟩
theorem isOne_t {P : PT} {k : Int32} (h : a_isOne P k = true) : 0 ≤ k.toInt ∧ k.toInt < (P 0 1).toInt ∧ k.toInt < 5 := by
  simp only [a_isOne, Bool.and_eq_true, decide_eq_true_eq] at h
  exact ⟨i_le h.1, i_lt h.2.1, i_lt h.2.2⟩
def a_high (P : PT) (i k : Int32) : Int32 := if i < 0 ∨ P 0 1 ≤ i ∨ k < 0 ∨ P 0 0 ≤ k then 0 else if P 5 (ix i) < P 2 (ix k) then P 5 (ix i) else P 2 (ix k)
def a_loadBy (P : PT) (i k : Int32) : Int32 := if a_isOne P i = true then P 4 (ix i) + a_high P i k / 2 else 0
def a_bearing (kind tall strong wear : Int32) : Int32 :=
  if kind = 1 then (if wear < 3 then imax 0 (strong - 2 * wear) else imax 0 (strong - 2 * wear) - imax 0 (strong - 2 * wear) / 3)
  else if kind = 2 then imax 0 (strong - wear)
  else if kind = 3 then imax 0 (imax 0 (strong - wear) - 5)
  else if kind = 4 then imax 0 (strong - wear) + 2 * tall
  else if kind = 5 then (if 5 < tall then (if wear < 3 then imax 0 (strong - 2 * wear) else imax 0 (strong - 2 * wear) - imax 0 (strong - 2 * wear) / 3) else imax 0 (strong - 2 * wear))
  else imax 0 (strong - 2 * wear)
def a_bears (P : PT) (k wear : Int32) : Int32 := if a_isPole P k = true then a_bearing (P 1 (ix k)) (P 2 (ix k)) (P 3 (ix k)) wear else 0
def a_isOf (kind wanted : Int32) : Bool := decide (kind = wanted) || ((decide (wanted = 1) && decide (kind = 5)) || (decide (wanted = 2) && (decide (kind = 3) || decide (kind = 4))))
def a_worn (wear laden : Int32) : Int32 := imin 20 (wear + (if laden = 0 then 1 else 2))
/-- sums, bits over the first n -/
def a_sum (f : Nat → Int32) : Nat → Int32
  | 0 => 0
  | n + 1 => a_sum f n + f n
def a_bits (f : Nat → Bool) : Nat → Int32
  | 0 => 0
  | n + 1 => if f n = true then a_bits f n ||| (1 <<< (nI n &&& 31)) else a_bits f n
def nPl (P : PT) : Nat := ix (P 0 0)
def nPe (P : PT) : Nat := ix (P 0 1)
def a_load (P S : PT) (k : Int32) : Int32 := a_sum (fun i => if S 2 i = k then a_loadBy P (nI i) k else 0) (nPe P)
def a_sitters (P S : PT) (k : Int32) : Int32 := a_bits (fun i => decide (S 2 i = k)) (nPe P)
def a_bearsAs (P S : PT) (k kind : Int32) : Int32 := if a_isPole P k = true then a_bearing kind (P 2 (ix k)) (P 3 (ix k)) (S 1 (ix k)) else 0
def a_bearsNow (P S : PT) (k : Int32) : Int32 := if a_isPole P k = true then a_bearing (P 1 (ix k)) (P 2 (ix k)) (P 3 (ix k)) (S 1 (ix k)) else 0
def a_isUp (P S : PT) (k : Int32) : Bool := a_isPole P k && decide ((S 0 0 >>> (k &&& 31)) &&& 1 = 0)
def a_isSeated (P S : PT) (i : Int32) : Bool := a_isOne P i && !decide (S 2 (ix i) = -9)
def a_stands (P S : PT) (k : Int32) : Bool := a_isUp P S k && decide (a_load P S k ≤ a_bearsNow P S k)
def a_up (P S : PT) : Int32 := ((1 <<< (P 0 0 &&& 31)) - 1) &&& (S 0 0 ^^^ -1)
def a_standing (P S : PT) : Int32 := a_bits (fun k => a_stands P S (nI k)) (nPl P)
def a_seatedPeople (P S : PT) : Int32 := a_bits (fun i => a_isSeated P S (nI i)) (nPe P)
def a_highAll (P S : PT) : Int32 := a_sum (fun i => a_high P (nI i) (S 2 i)) (nPe P)
def a_highStanding (P S : PT) : Int32 := a_sum (fun i => if a_stands P S (S 2 i) = true then a_high P (nI i) (S 2 i) else 0) (nPe P)
def a_manyHold (P S : PT) (k kinds load : Int32) : Int32 := a_sum (fun d => if (kinds >>> (nI d &&& 31)) &&& 1 = 1 ∧ load ≤ a_bearsAs P S k (nI d) then 1 else 0) 6
def a_manyLaced (P : PT) : Int32 := a_sum (fun k => b2i (a_isOf (P 1 k) 2)) (nPl P)
theorem PO_pl {σ : Mem} {p : Nat} (h : PO p σ) : σ p 0 = nI (ix (σ p 0)) ∧ ix (σ p 0) ≤ 4 ∧ (σ p 0).toInt = (ix (σ p 0) : Int) := by
  have h0 := h.1
  have h1 := ix_toInt h0
  exact ⟨ix_nI h0, by have := h.2.1; omega, h1.symm⟩
theorem PO_pe {σ : Mem} {p : Nat} (h : PO p σ) : σ p 1 = nI (ix (σ p 1)) ∧ ix (σ p 1) ≤ 5 ∧ (σ p 1).toInt = (ix (σ p 1) : Int) := by
  have h0 := h.2.2.1
  have h1 := ix_toInt h0
  exact ⟨ix_nI h0, by have := h.2.2.2; omega, h1.symm⟩

-- memories of which an array's first places are told
theorem mA_e (σ : Mem) (o : Nat) (f : Nat → Int32) (q k : Nat) : mA σ o f q k = if q = o then f k else σ q k := by
  unfold mA; split <;> rfl
def mF (σ : Mem) (a n : Nat) (g : Nat → Int32) : Mem := mA σ a (fun q => if q < n then g q else σ a q)
theorem mF_e (σ : Mem) (a n : Nat) (g : Nat → Int32) (q k : Nat) : mF σ a n g q k = if q = a then (if k < n then g k else σ a k) else σ q k := mA_e _ _ _ _ _
theorem mF_n (σ : Mem) {a q : Nat} (n : Nat) (g : Nat → Int32) (h : q ≠ a) : mF σ a n g q = σ q := mA_n _ _ h
theorem mem_ext {σ τ : Mem} (h : ∀ q k, σ q k = τ q k) : σ = τ := funext fun q => funext fun k => h q k
theorem mF_0 (σ : Mem) (a : Nat) (g : Nat → Int32) : σ = mF σ a 0 g := mem_ext fun q k => by
  rw [mF_e]; by_cases h : q = a <;> simp [h]
theorem mF_s (σ : Mem) (a j : Nat) (g : Nat → Int32) {v : Int32} (hv : v = g j) : mU (mF σ a j g) a j v = mF σ a (j + 1) g := mem_ext fun q k => by
  rw [mU_e, mF_e, mF_e, hv]
  by_cases h : q = a
  · by_cases hk : k = j
    · simp [h, hk]
    · by_cases h1 : k < j
      · simp [h, hk, h1, Nat.lt_succ_of_lt h1]
      · simp [h, hk, h1, show ¬ k < j + 1 by omega]
  · simp [h]
theorem mF_k (σ : Mem) (a j : Nat) (g : Nat → Int32) (hv : σ a j = g j) : mF σ a j g = mF σ a (j + 1) g := mem_ext fun q k => by
  rw [mF_e, mF_e]
  by_cases h : q = a
  · by_cases hk : k = j
    · simp [h, hk, hv]
    · by_cases h1 : k < j
      · simp [h, h1, Nat.lt_succ_of_lt h1]
      · simp [h, h1, show ¬ k < j + 1 by omega]
  · simp [h]
theorem mF_at (σ : Mem) (a j : Nat) (g : Nat → Int32) : mF σ a j g a j = σ a j := by rw [mF_e]; simp
theorem vP_mA (σ : Mem) {p a : Nat} (f : Nat → Int32) (h : a < p ∨ p + 6 ≤ a) : vP (mA σ a f) p = vP σ p := by
  funext q; unfold vP; by_cases hq : q < 6
  · simp only [hq, if_true]; exact mA_n _ _ (by omega)
  · simp [hq]
theorem vP_mU (σ : Mem) {p a : Nat} (j : Nat) (v : Int32) (h : a < p ∨ p + 6 ≤ a) : vP (mU σ a j v) p = vP σ p := vP_mA _ _ h
theorem vP_mF (σ : Mem) {p a : Nat} (n : Nat) (g : Nat → Int32) (h : a < p ∨ p + 6 ≤ a) : vP (mF σ a n g) p = vP σ p := vP_mA _ _ h
theorem PO_mF {p : Nat} {σ : Mem} {o n : Nat} {f : Nat → Int32} (h : PO p σ) (n' : p ≠ o) : PO p (mF σ o n f) := PO_mA h n'
theorem a_load_c {P S S' : PT} {k : Int32} (h : ∀ i, S 2 i = S' 2 i) : a_load P S k = a_load P S' k := by unfold a_load; simp only [h]
theorem a_bearsNow_c {P S S' : PT} {k : Int32} (h : S 1 (ix k) = S' 1 (ix k)) : a_bearsNow P S k = a_bearsNow P S' k := by unfold a_bearsNow; rw [h]
theorem a_isUp_c {P S S' : PT} {k : Int32} (h : S 0 0 = S' 0 0) : a_isUp P S k = a_isUp P S' k := by unfold a_isUp; rw [h]
theorem ix_cases (k : Int32) : (0 ≤ k.toInt ∧ ((ix k : Nat) : Int) = k.toInt) ∨ (k.toInt < 0 ∧ ix k = 0) := by
  by_cases h : 0 ≤ k.toInt
  · exact Or.inl ⟨h, ix_toInt h⟩
  · refine Or.inr ⟨by omega, ?_⟩
    unfold ix Int32.toNatClampNeg; omega
theorem imin_i (a b : Int32) : (imin a b).toInt = if b.toInt < a.toInt then b.toInt else a.toInt := by
  unfold imin; simp only [Int32.lt_iff_toInt_lt]; split <;> rfl
theorem imax_i (a b : Int32) : (imax a b).toInt = if a.toInt < b.toInt then b.toInt else a.toInt := by
  unfold imax; simp only [Int32.lt_iff_toInt_lt]; split <;> rfl
-- rows, deeds
def oFr (o : Nat) : Prop := o = 55 ∨ o = 66
theorem sFr {G : GT} {σ : Mem} {o : Nat} (h : oFr o) : cX G σ o = .inl (G.2.2 0, 5, .inl (σ o)) := by rcases h with rfl | rfl <;> rfl
theorem oFr_lt0 {o : Nat} (h : oFr o) : o < 74 := by unfold oFr at h; omega
def a_has (σ : Mem) (o : Nat) (i : Int32) : Bool := !decide (i < 0) && (decide (i < σ o 0) && decide (i < 60))
theorem has_t {σ : Mem} {o : Nat} {i : Int32} (h : a_has σ o i = true) : 0 ≤ i.toInt ∧ i.toInt < (σ o 0).toInt ∧ i.toInt < 60 := by
  simp only [a_has, Bool.and_eq_true, decide_eq_true_eq, Bool.not_eq_true', decide_eq_false_iff_not] at h
  exact ⟨i_nlt h.1, i_lt h.2.1, i_lt h.2.2⟩
def a_get (σ : Mem) (o : Nat) (i : Int32) : Int32 := if a_has σ o i = true then σ (o + 1) (ix i) else 0
def m_set (σ : Mem) (o : Nat) (i v : Int32) : Mem := if a_has σ o i = true then mU σ (o + 1) (ix i) v else σ
def m_fill (σ : Mem) (o : Nat) (n v : Int32) : Mem := mF (mU σ o 0 (imin n 60)) (o + 1) (ix (imin n 60)) (fun _ => v)
def m_takeR (σ : Mem) (o q : Nat) (n : Int32) : Mem := mF (m_fill σ o (imin n 5) 0) (o + 1) (ix (imin (imin n 5) 60)) (σ q)
def a_findAt (σ : Mem) (o : Nat) (i : Int32) : Int32 := if σ o 0 < 0 then 1 else if a_has σ o i = true then 0 else 2
def m_add (σ : Mem) (o : Nat) (d : Int32) : Mem := if σ o 0 < 0 then σ else if σ o 0 < 40 then mU (mU σ (o + 1) (ix (σ o 0)) d) o 0 (σ o 0 + 1) else σ
def m_takeD (σ : Mem) (o q : Nat) : Mem := mF (mU σ o 0 (σ q 0)) (o + 1) (min (ix (σ q 0)) 40) (σ (q + 1))
-- scaffolds
def a_ofPole (P S : PT) (k what : Int32) : Int32 := if a_isPole P k = true then (if what = 0 then P 1 (ix k) else if what = 1 then P 2 (ix k) else if what = 2 then P 3 (ix k) else if what = 3 then S 1 (ix k) else if what = 4 then a_bearsNow P S k else if what = 5 then a_load P S k else if what = 6 then a_sitters P S k else (S 0 0 >>> (k &&& 31)) &&& 1) else 0
def a_ofOne (P S : PT) (i what : Int32) : Int32 := if a_isOne P i = true then (if what = 0 then P 4 (ix i) else if what = 1 then P 5 (ix i) else if what = 2 then S 2 (ix i) else a_high P i (S 2 (ix i))) else 0
def m_begin (σ : Mem) (o : Nat) : Mem := mU (mU (mU (mF (mF σ (o + 1) 4 (fun _ => 0)) (o + 2) 5 (fun _ => -9)) o 0 0) o 1 0) o 2 0
def m_takeS (σ : Mem) : Mem := mU (mU (mU (mF (mF σ 49 4 (σ 46)) 50 5 (σ 47)) 48 0 (σ 45 0)) 48 1 (σ 45 1)) 48 2 (σ 45 2)
def m_goUp (σ : Mem) (o : Nat) (i k : Int32) : Mem := if a_isOne (vP σ 33) i = true then mU σ (o + 2) (ix i) k else σ
def m_down (σ : Mem) (o : Nat) (i : Int32) : Mem := if a_isOne (vP σ 33) i = true then mU σ (o + 2) (ix i) (-9) else σ
def a_down (P S : PT) (i : Int32) : Int32 := if a_isOne P i = true then a_high P i (S 2 (ix i)) else 0
def m_renew (σ : Mem) (o : Nat) (k : Int32) : Mem := if a_isPole (vP σ 33) k = true then mU σ (o + 1) (ix k) 0 else σ
def a_renew (P S : PT) (k : Int32) : Int32 := if a_isPole P k = true then S 1 (ix k) else 0
def y_gives (P S : PT) (k : Nat) : Bool := a_isUp P S (nI k) && decide (a_bearsNow P S (nI k) < a_load P S (nI k))
def y_gave (P S : PT) : Int32 := a_bits (y_gives P S) (nPl P)
def y_wear (P S : PT) (k : Nat) : Int32 := if a_isUp P S (nI k) = true then (if a_bearsNow P S (nI k) < a_load P S (nI k) then S 1 k else a_worn (S 1 k) (if 0 < a_load P S (nI k) then 1 else 0)) else S 1 k
def y_seat (P S : PT) (g : Int32) (i : Nat) : Int32 := if a_isSeated P S (nI i) = true then (if (g >>> (S 2 i &&& 31)) &&& 1 = 1 then -9 else S 2 i) else S 2 i
def m_year (σ : Mem) (o : Nat) : Mem :=
  mU (mU (mF (mF σ (o + 1) (nPl (vP σ 33)) (y_wear (vP σ 33) (vS σ o))) (o + 2) (nPe (vP σ 33)) (y_seat (vP σ 33) (vS σ o) (y_gave (vP σ 33) (vS σ o)))) o 0 (σ o 0 ||| y_gave (vP σ 33) (vS σ o))) o 1 (σ o 1 + 1)
def dI (d : Int32) : Int32 := d / 10 - d / 10 / 10 * 10
def dK (d : Int32) : Int32 := d - d / 10 * 10
def m_apply (σ : Mem) (o : Nat) (d : Int32) : Mem := if d / 100 = 0 then m_goUp σ o (dI d) (dK d) else if d / 100 = 1 then m_down σ o (dI d) else if d / 100 = 2 then m_renew σ o (dK d) else if d / 100 = 3 then mU σ o 2 (σ o 2 + 1) else m_year σ o
def a_apply (σ : Mem) (o : Nat) (d : Int32) : Int32 := if d / 100 = 0 then a_load (vP (m_goUp σ o (dI d) (dK d)) 33) (vS (m_goUp σ o (dI d) (dK d)) o) (dK d) else if d / 100 = 1 then a_down (vP σ 33) (vS σ o) (dI d) else if d / 100 = 2 then a_renew (vP σ 33) (vS σ o) (dK d) else if d / 100 = 3 then σ o 2 + 1 else y_gave (vP σ 33) (vS σ o)
def m_replayN (σ : Mem) : Nat → Mem
  | 0 => m_begin σ 45
  | j + 1 => m_apply (m_replayN σ j) 45 (σ 26 j)
def m_replay (σ : Mem) : Mem := m_replayN σ (min (ix (σ 25 0)) 40)
