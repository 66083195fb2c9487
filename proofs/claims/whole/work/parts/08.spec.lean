/-! what the small methods answer: a plan P (0: poles, people; 1 kinds, 2 talls, 3 strongs, 4 weights, 5 devouts), a scaffold S (0: fallen, years, stones; 1 wear, 2 seats) -/
abbrev PT : Type := Nat → Nat → Int32
def vP (σ : Mem) (p : Nat) : PT := fun a => σ (p + a)
def a_isPole (P : PT) (k : Int32) : Bool := decide (0 ≤ k) && (decide (k < P 0 0) && decide (k < 4))
def a_isOne (P : PT) (i : Int32) : Bool := decide (0 ≤ i) && (decide (i < P 0 1) && decide (i < 5))
theorem isPole_t {P : PT} {k : Int32} (h : a_isPole P k = true) : 0 ≤ k.toInt ∧ k.toInt < (P 0 0).toInt ∧ k.toInt < 4 := by
  simp only [a_isPole, Bool.and_eq_true, decide_eq_true_eq] at h
  exact ⟨i_le h.1, i_lt h.2.1, i_lt h.2.2⟩
theorem isOne_t {P : PT} {k : Int32} (h : a_isOne P k = true) : 0 ≤ k.toInt ∧ k.toInt < (P 0 1).toInt ∧ k.toInt < 5 := by
  simp only [a_isOne, Bool.and_eq_true, decide_eq_true_eq] at h
  exact ⟨i_le h.1, i_lt h.2.1, i_lt h.2.2⟩
def a_high (P : PT) (i k : Int32) : Int32 := if i < 0 ∨ P 0 1 ≤ i ∨ k < 0 ∨ P 0 0 ≤ k then 0 else if P 5 (ix i) < P 2 (ix k) then P 5 (ix i) else P 2 (ix k)
def a_loadBy (P : PT) (i k : Int32) : Int32 := if a_isOne P i = true then P 4 (ix i) + a_high P i k / 2 else 0
def a_bearing (kind tall strong wear : Int32) : Int32 :=
  if kind = 1 then (if wear < 3 then imax 0 (strong - 2 * wear) else imax 0 (strong - 2 * wear) - imax 0 (strong - 2 * wear) / 3)
  else if kind = 2 then imax 0 (strong - wear)
  else if kind = 3 then imax 0 (imax 0 (strong - wear) - 5)
  else if kind = 4 then imax 0 (strong - wear) + 2 * tall
  else if kind = 5 then (if 5 < tall then (if wear < 3 then imax 0 (strong - 2 * wear) else imax 0 (strong - 2 * wear) - imax 0 (strong - 2 * wear) / 3) else imax 0 (strong - 2 * wear))
  else imax 0 (strong - 2 * wear)
def a_bears (P : PT) (k wear : Int32) : Int32 := if a_isPole P k = true then a_bearing (P 1 (ix k)) (P 2 (ix k)) (P 3 (ix k)) wear else 0
def a_isOf (kind wanted : Int32) : Bool := decide (kind = wanted) || ((decide (wanted = 1) && decide (kind = 5)) || (decide (wanted = 2) && (decide (kind = 3) || decide (kind = 4))))
def a_worn (wear laden : Int32) : Int32 := imin 20 (wear + (if laden = 0 then 1 else 2))
/-- sums, bits over the first n -/
def a_sum (f : Nat → Int32) : Nat → Int32
  | 0 => 0
  | n + 1 => a_sum f n + f n
def a_bits (f : Nat → Bool) : Nat → Int32
  | 0 => 0
  | n + 1 => if f n = true then a_bits f n ||| (1 <<< (nI n &&& 31)) else a_bits f n
def nPl (P : PT) : Nat := ix (P 0 0)
def nPe (P : PT) : Nat := ix (P 0 1)
def a_load (P S : PT) (k : Int32) : Int32 := a_sum (fun i => if S 2 i = k then a_loadBy P (nI i) k else 0) (nPe P)
def a_sitters (P S : PT) (k : Int32) : Int32 := a_bits (fun i => decide (S 2 i = k)) (nPe P)
def a_bearsAs (P S : PT) (k kind : Int32) : Int32 := if a_isPole P k = true then a_bearing kind (P 2 (ix k)) (P 3 (ix k)) (S 1 (ix k)) else 0
def a_bearsNow (P S : PT) (k : Int32) : Int32 := if a_isPole P k = true then a_bearing (P 1 (ix k)) (P 2 (ix k)) (P 3 (ix k)) (S 1 (ix k)) else 0
def a_isUp (P S : PT) (k : Int32) : Bool := a_isPole P k && decide ((S 0 0 >>> (k &&& 31)) &&& 1 = 0)
def a_isSeated (P S : PT) (i : Int32) : Bool := a_isOne P i && !decide (S 2 (ix i) = -9)
def a_stands (P S : PT) (k : Int32) : Bool := a_isUp P S k && decide (a_load P S k ≤ a_bearsNow P S k)
def a_up (P S : PT) : Int32 := ((1 <<< (P 0 0 &&& 31)) - 1) &&& (S 0 0 ^^^ -1)
def a_standing (P S : PT) : Int32 := a_bits (fun k => a_stands P S (nI k)) (nPl P)
def a_seatedPeople (P S : PT) : Int32 := a_bits (fun i => a_isSeated P S (nI i)) (nPe P)
def a_highAll (P S : PT) : Int32 := a_sum (fun i => a_high P (nI i) (S 2 i)) (nPe P)
def a_highStanding (P S : PT) : Int32 := a_sum (fun i => if a_stands P S (S 2 i) = true then a_high P (nI i) (S 2 i) else 0) (nPe P)
def a_manyHold (P S : PT) (k kinds load : Int32) : Int32 := a_sum (fun d => if (kinds >>> (nI d &&& 31)) &&& 1 = 1 ∧ load ≤ a_bearsAs P S k (nI d) then 1 else 0) 6
def a_manyLaced (P : PT) : Int32 := a_sum (fun k => b2i (a_isOf (P 1 k) 2)) (nPl P)
theorem PO_pl {σ : Mem} {p : Nat} (h : PO p σ) : σ p 0 = nI (ix (σ p 0)) ∧ ix (σ p 0) ≤ 4 ∧ (σ p 0).toInt = (ix (σ p 0) : Int) := by
  have h0 := h.1
  have h1 := ix_toInt h0
  exact ⟨ix_nI h0, by have := h.2.1; omega, h1.symm⟩
theorem PO_pe {σ : Mem} {p : Nat} (h : PO p σ) : σ p 1 = nI (ix (σ p 1)) ∧ ix (σ p 1) ≤ 5 ∧ (σ p 1).toInt = (ix (σ p 1) : Int) := by
  have h0 := h.2.2.1
  have h1 := ix_toInt h0
  exact ⟨ix_nI h0, by have := h.2.2.2; omega, h1.symm⟩
