/-! level 2: sets as numbers, small sums -/
def nb (f : Nat → Bool) : Nat → Nat
  | 0 => 0
  | n + 1 => if f n = true then nb f n + 2 ^ n else nb f n
theorem nb_lt (f : Nat → Bool) : ∀ n, nb f n < 2 ^ n
  | 0 => Nat.one_pos
  | n + 1 => by
    have h := nb_lt f n
    have hp : 2 ^ (n + 1) = 2 ^ n + 2 ^ n := by rw [Nat.pow_succ]; omega
    rw [nb]; split <;> omega
theorem or_fin {s n : Nat} (hn : n < 6) (hs : s < 2 ^ n) : s ||| 2 ^ n = s + 2 ^ n := by
  have h5 : 2 ^ n ≤ 2 ^ 5 := Nat.pow_le_pow_right (by decide) (by omega)
  have k : ∀ a : Fin 6, ∀ b : Fin 32, b.1 < 2 ^ a.1 → b.1 ||| 2 ^ a.1 = b.1 + 2 ^ a.1 := by decide +kernel
  exact k ⟨n, hn⟩ ⟨s, by omega⟩ hs
theorem bits_nb (f : Nat → Bool) : ∀ n, n ≤ 6 → a_bits f n = nI (nb f n)
  | 0, _ => rfl
  | n + 1, hn => by
    have ih := bits_nb f n (by omega)
    have hs := nb_lt f n
    have h5 : 2 ^ n ≤ 2 ^ 5 := Nat.pow_le_pow_right (by decide) (by omega)
    rw [a_bits, nb]
    split
    · rw [ih, shl_n (by omega), nI_or _ _ (by omega) (by omega), or_fin (by omega) hs]
    · exact ih
theorem has_fin {v k : Nat} (hv : v < 64) (hk : k < 6) : b_has (nI v) (nI k) = v.testBit k := by
  have q : ∀ a : Fin 64, ∀ b : Fin 6, b_has (nI a.1) (nI b.1) = a.1.testBit b.1 := by decide +kernel
  exact q ⟨v, hv⟩ ⟨k, hk⟩
theorem tb_fin {s n k : Nat} (hn : n < 6) (hs : s < 2 ^ n) (hk : k < 6) : (s + 2 ^ n).testBit k = if k = n then true else s.testBit k := by
  have h5 : 2 ^ n ≤ 2 ^ 5 := Nat.pow_le_pow_right (by decide) (by omega)
  have q : ∀ a : Fin 6, ∀ b : Fin 32, ∀ c : Fin 6, b.1 < 2 ^ a.1 → (b.1 + 2 ^ a.1).testBit c.1 = if c.1 = a.1 then true else b.1.testBit c.1 := by decide +kernel
  exact q ⟨n, hn⟩ ⟨s, by omega⟩ ⟨k, hk⟩ hs
theorem tb_hi {s n : Nat} (hn : n < 6) (hs : s < 2 ^ n) : s.testBit n = false := by
  have h5 : 2 ^ n ≤ 2 ^ 5 := Nat.pow_le_pow_right (by decide) (by omega)
  have q : ∀ a : Fin 6, ∀ b : Fin 32, b.1 < 2 ^ a.1 → b.1.testBit a.1 = false := by decide +kernel
  exact q ⟨n, hn⟩ ⟨s, by omega⟩ hs
theorem nb_tb (f : Nat → Bool) : ∀ n, n ≤ 6 → ∀ k, k < n → (nb f n).testBit k = f k
  | 0, _, k, hk => absurd hk (Nat.not_lt_zero _)
  | n + 1, hn, k, hk => by
    have hs := nb_lt f n
    rw [nb]
    by_cases c : f n = true
    · rw [if_pos c, tb_fin (by omega) hs (by omega)]
      by_cases e : k = n
      · rw [if_pos e, e, c]
      · rw [if_neg e]; exact nb_tb f n (by omega) k (by omega)
    · rw [if_neg c]
      by_cases e : k = n
      · rw [e, tb_hi (by omega) hs]; exact (Bool.eq_false_iff.mpr c).symm
      · exact nb_tb f n (by omega) k (by omega)
theorem bits_has (f : Nat → Bool) {n k : Nat} (hn : n ≤ 6) (hk : k < n) : b_has (a_bits f n) (nI k) = f k := by
  have hs := nb_lt f n
  have h6 : 2 ^ n ≤ 2 ^ 6 := Nat.pow_le_pow_right (by decide) hn
  rw [bits_nb f n hn, has_fin (by omega) (by omega), nb_tb f n hn k hk]
theorem nb_0 (f : Nat → Bool) : ∀ n, nb f n = 0 → ∀ k, k < n → f k = false
  | 0, _, k, hk => absurd hk (Nat.not_lt_zero _)
  | n + 1, h, k, hk => by
    have hp : 0 < 2 ^ n := Nat.pow_pos (by decide)
    rw [nb] at h
    by_cases c : f n = true
    · rw [if_pos c] at h; omega
    · rw [if_neg c] at h
      by_cases e : k = n
      · rw [e]; exact Bool.eq_false_iff.mpr c
      · exact nb_0 f n h k (by omega)
theorem nb_z (f : Nat → Bool) : ∀ n, (∀ k, k < n → f k = false) → nb f n = 0
  | 0, _ => rfl
  | n + 1, h => by rw [nb, h n (by omega), nb_z f n (fun k hk => h k (by omega))]; rfl
theorem bits_0 (f : Nat → Bool) {n : Nat} (hn : n ≤ 6) : a_bits f n = 0 ↔ ∀ k, k < n → f k = false := by
  have hs := nb_lt f n
  have h6 : 2 ^ n ≤ 2 ^ 6 := Nat.pow_le_pow_right (by decide) hn
  rw [bits_nb f n hn]
  constructor
  · intro e
    apply nb_0 f n
    have h1 := i_eq e
    rw [nI_toInt (by omega), show (0 : Int32).toInt = 0 by decide] at h1
    omega
  · intro h; rw [nb_z f n h]; rfl
/-- sums of small numbers -/
theorem add_i {a b : Int32} (ha : -100000 ≤ a.toInt ∧ a.toInt ≤ 100000) (hb : -100000 ≤ b.toInt ∧ b.toInt ≤ 100000) : (a + b).toInt = a.toInt + b.toInt := by
  rw [Int32.toInt_add]; exact Int.bmod_eq_of_le (by omega) (by omega)
theorem sum_i (f : Nat → Int32) (B : Nat) (hB : B ≤ 100) : ∀ n, n ≤ 100 → (∀ i, i < n → 0 ≤ (f i).toInt ∧ (f i).toInt ≤ (B : Int)) → 0 ≤ (a_sum f n).toInt ∧ (a_sum f n).toInt ≤ 100 * (n : Int)
  | 0, _, _ => by rw [a_sum, show (0 : Int32).toInt = 0 by decide]; omega
  | n + 1, hn, h => by
    have ih := sum_i f B hB n (by omega) (fun i hi => h i (by omega))
    have hq := h n (by omega)
    rw [a_sum, add_i (by omega) (by omega)]
    omega
theorem sum_le (f : Nat → Int32) (B : Nat) (hB : B ≤ 100) : ∀ n, n ≤ 100 → (∀ i, i < n → 0 ≤ (f i).toInt ∧ (f i).toInt ≤ (B : Int)) → ∀ i, i < n → (f i).toInt ≤ (a_sum f n).toInt
  | 0, _, _, i, hi => absurd hi (Nat.not_lt_zero _)
  | n + 1, hn, h, i, hi => by
    have ih := sum_i f B hB n (by omega) (fun i hi => h i (by omega))
    have hq := h n (by omega)
    rw [a_sum, add_i (by omega) (by omega)]
    by_cases e : i = n
    · rw [e]; omega
    · have := sum_le f B hB n (by omega) (fun i hi => h i (by omega)) i (by omega)
      omega
theorem sum_z (f : Nat → Int32) : ∀ n, (∀ i, i < n → f i = 0) → a_sum f n = 0
  | 0, _ => rfl
  | n + 1, h => by rw [a_sum, sum_z f n (fun i hi => h i (by omega)), h n (by omega)]; rfl
/-- what a plan's numbers may be -/
def PR (P : PT) : Prop := (∀ k, k < nPl P → 0 ≤ (P 1 k).toInt ∧ (P 1 k).toInt ≤ 5 ∧ 1 ≤ (P 2 k).toInt ∧ (P 2 k).toInt ≤ 9 ∧ 0 ≤ (P 3 k).toInt ∧ (P 3 k).toInt ≤ 60) ∧ (∀ i, i < nPe P → 1 ≤ (P 4 i).toInt ∧ (P 4 i).toInt ≤ 9 ∧ 0 ≤ (P 5 i).toInt ∧ (P 5 i).toInt ≤ 9)
theorem high_i {P : PT} (hr : PR P) {i k : Int32} (hi : a_isOne P i = true) (hk : k = -9 ∨ a_isPole P k = true) : 0 ≤ (a_high P i k).toInt ∧ (a_high P i k).toInt ≤ 9 := by
  rcases hk with rfl | hk
  · rw [high_9, show (0 : Int32).toInt = 0 by decide]; omega
  · have q := hr.2 _ (isOne_ix hi)
    have w := hr.1 _ (isPole_ix hk)
    rw [high_t hi hk]
    split <;> omega
theorem loadBy_i {P : PT} (hr : PR P) {i k : Int32} (hi : a_isOne P i = true) (hk : k = -9 ∨ a_isPole P k = true) : 1 ≤ (a_loadBy P i k).toInt ∧ (a_loadBy P i k).toInt ≤ 13 := by
  have q := hr.2 _ (isOne_ix hi)
  have h := high_i hr hi hk
  have d := (rem_i (a := a_high P i k) (b := 2) h.1 (by decide)).1
  rw [show (2 : Int32).toInt = 2 by decide] at d
  unfold a_loadBy
  rw [if_pos hi, add_i (by omega) (by omega), d]
  omega
theorem load_i {P : PT} (hpb : PB P) (hr : PR P) (S : PT) {k : Int32} (hk : a_isPole P k = true) : 0 ≤ (a_load P S k).toInt ∧ (a_load P S k).toInt ≤ 500 ∧ (∀ i, i < nPe P → S 2 i = k → 1 ≤ (a_load P S k).toInt) := by
  have h5 := (PB_pe hpb).2.1
  have k0 : (0 : Int32).toInt = 0 := by decide
  have hb : ∀ i, i < nPe P → 0 ≤ (if S 2 i = k then a_loadBy P (nI i) k else 0).toInt ∧ (if S 2 i = k then a_loadBy P (nI i) k else 0).toInt ≤ ((13 : Nat) : Int) := by
    intro i hi
    have q := loadBy_i hr (one_nI hpb hi) (Or.inr hk)
    split <;> omega
  have h1 := sum_i _ 13 (by decide) (nPe P) (by omega) hb
  refine ⟨h1.1, by unfold a_load; omega, fun i hi e => ?_⟩
  have q := loadBy_i hr (one_nI hpb hi) (Or.inr hk)
  have := sum_le _ 13 (by decide) (nPe P) (by omega) hb i hi
  rw [if_pos e] at this
  unfold a_load
  omega
theorem laden_sit {P : PT} (hpb : PB P) (hr : PR P) (S : PT) {k : Int32} (hk : a_isPole P k = true) : 0 < a_load P S k ↔ ¬ a_sitters P S k = 0 := by
  have h5 := (PB_pe hpb).2.1
  have k0 : (0 : Int32).toInt = 0 := by decide
  unfold a_sitters
  rw [bits_0 _ (by omega)]
  constructor
  · intro h q
    have e : a_load P S k = 0 := by
      unfold a_load
      exact sum_z _ _ (fun i hi => by rw [if_neg (of_decide_eq_false (q i hi))])
    rw [e] at h
    exact absurd h (by decide)
  · intro h
    apply Decidable.byContradiction
    intro hn
    apply h
    intro i hi
    apply decide_eq_false
    intro e
    have q := (load_i hpb hr S hk).2.2 i hi e
    have := i_nlt hn
    omega
