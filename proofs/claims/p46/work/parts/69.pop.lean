/-! level 2: how many bits -/
theorem nI_bv {v : Nat} (h : v < 2 ^ 31) : (nI v).toBitVec.toNat = v := by
  have e : (nI v).toInt = (v : Int) := nI_toInt h
  have q := BitVec.toInt_eq_toNat_cond (nI v).toBitVec
  have w : (nI v).toBitVec.toInt = (v : Int) := e
  rw [w] at q
  split at q <;> omega
theorem one_bv (y : BitVec 32) : (y &&& 1#32 = 1#32) ↔ y.getLsbD 0 = true := by
  have h : (y &&& 1#32).toNat = y.toNat % 2 := by rw [BitVec.toNat_and]; exact Nat.and_one_is_mod _
  rw [BitVec.getLsbD, Nat.testBit_zero, decide_eq_true_eq, ← h]
  constructor
  · intro e; rw [e]; rfl
  · intro e; exact BitVec.eq_of_toNat_eq e
theorem has_bit (x : Int32) {k : Nat} (hk : k < 6) : b_has x (nI k) = x.toBitVec.getLsbD k := by
  have e : b_has x (nI k) = (x >>> (nI k &&& 31)).toBitVec.getLsbD 0 := by
    apply Bool.eq_iff_iff.mpr
    rw [← one_bv]
    unfold b_has
    rw [decide_eq_true_eq, ← Int32.toBitVec_inj, Int32.toBitVec_and]
    exact Iff.rfl
  rw [e, Int32.toBitVec_shiftRight]
  rcases (show k = 0 ∨ k = 1 ∨ k = 2 ∨ k = 3 ∨ k = 4 ∨ k = 5 by omega) with rfl | rfl | rfl | rfl | rfl | rfl
  all_goals
    rw [BitVec.sshiftRight_eq', BitVec.getLsbD_sshiftRight]
    rfl
theorem has_and (x y : Int32) {k : Nat} (hk : k < 6) : b_has (x &&& y) (nI k) = (b_has x (nI k) && b_has y (nI k)) := by
  rw [has_bit _ hk, has_bit _ hk, has_bit _ hk, Int32.toBitVec_and, BitVec.getLsbD_and]
theorem has_not (x : Int32) {k : Nat} (hk : k < 6) : b_has (x ^^^ -1) (nI k) = !b_has x (nI k) := by
  have e : (Int32.toBitVec (-1)).getLsbD k = true := by
    rcases (show k = 0 ∨ k = 1 ∨ k = 2 ∨ k = 3 ∨ k = 4 ∨ k = 5 by omega) with rfl | rfl | rfl | rfl | rfl | rfl <;> decide
  rw [has_bit _ hk, has_bit _ hk, Int32.toBitVec_xor, BitVec.getLsbD_xor, e, Bool.xor_true]
theorem nb_mod (X : Nat) : ∀ n, nb (fun k => X.testBit k) n = X % 2 ^ n
  | 0 => by rw [Nat.pow_zero, Nat.mod_one]; rfl
  | n + 1 => by
    have e : X % 2 ^ (n + 1) = X % 2 ^ n + 2 ^ n * (X / 2 ^ n % 2) := by rw [Nat.pow_succ, Nat.mod_mul]
    rw [nb, nb_mod X n, e, Nat.testBit_eq_decide_div_mod_eq]
    by_cases c : X / 2 ^ n % 2 = 1
    · rw [decide_eq_true c, if_pos rfl, c, Nat.mul_one]
    · rw [decide_eq_false c, if_neg (by decide), show X / 2 ^ n % 2 = 0 by omega, Nat.mul_zero, Nat.add_zero]
theorem low_bits (x : Int32) {n : Nat} (hn : n < 6) : ((1 <<< (nI n &&& 31)) - 1) &&& x = a_bits (fun k => b_has x (nI k)) n := by
  have h6 : 2 ^ n ≤ 2 ^ 6 := Nat.pow_le_pow_right (by decide) (Nat.le_of_lt hn)
  have h0 : 0 < 2 ^ n := Nat.pow_pos (by decide)
  have e1 : (1 <<< (nI n &&& 31)) - 1 = nI (2 ^ n - 1) := by rw [shl_n hn]; exact nsub rfl rfl h0
  have e2 : a_bits (fun k => b_has x (nI k)) n = nI (x.toBitVec.toNat % 2 ^ n) := by
    rw [← nb_mod, bits_nb _ n (Nat.le_of_lt hn)]
    congr 1
    have : ∀ m, m ≤ n → nb (fun k => b_has x (nI k)) m = nb (fun k => x.toBitVec.toNat.testBit k) m := by
      intro m
      induction m with
      | zero => intro _; rfl
      | succ m ih => intro hm; rw [nb, nb, ih (by omega), has_bit x (by omega)]; rfl
    exact this n (Nat.le_refl _)
  rw [e1, e2]
  apply Int32.toBitVec_inj.mp
  apply BitVec.eq_of_toNat_eq
  have hm : x.toBitVec.toNat % 2 ^ n < 2 ^ n := Nat.mod_lt _ h0
  rw [Int32.toBitVec_and, BitVec.toNat_and, nI_bv (by omega), nI_bv (by omega), Nat.and_comm, Nat.and_two_pow_sub_one_eq_mod]
/-- how many of the first n -/
def cN (f : Nat → Bool) : Nat → Nat
  | 0 => 0
  | n + 1 => cN f n + (if f n = true then 1 else 0)
theorem cN_le (f : Nat → Bool) : ∀ n, cN f n ≤ n
  | 0 => Nat.le_refl _
  | n + 1 => by have := cN_le f n; rw [cN]; split <;> omega
theorem cN_c {f g : Nat → Bool} : ∀ n, (∀ i, i < n → f i = g i) → cN f n = cN g n
  | 0, _ => rfl
  | n + 1, h => by rw [cN, cN, cN_c n (fun i hi => h i (by omega)), h n (by omega)]
theorem pop_step : ∀ a : Fin 6, ∀ b : Fin 32, b.1 < 2 ^ a.1 → a_pop (nI (b.1 + 2 ^ a.1)) = a_pop (nI b.1) + 1 := by decide +kernel
theorem pop_nb (f : Nat → Bool) : ∀ n, n ≤ 6 → a_pop (nI (nb f n)) = nI (cN f n)
  | 0, _ => by show a_pop (nI 0) = nI 0; decide
  | n + 1, hn => by
    have hs := nb_lt f n
    have h5 : 2 ^ n ≤ 2 ^ 5 := Nat.pow_le_pow_right (by decide) (by omega)
    rw [nb, cN]
    by_cases c : f n = true
    · rw [if_pos c, if_pos c, pop_step ⟨n, by omega⟩ ⟨nb f n, by omega⟩ hs, pop_nb f n (by omega), nI_1]
    · rw [if_neg c, if_neg c, pop_nb f n (by omega), Nat.add_zero]
theorem pop_bits (f : Nat → Bool) {n : Nat} (hn : n ≤ 6) : a_pop (a_bits f n) = nI (cN f n) := by rw [bits_nb f n hn, pop_nb f n hn]
theorem pop_cnt : ∀ v : Fin 64, a_pop (nI v.1) = b_cnt 33 (nI v.1) := by decide +kernel
theorem pop_e {v : Nat} (h : v < 64) : b_cnt 33 (nI v) = a_pop (nI v) := (pop_cnt ⟨v, h⟩).symm
theorem sum_cN (f : Nat → Bool) : ∀ n, a_sum (fun k => if f k = true then 1 else 0) n = nI (cN f n)
  | 0 => rfl
  | n + 1 => by
    rw [a_sum, sum_cN f n, cN]
    by_cases c : f n = true
    · simp only [if_pos c]; rw [nI_1]
    · simp only [if_neg c]; rw [Int32.add_zero, Nat.add_zero]
/-- up poles that don't hold -/
theorem fail_pop {P S : PT} (hpb : PB P) : a_pop (a_up P S &&& (a_standing P S ^^^ -1)) = b_fail P S := by
  obtain ⟨e4, h4, _⟩ := PB_pl hpb
  unfold a_up
  rw [e4, Int32.and_assoc, low_bits _ (by omega), pop_bits _ (by omega), ← sum_cN]
  unfold b_fail
  exact a_sum_c _ (fun k hk => by
    have hp := pole_nI hpb hk
    rw [has_and _ _ (by omega), has_not _ (by omega), has_not _ (by omega)]
    have e1 : b_has (a_standing P S) (nI k) = a_stands P S (nI k) := bits_has _ (by omega) hk
    have e2 := up_has (S := S) hp
    rw [e1, ← e2]
    unfold a_stands
    cases a_isUp P S (nI k) with
    | false => simp
    | true =>
      by_cases c : a_load P S (nI k) ≤ a_bearsNow P S (nI k)
      · simp [c]
      · simp [c])
