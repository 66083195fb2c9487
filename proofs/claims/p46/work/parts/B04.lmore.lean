/-! the law: what the later checks stand on -/
theorem flag_iff {a b : Prop} [Decidable a] [Decidable b] (h : a ↔ b) : (if a then (1 : Int32) else 0) = if b then (1 : Int32) else 0 := by
  by_cases c : a
  · rw [if_pos c, if_pos (h.mp c)]
  · rw [if_neg c, if_neg (fun q => c (h.mpr q))]
theorem nn_le {a : Int32} (h : 0 ≤ a.toInt) : 0 ≤ a := i_leI (by rw [show (0 : Int32).toInt = 0 by decide]; exact h)
theorem nI_nlt1 {n : Nat} (h : 1 ≤ n) (hn : n < 2 ^ 31) : ¬ nI n < 1 := nlt_i (by rw [nI_toInt hn, show (1 : Int32).toInt = 1 by decide]; omega)
theorem b2i_and (a b : Bool) : b2i a &&& b2i b = b2i (a && b) := by cases a <;> cases b <;> decide
/-- a number's figures are all in w -/
def wlB (P : PT) (w : Nat → Bool) (code i : Nat) : Bool := all_b (fun j => w (lf (nPl P) code j % nPl P)) i
def IR (P : PT) (w : Nat → Bool) (code i : Nat) (f : Nat → Int32) : Prop := wlB P w code i = true → ∀ j, j < i → f j = nI (lf (nPl P) code j % nPl P)
theorem IR_no {P : PT} {w : Nat → Bool} {code i : Nat} {f : Nat → Int32} (h : w (lf (nPl P) code i % nPl P) = false) : IR P w code (i + 1) f := fun q => by
  have z : (wlB P w code i && w (lf (nPl P) code i % nPl P)) = true := q
  rw [h, Bool.and_false] at z
  cases z
theorem IR_yes {P : PT} {w : Nat → Bool} {code i : Nat} {f : Nat → Int32} (h : IR P w code i f) : IR P w code (i + 1) (sU f i (nI (lf (nPl P) code i % nPl P))) := fun q j hj => by
  have z : (wlB P w code i && w (lf (nPl P) code i % nPl P)) = true := q
  rw [Bool.and_eq_true] at z
  by_cases c : j = i
  · rw [c, sU_e]
  · rw [sU_n _ _ c]; exact h z.1 j (by omega)
theorem few_ok {P S : PT} {w : Nat → Bool} {code : Nat} {f : Nat → Int32} (hp0 : 0 < nPl P) (hwu : ∀ k, k < nPl P → w k = true → a_isUp P S (nI k) = true) (hw : wlB P w code (nPe P) = true) (h : IR P w code (nPe P) f) : okS P S f (nPe P) := fun j hj => by
  rw [h hw j hj]
  exact Or.inr (hwu _ (Nat.mod_lt _ hp0) ((all_iff _ _).mp hw j hj))
theorem few_wl {P : PT} {w : Nat → Bool} {cst : Nat} {t : Nat → Nat} (hct : ∀ i, i < nPe P → lf (nPl P) cst i % nPl P = t i) (htw : ∀ i, i < nPe P → t i < nPl P ∧ w (t i) = true) : wlB P w cst (nPe P) = true := (all_iff _ _).mpr fun j hj => by
  rw [hct j hj]; exact (htw j hj).2
theorem few_f {P S : PT} {w : Nat → Bool} {cst : Nat} {t : Nat → Nat} {f : Nat → Int32} (hct : ∀ i, i < nPe P → lf (nPl P) cst i % nPl P = t i) (htw : ∀ i, i < nPe P → t i < nPl P ∧ w (t i) = true) (h : IR P w cst (nPe P) f) (h0 : b_fail P (Ts S fun i => nI (t i)) = 0) : b_fail P (Ts S f) = 0 := by
  rw [← h0]
  exact pe_fail PEq.rfl' (Ts_s fun j hj => by rw [h (few_wl hct htw) j hj, hct j hj])
theorem which_bit {w : Nat → Bool} {n d : Nat} (hn : n ≤ 6) (hd : d < n) : (a_bits w n >>> (nI d &&& 31)) &&& 1 = b2i (w d) := by rw [has_b, bits_has w hn hd]
theorem b2i_one {b : Bool} (h : b2i b = 1) : b = true := by
  cases b with
  | true => rfl
  | false => exact absurd h (by decide)
theorem b2i_none {b : Bool} (h : ¬ b2i b = 1) : b = false := by
  cases b with
  | true => exact absurd rfl h
  | false => rfl
theorem b2i_z {b : Bool} (h : b2i b = 0) : b = false := by
  cases b with
  | true => exact absurd h (by decide)
  | false => rfl
theorem b2i_nz {b : Bool} (h : ¬ b2i b = 0) : b = true := by
  cases b with
  | true => rfl
  | false => exact absurd rfl h
theorem pw_1024 {a b : Nat} (ha : a ≤ 4) (hb : b ≤ 5) : a ^ b ≤ 1024 := by
  have h1 : a ^ b ≤ 4 ^ b := Nat.pow_le_pow_left ha b
  have h2 : 4 ^ b ≤ 4 ^ 5 := Nat.pow_le_pow_right (by decide) hb
  have h3 : (4 : Nat) ^ 5 = 1024 := by decide
  omega
