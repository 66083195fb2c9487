/-! level 3: sets of poles -/
theorem or_bits (f g : Nat → Bool) {n : Nat} (hn : n ≤ 6) : a_bits f n ||| a_bits g n = a_bits (fun k => f k || g k) n := by
  have h6 : 2 ^ n ≤ 2 ^ 6 := Nat.pow_le_pow_right (by decide) hn
  have hb : ∀ h : Nat → Bool, nb h n < 2 ^ 30 := fun h => by have := nb_lt h n; omega
  rw [bits_nb f n hn, bits_nb g n hn, bits_nb _ n hn, nI_or _ _ (hb f) (hb g)]
  congr 1
  apply Nat.eq_of_testBit_eq
  intro k
  rw [Nat.testBit_or]
  by_cases c : k < n
  · rw [nb_tb f n hn k c, nb_tb g n hn k c, nb_tb _ n hn k c]
  · have hp : ∀ h : Nat → Bool, (nb h n).testBit k = false := fun h => Nat.testBit_lt_two_pow (Nat.lt_of_lt_of_le (nb_lt h n) (Nat.pow_le_pow_right (by decide) (by omega)))
    rw [hp, hp, hp]; rfl
theorem and_bits (f : Nat → Bool) (x : Int32) {n : Nat} (hn : n < 6) : a_bits f n &&& x = a_bits (fun k => f k && b_has x (nI k)) n := by
  have e : ((1 <<< (nI n &&& 31)) - 1) &&& a_bits f n = a_bits f n := by
    rw [low_bits _ hn]; exact a_bits_c n fun k hk => bits_has f (by omega) hk
  have e2 : a_bits f n &&& x = ((1 <<< (nI n &&& 31)) - 1) &&& (a_bits f n &&& x) := by rw [← Int32.and_assoc, e]
  rw [e2, low_bits _ hn]
  exact a_bits_c n fun k hk => by rw [has_and _ _ (by omega), bits_has f (by omega) hk]
theorem bits_eq (f g : Nat → Bool) {n : Nat} (hn : n ≤ 6) : a_bits f n = a_bits g n ↔ ∀ k, k < n → f k = g k := by
  constructor
  · intro h k hk
    rw [← bits_has f hn hk, ← bits_has g hn hk, h]
  · exact fun h => a_bits_c n h
theorem all_bits {n : Nat} (hn : n < 6) : (1 <<< (nI n &&& 31)) - 1 = a_bits (fun _ => true) n := by
  have q : ∀ a : Fin 6, (1 <<< (nI a.1 &&& 31)) - 1 = a_bits (fun _ => true) a.1 := by decide +kernel
  exact q ⟨n, hn⟩
theorem one_bits {n i : Nat} (hn : n ≤ 5) (hi : i < n) : (1 : Int32) <<< (nI i &&& 31) = a_bits (fun k => decide (k = i)) n := by
  have q : ∀ a : Fin 6, ∀ b : Fin 6, b.1 < a.1 → (1 : Int32) <<< (nI b.1 &&& 31) = a_bits (fun k => decide (k = b.1)) a.1 := by decide +kernel
  exact q ⟨n, by omega⟩ ⟨i, by omega⟩ hi
theorem has_e {x k : Int32} : b_has x k = true ↔ (x >>> (k &&& 31)) &&& 1 = 1 := by unfold b_has; exact decide_eq_true_iff
theorem has_0 {x k : Int32} : b_has x k = false ↔ (x >>> (k &&& 31)) &&& 1 = 0 := by
  unfold b_has
  rw [decide_eq_false_iff_not]
  constructor
  · intro h
    apply Decidable.byContradiction
    intro q
    exact h (by rw [and1]; exact q)
  · intro h q
    rw [h] at q
    exact absurd q (by decide)
theorem has_b {x k : Int32} : (x >>> (k &&& 31)) &&& 1 = b2i (b_has x k) := by
  cases h : b_has x k with
  | true => exact has_e.mp h
  | false => exact has_0.mp h
/-- who is down, as bits -/
def FB (P S : PT) : Prop := S 0 0 = a_bits (fun k => !a_isUp P S (nI k)) (nPl P)
theorem FB_c {P S T : PT} (h : FB P S) (e : SEq P S T) : FB P T := by
  unfold FB at h ⊢
  rw [← e.1, h]
  exact a_bits_c _ fun k _ => by rw [pe_isUp PEq.rfl' e]
theorem FB_0 {P S T : PT} (h : FB P S) (e : T 0 0 = S 0 0) : FB P T := by
  unfold FB at h ⊢
  rw [e, h]
  exact a_bits_c _ fun k _ => by rw [a_isUp_c e]
theorem up_year {P S : PT} (hpb : PB P) {k : Nat} (hk : k < nPl P) : a_isUp P (dYear P S) (nI k) = (a_isUp P S (nI k) && !y_gives P S k) := by
  have h4 := (PB_pl hpb).2.1
  have hp := pole_nI hpb hk
  rw [up_has hp, up_has hp]
  show (!b_has (S 0 0 ||| y_gave P S) (nI k)) = _
  rw [has_or]
  have g : b_has (y_gave P S) (nI k) = y_gives P S k := bits_has _ (by omega) hk
  rw [g]
  cases b_has (S 0 0) (nI k) <;> cases y_gives P S k <;> rfl
theorem FB_year {P S : PT} (hpb : PB P) (h : FB P S) : FB P (dYear P S) := by
  have h4 := (PB_pl hpb).2.1
  unfold FB at h ⊢
  show S 0 0 ||| a_bits (y_gives P S) (nPl P) = _
  have e : S 0 0 ||| a_bits (y_gives P S) (nPl P) = a_bits (fun k => !a_isUp P S (nI k)) (nPl P) ||| a_bits (y_gives P S) (nPl P) := by rw [← h]
  rw [e, or_bits _ _ (by omega)]
  exact a_bits_c _ fun k hk => by
    show (!a_isUp P S (nI k) || y_gives P S k) = !a_isUp P (dYear P S) (nI k)
    rw [up_year hpb hk]
    cases a_isUp P S (nI k) <;> cases y_gives P S k <;> rfl
theorem FB_apply {P S : PT} (hpb : PB P) (h : FB P S) (d : Int32) : FB P (dApply P S d) := by
  unfold dApply
  split
  · split
    · exact FB_0 h rfl
    · exact h
  · split
    · split
      · exact FB_0 h rfl
      · exact h
    · split
      · split
        · exact FB_0 h rfl
        · exact h
      · split
        · exact FB_0 h rfl
        · exact FB_year hpb h
theorem FB_rpl {P : PT} (hpb : PB P) (C : Nat → Int32) : ∀ n, FB P (rplP P C n)
  | 0 => by
    have h4 := (PB_pl hpb).2.1
    show (0 : Int32) = _
    rw [eq_comm]
    refine (bits_0 _ (by omega)).mpr fun k hk => ?_
    rw [up_has (pole_nI hpb hk)]
    have q : ∀ b : Fin 6, b_has 0 (nI b.1) = false := by decide +kernel
    have w := q ⟨k, by omega⟩
    show (!!b_has 0 (nI k)) = false
    rw [w]; rfl
  | n + 1 => FB_apply hpb (FB_rpl hpb C n) _
theorem J_fb {P : PT} {Z : Nat → Int32} {K : KT} {S : PT} {D : Nat} {C : Nat → Int32} {u : Mem} (h : J P Z K S D C u) : FB P S := FB_c (FB_rpl (J_plan h).1 C D) (J_rp h)
/-- what all that is said below stands on -/
def GS (P S : PT) : Prop := PB P ∧ PR P ∧ WR P S ∧ okS P S (S 2) (nPe P) ∧ FB P S
theorem J_gs {P : PT} {Z : Nat → Int32} {K : KT} {S : PT} {D : Nat} {C : Nat → Int32} {u : Mem} (h : J P Z K S D C u) : GS P S := ⟨(J_plan h).1, (J_plan h).2, J_wear h, J_seats h, J_fb h⟩
theorem dn_has {P S : PT} (g : GS P S) {k : Nat} (hk : k < nPl P) : b_has (S 0 0) (nI k) = !a_isUp P S (nI k) := by
  rw [up_has (pole_nI g.1 hk)]; cases b_has (S 0 0) (nI k) <;> rfl
theorem st_up {P S : PT} {k : Int32} (h : a_stands P S k = true) : a_isUp P S k = true := by
  unfold a_stands at h
  rw [Bool.and_eq_true] at h
  exact h.1
/-- hold & down -/
theorem hold_down {P S : PT} (g : GS P S) : a_standing P S &&& S 0 0 = 0 := by
  have h4 := (PB_pl g.1).2.1
  unfold a_standing
  rw [and_bits _ _ (by omega)]
  refine (bits_0 _ (by omega)).mpr fun k hk => ?_
  rw [dn_has g hk]
  cases c : a_stands P S (nI k) with
  | false => rfl
  | true => rw [st_up c]; rfl
/-- hold | down is all -/
theorem hold_all {P S : PT} (g : GS P S) : a_standing P S ||| S 0 0 = (1 <<< (nI (nPl P) &&& 31)) - 1 ↔ ∀ k, k < nPl P → a_isUp P S (nI k) = true → a_stands P S (nI k) = true := by
  have h4 := (PB_pl g.1).2.1
  have e : a_standing P S ||| S 0 0 = a_standing P S ||| a_bits (fun k => !a_isUp P S (nI k)) (nPl P) := by rw [← g.2.2.2.2]
  rw [e]
  unfold a_standing
  rw [or_bits _ _ (by omega), all_bits (by omega), bits_eq _ _ (by omega)]
  constructor
  · intro h k hk up
    have q := h k hk
    rw [up] at q
    simpa using q
  · intro h k hk
    cases c : a_isUp P S (nI k) with
    | false => simp
    | true => rw [h k hk c]; rfl
/-- what gives in the year that passes -/
theorem gave_set {P S : PT} (g : GS P S) : (((1 <<< (nI (nPl P) &&& 31)) - 1) &&& (S 0 0 ^^^ -1)) &&& (a_standing P S ^^^ -1) = y_gave P S := by
  have h4 := (PB_pl g.1).2.1
  rw [all_bits (by omega), and_bits _ _ (by omega), and_bits _ _ (by omega)]
  unfold y_gave
  refine a_bits_c _ fun k hk => ?_
  have hs : b_has (a_standing P S) (nI k) = a_stands P S (nI k) := bits_has _ (by omega) hk
  rw [has_not _ (by omega), has_not _ (by omega), dn_has g hk, hs]
  unfold y_gives a_stands
  by_cases c : a_isUp P S (nI k) = true
  · rw [c]
    by_cases d : a_load P S (nI k) ≤ a_bearsNow P S (nI k)
    · rw [decide_eq_true d, decide_eq_false (u_le d)]; rfl
    · rw [decide_eq_false d, decide_eq_true (u_nle d)]; rfl
  · rw [Bool.eq_false_iff.mpr c]; rfl
theorem gave_has1 {P S : PT} (g : GS P S) {k : Nat} (hk : k < nPl P) : b_has (y_gave P S) (nI k) = y_gives P S k := bits_has _ (by have := (PB_pl g.1).2.1; omega) hk
theorem load_le {P S : PT} (g : GS P S) {k : Nat} (hk : k < nPl P) : 0 ≤ (a_load P S (nI k)).toInt ∧ (a_load P S (nI k)).toInt ≤ 65 := LI_i g.1 g.2.1 (S 2) hk (Nat.le_refl _)
/-- what is laden too much -/
theorem excess_i {P S : PT} (g : GS P S) : 0 ≤ (a_excess P S).toInt ∧ (a_excess P S = 0 ↔ ∀ k, k < nPl P → a_isUp P S (nI k) = true → a_stands P S (nI k) = true) := by
  have h4 := (PB_pl g.1).2.1
  have k0 : (0 : Int32).toInt = 0 := by decide
  have t : ∀ k, k < nPl P → 0 ≤ (if a_isUp P S (nI k) = true then imax 0 (a_load P S (nI k) - a_bearsNow P S (nI k)) else 0).toInt ∧ (if a_isUp P S (nI k) = true then imax 0 (a_load P S (nI k) - a_bearsNow P S (nI k)) else 0).toInt ≤ ((65 : Nat) : Int) := fun k hk => by
    have l := load_le g hk
    have b := bears_i g.2.1 g.2.2.1 (pole_nI g.1 hk)
    have e := sub_i (a := a_load P S (nI k)) (b := a_bearsNow P S (nI k)) ⟨l.1, by omega⟩ ⟨b.1, by omega⟩
    split
    · rw [imax_i, k0, e]; split <;> omega
    · rw [k0]; omega
  have s := sum_b _ 65 (by decide) (nPl P) (by omega) t
  refine ⟨s.1, ?_⟩
  constructor
  · intro h k hk up
    have z := sum_le _ 65 (by decide) (nPl P) (by omega) t k hk
    have e0 : (a_excess P S).toInt = 0 := by rw [h]; exact k0
    unfold a_excess at e0
    rw [e0, if_pos up, imax_i, k0] at z
    have l := load_le g hk
    have b := bears_i g.2.1 g.2.2.1 (pole_nI g.1 hk)
    have e := sub_i (a := a_load P S (nI k)) (b := a_bearsNow P S (nI k)) ⟨l.1, by omega⟩ ⟨b.1, by omega⟩
    rw [e] at z
    unfold a_stands
    rw [up, Bool.true_and]
    refine decide_eq_true (i_leI ?_)
    by_cases c : 0 < (a_load P S (nI k)).toInt - (a_bearsNow P S (nI k)).toInt
    · rw [if_pos c] at z; omega
    · omega
  · intro h
    unfold a_excess
    refine sum_z _ _ fun k hk => ?_
    by_cases c : a_isUp P S (nI k) = true
    · rw [if_pos c]
      have w := h k hk c
      unfold a_stands at w
      rw [Bool.and_eq_true] at w
      have d := i_le (of_decide_eq_true w.2)
      have l := load_le g hk
      have b := bears_i g.2.1 g.2.2.1 (pole_nI g.1 hk)
      have e := sub_i (a := a_load P S (nI k)) (b := a_bearsNow P S (nI k)) ⟨l.1, by omega⟩ ⟨b.1, by omega⟩
      unfold imax
      rw [if_neg (nlt_i (by rw [e, k0]; omega))]
    · rw [if_neg c]
