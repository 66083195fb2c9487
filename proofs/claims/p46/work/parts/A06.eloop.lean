/-! level 3: poles one by one, who sits on each -/
section EL
variable {P : PT} {Z : Nat → Int32} {S : PT}
/-- how high all are on the first e poles -/
def hiTo (P S : PT) (e : Nat) : Int32 := a_sum (fun k => HK P (S 2) (nPe P) (nI k)) e
/-- who sits on one of the first e poles -/
def peTo (P S : PT) (e : Nat) : Int32 := a_bits (fun i => decide (0 ≤ (S 2 i).toInt ∧ (S 2 i).toInt < (e : Int))) (nPe P)
theorem who_bit (hb : PB P) {e i : Nat} (hi : i < nPe P) : (a_sitters P S (nI e) >>> (nI i &&& 31)) &&& 1 = 0 ↔ ¬ S 2 i = nI e := by
  have h5 := (PB_pe hb).2.1
  rw [← has_0]
  unfold a_sitters
  rw [bits_has _ (by omega) hi, decide_eq_false_iff_not]
theorem li_skip (s : Nat → Int32) {e i : Nat} (h : ¬ s i = nI e) : LI P s (i + 1) (nI e) = LI P s i (nI e) := by
  show LI P s i (nI e) + (if s i = nI e then a_loadBy P (nI i) (nI e) else 0) = _
  rw [if_neg h, Int32.add_zero]
theorem hk_skip (s : Nat → Int32) {e i : Nat} (h : ¬ s i = nI e) : HK P s (i + 1) (nI e) = HK P s i (nI e) := by
  show HK P s i (nI e) + (if s i = nI e then a_high P (nI i) (nI e) else 0) = _
  rw [if_neg h, Int32.add_zero]
theorem li_step (g : GS P S) (hn : NV P Z) {e i : Nat} (hi : i < nPe P) (h : S 2 i = nI e) : LI P (S 2) (i + 1) (nI e) = LI P (S 2) i (nI e) + (Z (14 + i) + a_ofOne P S (nI i) 3 / 2) := by
  show LI P (S 2) i (nI e) + (if S 2 i = nI e then a_loadBy P (nI i) (nI e) else 0) = _
  rw [if_pos h, one_3 g.1 hi, h, by_e g hn hi]
theorem hk_step (g : GS P S) {e i : Nat} (hi : i < nPe P) (h : S 2 i = nI e) : HK P (S 2) (i + 1) (nI e) = HK P (S 2) i (nI e) + a_ofOne P S (nI i) 3 := by
  show HK P (S 2) i (nI e) + (if S 2 i = nI e then a_high P (nI i) (nI e) else 0) = _
  rw [if_pos h, one_3 g.1 hi, h]
theorem down_who (g : GS P S) {e : Nat} (he : e < nPl P) (h : (S 0 0 >>> (nI e &&& 31)) &&& 1 = 1) : a_sitters P S (nI e) = 0 := by
  have h5 := (PB_pe g.1).2.1
  have w := dn_has g he
  rw [has_e.mpr h] at w
  unfold a_sitters
  refine (bits_0 _ (by omega)).mpr fun i hi => decide_eq_false fun q => ?_
  rcases seat_k g hi with c | ⟨k, hk, c, up⟩
  · exact n9_nI g.1 he (c.symm.trans q)
  · rw [c.symm.trans q] at up
    rw [up] at w
    cases w
theorem int_nI {e : Nat} (he : e < 100) (x : Int32) : x = nI e ↔ 0 ≤ x.toInt ∧ x.toInt = (e : Int) := by
  constructor
  · intro h; rw [h, nI_toInt (by omega)]; omega
  · intro h; apply i_eqI; rw [nI_toInt (by omega)]; exact h.2
theorem who_apart (hb : PB P) {e : Nat} (he : e < nPl P) : peTo P S e &&& a_sitters P S (nI e) = 0 := by
  have h5 := (PB_pe hb).2.1
  have h4 := (PB_pl hb).2.1
  unfold peTo
  rw [and_bits _ _ (by omega)]
  refine (bits_0 _ (by omega)).mpr fun i hi => ?_
  unfold a_sitters
  rw [bits_has _ (by omega) hi]
  cases c : decide (S 2 i = nI e) with
  | false => rw [Bool.and_false]
  | true =>
    have q := (int_nI (by omega) _).mp (of_decide_eq_true c)
    rw [decide_eq_false (by omega)]; rfl
theorem who_join (hb : PB P) {e : Nat} (he : e < nPl P) : peTo P S e ||| a_sitters P S (nI e) = peTo P S (e + 1) := by
  have h5 := (PB_pe hb).2.1
  have h4 := (PB_pl hb).2.1
  unfold peTo a_sitters
  rw [or_bits _ _ (by omega)]
  refine a_bits_c _ fun i hi => ?_
  have q := int_nI (show e < 100 by omega) (S 2 i)
  by_cases c : S 2 i = nI e
  · have w := q.mp c
    rw [decide_eq_true c, Bool.or_true, decide_eq_true (by omega)]
  · rw [decide_eq_false c, Bool.or_false]
    have w : ¬ (0 ≤ (S 2 i).toInt ∧ (S 2 i).toInt = (e : Int)) := fun z => c (q.mpr z)
    by_cases d : 0 ≤ (S 2 i).toInt ∧ (S 2 i).toInt < (e : Int)
    · rw [decide_eq_true d, decide_eq_true (by omega)]
    · rw [decide_eq_false d, decide_eq_false (by omega)]
theorem pe_all (g : GS P S) : peTo P S (nPl P) = a_seatedPeople P S := by
  have h5 := (PB_pe g.1).2.1
  have h4 := (PB_pl g.1).2.1
  rw [seated_b g.1]
  unfold peTo
  refine a_bits_c _ fun i hi => ?_
  rcases seat_k g hi with c | ⟨k, hk, c, -⟩
  · have k9 : (-9 : Int32).toInt = -9 := by decide
    rw [c, decide_eq_true (rfl : (-9 : Int32) = -9), decide_eq_false (by omega)]; rfl
  · have ne : ¬ nI k = -9 := fun w => n9_nI g.1 hk w.symm
    have ti : (nI k).toInt = (k : Int) := nI_toInt (by omega)
    rw [c, decide_eq_false ne, decide_eq_true (show 0 ≤ (nI k).toInt ∧ (nI k).toInt < (nPl P : Int) by omega)]; rfl
theorem pe_0 (hb : PB P) : peTo P S 0 = 0 := by
  have h5 := (PB_pe hb).2.1
  unfold peTo
  exact (bits_0 _ (by omega)).mpr fun i hi => decide_eq_false (by omega)
theorem hi_all (g : GS P S) : hiTo P S (nPl P) = a_highAll P S := by
  have h4 := (PB_pl g.1).2.1
  have e2 : ∀ n, n ≤ nPe P → a_sum (fun k => HK P (S 2) n (nI k)) (nPl P) = a_sum (fun i => a_high P (nI i) (S 2 i)) n := by
    intro n
    induction n with
    | zero =>
      intro _
      exact sum_z _ _ fun k _ => rfl
    | succ n ih =>
      intro hn
      rw [a_sum, ← ih (by omega)]
      have e3 : a_sum (fun k => HK P (S 2) (n + 1) (nI k)) (nPl P) = a_sum (fun k => HK P (S 2) n (nI k) + (if S 2 n = nI k then a_high P (nI n) (nI k) else 0)) (nPl P) := rfl
      rw [e3, sum_add]
      congr 1
      rcases seat_k g (show n < nPe P by omega) with q | ⟨k, hk, q, -⟩
      · rw [q, high_9]
        exact sum_z _ _ fun k hk => if_neg (n9_nI g.1 hk)
      · rw [q, sum_one _ (k := k) _ hk fun j hj hne => ?_]
        · rw [if_pos rfl]
        · refine if_neg fun w => hne ?_
          have z := i_eq w
          rw [nI_toInt (by omega), nI_toInt (by omega)] at z
          omega
  exact e2 _ (Nat.le_refl _)
theorem wear_i (g : GS P S) {e : Nat} (he : e < nPl P) : 0 ≤ (S 1 e).toInt ∧ (S 1 e).toInt ≤ 20 := g.2.2.1 e he
theorem bears_ge (g : GS P S) {e : Nat} (he : e < nPl P) : 0 ≤ (a_bears P (nI e) (S 1 e)).toInt := by
  have q := bears_i g.2.1 g.2.2.1 (pole_nI g.1 he)
  have e4 := pole_4 (S := S) g.1 he
  unfold a_bearsNow at q
  unfold a_bears
  rw [ixk g.1 he] at q ⊢
  exact q.1
end EL
