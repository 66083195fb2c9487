/-! level 3: years, when a pole gives -/
theorem fst_lt {f : Nat → Bool} : ∀ {n : Nat}, fstN f n < n → f (fstN f n) = true ∧ ∀ i, i < fstN f n → f i = false
  | 0, h => absurd h (Nat.not_lt_zero _)
  | n + 1, h => by
    rw [fstN] at h ⊢
    by_cases c : fstN f n = n
    · rw [if_pos c] at h ⊢
      by_cases d : f n = true
      · rw [if_pos d]
        refine ⟨d, fun i hi => (fst_full f n).mp c i hi⟩
      · rw [if_neg d] at h; omega
    · rw [if_neg c]
      have := fstN_le f n
      exact fst_lt (by omega)
section YE
variable {P : PT} {Z : Nat → Int32} {K : KT} {S : PT} {D : Nat} {C : Nat → Int32} {u : Mem}
theorem year_seat (g : GS P S) {i : Nat} (hi : i < nPe P) : (S 2 i = -9 ∧ dYear P S 2 i = -9) ∨ ∃ k, k < nPl P ∧ S 2 i = nI k ∧ a_isUp P S (nI k) = true ∧ dYear P S 2 i = if y_gives P S k = true then -9 else nI k := by
  have h4 := (PB_pl g.1).2.1
  have e : dYear P S 2 i = y_seat P S (y_gave P S) i := rfl
  rcases seat_k g hi with q | ⟨k, hk, q, up⟩
  · refine Or.inl ⟨q, ?_⟩
    rw [e]
    unfold y_seat
    split
    · split
      · rfl
      · exact q
    · exact q
  · refine Or.inr ⟨k, hk, q, up, ?_⟩
    rw [e]
    unfold y_seat
    have hs : a_isSeated P S (nI i) = true := by
      unfold a_isSeated
      rw [one_nI g.1 hi, ixe g.1 hi, q, decide_eq_false (fun w => n9_nI g.1 hk w.symm)]; rfl
    rw [if_pos hs, q]
    have hg := gave_has1 g hk
    by_cases c : y_gives P S k = true
    · rw [if_pos c, if_pos (has_e.mp (hg.trans c))]
    · rw [if_neg c, if_neg (fun w => c (hg.symm.trans (has_e.mpr w)))]
theorem GS_year (g : GS P S) : GS P (dYear P S) := by
  refine ⟨g.1, g.2.1, fun k hk => ?_, fun i hi => ?_, FB_year g.1 g.2.2.2.2⟩
  · have q := g.2.2.1 k hk
    show 0 ≤ (y_wear P S k).toInt ∧ (y_wear P S k).toInt ≤ 20
    unfold y_wear
    split
    · split
      · exact q
      · exact worn_i q
    · exact q
  · rcases year_seat g hi with ⟨-, q⟩ | ⟨k, hk, -, up, q⟩
    · exact Or.inl q
    · by_cases c : y_gives P S k = true
      · rw [if_pos c] at q; exact Or.inl q
      · rw [if_neg c] at q
        refine Or.inr ?_
        rw [q, up_year g.1 hk, up, Bool.eq_false_iff.mpr c]; rfl
theorem GS_yrs (g : GS P S) : ∀ n, GS P (yrs P S n)
  | 0 => g
  | n + 1 => GS_year (GS_yrs g n)
theorem all_i (g : GS P S) : 0 ≤ (a_highAll P S).toInt ∧ (a_highAll P S).toInt ≤ 45 := HI_i g.1 g.2.1 (Nat.le_refl _) g.2.2.2.1
theorem later_0 (g : GS P S) (n : Nat) : ¬ a_highAll P (yrs P S n) < 0 := nlt_i (by rw [show (0 : Int32).toInt = 0 by decide]; exact (all_i (GS_yrs g n)).1)
theorem later_le (g : GS P S) (n : Nat) : ∀ c, (a_highAll P (yrs P S (n + c))).toInt ≤ (a_highAll P (yrs P S n)).toInt
  | 0 => Int.le_refl _
  | c + 1 => Int.le_trans (year_high (GS_yrs g (n + c))) (later_le g n c)
theorem later_nlt (g : GS P S) (n c : Nat) : ¬ a_highAll P (yrs P S n) < a_highAll P (yrs P S (n + c)) := nlt_i (later_le g n c)
theorem down_yrs (g : GS P S) {k : Nat} (hk : k < nPl P) (h : a_isUp P S (nI k) = false) : ∀ n, a_isUp P (yrs P S n) (nI k) = false
  | 0 => h
  | n + 1 => by
    show a_isUp P (dYear P (yrs P S n)) (nI k) = false
    rw [up_year g.1 hk, down_yrs g hk h n]; rfl
theorem later_down (g : GS P S) (n : Nat) : yrs P S n 0 0 &&& S 0 0 = S 0 0 := by
  have h4 := (PB_pl g.1).2.1
  have f := (GS_yrs g n).2.2.2.2
  have e : yrs P S n 0 0 &&& S 0 0 = a_bits (fun k => !a_isUp P (yrs P S n) (nI k)) (nPl P) &&& S 0 0 := by rw [← f]
  have e2 : S 0 0 = a_bits (fun k => !a_isUp P S (nI k)) (nPl P) := g.2.2.2.2
  rw [e, and_bits _ _ (by omega)]
  refine Eq.trans (a_bits_c _ fun k hk => ?_) e2.symm
  rw [dn_has g hk]
  cases c : a_isUp P S (nI k) with
  | true => rw [Bool.not_true, Bool.and_false]
  | false => rw [down_yrs g hk c n]; rfl
/-- a bit of who is down, behind years -/
theorem yrs_bit (g : GS P S) {k : Nat} (hk : k < nPl P) (n : Nat) : (yrs P S n 0 0 >>> (nI k &&& 31)) &&& 1 = b2i (!a_isUp P (yrs P S n) (nI k)) := by
  rw [has_b, dn_has (GS_yrs g n) hk]
theorem dn_bit (g : GS P S) {k : Nat} (hk : k < nPl P) : (S 0 0 >>> (nI k &&& 31)) &&& 1 = b2i (!a_isUp P S (nI k)) := yrs_bit g hk 0
theorem bn_e (hb : PB P) {k : Nat} (hk : k < nPl P) (T : PT) : a_bearsNow P T (nI k) = a_bears P (nI k) (T 1 k) := by
  unfold a_bearsNow a_bears
  rw [ixk hb hk]
theorem load_year (g : GS P S) {k : Nat} (hk : k < nPl P) (hn : y_gives P S k = false) : a_load P (dYear P S) (nI k) = a_load P S (nI k) := by
  have h4 := (PB_pl g.1).2.1
  unfold a_load
  refine a_sum_c _ fun i hi => ?_
  have e : dYear P S 2 i = nI k ↔ S 2 i = nI k := by
    rcases year_seat g hi with ⟨q1, q2⟩ | ⟨j, hj, q1, -, q2⟩
    · rw [q1, q2]
    · rw [q1, q2]
      by_cases c : y_gives P S j = true
      · rw [if_pos c]
        constructor
        · intro w; exact absurd w (n9_nI g.1 hk)
        · intro w
          have z := i_eq w
          rw [nI_toInt (by omega), nI_toInt (by omega)] at z
          have : j = k := by omega
          rw [this, hn] at c; cases c
      · rw [if_neg c]
  by_cases c : S 2 i = nI k
  · rw [if_pos c, if_pos (e.mpr c)]
  · rw [if_neg c, if_neg (fun w => c (e.mp w))]
theorem gives_inv (g : GS P S) {k : Nat} (hk : k < nPl P) (hu : a_isUp P S (nI k) = true) : ∀ j, (∀ i, i < j → gv_at P (nI k) (a_load P S (nI k)) (S 1 k) i = false) →
    a_isUp P (yrs P S j) (nI k) = true ∧ a_load P (yrs P S j) (nI k) = a_load P S (nI k) ∧ yrs P S j 1 k = wornN (if 0 < a_load P S (nI k) then 1 else 0) (S 1 k) j ∧ y_gives P (yrs P S j) k = gv_at P (nI k) (a_load P S (nI k)) (S 1 k) j
  | 0, _ => by
    refine ⟨hu, rfl, rfl, ?_⟩
    show (a_isUp P S (nI k) && decide (a_bearsNow P S (nI k) < a_load P S (nI k))) = decide (a_bears P (nI k) (S 1 k) < a_load P S (nI k))
    rw [hu, Bool.true_and, bn_e g.1 hk]
  | j + 1, h => by
    obtain ⟨a1, a2, a3, a4⟩ := gives_inv g hk hu j fun i hi => h i (by omega)
    have gj := GS_yrs g j
    have hn : y_gives P (yrs P S j) k = false := a4.trans (h j (by omega))
    have b1 : a_isUp P (dYear P (yrs P S j)) (nI k) = true := by rw [up_year g.1 hk, a1, hn]; rfl
    have b2 : a_load P (dYear P (yrs P S j)) (nI k) = a_load P S (nI k) := (load_year gj hk hn).trans a2
    have b3 : dYear P (yrs P S j) 1 k = wornN (if 0 < a_load P S (nI k) then 1 else 0) (S 1 k) (j + 1) := by
      show y_wear P (yrs P S j) k = _
      unfold y_wear
      have hl : ¬ a_bearsNow P (yrs P S j) (nI k) < a_load P (yrs P S j) (nI k) := fun q => by
        unfold y_gives at hn
        rw [a1, decide_eq_true q] at hn
        cases hn
      rw [if_pos a1, if_neg hl, a2, a3, wornN]
    refine ⟨b1, b2, b3, ?_⟩
    show (a_isUp P (dYear P (yrs P S j)) (nI k) && decide (a_bearsNow P (dYear P (yrs P S j)) (nI k) < a_load P (dYear P (yrs P S j)) (nI k))) = _
    rw [b1, Bool.true_and, bn_e g.1 hk, b2, b3]
    rfl
/-- gives, as the law asks -/
def GivOf (P S : PT) (k : Nat) (x : Int32) : Prop := (x = -9 ∧ y_gives P S k = false ∧ ∀ n, n ≤ 40 → a_isUp P (yrs P S n) (nI k) = a_isUp P S (nI k)) ∨
  ∃ f, f < 40 ∧ x = nI (f + 1) ∧ a_isUp P S (nI k) = true ∧ (y_gives P S k = decide (f = 0)) ∧ a_isUp P (yrs P S f) (nI k) = true ∧ a_isUp P (yrs P S (f + 1)) (nI k) = false
theorem giv_of (g : GS P S) {k : Nat} (hk : k < nPl P) : GivOf P S k (if a_isUp P S (nI k) = true then a_gives P S (nI k) else -9) := by
  by_cases hu : a_isUp P S (nI k) = true
  · rw [if_pos hu]
    unfold a_gives
    rw [ixk g.1 hk]
    have inv := gives_inv g hk hu
    by_cases c : fstN (gv_at P (nI k) (a_load P S (nI k)) (S 1 k)) 40 = 40
    · rw [if_pos c]
      have h0 := (fst_full _ 40).mp c
      refine Or.inl ⟨rfl, ?_, fun n hn => ?_⟩
      · have w := (inv 0 fun i hi => absurd hi (Nat.not_lt_zero _)).2.2.2
        rw [h0 0 (by decide)] at w
        exact w
      · rw [hu]
        exact (inv n fun i hi => h0 i (by omega)).1
    · rw [if_neg c]
      have hl : fstN (gv_at P (nI k) (a_load P S (nI k)) (S 1 k)) 40 < 40 := by
        have := fstN_le (gv_at P (nI k) (a_load P S (nI k)) (S 1 k)) 40
        omega
      obtain ⟨f1, f2⟩ := fst_lt hl
      generalize fstN (gv_at P (nI k) (a_load P S (nI k)) (S 1 k)) 40 = f at hl f1 f2 ⊢
      have w := inv f f2
      have z := (inv 0 fun i hi => absurd hi (Nat.not_lt_zero _)).2.2.2
      refine Or.inr ⟨f, hl, rfl, hu, ?_, w.1, ?_⟩
      · have z2 : y_gives P S k = gv_at P (nI k) (a_load P S (nI k)) (S 1 k) 0 := z
        rw [z2]
        by_cases e : f = 0
        · rw [decide_eq_true e, ← e]; exact f1
        · rw [decide_eq_false e]; exact f2 0 (by omega)
      · show a_isUp P (dYear P (yrs P S f)) (nI k) = false
        rw [up_year g.1 hk, w.2.2.2, f1, w.1]; rfl
  · have hf := Bool.eq_false_iff.mpr hu
    rw [if_neg hu]
    refine Or.inl ⟨rfl, ?_, fun n _ => ?_⟩
    · unfold y_gives; rw [hf]; rfl
    · rw [hf]; exact down_yrs g hk hf n
theorem gave_bit (g : GS P S) {k : Nat} (hk : k < nPl P) : (((((1 <<< (nI (nPl P) &&& 31)) - 1) &&& (S 0 0 ^^^ -1)) &&& (a_standing P S ^^^ -1)) >>> (nI k &&& 31)) &&& 1 = b2i (y_gives P S k) := by
  rw [gave_set g, has_b, gave_has1 g hk]
end YE
