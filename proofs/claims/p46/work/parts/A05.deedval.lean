/-! level 3: what a deed does to what is told -/
/-- the law's own row of the nave -/
def NV (P : PT) (Z : Nat → Int32) : Prop := (0 < nPl P ∧ 0 < nPe P) ∧ (Z 0 = nI (nPl P) ∧ Z 1 = nI (nPe P)) ∧ (∀ k, k < nPl P → P 1 k = Z (2 + k) ∧ P 2 k = Z (6 + k) ∧ P 3 k = Z (10 + k)) ∧ (∀ i, i < nPe P → P 4 i = Z (14 + i) ∧ P 5 i = Z (19 + i))
section DV
variable {P : PT} {Z : Nat → Int32} {K : KT} {S : PT} {D : Nat} {C : Nat → Int32} {u : Mem}
theorem cX_z (G : GT) (h : J P Z K S D C u) : cX G u 72 = .inl (G.2.2 0, 24, .inl Z) := by
  obtain ⟨-, -, -, -, -, -, hZ⟩ := id h
  rw [cX_72, hZ]
theorem ixe {i : Nat} (hb : PB P) (hi : i < nPe P) : ix (nI i) = i := ix_of (by have := (PB_pe hb).2.1; omega)
theorem ixk {k : Nat} (hb : PB P) (hk : k < nPl P) : ix (nI k) = k := ix_of (by have := (PB_pl hb).2.1; omega)
theorem one_2 (hb : PB P) {i : Nat} (hi : i < nPe P) : a_ofOne P S (nI i) 2 = S 2 i := by
  unfold a_ofOne
  rw [if_pos (one_nI hb hi), if_neg (by decide), if_neg (by decide), if_pos rfl, ixe hb hi]
theorem one_3 (hb : PB P) {i : Nat} (hi : i < nPe P) : a_ofOne P S (nI i) 3 = a_high P (nI i) (S 2 i) := by
  unfold a_ofOne
  rw [if_pos (one_nI hb hi), if_neg (by decide), if_neg (by decide), if_neg (by decide), ixe hb hi]
theorem pole_3 (hb : PB P) {k : Nat} (hk : k < nPl P) : a_ofPole P S (nI k) 3 = S 1 k := by
  unfold a_ofPole
  rw [if_pos (pole_nI hb hk), if_neg (by decide), if_neg (by decide), if_neg (by decide), if_pos rfl, ixk hb hk]
theorem pole_4 (hb : PB P) {k : Nat} (hk : k < nPl P) : a_ofPole P S (nI k) 4 = a_bears P (nI k) (S 1 k) := by
  unfold a_ofPole
  rw [if_pos (pole_nI hb hk), if_neg (by decide), if_neg (by decide), if_neg (by decide), if_neg (by decide), if_pos rfl]
  unfold a_bearsNow a_bears
  rw [ixk hb hk]
theorem pole_5 (hb : PB P) {k : Nat} (hk : k < nPl P) : a_ofPole P S (nI k) 5 = a_load P S (nI k) := by
  unfold a_ofPole
  rw [if_pos (pole_nI hb hk), if_neg (by decide), if_neg (by decide), if_neg (by decide), if_neg (by decide), if_neg (by decide), if_pos rfl]
theorem pole_6 (hb : PB P) {k : Nat} (hk : k < nPl P) : a_ofPole P S (nI k) 6 = a_sitters P S (nI k) := by
  unfold a_ofPole
  rw [if_pos (pole_nI hb hk), if_neg (by decide), if_neg (by decide), if_neg (by decide), if_neg (by decide), if_neg (by decide), if_neg (by decide), if_pos rfl]
theorem pole_7 (hb : PB P) {k : Nat} (hk : k < nPl P) : a_ofPole P S (nI k) 7 = (S 0 0 >>> (nI k &&& 31)) &&& 1 := by
  unfold a_ofPole
  rw [if_pos (pole_nI hb hk), if_neg (by decide), if_neg (by decide), if_neg (by decide), if_neg (by decide), if_neg (by decide), if_neg (by decide), if_neg (by decide)]
theorem q_sitN0 (h : J P Z K S D C u) {i k : Nat} (hi : i < nPe P) (hk : k < nPl P) (hd : ¬ (S 2 i = -9 ∧ a_isUp P S (nI k) = true)) : k_sit u (nI i) (nI k) = (-4, u) := by
  have hb := (J_plan h).1
  exact q_sit0 h (one_nI hb hi) (pole_nI hb hk) (by rw [ixe hb hi]; exact hd)
theorem q_sitN1 (h : J P Z K S D C u) (hD : D < 40) {i k : Nat} (hi : i < nPe P) (hk : k < nPl P) (h9 : S 2 i = -9) (hu : a_isUp P S (nI k) = true) : (k_sit u (nI i) (nI k)).1 = a_load P (Ts S (sU (S 2) i (nI k))) (nI k) ∧ (∃ C', (∀ j, j < D → C' j = C j) ∧ J P Z K (Ts S (sU (S 2) i (nI k))) (D + 1) C' (k_sit u (nI i) (nI k)).2) ∧ RS u (k_sit u (nI i) (nI k)).2 := by
  have hb := (J_plan h).1
  have q := q_sit1 h hD (one_nI hb hi) (pole_nI hb hk) (by rw [ixe hb hi]; exact h9) hu
  rw [ixe hb hi] at q
  exact q
theorem q_downN0 (h : J P Z K S D C u) {i : Nat} (hi : i < nPe P) (h9 : S 2 i = -9) : k_down u (nI i) = (-4, u) := by
  have hb := (J_plan h).1
  exact q_down0 h (one_nI hb hi) (by rw [ixe hb hi]; exact h9)
theorem q_downN1 (h : J P Z K S D C u) (hD : D < 40) {i : Nat} (hi : i < nPe P) (h9 : ¬ S 2 i = -9) : (k_down u (nI i)).1 = a_high P (nI i) (S 2 i) ∧ (∃ C', (∀ j, j < D → C' j = C j) ∧ J P Z K (Ts S (sU (S 2) i (-9))) (D + 1) C' (k_down u (nI i)).2) ∧ RS u (k_down u (nI i)).2 := by
  have hb := (J_plan h).1
  have q := q_down1 h hD (one_nI hb hi) (by rw [ixe hb hi]; exact h9)
  rw [ixe hb hi] at q
  exact q
theorem q_laceN1 (h : J P Z K S D C u) (hD : D < 40) {k : Nat} (hk : k < nPl P) (hu : a_isUp P S (nI k) = true) : (k_lace u (nI k)).1 = S 1 k ∧ (∃ C', (∀ j, j < D → C' j = C j) ∧ J P Z K (dWear S k) (D + 1) C' (k_lace u (nI k)).2) ∧ RS u (k_lace u (nI k)).2 := by
  have hb := (J_plan h).1
  have q := q_lace1 h hD (pole_nI hb hk) hu
  rw [ixk hb hk] at q
  exact q
/-- who sits: on the ground, or on a pole that is up -/
theorem seat_k (g : GS P S) {i : Nat} (hi : i < nPe P) : S 2 i = -9 ∨ ∃ k, k < nPl P ∧ S 2 i = nI k ∧ a_isUp P S (nI k) = true := by
  rcases g.2.2.2.1 i hi with q | q
  · exact Or.inl q
  · have hp := up_of_seat q
    have e := ix_nI (isPole_t hp).1
    exact Or.inr ⟨ix (S 2 i), isPole_ix hp, e, by rw [← e]; exact q⟩
theorem seat_neg (g : GS P S) {i : Nat} (hi : i < nPe P) : S 2 i = -9 ↔ S 2 i < 0 := by
  have h4 := (PB_pl g.1).2.1
  constructor
  · intro h; rw [h]; decide
  · intro h
    rcases seat_k g hi with q | ⟨k, hk, e, -⟩
    · exact q
    · rw [e] at h; exact absurd h (nI_pos (by omega))
theorem n9_nI {k : Nat} (hb : PB P) (hk : k < nPl P) : ¬ (-9 : Int32) = nI k := pole_n9 (pole_nI hb hk)
theorem sit_v2 {i k : Nat} (g : GS P S) (hi : i < nPe P) : a_ofOne P (Ts S (sU (S 2) i (nI k))) (nI i) 2 = nI k := by
  rw [one_2 g.1 hi]; exact sU_e _ _ _
theorem sit_v3 {i k : Nat} (g : GS P S) (hi : i < nPe P) : a_ofOne P (Ts S (sU (S 2) i (nI k))) (nI i) 3 = a_high P (nI i) (nI k) := by
  rw [one_3 g.1 hi]
  show a_high P (nI i) (sU (S 2) i (nI k) i) = _
  rw [sU_e]
theorem sit_high {i k : Nat} (g : GS P S) (hn : NV P Z) (hi : i < nPe P) (hk : k < nPl P) : a_high P (nI i) (nI k) = if Z (19 + i) < Z (6 + k) then Z (19 + i) else Z (6 + k) := by
  rw [high_t (one_nI g.1 hi) (pole_nI g.1 hk), ixe g.1 hi, ixk g.1 hk, (hn.2.2.2 i hi).2, (hn.2.2.1 k hk).2.1]
theorem by_e {i k : Nat} (g : GS P S) (hn : NV P Z) (hi : i < nPe P) : a_loadBy P (nI i) (nI k) = Z (14 + i) + a_high P (nI i) (nI k) / 2 := by
  unfold a_loadBy
  rw [if_pos (one_nI g.1 hi), ixe g.1 hi, (hn.2.2.2 i hi).1]
theorem sit_load {i k : Nat} (g : GS P S) (hn : NV P Z) (hi : i < nPe P) (hk : k < nPl P) (h9 : S 2 i = -9) : a_load P (Ts S (sU (S 2) i (nI k))) (nI k) = a_load P S (nI k) + Z (14 + i) + a_high P (nI i) (nI k) / 2 := by
  have q := sum_set (fun a b => if b = nI k then a_loadBy P (nI a) (nI k) else 0) (S 2) (i := i) (nI k) (nPe P) hi
  have n9 : ¬ S 2 i = nI k := fun w => n9_nI g.1 hk (by rw [← w, h9])
  simp only [if_neg n9, Int32.add_zero, if_true] at q
  show LI P (sU (S 2) i (nI k)) (nPe P) (nI k) = _
  unfold LI
  rw [q, by_e g hn hi, ← Int32.add_assoc]; rfl
theorem set_high (g : GS P S) {i : Nat} (hi : i < nPe P) (v : Int32) : a_highAll P (Ts S (sU (S 2) i v)) + a_high P (nI i) (S 2 i) = a_highAll P S + a_high P (nI i) v := sum_set (fun a b => a_high P (nI a) b) (S 2) (i := i) v (nPe P) hi
theorem sit_all {i k : Nat} (g : GS P S) (hi : i < nPe P) (h9 : S 2 i = -9) : a_highAll P (Ts S (sU (S 2) i (nI k))) = a_highAll P S + a_high P (nI i) (nI k) := by
  have q := set_high g hi (nI k)
  rw [h9, high_9, Int32.add_zero] at q
  exact q
theorem seated_b (hb : PB P) (T : PT) : a_seatedPeople P T = a_bits (fun i => !decide (T 2 i = -9)) (nPe P) := by
  unfold a_seatedPeople
  exact a_bits_c _ fun i hi => by
    unfold a_isSeated
    rw [one_nI hb hi, Bool.true_and, ixe hb hi]
theorem sit_people {i k : Nat} (g : GS P S) (hi : i < nPe P) (hk : k < nPl P) : a_seatedPeople P (Ts S (sU (S 2) i (nI k))) = a_seatedPeople P S ||| (1 <<< (nI i &&& 31)) := by
  have h5 := (PB_pe g.1).2.1
  rw [seated_b g.1, seated_b g.1, one_bits h5 hi, or_bits _ _ (by omega)]
  refine a_bits_c _ fun j hj => ?_
  show (!decide (sU (S 2) i (nI k) j = -9)) = _
  by_cases c : j = i
  · rw [c, sU_e, decide_eq_false (fun w => n9_nI g.1 hk w.symm), decide_eq_true (rfl : i = i)]; simp
  · rw [sU_n _ _ c, decide_eq_false c, Bool.or_false]
theorem down_all {i : Nat} (g : GS P S) (hi : i < nPe P) : a_highAll P (Ts S (sU (S 2) i (-9))) = a_highAll P S - a_high P (nI i) (S 2 i) := by
  have q := set_high g hi (-9)
  rw [high_9, Int32.add_zero] at q
  exact i_eqs q
theorem down_people {i : Nat} (g : GS P S) (hi : i < nPe P) : a_seatedPeople P (Ts S (sU (S 2) i (-9))) = a_seatedPeople P S &&& ((1 <<< (nI i &&& 31)) ^^^ -1) := by
  have h5 := (PB_pe g.1).2.1
  rw [seated_b g.1, seated_b g.1, one_bits h5 hi, and_bits _ _ (by omega)]
  refine a_bits_c _ fun j hj => ?_
  rw [has_not _ (by omega), bits_has _ (by omega) hj]
  show (!decide (sU (S 2) i (-9) j = -9)) = _
  by_cases c : j = i
  · rw [c, sU_e, decide_eq_true (rfl : (-9 : Int32) = -9), decide_eq_true (rfl : i = i)]; simp
  · rw [sU_n _ _ c, decide_eq_false c]; simp
theorem down_3 {i : Nat} (g : GS P S) (hi : i < nPe P) : a_ofOne P (Ts S (sU (S 2) i (-9))) (nI i) 3 = 0 := by
  rw [one_3 g.1 hi]
  show a_high P (nI i) (sU (S 2) i (-9) i) = _
  rw [sU_e, high_9]
theorem lace_3 {k : Nat} (hb : PB P) (hk : k < nPl P) : a_ofPole P (dWear S k) (nI k) 3 = 0 := by
  rw [pole_3 hb hk]; exact sU_e _ _ _
theorem and_same (x : Int32) : x &&& x = x := Int32.and_self
theorem or_and_same (x y : Int32) : (x ||| y) &&& x = x := by
  apply Int32.toBitVec_inj.mp
  rw [Int32.toBitVec_and, Int32.toBitVec_or]
  ext j hj
  simp only [BitVec.getElem_and, BitVec.getElem_or]
  cases x.toBitVec[j] <;> cases y.toBitVec[j] <;> rfl
theorem sum_le2 (f h : Nat → Int32) : ∀ n, n ≤ 100 → (∀ i, i < n → 0 ≤ (f i).toInt ∧ (f i).toInt ≤ (h i).toInt ∧ (h i).toInt ≤ 100) → 0 ≤ (a_sum f n).toInt ∧ (a_sum f n).toInt ≤ (a_sum h n).toInt ∧ (a_sum h n).toInt ≤ 100 * (n : Int)
  | 0, _, _ => by rw [a_sum, a_sum, show (0 : Int32).toInt = 0 by decide]; omega
  | n + 1, hn, t => by
    have ih := sum_le2 f h n (by omega) (fun i hi => t i (by omega))
    have q := t n (by omega)
    rw [a_sum, a_sum, add_i (by omega) (by omega), add_i (by omega) (by omega)]
    omega
theorem high_le (g : GS P S) {i : Nat} (hi : i < nPe P) : 0 ≤ (a_high P (nI i) (S 2 i)).toInt ∧ (a_high P (nI i) (S 2 i)).toInt ≤ 9 :=
  high_i g.2.1 (one_nI g.1 hi) (by
    rcases g.2.2.2.1 i hi with q | q
    · exact Or.inl q
    · exact Or.inr (up_of_seat q))
/-- a year brings nobody higher -/
theorem year_high (g : GS P S) : (a_highAll P (dYear P S)).toInt ≤ (a_highAll P S).toInt := by
  have h5 := (PB_pe g.1).2.1
  have k0 : (0 : Int32).toInt = 0 := by decide
  refine (sum_le2 (fun i => a_high P (nI i) (dYear P S 2 i)) (fun i => a_high P (nI i) (S 2 i)) (nPe P) (by omega) fun i hi => ?_).2.1
  have q := high_le g hi
  have e : dYear P S 2 i = -9 ∨ dYear P S 2 i = S 2 i := by
    show y_seat P S (y_gave P S) i = -9 ∨ y_seat P S (y_gave P S) i = S 2 i
    unfold y_seat
    split
    · split
      · exact Or.inl rfl
      · exact Or.inr rfl
    · exact Or.inr rfl
  rcases e with e | e
  · show 0 ≤ (a_high P (nI i) (dYear P S 2 i)).toInt ∧ (a_high P (nI i) (dYear P S 2 i)).toInt ≤ (a_high P (nI i) (S 2 i)).toInt ∧ (a_high P (nI i) (S 2 i)).toInt ≤ 100
    rw [e, high_9, k0]; omega
  · show 0 ≤ (a_high P (nI i) (dYear P S 2 i)).toInt ∧ (a_high P (nI i) (dYear P S 2 i)).toInt ≤ (a_high P (nI i) (S 2 i)).toInt ∧ (a_high P (nI i) (S 2 i)).toInt ≤ 100
    rw [e]; omega
theorem year_high' (g : GS P S) : ¬ a_highAll P S < a_highAll P (dYear P S) := nlt_i (year_high g)
end DV
