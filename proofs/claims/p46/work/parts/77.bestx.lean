/-! level 2: the class's best as the same tree -/
theorem PR_of {P Q : PT} (h : PEq P Q) (hr : PR Q) : PR P := ⟨fun k hk => by
    have q := h.2.2.1 k hk
    rw [q.1, q.2.1, q.2.2]; exact hr.1 k (by rw [← h.pl]; exact hk), fun i hi => by
    have q := h.2.2.2 i hi
    rw [q.1, q.2]; exact hr.2 i (by rw [← h.pe]; exact hi)⟩
theorem PB_of {P Q : PT} (h : PEq P Q) (hb : PB Q) : PB P := by unfold PB; rw [h.1, h.2.1]; exact hb
theorem sum_mono (f : Nat → Int32) (B : Nat) (hB : B ≤ 100) : ∀ n, n ≤ 100 → (∀ i, i < n → 0 ≤ (f i).toInt ∧ (f i).toInt ≤ (B : Int)) → ∀ m, m ≤ n → (a_sum f m).toInt ≤ (a_sum f n).toInt
  | 0, _, _, m, hm => by rw [show m = 0 by omega]; exact Int.le_refl _
  | n + 1, hn, h, m, hm => by
    have hs := sum_i f B hB n (by omega) (fun i hi => h i (by omega))
    have hq := h n (by omega)
    by_cases e : m = n + 1
    · rw [e]; exact Int.le_refl _
    · have ih := sum_mono f B hB n (by omega) (fun i hi => h i (by omega)) m (by omega)
      have ea : (a_sum f (n + 1)).toInt = (a_sum f n).toInt + (f n).toInt := by rw [a_sum, add_i (by omega) (by omega)]
      omega
/-- loads, heights of a seating's first i -/
def LI (P : PT) (s : Nat → Int32) (i : Nat) (k : Int32) : Int32 := a_sum (fun j => if s j = k then a_loadBy P (nI j) k else 0) i
def HI (P : PT) (s : Nat → Int32) (i : Nat) : Int32 := a_sum (fun j => a_high P (nI j) (s j)) i
theorem LI_c {P : PT} {s t : Nat → Int32} {i : Nat} {k : Int32} (h : ∀ j, j < i → s j = t j) : LI P s i k = LI P t i k := a_sum_c _ fun j hj => by rw [h j hj]
theorem HI_c {P : PT} {s t : Nat → Int32} {i : Nat} (h : ∀ j, j < i → s j = t j) : HI P s i = HI P t i := a_sum_c _ fun j hj => by rw [h j hj]
theorem LI_t {P : PT} (hpb : PB P) (hr : PR P) (s : Nat → Int32) {k : Nat} (hk : k < nPl P) {j : Nat} (hj : j < nPe P) : 0 ≤ (if s j = nI k then a_loadBy P (nI j) (nI k) else 0).toInt ∧ (if s j = nI k then a_loadBy P (nI j) (nI k) else 0).toInt ≤ ((13 : Nat) : Int) := by
  have q := loadBy_i hr (one_nI hpb hj) (Or.inr (pole_nI hpb hk))
  have k0 : (0 : Int32).toInt = 0 := by decide
  split <;> omega
theorem LI_i {P : PT} (hpb : PB P) (hr : PR P) (s : Nat → Int32) {i k : Nat} (hk : k < nPl P) (hi : i ≤ nPe P) : 0 ≤ (LI P s i (nI k)).toInt ∧ (LI P s i (nI k)).toInt ≤ 65 := by
  have h5 := (PB_pe hpb).2.1
  have q := sum_b _ 13 (by decide) i (by omega) (fun j hj => LI_t hpb hr s hk (show j < nPe P by omega))
  unfold LI
  omega
theorem LI_mono {P : PT} (hpb : PB P) (hr : PR P) (s : Nat → Int32) {i k : Nat} (hk : k < nPl P) (hi : i ≤ nPe P) : (LI P s i (nI k)).toInt ≤ (LI P s (nPe P) (nI k)).toInt := by
  have h5 := (PB_pe hpb).2.1
  exact sum_mono _ 13 (by decide) (nPe P) (by omega) (fun j hj => LI_t hpb hr s hk hj) i hi
theorem LI_s (P : PT) (s : Nat → Int32) (i : Nat) (v k : Int32) : LI P (sU s i v) (i + 1) k = LI P s i k + (if v = k then a_loadBy P (nI i) k else 0) := by
  have e : LI P (sU s i v) i k = LI P s i k := LI_c fun j hj => sU_n _ _ (by omega)
  unfold LI at e ⊢
  rw [a_sum, e, sU_e]
theorem HI_s (P : PT) (s : Nat → Int32) (i : Nat) (v : Int32) : HI P (sU s i v) (i + 1) = HI P s i + a_high P (nI i) v := by
  have e : HI P (sU s i v) i = HI P s i := HI_c fun j hj => sU_n _ _ (by omega)
  unfold HI at e ⊢
  rw [a_sum, e, sU_e]
def okS (P S : PT) (s : Nat → Int32) (i : Nat) : Prop := ∀ j, j < i → s j = -9 ∨ a_isUp P S (s j) = true
theorem HI_t {P S : PT} (hpb : PB P) (hr : PR P) {s : Nat → Int32} {i : Nat} (ho : okS P S s i) {j : Nat} (hj : j < nPe P) (hi : j < i) : 0 ≤ (a_high P (nI j) (s j)).toInt ∧ (a_high P (nI j) (s j)).toInt ≤ ((9 : Nat) : Int) := by
  have q := high_i hr (one_nI hpb hj) (k := s j) (by
    rcases ho j hi with q | q
    · exact Or.inl q
    · exact Or.inr (up_of_seat q))
  omega
theorem HI_i {P S : PT} (hpb : PB P) (hr : PR P) {s : Nat → Int32} {i : Nat} (hi : i ≤ nPe P) (ho : okS P S s i) : 0 ≤ (HI P s i).toInt ∧ (HI P s i).toInt ≤ 45 := by
  have h5 := (PB_pe hpb).2.1
  have q := sum_b _ 9 (by decide) i (by omega) (fun j hj => HI_t hpb hr ho (show j < nPe P by omega) hj)
  unfold HI
  omega
theorem spare_i {P S : PT} (hpb : PB P) (hr : PR P) (hw : WR P S) {k : Nat} (hk : k < nPl P) : 0 ≤ (s_spare P S k).toInt ∧ (s_spare P S k).toInt ≤ 100 := by
  unfold s_spare
  split
  · exact bears_i hr hw (pole_nI hpb hk)
  · decide
theorem spare_up {P S : PT} {k : Nat} (h : 0 < (s_spare P S k).toInt) : a_isUp P S (nI k) = true ∧ s_spare P S k = a_bearsNow P S (nI k) := by
  unfold s_spare at h ⊢
  by_cases c : a_isUp P S (nI k) = true
  · rw [if_pos c]; exact ⟨c, rfl⟩
  · rw [if_neg c] at h; exact absurd h (by decide)
theorem fail_iff {P S : PT} (hpb : PB P) (s : Nat → Int32) : b_fail P (Ts S s) = 0 ↔ ∀ k, k < nPl P → a_isUp P S (nI k) = true → LI P s (nPe P) (nI k) ≤ a_bearsNow P S (nI k) := by
  have h4 := (PB_pl hpb).2.1
  have eu : ∀ k, a_isUp P (Ts S s) k = a_isUp P S k := fun k => a_isUp_c rfl
  have eb : ∀ k, a_bearsNow P (Ts S s) k = a_bearsNow P S k := fun k => a_bearsNow_c rfl
  have el : ∀ k, a_load P (Ts S s) k = LI P s (nPe P) k := fun k => rfl
  have e : b_fail P (Ts S s) = nI (cN (fun k => a_isUp P S (nI k) && !decide (LI P s (nPe P) (nI k) ≤ a_bearsNow P S (nI k))) (nPl P)) := by
    rw [← sum_cN]
    unfold b_fail
    exact a_sum_c _ (fun k _ => by
      rw [eu, eb, el]
      cases a_isUp P S (nI k) with
      | false => simp
      | true =>
        by_cases c : LI P s (nPe P) (nI k) ≤ a_bearsNow P S (nI k)
        · simp [c]
        · simp [c])
  have hl := cN_le (fun k => a_isUp P S (nI k) && !decide (LI P s (nPe P) (nI k) ≤ a_bearsNow P S (nI k))) (nPl P)
  rw [e]
  constructor
  · intro h k hk hu
    have z := i_eq h
    rw [nI_toInt (by omega), show (0 : Int32).toInt = 0 by decide] at z
    have hz : cN (fun k => a_isUp P S (nI k) && !decide (LI P s (nPe P) (nI k) ≤ a_bearsNow P S (nI k))) (nPl P) = 0 := by omega
    have q := cN_0 _ (nPl P) hz k hk
    rw [hu, Bool.true_and] at q
    by_cases c : LI P s (nPe P) (nI k) ≤ a_bearsNow P S (nI k)
    · exact c
    · rw [decide_eq_false c] at q; cases q
  · intro h
    have z : ∀ n, n ≤ nPl P → cN (fun k => a_isUp P S (nI k) && !decide (LI P s (nPe P) (nI k) ≤ a_bearsNow P S (nI k))) n = 0 := by
      intro n
      induction n with
      | zero => intro _; rfl
      | succ n ih =>
        intro hn
        rw [cN, ih (by omega)]
        cases c : a_isUp P S (nI n) with
        | false => rfl
        | true => rw [decide_eq_true (h n (by omega) c)]; rfl
    rw [z _ (Nat.le_refl _)]; rfl
/-- hopes -/
theorem hm_ge (P : PT) (sp : Nat → Int32) (i : Nat) : ∀ n k, k < n → 0 < sp k → (a_high P (nI i) (nI k)).toInt ≤ (s_hm P sp i n).toInt
  | 0, k, hk, _ => absurd hk (Nat.not_lt_zero _)
  | n + 1, k, hk, h0 => by
    rw [s_hm]
    by_cases e : k = n
    · subst e
      rw [if_pos h0, imax_i]
      split <;> omega
    · have ih := hm_ge P sp i n k (by omega) h0
      split
      · rw [imax_i]; split <;> omega
      · exact ih
theorem hm_i {P : PT} (hpb : PB P) (hr : PR P) (sp : Nat → Int32) {i : Nat} (hi : i < nPe P) : ∀ n, n ≤ nPl P → 0 ≤ (s_hm P sp i n).toInt ∧ (s_hm P sp i n).toInt ≤ 9
  | 0, _ => by rw [s_hm]; decide
  | n + 1, hn => by
    have ih := hm_i hpb hr sp hi n (by omega)
    have q := high_i hr (one_nI hpb hi) (k := nI n) (Or.inr (pole_nI hpb (by omega)))
    rw [s_hm]
    split
    · rw [imax_i]; split <;> omega
    · exact ih
theorem hv_i {P : PT} (hpb : PB P) (hr : PR P) (sp : Nat → Int32) : ∀ c, c ≤ nPe P → 0 ≤ (s_hv P sp (nPe P) c).toInt ∧ (s_hv P sp (nPe P) c).toInt ≤ 9 * (c : Int) ∧ (∀ c', c = c' + 1 → (s_hv P sp (nPe P) c).toInt = (s_hv P sp (nPe P) c').toInt + (s_hm P sp (nPe P - c' - 1) (nPl P)).toInt)
  | 0, _ => by rw [s_hv]; exact ⟨by decide, by decide, fun c' e => by omega⟩
  | c + 1, hc => by
    have h5 := (PB_pe hpb).2.1
    have ih := hv_i hpb hr sp c (by omega)
    have q := hm_i hpb hr sp (i := nPe P - c - 1) (by omega) (nPl P) (Nat.le_refl _)
    have e : (s_hv P sp (nPe P) (c + 1)).toInt = (s_hv P sp (nPe P) c).toInt + (s_hm P sp (nPe P - c - 1) (nPl P)).toInt := by rw [s_hv, add_i (by omega) (by omega)]
    refine ⟨by omega, by omega, fun c' e' => ?_⟩
    rw [show c' = c by omega]; exact e
/-- no seating is higher than hoped -/
theorem hope_ge {P S : PT} (hpb : PB P) (hr : PR P) {sp : Nat → Int32} {s : Nat → Int32} (ho : okS P S s (nPe P)) (hs : ∀ j, j < nPe P → ∀ k, k < nPl P → s j = nI k → 0 < sp k) {i : Nat} : ∀ c, c ≤ nPe P → (HI P s (nPe P)).toInt ≤ (HI P s (nPe P - c)).toInt + (s_hv P sp (nPe P) c).toInt
  | 0, _ => by rw [s_hv, Nat.sub_zero, show (0 : Int32).toInt = 0 by decide]; omega
  | c + 1, hc => by
    have h5 := (PB_pe hpb).2.1
    have ih := hope_ge hpb hr ho hs (i := i) c (by omega)
    have hv := (hv_i hpb hr sp (c + 1) hc).2.2 c rfl
    have hj : nPe P - c - 1 < nPe P := by omega
    have ho1 : okS P S s (nPe P - (c + 1)) := fun j hj => ho j (by omega)
    have h1 := HI_i hpb hr (by omega) ho1
    have h2 := HI_t hpb hr ho (j := nPe P - c - 1) hj hj
    have e : (HI P s (nPe P - c)).toInt = (HI P s (nPe P - (c + 1))).toInt + (a_high P (nI (nPe P - c - 1)) (s (nPe P - c - 1))).toInt := by
      have e1 : nPe P - c = (nPe P - (c + 1)) + 1 := by omega
      have e2 : nPe P - c - 1 = nPe P - (c + 1) := by omega
      rw [e2] at h2 ⊢
      rw [e1]
      show (a_sum (fun j => a_high P (nI j) (s j)) (nPe P - (c + 1) + 1)).toInt = _
      rw [a_sum]
      exact add_i (by have : (HI P s (nPe P - (c + 1))).toInt ≤ 45 := h1.2; show -100000 ≤ (HI P s (nPe P - (c + 1))).toInt ∧ (HI P s (nPe P - (c + 1))).toInt ≤ 100000; omega) (by omega)
    have hm : (a_high P (nI (nPe P - c - 1)) (s (nPe P - c - 1))).toInt ≤ (s_hm P sp (nPe P - c - 1) (nPl P)).toInt := by
      rcases ho (nPe P - c - 1) hj with q | q
      · rw [q, high_9]; exact (hm_i hpb hr sp hj _ (Nat.le_refl _)).1
      · have hk := up_of_seat q
        have hk2 := ix_nI (isPole_t hk).1
        rw [hk2]
        exact hm_ge P sp _ _ _ (isPole_ix hk) (hs _ hj _ (isPole_ix hk) hk2)
    omega
