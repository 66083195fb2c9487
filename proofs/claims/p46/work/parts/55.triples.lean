/-! level 2: triples -/
theorem fstN_c {f g : Nat → Bool} : ∀ n, (∀ i, i < n → f i = g i) → fstN f n = fstN g n
  | 0, _ => rfl
  | n + 1, h => by rw [fstN, fstN, fstN_c n (fun i hi => h i (by omega)), h n (by omega)]
theorem fstN_le (f : Nat → Bool) : ∀ n, fstN f n ≤ n
  | 0 => Nat.le_refl _
  | n + 1 => by
    have := fstN_le f n
    rw [fstN]; repeat' split
    all_goals omega
theorem fst_all (f : Nat → Bool) : ∀ n, decide (fstN f n = n) = all_b (fun i => !f i) n
  | 0 => rfl
  | n + 1 => by
    have ih := fst_all f n
    have hl := fstN_le f n
    rw [all_b, ← ih, fstN]
    by_cases c : fstN f n = n
    · rw [if_pos c, decide_eq_true c]
      cases hf : f n with
      | true => simp
      | false => simp
    · rw [if_neg c, decide_eq_false c, decide_eq_false (by omega)]; rfl
theorem all_c {f g : Nat → Bool} : ∀ n, (∀ i, i < n → f i = g i) → all_b f n = all_b g n
  | 0, _ => rfl
  | n + 1, h => by rw [all_b, all_b, all_c n (fun i hi => h i (by omega)), h n (by omega)]
theorem within_in {v m : Int32} {b : Int64} (hb : b.toInt = m.toInt) : a_within v m = b_in v.toInt64 0 b := by
  apply Bool.eq_iff_iff.mpr
  unfold a_within b_in
  simp only [Bool.and_eq_true, Bool.not_eq_true', decide_eq_false_iff_not, decide_eq_true_eq, Int64.lt_iff_toInt_lt, Int32.lt_iff_toInt_lt, Int32.le_iff_toInt_le, Int32.toInt_toInt64, ll_0, hb, show (0 : Int32).toInt = 0 by decide]
  omega
/-- a row of triples of both -/
theorem tri_get {σ μ : Mem} (h : Rl σ μ) {r : Nat} (hr : r < 6) {i : Nat} (hi : (i : Int) < (μ 2 r).toInt) : a_get σ (5 + 2 * r) (nI i) = μ 1 (40 * r + i) := by
  obtain ⟨e1, e2, e3, e4⟩ := h.2.1.1 r hr
  exact (get_nI (by rw [e1]; exact hi) (by rw [e1]; omega)).trans (e4 i hi)
theorem tN_e {σ μ : Mem} (h : Rl σ μ) {r : Nat} (hr : r < 6) : triN σ (5 + 2 * r) = tNM μ r := by
  unfold triN tNM; rw [(h.2.1.1 r hr).1]
theorem tri_bad_e {σ μ : Mem} (h : Rl σ μ) {r : Nat} (hr : r < 6) (h0 : ¬ μ 2 r < 0) (h3 : 3 * tNM μ r = ix (μ 2 r)) {j : Nat} (hj : j < tNM μ r) : tri_bad σ (5 + 2 * r) j = rt_bad μ r j := by
  have d := i_nlt h0
  rw [show (0 : Int32).toInt = 0 by decide] at d
  have di := ix_toInt d
  unfold tri_bad rt_bad
  rw [tri_get h hr (by omega), tri_get h hr (by omega), tri_get h hr (by omega), within_in (b := 20) (by decide), within_in (b := 99) (by decide), within_in (b := 1) (by decide)]
  rfl
theorem ag_e {σ μ : Mem} (h : Rl σ μ) {r : Nat} (hr : r < 6) (h0 : ¬ μ 2 r < 0) (h3 : 3 * tNM μ r = ix (μ 2 r)) {Q : PT} {kind tall strong k : Int32} (ht : tall = Q 2 (ix k)) : a_agrees σ (5 + 2 * r) kind tall strong = b_fits Q μ kind k strong r := by
  have d := i_nlt h0
  rw [show (0 : Int32).toInt = 0 by decide] at d
  have di := ix_toInt d
  unfold a_agrees b_fits
  rw [tN_e h hr, fst_all]
  exact all_c _ (fun j hj => by
    unfold ag_bad ft_ok
    rw [tri_get h hr (by omega), tri_get h hr (by omega), tri_get h hr (by omega), ← ht, Bool.not_not]
    rfl)
