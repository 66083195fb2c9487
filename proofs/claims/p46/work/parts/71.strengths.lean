/-! level 2: strengths, test -/
theorem cN_st (f : Nat → Bool) : ∀ n, n ≤ 100 → a_count f n = nI (cN f n)
  | 0, _ => rfl
  | n + 1, hn => by
    rw [a_count, cN, cN_st f n (by omega)]
    split
    · rw [nI_1]
    · rw [Nat.add_zero]
theorem cN_sg (f : Nat → Bool) : ∀ n, n ≤ 100 → sg_many f n = nI (cN f n)
  | 0, _ => rfl
  | n + 1, hn => by
    rw [sg_many, cN, cN_sg f n (by omega)]
    split
    · rw [nI_1]
    · rw [Int32.add_zero, Nat.add_zero]
theorem cN_sh (f : Nat → Bool) : ∀ n, cN f (n + 1) = (if f 0 = true then 1 else 0) + cN (fun j => f (j + 1)) n
  | 0 => by rw [cN, cN, cN]; omega
  | n + 1 => by rw [cN, cN_sh f n, cN]; omega
theorem cN_rev (f : Nat → Bool) : ∀ n, cN (fun j => f (n - 1 - j)) n = cN f n
  | 0 => rfl
  | n + 1 => by
    rw [cN_sh, cN]
    have e : cN (fun j => f (n + 1 - 1 - (j + 1))) n = cN (fun j => f (n - 1 - j)) n := cN_c _ fun j _ => by rw [show n + 1 - 1 - (j + 1) = n - 1 - j by omega]
    rw [e, cN_rev f n, show n + 1 - 1 - 0 = n by omega]; omega
theorem cN_0 (f : Nat → Bool) : ∀ n, cN f n = 0 → ∀ j, j < n → f j = false
  | 0, _, j, hj => absurd hj (Nat.not_lt_zero _)
  | n + 1, h, j, hj => by
    rw [cN] at h
    by_cases c : f n = true
    · rw [if_pos c] at h; omega
    · by_cases e : j = n
      · rw [e]; exact Bool.eq_false_iff.mpr c
      · exact cN_0 f n (by omega) j (by omega)
/-- the least of them -/
theorem least_st (f : Nat → Bool) : ∀ n, n ≤ 100 → (st_least f n = -9 ∧ ∀ j, j < n → f j = false) ∨ ∃ m, m < n ∧ f m = true ∧ (∀ j, j < m → f j = false) ∧ st_least f n = nI m
  | 0, _ => Or.inl ⟨rfl, fun j hj => absurd hj (Nat.not_lt_zero _)⟩
  | n + 1, hn => by
    rw [st_least]
    rcases least_st f n (by omega) with ⟨a, b⟩ | ⟨m, m1, m2, m3, m4⟩
    · by_cases c : f n = true
      · rw [if_pos c, if_pos a]; exact Or.inr ⟨n, by omega, c, b, rfl⟩
      · rw [if_neg c]
        refine Or.inl ⟨a, fun j hj => ?_⟩
        by_cases e : j = n
        · rw [e]; exact Bool.eq_false_iff.mpr c
        · exact b j (by omega)
    · right
      refine ⟨m, by omega, m2, m3, ?_⟩
      have n9 : ¬ st_least f n = -9 := fun q => by
        rw [m4] at q
        have := i_eq q
        rw [nI_toInt (by omega), show (-9 : Int32).toInt = -9 by decide] at this
        omega
      by_cases c : f n = true
      · rw [if_pos c, if_neg n9]; exact m4
      · rw [if_neg c]; exact m4
theorem least_sg (f : Nat → Bool) : ∀ n, n ≤ 61 → (sg_least f n = 0 ∧ ∀ j, j < n → f j = false) ∨ ∃ m, m < n ∧ f m = true ∧ (∀ j, m < j → j < n → f j = false) ∧ sg_least f n = nI (60 - m)
  | 0, _ => Or.inl ⟨rfl, fun j hj => absurd hj (Nat.not_lt_zero _)⟩
  | n + 1, hn => by
    rw [sg_least]
    by_cases c : f n = true
    · rw [if_pos c]; exact Or.inr ⟨n, by omega, c, fun j h1 h2 => by omega, rfl⟩
    · rw [if_neg c]
      have cf := Bool.eq_false_iff.mpr c
      rcases least_sg f n (by omega) with ⟨a, b⟩ | ⟨m, m1, m2, m3, m4⟩
      · refine Or.inl ⟨a, fun j hj => ?_⟩
        by_cases e : j = n
        · rw [e]; exact cf
        · exact b j (by omega)
      · refine Or.inr ⟨m, by omega, m2, fun j h1 h2 => ?_, m4⟩
        by_cases e : j = n
        · rw [e]; exact cf
        · exact m3 j h1 (by omega)
theorem strength_e {f g : Nat → Bool} (h : ∀ j, j < 61 → g j = f (60 - j)) : a_count f 61 = sg_many g 61 ∧ (¬ a_count f 61 = 0 → st_least f 61 = sg_least g 61) := by
  have e : cN g 61 = cN f 61 := by
    rw [← cN_rev f 61]
    exact cN_c 61 fun j hj => h j hj
  refine ⟨by rw [cN_st f 61 (by decide), cN_sg g 61 (by decide), e], fun hn => ?_⟩
  rcases least_st f 61 (by decide) with ⟨a, b⟩ | ⟨m, m1, m2, m3, m4⟩
  · exfalso
    apply hn
    rw [cN_st f 61 (by decide)]
    have : cN f 61 = 0 := by
      have q : ∀ n, n ≤ 61 → cN f n = 0 := by
        intro n
        induction n with
        | zero => intro _; rfl
        | succ n ih => intro hn; rw [cN, ih (by omega), b n (by omega)]; rfl
      exact q 61 (Nat.le_refl _)
    rw [this]; rfl
  · rcases least_sg g 61 (by decide) with ⟨a, b⟩ | ⟨w, w1, w2, w3, w4⟩
    · have q := b (60 - m) (by omega)
      rw [h _ (by omega), show 60 - (60 - m) = m by omega, m2] at q
      cases q
    · rw [m4, w4]
      congr 1
      rw [h _ w1] at w2
      have q1 : ¬ 60 - w < m := fun q => by have := m3 _ q; rw [w2] at this; cases this
      have q2 : ¬ w < 60 - m := fun q => by
        have := w3 (60 - m) q (by omega)
        rw [h _ (by omega), show 60 - (60 - m) = m by omega, m2] at this
        cases this
      omega
theorem op_strengths {σ μ : Mem} (h : Rl σ μ) (k ro : Int32) : Ag (k_strengths σ k ro) (n_str μ k ro) := by
  unfold k_strengths n_str
  rw [pe_isPole h.1.1]
  by_cases hr : a_in ro 6 = true
  · rw [if_pos hr, if_pos hr]
    by_cases hk : a_isPole (pM μ) k = true
    · rw [if_pos hk, if_pos hk]
      rcases ref_e h hr with ⟨a, b, c, d⟩ | ⟨f, f1, f5, f0, a, b⟩
      · rw [if_pos a, if_pos b]
        have q := in_ix hr
        have q0 := (in_t hr).1
        rw [show (6 : Int32).toInt = 6 by decide] at q
        have e := h.1.1.2.2.1 (ix k) (isPole_ix (by rw [pe_isPole h.1.1]; exact hk))
        have se : ∀ j, j < 61 → sg_f (pM μ) μ k (ix ro) j = st_f σ (5 + 2 * ix ro) k (60 - j) := fun j _ => by
          unfold sg_f st_f
          rw [show σ 34 (ix k) = pM μ 1 (ix k) from e.1]
          exact (ag_e h (by omega) c d (show σ 35 (ix k) = pM μ 2 (ix k) from e.2.1)).symm
        obtain ⟨s1, s2⟩ := strength_e se
        rw [← s1]
        by_cases z : a_count (st_f σ (5 + 2 * ix ro) k) 61 = 0
        · rw [if_pos z, if_pos z]; exact Ag.same h _
        · rw [if_neg z, if_neg z]
          exact Ag.same (Rl_tell h (s2 z)) _
      · rw [a, if_neg f0, b, if_neg (show ¬ (-3 : Int32) = 0 by decide)]; exact Ag.found h f1 f5
    · rw [if_neg hk, if_neg hk]; exact Ag.same h _
  · rw [if_neg hr]
    by_cases hk : a_isPole (pM μ) k = true
    · rw [if_pos hk, if_neg hr]; exact Ag.same h _
    · rw [if_neg hk]; exact Ag.same h _
