/-! level 2: kinds, strengths -/
theorem ref_e {σ μ : Mem} (h : Rl σ μ) {ro : Int32} (hr : a_in ro 6 = true) :
    (a_triF σ (5 + 2 * ix ro) = 0 ∧ (n_ref μ ro).1 = 0 ∧ ¬ μ 2 (ix ro) < 0 ∧ 3 * tNM μ (ix ro) = ix (μ 2 (ix ro))) ∨
    (∃ f : Int32, 1 ≤ f.toInt ∧ f.toInt ≤ 5 ∧ ¬ f = 0 ∧ a_triF σ (5 + 2 * ix ro) = f ∧ n_ref μ ro = (-3, n_found μ f)) := by
  have q := in_ix hr
  have q0 := (in_t hr).1
  rw [show (6 : Int32).toInt = 6 by decide] at q
  have hr6 : ix ro < 6 := by omega
  obtain ⟨e1, e2, e3, e4⟩ := h.2.1.1 (ix ro) hr6
  unfold a_triF n_ref
  rw [e1]
  by_cases c1 : μ 2 (ix ro) < 0
  · rw [if_pos c1, if_pos c1]; exact Or.inr ⟨1, by decide, by decide, by decide, rfl, rfl⟩
  · rw [if_neg c1, if_neg c1]
    by_cases c2 : μ 2 (ix ro) - μ 2 (ix ro) / 3 * 3 = 0
    · rw [if_pos c2, if_pos c2]
      have h3 := tN_3 c1 c2
      have ef : fstN (tri_bad σ (5 + 2 * ix ro)) (triN σ (5 + 2 * ix ro)) = fstN (rt_bad μ (ix ro)) (tNM μ (ix ro)) := by
        rw [tN_e h hr6]; exact fstN_c _ (fun j hj => tri_bad_e h hr6 c1 h3 hj)
      rw [ef, tN_e h hr6]
      by_cases c3 : fstN (rt_bad μ (ix ro)) (tNM μ (ix ro)) = tNM μ (ix ro)
      · rw [if_pos c3, if_pos c3]; exact Or.inl ⟨rfl, rfl, c1, h3⟩
      · rw [if_neg c3, if_neg c3]; exact Or.inr ⟨3, by decide, by decide, by decide, rfl, rfl⟩
    · rw [if_neg c2, if_neg c2]; exact Or.inr ⟨5, by decide, by decide, by decide, rfl, rfl⟩
theorem kinds_e {σ μ : Mem} (h : Rl σ μ) {ro k : Int32} (hr : a_in ro 6 = true) (hk : a_isPole (pM μ) k = true) (h0 : ¬ μ 2 (ix ro) < 0) (h3 : 3 * tNM μ (ix ro) = ix (μ 2 (ix ro))) : a_kindsBy σ (5 + 2 * ix ro) k = b_kindsBy (pM μ) μ k (ix ro) := by
  have q := in_ix hr
  have q0 := (in_t hr).1
  rw [show (6 : Int32).toInt = 6 by decide] at q
  have e := h.1.1.2.2.1 (ix k) (isPole_ix (by rw [pe_isPole h.1.1]; exact hk))
  unfold a_kindsBy b_kindsBy
  exact a_bits_c _ (fun d _ => by
    rw [show σ 36 (ix k) = pM μ 3 (ix k) from e.2.2]
    exact ag_e h (by omega) h0 h3 (show σ 35 (ix k) = pM μ 2 (ix k) from e.2.1))
theorem op_kinds {σ μ : Mem} (h : Rl σ μ) (k ro : Int32) : Ag (k_kinds σ k ro) (n_kinds μ k ro) := by
  unfold k_kinds n_kinds
  rw [pe_isPole h.1.1]
  by_cases hr : a_in ro 6 = true
  · rw [if_pos hr, if_pos hr]
    by_cases hk : a_isPole (pM μ) k = true
    · rw [if_pos hk, if_pos hk]
      rcases ref_e h hr with ⟨a, b, c, d⟩ | ⟨f, f1, f5, f0, a, b⟩
      · rw [if_pos a, if_pos b, kinds_e h hr hk c d]; exact Ag.same h _
      · rw [a, if_neg f0, b, if_neg (show ¬ (-3 : Int32) = 0 by decide)]; exact Ag.found h f1 f5
    · rw [if_neg hk, if_neg hk]; exact Ag.same h _
  · rw [if_neg hr]
    by_cases hk : a_isPole (pM μ) k = true
    · rw [if_pos hk, if_neg hr]; exact Ag.same h _
    · rw [if_neg hk]; exact Ag.same h _
