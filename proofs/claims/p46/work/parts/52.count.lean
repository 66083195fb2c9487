/-! level 2: count -/
theorem op_count {σ μ : Mem} (h : Rl σ μ) (what : Int32) : k_count σ what = n_count (pM μ) μ what := by
  have hp := h.1.1
  have hs := h.2.2.2.1.2.2.1
  have e0 : σ 33 0 = pM μ 0 0 := hp.1
  have e1 : σ 33 1 = pM μ 0 1 := hp.2.1
  have e2 : σ 25 0 = μ 0 6 := h.2.2.2.1.1
  have e3 : σ 45 1 = μ 11 10 := hs.2.1
  have e4 : σ 45 0 = μ 11 4 := hs.1
  have e7 : σ 45 2 = μ 11 11 := hs.2.2.1
  have k0 : (0 : Int32).toInt = 0 := by decide
  have k12 : (12 : Int32).toInt = 12 := by decide
  have no : ∀ v : Int32, (what < 0 ∨ 12 ≤ what) → 0 ≤ v.toInt ∧ v.toInt < 12 → ¬ what = v := by
    intro v hw hv e
    subst e
    rcases hw with q | q
    · have := i_lt q; omega
    · have := i_le q; omega
  unfold k_count
  by_cases c1 : what < 0
  · rw [if_pos c1]
    unfold n_count
    rw [if_neg (no 0 (Or.inl c1) (by decide)), if_neg (no 1 (Or.inl c1) (by decide)), if_neg (no 2 (Or.inl c1) (by decide)), if_neg (no 3 (Or.inl c1) (by decide)), if_neg (no 4 (Or.inl c1) (by decide)), if_neg (no 5 (Or.inl c1) (by decide)), if_neg (no 6 (Or.inl c1) (by decide)), if_neg (no 7 (Or.inl c1) (by decide)), if_neg (no 8 (Or.inl c1) (by decide)), if_neg (no 9 (Or.inl c1) (by decide)), if_neg (no 10 (Or.inl c1) (by decide)), if_neg (no 11 (Or.inl c1) (by decide))]
  · rw [if_neg c1]
    by_cases c2 : 12 ≤ what
    · rw [if_pos c2]
      unfold n_count
      rw [if_neg (no 0 (Or.inr c2) (by decide)), if_neg (no 1 (Or.inr c2) (by decide)), if_neg (no 2 (Or.inr c2) (by decide)), if_neg (no 3 (Or.inr c2) (by decide)), if_neg (no 4 (Or.inr c2) (by decide)), if_neg (no 5 (Or.inr c2) (by decide)), if_neg (no 6 (Or.inr c2) (by decide)), if_neg (no 7 (Or.inr c2) (by decide)), if_neg (no 8 (Or.inr c2) (by decide)), if_neg (no 9 (Or.inr c2) (by decide)), if_neg (no 10 (Or.inr c2) (by decide)), if_neg (no 11 (Or.inr c2) (by decide))]
    · rw [if_neg c2]
      have d1 := i_nlt c1
      have d2 := i_nle c2
      unfold a_tally n_count
      rw [e0, e1, e2, e3, e4, e7, up_e h, pe_highAll hp hs, there_r h, there_t h, kept_e h, pe_manyLaced hp, ← b_laced_e]
      by_cases c11 : what = 11
      · rw [if_pos c11]
      · have : what = 0 ∨ what = 1 ∨ what = 2 ∨ what = 3 ∨ what = 4 ∨ what = 5 ∨ what = 6 ∨ what = 7 ∨ what = 8 ∨ what = 9 ∨ what = 10 := by
          have h11 := i_ne c11
          rw [show (11 : Int32).toInt = 11 by decide] at h11
          rcases (show what.toInt = 0 ∨ what.toInt = 1 ∨ what.toInt = 2 ∨ what.toInt = 3 ∨ what.toInt = 4 ∨ what.toInt = 5 ∨ what.toInt = 6 ∨ what.toInt = 7 ∨ what.toInt = 8 ∨ what.toInt = 9 ∨ what.toInt = 10 by omega) with q | q | q | q | q | q | q | q | q | q | q
          · exact Or.inl (i_eqI (q.trans (by decide)))
          · exact Or.inr (Or.inl (i_eqI (q.trans (by decide))))
          · exact Or.inr (Or.inr (Or.inl (i_eqI (q.trans (by decide)))))
          · exact Or.inr (Or.inr (Or.inr (Or.inl (i_eqI (q.trans (by decide))))))
          · exact Or.inr (Or.inr (Or.inr (Or.inr (Or.inl (i_eqI (q.trans (by decide)))))))
          · exact Or.inr (Or.inr (Or.inr (Or.inr (Or.inr (Or.inl (i_eqI (q.trans (by decide))))))))
          · exact Or.inr (Or.inr (Or.inr (Or.inr (Or.inr (Or.inr (Or.inl (i_eqI (q.trans (by decide)))))))))
          · exact Or.inr (Or.inr (Or.inr (Or.inr (Or.inr (Or.inr (Or.inr (Or.inl (i_eqI (q.trans (by decide))))))))))
          · exact Or.inr (Or.inr (Or.inr (Or.inr (Or.inr (Or.inr (Or.inr (Or.inr (Or.inl (i_eqI (q.trans (by decide)))))))))))
          · exact Or.inr (Or.inr (Or.inr (Or.inr (Or.inr (Or.inr (Or.inr (Or.inr (Or.inr (Or.inl (i_eqI (q.trans (by decide))))))))))))
          · exact Or.inr (Or.inr (Or.inr (Or.inr (Or.inr (Or.inr (Or.inr (Or.inr (Or.inr (Or.inr (i_eqI (q.trans (by decide))))))))))))
        rcases this with q | q | q | q | q | q | q | q | q | q | q <;> subst q <;> rfl
