/-! level 2: texts, places of rows -/
theorem op_text {σ μ : Mem} (h : Rl σ μ) (r n : Int32) : Ag (k_text σ r n) (n_text μ r n) := by
  have k60 : (60 : Int32).toInt = 60 := by decide
  have k0 : (0 : Int32).toInt = 0 := by decide
  unfold k_text n_text x_begin
  by_cases hr : a_in r 4 = true
  · rw [if_pos hr, if_pos hr]
    by_cases c1 : 60 < n
    · rw [if_pos c1, if_pos c1]; exact Ag.same h _
    · rw [if_neg c1, if_neg c1]
      by_cases c2 : n < 0
      · rw [if_pos c2, if_pos c2]; exact Ag.found h (by decide) (by decide)
      · rw [if_neg c2, if_neg c2]
        have d1 := i_nlt c1
        have d2 := i_nlt c2
        have q := in_ix hr
        rw [show (4 : Int32).toInt = 4 by decide] at q
        have hn := ix_toInt (show 0 ≤ n.toInt by omega)
        have em : imin n 60 = n := imin_l (by omega)
        refine Ag.same (Rl_R h (fun q hq => m_fill_n _ _ _ _ (by omega) (by omega)) (fun q hq => by rw [mG_n _ _ _ _ (by omega), mU_n _ _ _ (by omega)]) ?_) n
        refine RlR_txt (r := ix r) h.2.1 (by omega) (fun q q1 q2 => m_fill_n _ _ _ _ q1 q2) (fun t ht => ?_) (fun k hk => ?_) ?_ ?_ ?_
        · rw [mG_n _ _ _ _ (by decide), mU_e, if_pos rfl, if_neg ht]
        · rw [mG_e, if_pos rfl, if_neg hk, mU_n _ _ _ (by decide)]
        · rw [mG_n _ _ _ _ (by decide), mU_n _ _ _ (by decide)]
        · rw [mG_n _ _ _ _ (by decide), mU_n _ _ _ (by decide)]
        · have e2 : mG (mU μ 4 (ix r) n) 3 (60 * ix r) 60 (fun _ => 32) 4 (ix r) = n := by rw [mG_n _ _ _ _ (by decide), mU_e, if_pos rfl, if_pos rfl]
          rw [e2]
          refine ⟨?_, by omega, by omega, fun i hi => ?_⟩
          · unfold m_fill; rw [mF_n _ _ _ (by omega), mU_e, if_pos rfl, if_pos rfl, em]
          · unfold m_fill
            rw [mF_e, if_pos rfl, em, if_pos (by omega), mG_e, if_pos rfl, if_pos (by omega)]
  · rw [if_neg hr, if_neg hr]; exact Ag.same h _
/-- a place that is there, said both ways -/
theorem has_in {σ : Mem} {o : Nat} {i s : Int32} (e : σ o 0 = s) (h0 : 0 ≤ s.toInt) (h60 : s.toInt ≤ 60) : a_has σ o i = b_in i.toInt64 0 (s - 1).toInt64 := by
  apply Bool.eq_iff_iff.mpr
  unfold a_has b_in
  simp only [Bool.and_eq_true, Bool.not_eq_true', decide_eq_false_iff_not, decide_eq_true_eq, Int64.lt_iff_toInt_lt, Int32.lt_iff_toInt_lt, Int32.toInt_toInt64, ll_0, sub1_i h0, e, show (0 : Int32).toInt = 0 by decide, show (60 : Int32).toInt = 60 by decide]
  omega
theorem op_at {σ μ : Mem} (h : Rl σ μ) (r i : Int32) : Ag (k_at σ r i) (n_at μ r i) := by
  have k0 : (0 : Int32).toInt = 0 := by decide
  unfold k_at n_at a_findAt
  by_cases hr : a_in r 6 = true
  · rw [if_pos hr, if_pos hr]
    have q := in_ix hr
    rw [show (6 : Int32).toInt = 6 by decide] at q
    obtain ⟨e1, e2, e3, e4⟩ := h.2.1.1 (ix r) (by omega)
    rw [e1]
    by_cases c1 : μ 2 (ix r) < 0
    · rw [if_pos c1, if_pos c1, if_neg (by decide)]; exact Ag.found h (by decide) (by decide)
    · have d1 := i_nlt c1
      rw [if_neg c1, if_neg c1, ← has_in e1 (by omega) (by omega)]
      by_cases c2 : a_has σ (5 + 2 * ix r) i = true
      · have d2 := has_t c2
        rw [e1] at d2
        have di := ix_toInt d2.1
        rw [if_pos c2, if_pos c2, if_pos rfl]
        exact Ag.same (Rl_tell h (by unfold a_get; rw [if_pos c2]; exact e4 _ (by omega))) 1
      · rw [if_neg c2, if_neg c2, if_neg (by decide)]; exact Ag.found h (by decide) (by decide)
  · rw [if_neg hr, if_neg hr]; exact Ag.same h _
theorem op_tear {σ μ : Mem} (h : Rl σ μ) (r : Int32) : Ag (k_tear σ r) (n_tear μ r) := by
  have k0 : (0 : Int32).toInt = 0 := by decide
  unfold k_tear n_tear
  by_cases hr : a_in r 6 = true
  · rw [if_pos hr, if_pos hr]
    have q := in_ix hr
    rw [show (6 : Int32).toInt = 6 by decide] at q
    obtain ⟨e1, e2, e3, e4⟩ := h.2.1.1 (ix r) (by omega)
    rw [e1]
    by_cases c1 : μ 2 (ix r) < 0
    · rw [if_pos c1, if_pos c1]; exact Ag.found h (by decide) (by decide)
    · rw [if_neg c1, if_neg c1]
      refine Ag.same (Rl_R h (fun q hq => mU_n _ _ _ (by omega)) (fun q hq => mU_n _ _ _ (by omega)) ?_) 1
      refine RlR_row (r := ix r) h.2.1 (by omega) (fun q q1 q2 => mU_n _ _ _ q1) (fun t ht => ?_) (fun k hk => ?_) (mU_n _ _ _ (by decide)) (mU_n _ _ _ (by decide)) ?_
      · rw [mU_e, if_pos rfl, if_neg ht]
      · rw [mU_n _ _ _ (by decide)]
      · have em : mU μ 2 (ix r) (-1) 2 (ix r) = -1 := by rw [mU_e, if_pos rfl, if_pos rfl]
        rw [em, show (-1 : Int32).toInt = -1 by decide]
        exact ⟨by rw [mU_e, if_pos rfl, if_pos rfl], by omega, by omega, fun i hi => by omega⟩
  · rw [if_neg hr, if_neg hr]; exact Ag.same h _
