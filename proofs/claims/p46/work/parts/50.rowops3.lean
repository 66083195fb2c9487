/-! level 2: lay, put, mean, what poles and people are, what is told -/
theorem Rl_tell2 {σ μ τ ν : Mem} (h : Rl τ ν) {v w : Int32} (e : v = w) (hs : σ = mU τ 0 1 v) (hm : μ = mU ν 0 0 w) : Rl σ μ := by rw [hs, hm]; exact Rl_tell h e
theorem op_lay {σ μ : Mem} (h : Rl σ μ) (r i v : Int32) : Ag (k_lay σ r i v) (n_lay μ r i v) := by
  have k0 : (0 : Int32).toInt = 0 := by decide
  unfold k_lay n_lay a_findAt
  by_cases hr : a_in r 6 = true
  · rw [if_pos hr, if_pos hr]
    have q := in_ix hr
    rw [show (6 : Int32).toInt = 6 by decide] at q
    obtain ⟨e1, e2, e3, e4⟩ := h.2.1.1 (ix r) (by omega)
    rw [e1]
    by_cases c1 : μ 2 (ix r) < 0
    · rw [if_pos c1, if_pos c1, if_neg (by decide)]; exact Ag.found h (by decide) (by decide)
    · have d1 := i_nlt c1
      rw [if_neg c1, if_neg c1, ← has_in e1 (by omega) (by omega)]
      by_cases c2 : a_has σ (5 + 2 * ix r) i = true
      · have d2 := has_t c2
        rw [e1] at d2
        have di := ix_toInt d2.1
        rw [if_pos c2, if_pos c2, if_pos rfl]
        refine Ag.same (Rl_tell (σ := m_set σ (5 + 2 * ix r) i v) (μ := mU μ 1 (40 * ix r + ix i) v) ?_ (by unfold a_get; rw [if_pos c2]; exact e4 _ (by omega))) 1
        unfold m_set
        rw [if_pos c2]
        refine Rl_R h (fun q hq => mU_n _ _ _ (by omega)) (fun q hq => mU_n _ _ _ (by omega)) ?_
        refine RlR_row (r := ix r) h.2.1 (by omega) (fun q q1 q2 => mU_n _ _ _ q2) (fun t ht => by rw [mU_n _ _ _ (by decide)]) (fun k hk => by rw [mU_e, if_pos rfl, if_neg (by omega)]) (mU_n _ _ _ (by decide)) (mU_n _ _ _ (by decide)) ?_
        rw [mU_n μ _ _ (show (2 : Nat) ≠ 1 by decide), mU_n σ _ _ (show 5 + 2 * ix r ≠ 5 + 2 * ix r + 1 by omega)]
        refine ⟨e1, e2, e3, fun t ht => ?_⟩
        rw [mU_e, if_pos rfl, mU_e, if_pos rfl]
        by_cases et : t = ix i
        · rw [if_pos et, if_pos (by omega)]
        · rw [if_neg et, if_neg (by omega)]; exact e4 t ht
      · rw [if_neg c2, if_neg c2, if_neg (by decide)]; exact Ag.found h (by decide) (by decide)
  · rw [if_neg hr, if_neg hr]; exact Ag.same h _
theorem op_put {σ μ : Mem} (h : Rl σ μ) (r i v : Int32) : Ag (k_put σ r i v) (n_put μ r i v) := by
  have k0 : (0 : Int32).toInt = 0 := by decide
  unfold k_put n_put a_findAt
  by_cases hr : a_in r 4 = true
  · rw [if_pos hr, if_pos hr]
    have q := in_ix hr
    rw [show (4 : Int32).toInt = 4 by decide] at q
    obtain ⟨e1, e2, e3, e4⟩ := h.2.1.2 (ix r) (by omega)
    rw [e1]
    by_cases c1 : μ 4 (ix r) < 0
    · rw [if_pos c1, if_pos c1, if_neg (by decide)]; exact Ag.found h (by decide) (by decide)
    · have d1 := i_nlt c1
      rw [if_neg c1, if_neg c1, ← has_in e1 (by omega) (by omega)]
      by_cases c2 : a_has σ (17 + 2 * ix r) i = true
      · have d2 := has_t c2
        rw [e1] at d2
        have di := ix_toInt d2.1
        have eg : a_get σ (17 + 2 * ix r) i = μ 3 (60 * ix r + ix i) := by unfold a_get; rw [if_pos c2]; exact e4 _ (by omega)
        rw [if_pos c2, if_pos c2, if_pos rfl, eg]
        refine Ag.same ?_ _
        unfold m_set
        rw [if_pos c2]
        refine Rl_R h (fun q hq => mU_n _ _ _ (by omega)) (fun q hq => mU_n _ _ _ (by omega)) ?_
        refine RlR_txt (r := ix r) h.2.1 (by omega) (fun q q1 q2 => mU_n _ _ _ q2) (fun t ht => by rw [mU_n _ _ _ (by decide)]) (fun k hk => by rw [mU_e, if_pos rfl, if_neg (by omega)]) (mU_n _ _ _ (by decide)) (mU_n _ _ _ (by decide)) ?_
        rw [mU_n μ _ _ (show (4 : Nat) ≠ 3 by decide), mU_n σ _ _ (show 17 + 2 * ix r ≠ 17 + 2 * ix r + 1 by omega)]
        refine ⟨e1, e2, e3, fun t ht => ?_⟩
        rw [mU_e, if_pos rfl, mU_e, if_pos rfl]
        by_cases et : t = ix i
        · rw [if_pos et, if_pos (by omega)]
        · rw [if_neg et, if_neg (by omega)]; exact e4 t ht
      · rw [if_neg c2, if_neg c2, if_neg (by decide)]; exact Ag.found h (by decide) (by decide)
  · rw [if_neg hr, if_neg hr]; exact Ag.same h _
theorem sumL_c {f g : Nat → Int32} : ∀ n, (∀ i, i < n → f i = g i) → sumL f n = sumL g n
  | 0, _ => rfl
  | n + 1, h => by rw [sumL, sumL, sumL_c n (fun i hi => h i (by omega)), h n (by omega)]
theorem get_nI {σ : Mem} {o i : Nat} (h : (i : Int) < (σ o 0).toInt) (h60 : (σ o 0).toInt ≤ 60) : a_get σ o (nI i) = σ (o + 1) i := by
  have e := nI_toInt (n := i) (by omega)
  unfold a_get a_has
  rw [if_pos, ix_of (by omega)]
  simp only [Bool.and_eq_true, Bool.not_eq_true', decide_eq_false_iff_not, decide_eq_true_eq, Int32.lt_iff_toInt_lt, e, show (0 : Int32).toInt = 0 by decide, show (60 : Int32).toInt = 60 by decide]
  omega
theorem op_mean {σ μ : Mem} (h : Rl σ μ) (r : Int32) : Ag (k_mean σ r) (n_mean μ r) := by
  have k0 : (0 : Int32).toInt = 0 := by decide
  unfold k_mean n_mean
  by_cases hr : a_in r 6 = true
  · rw [if_pos hr, if_pos hr]
    have q := in_ix hr
    rw [show (6 : Int32).toInt = 6 by decide] at q
    obtain ⟨e1, e2, e3, e4⟩ := h.2.1.1 (ix r) (by omega)
    rw [e1]
    by_cases c1 : μ 2 (ix r) < 0
    · rw [if_pos c1, if_pos c1]; exact Ag.found h (by decide) (by decide)
    · have d1 := i_nlt c1
      rw [if_neg c1, if_neg c1]
      by_cases c2 : μ 2 (ix r) = 0
      · rw [if_pos c2, if_pos c2]; exact Ag.found h (by decide) (by decide)
      · rw [if_neg c2, if_neg c2]
        have dn := ix_toInt (show 0 ≤ (μ 2 (ix r)).toInt by omega)
        refine Ag.same (Rl_tell h ?_) 1
        rw [sumL_c (ix (μ 2 (ix r))) (fun i hi => (get_nI (by rw [e1]; omega) (by rw [e1]; omega)).trans (e4 i (by omega)))]
  · rw [if_neg hr, if_neg hr]; exact Ag.same h _
theorem op_pole {σ μ : Mem} (h : Rl σ μ) (k what : Int32) : Ag (k_pole σ k what) (n_pole μ k what) := by
  have hp := h.1.1
  have hs := h.2.2.2.1.2.2.1
  unfold k_pole n_pole
  rw [pe_isPole hp]
  by_cases c : a_isPole (pM μ) k = true
  · rw [if_pos c, if_pos c]
    by_cases c1 : what < 0
    · rw [if_pos c1, if_pos c1]; exact Ag.same h _
    · rw [if_neg c1, if_neg c1]
      by_cases c2 : what < 8
      · rw [if_pos c2, if_pos c2]; exact Ag.same (Rl_tell h (pe_ofPole hp hs k what)) 1
      · rw [if_neg c2, if_neg c2]; exact Ag.same h _
  · rw [if_neg c, if_neg c]; exact Ag.same h _
theorem op_one {σ μ : Mem} (h : Rl σ μ) (i what : Int32) : Ag (k_one σ i what) (n_one μ i what) := by
  have hp := h.1.1
  have hs := h.2.2.2.1.2.2.1
  unfold k_one n_one
  rw [pe_isOne hp]
  by_cases c : a_isOne (pM μ) i = true
  · rw [if_pos c, if_pos c]
    by_cases c1 : what < 0
    · rw [if_pos c1, if_pos c1]; exact Ag.same h _
    · rw [if_neg c1, if_neg c1]
      by_cases c2 : what < 4
      · rw [if_pos c2, if_pos c2]; exact Ag.same (Rl_tell h (pe_ofOne hp hs i what)) 1
      · rw [if_neg c2, if_neg c2]; exact Ag.same h _
  · rw [if_neg c, if_neg c]; exact Ag.same h _
