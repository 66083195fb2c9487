/-! level 2: test -/
theorem hold_te (P S : PT) (k poss load : Int32) : a_manyHold P S k poss load = nI (cN (fun d => b_has poss (nI d) && decide (load ≤ a_bearsAs P S k (nI d))) 6) := by
  rw [← sum_cN]
  unfold a_manyHold
  exact a_sum_c _ (fun d _ => by
    unfold b_has
    by_cases c : (poss >>> (nI d &&& 31)) &&& 1 = 1
    · by_cases e : load ≤ a_bearsAs P S k (nI d)
      · rw [if_pos ⟨c, e⟩, decide_eq_true c, decide_eq_true e]; rfl
      · rw [if_neg (fun q => e q.2), decide_eq_false e, Bool.and_false]; rfl
    · rw [if_neg (fun q => c q.1), decide_eq_false c, Bool.false_and]; rfl)
theorem hold_tt {μ : Mem} {k : Int32} (hk : a_isPole (pM μ) k = true) (poss load : Int32) : tt_hold (pM μ) μ k poss load = a_manyHold (pM μ) (sM μ 11) k poss load := by
  unfold tt_hold a_manyHold
  exact a_sum_c _ (fun d _ => by
    have e : a_bearsAs (pM μ) (sM μ 11) k (nI d) = a_bearing (nI d) (pM μ 2 (ix k)) (pM μ 3 (ix k)) (μ 11 (ix k)) := by unfold a_bearsAs; rw [if_pos hk]; rfl
    rw [e]
    unfold b_has
    by_cases c : (poss >>> (nI d &&& 31)) &&& 1 = 1
    · rw [decide_eq_true c, if_pos rfl]
      by_cases w : a_bearing (nI d) (pM μ 2 (ix k)) (pM μ 3 (ix k)) (μ 11 (ix k)) < load
      · rw [if_pos w, if_neg (fun q => u_le q.2 w)]
      · rw [if_neg w, if_pos ⟨c, by rw [i_leN]; exact w⟩]
    · rw [decide_eq_false c, if_neg (by decide), if_neg (fun q => c q.1)])
theorem part_i {P S : PT} {k poss : Int32} {j B : Nat} (hB : a_pop poss = nI B) (h6 : B ≤ 6) : (te_part P S k poss j).toInt ≤ 6 := by
  have hA := cN_le (fun d => b_has poss (nI d) && decide (nI j ≤ a_bearsAs P S k (nI d))) 6
  unfold te_part
  rw [hold_te, hB]
  generalize cN (fun d => b_has poss (nI d) && decide (nI j ≤ a_bearsAs P S k (nI d))) 6 = A at hA
  have e1 : (nI A).toInt = (A : Int) := nI_toInt (by omega)
  have e2 : (nI B).toInt = (B : Int) := nI_toInt (by omega)
  have e3 : (nI B - nI A).toInt = (B : Int) - (A : Int) := by rw [sub_i ⟨by omega, by omega⟩ ⟨by omega, by omega⟩, e1, e2]
  rw [imax_i, e1, e3]
  split <;> omega
theorem part_e {μ : Mem} {k poss : Int32} (hk : a_isPole (pM μ) k = true) {j B : Nat} (hB : a_pop poss = nI B) (hc : b_cnt 33 poss = nI B) (h6 : B ≤ 6) : tt_part (pM μ) μ k poss j = te_part (pM μ) (sM μ 11) k poss j := by
  unfold tt_part te_part
  rw [hold_tt hk, hc, hB]
  unfold imax
  generalize a_manyHold (pM μ) (sM μ 11) k poss (nI j) = A
  by_cases c : A < nI B - A
  · have d := i_lt c
    rw [if_pos c, if_neg (fun q => by have := i_lt q; omega)]
  · have d := i_nlt c
    rw [if_neg c]
    by_cases e : nI B - A < A
    · rw [if_pos e]
    · have d2 := i_nlt e
      rw [if_neg e]; exact i_eqI (by omega)
theorem least_te {f g : Nat → Int32} (h : ∀ j, j < 100 → f j = g j) (h6 : ∀ j, j < 100 → (g j).toInt ≤ 6) : ∀ n, n < 100 → te_least g (n + 1) = tt_least f (n + 1) ∧ te_first g (n + 1) = tt_best f (n + 1)
  | 0, _ => by
    have e := h 0 (by decide)
    have q := h6 0 (by decide)
    have c1 : g 0 < 7 := i_ltI (by rw [show (7 : Int32).toInt = 7 by decide]; omega)
    have c2 : g 0 < 1000000 := i_ltI (by rw [show (1000000 : Int32).toInt = 1000000 by decide]; omega)
    rw [te_least, te_least, tt_least, tt_least, te_first, tt_best, te_least, tt_least, e, if_pos c1, if_pos c2, if_pos c1, if_pos c2]
    exact ⟨rfl, rfl⟩
  | n + 1, hn => by
    obtain ⟨a, b⟩ := least_te h h6 n (by omega)
    rw [te_least, tt_least, te_first, tt_best, a, b, h (n + 1) hn]
    exact ⟨rfl, rfl⟩
theorem op_test {σ μ : Mem} (h : Rl σ μ) (k ro : Int32) : Ag (k_test σ k ro) (n_test μ k ro) := by
  have hp := h.1.1
  have hs := h.2.2.2.1.2.2.1
  unfold k_test n_test
  rw [pe_isPole hp]
  by_cases hr : a_in ro 6 = true
  · rw [if_pos hr, if_pos hr]
    by_cases hk : a_isPole (pM μ) k = true
    · rw [if_pos hk, if_pos hk]
      rcases ref_e h hr with ⟨a, b, c, d⟩ | ⟨f, f1, f5, f0, a, b⟩
      · rw [if_pos a, if_pos b, kinds_e h hr hk c d]
        by_cases z : b_kindsBy (pM μ) μ k (ix ro) = 0
        · rw [if_pos z, if_pos z]; exact Ag.same h _
        · rw [if_neg z, if_neg z]
          have hv : ∃ v, v < 64 ∧ b_kindsBy (pM μ) μ k (ix ro) = nI v ∧ ∃ B, B ≤ 6 ∧ a_pop (nI v) = nI B := by
            unfold b_kindsBy
            rw [bits_nb _ 6 (by decide)]
            refine ⟨_, nb_lt _ 6, rfl, _, cN_le _ 6, pop_nb _ 6 (by decide)⟩
          obtain ⟨v, v64, ev, B, hB6, hB⟩ := hv
          rw [ev]
          have hc : b_cnt 33 (nI v) = nI B := (pop_e v64).trans hB
          have e1 : ∀ j, te_part (vP σ 33) (vS σ 45) k (nI v) j = te_part (pM μ) (sM μ 11) k (nI v) j := fun j => by
            unfold te_part; rw [pe_manyHold hp hs]
          have e2 : ∀ j, j < 100 → tt_part (pM μ) μ k (nI v) j = te_part (vP σ 33) (vS σ 45) k (nI v) j := fun j _ => by rw [part_e hk hB hc hB6, e1]
          have e3 : ∀ j, j < 100 → (te_part (vP σ 33) (vS σ 45) k (nI v) j).toInt ≤ 6 := fun j _ => part_i hB hB6
          obtain ⟨u1, u2⟩ := least_te e2 e3 99 (by decide)
          rw [← u2]
          exact Ag.same (Rl_tell h u1) _
      · rw [a, if_neg f0, b, if_neg (show ¬ (-3 : Int32) = 0 by decide)]; exact Ag.found h f1 f5
    · rw [if_neg hk, if_neg hk]; exact Ag.same h _
  · rw [if_neg hr]
    by_cases hk : a_isPole (pM μ) k = true
    · rw [if_pos hk, if_neg hr]; exact Ag.same h _
    · rw [if_neg hk]; exact Ag.same h _
