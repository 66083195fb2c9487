/-! level 2: lots -/
theorem lot_step {σ μ : Mem} (h : Rl σ μ) (h0 : ¬ μ 0 4 = 0) (h6 : (μ 0 6).toInt < 40) {x : Int32} (hx : 0 ≤ x.toInt) : Rl (k_do σ (a_byLot σ x)).2 (w_lot (pM μ) μ x) := by
  have hp := h.1.1
  have hs := h.2.2.2.1.2.2.1
  have hpb := h.1.2.1
  have n6 : ¬ μ 0 6 = 40 := fun q => by rw [q] at h6; exact absurd h6 (by decide)
  have hpe : 0 < nPe (pM μ) := h.1.2.2.2 h0
  have hpl : 0 < nPl (pM μ) := by
    have q := (PB_pl hpb).2.2
    have e := i_ne h0
    have e2 : (pM μ 0 0).toInt = (μ 0 4).toInt := rfl
    rw [show (0 : Int32).toInt = 0 by decide] at e
    omega
  have hno : b_no μ 1 = 0 := by rw [b_no1 h.2.2.2.1.2.1, if_neg h0, if_neg n6]
  obtain ⟨o1, o2⟩ := lo_ok hpb hpl hpe hx
  have e1 : σ 33 1 = pM μ 0 1 := hp.2.1
  have e0 : σ 33 0 = pM μ 0 0 := hp.1
  have k1 : (1 : Int32).toInt = 1 := by decide
  unfold a_byLot w_lot
  by_cases c : x - x / 3 * 3 = 0
  · rw [if_pos c, if_pos c]
    have q := (op_year h).2
    unfold k_year n_year at q
    rw [pl_0 h, if_neg h0, if_pos hno] at q
    exact q
  · rw [if_neg c, if_neg c, if_neg (fun q => by have := i_lt q; rw [e1, k1] at this; have := (PB_pe hpb).2.2; omega), if_neg (fun q => by have := i_lt q; rw [e0, k1] at this; have := (PB_pl hpb).2.2; omega), e1, e0]
    rw [show x / 8 - x / 8 / pM μ 0 1 * pM μ 0 1 = lo_i (pM μ) x from rfl, show x / 64 - x / 64 / pM μ 0 0 * pM μ 0 0 = lo_k (pM μ) x from rfl]
    generalize lo_i (pM μ) x = i at o1 ⊢
    generalize lo_k (pM μ) x = k at o2 ⊢
    by_cases c3 : μ 11 (5 + ix i) = -9
    · rw [if_pos c3, seat_e h o1, decide_eq_true c3, if_neg (by decide), pe_isUp hp hs]
      by_cases c4 : a_isUp (pM μ) (sM μ 11) k = true
      · rw [if_pos c4, if_pos c4]
        have q := (op_sit h i k).2
        unfold k_sit n_sit at q
        rw [pe_isOne hp, if_pos o1, if_pos o1, pe_isPole hp, if_pos o2, if_pos o2, seat_e h o1, if_pos c3, decide_eq_true c3, if_neg (by decide), pe_isUp hp hs, if_pos c4, if_pos c4, if_neg n6] at q
        exact q
      · rw [if_neg c4, if_neg c4]
        have q := (op_stone h).2
        unfold k_stone n_stone at q
        rw [pl_0 h, if_neg h0, if_pos hno] at q
        exact q
    · rw [if_neg c3, seat_e h o1, decide_eq_false c3, if_pos (by decide)]
      have q := (op_down h i).2
      unfold k_down n_down at q
      rw [pe_isOne hp, if_pos o1, if_pos o1, seat_e h o1, decide_eq_false c3, if_pos (by decide), if_neg c3, if_neg n6] at q
      exact q
theorem lots_rel {σ μ : Mem} (h : Rl σ μ) (h0 : ¬ μ 0 4 = 0) {x : Int64} (hx : 0 ≤ x.toInt ∧ x.toInt ≤ 2147483646) : ∀ n : Nat, n ≤ 40 → (μ 0 6).toInt + (n : Int) ≤ 40 →
    Rl (m_lots σ x n) (w_lots (pM μ) μ x n) ∧ pM (w_lots (pM μ) μ x n) = pM μ ∧ (w_lots (pM μ) μ x n 0 6).toInt = (μ 0 6).toInt + (n : Int) ∧ w_lots (pM μ) μ x n 0 4 = μ 0 4
  | 0, _, _ => ⟨h, rfl, by show (μ 0 6).toInt = _; omega, rfl⟩
  | n + 1, hn, h40 => by
    obtain ⟨a1, a2, a3, a4⟩ := lots_rel h h0 hx n (by omega) (by omega)
    have hd := h.2.2.2.1.2.1.1
    have hl := lotN_i hx.1 hx.2 (n + 1)
    have q := lot_step a1 (by rw [a4]; exact h0) (by omega) (x := (lotN x (n + 1)).toInt32) (by rw [lot_32 hl.1 hl.2]; exact hl.1)
    rw [a2] at q
    refine ⟨q, (pM_lot _ _ _).trans a2, ?_, ?_⟩
    · show (w_lot (pM μ) (w_lots (pM μ) μ x n) _ 0 6).toInt = _
      rw [w_lot_0, w_rem_6, add_i (by omega) (by decide), a3, show (1 : Int32).toInt = 1 by decide]; omega
    · show w_lot (pM μ) (w_lots (pM μ) μ x n) _ 0 4 = _
      rw [w_lot_0, w_rem_0 _ (by decide), a4]
theorem op_lots {σ μ : Mem} (h : Rl σ μ) (n seed : Int32) : Ag (k_lots σ n seed) (n_lots μ n seed) := by
  have hb : b_in n.toInt64 1 20 = true ↔ ¬ n < 1 ∧ ¬ 20 < n := bin_iff (by decide) (by decide)
  have hb2 : b_in seed.toInt64 1 2147483646 = true ↔ ¬ seed < 1 ∧ ¬ 2147483646 < seed := bin_iff (by decide) (by decide)
  have k20 : (20 : Int32).toInt = 20 := by decide
  have k1 : (1 : Int32).toInt = 1 := by decide
  have k40 : (40 : Int32).toInt = 40 := by decide
  have k0 : (0 : Int32).toInt = 0 := by decide
  unfold k_lots n_lots
  by_cases c1 : n < 1
  · rw [if_pos c1, if_neg (fun q => (hb.mp q).1 c1)]; exact Ag.same h _
  · rw [if_neg c1]
    by_cases c2 : 20 < n
    · rw [if_pos c2, if_neg (fun q => (hb.mp q).2 c2)]; exact Ag.same h _
    · rw [if_neg c2, if_pos (hb.mpr ⟨c1, c2⟩)]
      by_cases c3 : seed < 1
      · rw [if_pos c3, if_neg (fun q => (hb2.mp q).1 c3)]; exact Ag.same h _
      · rw [if_neg c3]
        by_cases c4 : 2147483646 < seed
        · rw [if_pos c4, if_neg (fun q => (hb2.mp q).2 c4)]; exact Ag.same h _
        · rw [if_neg c4, if_pos (hb2.mpr ⟨c3, c4⟩), pl_0 h]
          unfold b_no
          by_cases c : μ 0 4 = 0
          · rw [if_pos c, if_pos c, if_neg (by decide)]; exact Ag.same h _
          · rw [if_neg c, if_neg c, h.2.2.2.1.1]
            by_cases c5 : 40 < μ 0 6 + n
            · rw [if_pos c5, if_pos c5, if_neg (by decide)]; exact Ag.same h _
            · rw [if_neg c5, if_neg c5, if_pos rfl]
              have hd := h.2.2.2.1.2.1
              have hd0 := hd.1
              have hd1 := hd.2
              have d1 := i_nlt c1
              have d2 := i_nlt c2
              have d3 := i_nlt c3
              have d4 := i_nlt c4
              have d5 := i_nlt c5
              rw [k1] at d1 d3
              rw [k20] at d2
              rw [show (2147483646 : Int32).toInt = 2147483646 by decide] at d4
              rw [add_i (by omega) (by omega), k40] at d5
              have hn := ix_toInt (show 0 ≤ n.toInt by omega)
              have es : seed.toInt64.toInt = seed.toInt := Int32.toInt_toInt64 seed
              obtain ⟨q1, q2, q3, q4⟩ := lots_rel h c (x := seed.toInt64) (by rw [es]; omega) (ix n) (by omega) (by omega)
              have ev : vP (m_lots σ seed.toInt64 (ix n)) 33 = vP σ 33 := vP_eq fun q hq => m_lots_n _ _ (by omega) _
              have w := pe_highAll q1.1.1 q1.2.2.2.1.2.2.1
              rw [ev, q2] at w
              rw [w]
              exact ⟨rfl, q1⟩
