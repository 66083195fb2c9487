/-! level 2: a pole read, a person read -/
theorem i12 (i : Int32) : i + 1 + 1 = i + 2 := by rw [Int32.add_assoc]; rfl
theorem i23 (i : Int32) : i + 2 + 1 = i + 3 := by rw [Int32.add_assoc]; rfl
theorem i34 (i : Int32) : i + 3 + 1 = i + 4 := by rw [Int32.add_assoc]; rfl
theorem rP_7 {μ ν : Mem} (h0 : ∀ j, j ≠ 7 → ν 0 j = μ 0 j) (h : ∀ q, 15 ≤ q → q ≤ 19 → ν q = μ q) : rP ν = rP μ := by
  funext q
  match q with
  | 0 => funext j; show ν 0 _ = μ 0 _; exact h0 _ (by split <;> decide)
  | 1 => exact h 15 (by decide) (by decide)
  | 2 => exact h 16 (by decide) (by decide)
  | 3 => exact h 17 (by decide) (by decide)
  | 4 => exact h 18 (by decide) (by decide)
  | 5 => exact h 19 (by decide) (by decide)
  | q + 6 => rfl
theorem inc7_c (μ : Mem) {q : Nat} (h : q ≠ 0) : inc7 μ q = μ q := mU_n _ _ _ h
theorem pole_step {σ μ : Mem} {p t : Nat} {i kind : Int32} (hT : RT σ μ t) (hA : RA σ μ p) (h7 : μ 0 7 = i) (i0 : 0 ≤ i.toInt) (hi : i.toInt < (σ t 0).toInt) (hk : b_kindM (b_here μ) = kind) (hk0 : ¬ kind < 0) (hk5 : kind.toInt ≤ 5) (hpt : t + 1 < p ∨ p + 5 < t) :
    (a_rPole σ p t i kind = -9 ∧ b_rp μ = true ∧ w_rp μ 0 7 = i + 4 ∧ RT (m_rPole σ p t i kind) (w_rp μ) t ∧ RA (m_rPole σ p t i kind) (w_rp μ) p ∧ (i + 4).toInt = i.toInt + 4 ∧ i.toInt + 4 ≤ (σ t 0).toInt) ∨ (¬ a_rPole σ p t i kind = -9 ∧ b_rp μ = false ∧ w_rp μ 0 7 = a_rPole σ p t i kind) := by
  have s60 := hT.2.2.1
  have k9 : (-9 : Int32).toInt = -9 := by decide
  have j1 : (i + 1).toInt = i.toInt + 1 := add_i ⟨by omega, by omega⟩ (by decide)
  have j2 : (i + 2).toInt = i.toInt + 2 := add_i ⟨by omega, by omega⟩ (by decide)
  have j3 : (i + 3).toInt = i.toInt + 3 := add_i ⟨by omega, by omega⟩ (by decide)
  have j4 : (i + 4).toInt = i.toInt + 4 := add_i ⟨by omega, by omega⟩ (by decide)
  have nn : ∀ x : Int32, 0 ≤ x.toInt → ¬ x = -9 := fun x hx e => by rw [e, k9] at hx; omega
  have e10 : μ 0 10 = σ p 0 := hA.1.1.symm
  have po := hA.2.1
  have k4 : (4 : Int32).toInt = 4 := by decide
  unfold a_rPole b_rp w_rp m_rPole
  rw [if_neg hk0, if_neg hk0]
  by_cases c4 : σ p 0 < 4
  · have d4 := i_lt c4
    rw [k4] at d4
    have n4 : ¬ μ 0 10 = 4 := fun q => by rw [e10] at q; rw [q, k4] at d4; omega
    rw [if_pos c4, if_pos c4, if_neg n4, decide_eq_false n4]
    have T1 : RT σ (inc7 μ) t := RT_n hT rfl rfl (inc7_c μ (by decide)) (inc7_n μ (by decide)) (inc7_n μ (by decide))
    have a7 : inc7 μ 0 7 = i + 1 := by rw [inc7_7, h7]
    have F1 := fig_e T1 a7 (by omega)
    by_cases c1 : a_fig σ t (i + 1) < 1
    · right
      have b1 : ¬ b_fig (inc7 μ) 1 = true := fun q => F1.2.1.mp q c1
      rw [if_pos c1, if_neg b1]
      refine ⟨nn _ (by omega), ?_, ?_⟩
      · rw [Bool.eq_false_iff.mpr b1]; rfl
      · unfold zp1; rw [w_fig_f b1]; exact a7
    · have b1 : b_fig (inc7 μ) 1 = true := F1.2.1.mpr c1
      rw [if_neg c1, if_neg c1, if_pos b1, b1]
      have G1 := F1.2.2 (fun q => c1 (i_ltI (by have := i_lt q; rw [show (0 : Int32).toInt = 0 by decide] at this; rw [show (1 : Int32).toInt = 1 by decide]; omega)))
      have g1 := i_nlt c1
      rw [show (1 : Int32).toInt = 1 by decide] at g1
      have ez1 : zp1 μ = inc7 (inc7 μ) := w_fig_t b1
      have z7 : zp3 μ 0 7 = i + 2 := by rw [zp3_0, ez1, inc7_7, a7, i12]
      have zn : ∀ j, j ≠ 7 → zp3 μ 0 j = μ 0 j := fun j hj => by rw [zp3_0, ez1, inc7_n _ hj, inc7_n _ hj]
      have zc : ∀ q, q ≠ 0 → q ≠ 15 → q ≠ 16 → zp3 μ q = μ q := fun q q0 q1 q2 => by unfold zp3 zp2; rw [mU_n _ _ _ q2, mU_n _ _ _ q1, ez1, inc7_c _ q0, inc7_c _ q0]
      have lz : b_last (zp2 μ) = a_fig σ t (i + 1) := by
        rw [G1.2.1]
        refine last_e (j := i + 1) ?_ ?_ ?_ (by omega) (by omega)
        · unfold zp2; rw [mU_n _ _ _ (by decide), ez1, inc7_c _ (by decide)]
        · unfold zp2; rw [mU_n _ _ _ (by decide), ez1, inc7_n _ (by decide)]
        · unfold zp2; rw [mU_n _ _ _ (by decide), ez1, inc7_7, a7]
      have z10 : zp1 μ 0 10 = σ p 0 := by rw [ez1, inc7_n _ (by decide), inc7_n _ (by decide), e10]
      have z15 : zp3 μ 15 = mU μ 15 (ix (σ p 0)) kind 15 := by
        funext k
        unfold zp3 zp2
        rw [mU_n _ _ _ (by decide), mU_e, if_pos rfl, mU_e, if_pos rfl, z10, hk, ez1, inc7_c _ (by decide), inc7_c _ (by decide)]
      have z16 : zp3 μ 16 = mU μ 16 (ix (σ p 0)) (a_fig σ t (i + 1)) 16 := by
        funext k
        show mU (zp2 μ) 16 (ix (zp1 μ 0 10)) (b_last (zp2 μ)) 16 k = _
        rw [mU_e, if_pos rfl, mU_e, if_pos rfl, z10, lz]
        unfold zp2
        rw [mU_n _ _ _ (by decide), ez1, inc7_c _ (by decide), inc7_c _ (by decide)]
      have T3 : RT σ (zp3 μ) t := RT_n hT rfl rfl (zc 3 (by decide) (by decide) (by decide)) (zn 8 (by decide)) (zn 9 (by decide))
      generalize zp3 μ = ζ at z7 zn zc z15 z16 T3 ⊢
      have F2 := fig_e T3 z7 (by omega)
      unfold b_str w_str st1 st2
      by_cases c2 : a_fig σ t (i + 2) < 0
      · right
        have b2 : ¬ b_fig ζ 0 = true := fun q => F2.1.mp q c2
        rw [if_pos c2, if_neg b2, Bool.eq_false_iff.mpr b2, Bool.false_and, if_neg (by decide)]
        refine ⟨nn _ (by omega), rfl, ?_⟩
        rw [w_fig_f b2]; exact z7
      · have b2 : b_fig ζ 0 = true := F2.1.mpr c2
        have G2 := F2.2.2 c2
        have e1 : w_fig ζ 0 = inc7 ζ := w_fig_t b2
        rw [if_neg c2, if_neg c2, if_pos b2, b2, e1]
        have T4 : RT σ (inc7 ζ) t := RT_n T3 rfl rfl (inc7_c _ (by decide)) (inc7_n _ (by decide)) (inc7_n _ (by decide))
        have y7 : inc7 ζ 0 7 = i + 3 := by rw [inc7_7, z7, i23]
        have F3 := fig_e T4 y7 (by omega)
        by_cases c3 : a_fig σ t (i + 3) < 0
        · right
          have b3 : ¬ b_fig (inc7 ζ) 0 = true := fun q => F3.1.mp q c3
          rw [if_pos c3, if_neg b3, Bool.eq_false_iff.mpr b3, Bool.false_and, Bool.and_false, if_neg (by decide)]
          refine ⟨nn _ (by omega), rfl, ?_⟩
          rw [w_fig_f b3]; exact y7
        · have b3 : b_fig (inc7 ζ) 0 = true := F3.1.mpr c3
          have G3 := F3.2.2 c3
          have e2 : w_fig (inc7 ζ) 0 = inc7 (inc7 ζ) := w_fig_t b3
          have l1 : b_last (inc7 ζ) = a_fig σ t (i + 2) := by
            rw [G2.2.1]
            exact last_e (j := i + 2) (inc7_c _ (by decide)) (inc7_n _ (by decide)) (by rw [y7, i23]) (by omega) (by omega)
          have l2 : b_last (inc7 (inc7 ζ)) = a_fig σ t (i + 3) := by
            rw [G3.2.1]
            exact last_e (j := i + 3) (inc7_c _ (by decide)) (inc7_n _ (by decide)) (by rw [inc7_7, y7]) (by omega) (by omega)
          rw [if_neg c3, if_neg c3, if_pos b3, b3, e2, l1, l2]
          have x10 : inc7 (inc7 ζ) 0 10 = σ p 0 := by rw [inc7_n _ (by decide), inc7_n _ (by decide), zn 10 (by decide), e10]
          by_cases c6 : 60 < 10 * a_fig σ t (i + 2) + a_fig σ t (i + 3)
          · right
            rw [if_pos c6, if_pos c6, decide_eq_true c6]
            refine ⟨nn _ (by omega), rfl, ?_⟩
            rw [if_neg (by decide), mU_e, if_pos rfl, if_pos rfl]; exact z7
          · left
            rw [if_neg c6, if_neg c6, if_neg c6, decide_eq_false c6, x10]
            refine ⟨rfl, rfl, ?_, ?_, ?_, j4, by omega⟩
            · rw [if_pos (by decide), mU_e, if_pos rfl, if_neg (by decide), mU_n _ _ _ (by decide), inc7_7, y7, i34]
            · rw [if_pos (by decide)]
              refine RT_n hT ?_ ?_ ?_ ?_ ?_
              · rw [mU_n _ _ _ (by omega), mU_n _ _ _ (by omega), mU_n _ _ _ (by omega), mU_n _ _ _ (by omega)]
              · rw [mU_n _ _ _ (by omega), mU_n _ _ _ (by omega), mU_n _ _ _ (by omega), mU_n _ _ _ (by omega)]
              · rw [mU_n _ _ _ (by decide), mU_n _ _ _ (by decide), inc7_c _ (by decide), inc7_c _ (by decide), zc 3 (by decide) (by decide) (by decide)]
              · rw [mU_e, if_pos rfl, if_neg (by decide), mU_n _ _ _ (by decide), inc7_n _ (by decide), inc7_n _ (by decide), zn 8 (by decide)]
              · rw [mU_e, if_pos rfl, if_neg (by decide), mU_n _ _ _ (by decide), inc7_n _ (by decide), inc7_n _ (by decide), zn 9 (by decide)]
            · rw [if_pos (by decide)]
              have q10 : (10 * a_fig σ t (i + 2)).toInt = 10 * (a_fig σ t (i + 2)).toInt := by
                rw [Int32.toInt_mul, show (10 : Int32).toInt = 10 by decide]; exact Int.bmod_eq_of_le (by omega) (by omega)
              have qs : (10 * a_fig σ t (i + 2) + a_fig σ t (i + 3)).toInt = 10 * (a_fig σ t (i + 2)).toInt + (a_fig σ t (i + 3)).toInt := by rw [add_i ⟨by omega, by omega⟩ ⟨by omega, by omega⟩, q10]
              have q6 := i_nlt c6
              rw [show (60 : Int32).toInt = 60 by decide] at q6
              have q0 := i_nlt hk0
              rw [show (0 : Int32).toInt = 0 by decide] at q0
              refine RA_pole hA d4 ?_ ?_ ?_ ?_ ?_ ?_ ?_ ⟨q0, hk5⟩ ⟨g1, G1.2.2.2⟩ ⟨by omega, q6⟩
              · rw [mU_e, if_pos rfl, if_pos rfl, mU_n _ _ _ (by decide), x10, e10]
              · rw [mU_e, if_pos rfl, if_neg (by decide), mU_n _ _ _ (by decide), inc7_n _ (by decide), inc7_n _ (by decide), zn 11 (by decide)]
              · rw [mU_n _ _ _ (by decide), mU_n _ _ _ (by decide), inc7_c _ (by decide), inc7_c _ (by decide), z15]
              · rw [mU_n _ _ _ (by decide), mU_n _ _ _ (by decide), inc7_c _ (by decide), inc7_c _ (by decide), z16]
              · funext k
                rw [mU_n _ _ _ (by decide), mU_e, if_pos rfl, mU_e, if_pos rfl, inc7_c _ (by decide), inc7_c _ (by decide), zc 17 (by decide) (by decide) (by decide)]
              · rw [mU_n _ _ _ (by decide), mU_n _ _ _ (by decide), inc7_c _ (by decide), inc7_c _ (by decide), zc 18 (by decide) (by decide) (by decide)]
              · rw [mU_n _ _ _ (by decide), mU_n _ _ _ (by decide), inc7_c _ (by decide), inc7_c _ (by decide), zc 19 (by decide) (by decide) (by decide)]
  · right
    have d4 := i_nlt c4
    rw [k4] at d4
    have p4 := po.2.1
    have y4 : μ 0 10 = 4 := by rw [e10]; exact i_eqI (by rw [k4]; omega)
    rw [if_neg c4, if_pos y4, decide_eq_true y4]
    exact ⟨nn _ i0, rfl, h7⟩
theorem one_step {σ μ : Mem} {p t : Nat} {i : Int32} (hT : RT σ μ t) (hA : RA σ μ p) (h7 : μ 0 7 = i) (i0 : 0 ≤ i.toInt) (hi : i.toInt < (σ t 0).toInt) (hpt : t + 1 < p ∨ p + 5 < t) :
    (a_rOne σ p t i = -9 ∧ b_ro μ = true ∧ w_ro μ 0 7 = i + 3 ∧ RT (m_rOne σ p t i) (w_ro μ) t ∧ RA (m_rOne σ p t i) (w_ro μ) p ∧ (i + 3).toInt = i.toInt + 3 ∧ i.toInt + 3 ≤ (σ t 0).toInt) ∨ (¬ a_rOne σ p t i = -9 ∧ b_ro μ = false ∧ w_ro μ 0 7 = a_rOne σ p t i) := by
  have s60 := hT.2.2.1
  have k9 : (-9 : Int32).toInt = -9 := by decide
  have j1 : (i + 1).toInt = i.toInt + 1 := add_i ⟨by omega, by omega⟩ (by decide)
  have j2 : (i + 2).toInt = i.toInt + 2 := add_i ⟨by omega, by omega⟩ (by decide)
  have j3 : (i + 3).toInt = i.toInt + 3 := add_i ⟨by omega, by omega⟩ (by decide)
  have nn : ∀ x : Int32, 0 ≤ x.toInt → ¬ x = -9 := fun x hx e => by rw [e, k9] at hx; omega
  have e11 : μ 0 11 = σ p 1 := hA.1.2.1.symm
  have po := hA.2.1
  have k5 : (5 : Int32).toInt = 5 := by decide
  unfold a_rOne b_ro w_ro m_rOne
  by_cases c5 : σ p 1 < 5
  · have d5 := i_lt c5
    rw [k5] at d5
    have n5 : ¬ μ 0 11 = 5 := fun q => by rw [e11] at q; rw [q, k5] at d5; omega
    rw [if_pos c5, if_pos c5, if_neg n5, decide_eq_false n5]
    have T1 : RT σ (inc7 μ) t := RT_n hT rfl rfl (inc7_c μ (by decide)) (inc7_n μ (by decide)) (inc7_n μ (by decide))
    have a7 : inc7 μ 0 7 = i + 1 := by rw [inc7_7, h7]
    have F1 := fig_e T1 a7 (by omega)
    by_cases c1 : a_fig σ t (i + 1) < 1
    · right
      have b1 : ¬ b_fig (inc7 μ) 1 = true := fun q => F1.2.1.mp q c1
      rw [if_pos c1, if_neg b1]
      refine ⟨nn _ (by omega), ?_, ?_⟩
      · rw [Bool.eq_false_iff.mpr b1]; rfl
      · unfold zo1; rw [w_fig_f b1]; exact a7
    · have b1 : b_fig (inc7 μ) 1 = true := F1.2.1.mpr c1
      rw [if_neg c1, if_neg c1, if_pos b1, b1]
      have G1 := F1.2.2 (fun q => c1 (i_ltI (by have := i_lt q; rw [show (0 : Int32).toInt = 0 by decide] at this; rw [show (1 : Int32).toInt = 1 by decide]; omega)))
      have g1 := i_nlt c1
      rw [show (1 : Int32).toInt = 1 by decide] at g1
      have ez1 : zo1 μ = inc7 (inc7 μ) := w_fig_t b1
      have z7 : zo2 μ 0 7 = i + 2 := by unfold zo2; rw [mU_n _ _ _ (by decide), ez1, inc7_7, a7, i12]
      have zn : ∀ j, j ≠ 7 → zo2 μ 0 j = μ 0 j := fun j hj => by unfold zo2; rw [mU_n _ _ _ (by decide), ez1, inc7_n _ hj, inc7_n _ hj]
      have zc : ∀ q, q ≠ 0 → q ≠ 18 → zo2 μ q = μ q := fun q q0 q1 => by unfold zo2; rw [mU_n _ _ _ q1, ez1, inc7_c _ q0, inc7_c _ q0]
      have lz : b_last (zo1 μ) = a_fig σ t (i + 1) := by
        rw [G1.2.1]
        refine last_e (j := i + 1) ?_ ?_ ?_ (by omega) (by omega)
        · rw [ez1, inc7_c _ (by decide)]
        · rw [ez1, inc7_n _ (by decide)]
        · rw [ez1, inc7_7, a7]
      have z11 : zo1 μ 0 11 = σ p 1 := by rw [ez1, inc7_n _ (by decide), inc7_n _ (by decide), e11]
      have z18 : zo2 μ 18 = mU μ 18 (ix (σ p 1)) (a_fig σ t (i + 1)) 18 := by
        funext k
        unfold zo2
        rw [mU_e, if_pos rfl, mU_e, if_pos rfl, z11, lz, ez1, inc7_c _ (by decide), inc7_c _ (by decide)]
      have T3 : RT σ (zo2 μ) t := RT_n hT rfl rfl (zc 3 (by decide) (by decide)) (zn 8 (by decide)) (zn 9 (by decide))
      unfold zo4 zo3
      generalize zo2 μ = ζ at z7 zn zc z18 T3 ⊢
      have F2 := fig_e T3 z7 (by omega)
      by_cases c2 : a_fig σ t (i + 2) < 0
      · right
        have b2 : ¬ b_fig ζ 0 = true := fun q => F2.1.mp q c2
        rw [if_pos c2, if_neg b2, Bool.eq_false_iff.mpr b2]
        refine ⟨nn _ (by omega), rfl, ?_⟩
        rw [w_fig_f b2]; exact z7
      · left
        have b2 : b_fig ζ 0 = true := F2.1.mpr c2
        have G2 := F2.2.2 c2
        have e1 : w_fig ζ 0 = inc7 ζ := w_fig_t b2
        have y7 : inc7 ζ 0 7 = i + 3 := by rw [inc7_7, z7, i23]
        have l1 : b_last (inc7 ζ) = a_fig σ t (i + 2) := by
          rw [G2.2.1]
          exact last_e (j := i + 2) (inc7_c _ (by decide)) (inc7_n _ (by decide)) (by rw [y7, i23]) (by omega) (by omega)
        have x11 : inc7 ζ 0 11 = σ p 1 := by rw [inc7_n _ (by decide), zn 11 (by decide), e11]
        rw [if_neg c2, if_neg c2, if_pos b2, b2, e1, l1, x11]
        refine ⟨rfl, rfl, ?_, ?_, ?_, j3, by omega⟩
        · rw [mU_e, if_pos rfl, if_neg (by decide), mU_n _ _ _ (by decide), y7]
        · refine RT_n hT ?_ ?_ ?_ ?_ ?_
          · rw [mU_n _ _ _ (by omega), mU_n _ _ _ (by omega), mU_n _ _ _ (by omega)]
          · rw [mU_n _ _ _ (by omega), mU_n _ _ _ (by omega), mU_n _ _ _ (by omega)]
          · rw [mU_n _ _ _ (by decide), mU_n _ _ _ (by decide), inc7_c _ (by decide), zc 3 (by decide) (by decide)]
          · rw [mU_e, if_pos rfl, if_neg (by decide), mU_n _ _ _ (by decide), inc7_n _ (by decide), zn 8 (by decide)]
          · rw [mU_e, if_pos rfl, if_neg (by decide), mU_n _ _ _ (by decide), inc7_n _ (by decide), zn 9 (by decide)]
        · refine RA_one hA d5 ?_ ?_ ?_ ?_ ?_ ?_ ?_ ⟨g1, G1.2.2.2⟩ ⟨G2.2.2.1, G2.2.2.2⟩
          · rw [mU_e, if_pos rfl, if_neg (by decide), mU_n _ _ _ (by decide), inc7_n _ (by decide), zn 10 (by decide)]
          · rw [mU_e, if_pos rfl, if_pos rfl, e11]
          · rw [mU_n _ _ _ (by decide), mU_n _ _ _ (by decide), inc7_c _ (by decide), zc 15 (by decide) (by decide)]
          · rw [mU_n _ _ _ (by decide), mU_n _ _ _ (by decide), inc7_c _ (by decide), zc 16 (by decide) (by decide)]
          · rw [mU_n _ _ _ (by decide), mU_n _ _ _ (by decide), inc7_c _ (by decide), zc 17 (by decide) (by decide)]
          · rw [mU_n _ _ _ (by decide), mU_n _ _ _ (by decide), inc7_c _ (by decide), z18]
          · funext k
            rw [mU_n _ _ _ (by decide), mU_e, if_pos rfl, mU_e, if_pos rfl, inc7_c _ (by decide), zc 19 (by decide) (by decide)]
  · right
    have d5 := i_nlt c5
    rw [k5] at d5
    have p5 := po.2.2.2
    have y5 : μ 0 11 = 5 := by rw [e11]; exact i_eqI (by rw [k5]; omega)
    rw [if_neg c5, if_pos y5, decide_eq_true y5]
    exact ⟨nn _ i0, rfl, h7⟩
theorem kind_e {x : Int32} : (a_kind x < 0 ∧ b_kindM x = -9) ∨ (¬ a_kind x < 0 ∧ ¬ b_kindM x = -9 ∧ b_kindM x = a_kind x ∧ (a_kind x).toInt ≤ 5) := by
  unfold a_kind b_kindM
  by_cases h0 : x = 112
  · rw [if_pos h0, if_pos h0]; exact Or.inr (by decide)
  · rw [if_neg h0, if_neg h0]
    by_cases h1 : x = 114
    · rw [if_pos h1, if_pos h1]; exact Or.inr (by decide)
    · rw [if_neg h1, if_neg h1]
      by_cases h2 : x = 108
      · rw [if_pos h2, if_pos h2]; exact Or.inr (by decide)
      · rw [if_neg h2, if_neg h2]
        by_cases h3 : x = 115
        · rw [if_pos h3, if_pos h3]; exact Or.inr (by decide)
        · rw [if_neg h3, if_neg h3]
          by_cases h4 : x = 100
          · rw [if_pos h4, if_pos h4]; exact Or.inr (by decide)
          · rw [if_neg h4, if_neg h4]
            by_cases h5 : x = 107
            · rw [if_pos h5, if_pos h5]; exact Or.inr (by decide)
            · rw [if_neg h5, if_neg h5]; exact Or.inl (by decide)
theorem rdM_0 {d : Nat} (hd : 0 < d) (μ : Mem) : (rdM d μ 0).1 = μ 0 7 := by
  cases d with
  | zero => omega
  | succ d =>
    rw [rdM]
    split
    · rw [if_pos rfl]
    · rw [if_pos rfl]
theorem rd_rel {p t : Nat} (hpt : t + 1 < p ∨ p + 5 < t) : ∀ (n d : Nat) (σ μ : Mem) (i : Int32), RT σ μ t → RA σ μ p → μ 0 7 = i → 0 ≤ i.toInt → i.toInt ≤ (σ t 0).toInt → (σ t 0).toInt - i.toInt < (n : Int) → (σ t 0).toInt - i.toInt + 1 < (d : Int) →
    (rd p t n σ i).1 = (rdM d μ 1).1 ∧ ((rd p t n σ i).1 = -9 → RA (rd p t n σ i).2 (rdM d μ 1).2 p ∧ 0 < (vP (rd p t n σ i).2 p 0 0).toInt ∧ 0 < (vP (rd p t n σ i).2 p 0 1).toInt)
  | 0, _, _, _, _, _, _, _, _, hle, hn, _ => absurd hn (by omega)
  | n + 1, 0, _, _, _, _, _, _, _, hle, _, hd => absurd hd (by omega)
  | n + 1, d + 1, σ, μ, i, hT, hA, h7, i0, hle, hn, hd => by
    have s60 := hT.2.2.1
    have k0 : (0 : Int32).toInt = 0 := by decide
    have k9 : (-9 : Int32).toInt = -9 := by decide
    rw [rd, rdM, h7, hT.1]
    by_cases c : i < σ t 0
    · have hi := i_lt c
      rw [if_pos c, if_pos c, if_neg (show ¬ (1 : Int32) = 0 by decide)]
      have eg : a_get σ t i = b_here μ := by
        rcases RT_get hT h7 i0 with ⟨_, e1, e2⟩ | ⟨q, _, _⟩
        · rw [e1, e2]
        · exact absurd hi q
      rw [eg]
      by_cases c32 : b_here μ = 32
      · rw [if_pos c32, if_pos c32]
        have j1 : (i + 1).toInt = i.toInt + 1 := add_i ⟨by omega, by omega⟩ (by decide)
        exact rd_rel hpt n d σ (inc7 μ) (i + 1) (RT_n hT rfl rfl (inc7_c μ (by decide)) (inc7_n μ (by decide)) (inc7_n μ (by decide))) (RA_n hA rfl rfl (rP_7 (fun j hj => inc7_n μ hj) (fun q _ _ => inc7_c μ (by omega)))) (by rw [inc7_7, h7]) (by omega) (by omega) (by omega) (by omega)
      · rw [if_neg c32, if_neg c32]
        by_cases c109 : b_here μ = 109
        · rw [if_pos c109, if_pos c109]
          rcases one_step hT hA h7 i0 hi hpt with ⟨a1, a2, a3, a4, a5, a6, a7⟩ | ⟨a1, a2, a3⟩
          · rw [if_pos a1, a2]
            have et : (m_rOne σ p t i) t = σ t := m_rOne_n _ _ _ _ (by omega)
            exact rd_rel hpt n d _ _ (i + 3) a4 a5 a3 (by omega) (by rw [et]; omega) (by rw [et]; omega) (by rw [et]; omega)
          · rw [if_neg a1, a2]
            show a_rOne σ p t i = (rdM d (w_ro μ) 0).1 ∧ _
            rw [rdM_0 (by omega), a3]
            exact ⟨rfl, fun q => absurd q a1⟩
        · rw [if_neg c109, if_neg c109]
          rcases kind_e (x := b_here μ) with ⟨q1, q2⟩ | ⟨q1, q2, q3, q4⟩
          · rw [if_pos q2]
            have ea : a_rPole σ p t i (a_kind (b_here μ)) = i := by unfold a_rPole; rw [if_pos q1]
            rw [ea, if_neg (fun q => by rw [q, k9] at i0; omega), rdM_0 (by omega), h7]
            exact ⟨rfl, fun q => absurd (show i = -9 from q) (fun q => by rw [q, k9] at i0; omega)⟩
          · rw [if_neg q2]
            rcases pole_step hT hA h7 i0 hi q3 q1 q4 hpt with ⟨a1, a2, a3, a4, a5, a6, a7⟩ | ⟨a1, a2, a3⟩
            · rw [if_pos a1, a2]
              have et : (m_rPole σ p t i (a_kind (b_here μ))) t = σ t := m_rPole_n _ _ _ _ _ (by omega)
              exact rd_rel hpt n d _ _ (i + 4) a4 a5 a3 (by omega) (by rw [et]; omega) (by rw [et]; omega) (by rw [et]; omega)
            · rw [if_neg a1, a2]
              show a_rPole σ p t i (a_kind (b_here μ)) = (rdM d (w_rp μ) 0).1 ∧ _
              rw [rdM_0 (by omega), a3]
              exact ⟨rfl, fun q => absurd q a1⟩
    · have hi := i_nlt c
      have ei : i = σ t 0 := i_eqI (by omega)
      rw [if_neg c, if_neg c, if_neg (show ¬ (1 : Int32) = 0 by decide)]
      have e10 : μ 0 10 = σ p 0 := hA.1.1.symm
      have e11 : μ 0 11 = σ p 1 := hA.1.2.1.symm
      have po := hA.2.1
      rw [e10, e11, ei]
      have n9 : ¬ σ t 0 = -9 := fun q => by rw [ei, q, k9] at i0; omega
      by_cases z0 : σ p 0 = 0
      · rw [if_pos z0, z0, if_neg (by decide)]
        exact ⟨rfl, fun q => absurd q n9⟩
      · have y0 := i_ne z0
        rw [k0] at y0
        rw [if_neg z0, if_pos (i_ltI (by rw [k0]; have := po.1; omega))]
        by_cases z1 : σ p 1 = 0
        · rw [if_pos z1, z1, if_neg (by decide)]
          exact ⟨rfl, fun q => absurd q n9⟩
        · have y1 := i_ne z1
          rw [k0] at y1
          rw [if_neg z1, if_pos (i_ltI (by rw [k0]; have := po.2.2.1; omega))]
          refine ⟨rfl, fun _ => ⟨hA, ?_, ?_⟩⟩
          · show 0 < (σ p 0).toInt; have := po.1; omega
          · show 0 < (σ p 1).toInt; have := po.2.2.1; omega
