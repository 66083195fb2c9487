/-! level 2: a deed done -/
theorem SEq.of {P Q S T : PT} (h : PEq P Q) (hs : SEq P S T) : SEq Q S T := ⟨hs.1, hs.2.1, hs.2.2.1, fun k hk => hs.2.2.2.1 k (by rw [h.pl]; exact hk), fun i hi => hs.2.2.2.2 i (by rw [h.pe]; exact hi)⟩
theorem seatsOk_c {P S T : PT} (h : SEq P S T) (q : seatsOk P S) : seatsOk P T := fun i hi => by
  rw [← h.2.2.2.2 i hi, ← pe_isUp PEq.rfl' h]; exact q i hi
theorem m_add_l {σ : Mem} {o : Nat} {d : Int32} (h0 : 0 ≤ (σ o 0).toInt) (h : (σ o 0).toInt < 40) : m_add σ o d = mU (mU σ (o + 1) (ix (σ o 0)) d) o 0 (σ o 0 + 1) := by
  unfold m_add
  rw [if_neg (fun q => by have := i_lt q; rw [show (0 : Int32).toInt = 0 by decide] at this; omega), if_pos (i_ltI (by rw [show (40 : Int32).toInt = 40 by decide]; exact h))]
theorem Rl_deed {σ μ ν : Mem} {d : Int32} (h : Rl σ μ) (hn : (μ 0 6).toInt < 40) (hm : ∀ q, q ≠ 11 → ν q = w_rem μ q)
    (hs : SEq (vP σ 33) (vS (m_apply (m_add σ 25 d) 45 d) 45) (sM ν 11)) (ho : seatsOk (pM μ) (sM ν 11)) : Rl (m_apply (m_add σ 25 d) 45 d) ν := by
  obtain ⟨a1, a2, a3, a4, a5⟩ := h
  obtain ⟨b4, b5⟩ := RlP_45 a1
  obtain ⟨c1, c2, c3, c4, c5, c6⟩ := a4
  have c20 := c2.1
  have hN := ix_toInt c20
  have hx : ∀ q, q ≠ 25 → q ≠ 26 → q ≠ 45 → q ≠ 46 → q ≠ 47 → m_apply (m_add σ 25 d) 45 d q = σ q := fun q q1 q2 q3 q4 q5 => by
    rw [m_apply_n _ _ _ q3 q4 q5, m_add_n _ _ _ q1 q2]
  have hx2 : m_apply (m_add σ 25 d) 45 d 25 0 = μ 0 6 + 1 ∧ (∀ j, j < ix (μ 0 6) → m_apply (m_add σ 25 d) 45 d 26 j = σ 26 j) ∧ m_apply (m_add σ 25 d) 45 d 26 (ix (μ 0 6)) = d := by
    rw [m_apply_n _ _ _ (show (25 : Nat) ≠ 45 by decide) (by decide) (by decide), m_apply_n _ _ _ (show (26 : Nat) ≠ 45 by decide) (by decide) (by decide), m_add_l (by rw [c1]; exact c20) (by rw [c1]; exact hn), c1]
    refine ⟨by rw [mU_e, if_pos rfl, if_pos rfl], fun j hj => ?_, ?_⟩
    · rw [mU_n _ _ _ (by decide), mU_e, if_pos rfl, if_neg (by omega)]
    · rw [mU_n _ _ _ (by decide), mU_e, if_pos rfl, if_pos rfl]
  have hv45 : vS (m_add σ 25 d) 45 = vS σ 45 := vS_of fun q q1 q2 => m_add_n _ _ _ (by omega) (by omega)
  have hvP : vP (m_add σ 25 d) 33 = vP σ 33 := vP_eq fun q hq => m_add_n _ _ _ (by omega) (by omega)
  have e6 : ν 0 6 = μ 0 6 + 1 := by rw [hm 0 (by decide)]; exact w_rem_6 μ
  have e0 : ∀ j, j ≠ 6 → ν 0 j = μ 0 j := fun j hj => by rw [hm 0 (by decide)]; exact w_rem_0 μ hj
  have eq : ∀ q, q ≠ 0 → q ≠ 11 → q ≠ 13 → ν q = μ q := fun q q0 q11 q13 => by rw [hm q q11]; exact w_rem_n μ ⟨q0, q13⟩
  have em : pM ν = pM μ := pM_eq (e0 4 (by decide)) (e0 5 (by decide)) (fun q q6 q10 => eq q (by omega) (by omega) (by omega))
  have e13 : ∀ k, ν 13 k = if 12 * ix (μ 0 6) ≤ k ∧ k < 12 * ix (μ 0 6) + 12 then μ 11 (0 + (k - 12 * ix (μ 0 6))) else μ 13 k := fun k => by
    rw [hm 13 (by decide)]; unfold w_rem; rw [mU_n _ _ _ (by decide), mG_e, if_pos rfl]
  have e1 : (μ 0 6 + 1).toInt = (μ 0 6).toInt + 1 := by rw [add_i (by omega) (by decide)]; rfl
  have e1n : ix (μ 0 6 + 1) = ix (μ 0 6) + 1 := by
    have := ix_toInt (show 0 ≤ (μ 0 6 + 1).toInt by omega)
    omega
  generalize hτ : m_apply (m_add σ 25 d) 45 d = τ at hs hx hx2 ⊢
  have ev : vP τ 33 = vP σ 33 := vP_eq fun q hq => hx _ (by omega) (by omega) (by omega) (by omega) (by omega)
  have er : ∀ j, j ≤ ix (μ 0 6) → SEq (vP σ 33) (vS (rpl σ 26 j) 45) (vS (rpl τ 26 j) 45) := fun j hj =>
    rpl_c (σ := σ) (τ := τ) (by rw [ev]; exact PEq.rfl') b4 b5 j (fun i hi => (hx2.2.1 i (by omega)).symm)
  have snew : SEq (vP σ 33) (sM μ 11) (sA ν 13 (12 * ix (μ 0 6))) := by
    have hk : ∀ k, k < 12 → μ 11 k = ν 13 (12 * ix (μ 0 6) + k) := fun k hk => by
      rw [e13, if_pos (by omega), show 0 + (12 * ix (μ 0 6) + k - 12 * ix (μ 0 6)) = k by omega]
    exact ⟨hk 4 (by decide), hk 10 (by decide), hk 11 (by decide), fun k hq => hk k (by omega), fun i hi => hk (5 + i) (by omega)⟩
  refine ⟨RlP_n a1 (fun q _ _ => hx q (by omega) (by omega) (by omega) (by omega) (by omega)) (e0 4 (by decide)) em,
    RlR_n a2 (fun q _ _ => hx q (by omega) (by omega) (by omega) (by omega) (by omega)) (fun q _ _ => eq q (by omega) (by omega) (by omega)), ?_, ?_,
    RlK_n a1 a5 (fun q hq => ?_) (eq 14 (by decide) (by decide) (by decide)) em⟩
  · obtain ⟨t1, t2, t3, t4, t5⟩ := a3
    unfold RlT
    rw [hx 0 (by decide) (by decide) (by decide) (by decide) (by decide), hx 4 (by decide) (by decide) (by decide) (by decide) (by decide), e0 0 (by decide), e0 1 (by decide), e0 2 (by decide), e0 3 (by decide), eq 5 (by decide) (by decide) (by decide)]
    exact ⟨t1, t2, t3, t4, t5⟩
  · unfold RlD
    rw [e6, e1n, ev, em, e1]
    refine ⟨hx2.1, ?_, hs, ?_, ho, fun j hj => ?_⟩
    · unfold DM; rw [e6, e1]; omega
    · have q := apply_xx (σ := m_add σ 25 d) (τ := rpl τ 26 (ix (μ 0 6))) (o := 45) (by rw [hvP, vP_rpl, ev]; exact PEq.rfl') (by rw [hvP, hv45]; exact c4.tr (er _ (Nat.le_refl _))) d
      rw [hvP, hτ] at q
      rw [rpl, hx2.2.2]
      exact q
    · by_cases e : j = ix (μ 0 6)
      · subst e
        exact ⟨(er _ (Nat.le_refl _)).sy.tr (c4.sy.tr (c3.tr snew)), seatsOk_c (snew.of a1.1) c5⟩
      · have hj2 : (j : Int) < (μ 0 6).toInt := by omega
        have q := c6 j hj2
        have eA : ∀ P : PT, nPl P ≤ 4 → nPe P ≤ 5 → SEq P (sA ν 13 (12 * j)) (sA μ 13 (12 * j)) := sA_eq fun k hk => by rw [e13, if_neg (by omega)]
        have w := eA _ b4 b5
        exact ⟨(er j (by omega)).sy.tr (q.1.tr w.sy), seatsOk_c (w.of a1.1).sy q.2⟩
  · by_cases q3 : q = 45 ∨ q = 46 ∨ q = 47
    · omega
    · exact hx q (by omega) (by omega) (by omega) (by omega) (by omega)
