/-! level 2: years aside -/
theorem Rl_aside {σ τ μ ν : Mem} (h : Rl σ μ) (hx : ∀ q, q < 48 → τ q = σ q) (hm : ∀ q, q ≠ 12 → q < 15 → ν q = μ q) : Rl τ ν := by
  refine Rl_0 h (fun q _ _ q48 => hx q q48) (fun q _ _ q12 q15 => hm q q12 q15) (fun j _ _ => by rw [hm 0 (by decide) (by decide)]) ?_
  unfold RlT
  rw [hx 0 (by decide), hx 4 (by decide), hm 0 (by decide) (by decide), hm 5 (by decide) (by decide)]
  exact h.2.2.1
theorem take_rel (P : PT) (h4 : nPl P ≤ 4) (h5 : nPe P ≤ 5) (σ : Mem) : SEq P (vS (m_takeS σ) 48) (vS σ 45) := by
  refine ⟨?_, ?_, ?_, fun k hk => ?_, fun i hi => ?_⟩
  · rw [vS_0, vS_0]; unfold m_takeS; simp [mU_e]
  · rw [vS_0, vS_0]; unfold m_takeS; simp [mU_e]
  · rw [vS_0, vS_0]; unfold m_takeS; simp [mU_e]
  · rw [vS_1, vS_1]; unfold m_takeS; rw [mU_n _ _ _ (by decide), mU_n _ _ _ (by decide), mU_n _ _ _ (by decide), mF_n _ _ _ (by decide), mF_e, if_pos rfl, if_pos (by omega)]
  · rw [vS_2, vS_2]; unfold m_takeS; rw [mU_n _ _ _ (by decide), mU_n _ _ _ (by decide), mU_n _ _ _ (by decide), mF_e, if_pos rfl, if_pos (by omega)]
theorem asideM_rel (P : PT) (h4 : nPl P ≤ 4) (h5 : nPe P ≤ 5) (μ : Mem) : SEq P (sM μ 11) (sM (w_aside μ) 12) :=
  ⟨(w_aside_12 μ (by decide)).symm, (w_aside_12 μ (by decide)).symm, (w_aside_12 μ (by decide)).symm, fun k hk => (w_aside_12 μ (show k < 12 by omega)).symm, fun i hi => (w_aside_12 μ (show 5 + i < 12 by omega)).symm⟩
theorem vP_years (σ : Mem) (n : Nat) : vP (m_yearsN (m_takeS σ) n) 33 = vP σ 33 := vP_eq fun q hq => (m_yearsN_n _ (by omega) _).trans (m_takeS_n _ (by omega) (by omega) (by omega))
theorem aside_rel {σ μ : Mem} (h : Rl σ μ) : SEq (vP σ 33) (vS (m_takeS σ) 48) (sM (w_aside μ) 12) :=
  (take_rel _ (RlP_45 h.1).1 (RlP_45 h.1).2 σ).tr (h.2.2.2.1.2.2.1.tr (asideM_rel _ (RlP_45 h.1).1 (RlP_45 h.1).2 μ))
theorem years_rel {σ μ : Mem} (h : Rl σ μ) : ∀ n, SEq (vP σ 33) (vS (m_yearsN (m_takeS σ) n) 48) (sM (yM (pM μ) μ n) 12)
  | 0 => aside_rel h
  | n + 1 => by
    have ih := years_rel h n
    have q := (year_rel (σ := m_yearsN (m_takeS σ) n) (μ := yM (pM μ) μ n) (Q := pM μ) (o := 48) (t := 12) (by rw [vP_years]; exact h.1.1) h.1.2.1 h.1.2.2.1 (by rw [vP_years]; exact ih)).1
    rw [vP_years] at q
    exact q
theorem yM_n (P : PT) (μ : Mem) {q : Nat} (h : q ≠ 12) : ∀ n, yM P μ n q = μ q
  | 0 => w_aside_n _ h
  | n + 1 => (w_year_n _ _ h).trans (yM_n P μ h n)
theorem op_later {σ μ : Mem} (h : Rl σ μ) (n : Int32) : Ag (k_later σ n) (n_later μ n) := by
  have hb : b_in n.toInt64 0 40 = true ↔ ¬ n < 0 ∧ ¬ 40 < n := bin_iff (by decide) (by decide)
  unfold k_later n_later
  by_cases c1 : n < 0
  · rw [if_pos c1, if_neg (fun q => (hb.mp q).1 c1)]; exact Ag.same h _
  · rw [if_neg c1]
    by_cases c2 : 40 < n
    · rw [if_pos c2, if_neg (fun q => (hb.mp q).2 c2)]; exact Ag.same h _
    · rw [if_neg c2, if_pos (hb.mpr ⟨c1, c2⟩), pl_0 h]
      by_cases c : μ 0 4 = 0
      · rw [if_pos c, if_pos c]; exact Ag.same h _
      · rw [if_neg c, if_neg c, pe_highAll h.1.1 (years_rel h (ix n))]
        refine Ag.same (Rl_tell (Rl_aside h (fun q hq => ?_) (fun q h12 _ => yM_n _ _ h12 _)) ?_) _
        · rw [m_yearsN_n _ (by omega), m_takeS_n _ (by omega) (by omega) (by omega)]
        · exact (years_rel h (ix n)).1
