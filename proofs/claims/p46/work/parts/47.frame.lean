/-! level 2: what a call leaves of the relation -/
theorem vS_of {σ τ : Mem} {o : Nat} (h : ∀ q, o ≤ q → q < o + 3 → τ q = σ q) : vS τ o = vS σ o := vS_eq fun q hq => h _ (by omega) (by omega)
theorem RlD_n {σ τ μ ν : Mem} (hp : RlP σ μ) (h : RlD σ μ) (hx : ∀ q, (25 ≤ q ∧ q ≤ 26) ∨ (33 ≤ q ∧ q ≤ 38) ∨ (45 ≤ q ∧ q ≤ 47) → τ q = σ q) (h11 : ν 11 = μ 11) (h13 : ν 13 = μ 13) (h6 : ν 0 6 = μ 0 6) (hm : pM ν = pM μ) : RlD τ ν := by
  obtain ⟨a1, a2, a3, a4, a5, a6⟩ := h
  obtain ⟨b4, b5⟩ := RlP_45 hp
  have ev : vP τ 33 = vP σ 33 := vP_eq fun q hq => hx _ (by omega)
  have es : vS τ 45 = vS σ 45 := vS_of fun q h1 h2 => hx _ (by omega)
  have er : ∀ d, SEq (vP σ 33) (vS (rpl τ 26 d) 45) (vS (rpl σ 26 d) 45) := fun d => (rpl_c (σ := σ) (τ := τ) (by rw [ev]; exact PEq.rfl') b4 b5 d (fun j _ => by rw [hx 26 (by omega)])).sy
  have eA : ∀ b, sA ν 13 b = sA μ 13 b := fun b => by
    funext q
    match q with
    | 0 => funext j; show ν 13 _ = μ 13 _; rw [h13]
    | 1 => funext j; show ν 13 _ = μ 13 _; rw [h13]
    | 2 => funext j; show ν 13 _ = μ 13 _; rw [h13]
    | q + 3 => rfl
  refine ⟨?_, ?_, ?_, ?_, ?_, fun d hd => ?_⟩
  · rw [hx 25 (by omega), h6]; exact a1
  · unfold DM; rw [h6]; exact a2
  · rw [ev, es, sM_eq h11]; exact a3
  · rw [ev, es, h6]; exact a4.tr (er _).sy
  · rw [hm, sM_eq h11]; exact a5
  · rw [h6] at hd
    have q := a6 d hd
    rw [ev, eA, hm]
    exact ⟨(er d).tr q.1, q.2⟩
theorem RlK_n {σ τ μ ν : Mem} (hp : RlP σ μ) (h : RlK σ μ) (hx : ∀ q, 27 ≤ q ∧ q ≤ 38 → τ q = σ q) (h14 : ν 14 = μ 14) (hm : pM ν = pM μ) : RlK τ ν := by
  obtain ⟨b4, b5⟩ := RlP_45 hp
  have ev : vP τ 33 = vP σ 33 := vP_eq fun q hq => hx _ (by omega)
  have eA : ∀ b, sA ν 14 b = sA μ 14 b := fun b => by
    funext q
    match q with
    | 0 => funext j; show ν 14 _ = μ 14 _; rw [h14]
    | 1 => funext j; show ν 14 _ = μ 14 _; rw [h14]
    | 2 => funext j; show ν 14 _ = μ 14 _; rw [h14]
    | q + 3 => rfl
  intro k hk
  obtain ⟨a1, a2, a3, a4⟩ := h k hk
  have er : ∀ d, SEq (vP σ 33) (vS (rpl τ (27 + 2 * k + 1) d) 45) (vS (rpl σ (27 + 2 * k + 1) d) 45) := fun d => (rpl_c (σ := σ) (τ := τ) (by rw [ev]; exact PEq.rfl') b4 b5 d (fun j _ => by rw [hx (27 + 2 * k + 1) (by omega)])).sy
  rw [hx (27 + 2 * k) (by omega), h14, ev, hm]
  refine ⟨a1, a2, a3, fun h0 => ?_⟩
  obtain ⟨c1, c2, c3⟩ := a4 h0
  rw [eA]
  exact ⟨(er _).tr c1, c2, fun d hd => by rw [eA]; exact ⟨(er d).tr (c3 d hd).1, (c3 d hd).2⟩⟩
/-- only what is told changes -/
theorem Rl_0 {σ τ μ ν : Mem} (h : Rl σ μ) (hx : ∀ q, q ≠ 0 → q ≠ 4 → q < 48 → τ q = σ q) (hm : ∀ q, q ≠ 0 → q ≠ 5 → q ≠ 12 → q < 15 → ν q = μ q) (h0 : ∀ j, 4 ≤ j → j ≤ 6 → ν 0 j = μ 0 j) (ht : RlT τ ν) : Rl τ ν := by
  obtain ⟨a1, a2, a3, a4, a5⟩ := h
  have em : pM ν = pM μ := pM_eq (h0 4 (by decide) (by decide)) (h0 5 (by decide) (by decide)) (fun q h6 h10 => hm q (by omega) (by omega) (by omega) (by omega))
  exact ⟨RlP_n a1 (fun q _ _ => hx q (by omega) (by omega) (by omega)) (h0 4 (by decide) (by decide)) em, RlR_n a2 (fun q _ _ => hx q (by omega) (by omega) (by omega)) (fun q _ _ => hm q (by omega) (by omega) (by omega) (by omega)), ht,
    RlD_n a1 a4 (fun q hq => hx q (by omega) (by omega) (by omega)) (hm 11 (by decide) (by decide) (by decide) (by decide)) (hm 13 (by decide) (by decide) (by decide) (by decide)) (h0 6 (by decide) (by decide)) em,
    RlK_n a1 a5 (fun q hq => hx q (by omega) (by omega) (by omega)) (hm 14 (by decide) (by decide) (by decide) (by decide)) em⟩
theorem m_found_l (σ : Mem) {f : Int32} (h1 : 1 ≤ f.toInt) (h5 : f.toInt ≤ 5) : m_found σ f = mU (mU σ 0 0 f) 4 (ix f) (σ 4 (ix f) + 1) := by
  unfold m_found
  rw [if_neg (fun q => by have := i_lt q; rw [show (1 : Int32).toInt = 1 by decide] at this; omega), if_neg (fun q => by have := i_lt q; rw [show (5 : Int32).toInt = 5 by decide] at this; omega)]
theorem Rl_found {σ μ : Mem} (h : Rl σ μ) {f : Int32} (h1 : 1 ≤ f.toInt) (h5 : f.toInt ≤ 5) : Rl (m_found σ f) (n_found μ f) := by
  rw [m_found_l σ h1 h5]
  have hf := ix_toInt (show 0 ≤ f.toInt by omega)
  refine Rl_0 h (fun q q0 q4 _ => by rw [mU_n _ _ _ q4, mU_n _ _ _ q0]) (fun q q0 q5 _ _ => by unfold n_found; rw [mU_n _ _ _ q5, mU_n _ _ _ q0]) (fun j hj _ => by unfold n_found; rw [mU_n _ _ _ (by decide), mU_e, if_pos rfl, if_neg (by omega)]) ?_
  obtain ⟨t1, t2, t3, t4, t5⟩ := h.2.2.1
  unfold n_found
  refine ⟨?_, ?_, ?_, ?_, fun g g1 g5 => ?_⟩
  · simp [mU_e]
  · simp [mU_e]; exact t2
  · simp [mU_e]; exact t3
  · simp [mU_e]; exact t4
  · rw [mU_e (mU σ 0 0 f), if_pos rfl, mU_n σ _ _ (show (4 : Nat) ≠ 0 by decide), mU_e (mU μ 0 3 f), if_pos rfl, mU_n μ _ _ (show (5 : Nat) ≠ 0 by decide), t5 (ix f) (by omega) (by omega)]
    split
    · rfl
    · exact t5 g g1 g5
theorem Rl_tell {σ μ : Mem} (h : Rl σ μ) {v w : Int32} (e : v = w) : Rl (mU σ 0 1 v) (mU μ 0 0 w) := by
  subst e
  refine Rl_0 h (fun q q0 _ _ => mU_n _ _ _ q0) (fun q q0 _ _ _ => mU_n _ _ _ q0) (fun j hj _ => by rw [mU_e, if_pos rfl, if_neg (by omega)]) ?_
  obtain ⟨t1, t2, t3, t4, t5⟩ := h.2.2.1
  refine ⟨?_, ?_, ?_, ?_, fun g g1 g5 => ?_⟩
  · simp [mU_e]; exact t1
  · simp [mU_e]
  · simp [mU_e]; exact t3
  · simp [mU_e]; exact t4
  · rw [mU_n _ _ _ (by decide), mU_n _ _ _ (by decide)]; exact t5 g g1 g5
