/-! level 2: deeds done again -/
def rpl (σ : Mem) (C : Nat) : Nat → Mem
  | 0 => m_begin σ 45
  | j + 1 => m_apply (rpl σ C j) 45 (σ C j)
theorem rpl_26 (σ : Mem) : ∀ j, m_replayN σ j = rpl σ 26 j
  | 0 => rfl
  | j + 1 => by rw [m_replayN, rpl, rpl_26 σ j]
theorem rpl_n (σ : Mem) (C : Nat) {q : Nat} (h0 : q ≠ 45) (h1 : q ≠ 46) (h2 : q ≠ 47) : ∀ j, rpl σ C j q = σ q
  | 0 => m_begin_n _ _ h0 h1 h2
  | j + 1 => (m_apply_n _ _ _ h0 h1 h2).trans (rpl_n σ C h0 h1 h2 j)
theorem vP_rpl (σ : Mem) (C j : Nat) : vP (rpl σ C j) 33 = vP σ 33 := vP_eq fun q hq => rpl_n σ C (by omega) (by omega) (by omega) j
theorem vS_begin (σ : Mem) : vS (m_begin σ 45) 45 0 0 = 0 ∧ vS (m_begin σ 45) 45 0 1 = 0 ∧ vS (m_begin σ 45) 45 0 2 = 0 ∧ (∀ k, k < 4 → vS (m_begin σ 45) 45 1 k = 0) ∧ (∀ i, i < 5 → vS (m_begin σ 45) 45 2 i = -9) := by
  refine ⟨?_, ?_, ?_, fun k hk => ?_, fun i hi => ?_⟩
  · rw [vS_0]; unfold m_begin; simp [mU_e]
  · rw [vS_0]; unfold m_begin; simp [mU_e]
  · rw [vS_0]; unfold m_begin; simp [mU_e]
  · rw [vS_1]; unfold m_begin; rw [mU_n _ _ _ (by decide), mU_n _ _ _ (by decide), mU_n _ _ _ (by decide), mF_n _ _ _ (by decide), mF_e, if_pos rfl, if_pos hk]
  · rw [vS_2]; unfold m_begin; rw [mU_n _ _ _ (by decide), mU_n _ _ _ (by decide), mU_n _ _ _ (by decide), mF_e, if_pos rfl, if_pos hi]
theorem begin_xx {P : PT} (h4 : nPl P ≤ 4) (h5 : nPe P ≤ 5) (σ τ : Mem) : SEq P (vS (m_begin σ 45) 45) (vS (m_begin τ 45) 45) := by
  obtain ⟨x0, x1, x2, x3, x4⟩ := vS_begin σ
  obtain ⟨z0, z1, z2, z3, z4⟩ := vS_begin τ
  exact ⟨x0.trans z0.symm, x1.trans z1.symm, x2.trans z2.symm, fun k hk => (x3 k (by omega)).trans (z3 k (by omega)).symm, fun i hi => (x4 i (by omega)).trans (z4 i (by omega)).symm⟩
/-- the same deeds, in whichever row they lie -/
theorem rpl_c {σ τ : Mem} {C C' : Nat} (h : PEq (vP σ 33) (vP τ 33)) (h4 : nPl (vP σ 33) ≤ 4) (h5 : nPe (vP σ 33) ≤ 5) : ∀ d, (∀ j, j < d → σ C j = τ C' j) → SEq (vP σ 33) (vS (rpl σ C d) 45) (vS (rpl τ C' d) 45)
  | 0, _ => begin_xx h4 h5 σ τ
  | d + 1, e => by
    have ih := rpl_c h h4 h5 d (fun j hj => e j (by omega))
    rw [rpl, rpl, ← e d (by omega)]
    have q := apply_xx (σ := rpl σ C d) (τ := rpl τ C' d) (o := 45) (by rw [vP_rpl, vP_rpl]; exact h) (by rw [vP_rpl]; exact ih) (σ C d)
    rw [vP_rpl] at q
    exact q
/-- parts of the relation: plan; rows and texts; what is told; the nave now and its deeds; kept ones -/
def RlP (σ μ : Mem) : Prop := PEq (vP σ 33) (pM μ) ∧ PB (pM μ) ∧ PR (pM μ) ∧ (¬ μ 0 4 = 0 → 0 < nPe (pM μ))
def RlR (σ μ : Mem) : Prop := (∀ r, r < 6 → σ (5 + 2 * r) 0 = μ 2 r ∧ -1 ≤ (μ 2 r).toInt ∧ (μ 2 r).toInt ≤ 40 ∧ ∀ i : Nat, (i : Int) < (μ 2 r).toInt → σ (5 + 2 * r + 1) i = μ 1 (40 * r + i)) ∧
  (∀ t, t < 4 → σ (17 + 2 * t) 0 = μ 4 t ∧ -1 ≤ (μ 4 t).toInt ∧ (μ 4 t).toInt ≤ 60 ∧ ∀ i : Nat, (i : Int) < (μ 4 t).toInt → σ (17 + 2 * t + 1) i = μ 3 (60 * t + i))
def RlT (σ μ : Mem) : Prop := σ 0 0 = μ 0 3 ∧ σ 0 1 = μ 0 0 ∧ σ 0 2 = μ 0 1 ∧ σ 0 3 = μ 0 2 ∧ ∀ f, 1 ≤ f → f ≤ 5 → σ 4 f = μ 5 f
/-- who sits, sits on a pole that is up -/
def seatsOk (P S : PT) : Prop := ∀ i, i < nPe P → S 2 i = -9 ∨ a_isUp P S (S 2 i) = true
def RlD (σ μ : Mem) : Prop := σ 25 0 = μ 0 6 ∧ DM μ ∧ SEq (vP σ 33) (vS σ 45) (sM μ 11) ∧ SEq (vP σ 33) (vS σ 45) (vS (rpl σ 26 (ix (μ 0 6))) 45) ∧ seatsOk (pM μ) (sM μ 11) ∧
  ∀ d : Nat, (d : Int) < (μ 0 6).toInt → SEq (vP σ 33) (vS (rpl σ 26 d) 45) (sA μ 13 (12 * d)) ∧ seatsOk (pM μ) (sA μ 13 (12 * d))
def RlK (σ μ : Mem) : Prop := ∀ k, k < 3 → σ (27 + 2 * k) 0 = μ 14 (493 * k) ∧ -1 ≤ (μ 14 (493 * k)).toInt ∧ (μ 14 (493 * k)).toInt ≤ 40 ∧
  (0 ≤ (μ 14 (493 * k)).toInt → SEq (vP σ 33) (vS (rpl σ (27 + 2 * k + 1) (ix (μ 14 (493 * k)))) 45) (sA μ 14 (493 * k + 1)) ∧ seatsOk (pM μ) (sA μ 14 (493 * k + 1)) ∧
    ∀ d : Nat, (d : Int) < (μ 14 (493 * k)).toInt → SEq (vP σ 33) (vS (rpl σ (27 + 2 * k + 1) d) 45) (sA μ 14 (493 * k + 13 + 12 * d)) ∧ seatsOk (pM μ) (sA μ 14 (493 * k + 13 + 12 * d)))
def Rl (σ μ : Mem) : Prop := RlP σ μ ∧ RlR σ μ ∧ RlT σ μ ∧ RlD σ μ ∧ RlK σ μ
theorem sA_eq {μ ν : Mem} {a b : Nat} (h : ∀ k, k < 12 → ν a (b + k) = μ a (b + k)) : ∀ P, nPl P ≤ 4 → nPe P ≤ 5 → SEq P (sA ν a b) (sA μ a b) := fun P h4 h5 =>
  ⟨h 4 (by decide), h 10 (by decide), h 11 (by decide), fun k hk => h k (by omega), fun i hi => h (5 + i) (by omega)⟩
/-- what a change elsewhere leaves -/
theorem RlR_n {σ τ μ ν : Mem} (h : RlR σ μ) (hx : ∀ q, 5 ≤ q → q ≤ 24 → τ q = σ q) (hm : ∀ q, 1 ≤ q → q ≤ 4 → ν q = μ q) : RlR τ ν := by
  refine ⟨fun r hr => ?_, fun t ht => ?_⟩
  · have q := h.1 r hr
    rw [hx _ (by omega) (by omega), hx _ (by omega) (by omega), hm 1 (by decide) (by decide), hm 2 (by decide) (by decide)]; exact q
  · have q := h.2 t ht
    rw [hx _ (by omega) (by omega), hx _ (by omega) (by omega), hm 3 (by decide) (by decide), hm 4 (by decide) (by decide)]; exact q
theorem RlP_n {σ τ μ ν : Mem} (h : RlP σ μ) (hx : ∀ q, 33 ≤ q → q ≤ 38 → τ q = σ q) (h4 : ν 0 4 = μ 0 4) (hm : pM ν = pM μ) : RlP τ ν := by
  unfold RlP
  rw [hm, h4, vP_eq (σ := σ) (τ := τ) (fun q hq => hx _ (by omega) (by omega))]
  exact h
theorem RlP_45 {σ μ : Mem} (h : RlP σ μ) : nPl (vP σ 33) ≤ 4 ∧ nPe (vP σ 33) ≤ 5 := ⟨by rw [h.1.pl]; exact (PB_pl h.2.1).2.1, by rw [h.1.pe]; exact (PB_pe h.2.1).2.1⟩
