/-! level 2: a text read by both -/
def RT (σ μ : Mem) (t : Nat) : Prop := μ 0 8 = σ t 0 ∧ 0 ≤ (σ t 0).toInt ∧ (σ t 0).toInt ≤ 60 ∧ ∀ q : Nat, (q : Int) < (σ t 0).toInt → σ (t + 1) q = μ 3 (60 * ix (μ 0 9) + q)
theorem RT_n {σ τ μ ν : Mem} {t : Nat} (h : RT σ μ t) (h0 : τ t = σ t) (h1 : τ (t + 1) = σ (t + 1)) (h3 : ν 3 = μ 3) (h8 : ν 0 8 = μ 0 8) (h9 : ν 0 9 = μ 0 9) : RT τ ν t := by
  unfold RT; rw [h0, h1, h3, h8, h9]; exact h
theorem RT_get {σ μ : Mem} {t : Nat} {j : Int32} (h : RT σ μ t) (h7 : μ 0 7 = j) (j0 : 0 ≤ j.toInt) :
    (j.toInt < (σ t 0).toInt ∧ a_get σ t j = μ 3 (60 * ix (μ 0 9) + ix j) ∧ b_here μ = μ 3 (60 * ix (μ 0 9) + ix j)) ∨ (¬ j.toInt < (σ t 0).toInt ∧ a_get σ t j = 0 ∧ b_here μ = -1) := by
  obtain ⟨e8, s0, s60, e3⟩ := h
  have hj := ix_toInt j0
  have k0 : (0 : Int32).toInt = 0 := by decide
  have k60 : (60 : Int32).toInt = 60 := by decide
  unfold b_here a_get
  rw [h7, e8]
  by_cases c : j.toInt < (σ t 0).toInt
  · left
    have hh : a_has σ t j = true := by
      unfold a_has
      simp only [Bool.and_eq_true, decide_eq_true_eq, Bool.not_eq_true', decide_eq_false_iff_not]
      exact ⟨fun q => by have := i_lt q; omega, i_ltI c, i_ltI (by omega)⟩
    rw [if_pos hh, if_pos (i_ltI c)]
    exact ⟨c, e3 _ (by omega), rfl⟩
  · right
    rw [if_neg (fun q => c (has_t q).2.1), if_neg (fun q => c (i_lt q))]
    exact ⟨c, rfl, rfl⟩
theorem fig_e {σ μ : Mem} {t : Nat} {j : Int32} (h : RT σ μ t) (h7 : μ 0 7 = j) (j0 : 0 ≤ j.toInt) :
    (b_fig μ 0 = true ↔ ¬ a_fig σ t j < 0) ∧ (b_fig μ 1 = true ↔ ¬ a_fig σ t j < 1) ∧ (¬ a_fig σ t j < 0 → j.toInt < (σ t 0).toInt ∧ a_fig σ t j = μ 3 (60 * ix (μ 0 9) + ix j) - 48 ∧ 0 ≤ (a_fig σ t j).toInt ∧ (a_fig σ t j).toInt ≤ 9) := by
  have k0 : (0 : Int32).toInt = 0 := by decide
  have k1 : (1 : Int32).toInt = 1 := by decide
  have k48 : (48 : Int32).toInt = 48 := by decide
  have k57 : (57 : Int32).toInt = 57 := by decide
  have b0 : ∀ x : Int32, b_in x.toInt64 (48 + (0 : Int32)).toInt64 57 = true ↔ ¬ x < 48 ∧ ¬ 57 < x := fun x => bin_iff (by decide) (by decide)
  have b1 : ∀ x : Int32, b_in x.toInt64 (48 + (1 : Int32)).toInt64 57 = true ↔ ¬ x < 49 ∧ ¬ 57 < x := fun x => bin_iff (by decide) (by decide)
  unfold b_fig a_fig
  rw [b0, b1]
  rcases RT_get h h7 j0 with ⟨c, e1, e2⟩ | ⟨c, e1, e2⟩
  · rw [e1, e2]
    generalize μ 3 (60 * ix (μ 0 9) + ix j) = g
    by_cases c1 : g < 48
    · have := i_lt c1
      rw [if_pos c1]
      refine ⟨⟨fun q => absurd c1 q.1, fun q => absurd (by decide) q⟩, ⟨fun q => absurd (i_ltI (by rw [show (49 : Int32).toInt = 49 by decide]; omega)) q.1, fun q => absurd (by decide) q⟩, fun q => absurd (by decide) q⟩
    · rw [if_neg c1]
      by_cases c2 : 57 < g
      · rw [if_pos c2]
        exact ⟨⟨fun q => absurd c2 q.2, fun q => absurd (by decide) q⟩, ⟨fun q => absurd c2 q.2, fun q => absurd (by decide) q⟩, fun q => absurd (by decide) q⟩
      · rw [if_neg c2]
        have d1 := i_nlt c1
        have d2 := i_nlt c2
        have e : (g - 48).toInt = g.toInt - 48 := sub_i ⟨by omega, by omega⟩ (by decide)
        refine ⟨⟨fun _ q => ?_, fun _ => ⟨c1, c2⟩⟩, ⟨fun w q => ?_, fun w => ⟨fun q => ?_, c2⟩⟩, fun _ => ⟨c, rfl, by omega, by omega⟩⟩
        · have := i_lt q; omega
        · have := i_lt q
          have := i_nlt w.1
          rw [show (49 : Int32).toInt = 49 by decide] at this
          omega
        · have := i_lt q
          have := i_nlt w
          rw [show (49 : Int32).toInt = 49 by decide] at *
          omega
  · rw [e1, e2, if_pos (by decide)]
    exact ⟨⟨fun q => absurd (by decide) q.1, fun q => absurd (by decide) q⟩, ⟨fun q => absurd (by decide) q.1, fun q => absurd (by decide) q⟩, fun q => absurd (by decide) q⟩
theorem last_e {μ ν : Mem} {j : Int32} (h3 : ν 3 = μ 3) (h9 : ν 0 9 = μ 0 9) (h7 : ν 0 7 = j + 1) (j0 : 0 ≤ j.toInt) (j1 : j.toInt ≤ 100) : b_last ν = μ 3 (60 * ix (μ 0 9) + ix j) - 48 := by
  have e : (j + 1).toInt = j.toInt + 1 := add_i ⟨by omega, by omega⟩ (by decide)
  have hj := ix_toInt j0
  have hj1 := ix_toInt (show 0 ≤ (j + 1).toInt by omega)
  unfold b_last
  rw [h3, h9, h7, show 60 * ix (μ 0 9) + ix (j + 1) - 1 = 60 * ix (μ 0 9) + ix j by omega]
/-- what is read so far -/
def rP (μ : Mem) : PT := fun q => match q with | 0 => fun j => μ 0 (if j = 0 then 10 else 11) | 1 => μ 15 | 2 => μ 16 | 3 => μ 17 | 4 => μ 18 | 5 => μ 19 | _ => fun _ => 0
def RA (σ μ : Mem) (p : Nat) : Prop := PEq (vP σ p) (rP μ) ∧ PO p σ ∧ PR (vP σ p)
theorem RA_n {σ τ μ ν : Mem} {p : Nat} (h : RA σ μ p) (hx : vP τ p = vP σ p) (hy : τ p = σ p) (hm : rP ν = rP μ) : RA τ ν p := by
  unfold RA; rw [hx, hm]; exact ⟨h.1, PO_eq h.2.1 hy, h.2.2⟩
theorem RA_pole {σ μ ν : Mem} {p : Nat} {kind tall strong : Int32} (h : RA σ μ p) (h4 : (σ p 0).toInt < 4) (h10 : ν 0 10 = μ 0 10 + 1) (h11 : ν 0 11 = μ 0 11) (h15 : ν 15 = mU μ 15 (ix (σ p 0)) kind 15) (h16 : ν 16 = mU μ 16 (ix (σ p 0)) tall 16) (h17 : ν 17 = mU μ 17 (ix (σ p 0)) strong 17) (h18 : ν 18 = μ 18) (h19 : ν 19 = μ 19)
    (r1 : 0 ≤ kind.toInt ∧ kind.toInt ≤ 5) (r2 : 1 ≤ tall.toInt ∧ tall.toInt ≤ 9) (r3 : 0 ≤ strong.toInt ∧ strong.toInt ≤ 60) :
    RA (mU (mU (mU (mU σ (p + 1) (ix (σ p 0)) kind) (p + 2) (ix (σ p 0)) tall) (p + 3) (ix (σ p 0)) strong) p 0 (σ p 0 + 1)) ν p := by
  obtain ⟨⟨e0, e1, e2, e3⟩, po, pr⟩ := h
  have p0 := po.1
  have hN := ix_toInt po.1
  have es : (σ p 0 + 1).toInt = (σ p 0).toInt + 1 := add_i ⟨by omega, by omega⟩ (by decide)
  have hS := ix_toInt (show 0 ≤ (σ p 0 + 1).toInt by omega)
  have w0 : vP (mU (mU (mU (mU σ (p + 1) (ix (σ p 0)) kind) (p + 2) (ix (σ p 0)) tall) (p + 3) (ix (σ p 0)) strong) p 0 (σ p 0 + 1)) p 0 0 = σ p 0 + 1 := by rw [vP_0, mU_e, if_pos rfl, if_pos rfl]
  have w1 : vP (mU (mU (mU (mU σ (p + 1) (ix (σ p 0)) kind) (p + 2) (ix (σ p 0)) tall) (p + 3) (ix (σ p 0)) strong) p 0 (σ p 0 + 1)) p 0 1 = σ p 1 := by
    rw [vP_0, mU_e, if_pos rfl, if_neg (by decide), mU_n _ _ _ (by omega), mU_n _ _ _ (by omega), mU_n _ _ _ (by omega)]
  have wk : ∀ k, vP (mU (mU (mU (mU σ (p + 1) (ix (σ p 0)) kind) (p + 2) (ix (σ p 0)) tall) (p + 3) (ix (σ p 0)) strong) p 0 (σ p 0 + 1)) p 1 k = (if k = ix (σ p 0) then kind else σ (p + 1) k) ∧
      vP (mU (mU (mU (mU σ (p + 1) (ix (σ p 0)) kind) (p + 2) (ix (σ p 0)) tall) (p + 3) (ix (σ p 0)) strong) p 0 (σ p 0 + 1)) p 2 k = (if k = ix (σ p 0) then tall else σ (p + 2) k) ∧
      vP (mU (mU (mU (mU σ (p + 1) (ix (σ p 0)) kind) (p + 2) (ix (σ p 0)) tall) (p + 3) (ix (σ p 0)) strong) p 0 (σ p 0 + 1)) p 3 k = (if k = ix (σ p 0) then strong else σ (p + 3) k) := fun k => by
    rw [vP_1, vP_2, vP_3]
    refine ⟨?_, ?_, ?_⟩
    · rw [mU_n _ _ _ (by omega), mU_n _ _ _ (by omega), mU_n _ _ _ (by omega), mU_e, if_pos rfl]
    · rw [mU_n _ _ _ (by omega), mU_n _ _ _ (by omega), mU_e, if_pos rfl, mU_n _ _ _ (by omega)]
    · rw [mU_n _ _ _ (by omega), mU_e, if_pos rfl, mU_n _ _ _ (by omega), mU_n _ _ _ (by omega)]
  have wi : ∀ i, vP (mU (mU (mU (mU σ (p + 1) (ix (σ p 0)) kind) (p + 2) (ix (σ p 0)) tall) (p + 3) (ix (σ p 0)) strong) p 0 (σ p 0 + 1)) p 4 i = σ (p + 4) i ∧
      vP (mU (mU (mU (mU σ (p + 1) (ix (σ p 0)) kind) (p + 2) (ix (σ p 0)) tall) (p + 3) (ix (σ p 0)) strong) p 0 (σ p 0 + 1)) p 5 i = σ (p + 5) i := fun i => by
    rw [vP_4, vP_5, mU_n _ _ _ (by omega), mU_n _ _ _ (by omega), mU_n _ _ _ (by omega), mU_n _ _ _ (by omega), mU_n _ _ _ (by omega), mU_n _ _ _ (by omega), mU_n _ _ _ (by omega), mU_n _ _ _ (by omega)]
    exact ⟨rfl, rfl⟩
  have wp : PO p (mU (mU (mU (mU σ (p + 1) (ix (σ p 0)) kind) (p + 2) (ix (σ p 0)) tall) (p + 3) (ix (σ p 0)) strong) p 0 (σ p 0 + 1)) := by
    rw [vP_0] at w0 w1
    unfold PO
    rw [w0, w1]
    exact ⟨by omega, by omega, po.2.2.1, po.2.2.2⟩
  generalize mU (mU (mU (mU σ (p + 1) (ix (σ p 0)) kind) (p + 2) (ix (σ p 0)) tall) (p + 3) (ix (σ p 0)) strong) p 0 (σ p 0 + 1) = τ at w0 w1 wk wi wp
  have npl : nPl (vP τ p) = ix (σ p 0) + 1 := by unfold nPl; rw [w0]; omega
  have npe : nPe (vP τ p) = nPe (vP σ p) := by unfold nPe; rw [w1]; rfl
  have npl0 : nPl (vP σ p) = ix (σ p 0) := rfl
  refine ⟨⟨?_, ?_, fun k hk => ?_, fun i hi => ?_⟩, wp, fun k hk => ?_, fun i hi => ?_⟩
  · rw [w0]; show _ = ν 0 10; rw [h10]; exact congrArg (· + 1) e0
  · rw [w1]; show _ = ν 0 11; rw [h11]; exact e1
  · rw [(wk k).1, (wk k).2.1, (wk k).2.2]
    show _ = ν 15 k ∧ _ = ν 16 k ∧ _ = ν 17 k
    rw [h15, h16, h17, mU_e, if_pos rfl, mU_e, if_pos rfl, mU_e, if_pos rfl]
    by_cases e : k = ix (σ p 0)
    · simp only [if_pos e]; exact ⟨trivial, trivial, trivial⟩
    · simp only [if_neg e]; exact e2 k (by omega)
  · rw [(wi i).1, (wi i).2]
    show _ = ν 18 i ∧ _ = ν 19 i
    rw [h18, h19]; exact e3 i (by rw [npe] at hi; exact hi)
  · rw [(wk k).1, (wk k).2.1, (wk k).2.2]
    by_cases e : k = ix (σ p 0)
    · simp only [if_pos e]; exact ⟨r1.1, r1.2, r2.1, r2.2, r3.1, r3.2⟩
    · simp only [if_neg e]; exact pr.1 k (by omega)
  · rw [(wi i).1, (wi i).2]; exact pr.2 i (by rw [npe] at hi; exact hi)
theorem RA_one {σ μ ν : Mem} {p : Nat} {weight devout : Int32} (h : RA σ μ p) (h5 : (σ p 1).toInt < 5) (h10 : ν 0 10 = μ 0 10) (h11 : ν 0 11 = μ 0 11 + 1) (h15 : ν 15 = μ 15) (h16 : ν 16 = μ 16) (h17 : ν 17 = μ 17) (h18 : ν 18 = mU μ 18 (ix (σ p 1)) weight 18) (h19 : ν 19 = mU μ 19 (ix (σ p 1)) devout 19)
    (r1 : 1 ≤ weight.toInt ∧ weight.toInt ≤ 9) (r2 : 0 ≤ devout.toInt ∧ devout.toInt ≤ 9) :
    RA (mU (mU (mU σ (p + 4) (ix (σ p 1)) weight) (p + 5) (ix (σ p 1)) devout) p 1 (σ p 1 + 1)) ν p := by
  obtain ⟨⟨e0, e1, e2, e3⟩, po, pr⟩ := h
  have p0 := po.2.2.1
  have hN := ix_toInt po.2.2.1
  have es : (σ p 1 + 1).toInt = (σ p 1).toInt + 1 := add_i ⟨by omega, by omega⟩ (by decide)
  have hS := ix_toInt (show 0 ≤ (σ p 1 + 1).toInt by omega)
  have w1 : vP (mU (mU (mU σ (p + 4) (ix (σ p 1)) weight) (p + 5) (ix (σ p 1)) devout) p 1 (σ p 1 + 1)) p 0 1 = σ p 1 + 1 := by rw [vP_0, mU_e, if_pos rfl, if_pos rfl]
  have w0 : vP (mU (mU (mU σ (p + 4) (ix (σ p 1)) weight) (p + 5) (ix (σ p 1)) devout) p 1 (σ p 1 + 1)) p 0 0 = σ p 0 := by
    rw [vP_0, mU_e, if_pos rfl, if_neg (by decide), mU_n _ _ _ (by omega), mU_n _ _ _ (by omega)]
  have wi : ∀ i, vP (mU (mU (mU σ (p + 4) (ix (σ p 1)) weight) (p + 5) (ix (σ p 1)) devout) p 1 (σ p 1 + 1)) p 4 i = (if i = ix (σ p 1) then weight else σ (p + 4) i) ∧
      vP (mU (mU (mU σ (p + 4) (ix (σ p 1)) weight) (p + 5) (ix (σ p 1)) devout) p 1 (σ p 1 + 1)) p 5 i = (if i = ix (σ p 1) then devout else σ (p + 5) i) := fun i => by
    rw [vP_4, vP_5]
    refine ⟨?_, ?_⟩
    · rw [mU_n _ _ _ (by omega), mU_n _ _ _ (by omega), mU_e, if_pos rfl]
    · rw [mU_n _ _ _ (by omega), mU_e, if_pos rfl, mU_n _ _ _ (by omega)]
  have wk : ∀ k, vP (mU (mU (mU σ (p + 4) (ix (σ p 1)) weight) (p + 5) (ix (σ p 1)) devout) p 1 (σ p 1 + 1)) p 1 k = σ (p + 1) k ∧
      vP (mU (mU (mU σ (p + 4) (ix (σ p 1)) weight) (p + 5) (ix (σ p 1)) devout) p 1 (σ p 1 + 1)) p 2 k = σ (p + 2) k ∧
      vP (mU (mU (mU σ (p + 4) (ix (σ p 1)) weight) (p + 5) (ix (σ p 1)) devout) p 1 (σ p 1 + 1)) p 3 k = σ (p + 3) k := fun k => by
    rw [vP_1, vP_2, vP_3]
    refine ⟨?_, ?_, ?_⟩ <;> rw [mU_n _ _ _ (by omega), mU_n _ _ _ (by omega), mU_n _ _ _ (by omega)]
  have wp : PO p (mU (mU (mU σ (p + 4) (ix (σ p 1)) weight) (p + 5) (ix (σ p 1)) devout) p 1 (σ p 1 + 1)) := by
    rw [vP_0] at w0 w1
    unfold PO
    rw [w0, w1]
    exact ⟨po.1, po.2.1, by omega, by omega⟩
  generalize mU (mU (mU σ (p + 4) (ix (σ p 1)) weight) (p + 5) (ix (σ p 1)) devout) p 1 (σ p 1 + 1) = τ at w0 w1 wk wi wp
  have npe : nPe (vP τ p) = ix (σ p 1) + 1 := by unfold nPe; rw [w1]; omega
  have npl : nPl (vP τ p) = nPl (vP σ p) := by unfold nPl; rw [w0]; rfl
  have npe0 : nPe (vP σ p) = ix (σ p 1) := rfl
  refine ⟨⟨?_, ?_, fun k hk => ?_, fun i hi => ?_⟩, wp, fun k hk => ?_, fun i hi => ?_⟩
  · rw [w0]; show _ = ν 0 10; rw [h10]; exact e0
  · rw [w1]; show _ = ν 0 11; rw [h11]; exact congrArg (· + 1) e1
  · rw [(wk k).1, (wk k).2.1, (wk k).2.2]
    show _ = ν 15 k ∧ _ = ν 16 k ∧ _ = ν 17 k
    rw [h15, h16, h17]; exact e2 k (by rw [npl] at hk; exact hk)
  · rw [(wi i).1, (wi i).2]
    show _ = ν 18 i ∧ _ = ν 19 i
    rw [h18, h19, mU_e, if_pos rfl, mU_e, if_pos rfl]
    by_cases e : i = ix (σ p 1)
    · simp only [if_pos e]; exact ⟨trivial, trivial⟩
    · simp only [if_neg e]; exact e3 i (by omega)
  · rw [(wk k).1, (wk k).2.1, (wk k).2.2]; exact pr.1 k (by rw [npl] at hk; exact hk)
  · rw [(wi i).1, (wi i).2]
    by_cases e : i = ix (σ p 1)
    · simp only [if_pos e]; exact ⟨r1.1, r1.2, r2.1, r2.2⟩
    · simp only [if_neg e]; exact pr.2 i (by omega)
