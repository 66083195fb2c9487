/-! level 2: mark, bears, counts -/
theorem i32_100 (a b : Int32) : 100 + a - b = a - b + 100 := by
  rw [Int32.sub_eq_add_neg, Int32.sub_eq_add_neg, Int32.add_assoc, Int32.add_comm 100]
theorem bin_iff {x : Int32} {lo hi : Int32} {a b : Int64} (ha : a.toInt = lo.toInt) (hb : b.toInt = hi.toInt) : b_in x.toInt64 a b = true ↔ ¬ x < lo ∧ ¬ hi < x := by
  unfold b_in
  simp only [Bool.and_eq_true, Bool.not_eq_true', decide_eq_false_iff_not, Int64.lt_iff_toInt_lt, Int32.lt_iff_toInt_lt, Int32.toInt_toInt64, ha, hb]
theorem as_M {μ : Mem} {k : Int32} (c : a_isPole (pM μ) k = true) (kind : Int32) : b_as μ kind k (μ 11 (ix k)) = a_bearsAs (pM μ) (sM μ 11) k kind := by
  unfold b_as a_bearsAs; rw [if_pos c]; rfl
theorem op_mark {σ μ : Mem} (h : Rl σ μ) (k kind : Int32) : Ag (k_mark σ k kind) (n_mark μ k kind) := by
  have hp := h.1.1
  have hs := h.2.2.2.1.2.2.1
  have hb : b_in kind.toInt64 1 5 = true ↔ ¬ kind < 1 ∧ ¬ 5 < kind := bin_iff (by decide) (by decide)
  unfold k_mark n_mark
  rw [pe_isPole hp]
  by_cases c : a_isPole (pM μ) k = true
  · rw [if_pos c, if_pos c]
    by_cases c1 : kind < 1
    · rw [if_pos c1, if_neg (fun q => (hb.mp q).1 c1)]; exact Ag.same h _
    · rw [if_neg c1]
      by_cases c2 : 5 < kind
      · rw [if_pos c2, if_neg (fun q => (hb.mp q).2 c2)]; exact Ag.same h _
      · rw [if_neg c2, if_pos (hb.mpr ⟨c1, c2⟩)]
        have ek : σ 34 (ix k) = μ 6 (ix k) := (hp.2.2.1 _ (isPole_ix (by rw [pe_isPole hp]; exact c))).1
        rw [ek]
        by_cases c3 : a_isOf (μ 6 (ix k)) kind = true
        · rw [if_pos c3, if_pos c3]
          have e : a_mark (vP σ 33) (vS σ 45) k kind = b_mark μ k kind (a_bearsNow (pM μ) (sM μ 11) k) (μ 11 (ix k)) := by
            unfold a_mark b_mark
            rw [as_M c, as_M c, as_M c, pe_bearsAs hp hs, pe_bearsAs hp hs, pe_bearsAs hp hs, pe_bearsNow hp hs, i32_100]
          rw [e]; exact Ag.same h _
        · rw [if_neg c3, if_neg c3]; exact Ag.found h (by decide) (by decide)
  · rw [if_neg c, if_neg c]; exact Ag.same h _
theorem op_bears {σ μ : Mem} (h : Rl σ μ) (k wear : Int32) : k_bears σ k wear = n_bears μ k wear := by
  have hp := h.1.1
  have hb : b_in wear.toInt64 0 20 = true ↔ ¬ wear < 0 ∧ ¬ 20 < wear := bin_iff (by decide) (by decide)
  unfold k_bears n_bears
  rw [pe_isPole hp]
  by_cases c : a_isPole (pM μ) k = true
  · rw [if_pos c, if_pos c]
    by_cases c1 : wear < 0
    · rw [if_pos c1, if_neg (fun q => (hb.mp q).1 c1)]
    · rw [if_neg c1]
      by_cases c2 : 20 < wear
      · rw [if_pos c2, if_neg (fun q => (hb.mp q).2 c2)]
      · rw [if_neg c2, if_pos (hb.mpr ⟨c1, c2⟩), pe_bears hp]
        unfold a_bears b_as; rw [if_pos c]; rfl
  · rw [if_neg c, if_neg c]
theorem op_findings {σ μ : Mem} (h : Rl σ μ) (f : Int32) : k_findings σ f = n_findings μ f := by
  have hb : b_in f.toInt64 1 5 = true ↔ ¬ f < 1 ∧ ¬ 5 < f := bin_iff (by decide) (by decide)
  unfold k_findings n_findings
  by_cases c1 : f < 1
  · rw [if_pos c1, if_neg (fun q => (hb.mp q).1 c1)]
  · rw [if_neg c1]
    by_cases c2 : 5 < f
    · rw [if_pos c2, if_neg (fun q => (hb.mp q).2 c2)]
    · rw [if_neg c2, if_pos (hb.mpr ⟨c1, c2⟩)]
      have d1 := i_nlt c1
      have d2 := i_nlt c2
      rw [show (1 : Int32).toInt = 1 by decide] at d1
      rw [show (5 : Int32).toInt = 5 by decide] at d2
      have di := ix_toInt (show 0 ≤ f.toInt by omega)
      exact h.2.2.1.2.2.2.2 _ (by omega) (by omega)
theorem op_asked {σ μ : Mem} (h : Rl σ μ) : σ 0 1 = μ 0 0 := h.2.2.1.2.1
theorem op_upper {σ μ : Mem} (h : Rl σ μ) : (σ 0 2).toInt64 = (μ 0 1).toInt64 := by rw [h.2.2.1.2.2.1]
theorem op_lower {σ μ : Mem} (h : Rl σ μ) : (σ 0 3).toInt64 = (μ 0 2).toInt64 := by rw [h.2.2.1.2.2.2.1]
theorem op_finding {σ μ : Mem} (h : Rl σ μ) : σ 0 0 = μ 0 3 := h.2.2.1.1
theorem up_e {σ μ : Mem} (h : Rl σ μ) : a_seatedPeople (vP σ 33) (vS σ 45) = b_up (pM μ) μ := by
  have hp := h.1.1
  have hs := h.2.2.2.1.2.2.1
  rw [pe_seatedPeople hp hs]
  unfold a_seatedPeople b_up
  exact a_bits_c _ (fun i hi => by
    have h5 := (PB_pe h.1.2.1).2.1
    unfold a_isSeated
    rw [one_nI h.1.2.1 hi, ix_of (by omega)]; rfl)
theorem kept_e {σ μ : Mem} (h : Rl σ μ) : a_manyKept σ = b_there μ 14 493 3 := by
  unfold a_manyKept b_there
  exact a_sum_c _ (fun k hk => by
    obtain ⟨e1, e2, e3, _⟩ := h.2.2.2.2 k hk
    rw [e1]
    have km : (-1 : Int32).toInt = -1 := by decide
    have k0 : (0 : Int32).toInt = 0 := by decide
    by_cases c : μ 14 (493 * k) < 0
    · have d := i_lt c
      rw [if_pos c, if_pos (i_eqI (by omega))]
    · have d := i_nlt c
      rw [if_neg c, if_neg (fun q => by rw [q] at d; omega)])
theorem there_r {σ μ : Mem} (h : Rl σ μ) : a_manyThere σ 5 6 = b_there μ 2 1 6 := by
  unfold a_manyThere b_there
  exact a_sum_c _ (fun j hj => by rw [(h.2.1.1 j hj).1, Nat.one_mul])
theorem there_t {σ μ : Mem} (h : Rl σ μ) : a_manyThere σ 17 4 = b_there μ 4 1 4 := by
  unfold a_manyThere b_there
  exact a_sum_c _ (fun j hj => by rw [(h.2.1.2 j hj).1, Nat.one_mul])
