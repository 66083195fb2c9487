/-! level 2: seated -/
theorem row_get {σ μ : Mem} (h : Rl σ μ) {r : Nat} (hr : r < 6) {i : Nat} (hi : (i : Int) < (μ 2 r).toInt) : a_get σ (5 + 2 * r) (nI i) = μ 1 (40 * r + i) := tri_get h hr hi
theorem sd_e {σ μ : Mem} (h : Rl σ μ) {r : Nat} (hr : r < 6) {i : Nat} (hi : (i : Int) < (μ 2 r).toInt) : sd_bad σ (5 + 2 * r) i = sdM_bad (pM μ) μ r i := by
  unfold sd_bad sdM_bad
  rw [row_get h hr hi, pe_isUp h.1.1 h.2.2.2.1.2.2.1]
  congr 2
  cases c : a_isUp (pM μ) (sM μ 11) (μ 1 (40 * r + i)) with
  | true => rw [up_of_seat c]; rfl
  | false => rw [Bool.and_false]
theorem seated_rel {σ μ : Mem} (h : Rl σ μ) {r : Nat} (hr : r < 6) {n : Nat} (hn : n = nPe (pM μ)) (hz : (n : Int) ≤ (μ 2 r).toInt) : SEq (vP σ 33) (vS (m_seated σ (5 + 2 * r) n) 48) (sM (w_sd μ r n) 12) := by
  obtain ⟨x0, x1, x2, x3, x4⟩ := h.2.2.2.1.2.2.1
  obtain ⟨b4, b5⟩ := RlP_45 h.1
  have k48 : m_seated σ (5 + 2 * r) n 48 = m_takeS σ 48 := by unfold m_seated; rw [mF_n _ _ _ (by decide)]
  have k49 : m_seated σ (5 + 2 * r) n 49 = m_takeS σ 49 := by unfold m_seated; rw [mF_n _ _ _ (by decide)]
  have t := take_rel (vP σ 33) b4 b5 σ
  have w : ∀ k, k < 5 ∨ (10 ≤ k ∧ k < 12) → w_sd μ r n 12 k = μ 11 k := fun k hk => by
    have : n ≤ 5 := by rw [hn]; exact (PB_pe h.1.2.1).2.1
    unfold w_sd; rw [mG_e, if_pos rfl, if_neg (by omega), w_aside_12 _ (by omega)]
  refine ⟨?_, ?_, ?_, fun k hk => ?_, fun i hi => ?_⟩
  · show m_seated σ (5 + 2 * r) n 48 0 = w_sd μ r n 12 4
    rw [k48, w _ (by omega)]; exact t.1.trans x0
  · show m_seated σ (5 + 2 * r) n 48 1 = w_sd μ r n 12 10
    rw [k48, w _ (by omega)]; exact t.2.1.trans x1
  · show m_seated σ (5 + 2 * r) n 48 2 = w_sd μ r n 12 11
    rw [k48, w _ (by omega)]; exact t.2.2.1.trans x2
  · show m_seated σ (5 + 2 * r) n 49 k = w_sd μ r n 12 k
    rw [k49, w _ (by omega)]; exact (t.2.2.2.1 k hk).trans (x3 k hk)
  · have hi' : i < n := by rw [hn, ← h.1.1.pe]; exact hi
    show m_seated σ (5 + 2 * r) n 50 i = w_sd μ r n 12 (5 + i)
    unfold m_seated w_sd
    rw [mF_e, if_pos rfl, if_pos hi', mG_e, if_pos rfl, if_pos (by omega), show 5 + i - 5 = i by omega, row_get h hr (by omega)]
theorem Rl_sd {σ μ : Mem} (h : Rl σ μ) (o n r m : Nat) : Rl (m_seated σ o n) (w_sd μ r m) :=
  Rl_aside h (fun q hq => m_seated_n _ _ _ (by omega)) (fun q h12 _ => by unfold w_sd; rw [mG_n _ _ _ _ h12, w_aside_n _ h12])
theorem op_seated {σ μ : Mem} (h : Rl σ μ) (ro : Int32) : Ag (k_seated σ ro) (n_seated μ ro) := by
  have hp := h.1.1
  have hpb := h.1.2.1
  unfold k_seated n_seated
  by_cases hr : a_in ro 6 = true
  · rw [if_pos hr, if_pos hr, pl_0 h]
    by_cases c : μ 0 4 = 0
    · rw [if_pos c, if_pos c]; exact Ag.same h _
    · rw [if_neg c, if_neg c]
      have q := in_ix hr
      have q0 := (in_t hr).1
      rw [show (6 : Int32).toInt = 6 by decide] at q
      have hr6 : ix ro < 6 := by omega
      obtain ⟨e1, e2, e3, e4⟩ := h.2.1.1 (ix ro) hr6
      rw [e1, show σ 33 1 = μ 0 5 from hp.2.1]
      by_cases c1 : μ 2 (ix ro) < 0
      · rw [if_pos c1, if_pos c1]; exact Ag.found h (by decide) (by decide)
      · rw [if_neg c1, if_neg c1]
        by_cases c2 : μ 2 (ix ro) = μ 0 5
        · rw [if_pos c2, if_pos c2]
          have hz : ((nPe (pM μ) : Nat) : Int) = (μ 2 (ix ro)).toInt := by rw [c2]; exact (PB_pe hpb).2.2.symm
          have ef : fstN (sd_bad σ (5 + 2 * ix ro)) (nPe (vP σ 33)) = fstN (sdM_bad (pM μ) μ (ix ro)) (nPe (pM μ)) := by
            rw [hp.pe]; exact fstN_c _ fun i hi => sd_e h hr6 (by omega)
          rw [ef, hp.pe]
          by_cases c3 : fstN (sdM_bad (pM μ) μ (ix ro)) (nPe (pM μ)) = nPe (pM μ)
          · rw [if_pos c3, if_pos c3]
            have sr := seated_rel h hr6 rfl (by omega)
            have hu : ∀ {P Q S T : PT}, PEq P Q → SEq P S T → a_up P S = a_up Q T := fun hp hs => by unfold a_up; rw [hp.1, hs.1]
            rw [hu hp sr, pe_standing hp sr, fail_pop hpb, pe_highAll hp sr]
            exact Ag.same (Rl_tell (Rl_sd h _ _ _ _) rfl) _
          · rw [if_neg c3, if_neg c3]
            exact Ag.found (Rl_sd h _ _ _ _) (by decide) (by decide)
        · rw [if_neg c2, if_neg c2]; exact Ag.found h (by decide) (by decide)
  · rw [if_neg hr, if_neg hr]; exact Ag.same h _
