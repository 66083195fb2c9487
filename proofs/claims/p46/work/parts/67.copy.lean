/-! level 2: copy -/
theorem w_cp_f {μ : Mem} {src dst : Nat} {i jj n : Int32} (hd : ¬ i < jj) (hc : dst ≤ src ∨ src + ix n ≤ dst) : ∀ j, j ≤ ix n → ∀ q, w_cp μ src dst i jj n j 1 q = if dst ≤ q ∧ q < dst + j then μ 1 (src + (q - dst)) else μ 1 q
  | 0, _, q => by rw [if_neg (by omega)]; rfl
  | j + 1, hj, q => by
    have ih := w_cp_f (μ := μ) hd hc j (by omega)
    have ep : cpP i jj n j = j := if_neg hd
    rw [w_cp, mU_e, if_pos rfl, ep, ih, ih]
    by_cases e : q = dst + j
    · rw [if_pos e, if_neg (by omega), if_pos (by omega)]
      rw [show src + (q - dst) = src + j by omega]
    · rw [if_neg e]
      by_cases c : dst ≤ q ∧ q < dst + j
      · rw [if_pos c, if_pos (by omega)]
      · rw [if_neg c, if_neg (by omega)]
theorem w_cp_b {μ : Mem} {src dst : Nat} {i jj n : Int32} (hd : i < jj) (hc : src ≤ dst ∨ dst + ix n ≤ src) : ∀ j, j ≤ ix n → ∀ q, w_cp μ src dst i jj n j 1 q = if dst + (ix n - j) ≤ q ∧ q < dst + ix n then μ 1 (src + (q - dst)) else μ 1 q
  | 0, _, q => by rw [if_neg (by omega)]; rfl
  | j + 1, hj, q => by
    have ih := w_cp_b (μ := μ) hd hc j (by omega)
    have ep : cpP i jj n j = ix n - 1 - j := if_pos hd
    rw [w_cp, mU_e, if_pos rfl, ep, ih, ih]
    by_cases e : q = dst + (ix n - 1 - j)
    · rw [if_pos e, if_neg (by omega), if_pos (by omega)]
      rw [show src + (q - dst) = src + (ix n - 1 - j) by omega]
    · rw [if_neg e]
      by_cases c : dst + (ix n - j) ≤ q ∧ q < dst + ix n
      · rw [if_pos c, if_pos (by omega)]
      · rw [if_neg c, if_neg (by omega)]
theorem w_cp_e {μ : Mem} {ro to : Nat} {i jj n : Int32} (i0 : 0 ≤ i.toInt) (j0 : 0 ≤ jj.toInt) (hi : ix i + ix n ≤ 40) (hj : ix jj + ix n ≤ 40) (q : Nat) :
    w_cp μ (40 * ro + ix i) (40 * to + ix jj) i jj n (ix n) 1 q = if 40 * to + ix jj ≤ q ∧ q < 40 * to + ix jj + ix n then μ 1 (40 * ro + ix i + (q - (40 * to + ix jj))) else μ 1 q := by
  have hi0 := ix_toInt i0
  have hj0 := ix_toInt j0
  by_cases c : i < jj
  · have d := i_lt c
    rw [w_cp_b c (by omega) _ (Nat.le_refl _), Nat.sub_self, Nat.add_zero]
  · have d := i_nlt c
    rw [w_cp_f c (by omega) _ (Nat.le_refl _)]
theorem run_iff {σ : Mem} {o : Nat} {i n s : Int32} (e : σ o 0 = s) (n0 : ¬ n < 0) (s0 : 0 ≤ s.toInt) (s60 : s.toInt ≤ 60) : a_run σ o i n = true ↔ ¬ i < 0 ∧ ¬ s.toInt64 < i.toInt64 + n.toInt64 := by
  have d := i_nlt n0
  have k0 : (0 : Int32).toInt = 0 := by decide
  rw [k0] at d
  have hn2 : n.toInt < 2 ^ 31 := Int32.toInt_lt n
  have hi2 : i.toInt < 2 ^ 31 := Int32.toInt_lt i
  have hi3 : -2 ^ 31 ≤ i.toInt := Int32.le_toInt i
  have e1 : (s - n).toInt = s.toInt - n.toInt := by rw [Int32.toInt_sub]; exact Int.bmod_eq_of_le (by omega) (by omega)
  have e2 : (i.toInt64 + n.toInt64).toInt = i.toInt + n.toInt := by
    rw [Int64.toInt_add, Int32.toInt_toInt64, Int32.toInt_toInt64]; exact Int.bmod_eq_of_le (by omega) (by omega)
  unfold a_run
  rw [e]
  simp only [Bool.and_eq_true, Bool.not_eq_true', decide_eq_false_iff_not, decide_eq_true_eq, Int64.lt_iff_toInt_lt, Int32.lt_iff_toInt_lt, Int32.le_iff_toInt_le, e1, e2, Int32.toInt_toInt64, k0]
  omega
theorem op_copy {σ μ : Mem} (h : Rl σ μ) (ro i to jj n : Int32) : Ag (k_copy σ ro i to jj n) (n_copy μ ro i to jj n) := by
  have k0 : (0 : Int32).toInt = 0 := by decide
  unfold k_copy n_copy
  by_cases hr : a_in ro 6 = true
  · rw [if_pos hr, if_pos hr]
    by_cases ht : a_in to 6 = true
    · rw [if_pos ht, if_pos ht]
      have q := in_ix hr
      have q0 := (in_t hr).1
      have w := in_ix ht
      have w0 := (in_t ht).1
      rw [show (6 : Int32).toInt = 6 by decide] at q w
      obtain ⟨e1, e2, e3, e4⟩ := h.2.1.1 (ix ro) (by omega)
      obtain ⟨f1, f2, f3, f4⟩ := h.2.1.1 (ix to) (by omega)
      by_cases c1 : n < 0
      · rw [if_pos c1, if_pos c1]; exact Ag.found h (by decide) (by decide)
      · rw [if_neg c1, if_neg c1]
        by_cases c2 : μ 2 (ix ro) < 0
        · rw [if_pos c2, e1, if_pos c2]; exact Ag.found h (by decide) (by decide)
        · rw [if_neg c2, if_neg (show ¬ σ (5 + 2 * ix ro) 0 < 0 by rw [e1]; exact c2)]
          by_cases c3 : μ 2 (ix to) < 0
          · rw [if_pos c3, f1, if_pos c3]; exact Ag.found h (by decide) (by decide)
          · rw [if_neg c3, if_neg (show ¬ σ (5 + 2 * ix to) 0 < 0 by rw [f1]; exact c3)]
            have d1 := i_nlt c1
            have d2 := i_nlt c2
            have d3 := i_nlt c3
            rw [k0] at d1 d2 d3
            have r1 := run_iff (i := i) e1 c1 d2 (by omega)
            have r2 := run_iff (i := jj) f1 c1 d3 (by omega)
            by_cases g1 : i < 0
            · rw [if_neg (fun q => (r1.mp q).1 g1), if_pos g1]; exact Ag.found h (by decide) (by decide)
            · rw [if_neg g1]
              by_cases g2 : jj < 0
              · rw [if_pos g2]
                by_cases z : a_run σ (5 + 2 * ix ro) i n = true
                · rw [if_pos z, if_neg (fun q => (r2.mp q).1 g2)]; exact Ag.found h (by decide) (by decide)
                · rw [if_neg z]; exact Ag.found h (by decide) (by decide)
              · rw [if_neg g2]
                by_cases g3 : (μ 2 (ix ro)).toInt64 < i.toInt64 + n.toInt64
                · rw [if_pos g3, if_neg (fun q => (r1.mp q).2 g3)]; exact Ag.found h (by decide) (by decide)
                · rw [if_neg g3, if_pos (r1.mpr ⟨g1, g3⟩)]
                  by_cases g4 : (μ 2 (ix to)).toInt64 < jj.toInt64 + n.toInt64
                  · rw [if_pos g4, if_neg (fun q => (r2.mp q).2 g4)]; exact Ag.found h (by decide) (by decide)
                  · rw [if_neg g4, if_pos (r2.mpr ⟨g2, g4⟩)]
                    have t1 : i.toInt + n.toInt ≤ (μ 2 (ix ro)).toInt := by
                      have hn2 : n.toInt < 2 ^ 31 := Int32.toInt_lt n
                      have hi2 : i.toInt < 2 ^ 31 := Int32.toInt_lt i
                      have := i_nlt g1
                      rw [Int64.lt_iff_toInt_lt, Int64.toInt_add, Int32.toInt_toInt64, Int32.toInt_toInt64, Int32.toInt_toInt64, Int.bmod_eq_of_le (by omega) (by omega)] at g3
                      omega
                    have t2 : jj.toInt + n.toInt ≤ (μ 2 (ix to)).toInt := by
                      have hn2 : n.toInt < 2 ^ 31 := Int32.toInt_lt n
                      have hi2 : jj.toInt < 2 ^ 31 := Int32.toInt_lt jj
                      have := i_nlt g2
                      rw [Int64.lt_iff_toInt_lt, Int64.toInt_add, Int32.toInt_toInt64, Int32.toInt_toInt64, Int32.toInt_toInt64, Int.bmod_eq_of_le (by omega) (by omega)] at g4
                      omega
                    have u1 := i_nlt g1
                    have u2 := i_nlt g2
                    rw [k0] at u1 u2
                    have hi := ix_toInt u1
                    have hj := ix_toInt u2
                    have hn := ix_toInt d1
                    have ce := w_cp_e (μ := μ) (ro := ix ro) (to := ix to) (i := i) (jj := jj) (n := n) u1 u2 (by omega) (by omega)
                    refine Ag.same (Rl_R h (fun q hq => mA_n _ _ (by omega)) (fun q hq => w_cp_n μ _ _ i jj n (by omega) _) ?_) 1
                    refine RlR_row (r := ix to) h.2.1 (by omega) (fun q q1 q2 => mA_n _ _ q2) (fun t ht => by rw [w_cp_n μ _ _ i jj n (by decide)]) (fun k hk => ?_) (w_cp_n μ _ _ i jj n (by decide) _) (w_cp_n μ _ _ i jj n (by decide) _) ?_
                    · rw [ce, if_neg (by omega)]
                    · rw [w_cp_n μ _ _ i jj n (by decide)]
                      refine ⟨?_, f2, f3, fun k hk => ?_⟩
                      · rw [mA_n _ _ (by omega)]; exact f1
                      · rw [ce]
                        rw [mA_s]
                        unfold va_cpy
                        by_cases c : ix jj ≤ k ∧ k < ix jj + ix n
                        · rw [if_pos c, if_pos (by omega), e4 _ (by omega)]
                          rw [show 40 * ix ro + (ix i + (k - ix jj)) = 40 * ix ro + ix i + (40 * ix to + k - (40 * ix to + ix jj)) by omega]
                        · rw [if_neg c, if_neg (by omega)]
                          exact f4 k hk
    · rw [if_neg ht, if_neg ht]; exact Ag.same h _
  · rw [if_neg hr, if_neg hr]; exact Ag.same h _
