/-! level 2: holds -/
theorem bears_i {P S : PT} (hr : PR P) (hw : WR P S) {k : Int32} (c : a_isPole P k = true) : 0 ≤ (a_bearsNow P S k).toInt ∧ (a_bearsNow P S k).toInt ≤ 100 := by
  have q := hr.1 _ (isPole_ix c)
  have w := hw _ (isPole_ix c)
  unfold a_bearsNow
  rw [if_pos c]
  exact bearing_i ⟨by omega, q.2.2.2.1⟩ ⟨q.2.2.2.2.1, q.2.2.2.2.2⟩ w
theorem WR_M {σ μ : Mem} (h : Rl σ μ) : WR (pM μ) (sM μ 11) := fun k hk => by
  have q := WR_c (WR_now h) h.2.2.2.1.2.2.1
  exact q k (by rw [h.1.1.pl]; exact hk)
theorem exc_e {P S : PT} (hpb : PB P) (hr : PR P) (hw : WR P S) : a_excess P S = b_exc P S := by
  unfold a_excess b_exc
  exact a_sum_c _ (fun k hk => by
    have hp := pole_nI hpb hk
    have l := load_i hpb hr S hp
    have b := bears_i hr hw hp
    have k0 : (0 : Int32).toInt = 0 := by decide
    by_cases c : a_isUp P S (nI k) = true
    · rw [if_pos c, if_pos c]
      have e := sub_i (a := a_load P S (nI k)) (b := a_bearsNow P S (nI k)) ⟨l.1, by omega⟩ ⟨b.1, by omega⟩
      unfold imax
      by_cases d : a_load P S (nI k) ≤ a_bearsNow P S (nI k)
      · have d1 := i_le d
        rw [if_pos d, if_neg (fun q => by have := i_lt q; omega)]
      · have d1 := i_nle d
        rw [if_neg d, if_pos (i_ltI (by omega))]
    · rw [if_neg c, if_neg c])
theorem pl_0 {σ μ : Mem} (h : Rl σ μ) : σ 33 0 = μ 0 4 := h.1.1.1
theorem pe_exc {P Q S T : PT} (h : PEq P Q) (hs : SEq P S T) : a_excess P S = a_excess Q T := by
  unfold a_excess; rw [← h.pl]; exact a_sum_c _ (fun k _ => by rw [pe_isUp h hs, pe_load h hs, pe_bearsNow h hs])
theorem op_holds {σ μ : Mem} (h : Rl σ μ) : Ag (k_holds σ) (n_holds μ) := by
  have hp := h.1.1
  have hs := h.2.2.2.1.2.2.1
  unfold k_holds n_holds
  rw [pl_0 h]
  by_cases c : μ 0 4 = 0
  · rw [if_pos c, if_pos c]; exact Ag.same h _
  · rw [if_neg c, if_neg c, pe_standing hp hs, pe_exc hp hs, exc_e h.1.2.1 h.1.2.2.1 (WR_M h)]
    exact Ag.same (Rl_tell h rfl) _
