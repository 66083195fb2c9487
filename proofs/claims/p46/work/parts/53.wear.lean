/-! level 2: wear stays small; holds -/
def WR (P S : PT) : Prop := ∀ k, k < nPl P → 0 ≤ (S 1 k).toInt ∧ (S 1 k).toInt ≤ 20
theorem worn_i {w l : Int32} (h : 0 ≤ w.toInt ∧ w.toInt ≤ 20) : 0 ≤ (a_worn w l).toInt ∧ (a_worn w l).toInt ≤ 20 := by
  have k20 : (20 : Int32).toInt = 20 := by decide
  have k1 : (1 : Int32).toInt = 1 := by decide
  have k2 : (2 : Int32).toInt = 2 := by decide
  unfold a_worn
  have hm := imin_i 20 (w + (if l = 0 then 1 else 2))
  rw [k20] at hm
  rw [hm]
  split <;> split <;> (try rw [add_i (by omega) (by omega)] at *) <;> omega
theorem WR_year {σ : Mem} {o : Nat} (h : WR (vP σ 33) (vS σ o)) : WR (vP σ 33) (vS (m_year σ o) o) := by
  intro k hk
  rw [(vS_year σ o).2.2.2.1 k hk]
  have q := h k hk
  unfold y_wear
  split
  · split
    · exact q
    · exact worn_i q
  · exact q
theorem WR_apply {σ : Mem} {o : Nat} (h : WR (vP σ 33) (vS σ o)) (d : Int32) : WR (vP σ 33) (vS (m_apply σ o d) o) := by
  unfold m_apply
  split
  · intro k hk
    have q := h k hk
    rw [vS_1] at q ⊢
    rw [m_goUp_n _ _ _ _ (by omega)]; exact q
  · split
    · intro k hk
      have q := h k hk
      rw [vS_1] at q ⊢
      rw [m_down_n _ _ _ (by omega)]; exact q
    · split
      · intro k hk
        have q := h k hk
        rw [vS_1] at q ⊢
        unfold m_renew
        split
        · rw [mU_e, if_pos rfl]; split
          · decide
          · exact q
        · exact q
      · split
        · intro k hk
          have q := h k hk
          rw [vS_1] at q ⊢
          rw [mU_n _ _ _ (by omega)]; exact q
        · exact WR_year h
theorem WR_rpl (σ : Mem) (C : Nat) (h4 : nPl (vP σ 33) ≤ 4) : ∀ d, WR (vP σ 33) (vS (rpl σ C d) 45)
  | 0 => fun k hk => by
    show 0 ≤ (vS (m_begin σ 45) 45 1 k).toInt ∧ (vS (m_begin σ 45) 45 1 k).toInt ≤ 20
    rw [(vS_begin σ).2.2.2.1 k (by omega)]; decide
  | d + 1 => by
    have q := WR_apply (σ := rpl σ C d) (o := 45) (by rw [vP_rpl]; exact WR_rpl σ C h4 d) (σ C d)
    rw [vP_rpl] at q
    exact q
theorem WR_c {P S T : PT} (h : WR P S) (e : SEq P S T) : WR P T := fun k hk => by rw [← e.2.2.2.1 k hk]; exact h k hk
theorem WR_now {σ μ : Mem} (h : Rl σ μ) : WR (vP σ 33) (vS σ 45) := WR_c (WR_rpl σ 26 (RlP_45 h.1).1 _) h.2.2.2.1.2.2.2.1.sy
theorem bearing_i {kind tall strong wear : Int32} (ht : 0 ≤ tall.toInt ∧ tall.toInt ≤ 9) (hs : 0 ≤ strong.toInt ∧ strong.toInt ≤ 60) (hw : 0 ≤ wear.toInt ∧ wear.toInt ≤ 20) : 0 ≤ (a_bearing kind tall strong wear).toInt ∧ (a_bearing kind tall strong wear).toInt ≤ 100 := by
  have k0 : (0 : Int32).toInt = 0 := by decide
  have k2 : (2 : Int32).toInt = 2 := by decide
  have k3 : (3 : Int32).toInt = 3 := by decide
  have k5 : (5 : Int32).toInt = 5 := by decide
  have w2 : (2 * wear).toInt = 2 * wear.toInt := by rw [Int32.toInt_mul, k2]; exact Int.bmod_eq_of_le (by omega) (by omega)
  have t2 : (2 * tall).toInt = 2 * tall.toInt := by rw [Int32.toInt_mul, k2]; exact Int.bmod_eq_of_le (by omega) (by omega)
  have s1 : (strong - 2 * wear).toInt = strong.toInt - 2 * wear.toInt := by rw [Int32.toInt_sub, w2]; exact Int.bmod_eq_of_le (by omega) (by omega)
  have s2 : (strong - wear).toInt = strong.toInt - wear.toInt := by rw [Int32.toInt_sub]; exact Int.bmod_eq_of_le (by omega) (by omega)
  have p := imax_i 0 (strong - 2 * wear)
  have q := imax_i 0 (strong - wear)
  rw [k0, s1] at p
  rw [k0, s2] at q
  have pi : 0 ≤ (imax 0 (strong - 2 * wear)).toInt ∧ (imax 0 (strong - 2 * wear)).toInt ≤ 60 := by rw [p]; split <;> omega
  have qi : 0 ≤ (imax 0 (strong - wear)).toInt ∧ (imax 0 (strong - wear)).toInt ≤ 60 := by rw [q]; split <;> omega
  clear p q
  unfold a_bearing
  generalize imax 0 (strong - 2 * wear) = x at pi ⊢
  generalize imax 0 (strong - wear) = y at qi ⊢
  have x3 := (rem_i (a := x) (b := 3) pi.1 (by decide)).1
  rw [k3] at x3
  have xs : (x - x / 3).toInt = x.toInt - (x / 3).toInt := sub_i (by omega) (by omega)
  have y5 : (y - 5).toInt = y.toInt - 5 := by rw [Int32.toInt_sub, k5]; exact Int.bmod_eq_of_le (by omega) (by omega)
  have yt : (y + 2 * tall).toInt = y.toInt + 2 * tall.toInt := by rw [add_i (by omega) (by omega), t2]
  have z := imax_i 0 (y - 5)
  rw [k0, y5] at z
  have zi : 0 ≤ (imax 0 (y - 5)).toInt ∧ (imax 0 (y - 5)).toInt ≤ 60 := by rw [z]; split <;> omega
  repeat' split
  all_goals omega
