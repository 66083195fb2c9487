/-! what the class's methods leave as it is -/
theorem toInt64_nz {x : Int32} (h : ¬ x = 0) : ¬ x.toInt64 = 0 := by
  intro e
  apply h
  apply Int32.toInt_inj.mp
  have h1 : x.toInt64.toInt = (0 : Int64).toInt := by rw [e]
  rw [Int32.toInt_toInt64] at h1
  exact h1
theorem nI_dec (a : Nat) : nI (a + 1) + (-1) = nI a := by
  rw [← nI_pred a]
  apply Int32.toInt_inj.mp
  simp [Int32.toInt_add, Int32.toInt_sub]
  rfl
theorem m_add_n (σ : Mem) (o : Nat) (d : Int32) {q : Nat} (h0 : q ≠ o) (h1 : q ≠ o + 1) : m_add σ o d q = σ q := by
  unfold m_add
  repeat' split
  all_goals first | rfl | (rw [mU_n _ _ _ h0, mU_n _ _ _ h1])
theorem m_takeD_n (σ : Mem) (o p : Nat) {q : Nat} (h0 : q ≠ o) (h1 : q ≠ o + 1) : m_takeD σ o p q = σ q := by
  unfold m_takeD; rw [mF_n _ _ _ h1, mU_n _ _ _ h0]
theorem m_fill_n (σ : Mem) (o : Nat) (n v : Int32) {q : Nat} (h0 : q ≠ o) (h1 : q ≠ o + 1) : m_fill σ o n v q = σ q := by
  unfold m_fill; rw [mF_n _ _ _ h1, mU_n _ _ _ h0]
theorem m_takeR_n (σ : Mem) (o p : Nat) (n : Int32) {q : Nat} (h0 : q ≠ o) (h1 : q ≠ o + 1) : m_takeR σ o p n q = σ q := by
  unfold m_takeR; rw [mF_n _ _ _ h1, m_fill_n _ _ _ _ h0 h1]
theorem m_replay_n (σ : Mem) {q : Nat} (h0 : q ≠ 45) (h1 : q ≠ 46) (h2 : q ≠ 47) : m_replay σ q = σ q := m_replayN_n σ h0 h1 h2 _
theorem m_sBegin_n (σ : Mem) {q : Nat} (h0 : q ≠ 51) (h1 : q ≠ 52) (h2 : q ≠ 53) : m_sBegin σ q = σ q := by
  unfold m_sBegin; rw [mU_n _ _ _ h0, mU_n _ _ _ h0, mD_n _ _ _ _ h2, mF_n _ _ _ h1]
theorem m_lBegin_n (P S : PT) (σ : Mem) (n : Int32) {q : Nat} (h0 : q ≠ 56) (h1 : q ≠ 58) (h2 : q ≠ 64) : m_lBegin P S σ n q = σ q := by
  unfold m_lBegin; rw [mF_n _ _ _ h2, mF_n _ _ _ h1, mU_n _ _ _ h0, mU_n _ _ _ h0, mU_n _ _ _ h0]
theorem m_gBegin_n (P S : PT) (σ : Mem) {q : Nat} (h : q < 67 ∨ 71 < q) : m_gBegin P S σ q = σ q := by
  unfold m_gBegin; rw [m_seatsN_n P _ (by omega), mF_n _ _ _ (by omega), mF_n _ _ _ (by omega), mF_n _ _ _ (by omega), mU_n _ _ _ (by omega)]
theorem m_seated_n (σ : Mem) (o n : Nat) {q : Nat} (h : q < 48 ∨ 50 < q) : m_seated σ o n q = σ q := by
  unfold m_seated; rw [mF_n _ _ _ (by omega), m_takeS_n _ (by omega) (by omega) (by omega)]
theorem k_do_n (σ : Mem) (d : Int32) {q : Nat} (h0 : q ≠ 25) (h1 : q ≠ 26) (h2 : q ≠ 45) (h3 : q ≠ 46) (h4 : q ≠ 47) : (k_do σ d).2 q = σ q := by
  unfold k_do
  split
  · show m_apply (m_add σ 25 d) 45 d q = σ q
    rw [m_apply_n _ _ _ h2 h3 h4, m_add_n _ _ _ h0 h1]
  · rfl
theorem m_lots_n (σ : Mem) (x : Int64) {q : Nat} (h : q < 25 ∨ 47 < q ∨ (26 < q ∧ q < 45)) : ∀ n, m_lots σ x n q = σ q
  | 0 => rfl
  | n + 1 => (k_do_n _ _ (by omega) (by omega) (by omega) (by omega) (by omega)).trans (m_lots_n σ x h n)
theorem m_kept0_k (σ : Mem) {q : Nat} : ∀ n, (∀ k, k < n → q ≠ 27 + 2 * k) → m_kept0 σ n q = σ q
  | 0, _ => rfl
  | n + 1, h => (mU_n _ _ _ (h n (Nat.lt_succ_self n))).trans (m_kept0_k σ n fun k hk => h k (Nat.lt_succ_of_lt hk))
