/-! level 2: chances -/
theorem tw_gq {t : Nat} (h : t < 541) : nI t / nI (tw (nI t) 12) = nI t / gq 40 (nI t) 12 ∧ (12 : Int32) / nI (tw (nI t) 12) = 12 / gq 40 (nI t) 12 := by
  have k : ∀ q : Fin 541, nI q.1 / nI (tw (nI q.1) 12) = nI q.1 / gq 40 (nI q.1) 12 ∧ (12 : Int32) / nI (tw (nI q.1) 12) = 12 / gq 40 (nI q.1) 12 := by decide +kernel
  exact k ⟨t, h⟩
theorem Rl_tw {σ μ : Mem} (h : Rl σ μ) {x : Int32} (h0 : 0 ≤ x.toInt) (h1 : x.toInt ≤ 540) : Rl (m_tw σ x) (w_frac μ x 12) := by
  have e := ix_nI h0
  have hi := ix_toInt h0
  have q := tw_gq (t := ix x) (by omega)
  rw [← e] at q
  unfold m_tw w_frac
  rw [q.1, q.2]
  refine Rl_0 h (fun q q0 _ _ => by rw [mU_n _ _ _ q0, mU_n _ _ _ q0]) (fun q q0 _ _ _ => by rw [mU_n _ _ _ q0, mU_n _ _ _ q0]) (fun j hj _ => by rw [mU_e, if_pos rfl, if_neg (by omega), mU_e, if_pos rfl, if_neg (by omega)]) ?_
  obtain ⟨t1, t2, t3, t4, t5⟩ := h.2.2.1
  refine ⟨?_, ?_, ?_, ?_, fun g g1 g5 => ?_⟩
  · simp [mU_e]; exact t1
  · simp [mU_e]; exact t2
  · simp [mU_e]
  · simp [mU_e]
  · rw [mU_n _ _ _ (by decide), mU_n _ _ _ (by decide), mU_n _ _ _ (by decide), mU_n _ _ _ (by decide)]; exact t5 g g1 g5
