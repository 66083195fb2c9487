/-! level 2: rows -/
theorem Rl_R {σ τ μ ν : Mem} (h : Rl σ μ) (hx : ∀ q, (q < 5 ∨ 24 < q) → τ q = σ q) (hm : ∀ q, (q < 1 ∨ 4 < q) → ν q = μ q) (hr : RlR τ ν) : Rl τ ν := by
  obtain ⟨a1, a2, a3, a4, a5⟩ := h
  have em : pM ν = pM μ := pM_n (hm 0 (by omega)) (fun q _ _ => hm q (by omega))
  refine ⟨RlP_n a1 (fun q _ _ => hx q (by omega)) (by rw [hm 0 (by omega)]) em, hr, ?_, RlD_n a1 a4 (fun q hq => hx q (by omega)) (hm 11 (by omega)) (hm 13 (by omega)) (by rw [hm 0 (by omega)]) em, RlK_n a1 a5 (fun q hq => hx q (by omega)) (hm 14 (by omega)) em⟩
  unfold RlT
  rw [hx 0 (by omega), hx 4 (by omega), hm 0 (by omega), hm 5 (by omega)]
  exact a3
theorem RlR_row {σ τ μ ν : Mem} {r : Nat} (h : RlR σ μ) (hr : r < 6) (hx : ∀ q, q ≠ 5 + 2 * r → q ≠ 5 + 2 * r + 1 → τ q = σ q) (h2 : ∀ t, t ≠ r → ν 2 t = μ 2 t) (h1 : ∀ k, ¬ (40 * r ≤ k ∧ k < 40 * r + 40) → ν 1 k = μ 1 k) (h3 : ν 3 = μ 3) (h4 : ν 4 = μ 4)
    (hn : τ (5 + 2 * r) 0 = ν 2 r ∧ -1 ≤ (ν 2 r).toInt ∧ (ν 2 r).toInt ≤ 40 ∧ ∀ i : Nat, (i : Int) < (ν 2 r).toInt → τ (5 + 2 * r + 1) i = ν 1 (40 * r + i)) : RlR τ ν := by
  refine ⟨fun t ht => ?_, fun t ht => ?_⟩
  · by_cases e : t = r
    · subst e; exact hn
    · obtain ⟨q1, q2, q3, q4⟩ := h.1 t ht
      rw [hx _ (by omega) (by omega), hx _ (by omega) (by omega), h2 t e]
      refine ⟨q1, q2, q3, fun i hi => ?_⟩
      rw [h1 _ (by omega)]; exact q4 i hi
  · have q := h.2 t ht
    rw [hx _ (by omega) (by omega), hx _ (by omega) (by omega), h3, h4]; exact q
theorem RlR_txt {σ τ μ ν : Mem} {r : Nat} (h : RlR σ μ) (hr : r < 4) (hx : ∀ q, q ≠ 17 + 2 * r → q ≠ 17 + 2 * r + 1 → τ q = σ q) (h2 : ∀ t, t ≠ r → ν 4 t = μ 4 t) (h1 : ∀ k, ¬ (60 * r ≤ k ∧ k < 60 * r + 60) → ν 3 k = μ 3 k) (h3 : ν 1 = μ 1) (h4 : ν 2 = μ 2)
    (hn : τ (17 + 2 * r) 0 = ν 4 r ∧ -1 ≤ (ν 4 r).toInt ∧ (ν 4 r).toInt ≤ 60 ∧ ∀ i : Nat, (i : Int) < (ν 4 r).toInt → τ (17 + 2 * r + 1) i = ν 3 (60 * r + i)) : RlR τ ν := by
  refine ⟨fun t ht => ?_, fun t ht => ?_⟩
  · have q := h.1 t ht
    rw [hx _ (by omega) (by omega), hx _ (by omega) (by omega), h3, h4]; exact q
  · by_cases e : t = r
    · subst e; exact hn
    · obtain ⟨q1, q2, q3, q4⟩ := h.2 t ht
      rw [hx _ (by omega) (by omega), hx _ (by omega) (by omega), h2 t e]
      refine ⟨q1, q2, q3, fun i hi => ?_⟩
      rw [h1 _ (by omega)]; exact q4 i hi
theorem in_ix {r n : Int32} (h : a_in r n = true) : ((ix r : Nat) : Int) = r.toInt ∧ r.toInt < n.toInt := by
  have h1 := in_t h
  exact ⟨ix_toInt h1.1, h1.2⟩
/-- two answers with their memories -/
def Ag (a b : Int32 × Mem) : Prop := a.1 = b.1 ∧ Rl a.2 b.2
theorem Ag.same {σ μ : Mem} (h : Rl σ μ) (v : Int32) : Ag (v, σ) (v, μ) := ⟨rfl, h⟩
theorem Ag.found {σ μ : Mem} (h : Rl σ μ) {f : Int32} (h1 : 1 ≤ f.toInt) (h5 : f.toInt ≤ 5) : Ag (-3, m_found σ f) (-3, n_found μ f) := ⟨rfl, Rl_found h h1 h5⟩
theorem imin_l {n m : Int32} (h : n.toInt ≤ m.toInt) : imin n m = n := by
  unfold imin; rw [if_neg (fun q => by have := i_lt q; omega)]
theorem op_row {σ μ : Mem} (h : Rl σ μ) (r n : Int32) : Ag (k_row σ r n) (n_row μ r n) := by
  have k40 : (40 : Int32).toInt = 40 := by decide
  have k60 : (60 : Int32).toInt = 60 := by decide
  have k0 : (0 : Int32).toInt = 0 := by decide
  unfold k_row n_row x_begin
  by_cases hr : a_in r 6 = true
  · rw [if_pos hr, if_pos hr]
    by_cases c1 : 40 < n
    · rw [if_pos c1, if_pos c1]; exact Ag.same h _
    · rw [if_neg c1, if_neg c1]
      by_cases c2 : n < 0
      · rw [if_pos c2, if_pos c2]; exact Ag.found h (by decide) (by decide)
      · rw [if_neg c2, if_neg c2]
        have d1 := i_nlt c1
        have d2 := i_nlt c2
        have q := in_ix hr
        rw [show (6 : Int32).toInt = 6 by decide] at q
        have hn := ix_toInt (show 0 ≤ n.toInt by omega)
        have em : imin n 60 = n := imin_l (by omega)
        refine Ag.same (Rl_R h (fun q hq => m_fill_n _ _ _ _ (by omega) (by omega)) (fun q hq => by rw [mG_n _ _ _ _ (by omega), mU_n _ _ _ (by omega)]) ?_) n
        refine RlR_row (r := ix r) h.2.1 (by omega) (fun q q1 q2 => m_fill_n _ _ _ _ q1 q2) (fun t ht => ?_) (fun k hk => ?_) ?_ ?_ ?_
        · rw [mG_n _ _ _ _ (by decide), mU_e, if_pos rfl, if_neg ht]
        · rw [mG_e, if_pos rfl, if_neg hk, mU_n _ _ _ (by decide)]
        · rw [mG_n _ _ _ _ (by decide), mU_n _ _ _ (by decide)]
        · rw [mG_n _ _ _ _ (by decide), mU_n _ _ _ (by decide)]
        · have e2 : mG (mU μ 2 (ix r) n) 1 (40 * ix r) 40 (fun _ => 0) 2 (ix r) = n := by rw [mG_n _ _ _ _ (by decide), mU_e, if_pos rfl, if_pos rfl]
          rw [e2]
          refine ⟨?_, by omega, by omega, fun i hi => ?_⟩
          · unfold m_fill; rw [mF_n _ _ _ (by omega), mU_e, if_pos rfl, if_pos rfl, em]
          · unfold m_fill
            rw [mF_e, if_pos rfl, em, if_pos (by omega), mG_e, if_pos rfl, if_pos (by omega)]
  · rw [if_neg hr, if_neg hr]; exact Ag.same h _
