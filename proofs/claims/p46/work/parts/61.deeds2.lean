/-! level 2: sit, down, lace, stone, year -/
theorem Ag_deed {σ μ ν : Mem} {d v : Int32} (h : Rl σ μ) (hm : ∀ q, q ≠ 11 → ν q = w_rem μ q)
    (hs : SEq (vP σ 33) (vS (m_apply (m_add σ 25 d) 45 d) 45) (sM ν 11)) (ho : seatsOk (pM μ) (sM ν 11)) (hv : a_apply (m_add σ 25 d) 45 d = v) : Ag (k_do σ d) (if μ 0 6 = 40 then (-2, μ) else (v, ν)) := by
  have c1 := h.2.2.2.1.1
  have c2 := h.2.2.2.1.2.1
  have k40 : (40 : Int32).toInt = 40 := by decide
  unfold k_do
  rw [c1]
  by_cases c : μ 0 6 = 40
  · rw [if_pos c, c, if_neg (by decide)]; exact Ag.same h _
  · have hne := i_ne c
    have hlt : (μ 0 6).toInt < 40 := by have := c2.2; omega
    rw [if_neg c, if_pos (i_ltI (by rw [k40]; exact hlt))]
    exact ⟨hv, Rl_deed h hlt hm hs ho⟩
theorem dc (w : Fin 5) (i : Fin 5) (k : Fin 4) : dCode (nI w) (nI i) (nI k) / 100 = nI w ∧ dI (dCode (nI w) (nI i) (nI k)) = nI i ∧ dK (dCode (nI w) (nI i) (nI k)) = nI k := by
  revert w i k; decide +kernel
theorem dc' {w i k : Int32} (hw : 0 ≤ w.toInt ∧ w.toInt < 5) (hi : 0 ≤ i.toInt ∧ i.toInt < 5) (hk : 0 ≤ k.toInt ∧ k.toInt < 4) : dCode w i k / 100 = w ∧ dI (dCode w i k) = i ∧ dK (dCode w i k) = k := by
  have q := dc ⟨ix w, ix_lt hw.1 hw.2⟩ ⟨ix i, ix_lt hi.1 hi.2⟩ ⟨ix k, ix_lt hk.1 hk.2⟩
  simp only [← ix_nI hw.1, ← ix_nI hi.1, ← ix_nI hk.1] at q
  exact q
theorem SEq_seat {P : PT} {σ μ : Mem} (h4 : nPl P ≤ 4) (hs : SEq P (vS σ 45) (sM μ 11)) {j : Nat} (hj : j < 5) (v : Int32) : SEq P (vS (mU σ 47 j v) 45) (sM (mU μ 11 (5 + j) v) 11) := by
  obtain ⟨x0, x1, x2, x3, x4⟩ := hs
  refine ⟨?_, ?_, ?_, fun k hk => ?_, fun i hi => ?_⟩
  · show mU σ 47 j v 45 0 = mU μ 11 (5 + j) v 11 4
    rw [mU_n _ _ _ (by decide), mU_e, if_pos rfl, if_neg (by omega)]; exact x0
  · show mU σ 47 j v 45 1 = mU μ 11 (5 + j) v 11 10
    rw [mU_n _ _ _ (by decide), mU_e, if_pos rfl, if_neg (by omega)]; exact x1
  · show mU σ 47 j v 45 2 = mU μ 11 (5 + j) v 11 11
    rw [mU_n _ _ _ (by decide), mU_e, if_pos rfl, if_neg (by omega)]; exact x2
  · show mU σ 47 j v 46 k = mU μ 11 (5 + j) v 11 k
    rw [mU_n _ _ _ (by decide), mU_e, if_pos rfl, if_neg (by omega)]; exact x3 k hk
  · show mU σ 47 j v 47 i = mU μ 11 (5 + j) v 11 (5 + i)
    rw [mU_e, if_pos rfl, mU_e, if_pos rfl]
    by_cases e : i = j
    · rw [if_pos e, if_pos (by omega)]
    · rw [if_neg e, if_neg (by omega)]; exact x4 i hi
theorem SEq_wear {P : PT} {σ μ : Mem} (hs : SEq P (vS σ 45) (sM μ 11)) {j : Nat} (hj : j < 4) (v : Int32) : SEq P (vS (mU σ 46 j v) 45) (sM (mU μ 11 j v) 11) := by
  obtain ⟨x0, x1, x2, x3, x4⟩ := hs
  refine ⟨?_, ?_, ?_, fun k hk => ?_, fun i hi => ?_⟩
  · show mU σ 46 j v 45 0 = mU μ 11 j v 11 4
    rw [mU_n _ _ _ (by decide), mU_e, if_pos rfl, if_neg (by omega)]; exact x0
  · show mU σ 46 j v 45 1 = mU μ 11 j v 11 10
    rw [mU_n _ _ _ (by decide), mU_e, if_pos rfl, if_neg (by omega)]; exact x1
  · show mU σ 46 j v 45 2 = mU μ 11 j v 11 11
    rw [mU_n _ _ _ (by decide), mU_e, if_pos rfl, if_neg (by omega)]; exact x2
  · show mU σ 46 j v 46 k = mU μ 11 j v 11 k
    rw [mU_e, if_pos rfl, mU_e, if_pos rfl]
    split
    · rfl
    · exact x3 k hk
  · show mU σ 46 j v 47 i = mU μ 11 j v 11 (5 + i)
    rw [mU_n _ _ _ (by decide), mU_e, if_pos rfl, if_neg (by omega)]; exact x4 i hi
theorem SEq_stone {P : PT} {σ μ : Mem} (h4 : nPl P ≤ 4) (h5 : nPe P ≤ 5) (hs : SEq P (vS σ 45) (sM μ 11)) (v : Int32) : SEq P (vS (mU σ 45 2 v) 45) (sM (mU μ 11 11 v) 11) := by
  obtain ⟨x0, x1, x2, x3, x4⟩ := hs
  refine ⟨?_, ?_, ?_, fun k hk => ?_, fun i hi => ?_⟩
  · show mU σ 45 2 v 45 0 = mU μ 11 11 v 11 4
    rw [mU_e, if_pos rfl, if_neg (by decide), mU_e, if_pos rfl, if_neg (by decide)]; exact x0
  · show mU σ 45 2 v 45 1 = mU μ 11 11 v 11 10
    rw [mU_e, if_pos rfl, if_neg (by decide), mU_e, if_pos rfl, if_neg (by decide)]; exact x1
  · show mU σ 45 2 v 45 2 = mU μ 11 11 v 11 11
    rw [mU_e, if_pos rfl, if_pos rfl, mU_e, if_pos rfl, if_pos rfl]
  · show mU σ 45 2 v 46 k = mU μ 11 11 v 11 k
    rw [mU_n _ _ _ (by decide), mU_e, if_pos rfl, if_neg (by omega)]; exact x3 k hk
  · show mU σ 45 2 v 47 i = mU μ 11 11 v 11 (5 + i)
    rw [mU_n _ _ _ (by decide), mU_e, if_pos rfl, if_neg (by omega)]; exact x4 i hi
/-- seats when fallen ones are the same -/
theorem seatsOk_u {P S T : PT} (h0 : T 0 0 = S 0 0) (h : ∀ i, i < nPe P → S 2 i = -9 ∨ a_isUp P S (S 2 i) = true) (ht : ∀ i, i < nPe P → T 2 i = S 2 i ∨ T 2 i = -9 ∨ a_isUp P S (T 2 i) = true) : seatsOk P T := fun i hi => by
  have e : ∀ k, a_isUp P T k = a_isUp P S k := fun k => a_isUp_c h0
  rw [e]
  rcases ht i hi with q | q | q
  · rw [q]; exact h i hi
  · exact Or.inl q
  · exact Or.inr q
theorem seat_e {σ μ : Mem} (h : Rl σ μ) {i : Int32} (hi : a_isOne (pM μ) i = true) : a_isSeated (vP σ 33) (vS σ 45) i = !decide (μ 11 (5 + ix i) = -9) := by
  rw [pe_isSeated h.1.1 h.2.2.2.1.2.2.1]
  unfold a_isSeated
  rw [hi, Bool.true_and]; rfl
theorem op_sit {σ μ : Mem} (h : Rl σ μ) (i k : Int32) : Ag (k_sit σ i k) (n_sit μ i k) := by
  have hp := h.1.1
  have hs := h.2.2.2.1.2.2.1
  obtain ⟨b4, b5⟩ := RlP_45 h.1
  unfold k_sit n_sit
  rw [pe_isOne hp, pe_isPole hp]
  by_cases c1 : a_isOne (pM μ) i = true
  · rw [if_pos c1, if_pos c1]
    by_cases c2 : a_isPole (pM μ) k = true
    · rw [if_pos c2, if_pos c2, seat_e h c1]
      by_cases c3 : μ 11 (5 + ix i) = -9
      · rw [if_pos c3, decide_eq_true c3, if_neg (by decide), pe_isUp hp hs]
        by_cases c4 : a_isUp (pM μ) (sM μ 11) k = true
        · rw [if_pos c4, if_pos c4]
          have t1 := isOne_t c1
          have t2 := isPole_t c2
          obtain ⟨d1, d2, d3⟩ := dc' (w := 0) (i := i) (k := k) (by decide) ⟨t1.1, t1.2.2⟩ ⟨t2.1, t2.2.2⟩
          have hi5 := ix_toInt t1.1
          have hvP : vP (m_add σ 25 (dCode 0 i k)) 33 = vP σ 33 := vP_eq fun q hq => m_add_n _ _ _ (by omega) (by omega)
          have hv45 : vS (m_add σ 25 (dCode 0 i k)) 45 = vS σ 45 := vS_of fun q q1 q2 => m_add_n _ _ _ (by omega) (by omega)
          have eg : m_goUp (m_add σ 25 (dCode 0 i k)) 45 i k = mU (m_add σ 25 (dCode 0 i k)) 47 (ix i) k := by
            unfold m_goUp; rw [hvP, pe_isOne hp, if_pos c1]
          have ea : m_apply (m_add σ 25 (dCode 0 i k)) 45 (dCode 0 i k) = mU (m_add σ 25 (dCode 0 i k)) 47 (ix i) k := by
            unfold m_apply; rw [d1, if_pos rfl, d2, d3, eg]
          have sq : SEq (vP σ 33) (vS (mU (m_add σ 25 (dCode 0 i k)) 47 (ix i) k) 45) (sM (u_sit μ i k) 11) :=
            SEq_seat b4 (by rw [hv45, sM_rem]; exact hs) (by omega) k
          refine Ag_deed h (fun q hq => mU_n _ _ _ hq) (by rw [ea]; exact sq) ?_ ?_
          · refine seatsOk_u (S := sM μ 11) ?_ h.2.2.2.1.2.2.2.2.1 (fun j hj => ?_)
            · show mU (w_rem μ) 11 (5 + ix i) k 11 4 = μ 11 4
              rw [mU_e, if_pos rfl, if_neg (by omega), w_rem_n _ (by decide)]
            · show mU (w_rem μ) 11 (5 + ix i) k 11 (5 + j) = μ 11 (5 + j) ∨ mU (w_rem μ) 11 (5 + ix i) k 11 (5 + j) = -9 ∨ a_isUp (pM μ) (sM μ 11) (mU (w_rem μ) 11 (5 + ix i) k 11 (5 + j)) = true
              rw [mU_e, if_pos rfl]
              split
              · exact Or.inr (Or.inr c4)
              · rw [w_rem_n _ (by decide)]; exact Or.inl rfl
          · unfold a_apply
            rw [d1, if_pos rfl, d2, d3, eg]
            have ev : vP (mU (m_add σ 25 (dCode 0 i k)) 47 (ix i) k) 33 = vP σ 33 := by rw [vP_mU _ _ _ (by decide), hvP]
            rw [ev]
            exact pe_load hp sq k
        · rw [if_neg c4, if_neg c4]; exact Ag.same h _
      · rw [if_neg c3, decide_eq_false c3, if_pos (by decide)]; exact Ag.same h _
    · rw [if_neg c2, if_neg c2]; exact Ag.same h _
  · rw [if_neg c1, if_neg c1]; exact Ag.same h _
theorem op_down {σ μ : Mem} (h : Rl σ μ) (i : Int32) : Ag (k_down σ i) (n_down μ i) := by
  have hp := h.1.1
  have hs := h.2.2.2.1.2.2.1
  obtain ⟨b4, b5⟩ := RlP_45 h.1
  unfold k_down n_down
  rw [pe_isOne hp]
  by_cases c1 : a_isOne (pM μ) i = true
  · rw [if_pos c1, if_pos c1, seat_e h c1]
    by_cases c3 : μ 11 (5 + ix i) = -9
    · rw [if_pos c3, decide_eq_true c3, if_neg (by decide)]; exact Ag.same h _
    · rw [if_neg c3, decide_eq_false c3, if_pos (by decide)]
      have t1 := isOne_t c1
      obtain ⟨d1, d2, d3⟩ := dc' (w := 1) (i := i) (k := 0) (by decide) ⟨t1.1, t1.2.2⟩ (by decide)
      have hi5 := ix_toInt t1.1
      have hvP : vP (m_add σ 25 (dCode 1 i 0)) 33 = vP σ 33 := vP_eq fun q hq => m_add_n _ _ _ (by omega) (by omega)
      have hv45 : vS (m_add σ 25 (dCode 1 i 0)) 45 = vS σ 45 := vS_of fun q q1 q2 => m_add_n _ _ _ (by omega) (by omega)
      have ea : m_apply (m_add σ 25 (dCode 1 i 0)) 45 (dCode 1 i 0) = mU (m_add σ 25 (dCode 1 i 0)) 47 (ix i) (-9) := by
        unfold m_apply; rw [d1, if_neg (by decide), if_pos rfl, d2]; unfold m_down; rw [hvP, pe_isOne hp, if_pos c1]
      have sq : SEq (vP σ 33) (vS (mU (m_add σ 25 (dCode 1 i 0)) 47 (ix i) (-9)) 45) (sM (mU (w_rem μ) 11 (5 + ix i) (-9)) 11) :=
        SEq_seat b4 (by rw [hv45, sM_rem]; exact hs) (by omega) (-9)
      refine Ag_deed h (fun q hq => mU_n _ _ _ hq) (by rw [ea]; exact sq) ?_ ?_
      · refine seatsOk_u (S := sM μ 11) ?_ h.2.2.2.1.2.2.2.2.1 (fun j hj => ?_)
        · show mU (w_rem μ) 11 (5 + ix i) (-9) 11 4 = μ 11 4
          rw [mU_e, if_pos rfl, if_neg (by omega), w_rem_n _ (by decide)]
        · show mU (w_rem μ) 11 (5 + ix i) (-9) 11 (5 + j) = μ 11 (5 + j) ∨ mU (w_rem μ) 11 (5 + ix i) (-9) 11 (5 + j) = -9 ∨ a_isUp (pM μ) (sM μ 11) (mU (w_rem μ) 11 (5 + ix i) (-9) 11 (5 + j)) = true
          rw [mU_e, if_pos rfl]
          split
          · exact Or.inr (Or.inl rfl)
          · rw [w_rem_n _ (by decide)]; exact Or.inl rfl
      · unfold a_apply
        rw [d1, if_neg (by decide), if_pos rfl, d2, hvP, hv45]
        unfold a_down
        rw [pe_isOne hp, if_pos c1, pe_high hp, hs.2.2.2.2 _ (by rw [hp.pe]; exact isOne_ix c1)]; rfl
  · rw [if_neg c1, if_neg c1]; exact Ag.same h _
theorem op_lace {σ μ : Mem} (h : Rl σ μ) (k : Int32) : Ag (k_lace σ k) (n_lace μ k) := by
  have hp := h.1.1
  have hs := h.2.2.2.1.2.2.1
  obtain ⟨b4, b5⟩ := RlP_45 h.1
  unfold k_lace n_lace
  rw [pe_isPole hp]
  by_cases c2 : a_isPole (pM μ) k = true
  · rw [if_pos c2, if_pos c2, pe_isUp hp hs]
    by_cases c4 : a_isUp (pM μ) (sM μ 11) k = true
    · rw [if_pos c4, if_pos c4]
      have t2 := isPole_t c2
      obtain ⟨d1, d2, d3⟩ := dc' (w := 2) (i := 0) (k := k) (by decide) (by decide) ⟨t2.1, t2.2.2⟩
      have hk4 := ix_toInt t2.1
      have hvP : vP (m_add σ 25 (dCode 2 0 k)) 33 = vP σ 33 := vP_eq fun q hq => m_add_n _ _ _ (by omega) (by omega)
      have hv45 : vS (m_add σ 25 (dCode 2 0 k)) 45 = vS σ 45 := vS_of fun q q1 q2 => m_add_n _ _ _ (by omega) (by omega)
      have ea : m_apply (m_add σ 25 (dCode 2 0 k)) 45 (dCode 2 0 k) = mU (m_add σ 25 (dCode 2 0 k)) 46 (ix k) 0 := by
        unfold m_apply; rw [d1, if_neg (by decide), if_neg (by decide), if_pos rfl, d3]; unfold m_renew; rw [hvP, pe_isPole hp, if_pos c2]
      have sq : SEq (vP σ 33) (vS (mU (m_add σ 25 (dCode 2 0 k)) 46 (ix k) 0) 45) (sM (mU (w_rem μ) 11 (ix k) 0) 11) :=
        SEq_wear (by rw [hv45, sM_rem]; exact hs) (by omega) 0
      refine Ag_deed h (fun q hq => mU_n _ _ _ hq) (by rw [ea]; exact sq) ?_ ?_
      · refine seatsOk_u (S := sM μ 11) ?_ h.2.2.2.1.2.2.2.2.1 (fun j hj => Or.inl ?_)
        · show mU (w_rem μ) 11 (ix k) 0 11 4 = μ 11 4
          rw [mU_e, if_pos rfl, if_neg (by omega), w_rem_n _ (by decide)]
        · show mU (w_rem μ) 11 (ix k) 0 11 (5 + j) = μ 11 (5 + j)
          rw [mU_e, if_pos rfl, if_neg (by omega), w_rem_n _ (by decide)]
      · unfold a_apply
        rw [d1, if_neg (by decide), if_neg (by decide), if_pos rfl, d3, hvP, hv45]
        unfold a_renew
        rw [pe_isPole hp, if_pos c2, hs.2.2.2.1 _ (by rw [hp.pl]; exact isPole_ix c2)]; rfl
    · rw [if_neg c4, if_neg c4]; exact Ag.same h _
  · rw [if_neg c2, if_neg c2]; exact Ag.same h _
theorem b_no1 {μ : Mem} (hd : DM μ) : b_no μ 1 = if μ 0 4 = 0 then -4 else if μ 0 6 = 40 then -2 else 0 := by
  unfold b_no
  have e1 : (μ 0 6 + 1).toInt = (μ 0 6).toInt + 1 := by rw [add_i (by have := hd.1; have := hd.2; omega) (by decide)]; rfl
  have k40 : (40 : Int32).toInt = 40 := by decide
  by_cases c0 : μ 0 4 = 0
  · rw [if_pos c0, if_pos c0]
  · rw [if_neg c0, if_neg c0]
    by_cases c : μ 0 6 = 40
    · rw [if_pos c, c, if_pos (by decide)]
    · have hne := i_ne c
      rw [if_neg c, if_neg (fun q => by have := i_lt q; have := hd.2; omega)]
theorem op_stone {σ μ : Mem} (h : Rl σ μ) : Ag (k_stone σ) (n_stone μ) := by
  have hs := h.2.2.2.1.2.2.1
  obtain ⟨b4, b5⟩ := RlP_45 h.1
  unfold k_stone n_stone
  rw [pl_0 h, b_no1 h.2.2.2.1.2.1]
  by_cases c : μ 0 4 = 0
  · rw [if_pos c, if_pos c, if_neg (by decide)]; exact Ag.same h _
  · rw [if_neg c, if_neg c]
    have hvP : vP (m_add σ 25 (dCode 3 0 0)) 33 = vP σ 33 := vP_eq fun q hq => m_add_n _ _ _ (by omega) (by omega)
    have hv45 : vS (m_add σ 25 (dCode 3 0 0)) 45 = vS σ 45 := vS_of fun q q1 q2 => m_add_n _ _ _ (by omega) (by omega)
    have e45 : m_add σ 25 (dCode 3 0 0) 45 2 = μ 11 11 := by rw [m_add_n _ _ _ (by decide) (by decide)]; exact hs.2.2.1
    have d1 : dCode 3 0 0 / 100 = 3 := by decide
    have ea : m_apply (m_add σ 25 (dCode 3 0 0)) 45 (dCode 3 0 0) = mU (m_add σ 25 (dCode 3 0 0)) 45 2 (μ 11 11 + 1) := by
      unfold m_apply; rw [d1, if_neg (by decide), if_neg (by decide), if_neg (by decide), if_pos rfl, e45]
    have sq : SEq (vP σ 33) (vS (mU (m_add σ 25 (dCode 3 0 0)) 45 2 (μ 11 11 + 1)) 45) (sM (mU (w_rem μ) 11 11 (μ 11 11 + 1)) 11) :=
      SEq_stone b4 b5 (by rw [hv45, sM_rem]; exact hs) _
    have q := Ag_deed (v := μ 11 11 + 1) h (fun q hq => mU_n _ _ _ hq) (by rw [ea]; exact sq) (by
      refine seatsOk_u (S := sM μ 11) ?_ h.2.2.2.1.2.2.2.2.1 (fun j hj => Or.inl ?_)
      · show mU (w_rem μ) 11 11 (μ 11 11 + 1) 11 4 = μ 11 4
        rw [mU_e, if_pos rfl, if_neg (by omega), w_rem_n _ (by decide)]
      · show mU (w_rem μ) 11 11 (μ 11 11 + 1) 11 (5 + j) = μ 11 (5 + j)
        have hp5 := (PB_pe h.1.2.1).2.1
        rw [mU_e, if_pos rfl, if_neg (by omega), w_rem_n _ (by decide)]) (by
      unfold a_apply
      rw [d1, if_neg (by decide), if_neg (by decide), if_neg (by decide), if_pos rfl, e45])
    by_cases c6 : μ 0 6 = 40
    · rw [if_pos c6] at q; rw [if_pos c6, if_neg (by decide)]; exact q
    · rw [if_neg c6] at q; rw [if_neg c6, if_pos rfl]; exact q
theorem has_or (x y : Int32) (k : Int32) : b_has (x ||| y) k = (b_has x k || b_has y k) := by
  have e : ((x ||| y) >>> (k &&& 31)) &&& 1 = ((x >>> (k &&& 31)) &&& 1) ||| ((y >>> (k &&& 31)) &&& 1) := by
    apply Int32.toBitVec_inj.mp
    simp only [Int32.toBitVec_and, Int32.toBitVec_or, Int32.toBitVec_shiftRight, BitVec.sshiftRight_eq', BitVec.sshiftRight_or_distrib]
    generalize BitVec.sshiftRight _ _ = a
    generalize BitVec.sshiftRight _ _ = b
    ext j hj
    simp only [BitVec.getElem_and, BitVec.getElem_or]
    cases a[j] <;> cases b[j] <;> cases (Int32.toBitVec 1)[j] <;> rfl
  unfold b_has
  rw [e]
  rcases and1c (x >>> (k &&& 31)) with q | q <;> rcases and1c (y >>> (k &&& 31)) with w | w <;> rw [q, w] <;> decide
theorem year_ok {P : PT} (hpb : PB P) {μ : Mem} {t : Nat} (h : seatsOk P (sM μ t)) : seatsOk P (sM (w_year P μ t) t) := by
  obtain ⟨z0, z1, z2, z3, z4⟩ := sM_year hpb μ t
  intro i hi
  rw [z4 i hi, yseat_b]
  rcases h i hi with q | q
  · left
    unfold a_isSeated
    have h5 := (PB_pe hpb).2.1
    rw [ix_of (by omega), q, if_neg (by simp)]
  · by_cases c : a_isSeated P (sM μ t) (nI i) = true
    · rw [if_pos c]
      by_cases d : b_has (y_gave P (sM μ t)) (sM μ t 2 i) = true
      · rw [if_pos d]; exact Or.inl rfl
      · rw [if_neg d]
        right
        have hk := up_of_seat q
        rw [up_has hk] at q
        rw [up_has hk, z0, has_or]
        cases w : b_has (sM μ t 0 0) (sM μ t 2 i) with
        | true => rw [w] at q; cases q
        | false =>
          cases w2 : b_has (y_gave P (sM μ t)) (sM μ t 2 i) with
          | true => exact absurd w2 d
          | false => rfl
    · rw [if_neg c]
      left
      unfold a_isSeated at c
      have h5 := (PB_pe hpb).2.1
      rw [one_nI hpb hi, ix_of (by omega), Bool.true_and] at c
      apply Decidable.byContradiction
      intro hn
      exact c (by rw [decide_eq_false hn]; rfl)
theorem op_year {σ μ : Mem} (h : Rl σ μ) : Ag (k_year σ) (n_year μ) := by
  have hp := h.1.1
  have hs := h.2.2.2.1.2.2.1
  unfold k_year n_year
  rw [pl_0 h, b_no1 h.2.2.2.1.2.1]
  by_cases c : μ 0 4 = 0
  · rw [if_pos c, if_pos c, if_neg (by decide)]; exact Ag.same h _
  · rw [if_neg c, if_neg c]
    have hvP : vP (m_add σ 25 (dCode 4 0 0)) 33 = vP σ 33 := vP_eq fun q hq => m_add_n _ _ _ (by omega) (by omega)
    have hv45 : vS (m_add σ 25 (dCode 4 0 0)) 45 = vS σ 45 := vS_of fun q q1 q2 => m_add_n _ _ _ (by omega) (by omega)
    have d1 : dCode 4 0 0 / 100 = 4 := by decide
    have ea : m_apply (m_add σ 25 (dCode 4 0 0)) 45 (dCode 4 0 0) = m_year (m_add σ 25 (dCode 4 0 0)) 45 := by
      unfold m_apply; rw [d1, if_neg (by decide), if_neg (by decide), if_neg (by decide), if_neg (by decide)]
    have yr := year_rel (σ := m_add σ 25 (dCode 4 0 0)) (μ := w_rem μ) (Q := pM μ) (o := 45) (t := 11) (by rw [hvP]; exact hp) h.1.2.1 h.1.2.2.1 (by rw [hvP, hv45, sM_rem]; exact hs)
    rw [hvP, hv45, sM_rem] at yr
    have q := Ag_deed (v := y_gave (pM μ) (sM μ 11)) (ν := w_year (pM μ) (w_rem μ) 11) h (fun q hq => w_year_n _ _ hq) (by rw [ea]; exact yr.1) (year_ok h.1.2.1 (by rw [sM_rem]; exact h.2.2.2.1.2.2.2.2.1)) (by
      unfold a_apply
      rw [d1, if_neg (by decide), if_neg (by decide), if_neg (by decide), if_neg (by decide), hvP, hv45]
      exact yr.2)
    by_cases c6 : μ 0 6 = 40
    · rw [if_pos c6] at q; rw [if_pos c6, if_neg (by decide)]; exact q
    · rw [if_neg c6] at q; rw [if_neg c6, if_pos rfl]; exact q
