/-! level 2: undo, keep, on -/
theorem sA_M {μ ν : Mem} {a b c d : Nat} {P : PT} (h4 : nPl P ≤ 4) (h5 : nPe P ≤ 5) (h : ∀ k, k < 12 → ν a (b + k) = μ c (d + k)) : SEq P (sA ν a b) (sA μ c d) :=
  ⟨h 4 (by decide), h 10 (by decide), h 11 (by decide), fun k hk => h k (by omega), fun i hi => h (5 + i) (by omega)⟩
theorem sM_A {μ ν : Mem} {a c d : Nat} {P : PT} (h4 : nPl P ≤ 4) (h5 : nPe P ≤ 5) (h : ∀ k, k < 12 → ν a k = μ c (d + k)) : SEq P (sM ν a) (sA μ c d) :=
  ⟨h 4 (by decide), h 10 (by decide), h 11 (by decide), fun k hk => h k (by omega), fun i hi => h (5 + i) (by omega)⟩
theorem op_undo {σ μ : Mem} (h : Rl σ μ) (n : Int32) : Ag (k_undo σ n) (n_undo μ n) := by
  have hd := h.2.2.2.1.2.1
  have hb : b_in n.toInt64 0 (μ 0 6).toInt64 = true ↔ ¬ n < 0 ∧ ¬ μ 0 6 < n := bin_iff (by decide) (by rw [Int32.toInt_toInt64])
  obtain ⟨a1, a2, a3, a4, a5⟩ := h
  obtain ⟨b4, b5⟩ := RlP_45 a1
  obtain ⟨c1, c2, c3, c4, c5, c6⟩ := a4
  unfold k_undo n_undo
  rw [c1]
  by_cases n0 : n < 0
  · rw [if_pos n0, if_neg (fun q => (hb.mp q).1 n0)]; exact ⟨rfl, a1, a2, a3, ⟨c1, c2, c3, c4, c5, c6⟩, a5⟩
  · rw [if_neg n0]
    by_cases n1 : μ 0 6 < n
    · rw [if_pos n1, if_neg (fun q => (hb.mp q).2 n1)]; exact ⟨rfl, a1, a2, a3, ⟨c1, c2, c3, c4, c5, c6⟩, a5⟩
    · rw [if_neg n1, if_pos (hb.mpr ⟨n0, n1⟩)]
      refine ⟨rfl, ?_⟩
      have e0 := i_nlt n0
      have e1 := i_nlt n1
      rw [show (0 : Int32).toInt = 0 by decide] at e0
      have hd0 := hd.1
      have hd1 := hd.2
      have hN := ix_toInt hd.1
      have hn := ix_toInt e0
      have er : m_replay (mU σ 25 0 n) = rpl (mU σ 25 0 n) 26 (ix n) := by
        unfold m_replay
        rw [rpl_26, mU_e, if_pos rfl, if_pos rfl, Nat.min_eq_left (by omega)]
      show Rl (m_replay (mU σ 25 0 n)) (mU (if 0 < μ 0 6 - n then mG μ 11 0 12 (fun k => μ 13 (12 * ix n + k)) else μ) 0 6 n)
      rw [er]
      have hx : ∀ q, q ≠ 45 → q ≠ 46 → q ≠ 47 → q ≠ 25 → rpl (mU σ 25 0 n) 26 (ix n) q = σ q := fun q q1 q2 q3 q4 => by rw [rpl_n _ _ q1 q2 q3, mU_n _ _ _ q4]
      have hx25 : rpl (mU σ 25 0 n) 26 (ix n) 25 0 = n := by rw [rpl_n _ _ (by decide) (by decide) (by decide), mU_e, if_pos rfl, if_pos rfl]
      have hvP : vP (mU σ 25 0 n) 33 = vP σ 33 := vP_mU _ _ _ (by decide)
      have r1 : SEq (vP σ 33) (vS (rpl (mU σ 25 0 n) 26 (ix n)) 45) (vS (rpl σ 26 (ix n)) 45) := by
        have q := rpl_c (σ := mU σ 25 0 n) (τ := σ) (C := 26) (C' := 26) (by rw [hvP]; exact PEq.rfl') (by rw [hvP]; exact b4) (by rw [hvP]; exact b5) (ix n) (fun j _ => by rw [mU_n _ _ _ (by decide)])
        rw [hvP] at q; exact q
      generalize rpl (mU σ 25 0 n) 26 (ix n) = τ at hx hx25 r1 ⊢
      have ev : vP τ 33 = vP σ 33 := vP_eq fun q hq => hx _ (by omega) (by omega) (by omega) (by omega)
      have r2 : ∀ j, SEq (vP σ 33) (vS (rpl τ 26 j) 45) (vS (rpl σ 26 j) 45) := fun j => by
        have q := rpl_c (σ := τ) (τ := σ) (C := 26) (C' := 26) (by rw [ev]; exact PEq.rfl') (by rw [ev]; exact b4) (by rw [ev]; exact b5) j (fun i _ => by rw [hx 26 (by decide) (by decide) (by decide) (by decide)])
        rw [ev] at q; exact q
      have es : (μ 0 6 - n).toInt = (μ 0 6).toInt - n.toInt := sub_i ⟨hd0, by omega⟩ ⟨e0, by omega⟩
      -- the model's memory
      have hν : ∃ ν, ν = mU (if 0 < μ 0 6 - n then mG μ 11 0 12 (fun k => μ 13 (12 * ix n + k)) else μ) 0 6 n ∧ (∀ q, q ≠ 0 → q ≠ 11 → ν q = μ q) ∧ (∀ j, j ≠ 6 → ν 0 j = μ 0 j) ∧ ν 0 6 = n ∧
          SEq (vP σ 33) (vS τ 45) (sM ν 11) ∧ seatsOk (pM μ) (sM ν 11) := by
        refine ⟨_, rfl, fun q q0 q11 => ?_, fun j hj => ?_, ?_, ?_⟩
        · rw [mU_n _ _ _ q0]; split
          · exact mG_n _ _ _ _ q11
          · rfl
        · rw [mU_e, if_pos rfl, if_neg hj]; split
          · rw [mG_n _ _ _ _ (by decide)]
          · rfl
        · rw [mU_e, if_pos rfl, if_pos rfl]
        · by_cases w : 0 < μ 0 6 - n
          · rw [if_pos w]
            have w1 := i_lt w
            rw [show (0 : Int32).toInt = 0 by decide, es] at w1
            obtain ⟨s1, s2⟩ := c6 (ix n) (by omega)
            have s3 : SEq (vP σ 33) (sM (mU (mG μ 11 0 12 (fun k => μ 13 (12 * ix n + k))) 0 6 n) 11) (sA μ 13 (12 * ix n)) := sM_A b4 b5 fun k hk => by
              rw [mU_n _ _ _ (by decide), mG_e, if_pos rfl, if_pos (by omega), Nat.sub_zero]
            exact ⟨r1.tr (s1.tr s3.sy), seatsOk_c (s3.of a1.1).sy s2⟩
          · rw [if_neg w]
            have w1 := i_nlt w
            rw [show (0 : Int32).toInt = 0 by decide, es] at w1
            have en : ix n = ix (μ 0 6) := by omega
            rw [sM_eq (mU_n μ 6 n (show (11 : Nat) ≠ 0 by decide))]
            rw [en] at r1
            exact ⟨r1.tr (c4.sy.tr c3), c5⟩
      obtain ⟨ν, hν0, m1, m2, m3, m4, m5⟩ := hν
      rw [← hν0]
      have em : pM ν = pM μ := pM_eq (m2 4 (by decide)) (m2 5 (by decide)) (fun q _ _ => m1 q (by omega) (by omega))
      refine ⟨RlP_n a1 (fun q _ _ => hx q (by omega) (by omega) (by omega) (by omega)) (m2 4 (by decide)) em, ?_, ?_, ?_, ?_⟩
      · refine RlR_n a2 (fun q q5 q24 => ?_) (fun q q1 q4 => m1 q (by omega) (by omega))
        exact hx q (by omega) (by omega) (by omega) (by omega)
      · obtain ⟨t1, t2, t3, t4, t5⟩ := a3
        unfold RlT
        rw [hx 0 (by decide) (by decide) (by decide) (by decide), hx 4 (by decide) (by decide) (by decide) (by decide), m2 0 (by decide), m2 1 (by decide), m2 2 (by decide), m2 3 (by decide), m1 5 (by decide) (by decide)]
        exact ⟨t1, t2, t3, t4, t5⟩
      · unfold RlD
        rw [m3, ev, em]
        refine ⟨hx25, ?_, m4, ?_, m5, fun j hj => ?_⟩
        · unfold DM; rw [m3]; omega
        · exact r1.tr (r2 _).sy
        · obtain ⟨s1, s2⟩ := c6 j (by omega)
          have eA : SEq (vP σ 33) (sA ν 13 (12 * j)) (sA μ 13 (12 * j)) := sA_M b4 b5 fun k hk => by rw [m1 13 (by decide) (by decide)]
          exact ⟨(r2 j).tr (s1.tr eA.sy), seatsOk_c (eA.of a1.1).sy s2⟩
      · exact RlK_n a1 a5 (fun q hq => hx q (by omega) (by omega) (by omega) (by omega)) (m1 14 (by decide) (by decide)) em
theorem in3 {k : Int32} : a_in k 3 = b_in k.toInt64 0 2 := by
  apply Bool.eq_iff_iff.mpr
  unfold a_in b_in
  simp only [Bool.and_eq_true, Bool.not_eq_true', decide_eq_false_iff_not, decide_eq_true_eq, Int64.lt_iff_toInt_lt, Int32.lt_iff_toInt_lt, Int32.toInt_toInt64, show (0 : Int32).toInt = 0 by decide, show (3 : Int32).toInt = 3 by decide, show (0 : Int64).toInt = 0 by decide, show (2 : Int64).toInt = 2 by decide]
  omega
theorem op_keep {σ μ : Mem} (h : Rl σ μ) (k : Int32) : Ag (k_keep σ k) (n_keep μ k) := by
  unfold k_keep n_keep
  rw [← in3]
  by_cases ck : a_in k 3 = true
  · rw [if_pos ck, if_pos ck, pl_0 h]
    by_cases c : μ 0 4 = 0
    · rw [if_pos c, if_pos c]; exact Ag.same h _
    · rw [if_neg c, if_neg c]
      have hk := in_ix ck
      rw [show (3 : Int32).toInt = 3 by decide] at hk
      have hk3 : ix k < 3 := by omega
      generalize ix k = K at hk3 ⊢
      obtain ⟨a1, a2, a3, a4, a5⟩ := h
      obtain ⟨b4, b5⟩ := RlP_45 a1
      obtain ⟨c1, c2, c3, c4, c5, c6⟩ := a4
      have hd0 := c2.1
      have hd1 := c2.2
      have hN := ix_toInt c2.1
      have hx : ∀ q, q ≠ 27 + 2 * K → q ≠ 27 + 2 * K + 1 → m_takeD σ (27 + 2 * K) 25 q = σ q := fun q q1 q2 => m_takeD_n _ _ _ q1 q2
      have hx0 : m_takeD σ (27 + 2 * K) 25 (27 + 2 * K) 0 = μ 0 6 := by unfold m_takeD; rw [mF_n _ _ _ (by omega), mU_e, if_pos rfl, if_pos rfl, c1]
      have hx1 : ∀ j, j < ix (μ 0 6) → m_takeD σ (27 + 2 * K) 25 (27 + 2 * K + 1) j = σ 26 j := fun j hj => by
        unfold m_takeD; rw [mF_e, if_pos rfl, if_pos (by rw [c1]; omega)]
      have e25 : m_takeD σ (27 + 2 * K) 25 25 0 = μ 0 6 := by rw [hx 25 (by omega) (by omega)]; exact c1
      rw [e25]
      refine ⟨rfl, ?_⟩
      show Rl (m_takeD σ (27 + 2 * K) 25) (u_keep μ K)
      generalize m_takeD σ (27 + 2 * K) 25 = τ at hx hx0 hx1 ⊢
      have m1 : ∀ q, q ≠ 14 → u_keep μ K q = μ q := fun q hq => by unfold u_keep; rw [mG_n _ _ _ _ hq, mG_n _ _ _ _ hq, mU_n _ _ _ hq]
      have m0 : u_keep μ K 14 (493 * K) = μ 0 6 := by
        unfold u_keep; rw [mG_e, if_pos rfl, if_neg (by omega), mG_e, if_pos rfl, if_neg (by omega), mU_e, if_pos rfl, if_pos rfl]
      have m2 : ∀ q, q < 12 → u_keep μ K 14 (493 * K + 1 + q) = μ 11 q := fun q hq => by
        unfold u_keep; rw [mG_e, if_pos rfl, if_neg (by omega), mG_e, if_pos rfl, if_pos (by omega), show 0 + (493 * K + 1 + q - (493 * K + 1)) = q by omega]
      have m3 : ∀ q, q < 480 → u_keep μ K 14 (493 * K + 13 + q) = μ 13 q := fun q hq => by
        unfold u_keep; rw [mG_e, if_pos rfl, if_pos (by omega), show 0 + (493 * K + 13 + q - (493 * K + 1 + 12)) = q by omega]
      have m4 : ∀ q, (q < 493 * K ∨ 493 * K + 493 ≤ q) → u_keep μ K 14 q = μ 14 q := fun q hq => by
        unfold u_keep; rw [mG_e, if_pos rfl, if_neg (by omega), mG_e, if_pos rfl, if_neg (by omega), mU_e, if_pos rfl, if_neg (by omega)]
      generalize u_keep μ K = ν at m0 m1 m2 m3 m4 ⊢
      have em : pM ν = pM μ := pM_n (m1 0 (by decide)) (fun q _ _ => m1 q (by omega))
      have ev : vP τ 33 = vP σ 33 := vP_eq fun q hq => hx _ (by omega) (by omega)
      refine ⟨RlP_n a1 (fun q _ _ => hx q (by omega) (by omega)) (by rw [m1 0 (by decide)]) em, RlR_n a2 (fun q _ _ => hx q (by omega) (by omega)) (fun q _ _ => m1 q (by omega)), ?_,
        RlD_n a1 ⟨c1, c2, c3, c4, c5, c6⟩ (fun q hq => hx q (by omega) (by omega)) (m1 11 (by decide)) (m1 13 (by decide)) (by rw [m1 0 (by decide)]) em, fun k' hk' => ?_⟩
      · unfold RlT
        rw [hx 0 (by omega) (by omega), hx 4 (by omega) (by omega), m1 0 (by decide), m1 5 (by decide)]
        exact a3
      · by_cases e : k' = K
        · subst e
          have er : ∀ j, j ≤ ix (μ 0 6) → SEq (vP σ 33) (vS (rpl τ (27 + 2 * k' + 1) j) 45) (vS (rpl σ 26 j) 45) := fun j hj => by
            have q := rpl_c (σ := τ) (τ := σ) (C := 27 + 2 * k' + 1) (C' := 26) (by rw [ev]; exact PEq.rfl') (by rw [ev]; exact b4) (by rw [ev]; exact b5) j (fun i hi => hx1 i (by omega))
            rw [ev] at q; exact q
          rw [m0, ev, em]
          refine ⟨hx0, by omega, by omega, fun _ => ⟨?_, ?_, fun j hj => ?_⟩⟩
          · have w : SEq (vP σ 33) (sM μ 11) (sA ν 14 (493 * k' + 1)) := sM_A b4 b5 fun q hq => (m2 q hq).symm
            exact (er _ (Nat.le_refl _)).tr (c4.sy.tr (c3.tr w))
          · have w : SEq (pM μ) (sM μ 11) (sA ν 14 (493 * k' + 1)) := sM_A (PB_pl a1.2.1).2.1 (PB_pe a1.2.1).2.1 fun q hq => (m2 q hq).symm
            exact seatsOk_c w c5
          · obtain ⟨s1, s2⟩ := c6 j hj
            have w : SEq (vP σ 33) (sA ν 14 (493 * k' + 13 + 12 * j)) (sA μ 13 (12 * j)) := sA_M b4 b5 fun q hq => by rw [Nat.add_assoc, m3 _ (by omega)]
            exact ⟨(er j (by omega)).tr (s1.tr w.sy), seatsOk_c (w.of a1.1).sy s2⟩
        · obtain ⟨s1, s2, s3, s4⟩ := a5 k' hk'
          have er : ∀ j, SEq (vP σ 33) (vS (rpl τ (27 + 2 * k' + 1) j) 45) (vS (rpl σ (27 + 2 * k' + 1) j) 45) := fun j => by
            have q := rpl_c (σ := τ) (τ := σ) (C := 27 + 2 * k' + 1) (C' := 27 + 2 * k' + 1) (by rw [ev]; exact PEq.rfl') (by rw [ev]; exact b4) (by rw [ev]; exact b5) j (fun i hi => by rw [hx (27 + 2 * k' + 1) (by omega) (by omega)])
            rw [ev] at q; exact q
          rw [m4 (493 * k') (by omega), hx (27 + 2 * k') (by omega) (by omega), ev, em]
          refine ⟨s1, s2, s3, fun h0 => ?_⟩
          obtain ⟨u1, u2, u3⟩ := s4 h0
          have w1 : SEq (vP σ 33) (sA ν 14 (493 * k' + 1)) (sA μ 14 (493 * k' + 1)) := sA_M b4 b5 fun q hq => m4 _ (by omega)
          refine ⟨(er _).tr (u1.tr w1.sy), seatsOk_c (w1.of a1.1).sy u2, fun j hj => ?_⟩
          obtain ⟨v1, v2⟩ := u3 j hj
          have w2 : SEq (vP σ 33) (sA ν 14 (493 * k' + 13 + 12 * j)) (sA μ 14 (493 * k' + 13 + 12 * j)) := sA_M b4 b5 fun q hq => m4 _ (by omega)
          exact ⟨(er j).tr (v1.tr w2.sy), seatsOk_c (w2.of a1.1).sy v2⟩
  · rw [if_neg ck, if_neg ck]; exact Ag.same h _
theorem op_on {σ μ : Mem} (h : Rl σ μ) (k : Int32) : Ag (k_on σ k) (n_on μ k) := by
  unfold k_on n_on
  rw [← in3]
  by_cases ck : a_in k 3 = true
  · rw [if_pos ck, if_pos ck]
    have hk := in_ix ck
    rw [show (3 : Int32).toInt = 3 by decide] at hk
    have hk3 : ix k < 3 := by omega
    generalize ix k = K at hk3 ⊢
    obtain ⟨s1, s2, s3, s4⟩ := h.2.2.2.2 K hk3
    rw [s1]
    have km : (-1 : Int32).toInt = -1 := by decide
    have k0 : (0 : Int32).toInt = 0 := by decide
    by_cases c : μ 14 (493 * K) < 0
    · have d := i_lt c
      rw [if_pos c, if_pos (i_eqI (by omega))]; exact Ag.found h (by decide) (by decide)
    · have d := i_nlt c
      rw [k0] at d
      rw [if_neg c, if_neg (fun q => by rw [q, km] at d; omega)]
      obtain ⟨a1, a2, a3, a4, a5⟩ := h
      obtain ⟨b4, b5⟩ := RlP_45 a1
      obtain ⟨u1, u2, u3⟩ := s4 d
      have hN := ix_toInt d
      have t25 : m_takeD σ 25 (27 + 2 * K) 25 0 = μ 14 (493 * K) := by unfold m_takeD; rw [mF_n _ _ _ (by omega), mU_e, if_pos rfl, if_pos rfl, s1]
      have t26 : ∀ j, j < ix (μ 14 (493 * K)) → m_takeD σ 25 (27 + 2 * K) 26 j = σ (27 + 2 * K + 1) j := fun j hj => by
        unfold m_takeD; rw [mF_e, if_pos rfl, if_pos (by rw [s1]; omega)]
      have tq : ∀ q, q ≠ 25 → q ≠ 26 → m_takeD σ 25 (27 + 2 * K) q = σ q := fun q q1 q2 => m_takeD_n _ _ _ q1 q2
      have er : m_replay (m_takeD σ 25 (27 + 2 * K)) = rpl (m_takeD σ 25 (27 + 2 * K)) 26 (ix (μ 14 (493 * K))) := by
        unfold m_replay
        rw [rpl_26, t25, Nat.min_eq_left (by omega)]
      rw [er]
      generalize m_takeD σ 25 (27 + 2 * K) = ρ at t25 t26 tq ⊢
      have hρ : vP ρ 33 = vP σ 33 := vP_eq fun q hq => tq _ (by omega) (by omega)
      have hx : ∀ q, q ≠ 45 → q ≠ 46 → q ≠ 47 → rpl ρ 26 (ix (μ 14 (493 * K))) q = ρ q := fun q q1 q2 q3 => rpl_n _ _ q1 q2 q3 _
      have e25 : rpl ρ 26 (ix (μ 14 (493 * K))) 25 0 = μ 14 (493 * K) := by rw [hx 25 (by decide) (by decide) (by decide)]; exact t25
      rw [e25]
      refine ⟨rfl, ?_⟩
      show Rl (rpl ρ 26 (ix (μ 14 (493 * K)))) (u_on μ K)
      have r1 : SEq (vP σ 33) (vS (rpl ρ 26 (ix (μ 14 (493 * K)))) 45) (vS (rpl σ (27 + 2 * K + 1) (ix (μ 14 (493 * K)))) 45) := by
        have q := rpl_c (σ := ρ) (τ := σ) (C := 26) (C' := 27 + 2 * K + 1) (by rw [hρ]; exact PEq.rfl') (by rw [hρ]; exact b4) (by rw [hρ]; exact b5) (ix (μ 14 (493 * K))) (fun j hj => t26 j hj)
        rw [hρ] at q; exact q
      generalize rpl ρ 26 (ix (μ 14 (493 * K))) = τ at hx e25 r1 ⊢
      have ev : vP τ 33 = vP σ 33 := (vP_eq fun q hq => hx _ (by omega) (by omega) (by omega)).trans hρ
      have r2 : ∀ j, j ≤ ix (μ 14 (493 * K)) → SEq (vP σ 33) (vS (rpl τ 26 j) 45) (vS (rpl σ (27 + 2 * K + 1) j) 45) := fun j hj => by
        have q := rpl_c (σ := τ) (τ := σ) (C := 26) (C' := 27 + 2 * K + 1) (by rw [ev]; exact PEq.rfl') (by rw [ev]; exact b4) (by rw [ev]; exact b5) j (fun i hi => by rw [hx 26 (by decide) (by decide) (by decide)]; exact t26 i (by omega))
        rw [ev] at q; exact q
      have hq : ∀ q, q ≠ 45 → q ≠ 46 → q ≠ 47 → q ≠ 25 → q ≠ 26 → τ q = σ q := fun q q1 q2 q3 q4 q5 => (hx q q1 q2 q3).trans (tq q q4 q5)
      have m1 : ∀ q, q ≠ 0 → q ≠ 11 → q ≠ 13 → u_on μ K q = μ q := fun q q0 q11 q13 => by unfold u_on; rw [mG_n _ _ _ _ q13, mG_n _ _ _ _ q11, mU_n _ _ _ q0]
      have m2 : ∀ j, j ≠ 6 → u_on μ K 0 j = μ 0 j := fun j hj => by unfold u_on; rw [mG_n _ _ _ _ (by decide), mG_n _ _ _ _ (by decide), mU_e, if_pos rfl, if_neg hj]
      have m6 : u_on μ K 0 6 = μ 14 (493 * K) := by unfold u_on; rw [mG_n _ _ _ _ (by decide), mG_n _ _ _ _ (by decide), mU_e, if_pos rfl, if_pos rfl]
      have m11 : ∀ q, q < 12 → u_on μ K 11 q = μ 14 (493 * K + 1 + q) := fun q hq => by
        unfold u_on; rw [mG_n _ _ _ _ (by decide), mG_e, if_pos rfl, if_pos (by omega), Nat.sub_zero]
      have m13 : ∀ q, q < 480 → u_on μ K 13 q = μ 14 (493 * K + 13 + q) := fun q hq => by
        unfold u_on; rw [mG_e, if_pos rfl, if_pos (by omega), Nat.sub_zero]
      generalize u_on μ K = ν at m1 m2 m6 m11 m13 ⊢
      have em : pM ν = pM μ := pM_eq (m2 4 (by decide)) (m2 5 (by decide)) (fun q _ _ => m1 q (by omega) (by omega) (by omega))
      have w1 : SEq (vP σ 33) (sM ν 11) (sA μ 14 (493 * K + 1)) := sM_A b4 b5 fun q hq => m11 q hq
      refine ⟨RlP_n a1 (fun q _ _ => hq q (by omega) (by omega) (by omega) (by omega) (by omega)) (m2 4 (by decide)) em, RlR_n a2 (fun q _ _ => hq q (by omega) (by omega) (by omega) (by omega) (by omega)) (fun q _ _ => m1 q (by omega) (by omega) (by omega)), ?_, ?_,
        RlK_n a1 a5 (fun q w => hq q (by omega) (by omega) (by omega) (by omega) (by omega)) (m1 14 (by decide) (by decide) (by decide)) em⟩
      · obtain ⟨t1, t2, t3, t4, t5⟩ := a3
        unfold RlT
        rw [hq 0 (by decide) (by decide) (by decide) (by decide) (by decide), hq 4 (by decide) (by decide) (by decide) (by decide) (by decide), m2 0 (by decide), m2 1 (by decide), m2 2 (by decide), m2 3 (by decide), m1 5 (by decide) (by decide) (by decide)]
        exact ⟨t1, t2, t3, t4, t5⟩
      · unfold RlD
        rw [m6, ev, em]
        refine ⟨e25, ?_, r1.tr (u1.tr w1.sy), r1.tr (r2 _ (Nat.le_refl _)).sy, seatsOk_c (w1.of a1.1).sy u2, fun j hj => ?_⟩
        · unfold DM; rw [m6]; omega
        · obtain ⟨v1, v2⟩ := u3 j hj
          have w : SEq (vP σ 33) (sA ν 13 (12 * j)) (sA μ 14 (493 * K + 13 + 12 * j)) := sA_M b4 b5 fun q hq => by rw [m13 _ (by omega), ← Nat.add_assoc]
          exact ⟨(r2 j (by omega)).tr (v1.tr w.sy), seatsOk_c (w.of a1.1).sy v2⟩
  · rw [if_neg ck, if_neg ck]; exact Ag.same h _
