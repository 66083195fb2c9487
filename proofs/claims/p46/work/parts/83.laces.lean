/-! level 2: laces, the call -/
theorem Wr_pe {P Q S T : PT} (h : PEq P Q) (hs : SEq P S T) (s : Nat → Int32) : ∀ y k, k < nPl P → Wr P S s y k = Wr Q T s y k
  | 0, k, hk => hs.2.2.2.1 k hk
  | y + 1, k, hk => by
    show a_worn (if s y = nI k then 0 else Wr P S s y k) (if 0 < a_load P S (nI k) then 1 else 0) = a_worn (if s y = nI k then 0 else Wr Q T s y k) (if 0 < a_load Q T (nI k) then 1 else 0)
    rw [Wr_pe h hs s y k hk, pe_load h hs]
theorem okY_pe {P Q S T : PT} (h : PEq P Q) (hs : SEq P S T) (s : Nat → Int32) (y : Nat) : okY P S s y = okY Q T s y := by
  unfold okY
  rw [pe_isUp h hs, ← h.pl, all_c (nPl P) fun k hk => by
    show (!a_isUp P S (nI k) || !decide (a_bears P (nI k) (Bf P S s y k) < a_load P S (nI k))) = (!a_isUp Q T (nI k) || !decide (a_bears Q (nI k) (Bf Q T s y k) < a_load Q T (nI k)))
    unfold Bf
    rw [pe_isUp h hs, pe_bears h, pe_load h hs, Wr_pe h hs s y k hk]]
theorem lfL_c {P Q S T : PT} (h : PEq P Q) (hs : SEq P S T) (n : Nat) : lfL P S n = lfL Q T n := by
  funext s x
  unfold lfL vld
  rw [all_c n fun y _ => okY_pe h hs s y]
theorem op_laces {σ μ : Mem} (h : Rl σ μ) (n ro : Int32) : Ag (k_laces σ n ro) (n_laces μ n ro) := by
  have hp := h.1.1
  have hs := h.2.2.2.1.2.2.1
  have hpb := h.1.2.1
  have hr := h.1.2.2.1
  have hb : b_in n.toInt64 0 5 = true ↔ ¬ n < 0 ∧ ¬ 5 < n := bin_iff (by decide) (by decide)
  have k0 : (0 : Int32).toInt = 0 := by decide
  have k5 : (5 : Int32).toInt = 5 := by decide
  unfold k_laces n_laces
  by_cases hro : a_in ro 6 = true
  · rw [if_pos hro, if_pos hro]
    by_cases c1 : n < 0
    · rw [if_pos c1, if_neg (fun q => (hb.mp q).1 c1)]; exact Ag.same h _
    · rw [if_neg c1]
      by_cases c2 : 5 < n
      · rw [if_pos c2, if_neg (fun q => (hb.mp q).2 c2)]; exact Ag.same h _
      · rw [if_neg c2, if_pos (hb.mpr ⟨c1, c2⟩), pl_0 h]
        by_cases c : μ 0 4 = 0
        · rw [if_pos c, if_pos c]; exact Ag.same h _
        · rw [if_neg c, if_neg c]
          have q := in_ix hro
          have q0 := (in_t hro).1
          rw [show (6 : Int32).toInt = 6 by decide] at q
          have hr6 : ix ro < 6 := by omega
          generalize ix ro = R at hr6 ⊢
          have d1 := i_nlt c1
          have d2 := i_nlt c2
          rw [k0] at d1
          rw [k5] at d2
          have hn := ix_toInt d1
          have en := ix_nI d1
          obtain ⟨N, hN⟩ : ∃ N, N = ix n := ⟨_, rfl⟩
          rw [← hN] at hn en ⊢
          have hN5 : N ≤ 5 := by omega
          have i5 : imin n 5 = n := imin_l (by omega)
          have i60 : imin n 60 = n := imin_l (by rw [show (60 : Int32).toInt = 60 by decide]; omega)
          have hpbX : PB (vP σ 33) := PB_of hp hpb
          obtain ⟨b4, b5⟩ := RlP_45 h.1
          -- the class's search
          have hI : InvL (vP σ 33) (vS σ 45) N (m_lBegin (vP σ 33) (vS σ 45) σ n) (fun _ => 0) 0 0 := by
            refine ⟨Nat.zero_le _, fun j hj => absurd hj (Nat.not_lt_zero _), ?_, fun k hk => ?_, fun k hk => ?_, rfl, fun j hj => absurd hj (Nat.not_lt_zero _)⟩
            · unfold m_lBegin
              rw [mF_n _ _ _ (by decide), mF_n _ _ _ (by decide), mU_e, if_pos rfl, if_neg (by decide), mU_e, if_pos rfl, if_neg (by decide), mU_e, if_pos rfl, if_pos rfl]
            · unfold m_lBegin
              rw [mF_e, if_pos rfl, if_pos hk]
            · unfold m_lBegin
              rw [mF_n _ _ _ (by decide), mF_e, if_pos rfl, if_pos hk]; rfl
          have hR0 : RelL N (m_lBegin (vP σ 33) (vS σ 45) σ n) (1000000, fun _ => 0) := Or.inl ⟨rfl, by
            unfold m_lBegin
            rw [mF_n _ _ _ (by decide), mF_n _ _ _ (by decide), mU_e, if_pos rfl, if_pos rfl, i5, ← nI_1, ← en]⟩
          have hX := lace_tree hpbX hN5 N 0 (fun _ => 0) (m_lBegin (vP σ 33) (vS σ 45) σ n) 0 (1000000, fun _ => 0) (Nat.zero_add _) hI hR0
          rw [lfL_c hp hs, hp.pl] at hX
          have hρ : ∀ q, q < 56 → s_lace (vP σ 33) N (m_lBegin (vP σ 33) (vS σ 45) σ n) 0 0 q = σ q := fun q hq => by
            funext k
            rw [s_lace_n _ (by omega), m_lBegin_n _ _ _ _ (by omega) (by omega) (by omega)]
          generalize s_lace (vP σ 33) N (m_lBegin (vP σ 33) (vS σ 45) σ n) 0 0 = ρ at hX hρ ⊢
          -- the model's
          have hM := lcs_rel hpb hr (SEq.rfl' (P := pM μ) (S := sM μ 11)) N ((nPl (pM μ) + 1) ^ N)
          have hrun : run (stL (pM μ) (sM μ 11) N) 0 ((nPl (pM μ) + 1) ^ N) (1000000, fun _ => 0) = tree (nPl (pM μ) + 1) (dgt 1) (lfL (pM μ) (sM μ 11) N) N 0 (fun _ => 0) (1000000, fun _ => 0) :=
            run_all (B := nPl (pM μ) + 1) (dg := dgt 1) (leaf := lfL (pM μ) (sM μ 11) N) (st := stL (pM μ) (sM μ 11) N) (n := N) (fun cd x => rfl) _
          rw [← hrun] at hX
          generalize run (stL (pM μ) (sM μ 11) N) 0 ((nPl (pM μ) + 1) ^ N) (1000000, fun _ => 0) = x at hX hM
          have hpw : (nPl (pM μ) + 1) ^ N ≤ 3125 := pw_le (by have := (PB_pl hpb).2.1; omega) hN5
          obtain ⟨m1, m2, ⟨b, hbl, m3, m4⟩, m5⟩ := hM
          generalize lcs (pM μ) N μ ((nPl (pM μ) + 1) ^ N) = b' at m1 m2 m3 m4 m5 ⊢
          rcases hX with ⟨e0, e⟩ | ⟨e, ⟨m, hm, em⟩, e2⟩
          · have l1 : n < ρ 56 2 := i_ltI (by rw [e, nI_toInt (by omega)]; omega)
            rw [if_pos l1, m1, if_pos e0]
            exact Ag.same (Rl_aside h (fun q hq => hρ q (by omega)) (fun q h12 h15 => m5 q h12 (by omega))) _
          · have l1 : ¬ n < ρ 56 2 := fun q => by have := i_lt q; rw [e, em, nI_toInt (by omega)] at this; omega
            have x1 : ¬ x.1 = 1000000 := fun q => by
              have z := i_eq q
              rw [em, nI_toInt (by omega), show (1000000 : Int32).toInt = 1000000 by decide] at z
              omega
            rw [if_neg l1, m1, if_neg x1]
            have tq : ∀ q, q ≠ 5 + 2 * R → q ≠ 5 + 2 * R + 1 → m_takeR ρ (5 + 2 * R) 66 n q = ρ q := fun q q1 q2 => m_takeR_n _ _ _ _ q1 q2
            have t0 : m_takeR ρ (5 + 2 * R) 66 n (5 + 2 * R) 0 = n := by
              unfold m_takeR m_fill
              rw [mF_n _ _ _ (by omega), mF_n _ _ _ (by omega), mU_e, if_pos rfl, if_pos rfl, i5, i60]
            have t1 : ∀ j, j < N → m_takeR ρ (5 + 2 * R) 66 n (5 + 2 * R + 1) j = ρ 66 j := fun j hj => by
              unfold m_takeR
              rw [mF_e, if_pos rfl, i5, i60, ← hN, if_pos hj]
            generalize m_takeR ρ (5 + 2 * R) 66 n = τ at tq t0 t1 ⊢
            refine ⟨?_, ?_⟩
            · show τ 56 2 = x.1
              rw [tq 56 (by omega) (by omega), e]
            · show Rl τ (lfin (pM μ) R n b')
              unfold lfin
              have eb : ix b'.2.1 = b := by rw [m3, ix_of (by omega)]
              rw [eb, ← hN]
              have z20 : ∀ y, y < N → (n_lac (pM μ) (w_lrow b'.2.2 R n) b N).2 20 y = nI (lf (nPl (pM μ) + 1) b (N - 1 - y) % (nPl (pM μ) + 1)) - 1 := fun y hy => by
                have w := lac_at (pM μ) b (w_lrow b'.2.2 R n) N N (Nat.le_refl _) y hy (by omega)
                unfold n_lac
                split
                · show lb (pM μ) (w_lac (pM μ) b (w_lrow b'.2.2 R n) N N) N 20 y = _
                  rw [lb_n _ _ (by decide)]; exact w
                · show lend (pM μ) (w_lac (pM μ) b (w_lrow b'.2.2 R n) N N) _ 20 y = _
                  rw [lend_n _ _ _ (by decide)]; exact w
              have zq : ∀ q, q ≠ 12 → q ≠ 20 → (n_lac (pM μ) (w_lrow b'.2.2 R n) b N).2 q = w_lrow b'.2.2 R n q := fun q q1 q2 => n_lac_n _ _ _ _ ⟨q1, q2⟩
              generalize (n_lac (pM μ) (w_lrow b'.2.2 R n) b N).2 = ζ at z20 zq ⊢
              have hA : Rl ρ (mA μ 12 (ζ 12)) := Rl_aside h (fun q hq => hρ q (by omega)) (fun q h12 _ => mA_n _ _ h12)
              have lq : ∀ q, q ≠ 1 → q ≠ 2 → w_lrow b'.2.2 R n q = b'.2.2 q := fun q q1 q2 => by unfold w_lrow; rw [mG_n _ _ _ _ q1, mU_n _ _ _ q2]
              have hB : Rl ρ (mA (mA μ 12 (ζ 12)) 20 (ζ 20)) := Rl_aside hA (fun _ _ => rfl) (fun q _ q15 => mA_n _ _ (by omega))
              have gq : ∀ q, q ≠ 1 → q ≠ 2 → mG ζ 1 (40 * R) N (fun y => lcv (ζ 20 y)) q = mA (mA μ 12 (ζ 12)) 20 (ζ 20) q := fun q q1 q2 => by
                rw [mG_n _ _ _ _ q1]
                by_cases e20 : q = 20
                · subst e20; rw [mA_s]
                · rw [mA_n _ _ e20]
                  by_cases e12 : q = 12
                  · subst e12; rw [mA_s]
                  · rw [mA_n _ _ e12, zq q e12 e20, lq q q1 q2, m5 q e12 e20]
              have n2 : ∀ t, mG ζ 1 (40 * R) N (fun y => lcv (ζ 20 y)) 2 t = if t = R then n else μ 2 t := fun t => by
                rw [mG_n _ _ _ _ (by decide), zq 2 (by decide) (by decide)]
                unfold w_lrow
                rw [mG_n _ _ _ _ (by decide), mU_e, if_pos rfl, m5 2 (by decide) (by decide)]
              refine Rl_R hB (fun q hq => tq q (by omega) (by omega)) (fun q hq => gq q (by omega) (by omega)) ?_
              refine RlR_row (r := R) hB.2.1 hr6 (fun q q1 q2 => tq q q1 q2) (fun t ht => ?_) (fun k hk => ?_) (gq 3 (by decide) (by decide)) (gq 4 (by decide) (by decide)) ?_
              · rw [n2, if_neg ht, mA_n _ _ (by decide), mA_n _ _ (by decide)]
              · rw [mG_e, if_pos rfl, if_neg (by omega), zq 1 (by decide) (by decide), mA_n _ _ (by decide), mA_n _ _ (by decide)]
                unfold w_lrow
                rw [mG_e, if_pos rfl, if_neg (by omega), mU_n _ _ _ (by decide), m5 1 (by decide) (by decide)]
              · rw [n2, if_pos rfl]
                refine ⟨t0, by omega, by omega, fun j hj => ?_⟩
                rw [t1 j (by omega), e2 j (by omega), m4 (by rw [m1]; exact x1), mG_e, if_pos rfl, if_pos (by omega), show 40 * R + j - 40 * R = j by omega, z20 j (by omega)]
                unfold fg lcv dgt
                rw [if_pos (by omega)]
  · rw [if_neg hro]
    by_cases c1 : b_in n.toInt64 0 5 = true
    · rw [if_pos c1, if_neg hro]; exact Ag.same h _
    · rw [if_neg c1]; exact Ag.same h _
