/-! level 2: best, the call -/
theorem upB_c {P Q S T : PT} (h : PEq P Q) (hs : SEq P S T) (s : Nat → Int32) : upB P S s = upB Q T s := by
  unfold upB; rw [← h.pe]; exact all_c _ fun j _ => by rw [pe_isUp h hs]
theorem Ts_c {P S T : PT} (hs : SEq P S T) (s : Nat → Int32) : SEq P (Ts S s) (Ts T s) := ⟨hs.1, hs.2.1, hs.2.2.1, hs.2.2.2.1, fun _ _ => rfl⟩
theorem lfB_c {P Q S T : PT} (h : PEq P Q) (hs : SEq P S T) : lfB P S = lfB Q T := by
  funext s x
  unfold lfB
  rw [upB_c h hs, pe_fail h (Ts_c hs s), pe_highAll h (Ts_c hs s)]
theorem s_hm_c {P : PT} {sp sq : Nat → Int32} (i : Nat) : ∀ n, (∀ k, k < n → sp k = sq k) → s_hm P sp i n = s_hm P sq i n
  | 0, _ => rfl
  | n + 1, h => by rw [s_hm, s_hm, s_hm_c i n (fun k hk => h k (by omega)), h n (by omega)]
theorem s_hv_c {P : PT} {sp sq : Nat → Int32} (n : Nat) (h : ∀ k, k < nPl P → sp k = sq k) : ∀ c, s_hv P sp n c = s_hv P sq n c
  | 0 => rfl
  | c + 1 => by rw [s_hv, s_hv, s_hv_c n h c, s_hm_c _ _ h]
theorem begin_H (σ : Mem) : InvH (vP σ 33) (vS σ 45) (m_sBegin σ) (fun _ => 0) 0 0 ∨ ¬ WR (vP σ 33) (vS σ 45) ∨ ¬ PB (vP σ 33) ∨ ¬ PR (vP σ 33) := by
  by_cases hw : WR (vP σ 33) (vS σ 45)
  · by_cases hpb : PB (vP σ 33)
    · by_cases hr : PR (vP σ 33)
      · left
        refine ⟨Nat.zero_le _, fun j hj => absurd hj (Nat.not_lt_zero _), fun k hk => ?_, rfl, fun c hc => ?_, fun j hj => absurd hj (Nat.not_lt_zero _), fun k hk => ?_⟩
        · unfold m_sBegin
          rw [mU_n _ _ _ (by decide), mU_n _ _ _ (by decide), mD_n _ _ _ _ (by decide), mF_e, if_pos rfl, if_pos hk]
          exact (Int32.sub_zero _).symm
        · unfold m_sBegin
          rw [mU_n _ _ _ (by decide), mU_n _ _ _ (by decide), mD_e, if_pos rfl, if_pos (by omega), show nPe (vP σ 33) - (nPe (vP σ 33) - c) = c by omega]
          exact s_hv_c _ (fun k hk => by rw [mF_e, if_pos rfl, if_pos hk]) c
        · show (0 : Int32).toInt ≤ _
          exact (spare_i hpb hr hw hk).1
      · exact Or.inr (Or.inr (Or.inr hr))
    · exact Or.inr (Or.inr (Or.inl hpb))
  · exact Or.inr (Or.inl hw)
theorem fg_00 {B : Nat} (hB : 0 < B) (dg : Nat → Int32) (i : Nat) {j : Nat} (hj : j < i) : fg B dg 0 i j = dg 0 := by
  unfold fg
  rw [if_pos hj]
  have e : ∀ m, lf B 0 m = 0 := by
    intro m
    induction m with
    | zero => rfl
    | succ m ih => rw [lf, ih, Nat.zero_div]
  rw [e, Nat.zero_mod]
theorem best_pos {P S : PT} (hpb : PB P) (hr : PR P) (hw : WR P S) : ∀ m, 0 ≤ (run (stB P S) 0 (m + 1) (-1, fun _ => 0)).1.toInt
  | 0 => by
    have h4 := (PB_pl hpb).2.1
    have h5 := (PB_pe hpb).2.1
    have e9 : dgt 1 0 = -9 := by decide
    have hs : ∀ j, j < nPe P → fg (nPl P + 1) (dgt 1) 0 (nPe P) j = -9 := fun j hj => (fg_00 (by omega) _ _ hj).trans e9
    have hu : upB P S (fg (nPl P + 1) (dgt 1) 0 (nPe P)) = true := (upB_iff _ _ _).mpr fun j hj => Or.inl (hs j hj)
    have hf : b_fail P (Ts S (fg (nPl P + 1) (dgt 1) 0 (nPe P))) = 0 := (fail_iff hpb _).mpr fun k hk up => by
      have e : LI P (fg (nPl P + 1) (dgt 1) 0 (nPe P)) (nPe P) (nI k) = 0 := sum_z _ _ fun j hj => by rw [hs j hj, if_neg (pole_n9 (pole_nI hpb hk))]
      rw [e]
      exact i_leI (by rw [show (0 : Int32).toInt = 0 by decide]; exact (bears_i hr hw (pole_nI hpb hk)).1)
    have hh : a_highAll P (Ts S (fg (nPl P + 1) (dgt 1) 0 (nPe P))) = 0 := sum_z _ _ fun j hj => by
      show a_high P (nI j) (fg (nPl P + 1) (dgt 1) 0 (nPe P) j) = 0
      rw [hs j hj, high_9]
    rw [run, run]
    unfold stB lfB
    rw [Nat.add_zero, hh, if_pos ⟨⟨hu, hf⟩, by decide⟩]
    exact Int.le_refl _
  | m + 1 => by
    have ih := best_pos hpb hr hw m
    rw [run]
    generalize run (stB P S) 0 (m + 1) (-1, fun _ => 0) = x at ih ⊢
    unfold stB lfB
    split
    · have w : x.1 < a_highAll P (Ts S (fg (nPl P + 1) (dgt 1) (0 + (m + 1)) (nPe P))) := by
        rename_i q; exact q.2
      have := i_lt w
      show 0 ≤ (a_highAll P (Ts S (fg (nPl P + 1) (dgt 1) (0 + (m + 1)) (nPe P)))).toInt
      omega
    · exact ih
theorem op_best {σ μ : Mem} (h : Rl σ μ) (ro : Int32) : Ag (k_best σ ro) (n_best μ ro) := by
  have hp := h.1.1
  have hs := h.2.2.2.1.2.2.1
  have hpb := h.1.2.1
  have hr := h.1.2.2.1
  obtain ⟨b4, b5⟩ := RlP_45 h.1
  unfold k_best n_best
  by_cases hro : a_in ro 6 = true
  · rw [if_pos hro, if_pos hro, pl_0 h]
    by_cases c : μ 0 4 = 0
    · rw [if_pos c, if_pos c]; exact Ag.same h _
    · rw [if_neg c, if_neg c]
      have q := in_ix hro
      have q0 := (in_t hro).1
      rw [show (6 : Int32).toInt = 6 by decide] at q
      have hr6 : ix ro < 6 := by omega
      generalize ix ro = R at hr6 ⊢
      have hpbX : PB (vP σ 33) := PB_of hp hpb
      have hrX : PR (vP σ 33) := PR_of hp hr
      have hwX := WR_now h
      -- the class's search
      have hI : InvH (vP σ 33) (vS σ 45) (m_sBegin σ) (fun _ => 0) 0 0 := by
        rcases begin_H σ with q | q | q | q
        · exact q
        · exact absurd hwX q
        · exact absurd hpbX q
        · exact absurd hrX q
      have hX := high_tree hpbX hrX hwX (nPe (vP σ 33)) 0 (fun _ => 0) (m_sBegin σ) 0 (-1, fun _ => 0) (Nat.zero_add _) hI ⟨by unfold m_sBegin; rw [mU_e, if_pos rfl, if_neg (by decide), mU_e, if_pos rfl, if_pos rfl], fun q => absurd rfl q⟩
      rw [lfB_c hp hs, hp.pl, hp.pe] at hX
      have hρ : ∀ q, q < 51 → s_high (vP σ 33) (nPe (pM μ)) (m_sBegin σ) 0 0 q = σ q := fun q hq => by rw [s_high_n _ (by omega), m_sBegin_n _ (by omega) (by omega) (by omega)]
      rw [hp.pe]
      generalize s_high (vP σ 33) (nPe (pM μ)) (m_sBegin σ) 0 0 = ρ at hX hρ ⊢
      -- the model's
      have wq : ∀ q, q ≠ 12 → q ≠ 1 → q ≠ 2 → w_aside (w_lrow μ R (μ 0 5)) q = μ q := fun q q1 q2 q3 => by
        rw [w_aside_n _ q1]; unfold w_lrow; rw [mG_n _ _ _ _ q2, mU_n _ _ _ q3]
      have hSa : SEq (pM μ) (sM (w_aside (w_lrow μ R (μ 0 5))) 12) (sM μ 11) := by
        have z := asideM_rel (pM μ) (PB_pl hpb).2.1 (PB_pe hpb).2.1 (w_lrow μ R (μ 0 5))
        have e : sM (w_lrow μ R (μ 0 5)) 11 = sM μ 11 := sM_eq (by unfold w_lrow; rw [mG_n _ _ _ _ (by decide), mU_n _ _ _ (by decide)])
        rw [e] at z; exact z.sy
      have hM := bs_rel hpb R hSa ((nPl (pM μ) + 1) ^ nPe (pM μ))
      have hrun : run (stB (pM μ) (sM μ 11)) 0 ((nPl (pM μ) + 1) ^ nPe (pM μ)) (-1, fun _ => 0) = tree (nPl (pM μ) + 1) (dgt 1) (lfB (pM μ) (sM μ 11)) (nPe (pM μ)) 0 (fun _ => 0) (-1, fun _ => 0) :=
        run_all (B := nPl (pM μ) + 1) (dg := dgt 1) (leaf := lfB (pM μ) (sM μ 11)) (st := stB (pM μ) (sM μ 11)) (n := nPe (pM μ)) (fun cd x => rfl) _
      have hpos : ¬ (run (stB (pM μ) (sM μ 11)) 0 ((nPl (pM μ) + 1) ^ nPe (pM μ)) (-1, fun _ => 0)).1 = -1 := by
        have hb : 0 < (nPl (pM μ) + 1) ^ nPe (pM μ) := Nat.pow_pos (by omega)
        obtain ⟨m, hm⟩ : ∃ m, (nPl (pM μ) + 1) ^ nPe (pM μ) = m + 1 := ⟨_, (Nat.succ_pred_eq_of_pos hb).symm⟩
        rw [hm]
        intro e
        have w := best_pos hpb hr (WR_M h) m
        rw [e] at w
        exact absurd w (by decide)
      rw [← hrun] at hX
      generalize run (stB (pM μ) (sM μ 11)) 0 ((nPl (pM μ) + 1) ^ nPe (pM μ)) (-1, fun _ => 0) = x at hX hM hpos
      obtain ⟨m1, m2, m3, m4, m5⟩ := hM
      generalize bs (pM μ) R (w_aside (w_lrow μ R (μ 0 5))) ((nPl (pM μ) + 1) ^ nPe (pM μ)) = b at m1 m2 m3 m4 m5 ⊢
      -- people
      obtain ⟨pe1, pe2, pe3⟩ := PB_pe hpb
      have e5 : σ 33 1 = μ 0 5 := hp.2.1
      have e33 : ρ 33 1 = μ 0 5 := by rw [hρ 33 (by decide)]; exact e5
      have t5 : (μ 0 5).toInt = (nPe (pM μ) : Int) := pe3
      have k5 : (5 : Int32).toInt = 5 := by decide
      have k60 : (60 : Int32).toInt = 60 := by decide
      have i5 : imin (μ 0 5) 5 = μ 0 5 := imin_l (by omega)
      have i60 : imin (μ 0 5) 60 = μ 0 5 := imin_l (by omega)
      have ixp : ix (μ 0 5) = nPe (pM μ) := rfl
      have tq : ∀ q, q ≠ 5 + 2 * R → q ≠ 5 + 2 * R + 1 → m_takeR ρ (5 + 2 * R) 55 (μ 0 5) q = ρ q := fun q q1 q2 => m_takeR_n _ _ _ _ q1 q2
      have t0 : m_takeR ρ (5 + 2 * R) 55 (μ 0 5) (5 + 2 * R) 0 = μ 0 5 := by
        unfold m_takeR m_fill
        rw [mF_n _ _ _ (by omega), mF_n _ _ _ (by omega), mU_e, if_pos rfl, if_pos rfl, i5, i60]
      have t1 : ∀ j, j < nPe (pM μ) → m_takeR ρ (5 + 2 * R) 55 (μ 0 5) (5 + 2 * R + 1) j = ρ 55 j := fun j hj => by
        unfold m_takeR
        rw [mF_e, if_pos rfl, i5, i60, ixp, if_pos hj]
      rw [e33]
      generalize m_takeR ρ (5 + 2 * R) 55 (μ 0 5) = τ at tq t0 t1 ⊢
      refine ⟨?_, ?_⟩
      · show τ 51 0 = b.1
        rw [tq 51 (by omega) (by omega), hX.1, m1]
      · show Rl τ b.2
        have hA : Rl ρ (mA μ 12 (b.2 12)) := Rl_aside h (fun q hq => hρ q (by omega)) (fun q h12 _ => mA_n _ _ h12)
        refine Rl_R hA (fun q hq => tq q (by omega) (by omega)) (fun q hq => ?_) ?_
        · by_cases e : q = 12
          · subst e; rw [mA_s]
          · rw [mA_n _ _ e, m3 q e (by omega), wq q e (by omega) (by omega)]
        · have n2 : ∀ t, b.2 2 t = if t = R then μ 0 5 else μ 2 t := fun t => by
            rw [m3 2 (by decide) (by decide), w_aside_n _ (by decide)]; unfold w_lrow
            rw [mG_n _ _ _ _ (by decide), mU_e, if_pos rfl]
          refine RlR_row (r := R) hA.2.1 hr6 (fun q q1 q2 => tq q q1 q2) (fun t ht => ?_) (fun k hk => ?_) ?_ ?_ ?_
          · rw [n2, if_neg ht, mA_n _ _ (by decide)]
          · rw [m4 k (by omega), w_aside_n _ (by decide), mA_n _ _ (by decide)]
            unfold w_lrow
            rw [mG_e, if_pos rfl, if_neg (by omega), mU_n _ _ _ (by decide)]
          · rw [m3 3 (by decide) (by decide), wq 3 (by decide) (by decide) (by decide), mA_n _ _ (by decide)]
          · rw [m3 4 (by decide) (by decide), wq 4 (by decide) (by decide) (by decide), mA_n _ _ (by decide)]
          · rw [n2, if_pos rfl]
            refine ⟨t0, by omega, by omega, fun j hj => ?_⟩
            rw [t1 j (by omega), hX.2 hpos j (by rw [hp.pe]; omega), m5 (by rw [m1]; exact hpos) j (by omega)]
  · rw [if_neg hro, if_neg hro]; exact Ag.same h _
