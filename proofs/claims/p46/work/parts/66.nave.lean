/-! level 2: fault, nave -/
theorem w_str_c (μ : Mem) {q : Nat} (h : q ≠ 0) (h17 : q ≠ 17) : w_str μ q = μ q := by
  unfold w_str
  repeat' split
  · rw [mU_n _ _ _ h, w_fig_c h, w_fig_c h]
  · rw [mU_n _ _ _ h17, w_fig_c h, w_fig_c h]
  · rw [w_fig_c h, w_fig_c h]
  · rw [w_fig_c h]
theorem w_str_0 (μ : Mem) {j : Nat} (h : j ≠ 7) : w_str μ 0 j = μ 0 j := by
  unfold w_str
  repeat' split
  · rw [mU_e, if_pos rfl, if_neg h, w_fig_n h, w_fig_n h]
  · rw [mU_n _ _ _ (by decide), w_fig_n h, w_fig_n h]
  · rw [w_fig_n h, w_fig_n h]
  · rw [w_fig_n h]
theorem zp3_c (μ : Mem) {q : Nat} (h : q ≠ 0) (h15 : q ≠ 15) (h16 : q ≠ 16) : zp3 μ q = μ q := by
  unfold zp3 zp2; rw [mU_n _ _ _ h16, mU_n _ _ _ h15]; unfold zp1; rw [w_fig_c h, inc7_c _ h]
theorem zp3_j (μ : Mem) {j : Nat} (h : j ≠ 7) : zp3 μ 0 j = μ 0 j := by rw [zp3_0, zp1_n _ h]
theorem w_rp_c (μ : Mem) {q : Nat} (h : q ≠ 0) (h15 : q ≠ 15) (h16 : q ≠ 16) (h17 : q ≠ 17) : w_rp μ q = μ q := by
  unfold w_rp
  repeat' split
  · rfl
  · rw [mU_n _ _ _ h, w_str_c _ h h17, zp3_c _ h h15 h16]
  · rw [w_str_c _ h h17, zp3_c _ h h15 h16]
  · unfold zp1; rw [w_fig_c h, inc7_c _ h]
theorem w_rp_0 (μ : Mem) {j : Nat} (h : j ≠ 7) (h10 : j ≠ 10) : w_rp μ 0 j = μ 0 j := by
  unfold w_rp
  repeat' split
  · rfl
  · rw [mU_e, if_pos rfl, if_neg h10, w_str_0 _ h, zp3_j _ h]
  · rw [w_str_0 _ h, zp3_j _ h]
  · rw [zp1_n _ h]
theorem zo3_c (μ : Mem) {q : Nat} (h : q ≠ 0) (h18 : q ≠ 18) : zo3 μ q = μ q := by
  unfold zo3 zo2 zo1; rw [w_fig_c h, mU_n _ _ _ h18, w_fig_c h, inc7_c _ h]
theorem w_ro_c (μ : Mem) {q : Nat} (h : q ≠ 0) (h18 : q ≠ 18) (h19 : q ≠ 19) : w_ro μ q = μ q := by
  unfold w_ro
  repeat' split
  · rfl
  · unfold zo4; rw [mU_n _ _ _ h, mU_n _ _ _ h19, zo3_c _ h h18]
  · exact zo3_c _ h h18
  · unfold zo1; rw [w_fig_c h, inc7_c _ h]
theorem w_ro_0 (μ : Mem) {j : Nat} (h : j ≠ 7) (h11 : j ≠ 11) : w_ro μ 0 j = μ 0 j := by
  unfold w_ro
  repeat' split
  · rfl
  · unfold zo4; rw [mU_e, if_pos rfl, if_neg h11, mU_n _ _ _ (by decide), zo3_n _ h]
  · exact zo3_n _ h
  · unfold zo1; rw [w_fig_n h, inc7_n _ h]
theorem rdM_c {q : Nat} (h : q ≠ 0) (h15 : q < 15 ∨ 19 < q) : ∀ (d : Nat) (μ : Mem) (w : Int32), (rdM d μ w).2 q = μ q
  | 0, _, _ => rfl
  | d + 1, μ, w => by
    rw [rdM]
    repeat' split
    · rfl
    · rw [rdM_c h h15 d, inc7_c _ h]
    · rw [rdM_c h h15 d, w_ro_c _ h (by omega) (by omega)]
    · rw [rdM_c h h15 d]
    · rw [rdM_c h h15 d, w_rp_c _ h (by omega) (by omega) (by omega)]
    all_goals rfl
theorem rdM_j {j : Nat} (h : j < 7) : ∀ (d : Nat) (μ : Mem) (w : Int32), (rdM d μ w).2 0 j = μ 0 j
  | 0, _, _ => rfl
  | d + 1, μ, w => by
    rw [rdM]
    repeat' split
    · rfl
    · rw [rdM_j h d, inc7_n _ (by omega)]
    · rw [rdM_j h d, w_ro_0 _ (by omega) (by omega)]
    · rw [rdM_j h d]
    · rw [rdM_j h d, w_rp_0 _ (by omega) (by omega)]
    all_goals rfl
theorem reads_c (μ : Mem) (t : Int32) {q : Nat} (h : q ≠ 0) (h15 : q < 15 ∨ 19 < q) : (n_reads μ t).2 q = μ q := by
  unfold n_reads; rw [rdM_c h h15]; unfold rd0M; rw [mU_n _ _ _ h, mU_n _ _ _ h, mU_n _ _ _ h, mU_n _ _ _ h, mU_n _ _ _ h]
theorem reads_j (μ : Mem) (t : Int32) {j : Nat} (h : j < 7) : (n_reads μ t).2 0 j = μ 0 j := by
  unfold n_reads; rw [rdM_j h]; unfold rd0M
  rw [mU_e, if_pos rfl, if_neg (by omega), mU_e, if_pos rfl, if_neg (by omega), mU_e, if_pos rfl, if_neg (by omega), mU_e, if_pos rfl, if_neg (by omega), mU_e, if_pos rfl, if_neg (by omega)]
theorem Rl_draft {σ τ μ ν : Mem} (h : Rl σ μ) (hx : ∀ q, q < 39 ∨ (44 < q ∧ q < 48) → τ q = σ q) (hm : ∀ q, 1 ≤ q → q ≤ 14 → ν q = μ q) (h0 : ∀ j, j < 7 → ν 0 j = μ 0 j) : Rl τ ν := by
  obtain ⟨a1, a2, a3, a4, a5⟩ := h
  have em : pM ν = pM μ := pM_eq (h0 4 (by decide)) (h0 5 (by decide)) (fun q _ _ => hm q (by omega) (by omega))
  refine ⟨RlP_n a1 (fun q _ _ => hx q (by omega)) (h0 4 (by decide)) em, RlR_n a2 (fun q _ _ => hx q (by omega)) (fun q _ _ => hm q (by omega) (by omega)), ?_,
    RlD_n a1 a4 (fun q hq => hx q (by omega)) (hm 11 (by decide) (by decide)) (hm 13 (by decide) (by decide)) (h0 6 (by decide)) em, RlK_n a1 a5 (fun q hq => hx q (by omega)) (hm 14 (by decide) (by decide)) em⟩
  obtain ⟨t1, t2, t3, t4, t5⟩ := a3
  unfold RlT
  rw [hx 0 (by omega), hx 4 (by omega), h0 0 (by decide), h0 1 (by decide), h0 2 (by decide), h0 3 (by decide), hm 5 (by decide) (by decide)]
  exact ⟨t1, t2, t3, t4, t5⟩
/-- the text of a number, as both read it -/
theorem reads_rel {σ μ : Mem} (h : Rl σ μ) {ro : Int32} (hr : a_in ro 4 = true) (h0 : ¬ σ (17 + 2 * ix ro) 0 < 0) {τ : Mem} (hτ : ∀ q, q < 39 → τ q = σ q) {p : Nat} (hp : p = 33 ∨ p = 39) :
    (rd0 p (17 + 2 * ix ro) τ).1 = (n_reads μ ro).1 ∧ ((rd0 p (17 + 2 * ix ro) τ).1 = -9 → RA (rd0 p (17 + 2 * ix ro) τ).2 (n_reads μ ro).2 p ∧ 0 < (vP (rd0 p (17 + 2 * ix ro) τ).2 p 0 0).toInt ∧ 0 < (vP (rd0 p (17 + 2 * ix ro) τ).2 p 0 1).toInt) := by
  have q := in_ix hr
  have q0 := (in_t hr).1
  rw [show (4 : Int32).toInt = 4 by decide] at q
  have hr4 : ix ro < 4 := by omega
  have d0 := i_nlt h0
  rw [show (0 : Int32).toInt = 0 by decide] at d0
  obtain ⟨e1, e2, e3, e4⟩ := h.2.1.2 (ix ro) hr4
  have et : ∀ k, k = 17 + 2 * ix ro ∨ k = 17 + 2 * ix ro + 1 → mU (mU τ p 0 0) p 1 0 k = σ k := fun k hk => by
    rw [mU_n _ _ _ (by omega), mU_n _ _ _ (by omega), hτ _ (by omega)]
  have m0 : ∀ j, rd0M μ ro 0 j = if j = 11 then 0 else if j = 10 then 0 else if j = 7 then 0 else if j = 8 then μ 4 (ix ro) else if j = 9 then ro else μ 0 j := fun j => by
    unfold rd0M
    simp only [mU_e, if_true]
  have mc : ∀ k, k ≠ 0 → rd0M μ ro k = μ k := fun k hk => by unfold rd0M; rw [mU_n _ _ _ hk, mU_n _ _ _ hk, mU_n _ _ _ hk, mU_n _ _ _ hk, mU_n _ _ _ hk]
  have hT : RT (mU (mU τ p 0 0) p 1 0) (rd0M μ ro) (17 + 2 * ix ro) := by
    unfold RT
    rw [et _ (Or.inl rfl), et _ (Or.inr rfl), mc 3 (by decide), m0 8, m0 9]
    simp only [show ¬ (8 : Nat) = 11 by decide, show ¬ (8 : Nat) = 10 by decide, show ¬ (8 : Nat) = 7 by decide, show ¬ (9 : Nat) = 11 by decide, show ¬ (9 : Nat) = 10 by decide, show ¬ (9 : Nat) = 7 by decide, show ¬ (9 : Nat) = 8 by decide, if_true, if_false]
    rw [e1] at d0 ⊢
    exact ⟨rfl, d0, e3, fun i hi => e4 i hi⟩
  have hA : RA (mU (mU τ p 0 0) p 1 0) (rd0M μ ro) p := by
    have w0 : vP (mU (mU τ p 0 0) p 1 0) p 0 0 = 0 := by rw [vP_0, mU_e, if_pos rfl, if_neg (by decide), mU_e, if_pos rfl, if_pos rfl]
    have w1 : vP (mU (mU τ p 0 0) p 1 0) p 0 1 = 0 := by rw [vP_0, mU_e, if_pos rfl, if_pos rfl]
    have z0 : nPl (vP (mU (mU τ p 0 0) p 1 0) p) = 0 := by unfold nPl; rw [w0]; rfl
    have z1 : nPe (vP (mU (mU τ p 0 0) p 1 0) p) = 0 := by unfold nPe; rw [w1]; rfl
    refine ⟨⟨?_, ?_, fun k hk => ?_, fun i hi => ?_⟩, PO_00 p τ, fun k hk => ?_, fun i hi => ?_⟩
    · rw [w0]; show 0 = rd0M μ ro 0 10; rw [m0 10]; rfl
    · rw [w1]; show 0 = rd0M μ ro 0 11; rw [m0 11]; rfl
    · rw [z0] at hk; exact absurd hk (Nat.not_lt_zero _)
    · rw [z1] at hi; exact absurd hi (Nat.not_lt_zero _)
    · rw [z0] at hk; exact absurd hk (Nat.not_lt_zero _)
    · rw [z1] at hi; exact absurd hi (Nat.not_lt_zero _)
  have hs : (mU (mU τ p 0 0) p 1 0 (17 + 2 * ix ro) 0).toInt ≤ 60 := by rw [et _ (Or.inl rfl), e1]; exact e3
  have hs0 : 0 ≤ (mU (mU τ p 0 0) p 1 0 (17 + 2 * ix ro) 0).toInt := by rw [et _ (Or.inl rfl)]; exact d0
  have k0 : (0 : Int32).toInt = 0 := by decide
  have m7 : rd0M μ ro 0 7 = 0 := by rw [m0 7]; rfl
  unfold rd0 n_reads
  exact rd_rel (by omega) 65 63 _ _ 0 hT hA m7 (by decide) (by rw [k0]; exact hs0) (by rw [k0]; omega) (by rw [k0]; omega)
theorem op_fault {σ μ : Mem} (h : Rl σ μ) (ro : Int32) : Ag (k_fault σ ro) (n_fault μ ro) := by
  unfold k_fault n_fault
  by_cases hr : a_in ro 4 = true
  · rw [if_pos hr, if_pos hr]
    have q := in_ix hr
    have q0 := (in_t hr).1
    rw [show (4 : Int32).toInt = 4 by decide] at q
    obtain ⟨e1, e2, e3, e4⟩ := h.2.1.2 (ix ro) (by omega)
    by_cases c1 : μ 4 (ix ro) < 0
    · rw [if_pos c1, e1, if_pos c1]; exact Ag.found h (by decide) (by decide)
    · have c1' : ¬ σ (17 + 2 * ix ro) 0 < 0 := by rw [e1]; exact c1
      rw [if_neg c1, if_neg c1']
      have w := reads_rel h hr c1' (τ := σ) (fun _ _ => rfl) (p := 39) (Or.inr rfl)
      exact ⟨w.1, Rl_draft h (fun q hq => rd0_n 39 _ σ (by omega)) (fun q _ _ => reads_c μ ro (by omega) (by omega)) (fun j hj => reads_j μ ro hj)⟩
  · rw [if_neg hr, if_neg hr]; exact Ag.same h _
theorem Rl_fresh {σ μ : Mem} (hP : RlP σ μ) (hR : RlR σ μ) (hT : RlT σ μ) (h25 : σ 25 0 = 0) (h6 : μ 0 6 = 0) (hk : ∀ k, k < 3 → σ (27 + 2 * k) 0 = -1 ∧ μ 14 (493 * k) = -1)
    (hs : SEq (vP σ 33) (vS σ 45) (sM μ 11)) (hb : SEq (vP σ 33) (vS σ 45) (vS (m_begin σ 45) 45)) (ho : seatsOk (pM μ) (sM μ 11)) : Rl σ μ := by
  refine ⟨hP, hR, hT, ⟨h25.trans h6.symm, ?_, hs, ?_, ho, fun d hd => ?_⟩, fun k hk3 => ?_⟩
  · unfold DM; rw [h6]; decide
  · rw [h6]; exact hb
  · rw [h6, show (0 : Int32).toInt = 0 by decide] at hd; omega
  · obtain ⟨q1, q2⟩ := hk k hk3
    rw [q1, q2, show (-1 : Int32).toInt = -1 by decide]
    exact ⟨rfl, by omega, by omega, fun q => by omega⟩
theorem bg_v : (∀ k, k < 5 → bg_f k = 0) ∧ (∀ i, i < 5 → bg_f (5 + i) = -9) ∧ bg_f 10 = 0 ∧ bg_f 11 = 0 := by
  have b : ∀ k : Fin 5, bg_f k.1 = 0 ∧ bg_f (5 + k.1) = -9 := by decide +kernel
  exact ⟨fun k hk => (b ⟨k, hk⟩).1, fun k hk => (b ⟨k, hk⟩).2, by decide +kernel, by decide +kernel⟩
theorem w_kept_e (μ : Mem) : ∀ n k, k < n → w_kept μ n 14 (493 * k) = -1
  | 0, k, hk => absurd hk (Nat.not_lt_zero _)
  | n + 1, k, hk => by
    rw [w_kept, mU_e, if_pos rfl]
    by_cases e : k = n
    · rw [if_pos (by omega)]
    · rw [if_neg (by omega)]; exact w_kept_e μ n k (by omega)
theorem m_kept0_e (σ : Mem) : ∀ n k, k < n → m_kept0 σ n (27 + 2 * k) 0 = -1
  | 0, k, hk => absurd hk (Nat.not_lt_zero _)
  | n + 1, k, hk => by
    rw [m_kept0, mU_e]
    by_cases e : k = n
    · rw [if_pos (by omega), if_pos rfl]
    · rw [if_neg (by omega)]; exact m_kept0_e σ n k (by omega)
theorem kept0_3 (σ : Mem) {q : Nat} (h : q ≠ 27 ∧ q ≠ 29 ∧ q ≠ 31) : m_kept0 σ 3 q = σ q := m_kept0_k σ 3 fun k hk => by omega
theorem op_nave {σ μ : Mem} (h : Rl σ μ) (ro : Int32) : Ag (k_nave σ ro) (n_nave μ ro) := by
  unfold k_nave n_nave
  by_cases hr : a_in ro 4 = true
  · rw [if_pos hr, if_pos hr]
    have q := in_ix hr
    have q0 := (in_t hr).1
    rw [show (4 : Int32).toInt = 4 by decide] at q
    obtain ⟨e1, e2, e3, e4⟩ := h.2.1.2 (ix ro) (by omega)
    by_cases c1 : μ 4 (ix ro) < 0
    · rw [if_pos c1, e1, if_pos c1]; exact Ag.found h (by decide) (by decide)
    · have c1' : ¬ σ (17 + 2 * ix ro) 0 < 0 := by rw [e1]; exact c1
      rw [if_neg c1, if_neg c1']
      have w := reads_rel h hr c1' (τ := σ) (fun _ _ => rfl) (p := 39) (Or.inr rfl)
      have hD : Rl (rd0 39 (17 + 2 * ix ro) σ).2 (n_reads μ ro).2 := Rl_draft h (fun q hq => rd0_n 39 _ σ (by omega)) (fun q _ _ => reads_c μ ro (by omega) (by omega)) (fun j hj => reads_j μ ro hj)
      rw [w.1]
      by_cases c9 : (n_reads μ ro).1 = -9
      · rw [if_pos c9, if_pos c9]
        have hf : ∀ q, q < 39 → (rd0 39 (17 + 2 * ix ro) σ).2 q = σ q := fun q hq => rd0_n 39 _ σ (by omega)
        have w2 := reads_rel h hr c1' (τ := (rd0 39 (17 + 2 * ix ro) σ).2) hf (p := 33) (Or.inl rfl)
        obtain ⟨A, gp, gq⟩ := w2.2 (w2.1.trans c9)
        have hx : ∀ q, q < 33 → (rd0 33 (17 + 2 * ix ro) (rd0 39 (17 + 2 * ix ro) σ).2).2 q = σ q := fun q hq => (rd0_n 33 _ _ (by omega)).trans (hf q (by omega))
        generalize (rd0 33 (17 + 2 * ix ro) (rd0 39 (17 + 2 * ix ro) σ).2).2 = ρ at A gp gq hx ⊢
        have hm : ∀ q, 1 ≤ q → q ≤ 14 → (n_reads μ ro).2 q = μ q := fun q _ _ => reads_c μ ro (by omega) (by omega)
        have hj : ∀ j, j < 7 → (n_reads μ ro).2 0 j = μ 0 j := fun j hj => reads_j μ ro hj
        generalize (n_reads μ ro).2 = ν at A hm hj ⊢
        obtain ⟨⟨p0, p1, p2, p3⟩, po, pr⟩ := A
        refine ⟨p0, ?_⟩
        show Rl (m_kept0 (mU (m_begin ρ 45) 25 0 0) 3) (nvM ν)
        -- the class's new memory
        have s1 : ∀ q, q ≠ 25 → q ≠ 27 → q ≠ 29 → q ≠ 31 → q ≠ 45 → q ≠ 46 → q ≠ 47 → m_kept0 (mU (m_begin ρ 45) 25 0 0) 3 q = ρ q := fun q q1 q2 q3 q4 q5 q6 q7 => by
          rw [kept0_3 _ ⟨q2, q3, q4⟩, mU_n _ _ _ q1, m_begin_n _ _ q5 q6 q7]
        have s2 : vS (m_kept0 (mU (m_begin ρ 45) 25 0 0) 3) 45 = vS (m_begin ρ 45) 45 := vS_of fun q q1 q2 => by rw [kept0_3 _ (by omega), mU_n _ _ _ (by omega)]
        have s25 : m_kept0 (mU (m_begin ρ 45) 25 0 0) 3 25 0 = 0 := by rw [kept0_3 _ (by omega), mU_e, if_pos rfl, if_pos rfl]
        have sk := m_kept0_e (mU (m_begin ρ 45) 25 0 0) 3
        generalize m_kept0 (mU (m_begin ρ 45) 25 0 0) 3 = τ at s1 s2 s25 sk ⊢
        -- the model's new memory
        have n1 : ∀ q, q ≠ 0 → q ≠ 11 → q ≠ 14 → (q < 6 ∨ 10 < q) → nvM ν q = ν q := fun q q0 q11 q14 hq => by
          unfold nvM w_begins cp2 cp3
          rw [w_kept_n _ q14, mU_n _ _ _ q0, mF_n _ _ _ q11, mF_n _ _ _ (by omega), mF_n _ _ _ (by omega), mF_n _ _ _ (by omega), mF_n _ _ _ (by omega), mF_n _ _ _ (by omega), mU_n _ _ _ q0, mU_n _ _ _ q0]
        have n0 : ∀ j, nvM ν 0 j = if j = 6 then 0 else if j = 5 then ν 0 11 else if j = 4 then ν 0 10 else ν 0 j := fun j => by
          unfold nvM w_begins cp2 cp3
          rw [w_kept_n _ (by decide), mU_e, if_pos rfl, mF_n _ _ _ (by decide), mF_n _ _ _ (by decide), mF_n _ _ _ (by decide), mF_n _ _ _ (by decide), mF_n _ _ _ (by decide), mF_n _ _ _ (by decide)]
          simp only [mU_e, if_true]
        have nk : ∀ k, k < 4 → nvM ν 6 k = ν 15 k ∧ nvM ν 7 k = ν 16 k ∧ nvM ν 8 k = ν 17 k := fun k hk => by
          unfold nvM w_begins cp2 cp3
          refine ⟨?_, ?_, ?_⟩
          · rw [w_kept_n _ (by decide), mU_n _ _ _ (by decide), mF_n _ _ _ (by decide), mF_n _ _ _ (by decide), mF_n _ _ _ (by decide), mF_n _ _ _ (by decide), mF_n _ _ _ (by decide), mF_e, if_pos rfl, if_pos hk, mU_n _ _ _ (by decide), mU_n _ _ _ (by decide)]
          · rw [w_kept_n _ (by decide), mU_n _ _ _ (by decide), mF_n _ _ _ (by decide), mF_n _ _ _ (by decide), mF_n _ _ _ (by decide), mF_n _ _ _ (by decide), mF_e, if_pos rfl, if_pos hk, mU_n _ _ _ (by decide), mU_n _ _ _ (by decide)]
          · rw [w_kept_n _ (by decide), mU_n _ _ _ (by decide), mF_n _ _ _ (by decide), mF_n _ _ _ (by decide), mF_n _ _ _ (by decide), mF_e, if_pos rfl, if_pos hk, mU_n _ _ _ (by decide), mU_n _ _ _ (by decide)]
        have ni : ∀ i, i < 5 → nvM ν 9 i = ν 18 i ∧ nvM ν 10 i = ν 19 i := fun i hi => by
          unfold nvM w_begins cp2
          refine ⟨?_, ?_⟩
          · rw [w_kept_n _ (by decide), mU_n _ _ _ (by decide), mF_n _ _ _ (by decide), mF_n _ _ _ (by decide), mF_e, if_pos rfl, if_pos hi]
            unfold cp3
            rw [mF_n _ _ _ (by decide), mF_n _ _ _ (by decide), mF_n _ _ _ (by decide), mU_n _ _ _ (by decide), mU_n _ _ _ (by decide)]
          · rw [w_kept_n _ (by decide), mU_n _ _ _ (by decide), mF_n _ _ _ (by decide), mF_e, if_pos rfl, if_pos hi]
            unfold cp3
            rw [mF_n _ _ _ (by decide), mF_n _ _ _ (by decide), mF_n _ _ _ (by decide), mU_n _ _ _ (by decide), mU_n _ _ _ (by decide)]
        have nb : ∀ k, k < 12 → nvM ν 11 k = bg_f k := fun k hk => by
          unfold nvM w_begins
          rw [w_kept_n _ (by decide), mU_n _ _ _ (by decide), mF_e, if_pos rfl, if_pos hk]
        have n14 : ∀ k, k < 3 → nvM ν 14 (493 * k) = -1 := fun k hk => by unfold nvM w_begins; exact w_kept_e _ 3 k hk
        generalize nvM ν = κ at n1 n0 nk ni nb n14 ⊢
        have ev : vP τ 33 = vP ρ 33 := vP_eq fun q hq => s1 _ (by omega) (by omega) (by omega) (by omega) (by omega) (by omega) (by omega)
        have i4 : nPl (vP ρ 33) ≤ 4 := (PO_pl po).2.1
        have i5 : nPe (vP ρ 33) ≤ 5 := (PO_pe po).2.1
        have f4 : κ 0 4 = ν 0 10 := by rw [n0 4]; rfl
        have f5 : κ 0 5 = ν 0 11 := by rw [n0 5]; rfl
        have pe : PEq (vP τ 33) (pM κ) := by
          rw [ev]
          refine ⟨?_, ?_, fun k hk => ?_, fun i hi => ?_⟩
          · show _ = κ 0 4; rw [f4]; exact p0
          · show _ = κ 0 5; rw [f5]; exact p1
          · show _ = κ 6 k ∧ _ = κ 7 k ∧ _ = κ 8 k
            obtain ⟨u1, u2, u3⟩ := nk k (by omega)
            rw [u1, u2, u3]; exact p2 k hk
          · show _ = κ 9 i ∧ _ = κ 10 i
            obtain ⟨u1, u2⟩ := ni i (by omega)
            rw [u1, u2]; exact p3 i hi
        have hpb : PB (pM κ) := by
          unfold PB
          rw [← pe.1, ← pe.2.1, ev]; exact po
        have hpr : PR (pM κ) := by
          have el : nPl (pM κ) = nPl (vP ρ 33) := by rw [← pe.pl, ev]
          have ee : nPe (pM κ) = nPe (vP ρ 33) := by rw [← pe.pe, ev]
          refine ⟨fun k hk => ?_, fun i hi => ?_⟩
          · have u := pe.2.2.1 k (by rw [pe.pl]; exact hk)
            rw [← u.1, ← u.2.1, ← u.2.2, ev]; exact pr.1 k (by rw [← el]; exact hk)
          · have u := pe.2.2.2 i (by rw [pe.pe]; exact hi)
            rw [← u.1, ← u.2, ev]; exact pr.2 i (by rw [← ee]; exact hi)
        have b0 := vS_begin ρ
        have b1 := bg_v
        refine Rl_fresh ⟨pe, hpb, hpr, fun _ => ?_⟩ ?_ ?_ s25 (by rw [n0 6]; rfl) (fun k hk => ⟨sk k hk, n14 k hk⟩) ?_ ?_ ?_
        · rw [← pe.pe, ev]
          have := (PO_pe po).2.2
          have e : nPe (vP ρ 33) = ix (ρ 33 1) := rfl
          have e2 : (vP ρ 33 0 1).toInt = (ρ 33 1).toInt := rfl
          omega
        · exact RlR_n h.2.1 (fun q _ _ => (s1 q (by omega) (by omega) (by omega) (by omega) (by omega) (by omega) (by omega)).trans (hx q (by omega))) (fun q _ _ => (n1 q (by omega) (by omega) (by omega) (by omega)).trans (hm q (by omega) (by omega)))
        · obtain ⟨t1, t2, t3, t4, t5⟩ := h.2.2.1
          have x0 : ∀ q, q < 25 → τ q = σ q := fun q hq => (s1 q (by omega) (by omega) (by omega) (by omega) (by omega) (by omega) (by omega)).trans (hx q (by omega))
          have y0 : ∀ j, j < 4 → κ 0 j = μ 0 j := fun j h4 => by
            rw [n0 j, if_neg (by omega), if_neg (by omega), if_neg (by omega)]; exact hj j (by omega)
          unfold RlT
          rw [x0 0 (by decide), x0 4 (by decide), y0 0 (by decide), y0 1 (by decide), y0 2 (by decide), y0 3 (by decide), n1 5 (by decide) (by decide) (by decide) (by decide), hm 5 (by decide) (by decide)]
          exact ⟨t1, t2, t3, t4, t5⟩
        · rw [s2, ev]
          refine ⟨?_, ?_, ?_, fun k hk => ?_, fun i hi => ?_⟩
          · rw [b0.1]; show 0 = κ 11 4; rw [nb 4 (by decide), b1.1 4 (by decide)]
          · rw [b0.2.1]; show 0 = κ 11 10; rw [nb 10 (by decide), b1.2.2.1]
          · rw [b0.2.2.1]; show 0 = κ 11 11; rw [nb 11 (by decide), b1.2.2.2]
          · rw [b0.2.2.2.1 k (by omega)]; show 0 = κ 11 k; rw [nb k (by omega), b1.1 k (by omega)]
          · rw [b0.2.2.2.2 i (by omega)]; show -9 = κ 11 (5 + i); rw [nb (5 + i) (by omega), b1.2.1 i (by omega)]
        · rw [s2, ev]; exact begin_xx i4 i5 ρ τ
        · intro i hi
          have hi5 := (PB_pe hpb).2.1
          left
          show κ 11 (5 + i) = -9
          rw [nb (5 + i) (by omega), b1.2.1 i (by omega)]
      · rw [if_neg c9, if_neg c9]
        exact ⟨rfl, hD⟩
  · rw [if_neg hr, if_neg hr]; exact Ag.same h _
