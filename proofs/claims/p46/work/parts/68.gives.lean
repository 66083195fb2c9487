/-! level 2: gives -/
theorem fst_full (f : Nat → Bool) : ∀ n, fstN f n = n ↔ ∀ j, j < n → f j = false
  | 0 => ⟨fun _ j hj => absurd hj (Nat.not_lt_zero _), fun _ => rfl⟩
  | n + 1 => by
    have ih := fst_full f n
    have hl := fstN_le f n
    rw [fstN]
    by_cases c : fstN f n = n
    · rw [if_pos c]
      have hc := ih.mp c
      cases hf : f n with
      | true =>
        rw [if_pos rfl]
        exact ⟨fun e => absurd e (by omega), fun q => by have := q n (by omega); rw [hf] at this; cases this⟩
      | false =>
        rw [if_neg (by decide)]
        refine ⟨fun _ j hj => ?_, fun _ => rfl⟩
        by_cases e : j = n
        · rw [e]; exact hf
        · exact hc j (by omega)
    · rw [if_neg c]
      exact ⟨fun e => absurd e (by omega), fun q => absurd (ih.mpr fun j hj => q j (by omega)) c⟩
theorem fst_step {f g : Nat → Bool} : ∀ n, (∀ j, j < n → (∀ i, i < j → g i = false) → f j = g j) → fstN f n = fstN g n
  | 0, _ => rfl
  | n + 1, h => by
    have ih := fst_step n (fun j hj => h j (by omega))
    rw [fstN, fstN, ih]
    by_cases c : fstN g n = n
    · rw [if_pos c, if_pos c, h n (by omega) ((fst_full g n).mp c)]
    · rw [if_neg c, if_neg c]
theorem gave_has {P S : PT} (hpb : PB P) {k : Int32} (hk : a_isPole P k = true) : b_has (y_gave P S) k = y_gives P S (ix k) := by
  have h4 := (PB_pl hpb).2.1
  have e := ix_nI (isPole_t hk).1
  have q : b_has (y_gave P S) (nI (ix k)) = y_gives P S (ix k) := bits_has _ (by omega) (isPole_ix hk)
  rw [← e] at q; exact q
theorem pole_n9 {P : PT} {k : Int32} (hk : a_isPole P k = true) : ¬ (-9 : Int32) = k := fun e => by
  have q := (isPole_t hk).1
  rw [← e] at q
  exact absurd q (by decide)
theorem aside_sM {P : PT} (h4 : nPl P ≤ 4) (h5 : nPe P ≤ 5) (μ : Mem) : SEq P (sM μ 11) (sM (yM P μ 0) 12) := asideM_rel P h4 h5 μ
/-- a pole that doesn't give for j years -/
theorem gv_inv {P : PT} (hpb : PB P) (hr : PR P) (μ : Mem) {k : Int32} (hk : a_isPole P k = true) (hu : a_isUp P (sM μ 11) k = true) : ∀ j, (∀ i, i < j → gv_at P k (a_load P (sM μ 11) k) (μ 11 (ix k)) i = false) →
    a_isUp P (sM (yM P μ j) 12) k = true ∧ (∀ i, i < nPe P → (sM (yM P μ j) 12 2 i = k ↔ sM μ 11 2 i = k)) ∧ sM (yM P μ j) 12 1 (ix k) = wornN (if 0 < a_load P (sM μ 11) k then 1 else 0) (μ 11 (ix k)) j
  | 0, _ => by
    have q := aside_sM (PB_pl hpb).2.1 (PB_pe hpb).2.1 μ
    refine ⟨?_, fun i hi => ?_, ?_⟩
    · rw [← pe_isUp PEq.rfl' q]; exact hu
    · rw [q.2.2.2.2 i hi]
    · rw [← q.2.2.2.1 _ (isPole_ix hk)]; rfl
  | j + 1, hj => by
    obtain ⟨a1, a2, a3⟩ := gv_inv hpb hr μ hk hu j (fun i hi => hj i (by omega))
    have e := ix_nI (isPole_t hk).1
    have hl : a_load P (sM (yM P μ j) 12) k = a_load P (sM μ 11) k := by
      unfold a_load
      exact a_sum_c _ (fun i hi => by
        have w := a2 i hi
        by_cases c : sM μ 11 2 i = k
        · rw [if_pos c, if_pos (w.mpr c)]
        · rw [if_neg c, if_neg (fun q => c (w.mp q))])
    have hg := hj j (by omega)
    have hb : ¬ a_bearsNow P (sM (yM P μ j) 12) k < a_load P (sM (yM P μ j) 12) k := by
      unfold gv_at at hg
      have := of_decide_eq_false hg
      unfold a_bears at this
      unfold a_bearsNow
      rw [if_pos hk] at this ⊢
      rw [a3, hl]; exact this
    have hv : y_gives P (sM (yM P μ j) 12) (ix k) = false := by
      unfold y_gives
      rw [← e, decide_eq_false hb, Bool.and_false]
    have hh := gave_has (S := sM (yM P μ j) 12) hpb hk
    rw [hv] at hh
    obtain ⟨z0, z1, z2, z3, z4⟩ := sM_year hpb (yM P μ j) 12
    refine ⟨?_, fun i hi => ?_, ?_⟩
    · rw [up_has hk] at a1
      show a_isUp P (sM (w_year P (yM P μ j) 12) 12) k = true
      rw [up_has hk, z0, has_or, hh, Bool.or_false]; exact a1
    · show sM (w_year P (yM P μ j) 12) 12 2 i = k ↔ _
      rw [z4 i hi, yseat_b, ← a2 i hi]
      by_cases c : a_isSeated P (sM (yM P μ j) 12) (nI i) = true
      · rw [if_pos c]
        by_cases d : b_has (y_gave P (sM (yM P μ j) 12)) (sM (yM P μ j) 12 2 i) = true
        · rw [if_pos d]
          refine ⟨fun q => absurd q (pole_n9 hk), fun q => ?_⟩
          rw [q, hh] at d; cases d
        · rw [if_neg d]
      · rw [if_neg c]
    · show sM (w_year P (yM P μ j) 12) 12 1 (ix k) = _
      rw [z3 _ (isPole_ix hk), wear_e hpb hr _ (isPole_ix hk)]
      unfold y_wear
      rw [← e, if_pos a1, if_neg hb, hl, a3]; rfl
theorem gf_e {P : PT} (hpb : PB P) (hr : PR P) (μ : Mem) {k : Int32} (hk : a_isPole P k = true) (hu : a_isUp P (sM μ 11) k = true) (n : Nat) :
    fstN (gf P μ k) n = fstN (gv_at P k (a_load P (sM μ 11) k) (μ 11 (ix k))) n := fst_step n fun j _ hj => by
  obtain ⟨a1, a2, a3⟩ := gv_inv hpb hr μ hk hu j hj
  have e := ix_nI (isPole_t hk).1
  have hl : a_load P (sM (yM P μ j) 12) k = a_load P (sM μ 11) k := by
    unfold a_load
    exact a_sum_c _ (fun i hi => by
      have w := a2 i hi
      by_cases c : sM μ 11 2 i = k
      · rw [if_pos c, if_pos (w.mpr c)]
      · rw [if_neg c, if_neg (fun q => c (w.mp q))])
  unfold gf
  rw [gave_has hpb hk]
  unfold y_gives gv_at
  rw [← e, a1, Bool.true_and, hl]
  unfold a_bears a_bearsNow
  rw [if_pos hk, if_pos hk, a3]
theorem down_stays {P : PT} (hpb : PB P) (μ : Mem) {k : Int32} (hk : a_isPole P k = true) (hu : ¬ a_isUp P (sM μ 11) k = true) : ∀ j, a_isUp P (sM (yM P μ j) 12) k = false
  | 0 => by
    rw [← pe_isUp PEq.rfl' (aside_sM (PB_pl hpb).2.1 (PB_pe hpb).2.1 μ)]; exact Bool.eq_false_iff.mpr hu
  | j + 1 => by
    have ih := down_stays hpb μ hk hu j
    show a_isUp P (sM (w_year P (yM P μ j) 12) 12) k = false
    rw [up_has hk] at ih ⊢
    rw [(sM_year hpb (yM P μ j) 12).1, has_or]
    cases c : b_has (sM (yM P μ j) 12 0 0) k with
    | true => rfl
    | false => rw [c] at ih; cases ih
theorem gf_down {P : PT} (hpb : PB P) (μ : Mem) {k : Int32} (hk : a_isPole P k = true) (hu : ¬ a_isUp P (sM μ 11) k = true) (n : Nat) : fstN (gf P μ k) n = n := (fst_full _ n).mpr fun j _ => by
  unfold gf
  rw [gave_has hpb hk]
  unfold y_gives
  rw [← ix_nI (isPole_t hk).1, down_stays hpb μ hk hu j, Bool.false_and]
theorem op_gives {σ μ : Mem} (h : Rl σ μ) (k : Int32) : Ag (k_gives σ k, σ) (n_gives μ k) := by
  have hp := h.1.1
  have hs := h.2.2.2.1.2.2.1
  have hpb := h.1.2.1
  have hr := h.1.2.2.1
  have fr : ∀ n, Rl σ (yM (pM μ) μ n) := fun n => Rl_aside h (fun _ _ => rfl) (fun q h12 _ => yM_n _ _ h12 _)
  unfold k_gives n_gives
  rw [pe_isPole hp]
  by_cases c : a_isPole (pM μ) k = true
  · rw [if_pos c, if_pos c, pe_isUp hp hs]
    by_cases u : a_isUp (pM μ) (sM μ 11) k = true
    · rw [if_pos u, gf_e hpb hr μ c u]
      have ea : a_gives (vP σ 33) (vS σ 45) k = if fstN (gv_at (pM μ) k (a_load (pM μ) (sM μ 11) k) (μ 11 (ix k))) 40 = 40 then -9 else nI (fstN (gv_at (pM μ) k (a_load (pM μ) (sM μ 11) k) (μ 11 (ix k))) 40 + 1) := by
        have eg : ∀ n, fstN (gv_at (vP σ 33) k (a_load (vP σ 33) (vS σ 45) k) (vS σ 45 1 (ix k))) n = fstN (gv_at (pM μ) k (a_load (pM μ) (sM μ 11) k) (μ 11 (ix k))) n := fun n => fstN_c n fun j _ => by
          unfold gv_at
          have e1 : vS σ 45 1 (ix k) = μ 11 (ix k) := hs.2.2.2.1 _ (by rw [hp.pl]; exact isPole_ix c)
          rw [pe_load hp hs, pe_bears hp, e1]
        unfold a_gives
        rw [eg]
      rw [ea]
      generalize fstN (gv_at (pM μ) k (a_load (pM μ) (sM μ 11) k) (μ 11 (ix k))) 40 = v
      by_cases w : v = 40
      · rw [if_pos w, if_pos w]; exact ⟨rfl, fr _⟩
      · rw [if_neg w, if_neg w]; exact ⟨rfl, fr _⟩
    · rw [if_neg u, gf_down hpb μ c u, if_pos rfl]; exact ⟨rfl, fr _⟩
  · rw [if_neg c, if_neg c]; exact Ag.same h _
