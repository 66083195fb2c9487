/-! level 2: laces -/
theorem l_stop_f (P : PT) (σ : Mem) (y : Nat) (one : Int32) : ∀ n, l_stop P σ y one n = fstN (l_bad P σ y one) n
  | 0 => rfl
  | n + 1 => by rw [l_stop, fstN, l_stop_f P σ y one n]
theorem l_ok_iff (P : PT) (σ : Mem) (y : Nat) (one : Int32) : l_ok P σ y one = true ↔ ∀ k, k < nPl P → l_bad P σ y one k = false := by
  unfold l_ok
  rw [decide_eq_true_eq, l_stop_f, fst_full]
theorem s_lace_k (P : PT) : ∀ (d : Nat) (τ : Mem) (y : Nat) (many : Int32) (q k : Nat), y + d ≤ 5 → (q = 64 ∨ (58 ≤ q ∧ q ≤ 58 + y) ∨ (q = 65 ∧ k < y)) → s_lace P d τ y many q k = τ q k
  | 0, τ, y, many, q, k, hd, h => by
    unfold s_lace; split
    · unfold s_laced; rw [mF_n _ _ _ (by omega), mU_n _ _ _ (by omega)]
    · rfl
  | d + 1, τ, y, many, q, k, hd, h => by
    have e65 : ∀ (τ : Mem) v, mU τ 65 y v q k = τ q k := fun τ v => by
      rw [mU_e]
      split
      · next e => rw [if_neg (by omega), e]
      · rfl
    rw [s_lace_s]
    split
    · rw [forM_keep (fun k' τ' => ?_)]
      · unfold s_lace0
        split
        · rw [s_lace_k P d _ _ _ _ _ (by omega) (by omega), l_out_n _ _ _ _ (by omega), e65]
        · rw [l_out_n _ _ _ _ (by omega), e65]
      · unfold s_laceK
        split
        · split
          · rw [s_lace_k P d _ _ _ _ _ (by omega) (by omega), l_out_n _ _ _ _ (by omega), e65]
          · rw [l_out_n _ _ _ _ (by omega), e65]
        · rw [e65]
    · rfl
def InvL (P S : PT) (n : Nat) (τ : Mem) (s : Nat → Int32) (y : Nat) (many : Int32) : Prop := y ≤ n ∧ (∀ j, j < y → τ 65 j = s j) ∧ τ 56 0 = a_up P S ∧ (∀ k, k < nPl P → τ 64 k = a_load P S (nI k)) ∧ (∀ k, k < nPl P → τ (58 + y) k = Wr P S s y k) ∧ many = nI (cntS s y) ∧ (∀ j, j < y → okY P S s j = true)
def RelL (n : Nat) (τ : Mem) (x : Int32 × (Nat → Int32)) : Prop := (x.1 = 1000000 ∧ τ 56 2 = nI (n + 1)) ∨ (τ 56 2 = x.1 ∧ (∃ m, m ≤ n ∧ x.1 = nI m) ∧ ∀ y, y < n → τ 66 y = x.2 y)
theorem RelL_n {n : Nat} {τ ρ : Mem} {x : Int32 × (Nat → Int32)} (h : RelL n τ x) (h1 : ρ 56 2 = τ 56 2) (h2 : ρ 66 = τ 66) : RelL n ρ x := by unfold RelL; rw [h1, h2]; exact h
theorem leafL_no {P S : PT} {n : Nat} {s : Nat → Int32} {x : Int32 × (Nat → Int32)} (h : vld P S s n = true → ¬ nI (cntS s n) < x.1) : lfL P S n s x = x := by
  unfold lfL
  rw [if_neg (fun q => h q.1 q.2)]
theorem cntS_c {s t : Nat → Int32} {n : Nat} (h : ∀ j, j < n → s j = t j) : cntS s n = cntS t n := cN_c n fun j hj => by rw [h j hj]
theorem cntS_le (s : Nat → Int32) (n : Nat) : cntS s n ≤ n := cN_le _ n
theorem cntS_mono (s : Nat → Int32) {y : Nat} : ∀ c, cntS s y ≤ cntS s (y + c)
  | 0 => Nat.le_refl _
  | c + 1 => by
    have ih := cntS_mono s (y := y) c
    have e : cntS s (y + (c + 1)) = cntS s (y + c) + (if (!decide (s (y + c) = -9)) = true then 1 else 0) := rfl
    rw [e]; omega
theorem up_bit {P S : PT} (hpb : PB P) {k : Nat} (hk : k < nPl P) : ((a_up P S >>> (nI k &&& 31)) &&& 1 = 1) ↔ a_isUp P S (nI k) = true := by
  obtain ⟨e4, h4, _⟩ := PB_pl hpb
  have e : b_has (a_up P S) (nI k) = a_isUp P S (nI k) := by
    unfold a_up
    rw [e4, low_bits _ (by omega), bits_has _ (by omega) hk, has_not _ (by omega), up_has (pole_nI hpb hk)]
  rw [← e]
  unfold b_has
  rw [decide_eq_true_eq]
theorem lace_tree {P S : PT} (hpb : PB P) {n : Nat} (hn5 : n ≤ 5) : ∀ (d y : Nat) (s : Nat → Int32) (τ : Mem) (many : Int32) (x : Int32 × (Nat → Int32)), y + d = n → InvL P S n τ s y many → RelL n τ x →
    RelL n (s_lace P d τ y many) (tree (nPl P + 1) (dgt 1) (lfL P S n) d y s x)
  | 0, y, s, τ, many, x, hyd, hI, hR => by
    obtain ⟨i1, i2, i3, i4, i5, i6, i7⟩ := hI
    have ey : y = n := by omega
    subst ey
    have hc := cntS_le s y
    have hv : vld P S s y = true := (all_iff _ _).mpr i7
    rw [s_lace, tree]
    unfold lfL
    rw [hv, i6]
    have new : RelL y (s_laced τ (nI (cntS s y))) (nI (cntS s y), s) := Or.inr ⟨by unfold s_laced; rw [mF_n _ _ _ (by decide), mU_e, if_pos rfl, if_pos rfl], ⟨_, hc, rfl⟩, fun j hj => by
      unfold s_laced; rw [mF_e, if_pos rfl, if_pos (by omega)]; exact i2 j hj⟩
    rcases hR with ⟨e0, e⟩ | ⟨e, ⟨m, hm, em⟩, e2⟩
    · have c1 : nI (cntS s y) < nI (y + 1) := i_ltI (by rw [nI_toInt (by omega), nI_toInt (by omega)]; omega)
      have c2 : nI (cntS s y) < x.1 := i_ltI (by rw [e0, nI_toInt (by omega), show (1000000 : Int32).toInt = 1000000 by decide]; omega)
      rw [e, if_pos c1, if_pos ⟨rfl, c2⟩]; exact new
    · rw [e]
      by_cases c : nI (cntS s y) < x.1
      · rw [if_pos c, if_pos ⟨rfl, c⟩]; exact new
      · rw [if_neg c, if_neg (fun q => c q.2)]; exact Or.inr ⟨e, ⟨m, hm, em⟩, e2⟩
  | d + 1, y, s, τ, many, x, hyd, hI, hR => by
    obtain ⟨i1, i2, i3, i4, i5, i6, i7⟩ := hI
    have h4 := (PB_pl hpb).2.1
    have hy : y < n := by omega
    have hcy := cntS_le s y
    rw [s_lace_s]
    by_cases c : many < τ 56 2
    · rw [if_pos c, tree, forR_sh]
      have branch : ∀ (one mn : Int32) (ρ : Mem) (x' : Int32 × (Nat → Int32)), (∀ j, j < y → ρ 65 j = τ 65 j) → ρ 56 0 = τ 56 0 → (∀ k, ρ 64 k = τ 64 k) → (∀ k, ρ (58 + y) k = τ (58 + y) k) → RelL n ρ x' → (one = -9 ∨ a_isUp P S one = true) → mn = nI (cntS (sU s y one) (y + 1)) →
          RelL n (if l_ok P (mU ρ 65 y one) y one = true then s_lace P d (l_out P (mU ρ 65 y one) y one) (y + 1) mn else l_out P (mU ρ 65 y one) y one) (tree (nPl P + 1) (dgt 1) (lfL P S n) d (y + 1) (sU s y one) x') := by
        intro one mn ρ x' f65 f56 f64 f58 hR' hu hmn
        have hWr : Wr P S (sU s y one) y = Wr P S s y := Wr_c y fun j hj => sU_n _ _ (by omega)
        have hbef : ∀ k, k < nPl P → l_bef (mU ρ 65 y one) y one k = Bf P S (sU s y one) y k := fun k hk => by
          unfold l_bef Bf
          rw [sU_e, hWr, mU_n _ _ _ (by omega), f58, i5 k hk]
          by_cases e : one = nI k
          · rw [if_pos e, if_pos e.symm]
          · rw [if_neg e, if_neg (fun q => e q.symm)]
        have h64 : ∀ k, k < nPl P → mU ρ 65 y one 64 k = a_load P S (nI k) := fun k hk => by rw [mU_n _ _ _ (by decide), f64, i4 k hk]
        have h56 : mU ρ 65 y one 56 0 = a_up P S := by rw [mU_n _ _ _ (by decide), f56, i3]
        have hok : l_ok P (mU ρ 65 y one) y one = true ↔ okY P S (sU s y one) y = true := by
          rw [l_ok_iff, okY_iff, sU_e]
          constructor
          · intro h
            refine ⟨hu, fun k hk up => ?_⟩
            have q := h k hk
            unfold l_bad at q
            rw [hbef k hk, h64 k hk, h56, decide_eq_true ((up_bit hpb hk).mpr up), Bool.true_and] at q
            exact of_decide_eq_false q
          · intro h k hk
            unfold l_bad
            rw [hbef k hk, h64 k hk, h56]
            by_cases up : a_isUp P S (nI k) = true
            · rw [decide_eq_false (h.2 k hk up), Bool.and_false]
            · rw [decide_eq_false (fun q => up ((up_bit hpb hk).mp q)), Bool.false_and]
        have hf : RelL n (l_out P (mU ρ 65 y one) y one) x' := RelL_n hR' (by rw [l_out_n _ _ _ _ (by omega), mU_n _ _ _ (by decide)]) (by rw [l_out_n _ _ _ _ (by omega), mU_n _ _ _ (by decide)])
        by_cases k1 : l_ok P (mU ρ 65 y one) y one = true
        · rw [if_pos k1]
          refine lace_tree hpb hn5 d (y + 1) _ _ _ _ (by omega) ⟨by omega, fun j hj => ?_, ?_, fun k hk => ?_, fun k hk => ?_, hmn, fun j hj => ?_⟩ hf
          · rw [l_out_n _ _ _ _ (by omega), mU_e, if_pos rfl]
            by_cases e : j = y
            · rw [if_pos e, e, sU_e]
            · rw [if_neg e, sU_n _ _ e, f65 j (by omega)]; exact i2 j (by omega)
          · rw [l_out_n _ _ _ _ (by omega)]; exact h56
          · rw [l_out_n _ _ _ _ (by omega)]; exact h64 k hk
          · unfold l_out
            have el : l_stop P (mU ρ 65 y one) y one (nPl P) = nPl P := by unfold l_ok at k1; exact of_decide_eq_true k1
            rw [mF_e, if_pos rfl, el, if_pos hk]
            unfold l_wear
            rw [hbef k hk, h64 k hk]; rfl
          · by_cases e : j = y
            · rw [e]; exact hok.mp k1
            · rw [okY_c (t := s) (fun i hi => sU_n _ _ (by omega))]; exact i7 j (by omega)
        · rw [if_neg k1, tree_fix d (y + 1) _ fun s' h1 h2 => leafL_no fun hv => ?_]
          · exact hf
          · exfalso
            have q := (all_iff _ _).mp hv y hy
            rw [okY_c (t := sU s y one) (fun j hj => h1 j (by omega))] at q
            exact k1 (hok.mpr q)
      have fr : ∀ (one mn : Int32) (ρ : Mem) (q k : Nat), ((q = 65 ∧ k < y) ∨ (q = 56 ∧ k = 0) ∨ q = 64 ∨ q = 58 + y) → (if l_ok P (mU ρ 65 y one) y one = true then s_lace P d (l_out P (mU ρ 65 y one) y one) (y + 1) mn else l_out P (mU ρ 65 y one) y one) q k = ρ q k := by
        intro one mn ρ q k hq
        have e0 : l_out P (mU ρ 65 y one) y one q k = ρ q k := by
          rw [l_out_n _ _ _ _ (by omega), mU_e]
          split
          · next e => rw [if_neg (by omega), e]
          · rfl
        split
        · rcases hq with h | h | h | h
          · rw [s_lace_k P d _ _ _ _ _ (by omega) (by omega), e0]
          · rw [s_lace_n P (by omega), e0]
          · rw [s_lace_k P d _ _ _ _ _ (by omega) (by omega), e0]
          · rw [s_lace_k P d _ _ _ _ _ (by omega) (by omega), e0]
        · exact e0
      have g := branch (-9) many τ x (fun _ _ => rfl) rfl (fun _ => rfl) (fun _ => rfl) hR (Or.inl rfl) (by
        rw [i6]
        have e : cntS (sU s y (-9)) (y + 1) = cntS s y := by
          have e1 : cntS (sU s y (-9)) y = cntS s y := cntS_c fun j hj => sU_n _ _ (by omega)
          show cntS (sU s y (-9)) y + (if (!decide (sU s y (-9) y = -9)) = true then 1 else 0) = _
          rw [e1, sU_e]; rfl
        rw [e])
      have e90 : dgt 1 0 = -9 := by decide
      have f := fr (-9) many τ
      rw [← show s_lace0 P d y many τ = (if l_ok P (mU τ 65 y (-9)) y (-9) = true then s_lace P d (l_out P (mU τ 65 y (-9)) y (-9)) (y + 1) many else l_out P (mU τ 65 y (-9)) y (-9)) from rfl] at g f
      rw [e90]
      generalize s_lace0 P d y many τ = τ1 at g f ⊢
      generalize tree (nPl P + 1) (dgt 1) (lfL P S n) d (y + 1) (sU s y (-9)) x = x1 at g ⊢
      have loop : ∀ m, m ≤ nPl P → RelL n (forM (s_laceK P d y many) m τ1) (forR (fun k z => tree (nPl P + 1) (dgt 1) (lfL P S n) d (y + 1) (sU s y (dgt 1 (k + 1))) z) m x1) ∧
          (∀ q k, ((q = 65 ∧ k < y) ∨ (q = 56 ∧ k = 0) ∨ q = 64 ∨ q = 58 + y) → forM (s_laceK P d y many) m τ1 q k = τ q k) := by
        intro m
        induction m with
        | zero => intro _; exact ⟨g, f⟩
        | succ m ih =>
          intro hm
          obtain ⟨r1, r2⟩ := ih (by omega)
          rw [forM, forR]
          generalize forM (s_laceK P d y many) m τ1 = ρ at r1 r2 ⊢
          generalize forR (fun k z => tree (nPl P + 1) (dgt 1) (lfL P S n) d (y + 1) (sU s y (dgt 1 (k + 1))) z) m x1 = w at r1 ⊢
          have hk : m < nPl P := by omega
          have e56 : mU ρ 65 y (nI m) 56 0 = a_up P S := by rw [mU_n _ _ _ (by decide), r2 56 0 (by omega), i3]
          rw [dgt_s (by omega)]
          unfold s_laceK
          rw [e56]
          by_cases up : a_isUp P S (nI m) = true
          · rw [if_pos ((up_bit hpb hk).mpr up)]
            refine ⟨branch (nI m) (many + 1) ρ w (fun j hj => r2 65 j (by omega)) (r2 56 0 (by omega)) (fun k => r2 64 k (by omega)) (fun k => r2 (58 + y) k (by omega)) r1 (Or.inr up) ?_, fun q k hq => (fr (nI m) (many + 1) ρ q k hq).trans (r2 q k hq)⟩
            rw [i6, nI_1]
            have e : cntS (sU s y (nI m)) (y + 1) = cntS s y + 1 := by
              have e1 : cntS (sU s y (nI m)) y = cntS s y := cntS_c fun j hj => sU_n _ _ (by omega)
              show cntS (sU s y (nI m)) y + (if (!decide (sU s y (nI m) y = -9)) = true then 1 else 0) = _
              rw [e1, sU_e, decide_eq_false (nI_n9 (by omega))]; rfl
            rw [e]
          · rw [if_neg (fun q => up ((up_bit hpb hk).mp q))]
            refine ⟨?_, fun q k hq => ?_⟩
            · rw [tree_fix d (y + 1) _ fun s' h1 h2 => leafL_no fun hv => ?_]
              · exact RelL_n r1 (by rw [mU_n _ _ _ (by decide)]) (by rw [mU_n _ _ _ (by decide)])
              · exfalso
                have q := ((okY_iff P S s' y).mp ((all_iff _ _).mp hv y hy)).1
                rw [h1 y (by omega), sU_e] at q
                rcases q with q | q
                · exact nI_n9 (by omega) q
                · exact up q
            · rw [mU_e]
              split
              · rw [if_neg (by omega)]; exact r2 q k hq
              · exact r2 q k hq
      exact (loop (nPl P) (Nat.le_refl _)).1
    · rw [if_neg c, tree_fix (d + 1) y s fun s' h1 h2 => leafL_no fun hv q => ?_]
      · exact hR
      · have dc := i_nlt c
        have hm := cntS_mono s' (y := y) (n - y)
        have hl := cntS_le s' n
        rw [show y + (n - y) = n by omega, cntS_c h1] at hm
        rcases hR with ⟨e0, e⟩ | ⟨e, ⟨m, hm', em⟩, e2⟩
        · rw [e, i6, nI_toInt (by omega), nI_toInt (by omega)] at dc
          omega
        · have dq := i_lt q
          rw [e, i6, em, nI_toInt (by omega), nI_toInt (by omega)] at dc
          rw [em, nI_toInt (by omega), nI_toInt (by omega)] at dq
          omega
