/-! level 2: best -/
theorem forM_keep {f : Nat → Mem → Mem} {q j : Nat} (h : ∀ k τ, f k τ q j = τ q j) : ∀ n τ, forM f n τ q j = τ q j
  | 0, τ => rfl
  | n + 1, τ => (h n _).trans (forM_keep h n τ)
theorem s_high_52 (P : PT) : ∀ (d : Nat) (τ : Mem) (i : Nat) (high : Int32) (k : Nat), s_high P d τ i high 52 k = τ 52 k
  | 0, τ, i, high, k => by
    rw [s_high]; unfold s_leaf; split
    · rw [mF_n _ _ _ (by decide), mU_n _ _ _ (by decide)]
    · rfl
  | d + 1, τ, i, high, k => by
    rw [s_high_s]
    split
    · rw [forM_keep (fun k' τ' => ?_), s_high_52 P d, mU_n _ _ _ (by decide)]
      unfold s_hiK
      split
      · rfl
      · rw [mU_e, if_pos rfl, s_high_52 P d, s_high_52 P d, mU_e, if_pos rfl, if_pos rfl, mU_e, if_pos rfl]
        by_cases e : k = k'
        · rw [if_pos e, Int32.sub_add_cancel, e]
        · rw [if_neg e, if_neg e, mU_n _ _ _ (by decide)]
    · rfl
theorem s_high_54 (P : PT) : ∀ (d : Nat) (τ : Mem) (i : Nat) (high : Int32) (j : Nat), j < i → s_high P d τ i high 54 j = τ 54 j
  | 0, τ, i, high, j, _ => by
    rw [s_high]; unfold s_leaf; split
    · rw [mF_n _ _ _ (by decide), mU_n _ _ _ (by decide)]
    · rfl
  | d + 1, τ, i, high, j, hj => by
    rw [s_high_s]
    split
    · rw [forM_keep (fun k' τ' => ?_), s_high_54 P d _ _ _ _ (by omega), mU_e, if_pos rfl, if_neg (by omega)]
      unfold s_hiK
      split
      · rfl
      · rw [mU_n _ _ _ (by decide), s_high_54 P d _ _ _ _ (by omega), mU_n _ _ _ (by decide), mU_e, if_pos rfl, if_neg (by omega)]
    · rfl
def InvH (P S : PT) (τ : Mem) (s : Nat → Int32) (i : Nat) (high : Int32) : Prop := i ≤ nPe P ∧ (∀ j, j < i → τ 54 j = s j) ∧ (∀ k, k < nPl P → τ 52 k = s_spare P S k - LI P s i (nI k)) ∧ high = HI P s i ∧ (∀ c, c ≤ nPe P → τ 53 (nPe P - c) = s_hv P (s_spare P S) (nPe P) c) ∧ okS P S s i ∧ (∀ k, k < nPl P → (LI P s i (nI k)).toInt ≤ (s_spare P S k).toInt)
def RelH (P : PT) (τ : Mem) (x : Int32 × (Nat → Int32)) : Prop := τ 51 0 = x.1 ∧ (¬ x.1 = -1 → ∀ j, j < nPe P → τ 55 j = x.2 j)
theorem dgt_s {k : Nat} (h : k < 100) : dgt 1 (k + 1) = nI k := by
  unfold dgt
  rw [nI_pred, if_neg (nI_pos (by omega))]
theorem forR_sh {α : Type} (f : Nat → α → α) : ∀ n x, forR f (n + 1) x = forR (fun k => f (k + 1)) n (f 0 x)
  | 0, _ => rfl
  | n + 1, x => by
    have ih := forR_sh f n x
    rw [forR, ih]; rfl
/-- leaves below a seating of the first i that can't hold, or can't be higher -/
theorem leaf_no {P S : PT} {s : Nat → Int32} {x : Int32 × (Nat → Int32)} (h : upB P S s = true → b_fail P (Ts S s) = 0 → ¬ x.1 < a_highAll P (Ts S s)) : lfB P S s x = x := by
  unfold lfB
  rw [if_neg (fun q => h q.1.1 q.1.2 q.2)]
theorem okS_of {P S : PT} {s : Nat → Int32} (h : upB P S s = true) : okS P S s (nPe P) := (upB_iff P S s).mp h
theorem spare_pos {P S : PT} (hpb : PB P) (hr : PR P) {s : Nat → Int32} (hu : upB P S s = true) (hf : b_fail P (Ts S s) = 0) : ∀ j, j < nPe P → ∀ k, k < nPl P → s j = nI k → 0 < s_spare P S k := by
  intro j hj k hk e
  have h5 := (PB_pe hpb).2.1
  have h4 := (PB_pl hpb).2.1
  have up : a_isUp P S (nI k) = true := by
    rcases okS_of hu j hj with q | q
    · rw [e] at q
      have z := i_eq q
      rw [nI_toInt (by omega), show (-9 : Int32).toInt = -9 by decide] at z
      omega
    · rw [e] at q; exact q
  have hl := i_le ((fail_iff hpb s).mp hf k hk up)
  have q := loadBy_i hr (one_nI hpb hj) (Or.inr (pole_nI hpb hk))
  have w := sum_le _ 13 (by decide) (nPe P) (by omega) (fun j hj => LI_t hpb hr s hk hj) j hj
  rw [if_pos e] at w
  have w2 : (a_loadBy P (nI j) (nI k)).toInt ≤ (LI P s (nPe P) (nI k)).toInt := w
  unfold s_spare
  rw [if_pos up]
  exact i_ltI (by rw [show (0 : Int32).toInt = 0 by decide]; omega)
theorem high_tree {P S : PT} (hpb : PB P) (hr : PR P) (hw : WR P S) : ∀ (d i : Nat) (s : Nat → Int32) (τ : Mem) (high : Int32) (x : Int32 × (Nat → Int32)), i + d = nPe P → InvH P S τ s i high → RelH P τ x →
    RelH P (s_high P d τ i high) (tree (nPl P + 1) (dgt 1) (lfB P S) d i s x)
  | 0, i, s, τ, high, x, hid, hI, hR => by
    obtain ⟨i1, i2, i3, i4, i5, i6, i7⟩ := hI
    have ei : i = nPe P := by omega
    subst ei
    have hu : upB P S s = true := (upB_iff P S s).mpr i6
    have hf : b_fail P (Ts S s) = 0 := (fail_iff hpb s).mpr fun k hk up => by
      have e := i7 k hk
      unfold s_spare at e
      rw [if_pos up] at e
      exact i_leI e
    have eh : a_highAll P (Ts S s) = high := i4.symm
    rw [s_high, tree]
    unfold s_leaf lfB
    rw [eh, hR.1]
    by_cases c : x.1 < high
    · rw [if_pos c, if_pos ⟨⟨hu, hf⟩, c⟩]
      refine ⟨?_, fun _ j hj => ?_⟩
      · rw [mF_n _ _ _ (by decide), mU_e, if_pos rfl, if_pos rfl]
      · have h5 := (PB_pe hpb).2.1
        rw [mF_e, if_pos rfl, if_pos (by omega)]; exact i2 j hj
    · rw [if_neg c, if_neg (fun q => c q.2)]; exact hR
  | d + 1, i, s, τ, high, x, hid, hI, hR => by
    obtain ⟨i1, i2, i3, i4, i5, i6, i7⟩ := hI
    have h4 := (PB_pl hpb).2.1
    have h5 := (PB_pe hpb).2.1
    have hHI := HI_i hpb hr i1 i6
    have ehv : τ 53 i = s_hv P (s_spare P S) (nPe P) (d + 1) := by
      have q := i5 (d + 1) (by omega)
      rw [show nPe P - (d + 1) = i by omega] at q; exact q
    have hv := hv_i hpb hr (s_spare P S) (d + 1) (by omega)
    rw [s_high_s, hR.1, ehv]
    by_cases c : x.1 < high + s_hv P (s_spare P S) (nPe P) (d + 1)
    · rw [if_pos c, tree, forR_sh]
      have hi : i < nPe P := by omega
      -- the ground
      have g : RelH P (s_high P d (mU τ 54 i (-9)) (i + 1) high) (tree (nPl P + 1) (dgt 1) (lfB P S) d (i + 1) (sU s i (dgt 1 0)) x) := by
        have e9 : dgt 1 0 = -9 := by decide
        rw [e9]
        refine high_tree hpb hr hw d (i + 1) _ _ _ _ (by omega) ⟨by omega, fun j hj => ?_, fun k hk => ?_, ?_, fun c' hc' => ?_, fun j hj => ?_, fun k hk => ?_⟩ ⟨?_, fun hn j hj => ?_⟩
        · rw [mU_e, if_pos rfl]
          by_cases e : j = i
          · rw [if_pos e, e, sU_e]
          · rw [if_neg e, sU_n _ _ e]; exact i2 j (by omega)
        · rw [mU_n _ _ _ (by decide), i3 k hk, LI_s, if_neg (pole_n9 (pole_nI hpb hk)), Int32.add_zero]
        · rw [HI_s, high_9, Int32.add_zero]; exact i4
        · rw [mU_n _ _ _ (by decide)]; exact i5 c' hc'
        · by_cases e : j = i
          · rw [e, sU_e]; exact Or.inl rfl
          · rw [sU_n _ _ e]; exact i6 j (by omega)
        · rw [LI_s, if_neg (pole_n9 (pole_nI hpb hk)), Int32.add_zero]; exact i7 k hk
        · rw [mU_n _ _ _ (by decide)]; exact hR.1
        · rw [mU_n _ _ _ (by decide)]; exact hR.2 hn j hj
      have f52 : ∀ k, s_high P d (mU τ 54 i (-9)) (i + 1) high 52 k = τ 52 k := fun k => by rw [s_high_52, mU_n _ _ _ (by decide)]
      have f54 : ∀ j, j < i → s_high P d (mU τ 54 i (-9)) (i + 1) high 54 j = τ 54 j := fun j hj => by rw [s_high_54 P d _ _ _ _ (by omega), mU_e, if_pos rfl, if_neg (by omega)]
      have f53 : s_high P d (mU τ 54 i (-9)) (i + 1) high 53 = τ 53 := by rw [s_high_n P (by decide), mU_n _ _ _ (by decide)]
      generalize s_high P d (mU τ 54 i (-9)) (i + 1) high = τ1 at g f52 f54 f53 ⊢
      generalize tree (nPl P + 1) (dgt 1) (lfB P S) d (i + 1) (sU s i (dgt 1 0)) x = x1 at g ⊢
      have loop : ∀ n, n ≤ nPl P → RelH P (forM (s_hiK P d i high) n τ1) (forR (fun k y => tree (nPl P + 1) (dgt 1) (lfB P S) d (i + 1) (sU s i (dgt 1 (k + 1))) y) n x1) ∧
          (∀ k, forM (s_hiK P d i high) n τ1 52 k = τ 52 k) ∧ (∀ j, j < i → forM (s_hiK P d i high) n τ1 54 j = τ 54 j) ∧ forM (s_hiK P d i high) n τ1 53 = τ 53 := by
        intro n
        induction n with
        | zero => intro _; exact ⟨g, f52, f54, f53⟩
        | succ n ih =>
          intro hn
          obtain ⟨r1, r2, r3, r4⟩ := ih (by omega)
          rw [forM, forR]
          generalize forM (s_hiK P d i high) n τ1 = ρ at r1 r2 r3 r4 ⊢
          generalize forR (fun k y => tree (nPl P + 1) (dgt 1) (lfB P S) d (i + 1) (sU s i (dgt 1 (k + 1))) y) n x1 = y at r1 ⊢
          have hk : n < nPl P := by omega
          have ql := loadBy_i hr (one_nI hpb hi) (Or.inr (pole_nI hpb hk))
          have qL := LI_i hpb hr s hk i1
          have qs := spare_i hpb hr hw hk
          have e52 : (ρ 52 n).toInt = (s_spare P S n).toInt - (LI P s i (nI n)).toInt := by rw [r2, i3 n hk]; exact sub_i ⟨by omega, by omega⟩ ⟨by omega, by omega⟩
          unfold s_hiK
          by_cases cl : ρ 52 n < a_loadBy P (nI i) (nI n)
          · rw [if_pos cl]
            have dl := i_lt cl
            refine ⟨?_, r2, r3, r4⟩
            rw [tree_fix d (i + 1) _ fun s' h1 h2 => leaf_no fun hu hf => ?_]
            · exact r1
            · exfalso
              have es : s' i = nI n := by rw [h1 i (by omega), sU_e, dgt_s (by omega)]
              have up : a_isUp P S (nI n) = true := by
                rcases okS_of hu i hi with q | q
                · rw [es] at q
                  have z := i_eq q
                  rw [nI_toInt (by omega), show (-9 : Int32).toInt = -9 by decide] at z
                  omega
                · rw [es] at q; exact q
              have hl := i_le ((fail_iff hpb s').mp hf n hk up)
              have hm := LI_mono hpb hr s' hk (show i + 1 ≤ nPe P by omega)
              have ec : LI P s' (i + 1) (nI n) = LI P s i (nI n) + a_loadBy P (nI i) (nI n) := by
                rw [LI_c (t := sU s i (nI n)) (fun j hj => by rw [h1 j hj, dgt_s (by omega)]), LI_s, if_pos rfl]
              rw [ec, add_i ⟨by omega, by omega⟩ ⟨by omega, by omega⟩] at hm
              have eb : s_spare P S n = a_bearsNow P S (nI n) := by unfold s_spare; rw [if_pos up]
              rw [eb] at e52
              omega
          · rw [if_neg cl]
            have dl := i_nlt cl
            have up := spare_up (P := P) (S := S) (k := n) (by omega)
            have en : (LI P s i (nI n) + a_loadBy P (nI i) (nI n)).toInt = (LI P s i (nI n)).toInt + (a_loadBy P (nI i) (nI n)).toInt := add_i ⟨by omega, by omega⟩ ⟨by omega, by omega⟩
            have ih2 : RelH P (s_high P d (mU (mU ρ 54 i (nI n)) 52 n (ρ 52 n - a_loadBy P (nI i) (nI n))) (i + 1) (high + a_high P (nI i) (nI n))) (tree (nPl P + 1) (dgt 1) (lfB P S) d (i + 1) (sU s i (dgt 1 (n + 1))) y) := by
              rw [dgt_s (by omega)]
              refine high_tree hpb hr hw d (i + 1) _ _ _ _ (by omega) ⟨by omega, fun j hj => ?_, fun k hk' => ?_, ?_, fun c' hc' => ?_, fun j hj => ?_, fun k hk' => ?_⟩ ⟨?_, fun hn j hj => ?_⟩
              · rw [mU_n _ _ _ (by decide), mU_e, if_pos rfl]
                by_cases e : j = i
                · rw [if_pos e, e, sU_e]
                · rw [if_neg e, sU_n _ _ e, r3 j (by omega)]; exact i2 j (by omega)
              · rw [mU_e, if_pos rfl, LI_s]
                by_cases e : k = n
                · rw [if_pos e, e, if_pos rfl, r2, i3 n hk]
                  apply i_eqI
                  rw [sub_i (a := s_spare P S n) (b := LI P s i (nI n) + a_loadBy P (nI i) (nI n)) ⟨by omega, by omega⟩ ⟨by omega, by omega⟩, en]
                  rw [r2, i3 n hk] at e52 dl
                  rw [sub_i (a := s_spare P S n - LI P s i (nI n)) ⟨by omega, by omega⟩ ⟨by omega, by omega⟩]
                  omega
                · have ne : ¬ nI n = nI k := fun q => by
                    have z := i_eq q
                    rw [nI_toInt (by omega), nI_toInt (by omega)] at z
                    omega
                  rw [if_neg e, if_neg ne, Int32.add_zero, mU_n _ _ _ (by decide), r2]; exact i3 k hk'
              · rw [HI_s, ← i4]
              · rw [mU_n _ _ _ (by decide), mU_n _ _ _ (by decide), r4]; exact i5 c' hc'
              · by_cases e : j = i
                · rw [e, sU_e]; exact Or.inr up.1
                · rw [sU_n _ _ e]; exact i6 j (by omega)
              · rw [LI_s]
                by_cases e : k = n
                · rw [e, if_pos rfl, en]; omega
                · have ne : ¬ nI n = nI k := fun q => by
                    have z := i_eq q
                    rw [nI_toInt (by omega), nI_toInt (by omega)] at z
                    omega
                  rw [if_neg ne, Int32.add_zero]; exact i7 k hk'
              · rw [mU_n _ _ _ (by decide), mU_n _ _ _ (by decide)]; exact r1.1
              · rw [mU_n _ _ _ (by decide), mU_n _ _ _ (by decide)]; exact r1.2 hn j hj
            have z52 : ∀ k, s_high P d (mU (mU ρ 54 i (nI n)) 52 n (ρ 52 n - a_loadBy P (nI i) (nI n))) (i + 1) (high + a_high P (nI i) (nI n)) 52 k = if k = n then ρ 52 n - a_loadBy P (nI i) (nI n) else τ 52 k := fun k => by
              rw [s_high_52, mU_e, if_pos rfl, mU_n _ _ _ (by decide), r2 k]
            have z54 : ∀ j, j < i → s_high P d (mU (mU ρ 54 i (nI n)) 52 n (ρ 52 n - a_loadBy P (nI i) (nI n))) (i + 1) (high + a_high P (nI i) (nI n)) 54 j = τ 54 j := fun j hj => by
              rw [s_high_54 P d _ _ _ _ (by omega), mU_n _ _ _ (by decide), mU_e, if_pos rfl, if_neg (by omega)]; exact r3 j hj
            have z53 : s_high P d (mU (mU ρ 54 i (nI n)) 52 n (ρ 52 n - a_loadBy P (nI i) (nI n))) (i + 1) (high + a_high P (nI i) (nI n)) 53 = τ 53 := by
              rw [s_high_n P (by decide), mU_n _ _ _ (by decide), mU_n _ _ _ (by decide)]; exact r4
            generalize s_high P d (mU (mU ρ 54 i (nI n)) 52 n (ρ 52 n - a_loadBy P (nI i) (nI n))) (i + 1) (high + a_high P (nI i) (nI n)) = ζ at ih2 z52 z54 z53 ⊢
            refine ⟨⟨?_, fun hn j hj => ?_⟩, fun k => ?_, fun j hj => ?_, ?_⟩
            · rw [mU_n _ _ _ (by decide)]; exact ih2.1
            · rw [mU_n _ _ _ (by decide)]; exact ih2.2 hn j hj
            · rw [mU_e, if_pos rfl]
              by_cases e : k = n
              · rw [if_pos e, z52 n, if_pos rfl, Int32.sub_add_cancel, e]; exact r2 n
              · rw [if_neg e, z52 k, if_neg e]
            · rw [mU_n _ _ _ (by decide)]; exact z54 j hj
            · rw [mU_n _ _ _ (by decide)]; exact z53
      exact (loop (nPl P) (Nat.le_refl _)).1
    · rw [if_neg c]
      have dc := i_nlt c
      rw [add_i (by rw [i4]; omega) (by omega)] at dc
      rw [tree_fix (d + 1) i s fun s' h1 h2 => leaf_no fun hu hf q => ?_]
      · exact hR
      · have dq := i_lt q
        have ho := okS_of hu
        have hg := hope_ge hpb hr (sp := s_spare P S) (i := i) ho (spare_pos hpb hr hu hf) (d + 1) (by omega)
        have eh : a_highAll P (Ts S s') = HI P s' (nPe P) := rfl
        have ec : HI P s' (nPe P - (d + 1)) = HI P s i := by rw [show nPe P - (d + 1) = i by omega]; exact HI_c h1
        rw [eh] at dq
        rw [ec, ← i4] at hg
        omega
