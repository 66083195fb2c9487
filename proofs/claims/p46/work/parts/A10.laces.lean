/-! level 3: lacings -/
section LA
variable {P : PT} {Z : Nat → Int32} {K : KT} {S : PT} {D : Nat} {C : Nat → Int32} {u : Mem}
def LacOf (P S : PT) (n : Nat) (L : Int32) (s : Nat → Int32) : Prop := (L = -9 ∧ ∀ s', ¬ vld P S s' n = true) ∨ ∃ m, m ≤ n ∧ L = nI m ∧ vld P S s n = true ∧ cntS s n = m ∧ ∀ s', vld P S s' n = true → m ≤ cntS s' n
theorem vld_ok {s : Nat → Int32} {n : Nat} (h : vld P S s n = true) : ∀ y, y < n → okY P S s y = true := (all_iff _ _).mp h
theorem okY_s {s : Nat → Int32} {y : Nat} (h : okY P S s y = true) : s y = -9 ∨ a_isUp P S (s y) = true := ((okY_iff P S s y).mp h).1
theorem lac_tree (hb : PB P) {n : Nat} (hn : n ≤ 5) : (tree (nPl P + 1) (dgt 1) (lfL P S n) n 0 (fun _ => 0) (1000000, fun _ => 0)).1 = 1000000 ∧ (∀ s', ¬ vld P S s' n = true) ∨
    ∃ m, m ≤ n ∧ (tree (nPl P + 1) (dgt 1) (lfL P S n) n 0 (fun _ => 0) (1000000, fun _ => 0)).1 = nI m ∧ vld P S (tree (nPl P + 1) (dgt 1) (lfL P S n) n 0 (fun _ => 0) (1000000, fun _ => 0)).2 n = true ∧ cntS (tree (nPl P + 1) (dgt 1) (lfL P S n) n 0 (fun _ => 0) (1000000, fun _ => 0)).2 n = m ∧ ∀ s', vld P S s' n = true → m ≤ cntS s' n := by
  have h4 := (PB_pl hb).2.1
  have kM : (1000000 : Int32).toInt = 1000000 := by decide
  have m : ∀ s (x : Int32 × (Nat → Int32)), -x.1.toInt ≤ -(lfL P S n s x).1.toInt := fun s x => by
    unfold lfL
    split
    · rename_i q
      have := i_lt q.2
      show -x.1.toInt ≤ -(nI (cntS s n)).toInt
      omega
    · exact Int.le_refl _
  have ge : ∀ s', vld P S s' n = true → -(cntS s' n : Int) ≤ -(tree (nPl P + 1) (dgt 1) (lfL P S n) n 0 (fun _ => 0) (1000000, fun _ => 0)).1.toInt := fun s' o => by
    refine tree_ge (v := fun x : Int32 × (Nat → Int32) => -x.1.toInt) (n := n) (s' := s') m (fun s x e => ?_) n 0 (fun _ => 0) (1000000, fun _ => 0) (Nat.zero_add _) (fun j hj => absurd hj (Nat.not_lt_zero _)) fun j _ hj => ?_
    · have ec : cntS s n = cntS s' n := cntS_c e
      have eo : vld P S s n = true := (all_iff _ _).mpr fun y hy => by
        rw [okY_c (t := s') fun j hj => e j (by omega)]; exact vld_ok o y hy
      have hl := cntS_le s' n
      have ti : (nI (cntS s' n)).toInt = (cntS s' n : Int) := nI_toInt (by omega)
      unfold lfL
      rw [ec]
      by_cases c : nI (cntS s' n) < x.1
      · rw [if_pos ⟨eo, c⟩]
        show -(cntS s' n : Int) ≤ -(nI (cntS s' n)).toInt
        omega
      · rw [if_neg (fun q => c q.2)]
        have := i_nlt c
        show -(cntS s' n : Int) ≤ -x.1.toInt
        omega
    · rcases okY_s (vld_ok o j hj) with q | q
      · exact ⟨0, by omega, by rw [q]; decide⟩
      · have hp := up_of_seat q
        have l := isPole_ix hp
        exact ⟨ix (s' j) + 1, by omega, by rw [dgt_s (by omega)]; exact ix_nI (isPole_t hp).1⟩
  have inv := tree_inv (B := nPl P + 1) (dg := dgt 1) (leaf := lfL P S n) (fun x : Int32 × (Nat → Int32) => x.1 = 1000000 ∨ (vld P S x.2 n = true ∧ x.1 = nI (cntS x.2 n))) (fun s x h => by
    unfold lfL
    split
    · rename_i q
      exact Or.inr ⟨q.1, rfl⟩
    · exact h) n 0 (fun _ => 0) (1000000, fun _ => 0) (Or.inl rfl)
  generalize tree (nPl P + 1) (dgt 1) (lfL P S n) n 0 (fun _ => 0) (1000000, fun _ => 0) = x at ge inv ⊢
  rcases inv with e | ⟨e1, e2⟩
  · refine Or.inl ⟨e, fun s' o => ?_⟩
    have w := ge s' o
    have hl := cntS_le s' n
    rw [e, kM] at w
    omega
  · have hl := cntS_le x.2 n
    refine Or.inr ⟨cntS x.2 n, hl, e2, e1, rfl, fun s' o => ?_⟩
    have w := ge s' o
    rw [e2, nI_toInt (by omega)] at w
    omega
theorem q_laces (h : J P Z K S D C u) (hp0 : 0 < nPl P) {n r : Nat} (hn : n ≤ 5) (hr6 : r < 6) : ∃ s, LacOf P S n (k_laces u (nI n) (nI r)).1 s ∧ (¬ (k_laces u (nI n) (nI r)).1 = -9 → RW r n s (k_laces u (nI n) (nI r)).2) ∧ J P Z K S D C (k_laces u (nI n) (nI r)).2 := by
  obtain ⟨⟨μ, hr⟩, hP, hS, -⟩ := id h
  have hb := (J_plan h).1
  have ho := OK_ag (op_laces hr (nI n) (nI r))
  have ti : (nI n).toInt = (n : Int) := nI_toInt (by omega)
  have k0 : (0 : Int32).toInt = 0 := by decide
  have k5 : (5 : Int32).toInt = 5 := by decide
  have i5 : imin (nI n) 5 = nI n := imin_l (by omega)
  have i60 : imin (nI n) 60 = nI n := imin_l (by rw [show (60 : Int32).toInt = 60 by decide]; omega)
  have ixn : ix (nI n) = n := ix_of (by omega)
  have hI : InvL P (vS u 45) n (m_lBegin P (vS u 45) u (nI n)) (fun _ => 0) 0 0 := by
    refine ⟨Nat.zero_le _, fun j hj => absurd hj (Nat.not_lt_zero _), ?_, fun k hk => ?_, fun k hk => ?_, rfl, fun j hj => absurd hj (Nat.not_lt_zero _)⟩
    · unfold m_lBegin
      rw [mF_n _ _ _ (by decide), mF_n _ _ _ (by decide), mU_e, if_pos rfl, if_neg (by decide), mU_e, if_pos rfl, if_neg (by decide), mU_e, if_pos rfl, if_pos rfl]
    · unfold m_lBegin
      rw [mF_e, if_pos rfl, if_pos hk]
    · unfold m_lBegin
      rw [mF_n _ _ _ (by decide), mF_e, if_pos rfl, if_pos hk]; rfl
  have hR0 : RelL n (m_lBegin P (vS u 45) u (nI n)) (1000000, fun _ => 0) := Or.inl ⟨rfl, by
    unfold m_lBegin
    rw [mF_n _ _ _ (by decide), mF_n _ _ _ (by decide), mU_e, if_pos rfl, if_pos rfl, i5, ← nI_1]⟩
  have hX := lace_tree hb hn n 0 (fun _ => 0) (m_lBegin P (vS u 45) u (nI n)) 0 (1000000, fun _ => 0) (Nat.zero_add _) hI hR0
  rw [lfL_c PEq.rfl' hS] at hX
  have hT := lac_tree (S := S) hb hn
  have hρ : ∀ q, q < 56 → s_lace P n (m_lBegin P (vS u 45) u (nI n)) 0 0 q = u q := fun q hq => by
    funext k
    rw [s_lace_n _ (by omega), m_lBegin_n _ _ _ _ (by omega) (by omega) (by omega)]
  have h72 : s_lace P n (m_lBegin P (vS u 45) u (nI n)) 0 0 72 = u 72 := by
    have w : ∀ (d : Nat) (σ : Mem) (y : Nat) (many : Int32), y + d ≤ 5 → s_lace P d σ y many 72 = σ 72 := by
      intro d
      induction d with
      | zero =>
        intro σ y many _
        unfold s_lace; split
        · unfold s_laced; rw [mF_n _ _ _ (by decide), mU_n _ _ _ (by decide)]
        · rfl
      | succ d ih =>
        intro σ y many hy
        rw [s_lace_s]
        split
        · rw [forM_n (fun i τ => ?_)]
          · unfold s_lace0
            split
            · rw [ih _ _ _ (by omega), l_out_n _ _ _ _ (by omega), mU_n _ _ _ (by decide)]
            · rw [l_out_n _ _ _ _ (by omega), mU_n _ _ _ (by decide)]
          · unfold s_laceK
            split
            · split
              · rw [ih _ _ _ (by omega), l_out_n _ _ _ _ (by omega), mU_n _ _ _ (by decide)]
              · rw [l_out_n _ _ _ _ (by omega), mU_n _ _ _ (by decide)]
            · rw [mU_n _ _ _ (by decide)]
        · rfl
    rw [w n _ _ _ (by omega), m_lBegin_n _ _ _ _ (by decide) (by decide) (by decide)]
  have e : k_laces u (nI n) (nI r) = if nI n < s_lace P n (m_lBegin P (vS u 45) u (nI n)) 0 0 56 2 then (-9, s_lace P n (m_lBegin P (vS u 45) u (nI n)) 0 0)
      else (m_takeR (s_lace P n (m_lBegin P (vS u 45) u (nI n)) 0 0) (5 + 2 * r) 66 (nI n) 56 2, m_takeR (s_lace P n (m_lBegin P (vS u 45) u (nI n)) 0 0) (5 + 2 * r) 66 (nI n)) := by
    unfold k_laces
    rw [if_pos (a_in6 hr6), if_neg (nlt_i (by omega)), if_neg (nlt_i (by omega)), if_neg (u_ne h hp0), ixn, ix_of (n := r) (by omega), hP]
  rw [e] at ho ⊢
  generalize tree (nPl P + 1) (dgt 1) (lfL P S n) n 0 (fun _ => 0) (1000000, fun _ => 0) = x at hX hT
  generalize s_lace P n (m_lBegin P (vS u 45) u (nI n)) 0 0 = ρ at hX hρ h72 ho ⊢
  have core : ∀ q, (25 ≤ q ∧ q ≤ 38) ∨ (45 ≤ q ∧ q ≤ 47) ∨ q = 72 → ρ q = u q := fun q hq => by
    by_cases c : q = 72
    · rw [c]; exact h72
    · exact hρ q (by omega)
  rcases hX with ⟨e0, e1⟩ | ⟨e1, ⟨m, hm, em⟩, e2⟩
  · have l1 : nI n < ρ 56 2 := i_ltI (by rw [e1, nI_toInt (by omega), nI_toInt (by omega)]; omega)
    rw [if_pos l1] at ho ⊢
    refine ⟨fun _ => 0, Or.inl ⟨rfl, ?_⟩, fun q => absurd rfl q, J_n h ho core⟩
    rcases hT with ⟨-, t⟩ | ⟨m, hm, t, -⟩
    · exact t
    · rw [e0] at t
      have z := i_eq t
      rw [nI_toInt (by omega), show (1000000 : Int32).toInt = 1000000 by decide] at z
      omega
  · have l1 : ¬ nI n < ρ 56 2 := nlt_i (by rw [e1, em, nI_toInt (by omega), nI_toInt (by omega)]; omega)
    rw [if_neg l1] at ho ⊢
    have tq : ∀ q, q ≠ 5 + 2 * r → q ≠ 5 + 2 * r + 1 → m_takeR ρ (5 + 2 * r) 66 (nI n) q = ρ q := fun q q1 q2 => m_takeR_n _ _ _ _ q1 q2
    have t0 : m_takeR ρ (5 + 2 * r) 66 (nI n) (5 + 2 * r) 0 = nI n := by
      unfold m_takeR m_fill
      rw [mF_n _ _ _ (by omega), mF_n _ _ _ (by omega), mU_e, if_pos rfl, if_pos rfl, i5, i60]
    have t1 : ∀ j, j < n → m_takeR ρ (5 + 2 * r) 66 (nI n) (5 + 2 * r + 1) j = ρ 66 j := fun j hj => by
      unfold m_takeR
      rw [mF_e, if_pos rfl, i5, i60, ixn, if_pos hj]
    refine ⟨x.2, ?_, fun _ => ⟨t0, fun j hj => ?_⟩, J_n h ho fun q hq => (tq q (by omega) (by omega)).trans (core q hq)⟩
    · show LacOf P S n (m_takeR ρ (5 + 2 * r) 66 (nI n) 56 2) x.2
      rw [tq 56 (by omega) (by omega), e1]
      rcases hT with ⟨t, -⟩ | t
      · rw [em] at t
        have z := i_eq t
        rw [nI_toInt (by omega), show (1000000 : Int32).toInt = 1000000 by decide] at z
        omega
      · exact Or.inr t
    · show m_takeR ρ (5 + 2 * r) 66 (nI n) (6 + 2 * r) j = _
      rw [show 6 + 2 * r = 5 + 2 * r + 1 by omega, t1 j hj]; exact e2 j hj
/-- one more year: not fewer -/
theorem vld_pre {s : Nat → Int32} {n : Nat} (h : vld P S s (n + 1) = true) : vld P S s n = true := (all_iff _ _).mpr fun y hy => vld_ok h y (by omega)
theorem lac_next {n : Nat} {L L' : Int32} {s s' : Nat → Int32} (h : LacOf P S n L s) (h' : LacOf P S (n + 1) L' s') (hn : n < 5) : (L = -9 → L' = -9) ∧ (¬ L' = -9 → ¬ L' < L) := by
  rcases h with ⟨e, no⟩ | ⟨m, hm, e, v, c, mn⟩
  · rcases h' with ⟨e', -⟩ | ⟨m', hm', e', v', -, -⟩
    · exact ⟨fun _ => e', fun q => absurd e' q⟩
    · exact absurd (vld_pre v') (no _)
  · refine ⟨fun q => ?_, fun q => ?_⟩
    · rw [e] at q
      exact absurd q (nI_n9 (by omega))
    · rcases h' with ⟨e', -⟩ | ⟨m', hm', e', v', c', mn'⟩
      · exact absurd e' q
      · have z := mn _ (vld_pre v')
        have y := cntS_mono s' (y := n) 1
        rw [c'] at y
        rw [e, e']
        exact nlt_i (by rw [nI_toInt (by omega), nI_toInt (by omega)]; omega)
theorem lac_0 {L : Int32} {s : Nat → Int32} (h : LacOf P S 0 L s) : L = 0 := by
  rcases h with ⟨-, no⟩ | ⟨m, hm, e, -⟩
  · exact absurd (show vld P S s 0 = true from rfl) (no s)
  · rw [e, show m = 0 by omega]; rfl
/-- lacings, each ahead of its year -/
def lacD (T : PT) (v : Int32) : PT := if v = -9 then T else dWear T (ix v)
def lyr (P S : PT) (s : Nat → Int32) : Nat → PT
  | 0 => S
  | y + 1 => dYear P (lacD (lyr P S s y) (s y))
theorem lacD_0 (T : PT) (v : Int32) : lacD T v 0 = T 0 ∧ lacD T v 2 = T 2 := by
  unfold lacD
  split
  · exact ⟨rfl, rfl⟩
  · exact ⟨rfl, rfl⟩
theorem has_z {k : Nat} (hk : k < 6) : b_has 0 (nI k) = false := by
  have q : ∀ b : Fin 6, b_has 0 (nI b.1) = false := by decide +kernel
  exact q ⟨k, hk⟩
theorem lac_bf (g : GS P S) {s : Nat → Int32} {y : Nat} {T : PT} (hs : s y = -9 ∨ a_isUp P S (s y) = true) (ht : ∀ k, k < nPl P → a_isUp P S (nI k) = true → T 1 k = Wr P S s y k) : ∀ k, k < nPl P → a_isUp P S (nI k) = true → lacD T (s y) 1 k = Bf P S s y k := by
  have h4 := (PB_pl g.1).2.1
  intro k hk up
  unfold lacD Bf
  rcases hs with q | q
  · rw [if_pos q, q, if_neg (n9_nI g.1 hk)]; exact ht k hk up
  · have hp := up_of_seat q
    have e := ix_nI (isPole_t hp).1
    have l := isPole_ix hp
    have n9 : ¬ s y = -9 := fun w => pole_n9 hp w.symm
    rw [if_neg n9]
    show sU (T 1) (ix (s y)) 0 k = _
    by_cases c : k = ix (s y)
    · rw [c, sU_e, if_pos e]
    · rw [sU_n _ _ c, if_neg (fun w => c (by rw [w, ix_of (by omega)]))]; exact ht k hk up
theorem lyr_inv (g : GS P S) (s : Nat → Int32) : ∀ y, (∀ j, j < y → okY P S s j = true) → lyr P S s y 0 0 = S 0 0 ∧ (∀ i, i < nPe P → lyr P S s y 2 i = S 2 i) ∧ (∀ k, k < nPl P → a_isUp P S (nI k) = true → lyr P S s y 1 k = Wr P S s y k)
  | 0, _ => ⟨rfl, fun _ _ => rfl, fun _ _ _ => rfl⟩
  | y + 1, ho => by
    have h4 := (PB_pl g.1).2.1
    obtain ⟨a1, a2, a3⟩ := lyr_inv g s y fun j hj => ho j (by omega)
    have oy := (okY_iff P S s y).mp (ho y (by omega))
    have hbf := lac_bf g oy.1 a3
    have z0 : lacD (lyr P S s y) (s y) 0 0 = S 0 0 := by rw [(lacD_0 _ _).1]; exact a1
    have z2 : ∀ i, i < nPe P → lacD (lyr P S s y) (s y) 2 i = S 2 i := fun i hi => by rw [(lacD_0 _ _).2]; exact a2 i hi
    have hg := (gave_0 g.1 z0 z2 hbf).mpr oy.2
    show dYear P (lacD (lyr P S s y) (s y)) 0 0 = S 0 0 ∧ (∀ i, i < nPe P → dYear P (lacD (lyr P S s y) (s y)) 2 i = S 2 i) ∧ ∀ k, k < nPl P → a_isUp P S (nI k) = true → dYear P (lacD (lyr P S s y) (s y)) 1 k = Wr P S s (y + 1) k
    generalize lacD (lyr P S s y) (s y) = T at hbf z0 z2 hg ⊢
    refine ⟨?_, fun i hi => ?_, fun k hk up => ?_⟩
    · show T 0 0 ||| y_gave P T = _
      rw [hg, z0]; exact Int32.or_zero
    · show y_seat P T (y_gave P T) i = _
      unfold y_seat
      rw [hg, z2 i hi]
      split
      · rcases seat_k g hi with q | ⟨k, hk, q, -⟩
        · rw [q]; split <;> rfl
        · rw [q]
          split
          · next w => exact absurd ((has_e.mpr w).symm.trans (has_z (by omega))) (by decide)
          · rfl
      · rfl
    · have hl : a_load P T (nI k) = a_load P S (nI k) := a_sum_c _ fun i hi => by rw [z2 i hi]
      have hu : a_isUp P T (nI k) = true := (a_isUp_c z0).trans up
      show y_wear P T k = _
      unfold y_wear
      rw [if_pos hu, bn_e g.1 hk, hbf k hk up, hl, if_neg (oy.2 k hk up)]
      rfl
theorem lyr_gave (g : GS P S) {s : Nat → Int32} {y : Nat} (ho : ∀ j, j < y → okY P S s j = true) (hs : s y = -9 ∨ a_isUp P S (s y) = true) : y_gave P (lacD (lyr P S s y) (s y)) = 0 ↔ okY P S s y = true := by
  obtain ⟨a1, a2, a3⟩ := lyr_inv g s y ho
  rw [gave_0 g.1 (show lacD (lyr P S s y) (s y) 0 0 = S 0 0 by rw [(lacD_0 _ _).1]; exact a1) (fun i hi => by rw [(lacD_0 _ _).2]; exact a2 i hi) (lac_bf g hs a3), okY_iff]
  exact ⟨fun h => ⟨hs, h⟩, fun h => h.2⟩
/-- without lacings -/
theorem lyr_9 : ∀ y, lyr P S (fun _ => -9) y = yrs P S y
  | 0 => rfl
  | y + 1 => by
    show dYear P (lacD (lyr P S (fun _ => -9) y) (-9)) = dYear P (yrs P S y)
    rw [lyr_9 y]; rfl
theorem cnt_9 (n : Nat) : cntS (fun _ => -9) n = 0 := by
  induction n with
  | zero => rfl
  | succ n ih =>
    show cntS (fun _ => -9) n + _ = 0
    rw [ih]; rfl
theorem cnt_0 {s : Nat → Int32} {n : Nat} (h : cntS s n = 0) : ∀ y, y < n → s y = -9 := fun y hy => by
  have q := cN_0 (fun y => !decide (s y = -9)) n h y hy
  simpa using q
theorem still_ok (g : GS P S) {n : Nat} (h : yrs P S n 0 0 = S 0 0) : ∀ y, y ≤ n → ∀ j, j < y → okY P S (fun _ => -9) j = true
  | 0, _, j, hj => absurd hj (Nat.not_lt_zero _)
  | y + 1, hy, j, hj => by
    have h4 := (PB_pl g.1).2.1
    have ih := still_ok g h y (by omega)
    by_cases c : j < y
    · exact ih j c
    · have e : j = y := by omega
      subst e
      rw [← lyr_gave g ih (Or.inl rfl)]
      show y_gave P (lacD (lyr P S (fun _ => -9) j) (-9)) = 0
      rw [lyr_9]
      show y_gave P (yrs P S j) = 0
      unfold y_gave
      refine (bits_0 _ (by omega)).mpr fun k hk => ?_
      cases w : y_gives P (yrs P S j) k with
      | false => rfl
      | true =>
        exfalso
        have u0 : a_isUp P (yrs P S j) (nI k) = true := by
          unfold y_gives at w
          rw [Bool.and_eq_true] at w
          exact w.1
        have u1 : a_isUp P (yrs P S (j + 1)) (nI k) = false := by
          show a_isUp P (dYear P (yrs P S j)) (nI k) = false
          rw [up_year g.1 hk, w, u0]; rfl
        have u2 := down_yrs (GS_yrs g (j + 1)) hk u1 (n - (j + 1))
        have ey : ∀ c, yrs P (yrs P S (j + 1)) c = yrs P S (j + 1 + c) := fun c => by
          induction c with
          | zero => rfl
          | succ c ih => show dYear P (yrs P (yrs P S (j + 1)) c) = dYear P (yrs P S (j + 1 + c)); rw [ih]
        rw [ey, show j + 1 + (n - (j + 1)) = n by omega, a_isUp_c (S' := S) h] at u2
        have u3 := down_yrs g hk u2 j
        rw [u3] at u0
        cases u0
theorem lac_still (g : GS P S) {n : Nat} {L : Int32} {s : Nat → Int32} (h : LacOf P S n L s) (hn : n < 100) : L = 0 ↔ yrs P S n 0 0 = S 0 0 := by
  constructor
  · intro e
    rcases h with ⟨q, -⟩ | ⟨m, hm, q, v, c, -⟩
    · rw [e] at q; exact absurd q (by decide)
    · have z := i_eq (q.symm.trans e)
      rw [nI_toInt (by omega), show (0 : Int32).toInt = 0 by decide] at z
      have c0 := cnt_0 (s := s) (n := n) (by omega)
      have w := (lyr_inv g (fun _ => -9) n fun j hj => by rw [okY_c (t := s) fun i hi => (c0 i (by omega)).symm]; exact vld_ok v j hj).1
      rw [lyr_9] at w
      exact w
  · intro e
    have v : vld P S (fun _ => -9) n = true := (all_iff _ _).mpr (still_ok g e n (Nat.le_refl _))
    rcases h with ⟨-, no⟩ | ⟨m, hm, q, -, -, mn⟩
    · exact absurd v (no _)
    · have z := mn _ v
      rw [cnt_9] at z
      rw [q, show m = 0 by omega]; rfl
end LA
