/-! level 2: the model's lacings as leaves of a tree -/
def Wr (P S : PT) (s : Nat → Int32) : Nat → Nat → Int32
  | 0 => S 1
  | y + 1 => fun k => a_worn (if s y = nI k then 0 else Wr P S s y k) (if 0 < a_load P S (nI k) then 1 else 0)
def Bf (P S : PT) (s : Nat → Int32) (y k : Nat) : Int32 := if s y = nI k then 0 else Wr P S s y k
def okY (P S : PT) (s : Nat → Int32) (y : Nat) : Bool := (decide (s y = -9) || a_isUp P S (s y)) && all_b (fun k => !a_isUp P S (nI k) || !decide (a_bears P (nI k) (Bf P S s y k) < a_load P S (nI k))) (nPl P)
theorem okY_iff (P S : PT) (s : Nat → Int32) (y : Nat) : okY P S s y = true ↔ (s y = -9 ∨ a_isUp P S (s y) = true) ∧ ∀ k, k < nPl P → a_isUp P S (nI k) = true → ¬ a_bears P (nI k) (Bf P S s y k) < a_load P S (nI k) := by
  unfold okY
  rw [Bool.and_eq_true, all_iff]
  simp only [Bool.or_eq_true, decide_eq_true_eq, Bool.not_eq_true', decide_eq_false_iff_not]
  constructor
  · intro h
    refine ⟨h.1, fun k hk hu => ?_⟩
    rcases h.2 k hk with q | q
    · rw [hu] at q; cases q
    · exact q
  · intro h
    refine ⟨h.1, fun k hk => ?_⟩
    cases c : a_isUp P S (nI k) with
    | false => exact Or.inl rfl
    | true => exact Or.inr (h.2 k hk c)
theorem Wr_c {P S : PT} {s t : Nat → Int32} : ∀ y, (∀ j, j < y → s j = t j) → Wr P S s y = Wr P S t y
  | 0, _ => rfl
  | y + 1, h => by
    funext k
    rw [Wr, Wr, Wr_c y (fun j hj => h j (by omega)), h y (by omega)]
theorem Bf_c {P S : PT} {s t : Nat → Int32} {y : Nat} (h : ∀ j, j ≤ y → s j = t j) (k : Nat) : Bf P S s y k = Bf P S t y k := by
  unfold Bf; rw [Wr_c y (fun j hj => h j (by omega)), h y (Nat.le_refl _)]
theorem okY_c {P S : PT} {s t : Nat → Int32} {y : Nat} (h : ∀ j, j ≤ y → s j = t j) : okY P S s y = okY P S t y := by
  unfold okY
  rw [h y (Nat.le_refl _), all_c (nPl P) fun k _ => by rw [Bf_c h k]]
def vld (P S : PT) (s : Nat → Int32) (n : Nat) : Bool := all_b (okY P S s) n
/-- nobody gives -/
theorem gave_0 {P S T : PT} (hpb : PB P) (h0 : T 0 0 = S 0 0) (h2 : ∀ i, i < nPe P → T 2 i = S 2 i) {w : Nat → Int32} (h1 : ∀ k, k < nPl P → a_isUp P S (nI k) = true → T 1 k = w k) :
    y_gave P T = 0 ↔ ∀ k, k < nPl P → a_isUp P S (nI k) = true → ¬ a_bears P (nI k) (w k) < a_load P S (nI k) := by
  have h4 := (PB_pl hpb).2.1
  have el : ∀ k, a_load P T k = a_load P S k := fun k => by unfold a_load; exact a_sum_c _ fun i hi => by rw [h2 i hi]
  have eu : ∀ k, a_isUp P T k = a_isUp P S k := fun k => a_isUp_c h0
  have eb : ∀ k, k < nPl P → a_isUp P S (nI k) = true → a_bearsNow P T (nI k) = a_bears P (nI k) (w k) := fun k hk hu => by
    unfold a_bearsNow a_bears
    rw [if_pos (pole_nI hpb hk), if_pos (pole_nI hpb hk), ix_of (by omega), h1 k hk hu]
  unfold y_gave
  rw [bits_0 _ (by omega)]
  constructor
  · intro h k hk hu
    have q := h k hk
    unfold y_gives at q
    rw [eu, hu, el, eb k hk hu, Bool.true_and] at q
    exact of_decide_eq_false q
  · intro h k hk
    unfold y_gives
    rw [eu, el]
    cases c : a_isUp P S (nI k) with
    | false => rfl
    | true => rw [eb k hk c, decide_eq_false (h k hk c)]; rfl
def lmM (P : PT) (ν : Mem) (y : Nat) : Mem := if ν 20 y < 0 then lb P ν y else mU (lb P ν y) 12 (0 + ix (ν 20 y)) 0
def sOf (ν : Mem) (s : Nat → Int32) (N : Nat) : Prop := ∀ y, y < N → s y = (if ν 20 y < 0 then -9 else ν 20 y)
def LBI (P S : PT) (ν : Mem) (s : Nat → Int32) (y : Nat) : Prop := sM (lb P ν y) 12 0 0 = S 0 0 ∧ (∀ i, i < nPe P → sM (lb P ν y) 12 2 i = S 2 i) ∧ (∀ k, k < nPl P → a_isUp P S (nI k) = true → sM (lb P ν y) 12 1 k = Wr P S s y k)
theorem lm_inv {P S : PT} (hpb : PB P) {ν : Mem} {s : Nat → Int32} {N y : Nat} (hs : sOf ν s N) (hy : y < N) (h : LBI P S ν s y) (hu : ν 20 y < 0 ∨ a_isUp P S (ν 20 y) = true) :
    sM (lmM P ν y) 12 0 0 = S 0 0 ∧ (∀ i, i < nPe P → sM (lmM P ν y) 12 2 i = S 2 i) ∧ (∀ k, k < nPl P → a_isUp P S (nI k) = true → sM (lmM P ν y) 12 1 k = Bf P S s y k) := by
  obtain ⟨a1, a2, a3⟩ := h
  have h4 := (PB_pl hpb).2.1
  unfold lmM Bf
  rw [hs y hy]
  by_cases c : ν 20 y < 0
  · rw [if_pos c, if_pos c]
    refine ⟨a1, a2, fun k hk up => ?_⟩
    rw [if_neg (pole_n9 (pole_nI hpb hk))]; exact a3 k hk up
  · rw [if_neg c, if_neg c]
    have up := hu.resolve_left c
    have hp := up_of_seat up
    have hx := isPole_ix hp
    have e := ix_nI (isPole_t hp).1
    refine ⟨?_, fun i hi => ?_, fun k hk up' => ?_⟩
    · show mU (lb P ν y) 12 (0 + ix (ν 20 y)) 0 12 4 = S 0 0
      rw [mU_e, if_pos rfl, if_neg (by omega)]; exact a1
    · show mU (lb P ν y) 12 (0 + ix (ν 20 y)) 0 12 (5 + i) = S 2 i
      rw [mU_e, if_pos rfl, if_neg (by omega)]; exact a2 i hi
    · show mU (lb P ν y) 12 (0 + ix (ν 20 y)) 0 12 k = _
      rw [mU_e, if_pos rfl]
      by_cases d : k = 0 + ix (ν 20 y)
      · rw [if_pos d, if_pos (by rw [e, d, Nat.zero_add])]
      · rw [if_neg d, if_neg (fun q => d (by rw [q, ix_of (by omega), Nat.zero_add]))]; exact a3 k hk up'
theorem lb_s (P : PT) (ν : Mem) (y : Nat) : lb P ν (y + 1) = w_year P (lmM P ν y) 12 := rfl
theorem up_s {P S : PT} {ν : Mem} {s : Nat → Int32} {N y : Nat} (hs : sOf ν s N) (hy : y < N) : (s y = -9 ∨ a_isUp P S (s y) = true) ↔ (ν 20 y < 0 ∨ a_isUp P S (ν 20 y) = true) := by
  rw [hs y hy]
  by_cases c : ν 20 y < 0
  · rw [if_pos c]; exact ⟨fun _ => Or.inl c, fun _ => Or.inl rfl⟩
  · rw [if_neg c]
    refine ⟨fun q => ?_, fun q => Or.inr (q.resolve_left c)⟩
    rcases q with q | q
    · exact absurd (by rw [q]; decide) c
    · exact Or.inr q
theorem lb_inv {P S : PT} (hpb : PB P) (hr : PR P) {ν : Mem} {s : Nat → Int32} {N : Nat} (hs : sOf ν s N) (h0 : SEq P (sM ν 11) S) : ∀ y, y ≤ N → (∀ j, j < y → okY P S s j = true) → LBI P S ν s y
  | 0, _, _ => by
    have q := (asideM_rel P (PB_pl hpb).2.1 (PB_pe hpb).2.1 ν).sy.tr h0
    exact ⟨q.1, q.2.2.2.2, fun k hk _ => q.2.2.2.1 k hk⟩
  | y + 1, hy, hv => by
    have ih := lb_inv hpb hr hs h0 y (by omega) (fun j hj => hv j (by omega))
    have ok := (okY_iff P S s y).mp (hv y (by omega))
    obtain ⟨m1, m2, m3⟩ := lm_inv hpb hs (by omega) ih ((up_s hs (by omega)).mp ok.1)
    have g := (gave_0 hpb m1 m2 m3).mpr ok.2
    have h4 := (PB_pl hpb).2.1
    unfold LBI
    rw [lb_s]
    obtain ⟨z0, z1, z2, z3, z4⟩ := sM_year hpb (lmM P ν y) 12
    rw [g] at z0 z4
    have n0 : ∀ k, b_has 0 k = false := fun k => by
      unfold b_has
      have : (0 : Int32) >>> (k &&& 31) = 0 := by
        apply Int32.toBitVec_inj.mp
        rw [Int32.toBitVec_shiftRight]
        show BitVec.sshiftRight' 0#32 _ = 0#32
        rw [BitVec.sshiftRight_eq', BitVec.zero_sshiftRight]
      rw [this]; decide
    refine ⟨?_, fun i hi => ?_, fun k hk up => ?_⟩
    · rw [z0, m1]; exact Int32.or_zero
    · rw [z4 i hi, yseat_b, n0]
      split <;> first | exact m2 i hi | (rw [if_neg (by decide)]; exact m2 i hi)
    · have eu : a_isUp P (sM (lmM P ν y) 12) (nI k) = true := (a_isUp_c m1).trans up
      have el : a_load P (sM (lmM P ν y) 12) (nI k) = a_load P S (nI k) := by unfold a_load; exact a_sum_c _ fun i hi => by rw [m2 i hi]
      have eb : a_bearsNow P (sM (lmM P ν y) 12) (nI k) = a_bears P (nI k) (Bf P S s y k) := by
        unfold a_bearsNow a_bears
        rw [if_pos (pole_nI hpb hk), if_pos (pole_nI hpb hk), ix_of (by omega), m3 k hk up]
      rw [z3 k hk, wear_e hpb hr _ hk]
      unfold y_wear
      rw [if_pos eu, eb, el, if_neg (ok.2 k hk up), m3 k hk up]
      rfl
theorem lbad_e {P S : PT} (hpb : PB P) {ν : Mem} {s : Nat → Int32} {N y : Nat} (hs : sOf ν s N) (hy : y < N) (h : LBI P S ν s y) : lbad P ν y = !okY P S s y := by
  have eu : ∀ k, a_isUp P (sM (lb P ν y) 12) k = a_isUp P S k := fun k => a_isUp_c h.1
  have us := up_s (P := P) (S := S) hs hy
  have key : (ν 20 y < 0 ∨ a_isUp P S (ν 20 y) = true) → (!decide (y_gave P (sM (lmM P ν y) 12) = 0)) = !okY P S s y := fun hu => by
    obtain ⟨m1, m2, m3⟩ := lm_inv hpb hs hy h hu
    have g := gave_0 hpb m1 m2 m3
    congr 1
    apply Bool.eq_iff_iff.mpr
    rw [decide_eq_true_eq, okY_iff, g]
    exact ⟨fun q => ⟨us.mpr hu, q⟩, fun q => q.2⟩
  unfold lbad
  rw [eu]
  by_cases c : ν 20 y < 0
  · rw [if_pos c, ← key (Or.inl c)]
    unfold lmM; rw [if_pos c]
  · rw [if_neg c]
    by_cases up : a_isUp P S (ν 20 y) = true
    · rw [if_pos up, ← key (Or.inr up)]
      unfold lmM; rw [if_neg c]
    · rw [if_neg up]
      have : ¬ okY P S s y = true := fun q => by
        rcases us.mp ((okY_iff P S s y).mp q).1 with w | w
        · exact c w
        · exact up w
      rw [Bool.eq_false_iff.mpr this]; rfl
def cntS (s : Nat → Int32) (n : Nat) : Nat := cN (fun y => !decide (s y = -9)) n
theorem lacm_e (P : PT) (cd : Nat) (h4 : nPl P ≤ 4) : ∀ n, lacm P cd n = nI (cN (fun j => !decide (dgt 1 (lf (nPl P + 1) cd j % (nPl P + 1)) = -9)) n)
  | 0 => rfl
  | n + 1 => by
    rw [lacm, lacm_e P cd h4 n, cN]
    by_cases c : nI (lf (nPl P + 1) cd n % (nPl P + 1)) - 1 < 0
    · have e : dgt 1 (lf (nPl P + 1) cd n % (nPl P + 1)) = -9 := by unfold dgt; rw [if_pos c]
      rw [if_pos c, e, Int32.add_zero]; rfl
    · obtain ⟨q1, q2⟩ := dgt_neg c
      rw [if_neg c, q1, decide_eq_false q2, nI_1]; rfl
theorem lacm_c (P : PT) (cd N : Nat) (h4 : nPl P ≤ 4) : lacm P cd N = nI (cntS (fg (nPl P + 1) (dgt 1) cd N) N) := by
  rw [lacm_e P cd h4, ← cN_rev (fun j => !decide (dgt 1 (lf (nPl P + 1) cd j % (nPl P + 1)) = -9)) N]
  congr 1
  exact cN_c N fun j hj => by
    unfold fg
    rw [if_pos hj]
theorem n_lac_e {P S : PT} (hpb : PB P) (hr : PR P) {σ : Mem} (h0 : SEq P (sM σ 11) S) (cd N : Nat) :
    (n_lac P σ cd N).1 = (if vld P S (fg (nPl P + 1) (dgt 1) cd N) N = true then nI (cntS (fg (nPl P + 1) (dgt 1) cd N) N) else 1000000) := by
  have h4 := (PB_pl hpb).2.1
  have hs : sOf (w_lac P cd σ N N) (fg (nPl P + 1) (dgt 1) cd N) N := fun y hy => by
    rw [lac_at P cd σ N N (Nat.le_refl _) y hy (by omega)]
    unfold fg dgt; rw [if_pos hy]
  have h0' : SEq P (sM (w_lac P cd σ N N) 11) S := by rw [sM_eq (w_lac_n P cd σ N (by decide) N)]; exact h0
  have ef : fstN (lbad P (w_lac P cd σ N N)) N = fstN (fun y => !okY P S (fg (nPl P + 1) (dgt 1) cd N) y) N := fst_step N fun j hj hg =>
    lbad_e hpb hs hj (lb_inv hpb hr hs h0' j (by omega) fun i hi => by have := hg i hi; simpa using this)
  have ev : (fstN (fun y => !okY P S (fg (nPl P + 1) (dgt 1) cd N) y) N = N) ↔ vld P S (fg (nPl P + 1) (dgt 1) cd N) N = true := by
    unfold vld
    rw [fst_full, all_iff]
    exact ⟨fun h j hj => by have := h j hj; simpa using this, fun h j hj => by rw [h j hj]; rfl⟩
  unfold n_lac
  rw [ef]
  by_cases c : vld P S (fg (nPl P + 1) (dgt 1) cd N) N = true
  · rw [if_pos (ev.mpr c), if_pos c]; exact lacm_c P cd N h4
  · rw [if_neg (fun q => c (ev.mp q)), if_neg c]
/-- what a leaf does -/
def lfL (P S : PT) (n : Nat) (s : Nat → Int32) (x : Int32 × (Nat → Int32)) : Int32 × (Nat → Int32) := if vld P S s n = true ∧ nI (cntS s n) < x.1 then (nI (cntS s n), s) else x
def stL (P S : PT) (n cd : Nat) (x : Int32 × (Nat → Int32)) : Int32 × (Nat → Int32) := lfL P S n (fg (nPl P + 1) (dgt 1) cd n) x
theorem lcs_rel {P S : PT} (hpb : PB P) (hr : PR P) {σ : Mem} (h0 : SEq P (sM σ 11) S) (N : Nat) : ∀ n, (lcs P N σ n).1 = (run (stL P S N) 0 n (1000000, fun _ => 0)).1 ∧ (lcs P N σ n).1.toInt ≤ 1000000 ∧ (∃ b, b ≤ n ∧ (lcs P N σ n).2.1 = nI b ∧ (¬ (lcs P N σ n).1 = 1000000 → (run (stL P S N) 0 n (1000000, fun _ => 0)).2 = fg (nPl P + 1) (dgt 1) b N)) ∧ (∀ q, q ≠ 12 → q ≠ 20 → (lcs P N σ n).2.2 q = σ q)
  | 0 => ⟨rfl, by show (1000000 : Int32).toInt ≤ 1000000; decide, ⟨0, Nat.le_refl _, rfl, fun h => absurd rfl h⟩, fun _ _ _ => rfl⟩
  | cd + 1 => by
    obtain ⟨a1, a2, ⟨b, hb, a3, a4⟩, a5⟩ := lcs_rel hpb hr h0 N cd
    rw [lcs, run, Nat.zero_add]
    generalize run (stL P S N) 0 cd (1000000, fun _ => 0) = x at a1 a4 ⊢
    generalize lcs P N σ cd = q at a1 a2 a3 a4 a5 ⊢
    have hq : SEq P (sM q.2.2 11) S := by rw [sM_eq (a5 11 (by decide) (by decide))]; exact h0
    have e := n_lac_e hpb hr hq cd N
    have fr : ∀ k, k ≠ 12 → k ≠ 20 → (n_lac P q.2.2 cd N).2 k = σ k := fun k k1 k2 => (n_lac_n P q.2.2 cd N ⟨k1, k2⟩).trans (a5 k k1 k2)
    unfold lcs_step stL lfL
    generalize n_lac P q.2.2 cd N = z at e fr ⊢
    by_cases c : vld P S (fg (nPl P + 1) (dgt 1) cd N) N = true
    · rw [if_pos c] at e
      rw [e, ← a1]
      by_cases d : nI (cntS (fg (nPl P + 1) (dgt 1) cd N) N) < q.1
      · have dd := i_lt d
        rw [if_pos d, if_pos d, if_pos ⟨c, d⟩]
        exact ⟨rfl, by show (nI (cntS (fg (nPl P + 1) (dgt 1) cd N) N)).toInt ≤ 1000000; omega, ⟨cd, by omega, rfl, fun _ => rfl⟩, fr⟩
      · rw [if_neg d, if_neg d, if_neg (fun w => d w.2)]
        exact ⟨a1, a2, ⟨b, by omega, a3, a4⟩, fr⟩
    · rw [if_neg c] at e
      have d : ¬ z.1 < q.1 := fun w => by
        have := i_lt w
        rw [e, show (1000000 : Int32).toInt = 1000000 by decide] at this
        omega
      rw [if_neg d, if_neg d, if_neg (fun w => c w.1)]
      exact ⟨a1, a2, ⟨b, by omega, a3, a4⟩, fr⟩
