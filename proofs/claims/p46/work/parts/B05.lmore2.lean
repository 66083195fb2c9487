/-! the law: what the later checks stand on, 2 -/
theorem f1_iff {f : Nat} (h : f < 40) : nI (f + 1) = 1 ↔ f = 0 := by
  constructor
  · intro q
    have z := i_eq q
    rw [nI_toInt (by omega), show (1 : Int32).toInt = 1 by decide] at z
    omega
  · intro q; rw [q]; rfl
theorem f1_flag1 {f : Nat} (h : f < 40) (q : nI (f + 1) = 1) : (1 : Int32) = b2i (decide (f = 0)) := by rw [decide_eq_true ((f1_iff h).mp q)]; rfl
theorem f1_flag0 {f : Nat} (h : f < 40) (q : ¬ nI (f + 1) = 1) : (0 : Int32) = b2i (decide (f = 0)) := by rw [decide_eq_false (fun z => q ((f1_iff h).mpr z))]; rfl
theorem nI_0e {n : Nat} (h : nI n = 0) (hn : n < 2 ^ 31) : n = 0 := by
  have z := i_eq h
  rw [nI_toInt hn, show (0 : Int32).toInt = 0 by decide] at z
  omega
theorem n40_i {n : Nat} (h : n ≤ 40) : ¬ 40 < nI n := nlt_i (by rw [nI_toInt (by omega), show (40 : Int32).toInt = 40 by decide]; omega)
theorem le40_i {n : Nat} (h : n ≤ 40) : nI n ≤ 40 := i_leI (by rw [nI_toInt (by omega), show (40 : Int32).toInt = 40 by decide]; omega)
theorem n9_lt {k : Nat} (h : k < 100) : ¬ nI k < -9 := nlt_i (by rw [nI_toInt (by omega), show (-9 : Int32).toInt = -9 by decide]; omega)
theorem n9_le {k : Nat} (h : k < 100) : ¬ nI k ≤ -9 := nle_i (by rw [nI_toInt (by omega), show (-9 : Int32).toInt = -9 by decide]; omega)
/-- lacings: what the law asks of one more year -/
def HadOf (P S : PT) (n : Nat) (had : Int32) : Prop := (n = 0 ∧ had = 0) ∨ (1 ≤ n ∧ ∃ s, LacOf P S (n - 1) had s)
theorem lac_rng {P S : PT} {n : Nat} {L : Int32} {s : Nat → Int32} (h : LacOf P S n L s) (hn : n ≤ 5) : ¬ nI n < L ∧ (L < 0 → L = -9) := by
  rcases h with ⟨e, -⟩ | ⟨m, hm, e, -⟩
  · rw [e]
    exact ⟨nlt_i (by rw [nI_toInt (by omega), show (-9 : Int32).toInt = -9 by decide]; omega), fun _ => rfl⟩
  · rw [e]
    exact ⟨nI_nlt hm (by omega), fun q => absurd q (nI_pos (by omega))⟩
theorem lac_chk {P S : PT} {n : Nat} {had L : Int32} {s : Nat → Int32} (hh : HadOf P S n had) (h : LacOf P S n L s) (hn : n < 4) : (¬ 0 ≤ had → L < 0) ∧ (¬ L < 0 → ¬ L < had) ∧ (nI n = 0 → L = 0) := by
  refine ⟨fun q => ?_, fun q => ?_, fun q => ?_⟩
  · rcases hh with ⟨-, e⟩ | ⟨h1, s', h'⟩
    · rw [e] at q; exact absurd (by decide) q
    · have z := (lac_rng h' (by omega)).2 (u_nle q)
      have hN : n = n - 1 + 1 := by omega
      rw [hN] at h
      rw [(lac_next h' h (by omega)).1 z]; decide
  · rcases hh with ⟨-, e⟩ | ⟨h1, s', h'⟩
    · rw [e]; exact q
    · have hN : n = n - 1 + 1 := by omega
      rw [hN] at h
      exact (lac_next h' h (by omega)).2 (fun z => q (by rw [z]; decide))
  · have z := nI_0e q (by omega)
    subst z
    exact lac_0 h
theorem lac_yes {P S : PT} {n : Nat} {L : Int32} {s : Nat → Int32} (h : LacOf P S n L s) (q : ¬ L < 0) : vld P S s n = true ∧ nI (cntS s n) = L := by
  rcases h with ⟨e, -⟩ | ⟨m, hm, e, v, c, -⟩
  · rw [e] at q; exact absurd (by decide) q
  · exact ⟨v, by rw [c, e]⟩
theorem cnt_s9 {s : Nat → Int32} {y : Nat} (h : s y = -9) : nI (cntS s y) + 0 = nI (cntS s (y + 1)) := by
  have e : cntS s (y + 1) = cntS s y + (if (!decide (s y = -9)) = true then 1 else 0) := rfl
  rw [e, h]; exact Int32.add_zero _
theorem cnt_sk {s : Nat → Int32} {y k : Nat} (h : s y = nI k) (hk : k < 100) : nI (cntS s y) + 1 = nI (cntS s (y + 1)) := by
  have e : cntS s (y + 1) = cntS s y + (if (!decide (s y = -9)) = true then 1 else 0) := rfl
  rw [e, h, decide_eq_false (nI_n9 hk)]; exact nI_1 _
theorem lyr_s9 {P S : PT} {s : Nat → Int32} {y : Nat} (h : s y = -9) : lacD (lyr P S s y) (s y) = lyr P S s y := by unfold lacD; rw [if_pos h]
theorem lyr_sk {P S : PT} {s : Nat → Int32} {y k : Nat} (h : s y = nI k) (hk : k < 100) : lacD (lyr P S s y) (s y) = dWear (lyr P S s y) k := by
  unfold lacD
  rw [h, if_neg (nI_n9 hk), ix_of (by omega)]
theorem vld_gave {P S : PT} (g : GS P S) {s : Nat → Int32} {n y : Nat} (v : vld P S s n = true) (hy : y < n) : y_gave P (lacD (lyr P S s y) (s y)) = 0 :=
  (lyr_gave g (fun j hj => vld_ok v j (by omega)) (okY_s (vld_ok v y hy))).mpr (vld_ok v y hy)
theorem vld_0 {P S : PT} (g : GS P S) {s : Nat → Int32} {n y : Nat} (v : vld P S s n = true) (hy : y ≤ n) : lyr P S s y 0 0 = S 0 0 := (lyr_inv g s y fun j hj => vld_ok v j (by omega)).1
/-- gone on from, it is as it was kept -/
theorem q_on_r {P : PT} {Z : Nat → Int32} {K : KT} {S T : PT} {D D1 : Nat} {C C1 : Nat → Int32} {v : Mem} (hrp : SEq P (rplP P C D) S) (h : J P Z K T D1 C1 v) {k : Nat} (hk : k < 3) (hD : D ≤ 40) (e1 : K.1 k = nI D) (e2 : K.2 k = C) : (k_on v (nI k)).1 = nI D ∧ J P Z K S D C (k_on v (nI k)).2 ∧ RS v (k_on v (nI k)).2 := by
  obtain ⟨a, b, c⟩ := q_on h hk hD e1
  rw [e2] at b
  exact ⟨a, J_s b hrp (fun _ _ => rfl), c⟩
/-- the script's triples -/
def tW (G : GT) (k f : Nat) : Int32 := a_part (a_cell (sL G) (sF G) (33 + f) >>> ((4 * nI k) &&& 31)) 21
def tL (G : GT) (k f : Nat) : Int32 := a_part (a_cell (sL G) (sF G) (36 + f) >>> ((4 * nI k) &&& 31)) 60
theorem tW_b (G : GT) (k f : Nat) : 0 ≤ (tW G k f).toInt ∧ (tW G k f).toInt ≤ 20 := by
  obtain ⟨j, hj, e⟩ : ∃ j, j < 21 ∧ tW G k f = nI j := part_N _ (n := 21) (by decide) (by omega)
  rw [e, nI_toInt (by omega)]; omega
theorem tL_b (G : GT) (k f : Nat) : 0 ≤ (tL G k f).toInt ∧ (tL G k f).toInt ≤ 99 := by
  obtain ⟨j, hj, e⟩ : ∃ j, j < 60 ∧ tL G k f = nI j := part_N _ (n := 60) (by decide) (by omega)
  rw [e, nI_toInt (by omega)]; omega
theorem tb2 (G : GT) (k : Nat) : TB2 (tW G k) (tL G k) := fun j => ⟨tW_b G k j, tL_b G k j⟩
theorem TRI_0 (P : PT) (k : Nat) (Tw Tl f : Nat → Int32) : TRI P k Tw Tl 0 f := fun j hj => absurd hj (Nat.not_lt_zero _)
theorem TRI_s {P : PT} {k n : Nat} {Tw Tl f : Nat → Int32} (h : TRI P k Tw Tl n f) : TRI P k Tw Tl (n + 1) (sU (sU (sU f (3 * n) (Tw n)) (3 * n + 1) (Tl n)) (3 * n + 2) (if a_bears P (nI k) (Tw n) < Tl n then 0 else 1)) := fun j hj => by
  by_cases c : j = n
  · subst c
    refine ⟨?_, ?_, ?_⟩
    · rw [sU_n _ _ (by omega), sU_n _ _ (by omega), sU_e]
    · rw [sU_n _ _ (by omega), sU_e]
    · rw [sU_e]
  · rw [sU_n _ _ (by omega), sU_n _ _ (by omega), sU_n _ _ (by omega), sU_n _ _ (by omega), sU_n _ _ (by omega), sU_n _ _ (by omega), sU_n _ _ (by omega), sU_n _ _ (by omega), sU_n _ _ (by omega)]
    exact h j (by omega)
theorem ag_0 (P : PT) (k : Nat) (Tw Tl : Nat → Int32) : (61 : Int32) = nI (cN (agS P k Tw Tl 0) 61) ∧ (63 : Int32) = a_bits (agK P k Tw Tl 0) 6 := by
  have e1 : cN (agS P k Tw Tl 0) 61 = cN (fun _ => true) 61 := cN_c 61 fun _ _ => rfl
  have e2 : a_bits (agK P k Tw Tl 0) 6 = a_bits (fun _ => true) 6 := a_bits_c 6 fun _ _ => rfl
  rw [e1, e2]
  exact ⟨by decide, by decide⟩
theorem str_le (P : PT) (k : Nat) (Tw Tl : Nat → Int32) (n : Nat) : ¬ nI (cN (agS P k Tw Tl n) 61) < nI (cN (agS P k Tw Tl (n + 1)) 61) := by
  have h := cN_le (agS P k Tw Tl n) 61
  exact nI_nlt (cN_mono 61 fun j _ q => agB_pre q) (by omega)
theorem kin_sub (P : PT) (k : Nat) (Tw Tl : Nat → Int32) (n : Nat) : a_bits (agK P k Tw Tl (n + 1)) 6 &&& (a_bits (agK P k Tw Tl n) 6 ^^^ -1) = 0 := sub_bits fun j _ q => agB_pre q
theorem n99_i {t : Nat} (h : t < 100) : ¬ 99 < nI t := nlt_i (by rw [nI_toInt (by omega), show (99 : Int32).toInt = 99 by decide]; omega)
theorem half_lo {x : Int32} {M : Nat} (hM : M ≤ 6) (h : ((M + 1) / 2 : Nat) ≤ x.toInt) : ¬ x < nI ((M + 1) / 2) := nlt_i (by rw [nI_toInt (by omega)]; exact h)
theorem half_hi {x : Int32} {M : Nat} (hM : M ≤ 6) (h : x.toInt ≤ (M : Int)) : ¬ nI M < x := nlt_i (by rw [nI_toInt (by omega)]; exact h)
/-- at the end -/
theorem bg_people {P : PT} (hb : PB P) : a_seatedPeople P bgP = 0 := by
  have h5 := (PB_pe hb).2.1
  rw [seated_b hb]
  exact (bits_0 _ (by omega)).mpr fun i _ => by rfl
theorem kept_2 {K : KT} {D : Nat} (hD : D ≤ 40) (h0 : K.1 0 = nI 0) (h1 : K.1 1 = nI D) (h2 : K.1 2 = -1) : a_sum (fun j => if K.1 j = -1 then 0 else 1) 3 = 2 := by
  have n : ∀ d : Nat, d ≤ 40 → ¬ nI d = -1 := fun d hd q => by
    have z := i_eq q
    rw [nI_toInt (by omega), show (-1 : Int32).toInt = -1 by decide] at z
    omega
  show ((0 + (if K.1 0 = -1 then 0 else 1)) + (if K.1 1 = -1 then 0 else 1)) + (if K.1 2 = -1 then 0 else 1) = (2 : Int32)
  rw [h0, h1, h2, if_neg (n 0 (by decide)), if_neg (n D hD), if_pos rfl]; rfl
