/-! level 3: what a pole is of -/
section TR
variable {P : PT} {Z : Nat → Int32} {K : KT} {S : PT} {D : Nat} {C : Nat → Int32} {u : Mem}
def agB (P : PT) (k : Nat) (Tw Tl : Nat → Int32) (n : Nat) (kind tall strong : Int32) : Bool := all_b (fun j => decide (a_bearing kind tall strong (Tw j) < Tl j) == decide (a_bears P (nI k) (Tw j) < Tl j)) n
def agS (P : PT) (k : Nat) (Tw Tl : Nat → Int32) (n s : Nat) : Bool := agB P k Tw Tl n (P 1 k) (P 2 k) (nI s)
def agK (P : PT) (k : Nat) (Tw Tl : Nat → Int32) (n d : Nat) : Bool := agB P k Tw Tl n (nI d) (P 2 k) (P 3 k)
/-- triples in a row -/
def TRI (P : PT) (k : Nat) (Tw Tl : Nat → Int32) (n : Nat) (f : Nat → Int32) : Prop := ∀ j, j < n → f (3 * j) = Tw j ∧ f (3 * j + 1) = Tl j ∧ f (3 * j + 2) = (if a_bears P (nI k) (Tw j) < Tl j then 0 else 1)
def TB2 (Tw Tl : Nat → Int32) : Prop := ∀ j, (0 ≤ (Tw j).toInt ∧ (Tw j).toInt ≤ 20) ∧ 0 ≤ (Tl j).toInt ∧ (Tl j).toInt ≤ 99
theorem row_get' {r n : Nat} {f : Nat → Int32} (hw : RW r n f u) (hn : n ≤ 40) {i : Nat} (hi : i < n) : a_get u (5 + 2 * r) (nI i) = f i := by
  have ti : (nI n).toInt = (n : Int) := nI_toInt (by omega)
  rw [get_nI (by rw [hw.1, ti]; omega) (by rw [hw.1, ti]; omega), show 5 + 2 * r + 1 = 6 + 2 * r by omega]
  exact hw.2 i hi
theorem within_t {v m : Int32} (h0 : 0 ≤ v.toInt) (h : v.toInt ≤ m.toInt) : a_within v m = true := by
  unfold a_within
  rw [decide_eq_false (nlt_i (by rw [show (0 : Int32).toInt = 0 by decide]; exact h0)), decide_eq_true (i_leI h)]; rfl
theorem tri_N {r n : Nat} {f : Nat → Int32} (hw : RW r (3 * n) f u) (hn : n ≤ 10) : triN u (5 + 2 * r) = n := by
  unfold triN
  rw [hw.1, ix_of (by omega)]; omega
theorem tri_0 {k r n : Nat} {f Tw Tl : Nat → Int32} (hw : RW r (3 * n) f u) (hn : n ≤ 10) (ht : TRI P k Tw Tl n f) (hb : TB2 Tw Tl) : a_triF u (5 + 2 * r) = 0 := by
  have e3 : nI (3 * n) - nI (3 * n) / 3 * 3 = 0 := by
    have q := remn (a := 3 * n) (b := 3) (by omega) (by decide) (by decide)
    rw [Nat.mul_mod_right] at q
    exact q
  unfold a_triF
  rw [tri_N hw hn, hw.1, if_neg (nI_pos (by omega)), if_pos e3, if_pos]
  refine (fst_full _ _).mpr fun j hj => ?_
  obtain ⟨t0, t1, t2⟩ := ht j hj
  obtain ⟨b0, b1⟩ := hb j
  unfold tri_bad
  rw [row_get' hw (by omega) (by omega), row_get' hw (by omega) (by omega), row_get' hw (by omega) (by omega), t0, t1, t2,
    within_t b0.1 (by rw [show (20 : Int32).toInt = 20 by decide]; exact b0.2), within_t b1.1 (by rw [show (99 : Int32).toInt = 99 by decide]; exact b1.2)]
  split <;> rfl
theorem tri_ag {k r n : Nat} {f Tw Tl : Nat → Int32} (hw : RW r (3 * n) f u) (hn : n ≤ 10) (ht : TRI P k Tw Tl n f) (kind tall strong : Int32) : a_agrees u (5 + 2 * r) kind tall strong = agB P k Tw Tl n kind tall strong := by
  unfold a_agrees agB
  rw [tri_N hw hn, fst_all]
  refine all_c n fun j hj => ?_
  obtain ⟨t0, t1, t2⟩ := ht j hj
  unfold ag_bad
  rw [row_get' hw (by omega) (by omega), row_get' hw (by omega) (by omega), row_get' hw (by omega) (by omega), t0, t1, t2]
  by_cases c : a_bearing kind tall strong (Tw j) < Tl j
  · by_cases d : a_bears P (nI k) (Tw j) < Tl j
    · rw [if_pos c, if_pos d, decide_eq_true c, decide_eq_true d]; decide
    · rw [if_pos c, if_neg d, decide_eq_true c, decide_eq_false d]; decide
  · by_cases d : a_bears P (nI k) (Tw j) < Tl j
    · rw [if_neg c, if_pos d, decide_eq_false c, decide_eq_true d]; decide
    · rw [if_neg c, if_neg d, decide_eq_false c, decide_eq_false d]; decide
theorem agB_pre {k n : Nat} {Tw Tl : Nat → Int32} {kind tall strong : Int32} (h : agB P k Tw Tl (n + 1) kind tall strong = true) : agB P k Tw Tl n kind tall strong = true := (all_iff _ _).mpr fun j hj => (all_iff _ _).mp h j (by omega)
theorem agB_own (hb : PB P) {k : Nat} (hk : k < nPl P) (Tw Tl : Nat → Int32) (n : Nat) : agB P k Tw Tl n (P 1 k) (P 2 k) (P 3 k) = true := (all_iff _ _).mpr fun j _ => by
  have e : a_bears P (nI k) (Tw j) = a_bearing (P 1 k) (P 2 k) (P 3 k) (Tw j) := by
    unfold a_bears
    rw [if_pos (pole_nI hb hk), ixk hb hk]
  rw [e]; exact beq_self_eq_true _
theorem cN_mono {f h : Nat → Bool} : ∀ n, (∀ j, j < n → f j = true → h j = true) → cN f n ≤ cN h n
  | 0, _ => Nat.le_refl _
  | n + 1, t => by
    have ih := cN_mono n fun j hj => t j (by omega)
    rw [cN, cN]
    by_cases c : f n = true
    · rw [if_pos c, if_pos (t n (by omega) c)]; omega
    · rw [if_neg c]; split <;> omega
theorem cN_pos {f : Nat → Bool} {n j : Nat} (hj : j < n) (h : f j = true) : 1 ≤ cN f n := by
  apply Decidable.byContradiction
  intro q
  have z := cN_0 f n (by omega) j hj
  rw [z] at h; cases h
/-- the true strength, kind as numbers -/
theorem own_s (hr : PR P) {k : Nat} (hk : k < nPl P) : ∃ s, s ≤ 60 ∧ P 3 k = nI s := by
  have q := hr.1 k hk
  have e := ix_toInt q.2.2.2.2.1
  exact ⟨ix (P 3 k), by omega, ix_nI q.2.2.2.2.1⟩
theorem own_k (hr : PR P) {k : Nat} (hk : k < nPl P) : ∃ d, d < 6 ∧ P 1 k = nI d := by
  have q := hr.1 k hk
  have e := ix_toInt q.1
  exact ⟨ix (P 1 k), by omega, ix_nI q.1⟩
theorem q_str (h : J P Z K S D C u) {k r n : Nat} {f Tw Tl : Nat → Int32} (hk : k < nPl P) (hr6 : r < 6) (hw : RW r (3 * n) f u) (hn : n ≤ 10) (ht : TRI P k Tw Tl n f) (hb : TB2 Tw Tl) :
    (k_strengths u (nI k) (nI r)).1 = nI (cN (agS P k Tw Tl n) 61) ∧ 1 ≤ cN (agS P k Tw Tl n) 61 ∧ ¬ P 3 k < (k_strengths u (nI k) (nI r)).2 0 1 ∧ J P Z K S D C (k_strengths u (nI k) (nI r)).2 ∧ RS u (k_strengths u (nI k) (nI r)).2 := by
  obtain ⟨⟨μ, hr⟩, hP, hS, -⟩ := id h
  have hpb := (J_plan h).1
  have hpr := (J_plan h).2
  obtain ⟨s0, hs0, es0⟩ := own_s hpr hk
  have own : agS P k Tw Tl n s0 = true := by
    unfold agS; rw [← es0]; exact agB_own hpb hk Tw Tl n
  have pos := cN_pos (f := agS P k Tw Tl n) (n := 61) (show s0 < 61 by omega) own
  have ef : st_f u (5 + 2 * r) (nI k) = agS P k Tw Tl n := by
    funext j
    have e1 : u 34 k = P 1 k := by rw [← hP]; rfl
    have e2 : u 35 k = P 2 k := by rw [← hP]; rfl
    unfold st_f agS
    rw [ixk hpb hk, e1, e2]; exact tri_ag hw hn ht _ _ _
  have hle := cN_le (agS P k Tw Tl n) 61
  have ec : a_count (agS P k Tw Tl n) 61 = nI (cN (agS P k Tw Tl n) 61) := cN_st _ 61 (by decide)
  have ne : ¬ nI (cN (agS P k Tw Tl n) 61) = 0 := fun q => by
    have z := i_eq q
    rw [nI_toInt (by omega), show (0 : Int32).toInt = 0 by decide] at z
    omega
  have e : k_strengths u (nI k) (nI r) = (nI (cN (agS P k Tw Tl n) 61), mU u 0 1 (st_least (agS P k Tw Tl n) 61)) := by
    unfold k_strengths
    rw [if_pos (a_in6 hr6), hP, if_pos (pole_nI hpb hk), ix_of (n := r) (by omega), if_pos (tri_0 hw hn ht hb), ef, ec, if_neg ne]
  rw [e]
  refine ⟨rfl, pos, ?_, J_tell h _⟩
  show ¬ P 3 k < mU u 0 1 (st_least (agS P k Tw Tl n) 61) 0 1
  rw [told_e]
  rcases least_st (agS P k Tw Tl n) 61 (by decide) with ⟨-, q⟩ | ⟨m, hm, q1, q2, q3⟩
  · have z := q s0 (by omega)
    rw [own] at z; cases z
  · rw [q3, es0]
    refine nlt_i ?_
    rw [nI_toInt (by omega), nI_toInt (by omega)]
    by_cases c : s0 < m
    · have z := q2 s0 c
      rw [own] at z; cases z
    · omega
theorem kindsBy_e (h : J P Z K S D C u) {k r n : Nat} {f Tw Tl : Nat → Int32} (hk : k < nPl P) (hw : RW r (3 * n) f u) (hn : n ≤ 10) (ht : TRI P k Tw Tl n f) : a_kindsBy u (5 + 2 * r) (nI k) = a_bits (agK P k Tw Tl n) 6 := by
  obtain ⟨-, hP, -⟩ := id h
  have hpb := (J_plan h).1
  have e1 : u 35 k = P 2 k := by rw [← hP]; rfl
  have e2 : u 36 k = P 3 k := by rw [← hP]; rfl
  unfold a_kindsBy
  refine a_bits_c _ fun d _ => ?_
  rw [ixk hpb hk, e1, e2]
  exact tri_ag hw hn ht _ _ _
theorem q_kinds (h : J P Z K S D C u) {k r n : Nat} {f Tw Tl : Nat → Int32} (hk : k < nPl P) (hr6 : r < 6) (hw : RW r (3 * n) f u) (hn : n ≤ 10) (ht : TRI P k Tw Tl n f) (hb : TB2 Tw Tl) : k_kinds u (nI k) (nI r) = (a_bits (agK P k Tw Tl n) 6, u) := by
  obtain ⟨-, hP, -⟩ := id h
  have hpb := (J_plan h).1
  unfold k_kinds
  rw [if_pos (a_in6 hr6), hP, if_pos (pole_nI hpb hk), ix_of (n := r) (by omega), if_pos (tri_0 hw hn ht hb), kindsBy_e h hk hw hn ht]
theorem own_kind (hb : PB P) {k : Nat} (hk : k < nPl P) (Tw Tl : Nat → Int32) (n : Nat) {d : Nat} (e : P 1 k = nI d) : agK P k Tw Tl n d = true := by
  unfold agK; rw [← e]; exact agB_own hb hk Tw Tl n
theorem kind_bit (hb : PB P) (hr : PR P) {k : Nat} (hk : k < nPl P) (Tw Tl : Nat → Int32) (n : Nat) : (a_bits (agK P k Tw Tl n) 6 >>> (P 1 k &&& 31)) &&& 1 = 1 := by
  obtain ⟨d, hd, e⟩ := own_k hr hk
  rw [e]
  exact has_e.mp ((bits_has _ (by decide) hd).trans (own_kind hb hk Tw Tl n e))
theorem sub_fin : ∀ a : Fin 64, ∀ b : Fin 64, a.1 &&& b.1 = a.1 → nI a.1 &&& (nI b.1 ^^^ -1) = 0 := by decide +kernel
theorem sub_bits {f h : Nat → Bool} (t : ∀ k, k < 6 → f k = true → h k = true) : a_bits f 6 &&& (a_bits h 6 ^^^ -1) = 0 := by
  have h1 := nb_lt f 6
  have h2 := nb_lt h 6
  rw [bits_nb f 6 (by decide), bits_nb h 6 (by decide)]
  refine sub_fin ⟨nb f 6, by omega⟩ ⟨nb h 6, by omega⟩ ?_
  show nb f 6 &&& nb h 6 = nb f 6
  apply Nat.eq_of_testBit_eq
  intro k
  rw [Nat.testBit_and]
  by_cases c : k < 6
  · rw [nb_tb f 6 (by decide) k c, nb_tb h 6 (by decide) k c]
    cases w : f k with
    | false => rfl
    | true => rw [t k c w]; rfl
  · have hp : ∀ h : Nat → Bool, (nb h 6).testBit k = false := fun h => Nat.testBit_lt_two_pow (Nat.lt_of_lt_of_le (nb_lt h 6) (Nat.pow_le_pow_right (by decide) (by omega)))
    rw [hp]; rfl
/-- the greater part -/
theorem te_b (g : Nat → Int32) (lo hi : Int) (hlo : lo ≤ 7) (h : ∀ j, lo ≤ (g j).toInt ∧ (g j).toInt ≤ hi) (h6 : hi < 7) : ∀ n, lo ≤ (te_least g (n + 1)).toInt ∧ (te_least g (n + 1)).toInt ≤ hi ∧ ∃ t, t ≤ n ∧ te_first g (n + 1) = nI t
  | 0 => by
    have k7 : (7 : Int32).toInt = 7 := by decide
    have q := h 0
    have c : g 0 < 7 := i_ltI (by omega)
    show lo ≤ (if g 0 < 7 then g 0 else 7).toInt ∧ (if g 0 < 7 then g 0 else 7).toInt ≤ hi ∧ ∃ t, t ≤ 0 ∧ (if g 0 < 7 then nI 0 else 0) = nI t
    rw [if_pos c, if_pos c]
    exact ⟨q.1, q.2, 0, Nat.le_refl _, rfl⟩
  | n + 1 => by
    obtain ⟨a1, a2, t, a3, a4⟩ := te_b g lo hi hlo h h6 n
    have q := h (n + 1)
    rw [te_least, te_first]
    by_cases c : g (n + 1) < te_least g (n + 1)
    · rw [if_pos c, if_pos c]
      exact ⟨q.1, q.2, n + 1, Nat.le_refl _, rfl⟩
    · rw [if_neg c, if_neg c]
      exact ⟨a1, a2, t, by omega, a4⟩
theorem part_b {k : Int32} {w : Nat → Bool} (j : Nat) : ((cN w 6 + 1) / 2 : Nat) ≤ (te_part P S k (a_bits w 6) j).toInt ∧ (te_part P S k (a_bits w 6) j).toInt ≤ (cN w 6 : Int) := by
  have hl := cN_le w 6
  unfold te_part
  rw [hold_te, pop_bits _ (by decide)]
  have hm : cN (fun d => b_has (a_bits w 6) (nI d) && decide (nI j ≤ a_bearsAs P S k (nI d))) 6 ≤ cN w 6 := cN_mono 6 fun d hd q => by
    rw [Bool.and_eq_true, bits_has _ (by decide) hd] at q
    exact q.1
  generalize cN (fun d => b_has (a_bits w 6) (nI d) && decide (nI j ≤ a_bearsAs P S k (nI d))) 6 = c at hm
  rw [nI_sub' hm (by omega), imax_i, nI_toInt (by omega), nI_toInt (by omega)]
  split <;> omega
theorem q_test (h : J P Z K S D C u) {k r n : Nat} {f Tw Tl : Nat → Int32} (hk : k < nPl P) (hr6 : r < 6) (hw : RW r (3 * n) f u) (hn : n ≤ 10) (ht : TRI P k Tw Tl n f) (hb : TB2 Tw Tl) :
    (∃ t, t < 100 ∧ (k_test u (nI k) (nI r)).1 = nI t) ∧ (((cN (agK P k Tw Tl n) 6 + 1) / 2 : Nat) ≤ ((k_test u (nI k) (nI r)).2 0 1).toInt ∧ ((k_test u (nI k) (nI r)).2 0 1).toInt ≤ (cN (agK P k Tw Tl n) 6 : Int)) ∧ J P Z K S D C (k_test u (nI k) (nI r)).2 ∧ RS u (k_test u (nI k) (nI r)).2 := by
  obtain ⟨-, hP, -⟩ := id h
  have hpb := (J_plan h).1
  have hpr := (J_plan h).2
  obtain ⟨d, hd, ed⟩ := own_k hpr hk
  have own := own_kind hpb hk Tw Tl n ed
  have ne : ¬ a_bits (agK P k Tw Tl n) 6 = 0 := fun q => by
    have z := (bits_0 _ (by decide)).mp q d hd
    rw [own] at z; cases z
  have hl := cN_le (agK P k Tw Tl n) 6
  have e : k_test u (nI k) (nI r) = (te_first (te_part P (vS u 45) (nI k) (a_bits (agK P k Tw Tl n) 6)) 100, mU u 0 1 (te_least (te_part P (vS u 45) (nI k) (a_bits (agK P k Tw Tl n) 6)) 100)) := by
    unfold k_test
    rw [if_pos (a_in6 hr6), hP, if_pos (pole_nI hpb hk), ix_of (n := r) (by omega), if_pos (tri_0 hw hn ht hb), kindsBy_e h hk hw hn ht, if_neg ne]
  have tb := te_b (te_part P (vS u 45) (nI k) (a_bits (agK P k Tw Tl n) 6)) (((cN (agK P k Tw Tl n) 6 + 1) / 2 : Nat) : Int) (cN (agK P k Tw Tl n) 6 : Int) (by omega) (fun j => part_b j) (by omega) 99
  rw [show 99 + 1 = 100 from rfl] at tb
  rw [e]
  generalize te_least (te_part P (vS u 45) (nI k) (a_bits (agK P k Tw Tl n) 6)) 100 = lea at tb ⊢
  generalize te_first (te_part P (vS u 45) (nI k) (a_bits (agK P k Tw Tl n) 6)) 100 = fir at tb ⊢
  obtain ⟨b1, b2, t, b3, b4⟩ := tb
  refine ⟨⟨t, by omega, b4⟩, ?_, J_tell h _⟩
  show ((cN (agK P k Tw Tl n) 6 + 1) / 2 : Nat) ≤ (mU u 0 1 lea 0 1).toInt ∧ (mU u 0 1 lea 0 1).toInt ≤ _
  rw [told_e]
  exact ⟨b1, b2⟩
end TR
