/-! level 3: fewest, rows -/
theorem tree_inv2 {α : Type} {B n : Nat} {dg : Nat → Int32} {leaf : (Nat → Int32) → α → α} (R : α → Prop) (hl : ∀ s x, (∀ j, j < n → ∃ r, r < B ∧ s j = dg r) → R x → R (leaf s x)) : ∀ d i s x, i + d = n → (∀ j, j < i → ∃ r, r < B ∧ s j = dg r) → R x → R (tree B dg leaf d i s x)
  | 0, i, s, x, e, h, hx => hl s x (fun j hj => h j (by omega)) hx
  | d + 1, i, s, x, e, h, hx => by
    rw [tree]
    refine forR_inv R B x hx fun k hk y hy => tree_inv2 R hl d (i + 1) _ y (by omega) (fun j hj => ?_) hy
    by_cases c : j = i
    · exact ⟨k, hk, by rw [c, sU_e]⟩
    · rw [sU_n _ _ c]; exact h j (by omega)
/-- a number by its figures, the lowest first -/
theorem fig_ex {B : Nat} (hB : 0 < B) : ∀ (n : Nat) (t : Nat → Nat), (∀ i, i < n → t i < B) → ∃ c, c < B ^ n ∧ ∀ i, i < n → lf B c i % B = t i
  | 0, _, _ => ⟨0, by rw [Nat.pow_zero]; omega, fun i hi => absurd hi (Nat.not_lt_zero _)⟩
  | n + 1, t, h => by
    obtain ⟨c, hc, e⟩ := fig_ex hB n (fun i => t (i + 1)) fun i hi => h (i + 1) (by omega)
    have h0 := h 0 (by omega)
    refine ⟨B * c + t 0, ?_, fun i hi => ?_⟩
    · rw [Nat.pow_succ, Nat.mul_comm (B ^ n) B]
      have q : B * (c + 1) ≤ B * B ^ n := Nat.mul_le_mul_left B hc
      rw [Nat.mul_succ] at q
      omega
    · match i with
      | 0 => rw [lf, Nat.mul_add_mod, Nat.mod_eq_of_lt h0]
      | i + 1 =>
        rw [lf_s, Nat.mul_add_div hB, Nat.div_eq_of_lt h0, Nat.add_zero]
        exact e i (by omega)
theorem lf_lt {B : Nat} (c : Nat) (i : Nat) : lf B c i ≤ c := lf_le B c i
section FE
variable {P : PT} {Z : Nat → Int32} {K : KT} {S : PT} {D : Nat} {C : Nat → Int32} {u : Mem}
/-- the poles of a seating -/
def usb (s : Nat → Int32) (n k : Nat) : Bool := !all_b (fun j => !decide (s j = nI k)) n
theorem usb_iff (s : Nat → Int32) (n k : Nat) : usb s n k = true ↔ ∃ j, j < n ∧ s j = nI k := by
  unfold usb
  rw [Bool.not_eq_true', Bool.eq_false_iff]
  constructor
  · intro h
    apply Decidable.byContradiction
    intro q
    refine h ((all_iff _ _).mpr fun j hj => ?_)
    rw [decide_eq_false (fun w => q ⟨j, hj, w⟩)]; rfl
  · rintro ⟨j, hj, e⟩ h
    have q := (all_iff _ _).mp h j hj
    rw [decide_eq_true e] at q
    cases q
theorem US_bits (hb : PB P) {s : Nat → Int32} : ∀ n, onP P s n → US s n = a_bits (usb s n) (nPl P)
  | 0, _ => by
    have h4 := (PB_pl hb).2.1
    rw [US, eq_comm]
    exact (bits_0 _ (by omega)).mpr fun k _ => rfl
  | n + 1, h => by
    have h4 := (PB_pl hb).2.1
    obtain ⟨r, hr, e⟩ := h n (by omega)
    rw [US, US_bits hb n (fun j hj => h j (by omega)), e, one_bits (n := nPl P) (by omega) hr, or_bits _ _ (by omega)]
    refine a_bits_c _ fun k hk => ?_
    show (usb s n k || decide (k = r)) = (!(all_b (fun j => !decide (s j = nI k)) n && !decide (s n = nI k)))
    have er : decide (s n = nI k) = decide (k = r) := by
      rw [e]
      by_cases c : k = r
      · rw [decide_eq_true c, c, decide_eq_true (rfl : nI r = nI r)]
      · rw [decide_eq_false c, decide_eq_false fun w => c ?_]
        have z := i_eq w
        rw [nI_toInt (by omega), nI_toInt (by omega)] at z
        omega
    rw [er]
    unfold usb
    cases all_b (fun j => !decide (s j = nI k)) n <;> cases decide (k = r) <;> rfl
/-- the fewest poles -/
def FewOf (P S : PT) (fw which : Int32) : Prop := fw = -9 ∨ ∃ w : Nat → Bool, which = a_bits w (nPl P) ∧ fw = nI (cN w (nPl P)) ∧ 1 ≤ cN w (nPl P) ∧ (∀ k, k < nPl P → w k = true → a_isUp P S (nI k) = true) ∧ ∃ t : Nat → Nat, (∀ i, i < nPe P → t i < nPl P ∧ w (t i) = true) ∧ b_fail P (Ts S fun i => nI (t i)) = 0
theorem few_of (g : GS P S) (hp : 0 < nPe P) {s : Nat → Int32} (ho : onP P s (nPe P)) (hu : upB P S s = true) (hf : b_fail P (Ts S s) = 0) {which : Int32} (e : which = US s (nPe P)) : FewOf P S (a_pop which) which := by
  have h4 := (PB_pl g.1).2.1
  have ew : which = a_bits (usb s (nPe P)) (nPl P) := e.trans (US_bits g.1 _ ho)
  have ht : ∀ i, ∃ r, i < nPe P → r < nPl P ∧ s i = nI r := fun i => by
    by_cases c : i < nPe P
    · obtain ⟨r, hr, er⟩ := ho i c
      exact ⟨r, fun _ => ⟨hr, er⟩⟩
    · exact ⟨0, fun q => absurd q c⟩
  refine Or.inr ⟨usb s (nPe P), ew, ?_, ?_, fun k hk w => ?_, fun i => Classical.choose (ht i), fun i hi => ?_, ?_⟩
  · rw [ew]; exact pop_bits _ (by omega)
  · obtain ⟨r, hr, er⟩ := ho 0 hp
    have t : usb s (nPe P) r = true := (usb_iff _ _ _).mpr ⟨0, hp, er⟩
    apply Decidable.byContradiction
    intro q
    have z := cN_0 (usb s (nPe P)) (nPl P) (by omega) r hr
    rw [z] at t
    cases t
  · obtain ⟨j, hj, ej⟩ := (usb_iff _ _ _).mp w
    rcases upB_ok.mp hu j hj with q | q
    · exact absurd (q.symm.trans ej) (n9_nI g.1 hk)
    · rw [← ej]; exact q
  · have q := Classical.choose_spec (ht i) hi
    exact ⟨q.1, (usb_iff _ _ _).mpr ⟨i, hi, q.2⟩⟩
  · rw [← hf]
    exact pe_fail PEq.rfl' (Ts_s fun j hj => (Classical.choose_spec (ht j) hj).2.symm)
theorem q_fewest (h : J P Z K S D C u) (hp0 : 0 < nPl P) (hp : 0 < nPe P) : FewOf P S (k_fewest u).1 ((k_fewest u).2 0 1) ∧ J P Z K S D C (k_fewest u).2 ∧ RS u (k_fewest u).2 := by
  obtain ⟨⟨μ, hr⟩, hP, hS, -⟩ := id h
  have g := J_gs h
  have g0 : GS P (vS u 45) := by
    have hj : J P Z K (vS u 45) D C u := by
      obtain ⟨h1, h2, h3, h4⟩ := id h
      exact ⟨h1, h2, SEq.rfl', h4⟩
    exact J_gs hj
  have ho := OK_ag (op_fewest hr)
  have hH : InvH P (vS u 45) (m_sBegin u) (fun _ => 0) 0 0 := by
    have w := begin_H u
    rw [hP] at w
    rcases w with q | q | q | q
    · exact q
    · exact absurd g0.2.2.1 q
    · exact absurd g.1 q
    · exact absurd g.2.1 q
  have hI : InvF P (vS u 45) (m_sBegin u) (fun _ => 0) 0 0 := ⟨hH.1, hH.2.2.1, rfl, hH.2.2.2.2.2.1, fun j hj => absurd hj (Nat.not_lt_zero _), hH.2.2.2.2.2.2⟩
  have hX := all_tree g.1 g.2.1 g0.2.2.1 (nPe P) 0 (fun _ => 0) (m_sBegin u) 0 (1000000, 0) (Nat.zero_add _) hI (Or.inl ⟨rfl, by unfold m_sBegin; rw [mU_e, if_pos rfl, if_pos rfl]⟩)
  rw [lfF_c PEq.rfl' hS] at hX
  have inv := tree_inv2 (B := nPl P) (n := nPe P) (dg := dgt 0) (leaf := lfF P S) (fun x : Int32 × Int32 => x.1 = 1000000 ∨ ∃ s, onP P s (nPe P) ∧ upB P S s = true ∧ b_fail P (Ts S s) = 0 ∧ x.2 = US s (nPe P)) (fun s x hd hx => by
    unfold lfF
    split
    · rename_i q
      refine Or.inr ⟨s, fun j hj => ?_, q.1.1, q.1.2, rfl⟩
      obtain ⟨r, hr, er⟩ := hd j hj
      exact ⟨r, hr, by rw [er, dgt_0 (by have := (PB_pl g.1).2.1; omega)]⟩
    · exact hx) (nPe P) 0 (fun _ => 0) (1000000, 0) (Nat.zero_add _) (fun j hj => absurd hj (Nat.not_lt_zero _)) (Or.inl rfl)
  have hρ : ∀ q, q < 51 ∨ 54 < q → s_all P (nPe P) (m_sBegin u) 0 0 q = u q := fun q hq => by rw [s_all_n _ (by omega), m_sBegin_n _ (by omega) (by omega) (by omega)]
  generalize tree (nPl P) (dgt 0) (lfF P S) (nPe P) 0 (fun _ => 0) (1000000, 0) = x at hX inv
  have e : k_fewest u = if s_all P (nPe P) (m_sBegin u) 0 0 51 1 = -9 then (-9, s_all P (nPe P) (m_sBegin u) 0 0) else (a_pop (s_all P (nPe P) (m_sBegin u) 0 0 51 1), mU (s_all P (nPe P) (m_sBegin u) 0 0) 0 1 (s_all P (nPe P) (m_sBegin u) 0 0 51 1)) := by
    unfold k_fewest
    rw [if_neg (u_ne h hp0), hP]
  rw [e] at ho ⊢
  generalize s_all P (nPe P) (m_sBegin u) 0 0 = ρ at hX hρ ho ⊢
  rcases hX with ⟨e0, e1⟩ | ⟨e1, v, v16, ev, ex⟩
  · rw [if_pos e1] at ho ⊢
    exact ⟨Or.inl rfl, J_n h ho fun q hq => hρ q (by omega), fun q h1 h2 => hρ q (by omega)⟩
  · have n9 : ¬ ρ 51 1 = -9 := by rw [e1, ev]; exact nI_n9 (by omega)
    rw [if_neg n9] at ho ⊢
    have n1 : ¬ x.1 = 1000000 := fun q => by
      have z := i_eq q
      have w : (a_pop (nI v)).toInt ≤ 4 := (pop_fin ⟨v, v16⟩ ⟨0, by decide⟩).2.2.2
      rw [ex, show (1000000 : Int32).toInt = 1000000 by decide] at z
      omega
    rcases inv with q | ⟨s, o1, o2, o3, o4⟩
    · exact absurd q n1
    · have w := few_of g hp o1 o2 o3 (which := ρ 51 1) (e1.trans o4)
      refine ⟨?_, J_n h ho fun q hq => ?_, fun q h1 h2 => ?_⟩
      · show FewOf P S (a_pop (ρ 51 1)) (mU ρ 0 1 (ρ 51 1) 0 1)
        rw [told_e]; exact w
      · exact (mU_n _ _ _ (by omega)).trans (hρ q (by omega))
      · exact (mU_n _ _ _ (by omega)).trans (hρ q (by omega))
/-- rows -/
theorem q_row (h : J P Z K S D C u) {r n : Nat} (hr6 : r < 6) (hn : n ≤ 40) : (k_row u (nI r) (nI n)).1 = nI n ∧ RW r n (fun _ => 0) (k_row u (nI r) (nI n)).2 ∧ J P Z K S D C (k_row u (nI r) (nI n)).2 ∧ (∀ q, q ≠ 5 + 2 * r → q ≠ 5 + 2 * r + 1 → (k_row u (nI r) (nI n)).2 q = u q) := by
  obtain ⟨⟨μ, hr⟩, -⟩ := id h
  have ho := OK_ag (op_row hr (nI r) (nI n))
  have ti : (nI n).toInt = (n : Int) := nI_toInt (by omega)
  have e : k_row u (nI r) (nI n) = (nI n, m_fill u (5 + 2 * r) (nI n) 0) := by
    unfold k_row x_begin
    rw [if_pos (a_in6 hr6), ix_of (by omega), if_neg (nlt_i (by rw [ti, show (40 : Int32).toInt = 40 by decide]; omega)), if_neg (nI_pos (by omega))]
  rw [e] at ho ⊢
  have i60 : imin (nI n) 60 = nI n := imin_l (by rw [ti, show (60 : Int32).toInt = 60 by decide]; omega)
  have fr : ∀ q, q ≠ 5 + 2 * r → q ≠ 5 + 2 * r + 1 → m_fill u (5 + 2 * r) (nI n) 0 q = u q := fun q q1 q2 => m_fill_n _ _ _ _ q1 q2
  refine ⟨rfl, ⟨?_, fun j hj => ?_⟩, J_n h ho fun q hq => fr q (by omega) (by omega), fr⟩
  · show m_fill u (5 + 2 * r) (nI n) 0 (5 + 2 * r) 0 = _
    unfold m_fill
    rw [mF_n _ _ _ (by omega), mU_e, if_pos rfl, if_pos rfl, i60]
  · show m_fill u (5 + 2 * r) (nI n) 0 (6 + 2 * r) j = _
    unfold m_fill
    rw [show 6 + 2 * r = 5 + 2 * r + 1 by omega, mF_e, if_pos rfl, i60, ix_of (by omega), if_pos hj]
theorem find_0 {r n i : Nat} {f : Nat → Int32} (hw : RW r n f u) (hn : n ≤ 40) (hi : i < n) : a_has u (5 + 2 * r) (nI i) = true ∧ a_findAt u (5 + 2 * r) (nI i) = 0 := by
  have ti : (nI i).toInt = (i : Int) := nI_toInt (by omega)
  have tn : (nI n).toInt = (n : Int) := nI_toInt (by omega)
  have hh : a_has u (5 + 2 * r) (nI i) = true := by
    unfold a_has
    rw [hw.1, decide_eq_false (nI_pos (by omega)), decide_eq_true (i_ltI (by omega)), decide_eq_true (i_ltI (by rw [show (60 : Int32).toInt = 60 by decide]; omega))]; rfl
  refine ⟨hh, ?_⟩
  unfold a_findAt
  rw [hw.1, if_neg (nI_pos (by omega)), if_pos hh]
theorem q_lay (h : J P Z K S D C u) {r n i : Nat} {f : Nat → Int32} (hr6 : r < 6) (hn : n ≤ 40) (hw : RW r n f u) (hi : i < n) (v : Int32) : (k_lay u (nI r) (nI i) v).1 = 1 ∧ RW r n (sU f i v) (k_lay u (nI r) (nI i) v).2 ∧ J P Z K S D C (k_lay u (nI r) (nI i) v).2 := by
  obtain ⟨⟨μ, hr⟩, -⟩ := id h
  have ho := OK_ag (op_lay hr (nI r) (nI i) v)
  obtain ⟨hh, hf⟩ := find_0 hw hn hi
  have e : k_lay u (nI r) (nI i) v = (1, mU (mU u (5 + 2 * r + 1) i v) 0 1 (a_get u (5 + 2 * r) (nI i))) := by
    unfold k_lay m_set
    rw [if_pos (a_in6 hr6), ix_of (by omega), if_pos hf, if_pos hh, ix_of (by omega)]
  rw [e] at ho ⊢
  have fr : ∀ q, q ≠ 0 → q ≠ 5 + 2 * r + 1 → mU (mU u (5 + 2 * r + 1) i v) 0 1 (a_get u (5 + 2 * r) (nI i)) q = u q := fun q q1 q2 => by rw [mU_n _ _ _ q1, mU_n _ _ _ q2]
  refine ⟨rfl, ⟨?_, fun j hj => ?_⟩, J_n h ho fun q hq => fr q (by omega) (by omega)⟩
  · show mU (mU u (5 + 2 * r + 1) i v) 0 1 (a_get u (5 + 2 * r) (nI i)) (5 + 2 * r) 0 = _
    rw [fr _ (by omega) (by omega)]; exact hw.1
  · show mU (mU u (5 + 2 * r + 1) i v) 0 1 (a_get u (5 + 2 * r) (nI i)) (6 + 2 * r) j = _
    rw [show 6 + 2 * r = 5 + 2 * r + 1 by omega, mU_n _ _ _ (by omega), mU_e, if_pos rfl]
    by_cases c : j = i
    · rw [if_pos c, c, sU_e]
    · rw [if_neg c, sU_n _ _ c, show 5 + 2 * r + 1 = 6 + 2 * r by omega]; exact hw.2 j hj
theorem q_at (h : J P Z K S D C u) {r n i : Nat} {f : Nat → Int32} (hr6 : r < 6) (hn : n ≤ 40) (hw : RW r n f u) (hi : i < n) : (k_at u (nI r) (nI i)).1 = 1 ∧ (k_at u (nI r) (nI i)).2 0 1 = f i ∧ J P Z K S D C (k_at u (nI r) (nI i)).2 ∧ RS u (k_at u (nI r) (nI i)).2 := by
  obtain ⟨hh, hf⟩ := find_0 hw hn hi
  have e : k_at u (nI r) (nI i) = (1, mU u 0 1 (f i)) := by
    unfold k_at a_get
    rw [if_pos (a_in6 hr6), ix_of (by omega), if_pos hf, if_pos hh, ix_of (by omega), show 5 + 2 * r + 1 = 6 + 2 * r by omega, hw.2 i hi]
  rw [e]
  exact ⟨rfl, told_e u (f i), J_tell h _⟩
/-- bits of a set of at most six -/
def a_many (x : Int32) : Int32 := a_sum (fun k => (x >>> (nI k &&& 31)) &&& 1) 6
theorem many_pop {v : Nat} (h : v < 64) : a_many (nI v) = a_pop (nI v) := by
  have q : ∀ a : Fin 64, a_many (nI a.1) = a_pop (nI a.1) := by decide +kernel
  exact q ⟨v, h⟩
theorem many_bits (w : Nat → Bool) {n : Nat} (hn : n ≤ 6) : a_many (a_bits w n) = nI (cN w n) := by
  have h6 : 2 ^ n ≤ 2 ^ 6 := Nat.pow_le_pow_right (by decide) hn
  have hb := nb_lt w n
  rw [bits_nb w n hn, many_pop (by omega), pop_nb w n hn]
theorem few_down (g : GS P S) {w : Nat → Bool} (hu : ∀ k, k < nPl P → w k = true → a_isUp P S (nI k) = true) : a_bits w (nPl P) &&& S 0 0 = 0 := by
  have h4 := (PB_pl g.1).2.1
  rw [and_bits _ _ (by omega)]
  refine (bits_0 _ (by omega)).mpr fun k hk => ?_
  rw [dn_has g hk]
  cases c : w k with
  | false => rfl
  | true => rw [hu k hk c]; rfl
end FE
