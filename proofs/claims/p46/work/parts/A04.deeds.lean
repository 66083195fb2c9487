/-! level 3: calls that do -/
section DE
variable {P : PT} {Z : Nat → Int32} {K : KT} {S : PT} {D : Nat} {C : Nat → Int32} {u : Mem}
def cAt (C : Nat → Int32) (D : Nat) (d : Int32) : Nat → Int32 := fun j => if j = D then d else C j
theorem cAt_l (C : Nat → Int32) (D : Nat) (d : Int32) {j : Nat} (h : j < D) : cAt C D d j = C j := if_neg (by omega)
theorem Jx_do (h : Jx P Z K S D C u) (hD : D < 40) (d : Int32) : (k_do u d).1 = dAns P S d ∧ Jx P Z K (dApply P S d) (D + 1) (cAt C D d) (k_do u d).2 ∧ ∀ q, q ≠ 25 → q ≠ 26 → q ≠ 45 → q ≠ 46 → q ≠ 47 → (k_do u d).2 q = u q := by
  obtain ⟨hP, hS, ⟨hD1, hD2⟩, hC, hK, hZ⟩ := h
  have k40 : (40 : Int32).toInt = 40 := by decide
  have hi : (u 25 0).toInt = (D : Int) := by rw [hD1]; exact nI_toInt (by omega)
  have e : k_do u d = (a_apply (m_add u 25 d) 45 d, m_apply (m_add u 25 d) 45 d) := by
    unfold k_do
    rw [if_pos (i_ltI (by omega))]
  have ea : m_add u 25 d = mU (mU u 26 D d) 25 0 (nI (D + 1)) := by
    rw [m_add_l (by omega) (by omega), hD1, ix_of (by omega), nI_1]
  have hv : vP (m_add u 25 d) 33 = P := (vP_eq fun q hq => m_add_n _ _ _ (by omega) (by omega)).trans hP
  have hs : SEq P (vS (m_add u 25 d) 45) S := by
    rw [vS_of (σ := u) (τ := m_add u 25 d) (fun q h1 h2 => m_add_n _ _ _ (by omega) (by omega))]; exact hS
  have fr : ∀ q, q ≠ 25 → q ≠ 26 → q ≠ 45 → q ≠ 46 → q ≠ 47 → m_apply (m_add u 25 d) 45 d q = u q := fun q q1 q2 q3 q4 q5 => by
    rw [m_apply_n _ _ _ q3 q4 q5, m_add_n _ _ _ q1 q2]
  rw [e]
  refine ⟨ans_p hv hs d, ⟨(vP_apply _ d).trans hv, apply_p hv hs d, ⟨?_, by omega⟩, fun j hj => ?_, fun k hk => ?_, ?_⟩, fr⟩
  · show m_apply (m_add u 25 d) 45 d 25 0 = _
    rw [m_apply_n _ _ _ (by decide) (by decide) (by decide), ea, mU_e, if_pos rfl, if_pos rfl]
  · show m_apply (m_add u 25 d) 45 d 26 j = _
    rw [m_apply_n _ _ _ (by decide) (by decide) (by decide), ea, mU_n _ _ _ (by decide), mU_e, if_pos rfl]
    unfold cAt
    by_cases c : j = D
    · rw [if_pos c, if_pos c]
    · rw [if_neg c, if_neg c]; exact hC j (by omega)
  · show m_apply (m_add u 25 d) 45 d (27 + 2 * k) 0 = _ ∧ ∀ j : Nat, _ → m_apply (m_add u 25 d) 45 d (28 + 2 * k) j = _
    rw [fr _ (by omega) (by omega) (by omega) (by omega) (by omega), fr _ (by omega) (by omega) (by omega) (by omega) (by omega)]
    exact hK k hk
  · exact (fr 72 (by decide) (by decide) (by decide) (by decide) (by decide)).trans hZ
theorem J_do (h : J P Z K S D C u) (hD : D < 40) (d : Int32) (ho : OKm (k_do u d).2) : (k_do u d).1 = dAns P S d ∧ J P Z K (dApply P S d) (D + 1) (cAt C D d) (k_do u d).2 ∧ RS u (k_do u d).2 := by
  obtain ⟨a, b, c⟩ := Jx_do h.2 hD d
  exact ⟨a, ⟨ho, b⟩, fun q h1 h2 => c q (by omega) (by omega) (by omega) (by omega) (by omega)⟩
theorem one_lt {i : Int32} (hb : PB P) (hi : a_isOne P i = true) : 0 ≤ i.toInt ∧ i.toInt < 5 := ⟨(isOne_t hi).1, (isOne_t hi).2.2⟩
theorem seated_e (h : J P Z K S D C u) {i : Int32} (hi : a_isOne P i = true) : a_isSeated (vP u 33) (vS u 45) i = !decide (S 2 (ix i) = -9) := by
  obtain ⟨-, hP, hS, -⟩ := id h
  rw [hP, pe_isSeated PEq.rfl' hS]
  unfold a_isSeated
  rw [hi, Bool.true_and]
theorem isUp_e (h : J P Z K S D C u) (k : Int32) : a_isUp (vP u 33) (vS u 45) k = a_isUp P S k := by
  obtain ⟨-, hP, hS, -⟩ := id h
  rw [hP]; exact pe_isUp PEq.rfl' hS k
theorem q_sit0 (h : J P Z K S D C u) {i k : Int32} (hi : a_isOne P i = true) (hk : a_isPole P k = true) (hd : ¬ (S 2 (ix i) = -9 ∧ a_isUp P S k = true)) : k_sit u i k = (-4, u) := by
  obtain ⟨-, hP, hS, -⟩ := id h
  have e1 := seated_e h hi
  have e2 := isUp_e h k
  unfold k_sit
  rw [e1, e2, hP, if_pos hi, if_pos hk]
  by_cases c : S 2 (ix i) = -9
  · rw [decide_eq_true c, if_neg (show ¬ (!true) = true by decide), if_neg (fun q => hd ⟨c, q⟩)]
  · rw [decide_eq_false c, if_pos (show (!false) = true by decide)]
theorem q_sit1 (h : J P Z K S D C u) (hD : D < 40) {i k : Int32} (hi : a_isOne P i = true) (hk : a_isPole P k = true) (h9 : S 2 (ix i) = -9) (hu : a_isUp P S k = true) : (k_sit u i k).1 = a_load P (Ts S (sU (S 2) (ix i) k)) k ∧ (∃ C', (∀ j, j < D → C' j = C j) ∧ J P Z K (Ts S (sU (S 2) (ix i) k)) (D + 1) C' (k_sit u i k).2) ∧ RS u (k_sit u i k).2 := by
  obtain ⟨⟨μ, hr⟩, hP, hS, -⟩ := id h
  have e1 := seated_e h hi
  have e2 := isUp_e h k
  have e : k_sit u i k = k_do u (dCode 0 i k) := by
    unfold k_sit
    rw [e1, e2, hP, if_pos hi, if_pos hk, decide_eq_true h9, if_neg (show ¬ (!true) = true by decide), if_pos hu]
  have ho := OK_ag (op_sit hr i k)
  rw [e] at ho ⊢
  have b := (J_plan h).1
  obtain ⟨c1, c2, c3⟩ := dc' (w := 0) (i := i) (k := k) (by decide) (one_lt b hi) ⟨(isPole_t hk).1, (isPole_t hk).2.2⟩
  obtain ⟨a1, a2, a3⟩ := J_do h hD (dCode 0 i k) ho
  have eA : dApply P S (dCode 0 i k) = Ts S (sU (S 2) (ix i) k) := by
    unfold dApply; rw [c1, if_pos rfl, c2, c3, if_pos hi]
  have eN : dAns P S (dCode 0 i k) = a_load P (Ts S (sU (S 2) (ix i) k)) k := by
    unfold dAns; rw [c1, if_pos rfl, c3, eA]
  rw [eA] at a2
  exact ⟨a1.trans eN, ⟨_, fun j hj => cAt_l _ _ _ hj, a2⟩, a3⟩
theorem q_down0 (h : J P Z K S D C u) {i : Int32} (hi : a_isOne P i = true) (h9 : S 2 (ix i) = -9) : k_down u i = (-4, u) := by
  obtain ⟨-, hP, hS, -⟩ := id h
  have e1 := seated_e h hi
  unfold k_down
  rw [e1, hP, if_pos hi, decide_eq_true h9, if_neg (show ¬ (!true) = true by decide)]
theorem q_down1 (h : J P Z K S D C u) (hD : D < 40) {i : Int32} (hi : a_isOne P i = true) (h9 : ¬ S 2 (ix i) = -9) : (k_down u i).1 = a_high P i (S 2 (ix i)) ∧ (∃ C', (∀ j, j < D → C' j = C j) ∧ J P Z K (Ts S (sU (S 2) (ix i) (-9))) (D + 1) C' (k_down u i).2) ∧ RS u (k_down u i).2 := by
  obtain ⟨⟨μ, hr⟩, hP, hS, -⟩ := id h
  have e1 := seated_e h hi
  have e : k_down u i = k_do u (dCode 1 i 0) := by
    unfold k_down
    rw [e1, hP, if_pos hi, decide_eq_false h9, if_pos (show (!false) = true by decide)]
  have ho := OK_ag (op_down hr i)
  rw [e] at ho ⊢
  have b := (J_plan h).1
  obtain ⟨c1, c2, c3⟩ := dc' (w := 1) (i := i) (k := 0) (by decide) (one_lt b hi) (by decide)
  obtain ⟨a1, a2, a3⟩ := J_do h hD (dCode 1 i 0) ho
  have eA : dApply P S (dCode 1 i 0) = Ts S (sU (S 2) (ix i) (-9)) := by
    unfold dApply; rw [c1, if_neg (by decide), if_pos rfl, c2, if_pos hi]
  have eN : dAns P S (dCode 1 i 0) = a_high P i (S 2 (ix i)) := by
    unfold dAns a_down; rw [c1, if_neg (by decide), if_pos rfl, c2, if_pos hi]
  rw [eA] at a2
  exact ⟨a1.trans eN, ⟨_, fun j hj => cAt_l _ _ _ hj, a2⟩, a3⟩
theorem q_lace0 (h : J P Z K S D C u) {k : Int32} (hk : a_isPole P k = true) (hu : ¬ a_isUp P S k = true) : k_lace u k = (-4, u) := by
  obtain ⟨-, hP, hS, -⟩ := id h
  have e2 := isUp_e h k
  unfold k_lace
  rw [e2, hP, if_pos hk, if_neg hu]
theorem q_lace1 (h : J P Z K S D C u) (hD : D < 40) {k : Int32} (hk : a_isPole P k = true) (hu : a_isUp P S k = true) : (k_lace u k).1 = S 1 (ix k) ∧ (∃ C', (∀ j, j < D → C' j = C j) ∧ J P Z K (dWear S (ix k)) (D + 1) C' (k_lace u k).2) ∧ RS u (k_lace u k).2 := by
  obtain ⟨⟨μ, hr⟩, hP, hS, -⟩ := id h
  have e2 := isUp_e h k
  have e : k_lace u k = k_do u (dCode 2 0 k) := by
    unfold k_lace
    rw [e2, hP, if_pos hk, if_pos hu]
  have ho := OK_ag (op_lace hr k)
  rw [e] at ho ⊢
  obtain ⟨c1, c2, c3⟩ := dc' (w := 2) (i := 0) (k := k) (by decide) (by decide) ⟨(isPole_t hk).1, (isPole_t hk).2.2⟩
  obtain ⟨a1, a2, a3⟩ := J_do h hD (dCode 2 0 k) ho
  have eA : dApply P S (dCode 2 0 k) = dWear S (ix k) := by
    unfold dApply; rw [c1, if_neg (by decide), if_neg (by decide), if_pos rfl, c3, if_pos hk]
  have eN : dAns P S (dCode 2 0 k) = S 1 (ix k) := by
    unfold dAns a_renew; rw [c1, if_neg (by decide), if_neg (by decide), if_pos rfl, c3, if_pos hk]
  rw [eA] at a2
  exact ⟨a1.trans eN, ⟨_, fun j hj => cAt_l _ _ _ hj, a2⟩, a3⟩
theorem q_stone (h : J P Z K S D C u) (hD : D < 40) (hp0 : 0 < nPl P) : (k_stone u).1 = S 0 2 + 1 ∧ (∃ C', (∀ j, j < D → C' j = C j) ∧ J P Z K (dStone S) (D + 1) C' (k_stone u).2) ∧ RS u (k_stone u).2 := by
  obtain ⟨⟨μ, hr⟩, hP, hS, -⟩ := id h
  have e : k_stone u = k_do u (dCode 3 0 0) := by
    unfold k_stone
    rw [if_neg (u_ne h hp0)]
  have ho := OK_ag (op_stone hr)
  rw [e] at ho ⊢
  have c1 : dCode 3 0 0 / 100 = 3 := by decide
  obtain ⟨a1, a2, a3⟩ := J_do h hD (dCode 3 0 0) ho
  have eA : dApply P S (dCode 3 0 0) = dStone S := by
    unfold dApply; rw [c1, if_neg (by decide), if_neg (by decide), if_neg (by decide), if_pos rfl]
  have eN : dAns P S (dCode 3 0 0) = S 0 2 + 1 := by
    unfold dAns; rw [c1, if_neg (by decide), if_neg (by decide), if_neg (by decide), if_pos rfl]
  rw [eA] at a2
  exact ⟨a1.trans eN, ⟨_, fun j hj => cAt_l _ _ _ hj, a2⟩, a3⟩
theorem q_year (h : J P Z K S D C u) (hD : D < 40) (hp0 : 0 < nPl P) : (k_year u).1 = y_gave P S ∧ (∃ C', (∀ j, j < D → C' j = C j) ∧ J P Z K (dYear P S) (D + 1) C' (k_year u).2) ∧ RS u (k_year u).2 := by
  obtain ⟨⟨μ, hr⟩, hP, hS, -⟩ := id h
  have e : k_year u = k_do u (dCode 4 0 0) := by
    unfold k_year
    rw [if_neg (u_ne h hp0)]
  have ho := OK_ag (op_year hr)
  rw [e] at ho ⊢
  have c1 : dCode 4 0 0 / 100 = 4 := by decide
  obtain ⟨a1, a2, a3⟩ := J_do h hD (dCode 4 0 0) ho
  have eA : dApply P S (dCode 4 0 0) = dYear P S := by
    unfold dApply; rw [c1, if_neg (by decide), if_neg (by decide), if_neg (by decide), if_neg (by decide)]
  have eN : dAns P S (dCode 4 0 0) = y_gave P S := by
    unfold dAns; rw [c1, if_neg (by decide), if_neg (by decide), if_neg (by decide), if_neg (by decide)]
  rw [eA] at a2
  exact ⟨a1.trans eN, ⟨_, fun j hj => cAt_l _ _ _ hj, a2⟩, a3⟩
theorem nI_sub' {a b : Nat} (h : b ≤ a) (ha : a < 2 ^ 31) : nI a - nI b = nI (a - b) := by
  have e : nI a = nI (a - b) + nI b := by rw [nI_add]; congr 1; omega
  rw [e, Int32.add_sub_cancel]
theorem q_undo (h : J P Z K S D C u) {n : Nat} (hn : n ≤ D) : (k_undo u (nI n)).1 = nI (D - n) ∧ J P Z K (rplP P C n) n C (k_undo u (nI n)).2 ∧ RS u (k_undo u (nI n)).2 := by
  obtain ⟨⟨μ, hr⟩, hP, hS, ⟨hD1, hD2⟩, hC, hK, hZ⟩ := id h
  obtain ⟨b4, b5⟩ := RlP_45 hr.1
  rw [hP] at b4 b5
  have ho := OK_ag (op_undo hr (nI n))
  have k0 : (0 : Int32).toInt = 0 := by decide
  have hi : (nI n).toInt = (n : Int) := nI_toInt (by omega)
  have hi2 : (nI D).toInt = (D : Int) := nI_toInt (by omega)
  have e : k_undo u (nI n) = (nI (D - n), rpl (mU u 25 0 (nI n)) 26 n) := by
    unfold k_undo
    rw [hD1, if_neg (nlt_i (by omega)), if_neg (nlt_i (by omega)), nI_sub' hn (by omega)]
    unfold m_replay
    rw [mU_e, if_pos rfl, if_pos rfl, ix_of (by omega), show min n 40 = n by omega, rpl_26]
  rw [e] at ho ⊢
  have hv : vP (mU u 25 0 (nI n)) 33 = P := (vP_mU _ _ _ (by decide)).trans hP
  have fr : ∀ q, q ≠ 25 → q ≠ 45 → q ≠ 46 → q ≠ 47 → rpl (mU u 25 0 (nI n)) 26 n q = u q := fun q q1 q2 q3 q4 => by
    rw [rpl_n _ _ q2 q3 q4, mU_n _ _ _ q1]
  refine ⟨rfl, ⟨ho, (vP_rpl _ _ _).trans hv, ?_, ⟨?_, by omega⟩, fun j hj => ?_, fun k hk => ?_, ?_⟩, fun q h1 h2 => fr q (by omega) (by omega) (by omega) (by omega)⟩
  · have w := rpl_p hv b4 b5 26 n
    rw [rplP_c (C' := C) n (fun j hj => by rw [mU_n _ _ _ (by decide)]; exact hC j (by omega))] at w
    exact w
  · show rpl (mU u 25 0 (nI n)) 26 n 25 0 = _
    rw [rpl_n _ _ (by decide) (by decide) (by decide), mU_e, if_pos rfl, if_pos rfl]
  · show rpl (mU u 25 0 (nI n)) 26 n 26 j = _
    rw [fr 26 (by decide) (by decide) (by decide) (by decide)]; exact hC j (by omega)
  · show rpl (mU u 25 0 (nI n)) 26 n (27 + 2 * k) 0 = _ ∧ ∀ j : Nat, _ → rpl (mU u 25 0 (nI n)) 26 n (28 + 2 * k) j = _
    rw [fr _ (by omega) (by omega) (by omega) (by omega), fr _ (by omega) (by omega) (by omega) (by omega)]
    exact hK k hk
  · exact (fr 72 (by decide) (by decide) (by decide) (by decide)).trans hZ
/-- undone, it is as it was -/
theorem q_undo_s {T : PT} {D1 : Nat} {C1 : Nat → Int32} {v : Mem} (h0 : J P Z K S D C u) (h : J P Z K T D1 C1 v) (hn : D ≤ D1) (hc : ∀ j, j < D → C1 j = C j) : (k_undo v (nI D)).1 = nI (D1 - D) ∧ J P Z K S D C (k_undo v (nI D)).2 ∧ RS v (k_undo v (nI D)).2 := by
  obtain ⟨a, b, c⟩ := q_undo h hn
  rw [rplP_c D hc] at b
  exact ⟨a, J_s b (J_rp h0) hc, c⟩
def kAt (K : KT) (k : Nat) (D : Nat) (C : Nat → Int32) : KT := (fun q => if q = k then nI D else K.1 q, fun q => if q = k then C else K.2 q)
theorem q_keep (h : J P Z K S D C u) (hp0 : 0 < nPl P) {k : Nat} (hk : k < 3) : (k_keep u (nI k)).1 = nI D ∧ J P Z (kAt K k D C) S D C (k_keep u (nI k)).2 ∧ RS u (k_keep u (nI k)).2 := by
  obtain ⟨⟨μ, hr⟩, hP, hS, ⟨hD1, hD2⟩, hC, hK, hZ⟩ := id h
  have ho := OK_ag (op_keep hr (nI k))
  have hin : a_in (nI k) 3 = true := by
    rcases (show k = 0 ∨ k = 1 ∨ k = 2 by omega) with rfl | rfl | rfl <;> decide
  have e : k_keep u (nI k) = (m_takeD u (27 + 2 * k) 25 25 0, m_takeD u (27 + 2 * k) 25) := by
    unfold k_keep
    rw [if_pos hin, if_neg (u_ne h hp0), ix_of (by omega)]
  rw [e] at ho ⊢
  have fr : ∀ q, q ≠ 27 + 2 * k → q ≠ 27 + 2 * k + 1 → m_takeD u (27 + 2 * k) 25 q = u q := fun q q1 q2 => m_takeD_n _ _ _ q1 q2
  have eD : ix (nI D) = D := ix_of (by omega)
  refine ⟨?_, ⟨ho, ?_, ?_, ?_, fun j hj => ?_, fun k' hk' => ?_, ?_⟩, fun q h1 h2 => fr q (by omega) (by omega)⟩
  · show m_takeD u (27 + 2 * k) 25 25 0 = _
    rw [fr 25 (by omega) (by omega)]; exact hD1
  · exact (vP_eq fun q hq => fr _ (by omega) (by omega)).trans hP
  · rw [vS_of (σ := u) (τ := m_takeD u (27 + 2 * k) 25) (fun q h1 h2 => fr q (by omega) (by omega))]; exact hS
  · show m_takeD u (27 + 2 * k) 25 25 0 = _ ∧ _
    rw [fr 25 (by omega) (by omega)]; exact ⟨hD1, hD2⟩
  · show m_takeD u (27 + 2 * k) 25 26 j = _
    rw [fr 26 (by omega) (by omega)]; exact hC j hj
  · by_cases c : k' = k
    · subst c
      show m_takeD u (27 + 2 * k') 25 (27 + 2 * k') 0 = (if k' = k' then nI D else K.1 k') ∧ ∀ j : Nat, (j : Int) < (if k' = k' then nI D else K.1 k').toInt → m_takeD u (27 + 2 * k') 25 (28 + 2 * k') j = (if k' = k' then C else K.2 k') j
      rw [if_pos rfl, if_pos rfl]
      have e1 : 28 + 2 * k' = 27 + 2 * k' + 1 := by omega
      refine ⟨?_, fun j hj => ?_⟩
      · unfold m_takeD
        rw [mF_n _ _ _ (by omega), mU_e, if_pos rfl, if_pos rfl]; exact hD1
      · rw [nI_toInt (by omega)] at hj
        unfold m_takeD
        rw [e1, mF_e, if_pos rfl, hD1, eD, if_pos (by omega)]
        exact hC j (by omega)
    · show m_takeD u (27 + 2 * k) 25 (27 + 2 * k') 0 = (if k' = k then nI D else K.1 k') ∧ ∀ j : Nat, (j : Int) < (if k' = k then nI D else K.1 k').toInt → m_takeD u (27 + 2 * k) 25 (28 + 2 * k') j = (if k' = k then C else K.2 k') j
      rw [if_neg c, if_neg c, fr _ (by omega) (by omega), fr _ (by omega) (by omega)]
      exact hK k' hk'
  · show m_takeD u (27 + 2 * k) 25 72 = _
    rw [fr 72 (by omega) (by omega)]; exact hZ
theorem q_on (h : J P Z K S D C u) {k n : Nat} (hk : k < 3) (hn : n ≤ 40) (e1 : K.1 k = nI n) : (k_on u (nI k)).1 = nI n ∧ J P Z K (rplP P (K.2 k) n) n (K.2 k) (k_on u (nI k)).2 ∧ RS u (k_on u (nI k)).2 := by
  obtain ⟨⟨μ, hr⟩, hP, hS, ⟨hD1, hD2⟩, hC, hK, hZ⟩ := id h
  obtain ⟨b4, b5⟩ := RlP_45 hr.1
  rw [hP] at b4 b5
  have ho := OK_ag (op_on hr (nI k))
  have hin : a_in (nI k) 3 = true := by
    rcases (show k = 0 ∨ k = 1 ∨ k = 2 by omega) with rfl | rfl | rfl <;> decide
  obtain ⟨k1, k2⟩ := hK k hk
  rw [e1] at k1 k2
  have en : ix (nI n) = n := ix_of (by omega)
  have ti : (nI n).toInt = (n : Int) := nI_toInt (by omega)
  have t25 : m_takeD u 25 (27 + 2 * k) 25 0 = nI n := by
    unfold m_takeD
    rw [mF_n _ _ _ (by decide), mU_e, if_pos rfl, if_pos rfl]; exact k1
  have t26 : ∀ j, j < n → m_takeD u 25 (27 + 2 * k) 26 j = K.2 k j := fun j hj => by
    unfold m_takeD
    rw [mF_e, if_pos rfl, k1, en, if_pos (by omega), show 27 + 2 * k + 1 = 28 + 2 * k by omega]
    exact k2 j (by omega)
  have e : k_on u (nI k) = (rpl (m_takeD u 25 (27 + 2 * k)) 26 n 25 0, rpl (m_takeD u 25 (27 + 2 * k)) 26 n) := by
    unfold k_on
    rw [if_pos hin, ix_of (by omega), k1, if_neg (fun q => by have := i_eq q; rw [ti, show (-1 : Int32).toInt = -1 by decide] at this; omega)]
    unfold m_replay
    rw [t25, en, show min n 40 = n by omega, rpl_26]
  rw [e] at ho ⊢
  have hv : vP (m_takeD u 25 (27 + 2 * k)) 33 = P := (vP_eq fun q hq => m_takeD_n _ _ _ (by omega) (by omega)).trans hP
  have fr : ∀ q, q ≠ 25 → q ≠ 26 → q ≠ 45 → q ≠ 46 → q ≠ 47 → rpl (m_takeD u 25 (27 + 2 * k)) 26 n q = u q := fun q q0 q1 q2 q3 q4 => by
    rw [rpl_n _ _ q2 q3 q4, m_takeD_n _ _ _ q0 q1]
  have z25 : rpl (m_takeD u 25 (27 + 2 * k)) 26 n 25 0 = nI n := by rw [rpl_n _ _ (by decide) (by decide) (by decide)]; exact t25
  refine ⟨z25, ⟨ho, (vP_rpl _ _ _).trans hv, ?_, ⟨z25, hn⟩, fun j hj => ?_, fun k' hk' => ?_, ?_⟩, fun q h1 h2 => fr q (by omega) (by omega) (by omega) (by omega) (by omega)⟩
  · have w := rpl_p hv b4 b5 26 n
    rw [rplP_c (C' := K.2 k) n t26] at w
    exact w
  · show rpl (m_takeD u 25 (27 + 2 * k)) 26 n 26 j = _
    rw [rpl_n _ _ (by decide) (by decide) (by decide)]; exact t26 j hj
  · show rpl (m_takeD u 25 (27 + 2 * k)) 26 n (27 + 2 * k') 0 = _ ∧ ∀ j : Nat, _ → rpl (m_takeD u 25 (27 + 2 * k)) 26 n (28 + 2 * k') j = _
    rw [fr _ (by omega) (by omega) (by omega) (by omega) (by omega), fr _ (by omega) (by omega) (by omega) (by omega) (by omega)]
    exact hK k' hk'
  · exact (fr 72 (by decide) (by decide) (by decide) (by decide) (by decide)).trans hZ
/-- lots -/
def byLot (P S : PT) (lot : Int32) : Int32 := if lot - lot / 3 * 3 = 0 then dCode 4 0 0 else if P 0 1 < 1 then dCode 4 0 0 else if P 0 0 < 1 then dCode 4 0 0 else
  if a_isSeated P S (lot / 8 - lot / 8 / P 0 1 * P 0 1) = true then dCode 1 (lot / 8 - lot / 8 / P 0 1 * P 0 1) 0
  else if a_isUp P S (lot / 64 - lot / 64 / P 0 0 * P 0 0) = true then dCode 0 (lot / 8 - lot / 8 / P 0 1 * P 0 1) (lot / 64 - lot / 64 / P 0 0 * P 0 0) else dCode 3 0 0
theorem byLot_e (h : Jx P Z K S D C u) (lot : Int32) : a_byLot u lot = byLot P S lot := by
  obtain ⟨hP, hS, -⟩ := h
  have e0 : u 33 0 = P 0 0 := by rw [← hP]; rfl
  have e1 : u 33 1 = P 0 1 := by rw [← hP]; rfl
  unfold a_byLot byLot
  rw [e0, e1, hP, pe_isSeated PEq.rfl' hS, pe_isUp PEq.rfl' hS]
def lotsP (P S : PT) (x : Int64) : Nat → PT
  | 0 => S
  | n + 1 => dApply P (lotsP P S x n) (byLot P (lotsP P S x n) (lotN x (n + 1)).toInt32)
theorem Jx_lots (h : Jx P Z K S D C u) (x : Int64) : ∀ n, D + n ≤ 40 → ∃ C', (∀ j, j < D → C' j = C j) ∧ Jx P Z K (lotsP P S x n) (D + n) C' (m_lots u x n)
  | 0, _ => ⟨C, fun _ _ => rfl, h⟩
  | n + 1, hn => by
    obtain ⟨C', c1, c2⟩ := Jx_lots h x n (by omega)
    obtain ⟨-, a2, -⟩ := Jx_do c2 (by omega) (byLot P (lotsP P S x n) (lotN x (n + 1)).toInt32)
    rw [m_lots, byLot_e c2, lotsP]
    exact ⟨_, fun j hj => (cAt_l _ _ _ (by omega)).trans (c1 j hj), a2⟩
theorem q_lots (h : J P Z K S D C u) (hp0 : 0 < nPl P) {n : Nat} (h1 : 1 ≤ n) (h20 : n ≤ 20) (hn : D + n ≤ 40) {seed : Int32} (hs : 1 ≤ seed.toInt ∧ seed.toInt ≤ 2147483646) : (k_lots u (nI n) seed).1 = a_highAll P (lotsP P S seed.toInt64 n) ∧ ∃ C', (∀ j, j < D → C' j = C j) ∧ J P Z K (lotsP P S seed.toInt64 n) (D + n) C' (k_lots u (nI n) seed).2 := by
  obtain ⟨⟨μ, hr⟩, hP, hS, ⟨hD1, hD2⟩, hC, hK, hZ⟩ := id h
  have ho := OK_ag (op_lots hr (nI n) seed)
  have k1 : (1 : Int32).toInt = 1 := by decide
  have k20 : (20 : Int32).toInt = 20 := by decide
  have k40 : (40 : Int32).toInt = 40 := by decide
  have kM : (2147483646 : Int32).toInt = 2147483646 := by decide
  have ti : (nI n).toInt = (n : Int) := nI_toInt (by omega)
  have td : (nI (D + n)).toInt = ((D + n : Nat) : Int) := nI_toInt (by omega)
  have e : k_lots u (nI n) seed = (a_highAll P (vS (m_lots u seed.toInt64 n) 45), m_lots u seed.toInt64 n) := by
    unfold k_lots
    rw [if_neg (nlt_i (by omega)), if_neg (nlt_i (by omega)), if_neg (nlt_i (by omega)), if_neg (nlt_i (by omega)), if_neg (u_ne h hp0), hD1, nI_add, if_neg (nlt_i (by omega)), ix_of (by omega), hP]
  rw [e] at ho ⊢
  obtain ⟨C', c1, c2⟩ := Jx_lots h.2 seed.toInt64 n hn
  exact ⟨pe_highAll PEq.rfl' c2.2.1, C', c1, ho, c2⟩
end DE
