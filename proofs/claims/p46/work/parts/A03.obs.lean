/-! level 3: calls that look, and what they answer -/
section OB
variable {P : PT} {Z : Nat → Int32} {K : KT} {S : PT} {D : Nat} {C : Nat → Int32} {u : Mem}
theorem J_tell (h : J P Z K S D C u) (v : Int32) : J P Z K S D C (mU u 0 1 v) ∧ RS u (mU u 0 1 v) := by
  obtain ⟨⟨μ, hr⟩, -⟩ := id h
  exact ⟨J_n h ⟨_, Rl_tell hr rfl⟩ (fun q hq => mU_n _ _ _ (by omega)), fun q h1 h2 => mU_n _ _ _ (by omega)⟩
theorem told_e (u : Mem) (v : Int32) : mU u 0 1 v 0 1 = v := by rw [mU_e, if_pos rfl, if_pos rfl]
theorem q_one (h : J P Z K S D C u) {i w : Int32} (hi : a_isOne P i = true) (hw : 0 ≤ w.toInt ∧ w.toInt < 4) : (k_one u i w).1 = 1 ∧ (k_one u i w).2 0 1 = a_ofOne P S i w ∧ J P Z K S D C (k_one u i w).2 ∧ RS u (k_one u i w).2 := by
  obtain ⟨-, hP, hS, -⟩ := id h
  have e : k_one u i w = (1, mU u 0 1 (a_ofOne P (vS u 45) i w)) := by
    unfold k_one
    rw [hP, if_pos hi, if_neg (nlt_i (by rw [show (0 : Int32).toInt = 0 by decide]; exact hw.1)), if_pos (i_ltI (by rw [show (4 : Int32).toInt = 4 by decide]; exact hw.2))]
  rw [e]
  exact ⟨rfl, (told_e u (a_ofOne P (vS u 45) i w)).trans (pe_ofOne (PEq.rfl' (P := P)) hS i w), J_tell h _⟩
theorem q_pole (h : J P Z K S D C u) {k w : Int32} (hk : a_isPole P k = true) (hw : 0 ≤ w.toInt ∧ w.toInt < 8) : (k_pole u k w).1 = 1 ∧ (k_pole u k w).2 0 1 = a_ofPole P S k w ∧ J P Z K S D C (k_pole u k w).2 ∧ RS u (k_pole u k w).2 := by
  obtain ⟨-, hP, hS, -⟩ := id h
  have e : k_pole u k w = (1, mU u 0 1 (a_ofPole P (vS u 45) k w)) := by
    unfold k_pole
    rw [hP, if_pos hk, if_neg (nlt_i (by rw [show (0 : Int32).toInt = 0 by decide]; exact hw.1)), if_pos (i_ltI (by rw [show (8 : Int32).toInt = 8 by decide]; exact hw.2))]
  rw [e]
  exact ⟨rfl, (told_e u (a_ofPole P (vS u 45) k w)).trans (pe_ofPole (PEq.rfl' (P := P)) hS k w), J_tell h _⟩
theorem q_c0 (h : J P Z K S D C u) : k_count u 0 = P 0 0 := by
  obtain ⟨-, hP, -⟩ := id h
  unfold k_count a_tally
  rw [if_neg (by decide), if_neg (by decide), if_pos rfl, ← hP]; rfl
theorem q_c1 (h : J P Z K S D C u) : k_count u 1 = P 0 1 := by
  obtain ⟨-, hP, -⟩ := id h
  unfold k_count a_tally
  rw [if_neg (by decide), if_neg (by decide), if_neg (by decide), if_pos rfl, ← hP]; rfl
theorem q_c2 (h : J P Z K S D C u) : k_count u 2 = nI D := by
  obtain ⟨-, -, -, hD, -⟩ := id h
  unfold k_count a_tally
  rw [if_neg (by decide), if_neg (by decide), if_neg (by decide), if_neg (by decide), if_pos rfl]; exact hD.1
theorem q_c3 (h : J P Z K S D C u) : k_count u 3 = S 0 1 := by
  obtain ⟨-, -, hS, -⟩ := id h
  unfold k_count a_tally
  rw [if_neg (by decide), if_neg (by decide), if_neg (by decide), if_neg (by decide), if_neg (by decide), if_pos rfl]; exact hS.2.1
theorem q_c4 (h : J P Z K S D C u) : k_count u 4 = S 0 0 := by
  obtain ⟨-, -, hS, -⟩ := id h
  unfold k_count a_tally
  rw [if_neg (by decide), if_neg (by decide), if_neg (by decide), if_neg (by decide), if_neg (by decide), if_neg (by decide), if_pos rfl]; exact hS.1
theorem q_c5 (h : J P Z K S D C u) : k_count u 5 = a_seatedPeople P S := by
  obtain ⟨-, hP, hS, -⟩ := id h
  unfold k_count a_tally
  rw [if_neg (by decide), if_neg (by decide), if_neg (by decide), if_neg (by decide), if_neg (by decide), if_neg (by decide), if_neg (by decide), if_pos rfl, hP]; exact pe_seatedPeople PEq.rfl' hS
theorem q_c6 (h : J P Z K S D C u) : k_count u 6 = a_highAll P S := by
  obtain ⟨-, hP, hS, -⟩ := id h
  unfold k_count a_tally
  rw [if_neg (by decide), if_neg (by decide), if_neg (by decide), if_neg (by decide), if_neg (by decide), if_neg (by decide), if_neg (by decide), if_neg (by decide), if_pos rfl, hP]; exact pe_highAll PEq.rfl' hS
theorem q_c7 (h : J P Z K S D C u) : k_count u 7 = S 0 2 := by
  obtain ⟨-, -, hS, -⟩ := id h
  unfold k_count a_tally
  rw [if_neg (by decide), if_neg (by decide), if_neg (by decide), if_neg (by decide), if_neg (by decide), if_neg (by decide), if_neg (by decide), if_neg (by decide), if_neg (by decide), if_pos rfl]; exact hS.2.2.1
/-- how many are kept -/
theorem q_c10 (h : J P Z K S D C u) : k_count u 10 = a_sum (fun j => if K.1 j = -1 then 0 else 1) 3 := by
  obtain ⟨-, -, -, -, -, hK, -⟩ := id h
  unfold k_count a_tally
  rw [if_neg (by decide), if_neg (by decide), if_neg (by decide), if_neg (by decide), if_neg (by decide), if_neg (by decide), if_neg (by decide), if_neg (by decide), if_neg (by decide), if_neg (by decide), if_neg (by decide), if_neg (by decide), if_pos rfl]
  unfold a_manyKept
  exact a_sum_c _ fun j hj => by rw [(hK j hj).1]
theorem P_ne (hp0 : 0 < nPl P) (hb : PB P) : ¬ P 0 0 = 0 := fun e => by
  obtain ⟨e0, h4, ht⟩ := PB_pl hb
  rw [e, show (0 : Int32).toInt = 0 by decide] at ht
  omega
theorem u_ne (h : J P Z K S D C u) (hp0 : 0 < nPl P) : ¬ u 33 0 = 0 := fun e => P_ne hp0 (J_plan h).1 (by
  obtain ⟨-, hP, -⟩ := id h
  rw [← hP]; exact e)
theorem q_holds (h : J P Z K S D C u) (hp0 : 0 < nPl P) : (k_holds u).1 = a_standing P S ∧ (k_holds u).2 0 1 = a_excess P S ∧ J P Z K S D C (k_holds u).2 ∧ RS u (k_holds u).2 := by
  obtain ⟨-, hP, hS, -⟩ := id h
  have e : k_holds u = (a_standing P (vS u 45), mU u 0 1 (a_excess P (vS u 45))) := by
    unfold k_holds
    rw [if_neg (u_ne h hp0), hP]
  rw [e]
  exact ⟨pe_standing PEq.rfl' hS, (told_e u (a_excess P (vS u 45))).trans (pe_exc PEq.rfl' hS), J_tell h _⟩
/-- years, nobody doing anything -/
def yrs (P S : PT) : Nat → PT
  | 0 => S
  | n + 1 => dYear P (yrs P S n)
theorem yrs_c {S T : PT} (h : SEq P S T) : ∀ n, SEq P (yrs P S n) (yrs P T n)
  | 0 => h
  | n + 1 => SEq_dYear (yrs_c h n)
theorem years_p (hP : vP u 33 = P) (h4 : nPl P ≤ 4) (h5 : nPe P ≤ 5) : ∀ n, SEq P (vS (m_yearsN (m_takeS u) n) 48) (yrs P (vS u 45) n)
  | 0 => take_rel P h4 h5 u
  | n + 1 => by
    have ih := years_p hP h4 h5 n
    have hv : vP (m_yearsN (m_takeS u) n) 33 = P := (vP_years u n).trans hP
    obtain ⟨x0, x1, x2, x3, x4⟩ := vS_year (m_yearsN (m_takeS u) n) 48
    rw [hv] at x0 x3 x4
    have w := SEq_dYear ih
    exact ⟨x0.trans w.1, x1.trans w.2.1, x2.trans w.2.2.1, fun k hk => (x3 k hk).trans (w.2.2.2.1 k hk), fun i hi => (x4 i hi).trans (w.2.2.2.2 i hi)⟩
theorem q_later (h : J P Z K S D C u) (hp0 : 0 < nPl P) {n : Nat} (hn : n ≤ 40) : (k_later u (nI n)).1 = a_highAll P (yrs P S n) ∧ (k_later u (nI n)).2 0 1 = yrs P S n 0 0 ∧ J P Z K S D C (k_later u (nI n)).2 ∧ RS u (k_later u (nI n)).2 := by
  obtain ⟨⟨μ, hr⟩, hP, hS, -⟩ := id h
  obtain ⟨b4, b5⟩ := RlP_45 hr.1
  rw [hP] at b4 b5
  have ha := (op_later hr (nI n)).2
  have k0 : (0 : Int32).toInt = 0 := by decide
  have k40 : (40 : Int32).toInt = 40 := by decide
  have hi : (nI n).toInt = (n : Int) := nI_toInt (by omega)
  have e : k_later u (nI n) = (a_highAll P (vS (m_yearsN (m_takeS u) n) 48), mU (m_yearsN (m_takeS u) n) 0 1 (m_yearsN (m_takeS u) n 48 0)) := by
    unfold k_later
    rw [if_neg (nlt_i (by omega)), if_neg (nlt_i (by omega)), if_neg (u_ne h hp0), ix_of (by omega), hP]
  rw [e] at ha
  rw [e]
  have w := (years_p hP b4 b5 n).tr (yrs_c hS n)
  have fr : ∀ q, q < 48 ∨ 50 < q → m_yearsN (m_takeS u) n q = u q := fun q hq => by rw [m_yearsN_n _ (by omega), m_takeS_n _ (by omega) (by omega) (by omega)]
  refine ⟨pe_highAll PEq.rfl' w, (told_e (m_yearsN (m_takeS u) n) (m_yearsN (m_takeS u) n 48 0)).trans w.1, J_n h ⟨_, ha⟩ fun q hq => ?_, fun q h1 h2 => ?_⟩
  · exact (mU_n _ _ _ (by omega)).trans (fr q (by omega))
  · exact (mU_n _ _ _ (by omega)).trans (fr q (by omega))
theorem q_bears (h : J P Z K S D C u) {k w : Int32} (hk : a_isPole P k = true) (hw : 0 ≤ w.toInt ∧ w.toInt ≤ 20) : k_bears u k w = a_bears P k w := by
  obtain ⟨-, hP, -⟩ := id h
  unfold k_bears
  rw [hP, if_pos hk, if_neg (nlt_i (by rw [show (0 : Int32).toInt = 0 by decide]; exact hw.1)), if_neg (nlt_i (by rw [show (20 : Int32).toInt = 20 by decide]; exact hw.2))]
theorem gives_c {S T : PT} (h : SEq P S T) {k : Int32} (hk : a_isPole P k = true) : a_gives P S k = a_gives P T k := by
  unfold a_gives
  rw [pe_load PEq.rfl' h, h.2.2.2.1 _ (isPole_ix hk)]
theorem q_gives (h : J P Z K S D C u) {k : Int32} (hk : a_isPole P k = true) : k_gives u k = if a_isUp P S k = true then a_gives P S k else -9 := by
  obtain ⟨-, hP, hS, -⟩ := id h
  unfold k_gives
  rw [hP, if_pos hk, pe_isUp PEq.rfl' hS, gives_c hS hk]
end OB
