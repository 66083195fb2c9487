/-! level 3: chances, turns -/
section CH
variable {P : PT} {Z : Nat → Int32} {K : KT} {S : PT} {D : Nat} {C : Nat → Int32} {u : Mem}
def twU (t : Int32) : Int32 := t / nI (tw t 12)
def twL (t : Int32) : Int32 := 12 / nI (tw t 12)
theorem J_tw (h : J P Z K S D C u) (t : Int32) (ho : OKm (m_tw u t)) : m_tw u t 0 2 = twU t ∧ m_tw u t 0 3 = twL t ∧ J P Z K S D C (m_tw u t) ∧ RS u (m_tw u t) := by
  have fr : ∀ q, q ≠ 0 → m_tw u t q = u q := fun q hq => by unfold m_tw; rw [mU_n _ _ _ hq, mU_n _ _ _ hq]
  refine ⟨?_, ?_, J_n h ho fun q hq => fr q (by omega), fun q h1 h2 => fr q (by omega)⟩
  · unfold m_tw twU; simp [mU_e]
  · unfold m_tw twL; simp [mU_e]
theorem q_odds (h : J P Z K S D C u) {i p : Nat} (hi : i < nPe P) (hp : p ≤ 12) : (k_odds u (nI i) (nI p)).1 = 1 ∧ (k_odds u (nI i) (nI p)).2 0 2 = twU (if a_stands P S (S 2 i) = true then 12 - nI p else 0) ∧ (k_odds u (nI i) (nI p)).2 0 3 = twL (if a_stands P S (S 2 i) = true then 12 - nI p else 0) ∧ J P Z K S D C (k_odds u (nI i) (nI p)).2 ∧ RS u (k_odds u (nI i) (nI p)).2 := by
  obtain ⟨⟨μ, hr⟩, hP, hS, -⟩ := id h
  have hb := (J_plan h).1
  have ho := OK_ag (op_odds hr (nI i) (nI p))
  have k0 : (0 : Int32).toInt = 0 := by decide
  have k12 : (12 : Int32).toInt = 12 := by decide
  have ti : (nI p).toInt = (p : Int) := nI_toInt (by omega)
  have e47 : u 47 i = S 2 i := hS.2.2.2.2 i hi
  have e : k_odds u (nI i) (nI p) = (1, m_tw u (if a_stands P S (S 2 i) = true then 12 - nI p else 0)) := by
    unfold k_odds
    rw [hP, if_pos (one_nI hb hi), if_neg (nlt_i (by omega)), if_neg (nlt_i (by omega)), ixe hb hi, e47, pe_stands PEq.rfl' hS]
  rw [e] at ho ⊢
  exact ⟨rfl, J_tw h _ ho⟩
theorem q_mid (h : J P Z K S D C u) (hp0 : 0 < nPl P) {p : Nat} (hp : p ≤ 12) : (k_mid u (nI p)).1 = 1 ∧ (k_mid u (nI p)).2 0 2 = twU (a_highStanding P S * (12 - nI p)) ∧ (k_mid u (nI p)).2 0 3 = twL (a_highStanding P S * (12 - nI p)) ∧ J P Z K S D C (k_mid u (nI p)).2 ∧ RS u (k_mid u (nI p)).2 := by
  obtain ⟨⟨μ, hr⟩, hP, hS, -⟩ := id h
  have ho := OK_ag (op_mid hr (nI p))
  have k0 : (0 : Int32).toInt = 0 := by decide
  have k12 : (12 : Int32).toInt = 12 := by decide
  have ti : (nI p).toInt = (p : Int) := nI_toInt (by omega)
  have e : k_mid u (nI p) = (1, m_tw u (a_highStanding P S * (12 - nI p))) := by
    unfold k_mid
    rw [if_neg (nlt_i (by omega)), if_neg (nlt_i (by omega)), if_neg (u_ne h hp0), hP, pe_highStanding PEq.rfl' hS]
  rw [e] at ho ⊢
  exact ⟨rfl, J_tw h _ ho⟩
/-- twelfths -/
theorem tw_all : ∀ q : Fin 13, twU (12 - nI q.1) * 1 = twU (12 - nI q.1) ∧ (twU (12 - nI q.1)).toInt64 * 12 = (12 - (nI q.1).toInt64) * (twL (12 - nI q.1)).toInt64 := by decide +kernel
theorem tw_12 : (twU (12 - nI 0)).toInt64 = 1 ∧ (twL (12 - nI 0)).toInt64 = 1 ∧ (twU (12 - nI 12)).toInt64 = 0 ∧ (twU 0).toInt64 = 0 ∧ (twL 0).toInt64 = 1 ∧ (twU 0).toInt64 * 12 = 0 * (twL 0).toInt64 := by decide +kernel
theorem tw_mid : ∀ q : Fin 46, (twU (nI q.1 * (12 - nI 0))).toInt64 = (nI q.1).toInt64 ∧ (twL (nI q.1 * (12 - nI 0))).toInt64 = 1 ∧ (twU (nI q.1 * (12 - nI 12))).toInt64 = 0 := by decide +kernel
def stI (P S : PT) (i : Nat) : Int32 := b2i (a_stands P S (S 2 i))
theorem odds_0 (P S : PT) (i : Nat) : (twU (if a_stands P S (S 2 i) = true then 12 - nI 0 else 0)).toInt64 = (if stI P S i = 0 then (0 : Int64) else 1) ∧ (twL (if a_stands P S (S 2 i) = true then 12 - nI 0 else 0)).toInt64 = 1 := by
  unfold stI
  cases a_stands P S (S 2 i) with
  | true => exact ⟨tw_12.1, tw_12.2.1⟩
  | false => exact ⟨tw_12.2.2.2.1, tw_12.2.2.2.2.1⟩
theorem odds_12 (P S : PT) (i : Nat) : (twU (if a_stands P S (S 2 i) = true then 12 - nI 12 else 0)).toInt64 = 0 := by
  cases a_stands P S (S 2 i) with
  | true => exact tw_12.2.2.1
  | false => exact tw_12.2.2.2.1
theorem odds_p (P S : PT) (i : Nat) {p : Nat} (hp : p < 13) : (twU (if a_stands P S (S 2 i) = true then 12 - nI p else 0)).toInt64 * 12 = (if stI P S i = 0 then (0 : Int64) else 12 - (nI p).toInt64) * (twL (if a_stands P S (S 2 i) = true then 12 - nI p else 0)).toInt64 := by
  unfold stI
  cases a_stands P S (S 2 i) with
  | true => exact (tw_all ⟨p, hp⟩).2
  | false => exact tw_12.2.2.2.2.2
theorem stands_9 (P S : PT) : a_stands P S (-9) = false := by
  unfold a_stands a_isUp
  rw [isPole_9]; rfl
/-- who stays -/
theorem stays_e (g : GS P S) {i : Nat} (hi : i < nPe P) : stI P S i = if S 2 i < 0 then 0 else if (a_standing P S >>> (S 2 i &&& 31)) &&& 1 = 1 then 1 else 0 := by
  have h4 := (PB_pl g.1).2.1
  unfold stI
  rcases seat_k g hi with q | ⟨k, hk, q, -⟩
  · rw [q, stands_9, if_pos (by decide)]; rfl
  · rw [q, if_neg (nI_pos (by omega)), has_b]
    have hs : b_has (a_standing P S) (nI k) = a_stands P S (nI k) := bits_has _ (by omega) hk
    rw [hs]
    cases a_stands P S (nI k) <;> rfl
def hiSt (P S : PT) (n : Nat) : Int32 := a_sum (fun i => if a_stands P S (S 2 i) = true then a_high P (nI i) (S 2 i) else 0) n
theorem hiSt_s (g : GS P S) {i : Nat} (hi : i < nPe P) : hiSt P S (i + 1) = hiSt P S i + (if stI P S i = 0 then 0 else a_ofOne P S (nI i) 3) := by
  show hiSt P S i + (if a_stands P S (S 2 i) = true then a_high P (nI i) (S 2 i) else 0) = _
  rw [one_3 g.1 hi]
  unfold stI
  cases a_stands P S (S 2 i) <;> rfl
theorem hiSt_all (P S : PT) : hiSt P S (nPe P) = a_highStanding P S := rfl
theorem worth_N (g : GS P S) : ∃ w, w < 46 ∧ a_highStanding P S = nI w := by
  have q := worth_i g.1 g.2.1 (S := S) g.2.2.2.1
  rw [← worth_e (P := P) (S := S) g.2.2.2.1] at q
  have e := ix_toInt q.1
  exact ⟨ix (a_highStanding P S), by omega, ix_nI q.1⟩
theorem mid_0 (g : GS P S) : (twU (a_highStanding P S * (12 - nI 0))).toInt64 = (a_highStanding P S).toInt64 ∧ (twL (a_highStanding P S * (12 - nI 0))).toInt64 = 1 ∧ (twU (a_highStanding P S * (12 - nI 12))).toInt64 = 0 := by
  obtain ⟨w, hw, e⟩ := worth_N g
  rw [e]
  exact tw_mid ⟨w, hw⟩
/-- turns -/
theorem q_duel (h : J P Z K S D C u) (hp0 : 0 < nPl P) {n : Nat} (hn : n ≤ 4) : (k_duel u (nI n)).1 = dV P S n true (S 2) ∧ J P Z K S D C (k_duel u (nI n)).2 ∧ RS u (k_duel u (nI n)).2 := by
  obtain ⟨⟨μ, hr⟩, hP, hS, -⟩ := id h
  have g := J_gs h
  have g0 : GS P (vS u 45) := by
    have hj : J P Z K (vS u 45) D C u := by
      obtain ⟨h1, h2, h3, h4⟩ := id h
      exact ⟨h1, h2, SEq.rfl', h4⟩
    exact J_gs hj
  obtain ⟨F, res, -, hag⟩ := op_duel hr (nI n)
  have ho := OK_ag hag
  have k0 : (0 : Int32).toInt = 0 := by decide
  have k4 : (4 : Int32).toInt = 4 := by decide
  have ti : (nI n).toInt = (n : Int) := nI_toInt (by omega)
  have e : k_duel u (nI n) = (g_val P n true (m_gBegin P (vS u 45) u) (-1) 1000, m_gBegin P (vS u 45) u) := by
    unfold k_duel
    rw [if_neg (nlt_i (by omega)), if_neg (nlt_i (by omega)), if_neg (u_ne h hp0), ix_of (by omega), hP]
  rw [e] at ho ⊢
  have hg := g_ab g.1 g.2.1 n true (m_gBegin P (vS u 45) u) (vS u 45 2) (-1) 1000 (begin_G g.1 u g0.2.2.2.1) (by decide)
  have hv := dV_i (S := vS u 45) g.1 g.2.1 n true (vS u 45 2) g0.2.2.2.1
  have ev : dV P (vS u 45) n true (vS u 45 2) = dV P S n true (S 2) := by
    rw [dV_c PEq.rfl' hS]
    exact dV_t (fun i hi => hS.2.2.2.2 i hi) hp0 _ _
  refine ⟨?_, J_n h ho fun q hq => m_gBegin_n _ _ _ (by omega), fun q h1 h2 => m_gBegin_n _ _ _ (by omega)⟩
  show g_val P n true (m_gBegin P (vS u 45) u) (-1) 1000 = _
  rw [← ev]
  apply i_eqI
  obtain ⟨g1, g2, g3⟩ := hg
  rw [show (-1 : Int32).toInt = -1 by decide] at g1 g3
  rw [show (1000 : Int32).toInt = 1000 by decide] at g2 g3
  generalize (g_val P n true (m_gBegin P (vS u 45) u) (-1) 1000).toInt = a at g1 g2 g3 ⊢
  generalize (dV P (vS u 45) n true (vS u 45 2)).toInt = v at g1 g2 g3 hv ⊢
  by_cases q1 : a ≤ -1
  · have := g1 q1; omega
  · by_cases q2 : 1000 ≤ a
    · have := g2 q2; omega
    · exact g3 (by omega) (by omega)
theorem duel_0 (g : GS P S) (b : Bool) : dV P S 0 b (S 2) = a_highStanding P S := by
  have e : SEq P (Ts S (S 2)) S := ⟨rfl, rfl, rfl, fun _ _ => rfl, fun _ _ => rfl⟩
  rw [dV, pe_worth PEq.rfl' e, worth_e (P := P) (S := S) g.2.2.2.1]
theorem duel_1 (g : GS P S) : ¬ dV P S 1 true (S 2) < a_highStanding P S := by
  refine nlt_i ?_
  rw [dV_s, dC_1 (dV_i g.1 g.2.1 0 _ (S 2) g.2.2.2.1), run_forR, duel_0 g]
  refine forR_mono (v := fun x : Int32 => x.toInt) (fun r x => ?_) _ _
  show x.toInt ≤ (dM P S 0 true (S 2) (0 + r) x).toInt
  unfold dM dC
  split
  · rw [if_pos rfl, imax_i]; split <;> omega
  · exact Int.le_refl _
/-- the second school's turn brings nobody higher -/
theorem down_le (g : GS P S) {s : Nat → Int32} (ho : okS P S s (nPe P)) (b : Bool) : (dV P S 1 false s).toInt ≤ (dV P S 0 b s).toInt := by
  rw [dV_s, dC_1 (dV_i g.1 g.2.1 0 _ s ho), run_forR]
  have e : dV P S 0 b s = dV P S 0 (!false) s := rfl
  rw [e]
  have m := forR_mono (f := fun k y => dM P S 0 false s (0 + k) y) (v := fun x : Int32 => -x.toInt) (fun r x => by
    show -x.toInt ≤ -(dM P S 0 false s (0 + r) x).toInt
    unfold dM dC
    split
    · rw [if_neg (show ¬ (false = true) by decide), imin_i]; split <;> omega
    · exact Int.le_refl _) (dK' P false) (dV P S 0 (!false) s)
  have m' : -(dV P S 0 (!false) s).toInt ≤ -(forR (fun k y => dM P S 0 false s (0 + k) y) (dK' P false) (dV P S 0 (!false) s)).toInt := m
  omega
theorem duel_2 (g : GS P S) : ¬ dV P S 1 true (S 2) < dV P S 2 true (S 2) := by
  refine nlt_i ?_
  have e1 : dV P S 1 true (S 2) = run (dM P S 0 true (S 2)) 0 (dK' P true) (dC true (dE true) (dV P S 0 (!true) (S 2))) := dV_s P S 0 true (S 2)
  have e2 : dV P S 2 true (S 2) = run (dM P S 1 true (S 2)) 0 (dK' P true) (dC true (dE true) (dV P S 1 (!true) (S 2))) := dV_s P S 1 true (S 2)
  rw [e1, e2, dC_1 (dV_i g.1 g.2.1 0 _ (S 2) g.2.2.2.1), dC_1 (dV_i g.1 g.2.1 1 _ (S 2) g.2.2.2.1), run_forR, run_forR]
  refine forR_2 (fun x y : Int32 => x.toInt ≤ y.toInt) _ _ _ (down_le g g.2.2.2.1 _) fun k hk x y hxy => ?_
  show (dM P S 1 true (S 2) (0 + k) x).toInt ≤ (dM P S 0 true (S 2) (0 + k) y).toInt
  unfold dM
  by_cases c : dPo P S true (S 2) (0 + k) = true
  · rw [if_pos c, if_pos c]
    have w := down_le g (dS_ok (s := S 2) g.2.2.2.1 c) (!true)
    have w2 : (dV P S 1 (!true) (dS P true (S 2) (0 + k))).toInt ≤ (dV P S 0 (!true) (dS P true (S 2) (0 + k))).toInt := w
    unfold dC
    rw [if_pos rfl, if_pos rfl, imax_i, imax_i]
    split <;> split <;> omega
  · rw [if_neg c, if_neg c]; exact hxy
end CH
