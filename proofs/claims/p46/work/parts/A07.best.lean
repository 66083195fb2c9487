/-! level 3: best, seated -/
theorem forR_mono {α : Type} {f : Nat → α → α} {v : α → Int} (m : ∀ r x, v x ≤ v (f r x)) : ∀ n x, v x ≤ v (forR f n x)
  | 0, _ => Int.le_refl _
  | n + 1, x => by rw [forR]; exact Int.le_trans (forR_mono m n x) (m n _)
theorem forR_ge {α : Type} {f : Nat → α → α} {v : α → Int} {w : Int} {r0 : Nat} (m : ∀ r x, v x ≤ v (f r x)) (h : ∀ x, w ≤ v (f r0 x)) : ∀ n x, r0 < n → w ≤ v (forR f n x)
  | 0, _, hn => absurd hn (Nat.not_lt_zero _)
  | n + 1, x, hn => by
    rw [forR]
    by_cases e : r0 = n
    · rw [← e]; exact h _
    · exact Int.le_trans (forR_ge m h n x (by omega)) (m n _)
theorem tree_inv {α : Type} {B : Nat} {dg : Nat → Int32} {leaf : (Nat → Int32) → α → α} (R : α → Prop) (hl : ∀ s x, R x → R (leaf s x)) : ∀ d i s x, R x → R (tree B dg leaf d i s x)
  | 0, _, s, x, h => hl s x h
  | d + 1, i, s, x, h => by
    rw [tree]
    exact forR_inv R B x h fun k _ y hy => tree_inv R hl d (i + 1) _ y hy
theorem tree_mono {α : Type} {B : Nat} {dg : Nat → Int32} {leaf : (Nat → Int32) → α → α} {v : α → Int} (m : ∀ s x, v x ≤ v (leaf s x)) : ∀ d i s x, v x ≤ v (tree B dg leaf d i s x)
  | 0, _, s, x => m s x
  | d + 1, i, s, x => by
    rw [tree]
    exact forR_mono (fun r y => tree_mono m d (i + 1) _ y) B x
/-- a leaf that is reached counts -/
theorem tree_ge {α : Type} {B : Nat} {dg : Nat → Int32} {leaf : (Nat → Int32) → α → α} {v : α → Int} {w : Int} {s' : Nat → Int32} {n : Nat} (m : ∀ s x, v x ≤ v (leaf s x)) (hw : ∀ s x, (∀ j, j < n → s j = s' j) → w ≤ v (leaf s x)) :
    ∀ d i s x, i + d = n → (∀ j, j < i → s j = s' j) → (∀ j, i ≤ j → j < n → ∃ r, r < B ∧ s' j = dg r) → w ≤ v (tree B dg leaf d i s x)
  | 0, i, s, x, e, h1, _ => by rw [tree]; exact hw s x fun j hj => h1 j (by omega)
  | d + 1, i, s, x, e, h1, h2 => by
    rw [tree]
    obtain ⟨r0, hr, er⟩ := h2 i (Nat.le_refl _) (by omega)
    refine forR_ge (r0 := r0) (fun r y => tree_mono m d (i + 1) _ y) (fun y => ?_) B x hr
    refine tree_ge m hw d (i + 1) _ y (by omega) (fun j hj => ?_) fun j h3 h4 => h2 j (by omega) h4
    by_cases c : j = i
    · rw [c, sU_e, er]
    · rw [sU_n _ _ c]; exact h1 j (by omega)
section BE
variable {P : PT} {Z : Nat → Int32} {K : KT} {S : PT} {D : Nat} {C : Nat → Int32} {u : Mem}
theorem Ts_s {s t : Nat → Int32} (h : ∀ j, j < nPe P → s j = t j) : SEq P (Ts S s) (Ts S t) := ⟨rfl, rfl, rfl, fun _ _ => rfl, h⟩
theorem upB_ok {s : Nat → Int32} : upB P S s = true ↔ okS P S s (nPe P) := upB_iff P S s
theorem okS_t {s t : Nat → Int32} {n : Nat} (h : ∀ j, j < n → s j = t j) (o : okS P S s n) : okS P S t n := fun j hj => by rw [← h j hj]; exact o j hj
theorem okS_dig (hb : PB P) {s : Nat → Int32} (o : okS P S s (nPe P)) {j : Nat} (hj : j < nPe P) : ∃ r, r < nPl P + 1 ∧ s j = dgt 1 r := by
  have h4 := (PB_pl hb).2.1
  rcases o j hj with q | q
  · exact ⟨0, by omega, by rw [q]; decide⟩
  · have hp := up_of_seat q
    have e := ix_nI (isPole_t hp).1
    have l := isPole_ix hp
    exact ⟨ix (s j) + 1, by omega, by rw [dgt_s (by omega)]; exact e⟩
/-- the ground holds all -/
theorem ground_ok (g : GS P S) : okS P S (fun _ => -9) (nPe P) ∧ b_fail P (Ts S fun _ => -9) = 0 ∧ a_highAll P (Ts S fun _ => -9) = 0 := by
  refine ⟨fun j _ => Or.inl rfl, (fail_iff g.1 _).mpr fun k hk up => ?_, ?_⟩
  · have e : LI P (fun _ => -9) (nPe P) (nI k) = 0 := by
      unfold LI
      exact sum_z _ _ fun j _ => if_neg (n9_nI g.1 hk)
    rw [e]
    have b := bears_i g.2.1 g.2.2.1 (pole_nI g.1 hk)
    exact i_leI (by rw [show (0 : Int32).toInt = 0 by decide]; exact b.1)
  · unfold a_highAll
    exact sum_z _ _ fun j _ => high_9 _ _
/-- the best seating -/
def BestOf (P S : PT) (b : Int32) (s : Nat → Int32) : Prop := okS P S s (nPe P) ∧ b_fail P (Ts S s) = 0 ∧ a_highAll P (Ts S s) = b ∧ ∀ s', okS P S s' (nPe P) → b_fail P (Ts S s') = 0 → (a_highAll P (Ts S s')).toInt ≤ b.toInt
theorem best_tree (g : GS P S) : BestOf P S (tree (nPl P + 1) (dgt 1) (lfB P S) (nPe P) 0 (fun _ => 0) (-1, fun _ => 0)).1 (tree (nPl P + 1) (dgt 1) (lfB P S) (nPe P) 0 (fun _ => 0) (-1, fun _ => 0)).2 := by
  have m : ∀ s (x : Int32 × (Nat → Int32)), x.1.toInt ≤ (lfB P S s x).1.toInt := fun s x => by
    unfold lfB
    split
    · rename_i q
      have := i_lt q.2
      show x.1.toInt ≤ (a_highAll P (Ts S s)).toInt
      omega
    · exact Int.le_refl _
  have ge : ∀ s', okS P S s' (nPe P) → b_fail P (Ts S s') = 0 → (a_highAll P (Ts S s')).toInt ≤ (tree (nPl P + 1) (dgt 1) (lfB P S) (nPe P) 0 (fun _ => 0) (-1, fun _ => 0)).1.toInt := fun s' o f => by
    refine tree_ge (v := fun x : Int32 × (Nat → Int32) => x.1.toInt) (n := nPe P) (s' := s') m (fun s x e => ?_) (nPe P) 0 (fun _ => 0) (-1, fun _ => 0) (Nat.zero_add _) (fun j hj => absurd hj (Nat.not_lt_zero _)) fun j _ hj => okS_dig g.1 o hj
    have hs := Ts_s (P := P) (S := S) (s := s') (t := s) fun j hj => (e j hj).symm
    have o2 : upB P S s = true := upB_ok.mpr (okS_t (fun j hj => (e j hj).symm) o)
    have f2 : b_fail P (Ts S s) = 0 := by rw [← pe_fail PEq.rfl' hs]; exact f
    have h2 : a_highAll P (Ts S s') = a_highAll P (Ts S s) := pe_highAll PEq.rfl' hs
    unfold lfB
    rw [h2]
    by_cases c : x.1 < a_highAll P (Ts S s)
    · rw [if_pos ⟨⟨o2, f2⟩, c⟩]; exact Int.le_refl _
    · rw [if_neg (fun q => c q.2)]; exact i_nlt c
  have inv := tree_inv (B := nPl P + 1) (dg := dgt 1) (leaf := lfB P S) (fun x : Int32 × (Nat → Int32) => x.1 = -1 ∨ (upB P S x.2 = true ∧ b_fail P (Ts S x.2) = 0 ∧ a_highAll P (Ts S x.2) = x.1)) (fun s x h => by
    unfold lfB
    split
    · rename_i q
      exact Or.inr ⟨q.1.1, q.1.2, rfl⟩
    · exact h) (nPe P) 0 (fun _ => 0) (-1, fun _ => 0) (Or.inl rfl)
  have gr := ground_ok g
  have z := ge _ gr.1 gr.2.1
  rw [gr.2.2, show (0 : Int32).toInt = 0 by decide] at z
  generalize tree (nPl P + 1) (dgt 1) (lfB P S) (nPe P) 0 (fun _ => 0) (-1, fun _ => 0) = x at ge inv z ⊢
  rcases inv with e | ⟨o, f, e⟩
  · rw [e] at z; exact absurd z (by decide)
  · exact ⟨upB_ok.mp o, f, e, ge⟩
/-- a row as told -/
def RW (r n : Nat) (f : Nat → Int32) (u : Mem) : Prop := u (5 + 2 * r) 0 = nI n ∧ ∀ j, j < n → u (6 + 2 * r) j = f j
theorem RW_s {r n : Nat} {f : Nat → Int32} {t : Mem} (h : RW r n f u) (hr : r < 6) (s : RS u t) : RW r n f t := by
  refine ⟨?_, fun j hj => ?_⟩
  · rw [s _ (by omega) (by omega)]; exact h.1
  · rw [s _ (by omega) (by omega)]; exact h.2 j hj
theorem a_in6 {r : Nat} (hr : r < 6) : a_in (nI r) 6 = true := by
  rcases (show r = 0 ∨ r = 1 ∨ r = 2 ∨ r = 3 ∨ r = 4 ∨ r = 5 by omega) with rfl | rfl | rfl | rfl | rfl | rfl <;> decide
theorem q_best (h : J P Z K S D C u) (hp0 : 0 < nPl P) {r : Nat} (hr6 : r < 6) : ∃ s, BestOf P S (k_best u (nI r)).1 s ∧ RW r (nPe P) s (k_best u (nI r)).2 ∧ J P Z K S D C (k_best u (nI r)).2 := by
  obtain ⟨⟨μ, hr⟩, hP, hS, -⟩ := id h
  have g := J_gs h
  have g0 : GS P (vS u 45) := by
    have hj : J P Z K (vS u 45) D C u := by
      obtain ⟨h1, h2, h3, h4⟩ := id h
      exact ⟨h1, h2, SEq.rfl', h4⟩
    exact J_gs hj
  have ho := OK_ag (op_best hr (nI r))
  obtain ⟨pe1, pe2, pe3⟩ := PB_pe g.1
  have hI : InvH P (vS u 45) (m_sBegin u) (fun _ => 0) 0 0 := by
    have w := begin_H u
    rw [hP] at w
    rcases w with q | q | q | q
    · exact q
    · exact absurd g0.2.2.1 q
    · exact absurd g.1 q
    · exact absurd g.2.1 q
  have hX := high_tree g.1 g.2.1 g0.2.2.1 (nPe P) 0 (fun _ => 0) (m_sBegin u) 0 (-1, fun _ => 0) (Nat.zero_add _) hI ⟨by unfold m_sBegin; rw [mU_e, if_pos rfl, if_neg (by decide), mU_e, if_pos rfl, if_pos rfl], fun q => absurd rfl q⟩
  rw [lfB_c PEq.rfl' hS] at hX
  have hB := best_tree g
  have hρ : ∀ q, q < 51 ∨ 56 ≤ q → s_high P (nPe P) (m_sBegin u) 0 0 q = u q := fun q hq => by rw [s_high_n _ (by omega), m_sBegin_n _ (by omega) (by omega) (by omega)]
  have e : k_best u (nI r) = (m_takeR (s_high P (nPe P) (m_sBegin u) 0 0) (5 + 2 * r) 55 (P 0 1) 51 0, m_takeR (s_high P (nPe P) (m_sBegin u) 0 0) (5 + 2 * r) 55 (P 0 1)) := by
    unfold k_best
    rw [if_pos (a_in6 hr6), if_neg (u_ne h hp0), ix_of (by omega), hP, hρ 33 (by omega), show u 33 1 = P 0 1 by rw [← hP]; rfl]
  rw [e] at ho ⊢
  generalize tree (nPl P + 1) (dgt 1) (lfB P S) (nPe P) 0 (fun _ => 0) (-1, fun _ => 0) = x at hX hB
  generalize s_high P (nPe P) (m_sBegin u) 0 0 = ρ at hX hρ ho ⊢
  have i5 : imin (P 0 1) 5 = P 0 1 := imin_l (by rw [show (5 : Int32).toInt = 5 by decide]; omega)
  have i60 : imin (P 0 1) 60 = P 0 1 := imin_l (by rw [show (60 : Int32).toInt = 60 by decide]; omega)
  have tq : ∀ q, q ≠ 5 + 2 * r → q ≠ 5 + 2 * r + 1 → m_takeR ρ (5 + 2 * r) 55 (P 0 1) q = ρ q := fun q q1 q2 => m_takeR_n _ _ _ _ q1 q2
  have t0 : m_takeR ρ (5 + 2 * r) 55 (P 0 1) (5 + 2 * r) 0 = P 0 1 := by
    unfold m_takeR m_fill
    rw [mF_n _ _ _ (by omega), mF_n _ _ _ (by omega), mU_e, if_pos rfl, if_pos rfl, i5, i60]
  have t1 : ∀ j, j < nPe P → m_takeR ρ (5 + 2 * r) 55 (P 0 1) (5 + 2 * r + 1) j = ρ 55 j := fun j hj => by
    unfold m_takeR
    rw [mF_e, if_pos rfl, i5, i60, if_pos (show j < ix (P 0 1) from hj)]
  have n1 : ¬ x.1 = -1 := fun q => by
    have z := hB.2.2.2 _ (ground_ok g).1 (ground_ok g).2.1
    rw [(ground_ok g).2.2, q] at z
    exact absurd z (by decide)
  refine ⟨x.2, ?_, ⟨?_, fun j hj => ?_⟩, J_n h ho fun q hq => ?_⟩
  · show BestOf P S (m_takeR ρ (5 + 2 * r) 55 (P 0 1) 51 0) x.2
    rw [tq 51 (by omega) (by omega), hX.1]
    exact hB
  · exact t0.trans pe1
  · show m_takeR ρ (5 + 2 * r) 55 (P 0 1) (6 + 2 * r) j = _
    rw [show 6 + 2 * r = 5 + 2 * r + 1 by omega, t1 j hj]; exact hX.2 n1 j hj
  · exact (tq q (by omega) (by omega)).trans (hρ q (by omega))
theorem q_seated (h : J P Z K S D C u) (hp0 : 0 < nPl P) {r : Nat} (hr6 : r < 6) {s : Nat → Int32} (hw : RW r (nPe P) s u) (o : okS P S s (nPe P)) : (k_seated u (nI r)).1 = b_fail P (Ts S s) ∧ (k_seated u (nI r)).2 0 1 = a_highAll P (Ts S s) ∧ J P Z K S D C (k_seated u (nI r)).2 ∧ RS u (k_seated u (nI r)).2 := by
  obtain ⟨⟨μ, hr⟩, hP, hS, -⟩ := id h
  have hb := (J_plan h).1
  have ho := OK_ag (op_seated hr (nI r))
  obtain ⟨pe1, pe2, pe3⟩ := PB_pe hb
  obtain ⟨pl1, pl2, pl3⟩ := PB_pl hb
  have e33 : u 33 1 = P 0 1 := by rw [← hP]; rfl
  have ti : (nI (nPe P)).toInt = (nPe P : Int) := nI_toInt (by omega)
  have hg : ∀ i, i < nPe P → a_get u (5 + 2 * r) (nI i) = s i := fun i hi => by
    rw [get_nI (by rw [hw.1, ti]; omega) (by rw [hw.1, ti]; omega), show 5 + 2 * r + 1 = 6 + 2 * r by omega]
    exact hw.2 i hi
  have hf : fstN (sd_bad u (5 + 2 * r)) (nPe P) = nPe P := (fst_full _ _).mpr fun i hi => by
    unfold sd_bad
    rw [hg i hi, hP, pe_isUp PEq.rfl' hS]
    rcases o i hi with q | q
    · rw [q]; rfl
    · rw [q, Bool.not_true, Bool.and_false]
  have hs : SEq P (vS (m_seated u (5 + 2 * r) (nPe P)) 48) (Ts S s) := by
    have t := (take_rel P pl2 pe2 u).tr hS
    have fr : ∀ q, q ≠ 50 → m_seated u (5 + 2 * r) (nPe P) q = m_takeS u q := fun q hq => mF_n _ _ _ hq
    refine ⟨?_, ?_, ?_, fun k hk => ?_, fun i hi => ?_⟩
    · rw [vS_0, fr 48 (by decide)]; exact t.1
    · rw [vS_0, fr 48 (by decide)]; exact t.2.1
    · rw [vS_0, fr 48 (by decide)]; exact t.2.2.1
    · rw [vS_1, fr 49 (by decide)]; exact t.2.2.2.1 k hk
    · rw [vS_2]
      unfold m_seated
      rw [mF_e, if_pos rfl, if_pos hi]; exact hg i hi
  have e : k_seated u (nI r) = (b_fail P (vS (m_seated u (5 + 2 * r) (nPe P)) 48), mU (m_seated u (5 + 2 * r) (nPe P)) 0 1 (a_highAll P (vS (m_seated u (5 + 2 * r) (nPe P)) 48))) := by
    unfold k_seated
    rw [if_pos (a_in6 hr6), if_neg (u_ne h hp0), ix_of (by omega), hw.1, if_neg (nI_pos (by omega)), e33, if_pos pe1.symm, hP, if_pos hf, fail_pop hb]
  rw [e] at ho ⊢
  have fr : ∀ q, q < 48 ∨ 50 < q → m_seated u (5 + 2 * r) (nPe P) q = u q := fun q hq => m_seated_n _ _ _ hq
  refine ⟨pe_fail PEq.rfl' hs, (told_e (m_seated u (5 + 2 * r) (nPe P)) _).trans (pe_highAll PEq.rfl' hs), J_n h ho fun q hq => ?_, fun q h1 h2 => ?_⟩
  · exact (mU_n _ _ _ (by omega)).trans (fr q (by omega))
  · exact (mU_n _ _ _ (by omega)).trans (fr q (by omega))
/-- who sits so that all hold, is not above the best -/
theorem best_ge (g : GS P S) {b : Int32} {s : Nat → Int32} (hB : BestOf P S b s) (h : ∀ k, k < nPl P → a_isUp P S (nI k) = true → a_stands P S (nI k) = true) : ¬ b < a_highAll P S := by
  have e : SEq P (Ts S (S 2)) S := ⟨rfl, rfl, rfl, fun _ _ => rfl, fun _ _ => rfl⟩
  have f : b_fail P (Ts S (S 2)) = 0 := (fail_iff g.1 _).mpr fun k hk up => by
    have w := h k hk up
    unfold a_stands at w
    rw [Bool.and_eq_true] at w
    exact of_decide_eq_true w.2
  have z := hB.2.2.2 (S 2) g.2.2.2.1 f
  rw [pe_highAll PEq.rfl' e] at z
  exact nlt_i z
theorem best_pos' (g : GS P S) {b : Int32} {s : Nat → Int32} (hB : BestOf P S b s) : 0 ≤ b.toInt := by
  have z := hB.2.2.2 _ (ground_ok g).1 (ground_ok g).2.1
  rw [(ground_ok g).2.2] at z
  exact z
end BE
