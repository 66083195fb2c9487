/-! level 2: duel, the model's stack of turns -/
def dE (b : Bool) : Int32 := if b = true then -1000000 else 1000000
def dC (b : Bool) (a v : Int32) : Int32 := if b = true then imax a v else imin a v
def dK' (P : PT) (b : Bool) : Nat := if b = true then nPe P * nPl P else nPe P
def dPo (P S : PT) (b : Bool) (s : Nat → Int32) (j : Nat) : Bool := if b = true then decide (s (j / nPl P) = -9) && a_isUp P S (nI (j % nPl P)) else !decide (s j = -9)
def dS (P : PT) (b : Bool) (s : Nat → Int32) (j : Nat) : Nat → Int32 := if b = true then sU s (j / nPl P) (nI (j % nPl P)) else sU s j (-9)
/-- what turns are worth -/
def dV (P S : PT) : Nat → Bool → (Nat → Int32) → Int32
  | 0, _, s => b_worth P (Ts S s)
  | d + 1, b, s => run (fun j a => if dPo P S b s j = true then dC b a (dV P S d (!b) (dS P b s j)) else a) 0 (dK' P b) (dC b (dE b) (dV P S d (!b) s))
def dM (P S : PT) (d : Nat) (b : Bool) (s : Nat → Int32) (j : Nat) (a : Int32) : Int32 := if dPo P S b s j = true then dC b a (dV P S d (!b) (dS P b s j)) else a
theorem dV_s (P S : PT) (d : Nat) (b : Bool) (s : Nat → Int32) : dV P S (d + 1) b s = run (dM P S d b s) 0 (dK' P b) (dC b (dE b) (dV P S d (!b) s)) := rfl
theorem run_front {α : Type} (st : Nat → α → α) (a m : Nat) (x : α) : run st a (m + 1) x = run st (a + 1) m (st a x) := by
  rw [Nat.add_comm m 1, run_split]; rfl
theorem pe_worth {P Q S T : PT} (h : PEq P Q) (hs : SEq P S T) : b_worth P S = b_worth Q T := by
  unfold b_worth; rw [← h.pe]; exact a_sum_c _ (fun i hi => by rw [hs.2.2.2.2 i hi, pe_load h hs, pe_bearsNow h hs, pe_high h])
def evn (X : Nat) : Bool := decide (X % 2 = 0)
theorem evn_i {X : Nat} (h : X < 100) : (nI X - nI X / 2 * 2 = 0) ↔ evn X = true := by
  have e : nI X - nI X / 2 * 2 = nI (X % 2) := remn (a := X) (b := 2) (by omega) (by decide) (by decide)
  unfold evn
  rw [e, decide_eq_true_eq]
  constructor
  · intro q
    have z := i_eq q
    rw [nI_toInt (by omega), show (0 : Int32).toInt = 0 by decide] at z
    omega
  · intro q; rw [q]; rfl
theorem evn_s (X : Nat) : evn (X + 1) = !evn X := by
  unfold evn
  by_cases c : X % 2 = 0
  · rw [decide_eq_true c, decide_eq_false (by omega)]; rfl
  · rw [decide_eq_false c, decide_eq_true (by omega)]; rfl
/-- what lies above a level, and the nave aside -/
def Frm (τ ρ : Mem) (X : Nat) : Prop := (∀ k, ρ 12 k = τ 12 k) ∧ (∀ t, t < X → ρ 21 t = τ 21 t ∧ ρ 22 t = τ 22 t ∧ ρ 23 t = τ 23 t) ∧ ∀ q, q ≠ 12 → q ≠ 21 → q ≠ 22 → q ≠ 23 → ρ q = τ q
theorem Frm.rfl' {τ : Mem} {X : Nat} : Frm τ τ X := ⟨fun _ => rfl, fun _ _ => ⟨rfl, rfl, rfl⟩, fun _ _ _ _ _ => rfl⟩
theorem Frm.tr {τ ρ κ : Mem} {X : Nat} (h : Frm τ ρ X) (g : Frm ρ κ X) : Frm τ κ X := ⟨fun k => (g.1 k).trans (h.1 k), fun t ht => ⟨(g.2.1 t ht).1.trans (h.2.1 t ht).1, (g.2.1 t ht).2.1.trans (h.2.1 t ht).2.1, (g.2.1 t ht).2.2.trans (h.2.1 t ht).2.2⟩, fun q q1 q2 q3 q4 => (g.2.2 q q1 q2 q3 q4).trans (h.2.2 q q1 q2 q3 q4)⟩
theorem most_e {P : PT} (hpb : PB P) {X : Nat} (hX : X < 100) : (b_most P (nI X)).toInt = (dK' P (evn X) : Int) := by
  rw [most_i hpb]
  unfold dK'
  by_cases c : evn X = true
  · rw [if_pos ((evn_i hX).mpr c), if_pos c]; exact (Int.natCast_mul _ _).symm
  · rw [if_neg (fun q => c ((evn_i hX).mp q)), if_neg c]
theorem K_20 {P : PT} (hpb : PB P) (b : Bool) : dK' P b ≤ 20 := by
  have h4 := (PB_pl hpb).2.1
  have h5 := (PB_pe hpb).2.1
  have q : nPe P * nPl P ≤ 5 * 4 := Nat.mul_le_mul h5 h4
  unfold dK'
  split <;> omega
/-- a move of a number -/
theorem mv_who {P : PT} (hpb : PB P) (hp0 : 0 < nPl P) {ρ : Mem} {X j : Nat} (hX : X < 100) (h21 : ρ 21 X = nI (j + 1)) (hj : j < dK' P (evn X)) :
    (evn X = true → b_who P ρ (nI X) = nI (j / nPl P) ∧ b_to P ρ (nI X) = nI (j % nPl P) ∧ j / nPl P < nPe P ∧ j % nPl P < nPl P) ∧ (¬ evn X = true → b_who P ρ (nI X) = nI j ∧ b_to P ρ (nI X) = -9 ∧ j < nPe P) := by
  have hK := K_20 hpb (evn X)
  obtain ⟨p1, p2, p3⟩ := PB_pl hpb
  have eX : ix (nI X) = X := ix_of (by omega)
  have e1 : nI (j + 1) - 1 = nI j := nI_pred j
  unfold b_who b_to
  rw [eX, h21, e1, p1]
  constructor
  · intro c
    have c' := (evn_i hX).mpr c
    rw [if_pos c', if_pos c', remn (by omega) hp0 (by omega), divn (by omega) hp0 (by omega)]
    unfold dK' at hj
    rw [if_pos c] at hj
    exact ⟨rfl, rfl, (Nat.div_lt_iff_lt_mul hp0).mpr hj, Nat.mod_lt _ hp0⟩
  · intro c
    have c' : ¬ (nI X - nI X / 2 * 2 = 0) := fun q => c ((evn_i hX).mp q)
    rw [if_neg c', if_neg c']
    unfold dK' at hj
    rw [if_neg c] at hj
    exact ⟨rfl, rfl, hj⟩
theorem nI_nz {j : Nat} (h : j < 100) : ¬ nI (j + 1) = 0 := fun q => by
  have z := i_eq q
  rw [nI_toInt (by omega), show (0 : Int32).toInt = 0 by decide] at z
  omega
theorem mv_po {P S : PT} (hpb : PB P) (hp0 : 0 < nPl P) {ρ : Mem} {s : Nat → Int32} {X j : Nat} (hX : X < 100) (h21 : ρ 21 X = nI (j + 1)) (hj : j < dK' P (evn X)) (hs : SEq P (sM ρ 12) (Ts S s)) : b_mv P ρ (nI X) = dPo P S (evn X) s j := by
  have hK := K_20 hpb (evn X)
  have h4 := (PB_pl hpb).2.1
  have h5 := (PB_pe hpb).2.1
  obtain ⟨w1, w2⟩ := mv_who hpb hp0 hX h21 hj
  have eX : ix (nI X) = X := ix_of (by omega)
  have eu : ∀ k, a_isUp P (sM ρ 12) k = a_isUp P S k := fun k => a_isUp_c hs.1
  unfold b_mv dPo
  rw [eX, h21, if_neg (nI_nz (by omega))]
  by_cases c : evn X = true
  · obtain ⟨a1, a2, a3, a4⟩ := w1 c
    have es : ρ 12 (5 + j / nPl P) = s (j / nPl P) := hs.2.2.2.2 _ a3
    rw [a1, a2, if_pos c, if_pos ((evn_i hX).mpr c), ix_of (by omega), es, eu, if_neg (nI_n9 (by omega))]
    by_cases d : s (j / nPl P) = -9
    · rw [if_pos d, if_pos rfl, decide_eq_true d, Bool.true_and]
    · rw [if_neg d, if_neg (by decide), decide_eq_false d, Bool.false_and]
  · obtain ⟨a1, a2, a3⟩ := w2 c
    have es : ρ 12 (5 + j) = s j := hs.2.2.2.2 _ a3
    rw [a1, a2, if_neg c, if_neg (fun q => c ((evn_i hX).mp q)), ix_of (by omega), es]
    by_cases d : s j = -9
    · rw [if_pos d, if_neg (by decide), decide_eq_true d]; rfl
    · rw [if_neg d, if_pos rfl, if_pos rfl, decide_eq_false d]; rfl
theorem mv_seq {P S : PT} (hpb : PB P) (hp0 : 0 < nPl P) {ρ : Mem} {s : Nat → Int32} {X j : Nat} (hX : X < 100) (h21 : ρ 21 X = nI (j + 1)) (hj : j < dK' P (evn X)) (hs : SEq P (sM ρ 12) (Ts S s)) (hb : b_mv P ρ (nI X) = true) :
    SEq P (sM (w_mv P ρ (nI X)) 12) (Ts S (dS P (evn X) s j)) := by
  have hK := K_20 hpb (evn X)
  have h4 := (PB_pl hpb).2.1
  have h5 := (PB_pe hpb).2.1
  obtain ⟨w1, w2⟩ := mv_who hpb hp0 hX h21 hj
  have eX : ix (nI X) = X := ix_of (by omega)
  have ew : w_mv P ρ (nI X) = w_mv1 P ρ (nI X) := by unfold w_mv; rw [eX, h21, if_neg (nI_nz (by omega)), if_pos hb]
  have go : ∀ w : Nat, ∀ v : Int32, w < nPe P → b_who P ρ (nI X) = nI w → b_to P ρ (nI X) = v → SEq P (sM (w_mv1 P ρ (nI X)) 12) (Ts S (sU s w v)) := fun w v hw e1 e2 => by
    have z : ∀ k, w_mv1 P ρ (nI X) 12 k = if k = 5 + w then v else ρ 12 k := fun k => by
      unfold w_mv1
      rw [e1, e2, ix_of (n := w) (by omega), mU_e, if_pos rfl, mU_n _ _ _ (by decide)]
    refine ⟨?_, ?_, ?_, fun k hk => ?_, fun i hi => ?_⟩
    · show w_mv1 P ρ (nI X) 12 4 = S 0 0
      rw [z, if_neg (by omega)]; exact hs.1
    · show w_mv1 P ρ (nI X) 12 10 = S 0 1
      rw [z, if_neg (by omega)]; exact hs.2.1
    · show w_mv1 P ρ (nI X) 12 11 = S 0 2
      rw [z, if_neg (by omega)]; exact hs.2.2.1
    · show w_mv1 P ρ (nI X) 12 k = S 1 k
      rw [z, if_neg (by omega)]; exact hs.2.2.2.1 k hk
    · show w_mv1 P ρ (nI X) 12 (5 + i) = sU s w v i
      rw [z]
      by_cases e : i = w
      · rw [if_pos (by omega), e, sU_e]
      · rw [if_neg (by omega), sU_n _ _ e]; exact hs.2.2.2.2 i hi
  rw [ew]
  unfold dS
  by_cases c : evn X = true
  · obtain ⟨a1, a2, a3, a4⟩ := w1 c
    rw [if_pos c]; exact go _ _ a3 a1 a2
  · obtain ⟨a1, a2, a3⟩ := w2 c
    rw [if_neg c]; exact go _ _ a3 a1 a2
/-- back from a move -/
theorem wg_back {P : PT} {ρ κ : Mem} {X : Nat} (hX : X < 100) (h : Frm (w_mv P ρ (nI X)) κ (X + 1)) (hb : b_mv P ρ (nI X) = true) (h0 : 0 ≤ (ρ 21 X).toInt) (v : Int32) :
    Frm ρ (w_wg P κ (nI X) v) X ∧ w_wg P κ (nI X) v 21 X = ρ 21 X ∧ w_wg P κ (nI X) v 22 X = dC (evn X) (ρ 22 X) v := by
  have eX : ix (nI X) = X := ix_of (by omega)
  have k0 : (0 : Int32).toInt = 0 := by decide
  have m21 : ∀ t, w_mv P ρ (nI X) 21 t = ρ 21 t := fun t => by rw [w_mv_21]
  have m22 : ∀ t, w_mv P ρ (nI X) 22 t = ρ 22 t := fun t => by rw [w_mv_n _ _ _ (by decide)]
  have k21 : κ 21 X = ρ 21 X := (h.2.1 X (by omega)).1.trans (m21 X)
  have k22 : κ 22 X = ρ 22 X := (h.2.1 X (by omega)).2.1.trans (m22 X)
  have ewho : b_who P κ (nI X) = b_who P ρ (nI X) := by unfold b_who; rw [eX, k21]
  have ec : (if nI X - nI X / 2 * 2 = 0 then (if κ 22 (ix (nI X)) < v then v else κ 22 (ix (nI X))) else (if v < κ 22 (ix (nI X)) then v else κ 22 (ix (nI X)))) = dC (evn X) (ρ 22 X) v := by
    rw [eX, k22]
    unfold dC imax imin
    by_cases c : evn X = true
    · rw [if_pos ((evn_i hX).mpr c), if_pos c]
    · rw [if_neg (fun q => c ((evn_i hX).mp q)), if_neg c]
  unfold w_wg
  rw [ec, eX]
  have g12 : ∀ k, w_wg1 P κ (nI X) 12 k = ρ 12 k := fun k => by
    unfold w_wg1
    rw [eX, k21]
    by_cases c : 0 < ρ 21 X
    · have d := i_lt c
      have n0 : ¬ ρ 21 X = 0 := fun q => by rw [q] at d; omega
      have em : w_mv P ρ (nI X) = w_mv1 P ρ (nI X) := by unfold w_mv; rw [eX, if_neg n0, if_pos hb]
      rw [if_pos c, ewho, mU_e, if_pos rfl, (h.2.1 X (by omega)).2.2, h.1, em]
      unfold w_mv1
      rw [eX]
      by_cases e : k = 5 + ix (b_who P ρ (nI X))
      · rw [if_pos e, mU_n _ _ _ (by decide), mU_e, if_pos rfl, if_pos rfl, e]
      · rw [if_neg e, mU_e, if_pos rfl, if_neg e, mU_n _ _ _ (by decide)]
    · have d := i_nlt c
      have e0 : ρ 21 X = 0 := i_eqI (by omega)
      have em : w_mv P ρ (nI X) = ρ := by unfold w_mv; rw [eX, if_pos e0]
      rw [if_neg c, h.1, em]
  have gq : ∀ q, q ≠ 12 → w_wg1 P κ (nI X) q = κ q := fun q hq => by
    unfold w_wg1; split
    · exact mU_n _ _ _ hq
    · rfl
  have m23 : ∀ t, t < X → w_mv P ρ (nI X) 23 t = ρ 23 t := fun t ht => by
    unfold w_mv w_mv1
    rw [eX]
    by_cases c : ρ 21 X = 0
    · rw [if_pos c]
    · rw [if_neg c, if_pos hb, mU_n _ _ _ (by decide), mU_e, if_pos rfl, if_neg (by omega)]
  refine ⟨⟨fun k => ?_, fun t ht => ⟨?_, ?_, ?_⟩, fun q q1 q2 q3 q4 => ?_⟩, ?_, ?_⟩
  · rw [mU_n _ _ _ (by decide)]; exact g12 k
  · rw [mU_n _ _ _ (by decide), gq 21 (by decide), (h.2.1 t (by omega)).1, m21]
  · rw [mU_e, if_pos rfl, if_neg (by omega), gq 22 (by decide), (h.2.1 t (by omega)).2.1, m22]
  · rw [mU_n _ _ _ (by decide), gq 23 (by decide), (h.2.1 t (by omega)).2.2, m23 t ht]
  · rw [mU_n _ _ _ q3, gq q q1, h.2.2 q q1 q2 q3 q4, w_mv_n _ _ _ ⟨q1, q4⟩]
  · rw [mU_n _ _ _ (by decide), gq 21 (by decide)]; exact k21
  · rw [mU_e, if_pos rfl, if_pos rfl]
