/-! level 2: duel, what the model's stack comes to -/
def rtO (P : PT) (n : Int32) (F : Nat) (τ : Mem) (X : Nat) (v : Int32) : Option (Int32 × Mem) := if nI X + (-1) < 0 then dmO P n F τ (nI X + (-1)) v else dmO P n F (w_wg P τ (nI X + (-1)) v) (nI X + (-1)) v
def goO (P : PT) (n : Int32) (F : Nat) (X : Nat) (z : Bool × Mem) (came : Int32) : Option (Int32 × Mem) := if z.1 = true then dmO P n F (w_open z.2 (nI X + 1)) (nI X + 1) came else rtO P n F z.2 X (z.2 22 X)
theorem dmO_in (P : PT) {N X : Nat} (h : X < N) (hN : N < 100) (F : Nat) (τ : Mem) (came : Int32) : dmO P (nI N) (F + 1) τ (nI X) came = goO P (nI N) F X (nm P τ (nI X)) came := by
  have eX : ix (nI X) = X := ix_of (by omega)
  rw [dmO, if_neg (nI_pos (by omega)), if_pos (nI_lt h (by omega))]
  unfold goO rtO
  rw [eX]
theorem dmO_leaf (P : PT) {N : Nat} (hN : N < 100) (F : Nat) (τ : Mem) (came : Int32) : dmO P (nI N) (F + 1) τ (nI N) came = rtO P (nI N) F τ N (b_worth P (sM τ 12)) := by
  rw [dmO, if_neg (nI_pos (by omega)), if_neg (nI_nlt (Nat.le_refl _) (by omega))]
  rfl
theorem go_t (P : PT) (n : Int32) (F X : Nat) (z : Mem) (came : Int32) : goO P n F X (true, z) came = dmO P n F (w_open z (nI X + 1)) (nI X + 1) came := by unfold goO; rw [if_pos rfl]
theorem go_f (P : PT) (n : Int32) (F X : Nat) (z : Mem) (came : Int32) : goO P n F X (false, z) came = rtO P n F z X (z 22 X) := by unfold goO; rw [if_neg (show ¬ (false = true) by decide)]
theorem rt_s (P : PT) (n : Int32) (F : Nat) (τ : Mem) {X : Nat} (hX : X < 100) (v : Int32) : rtO P n F τ (X + 1) v = dmO P n F (w_wg P τ (nI X) v) (nI X) v := by unfold rtO; rw [nI_dec, if_neg (nI_pos (by omega))]
theorem open_21 (τ : Mem) {X : Nat} (hX : X < 100) : w_open τ (nI X) 21 X = -1 ∧ w_open τ (nI X) 22 X = dE (evn X) := by
  have eX : ix (nI X) = X := ix_of (by omega)
  unfold w_open dE
  rw [eX]
  refine ⟨by rw [mU_n _ _ _ (by decide), mU_e, if_pos rfl, if_pos rfl], ?_⟩
  rw [mU_e, if_pos rfl, if_pos rfl]
  by_cases c : evn X = true
  · rw [if_pos ((evn_i hX).mpr c), if_pos c]
  · rw [if_neg (fun q => c ((evn_i hX).mp q)), if_neg c]
theorem open_frm (τ : Mem) {X : Nat} (hX : X < 100) : Frm τ (w_open τ (nI X)) X := by
  have eX : ix (nI X) = X := ix_of (by omega)
  unfold w_open
  rw [eX]
  refine ⟨fun k => by rw [mU_n _ _ _ (by decide), mU_n _ _ _ (by decide)], fun t ht => ⟨?_, ?_, ?_⟩, fun q q1 q2 q3 q4 => by rw [mU_n _ _ _ q3, mU_n _ _ _ q2]⟩
  · rw [mU_n _ _ _ (by decide), mU_e, if_pos rfl, if_neg (by omega)]
  · rw [mU_e, if_pos rfl, if_neg (by omega), mU_n _ _ _ (by decide)]
  · rw [mU_n _ _ _ (by decide), mU_n _ _ _ (by decide)]
theorem nm_26 (P : PT) (ρ : Mem) {X : Nat} (hX : X < 100) : nm P ρ (nI X) = nmF P (nI X) 26 (mU ρ 21 X (ρ 21 X + 1)) := by
  have eX : ix (nI X) = X := ix_of (by omega)
  unfold nm
  rw [eX]
theorem dm_turn {P S : PT} (hpb : PB P) (hp0 : 0 < nPl P) {N : Nat} (hN : N ≤ 4) : ∀ d X, X + d = N → ∀ (τ : Mem) (s : Nat → Int32), SEq P (sM τ 12) (Ts S s) → τ 21 X = -1 → τ 22 X = dE (evn X) →
    ∃ (c : Nat) (τ' : Mem), (∀ F came, dmO P (nI N) (F + c) τ (nI X) came = rtO P (nI N) F τ' X (dV P S d (evn X) s)) ∧ Frm τ τ' X
  | 0, X, hX, τ, s, hs, h21, h22 => by
    have eN : X = N := by omega
    subst eN
    refine ⟨1, τ, fun F came => ?_, Frm.rfl'⟩
    rw [dmO_leaf P (by omega), pe_worth PEq.rfl' hs]; rfl
  | d + 1, X, hX, τ, s, hs, h21, h22 => by
    have hXN : X < N := by omega
    have hK := K_20 hpb (evn X)
    have eX : ix (nI X) = X := ix_of (by omega)
    have hmost := most_e hpb (X := X) (by omega)
    have seqF : ∀ ρ, Frm τ ρ X → SEq P (sM ρ 12) (Ts S s) := fun ρ hf => by
      have e : sM ρ 12 = sM τ 12 := sM_eq (funext fun k => hf.1 k)
      rw [e]; exact hs
    -- a move and back
    have move : ∀ (ρ : Mem) (t : Nat → Int32), b_mv P ρ (nI X) = true → 0 ≤ (ρ 21 X).toInt → SEq P (sM (w_mv P ρ (nI X)) 12) (Ts S t) →
        ∃ (c : Nat) (ρ' : Mem), (∀ F came, goO P (nI N) (F + c) X (true, w_mv P ρ (nI X)) came = goO P (nI N) F X (nmF P (nI X) 26 (mU ρ' 21 X (ρ' 21 X + 1))) (dV P S d (!evn X) t)) ∧ Frm ρ ρ' X ∧ ρ' 21 X = ρ 21 X ∧ ρ' 22 X = dC (evn X) (ρ 22 X) (dV P S d (!evn X) t) := by
      intro ρ t hb h0 ht
      have o1 := open_21 (w_mv P ρ (nI X)) (X := X + 1) (by omega)
      have o2 := open_frm (w_mv P ρ (nI X)) (X := X + 1) (by omega)
      have os : SEq P (sM (w_open (w_mv P ρ (nI X)) (nI (X + 1))) 12) (Ts S t) := by
        have e : sM (w_open (w_mv P ρ (nI X)) (nI (X + 1))) 12 = sM (w_mv P ρ (nI X)) 12 := sM_eq (funext fun k => o2.1 k)
        rw [e]; exact ht
      obtain ⟨c1, κ, hc, hf⟩ := dm_turn hpb hp0 hN d (X + 1) (by omega) _ t os o1.1 o1.2
      rw [evn_s] at hc
      obtain ⟨b1, b2, b3⟩ := wg_back (by omega) (o2.tr hf) hb h0 (dV P S d (!evn X) t)
      refine ⟨1 + c1, w_wg P κ (nI X) (dV P S d (!evn X) t), fun F came => ?_, b1, b2, b3⟩
      rw [go_t, nI_1, ← Nat.add_assoc, hc, rt_s P _ _ _ (by omega), dmO_in P hXN (by omega), nm_26 P _ (by omega)]
    have loop : ∀ m j, j + m = dK' P (evn X) → ∀ (f : Nat) (ρ : Mem), m + 1 ≤ f → Frm τ ρ X → ρ 21 X = nI (j + 1) →
        ∃ (c : Nat) (τ' : Mem), (∀ F came, goO P (nI N) (F + c) X (nmF P (nI X) f ρ) came = rtO P (nI N) F τ' X (run (dM P S d (evn X) s) j m (ρ 22 X))) ∧ Frm τ τ' X := by
      intro m
      induction m with
      | zero =>
        intro j hj f ρ hfu hfr hr21
        obtain ⟨f', rfl⟩ : ∃ f', f = f' + 1 := ⟨f - 1, by omega⟩
        have c1 : b_most P (nI X) < ρ 21 (ix (nI X)) := i_ltI (by rw [eX, hr21, hmost, nI_toInt (by omega)]; omega)
        refine ⟨0, ρ, fun F came => ?_, hfr⟩
        rw [nmF, if_pos c1, go_f, run, Nat.add_zero]
      | succ m ih =>
        intro j hj f ρ hfu hfr hr21
        obtain ⟨f', rfl⟩ : ∃ f', f = f' + 1 := ⟨f - 1, by omega⟩
        have hjK : j < dK' P (evn X) := by omega
        have c1 : ¬ b_most P (nI X) < ρ 21 (ix (nI X)) := fun q => by
          have z := i_lt q
          rw [eX, hr21, hmost, nI_toInt (by omega)] at z
          omega
        have hsρ := seqF ρ hfr
        have hpo := mv_po hpb hp0 (by omega) hr21 hjK hsρ
        rw [nmF, if_neg c1, run_front]
        by_cases hb : b_mv P ρ (nI X) = true
        · rw [if_pos hb]
          have e0 : 0 ≤ (ρ 21 X).toInt := by rw [hr21, nI_toInt (by omega)]; omega
          obtain ⟨c1, ρ', g1, g2, g3, g4⟩ := move ρ (dS P (evn X) s j) hb e0 (mv_seq hpb hp0 (by omega) hr21 hjK hsρ hb)
          have fr2 : Frm τ (mU ρ' 21 X (ρ' 21 X + 1)) X := by
            have w := hfr.tr g2
            refine ⟨fun k => by rw [mU_n _ _ _ (by decide)]; exact w.1 k, fun t ht => ⟨?_, ?_, ?_⟩, fun q q1 q2 q3 q4 => by rw [mU_n _ _ _ q2]; exact w.2.2 q q1 q2 q3 q4⟩
            · rw [mU_e, if_pos rfl, if_neg (by omega)]; exact (w.2.1 t ht).1
            · rw [mU_n _ _ _ (by decide)]; exact (w.2.1 t ht).2.1
            · rw [mU_n _ _ _ (by decide)]; exact (w.2.1 t ht).2.2
          obtain ⟨c2, τ', k1, k2⟩ := ih (j + 1) (by omega) 26 (mU ρ' 21 X (ρ' 21 X + 1)) (by omega) fr2 (by rw [mU_e, if_pos rfl, if_pos rfl, g3, hr21, nI_1])
          refine ⟨c2 + c1, τ', fun F came => ?_, k2⟩
          rw [← Nat.add_assoc, g1, k1, mU_n _ _ _ (show (22 : Nat) ≠ 21 by decide), g4]
          have ed : dM P S d (evn X) s j (ρ 22 X) = dC (evn X) (ρ 22 X) (dV P S d (!evn X) (dS P (evn X) s j)) := by
            unfold dM; rw [← hpo, if_pos hb]
          rw [ed]
        · rw [if_neg hb]
          have ew : w_mv P ρ (nI X) = ρ := by unfold w_mv; rw [eX, hr21, if_neg (nI_nz (by omega)), if_neg hb]
          have ed : dM P S d (evn X) s j (ρ 22 X) = ρ 22 X := by
            unfold dM; rw [← hpo, if_neg hb]
          rw [ew, eX, ed]
          have fr2 : Frm τ (mU ρ 21 X (ρ 21 X + 1)) X := by
            refine ⟨fun k => by rw [mU_n _ _ _ (by decide)]; exact hfr.1 k, fun t ht => ⟨?_, ?_, ?_⟩, fun q q1 q2 q3 q4 => by rw [mU_n _ _ _ q2]; exact hfr.2.2 q q1 q2 q3 q4⟩
            · rw [mU_e, if_pos rfl, if_neg (by omega)]; exact (hfr.2.1 t ht).1
            · rw [mU_n _ _ _ (by decide)]; exact (hfr.2.1 t ht).2.1
            · rw [mU_n _ _ _ (by decide)]; exact (hfr.2.1 t ht).2.2
          obtain ⟨c2, τ', k1, k2⟩ := ih (j + 1) (by omega) f' (mU ρ 21 X (ρ 21 X + 1)) (by omega) fr2 (by rw [mU_e, if_pos rfl, if_pos rfl, hr21, nI_1])
          refine ⟨c2, τ', fun F came => ?_, k2⟩
          rw [k1, mU_n _ _ _ (show (22 : Nat) ≠ 21 by decide)]
    -- nobody moves, at first
    have m1 : (-1 : Int32) + 1 = 0 := by decide
    have fr0 : Frm τ (mU τ 21 X 0) X := by
      refine ⟨fun k => by rw [mU_n _ _ _ (by decide)], fun t ht => ⟨?_, ?_, ?_⟩, fun q q1 q2 q3 q4 => by rw [mU_n _ _ _ q2]⟩
      · rw [mU_e, if_pos rfl, if_neg (by omega)]
      · rw [mU_n _ _ _ (by decide)]
      · rw [mU_n _ _ _ (by decide)]
    have z21 : mU τ 21 X 0 21 X = 0 := by rw [mU_e, if_pos rfl, if_pos rfl]
    have hb0 : b_mv P (mU τ 21 X 0) (nI X) = true := by unfold b_mv; rw [eX, z21, if_pos rfl]
    have ew0 : w_mv P (mU τ 21 X 0) (nI X) = mU τ 21 X 0 := by unfold w_mv; rw [eX, z21, if_pos rfl]
    have nm0 : nmF P (nI X) 26 (mU τ 21 X 0) = (true, w_mv P (mU τ 21 X 0) (nI X)) := by
      have c1 : ¬ b_most P (nI X) < mU τ 21 X 0 21 (ix (nI X)) := fun q => by
        have z := i_lt q
        rw [eX, z21, hmost, show (0 : Int32).toInt = 0 by decide] at z
        omega
      rw [nmF, if_neg c1, if_pos hb0]
    obtain ⟨c1, ρ', g1, g2, g3, g4⟩ := move (mU τ 21 X 0) s hb0 (by rw [z21]; decide) (by rw [ew0]; exact seqF _ fr0)
    have fr2 : Frm τ (mU ρ' 21 X (ρ' 21 X + 1)) X := by
      have w := fr0.tr g2
      refine ⟨fun k => by rw [mU_n _ _ _ (by decide)]; exact w.1 k, fun t ht => ⟨?_, ?_, ?_⟩, fun q q1 q2 q3 q4 => by rw [mU_n _ _ _ q2]; exact w.2.2 q q1 q2 q3 q4⟩
      · rw [mU_e, if_pos rfl, if_neg (by omega)]; exact (w.2.1 t ht).1
      · rw [mU_n _ _ _ (by decide)]; exact (w.2.1 t ht).2.1
      · rw [mU_n _ _ _ (by decide)]; exact (w.2.1 t ht).2.2
    obtain ⟨c2, τ', k1, k2⟩ := loop (dK' P (evn X)) 0 (Nat.zero_add _) 26 (mU ρ' 21 X (ρ' 21 X + 1)) (by omega) fr2 (by rw [mU_e, if_pos rfl, if_pos rfl, g3, z21]; rfl)
    refine ⟨c2 + c1 + 1, τ', fun F came => ?_, k2⟩
    rw [show F + (c2 + c1 + 1) = F + c2 + c1 + 1 by omega, dmO_in P hXN (by omega), nm_26 P _ (by omega), h21, m1, nm0, g1, k1, mU_n _ _ _ (show (22 : Nat) ≠ 21 by decide), g4, mU_n _ _ _ (show (22 : Nat) ≠ 21 by decide), h22, dV_s]
