/-! level 2: duel -/
theorem okS_set {P S : PT} {s : Nat → Int32} (h : okS P S s (nPe P)) {i : Nat} {v : Int32} (hv : v = -9 ∨ a_isUp P S v = true) : okS P S (sU s i v) (nPe P) := fun j hj => by
  by_cases c : j = i
  · rw [c, sU_e]; exact hv
  · rw [sU_n _ _ c]; exact h j hj
theorem dS_ok {P S : PT} {s : Nat → Int32} {b : Bool} {j : Nat} (h : okS P S s (nPe P)) (hp : dPo P S b s j = true) : okS P S (dS P b s j) (nPe P) := by
  unfold dS
  by_cases c : b = true
  · unfold dPo at hp
    rw [if_pos c, Bool.and_eq_true] at hp
    rw [if_pos c]; exact okS_set h (Or.inr hp.2)
  · rw [if_neg c]; exact okS_set h (Or.inl rfl)
theorem forR_inv {α : Type} {f : Nat → α → α} (R : α → Prop) : ∀ n x, R x → (∀ k, k < n → ∀ x, R x → R (f k x)) → R (forR f n x)
  | 0, _, h, _ => h
  | n + 1, x, h, s => by
    rw [forR]
    exact s n (by omega) _ (forR_inv R n x h fun k hk => s k (by omega))
theorem dV_i {P S : PT} (hpb : PB P) (hr : PR P) : ∀ d b s, okS P S s (nPe P) → 0 ≤ (dV P S d b s).toInt ∧ (dV P S d b s).toInt ≤ 45
  | 0, b, s, h => by
    rw [dV]
    refine worth_i hpb hr fun i hi => ?_
    rcases h i hi with q | q
    · exact Or.inl q
    · exact Or.inr q
  | d + 1, b, s, h => by
    have h0 := dV_i hpb hr d (!b) s h
    have kE : (1000000 : Int32).toInt = 1000000 := by decide
    have kM : (-1000000 : Int32).toInt = -1000000 := by decide
    rw [dV_s, run_forR]
    refine forR_inv (fun v : Int32 => 0 ≤ v.toInt ∧ v.toInt ≤ 45) _ _ ?_ fun k hk v hv => ?_
    · show 0 ≤ (dC b (dE b) (dV P S d (!b) s)).toInt ∧ (dC b (dE b) (dV P S d (!b) s)).toInt ≤ 45
      unfold dC dE
      by_cases c : b = true
      · rw [if_pos c, if_pos c, imax_i, kM]; split <;> omega
      · rw [if_neg c, if_neg c, imin_i, kE]; split <;> omega
    · show 0 ≤ (dM P S d b s (0 + k) v).toInt ∧ (dM P S d b s (0 + k) v).toInt ≤ 45
      unfold dM
      by_cases c : dPo P S b s (0 + k) = true
      · have w := dV_i hpb hr d (!b) _ (dS_ok h c)
        rw [if_pos c]
        unfold dC
        by_cases e : b = true
        · rw [if_pos e, imax_i]; split <;> omega
        · rw [if_neg e, imin_i]; split <;> omega
      · rw [if_neg c]; exact hv
theorem dC_1 {b : Bool} {v : Int32} (h : 0 ≤ v.toInt ∧ v.toInt ≤ 45) : dC b (dE b) v = v := by
  have kE : (1000000 : Int32).toInt = 1000000 := by decide
  have kM : (-1000000 : Int32).toInt = -1000000 := by decide
  unfold dC dE imax imin
  by_cases c : b = true
  · rw [if_pos c, if_pos c, if_pos (i_ltI (by omega))]
  · rw [if_neg c, if_neg c, if_pos (i_ltI (by omega))]
theorem g_ab {P S : PT} (hpb : PB P) (hr : PR P) : ∀ (d : Nat) (b : Bool) (σ : Mem) (s : Nat → Int32) (low top : Int32), InvG P S σ s → low.toInt < top.toInt → ABr (g_val P d b σ low top).toInt (dV P S d b s).toInt low.toInt top.toInt
  | 0, b, σ, s, low, top, hI, hl => by
    rw [g_val_0, dV, worth_x hpb hI]
    exact ⟨fun _ => Int.le_refl _, fun _ => Int.le_refl _, fun _ _ => rfl⟩
  | d + 1, true, σ, s, low, top, hI, hl => by
    have h4 := (PB_pl hpb).2.1
    have h5 := (PB_pe hpb).2.1
    have eK : dK' P true = nPe P * nPl P := rfl
    rw [g_val_st, dV_s, dC_1 (dV_i hpb hr d _ s hI.2.2.2.2.2), eK, run_blocks, foldN_forR]
    refine forR_2 (fun (m v : Int32) => ABr m.toInt v.toInt low.toInt top.toInt) _ _ _ (g_ab hpb hr d false σ s low top hI hl) fun i hi m v hR => ?_
    show ABr (g_si P d σ low top i m).toInt (run (dM P S d true s) (0 + i * nPl P) (nPl P) v).toInt low.toInt top.toInt
    unfold g_si
    rw [run_forR, foldN_forR]
    refine forR_2 (fun (m v : Int32) => ABr m.toInt v.toInt low.toInt top.toInt) _ _ _ hR fun k hk m v hR => ?_
    show ABr (g_sk P d σ low top i k m).toInt (dM P S d true s (0 + i * nPl P + k) v).toInt low.toInt top.toInt
    have hp0 : 0 < nPl P := by omega
    have e1 : (0 + i * nPl P + k) / nPl P = i := by rw [Nat.zero_add, Nat.mul_comm, Nat.mul_add_div hp0, Nat.div_eq_of_lt hk, Nat.add_zero]
    have e2 : (0 + i * nPl P + k) % nPl P = k := by rw [Nat.zero_add, Nat.mul_comm, Nat.mul_add_mod, Nat.mod_eq_of_lt hk]
    have es := hI.1 i hi
    have eb := up_bit (P := P) (S := S) hpb hk
    unfold g_sk dM dPo dS dC
    rw [if_pos rfl, if_pos rfl, if_pos rfl, e1, e2, es, hI.2.2.2.2.1]
    by_cases c1 : s i = -9
    · rw [decide_eq_true c1, Bool.true_and]
      by_cases c2 : m < top
      · have d2 := i_lt c2
        rw [if_pos ⟨c1, c2⟩]
        by_cases c3 : a_isUp P S (nI k) = true
        · rw [if_pos (eb.mpr c3), if_pos c3, imax_i, imax_i]
          have el := imax_i low m
          have ih := g_ab hpb hr d false (m_seat P σ i (nI k)) (sU s i (nI k)) (imax low m) top (seat_G hpb hI hi hk c1 c3) (by rw [el]; split <;> omega)
          rw [el] at ih
          exact ab_max hR d2 hl ih
        · rw [if_neg (fun q => c3 (eb.mp q)), if_neg c3]; exact hR
      · have d2 := i_nlt c2
        rw [if_neg (fun q => c2 q.2)]
        by_cases c3 : a_isUp P S (nI k) = true
        · rw [if_pos c3, imax_i]
          have := hR.2.1 d2
          refine ⟨fun q => by omega, fun q => ?_, fun q1 q2 => by omega⟩
          split <;> omega
        · rw [if_neg c3]; exact hR
    · rw [decide_eq_false c1, Bool.false_and, if_neg (fun q => c1 q.1), if_neg (show ¬ (false = true) by decide)]; exact hR
  | d + 1, false, σ, s, low, top, hI, hl => by
    have h5 := (PB_pe hpb).2.1
    have eK : dK' P false = nPe P := rfl
    rw [g_val_sf, dV_s, dC_1 (dV_i hpb hr d _ s hI.2.2.2.2.2), eK, run_forR, foldN_forR]
    refine forR_2 (fun (m v : Int32) => ABr m.toInt v.toInt low.toInt top.toInt) _ _ _ (g_ab hpb hr d true σ s low top hI hl) fun i hi m v hR => ?_
    show ABr (g_ci P d σ low top i m).toInt (dM P S d false s (0 + i) v).toInt low.toInt top.toInt
    have es := hI.1 i hi
    have nf : ¬ (false = true) := by decide
    unfold g_ci dM dPo dS dC
    rw [if_neg nf, if_neg nf, if_neg nf, Nat.zero_add, es]
    by_cases c1 : s i = -9
    · rw [decide_eq_true c1, if_pos c1]
      show ABr (if low < m then m else m).toInt (if (!true) = true then _ else v).toInt low.toInt top.toInt
      rw [if_neg (show ¬ (!true) = true by decide)]
      split <;> exact hR
    · rw [decide_eq_false c1, if_neg c1, if_pos (show (!false) = true by decide)]
      by_cases c2 : low < m
      · have d2 := i_lt c2
        rw [if_pos c2, imin_i, imin_i]
        have el := imin_i top m
        have ih := g_ab hpb hr d true (m_unseat P σ i) (sU s i (-9)) low (imin top m) (unseat_G hpb hI hi c1) (by rw [el]; split <;> omega)
        rw [el] at ih
        exact ab_min hR d2 hl ih
      · have d2 := i_nlt c2
        rw [if_neg c2, imin_i]
        have := hR.1 d2
        refine ⟨fun q => ?_, fun q => by omega, fun q1 q2 => by omega⟩
        split <;> omega
/-- the schools' begin -/
theorem seats_G {P S : PT} (hpb : PB P) {τ : Mem} (ho : okS P S (S 2) (nPe P)) (h69 : ∀ k, k < nPl P → τ 69 k = 0) (h70 : ∀ k, k < nPl P → τ 70 k = 0) : ∀ n, n ≤ nPe P →
    (∀ i, i < n → m_seatsN P (S 2) n τ 68 i = S 2 i) ∧ (∀ k, k < nPl P → m_seatsN P (S 2) n τ 69 k = LI P (S 2) n (nI k)) ∧ (∀ k, k < nPl P → m_seatsN P (S 2) n τ 70 k = HK P (S 2) n (nI k))
  | 0, _ => ⟨fun i hi => absurd hi (Nat.not_lt_zero _), h69, h70⟩
  | n + 1, hn => by
    have h4 := (PB_pl hpb).2.1
    obtain ⟨a1, a2, a3⟩ := seats_G hpb ho h69 h70 n (by omega)
    rw [m_seatsN]
    generalize m_seatsN P (S 2) n τ = ρ at a1 a2 a3 ⊢
    have eL : ∀ k, LI P (S 2) (n + 1) k = LI P (S 2) n k + (if S 2 n = k then a_loadBy P (nI n) k else 0) := fun k => rfl
    have eH : ∀ k, HK P (S 2) (n + 1) k = HK P (S 2) n k + (if S 2 n = k then a_high P (nI n) k else 0) := fun k => rfl
    rcases ho n (by omega) with q | q
    · have e : m_seat P (mU ρ 68 n (-9)) n (S 2 n) = mU ρ 68 n (-9) := by unfold m_seat; rw [q, isPole_9]; rfl
      rw [e]
      refine ⟨fun i hi => ?_, fun k hk => ?_, fun k hk => ?_⟩
      · rw [mU_e, if_pos rfl]
        by_cases c : i = n
        · rw [if_pos c, c, q]
        · rw [if_neg c]; exact a1 i (by omega)
      · rw [mU_n _ _ _ (by decide), eL, q, if_neg (pole_n9 (pole_nI hpb hk)), Int32.add_zero]; exact a2 k hk
      · rw [mU_n _ _ _ (by decide), eH, q, if_neg (pole_n9 (pole_nI hpb hk)), Int32.add_zero]; exact a3 k hk
    · have hp := up_of_seat q
      have hx := isPole_ix hp
      have ek := ix_nI (isPole_t hp).1
      have e : m_seat P (mU ρ 68 n (-9)) n (S 2 n) = mU (mU (mU (mU ρ 68 n (-9)) 68 n (S 2 n)) 69 (ix (S 2 n)) (ρ 69 (ix (S 2 n)) + a_loadBy P (nI n) (S 2 n))) 70 (ix (S 2 n)) (ρ 70 (ix (S 2 n)) + a_high P (nI n) (S 2 n)) := by
        unfold m_seat
        rw [if_pos hp, mU_n _ _ _ (show (69 : Nat) ≠ 68 by decide), mU_n _ _ _ (show (70 : Nat) ≠ 68 by decide)]
      have inj : ∀ j, j < nPl P → (S 2 n = nI j ↔ j = ix (S 2 n)) := fun j hj => by
        constructor
        · intro w; rw [w, ix_of (by omega)]
        · intro w; rw [w]; exact ek
      rw [e]
      refine ⟨fun i hi => ?_, fun k hk => ?_, fun k hk => ?_⟩
      · rw [mU_n _ _ _ (by decide), mU_n _ _ _ (by decide), mU_e, if_pos rfl]
        by_cases c : i = n
        · rw [if_pos c, c]
        · rw [if_neg c, mU_e, if_pos rfl, if_neg c]; exact a1 i (by omega)
      · rw [mU_n _ _ _ (by decide), mU_e, if_pos rfl, eL]
        by_cases c : k = ix (S 2 n)
        · rw [if_pos c, if_pos ((inj k hk).mpr c), c, a2 _ hx, ← ek]
        · rw [if_neg c, if_neg (fun w => c ((inj k hk).mp w)), Int32.add_zero, mU_n _ _ _ (by decide), mU_n _ _ _ (by decide)]; exact a2 k hk
      · rw [mU_e, if_pos rfl, eH]
        by_cases c : k = ix (S 2 n)
        · rw [if_pos c, if_pos ((inj k hk).mpr c), c, a3 _ hx, ← ek]
        · rw [if_neg c, if_neg (fun w => c ((inj k hk).mp w)), Int32.add_zero, mU_n _ _ _ (by decide), mU_n _ _ _ (by decide), mU_n _ _ _ (by decide)]; exact a3 k hk
theorem begin_G {P S : PT} (hpb : PB P) (σ : Mem) (ho : okS P S (S 2) (nPe P)) : InvG P S (m_gBegin P S σ) (S 2) := by
  have q := seats_G (S := S) hpb (τ := mF (mF (mF (mU σ 67 0 (a_up P S)) 69 (nPl P) (fun _ => 0)) 70 (nPl P) (fun _ => 0)) 71 (nPl P) (fun k => a_bearsNow P S (nI k))) ho
    (fun k hk => by rw [mF_n _ _ _ (by decide), mF_n _ _ _ (by decide), mF_e, if_pos rfl, if_pos hk]) (fun k hk => by rw [mF_n _ _ _ (by decide), mF_e, if_pos rfl, if_pos hk]) (nPe P) (Nat.le_refl _)
  refine ⟨q.1, q.2.1, q.2.2, fun k hk => ?_, ?_, ho⟩
  · unfold m_gBegin
    rw [m_seatsN_n _ _ (by decide), mF_e, if_pos rfl, if_pos hk]
  · unfold m_gBegin
    rw [m_seatsN_n _ _ (by decide), mF_n _ _ _ (by decide), mF_n _ _ _ (by decide), mF_n _ _ _ (by decide), mU_e, if_pos rfl, if_pos rfl]
theorem run_c {α : Type} {st su : Nat → α → α} (a : Nat) : ∀ n x, (∀ j y, st j y = su j y) → run st a n x = run su a n x
  | 0, _, _ => rfl
  | n + 1, x, h => by rw [run, run, run_c a n x h, h]
theorem dV_c {P Q S T : PT} (h : PEq P Q) (hs : SEq P S T) : ∀ d b s, dV P S d b s = dV Q T d b s
  | 0, _, s => pe_worth h (Ts_c hs s)
  | d + 1, b, s => by
    rw [dV_s, dV_s, dV_c h hs d (!b) s]
    have eK : dK' P b = dK' Q b := by unfold dK'; rw [h.pl, h.pe]
    rw [eK]
    refine run_c 0 _ _ fun j y => ?_
    have e1 : dPo P S b s j = dPo Q T b s j := by unfold dPo; rw [h.pl, pe_isUp h hs]
    have e2 : dS P b s j = dS Q b s j := by unfold dS; rw [h.pl]
    unfold dM
    rw [e1, e2, dV_c h hs d (!b) (dS Q b s j)]
theorem dV_t {P S : PT} {s t : Nat → Int32} (e : ∀ i, i < nPe P → s i = t i) (hp0 : 0 < nPl P) : ∀ d b, dV P S d b s = dV P S d b t := by
  have key : ∀ d b (s t : Nat → Int32), (∀ i, i < nPe P → s i = t i) → dV P S d b s = dV P S d b t := by
    intro d
    induction d with
    | zero =>
      intro b s t e
      exact pe_worth PEq.rfl' ⟨rfl, rfl, rfl, fun _ _ => rfl, e⟩
    | succ d ih =>
      intro b s t e
      rw [dV_s, dV_s, ih (!b) s t e, run_forR, run_forR]
      refine forR_c _ (fun j hj y => ?_) _
      rw [Nat.zero_add]
      have hi : b = true → j / nPl P < nPe P := fun c => by unfold dK' at hj; rw [if_pos c] at hj; exact (Nat.div_lt_iff_lt_mul hp0).mpr hj
      have hi2 : ¬ b = true → j < nPe P := fun c => by unfold dK' at hj; rw [if_neg c] at hj; exact hj
      have e1 : dPo P S b s j = dPo P S b t j := by
        unfold dPo
        by_cases c : b = true
        · rw [if_pos c, if_pos c, e _ (hi c)]
        · rw [if_neg c, if_neg c, e _ (hi2 c)]
      have e2 : ∀ i, i < nPe P → dS P b s j i = dS P b t j i := fun i hi => by
        unfold dS
        by_cases c : b = true
        · rw [if_pos c, if_pos c]; unfold sU; rw [e i hi]
        · rw [if_neg c, if_neg c]; unfold sU; rw [e i hi]
      unfold dM
      rw [e1, ih (!b) _ _ e2]
  exact fun d b => key d b s t e
theorem op_duel {σ μ : Mem} (h : Rl σ μ) (n : Int32) : ∃ (F : Nat) (res : Int32 × Mem), (b_in n.toInt64 0 4 = true → ¬ μ 0 4 = 0 → dmO (pM μ) n F (w_open (w_aside μ) 0) 0 0 = some res) ∧
    Ag (k_duel σ n) (if b_in n.toInt64 0 4 = true then (if μ 0 4 = 0 then -4 else res.1) else -1, if b_in n.toInt64 0 4 = true then (if μ 0 4 = 0 then μ else res.2) else μ) := by
  have hp := h.1.1
  have hs := h.2.2.2.1.2.2.1
  have hpb := h.1.2.1
  have hr := h.1.2.2.1
  have hb : b_in n.toInt64 0 4 = true ↔ ¬ n < 0 ∧ ¬ 4 < n := bin_iff (by decide) (by decide)
  have k0 : (0 : Int32).toInt = 0 := by decide
  have k4 : (4 : Int32).toInt = 4 := by decide
  by_cases c1 : n < 0
  · refine ⟨0, (0, μ), fun q => absurd c1 (hb.mp q).1, ?_⟩
    unfold k_duel
    rw [if_pos c1, if_neg (fun q => (hb.mp q).1 c1), if_neg (fun q => (hb.mp q).1 c1)]
    exact Ag.same h _
  · by_cases c2 : 4 < n
    · refine ⟨0, (0, μ), fun q => absurd c2 (hb.mp q).2, ?_⟩
      unfold k_duel
      rw [if_neg c1, if_pos c2, if_neg (fun q => (hb.mp q).2 c2), if_neg (fun q => (hb.mp q).2 c2)]
      exact Ag.same h _
    · have hbt := hb.mpr ⟨c1, c2⟩
      by_cases c : μ 0 4 = 0
      · refine ⟨0, (0, μ), fun _ q => absurd c q, ?_⟩
        unfold k_duel
        rw [if_neg c1, if_neg c2, pl_0 h, if_pos c, if_pos hbt, if_pos hbt, if_pos c, if_pos c]
        exact Ag.same h _
      · have d1 := i_nlt c1
        have d2 := i_nlt c2
        rw [k0] at d1
        rw [k4] at d2
        have hn := ix_toInt d1
        have en := ix_nI d1
        have hN : ix n ≤ 4 := by omega
        have hp0 : 0 < nPl (pM μ) := by
          have q := (PB_pl hpb).2.2
          have e := i_ne c
          have e2 : (pM μ 0 0).toInt = (μ 0 4).toInt := rfl
          rw [k0] at e
          omega
        have o1 := open_21 (w_aside μ) (X := 0) (by decide)
        have o2 := open_frm (w_aside μ) (X := 0) (by decide)
        have os : SEq (pM μ) (sM (w_open (w_aside μ) (nI 0)) 12) (Ts (sM μ 11) (sM μ 11 2)) := by
          have e : sM (w_open (w_aside μ) (nI 0)) 12 = sM (w_aside μ) 12 := sM_eq (funext fun k => o2.1 k)
          rw [e]
          have z := (asideM_rel (pM μ) (PB_pl hpb).2.1 (PB_pe hpb).2.1 μ).sy
          exact ⟨z.1, z.2.1, z.2.2.1, z.2.2.2.1, z.2.2.2.2⟩
        obtain ⟨cc, τ', hF, hfr⟩ := dm_turn (S := sM μ 11) hpb hp0 hN (ix n) 0 (Nat.zero_add _) (w_open (w_aside μ) (nI 0)) (sM μ 11 2) os o1.1 o1.2
        have hfin := hF 1 0
        rw [← en] at hfin
        have hrt : rtO (pM μ) n 1 τ' 0 (dV (pM μ) (sM μ 11) (ix n) (evn 0) (sM μ 11 2)) = some (dV (pM μ) (sM μ 11) (ix n) (evn 0) (sM μ 11 2), τ') := by
          unfold rtO
          have e : nI 0 + (-1) < 0 := by decide
          rw [if_pos e, dmO, if_pos e]
        rw [hrt] at hfin
        refine ⟨1 + cc, (dV (pM μ) (sM μ 11) (ix n) (evn 0) (sM μ 11 2), τ'), fun _ _ => hfin, ?_⟩
        have ho : okS (vP σ 33) (vS σ 45) (vS σ 45 2) (nPe (vP σ 33)) := fun i hi => by
          have hi' : i < nPe (pM μ) := by rw [← hp.pe]; exact hi
          rw [pe_isUp hp hs, hs.2.2.2.2 i hi]
          exact h.2.2.2.1.2.2.2.2.1 i hi'
        have hpbX : PB (vP σ 33) := PB_of hp hpb
        have hrX : PR (vP σ 33) := PR_of hp hr
        have hg := g_ab hpbX hrX (ix n) true (m_gBegin (vP σ 33) (vS σ 45) σ) (vS σ 45 2) (-1) 1000 (begin_G hpbX σ ho) (by decide)
        have hv := dV_i (S := vS σ 45) hpbX hrX (ix n) true (vS σ 45 2) ho
        have ev : (dV (vP σ 33) (vS σ 45) (ix n) true (vS σ 45 2)) = dV (pM μ) (sM μ 11) (ix n) (evn 0) (sM μ 11 2) := by
          have e0 : evn 0 = true := by decide
          rw [e0, dV_c hp hs]
          exact dV_t (fun i hi => hs.2.2.2.2 i (by rw [hp.pe]; exact hi)) hp0 _ _
        have er : g_val (vP σ 33) (ix n) true (m_gBegin (vP σ 33) (vS σ 45) σ) (-1) 1000 = dV (pM μ) (sM μ 11) (ix n) (evn 0) (sM μ 11 2) := by
          rw [← ev]
          apply i_eqI
          obtain ⟨g1, g2, g3⟩ := hg
          rw [show (-1 : Int32).toInt = -1 by decide] at g1 g3
          rw [show (1000 : Int32).toInt = 1000 by decide] at g2 g3
          generalize (g_val (vP σ 33) (ix n) true (m_gBegin (vP σ 33) (vS σ 45) σ) (-1) 1000).toInt = a at g1 g2 g3 ⊢
          generalize (dV (vP σ 33) (vS σ 45) (ix n) true (vS σ 45 2)).toInt = v at g1 g2 g3 hv ⊢
          by_cases q1 : a ≤ -1
          · have := g1 q1; omega
          · by_cases q2 : 1000 ≤ a
            · have := g2 q2; omega
            · exact g3 (by omega) (by omega)
        unfold k_duel
        rw [if_neg c1, if_neg c2, pl_0 h, if_neg c, if_pos hbt, if_pos hbt, if_neg c, if_neg c, er]
        refine ⟨rfl, Rl_aside h (fun q hq => m_gBegin_n _ _ _ (by omega)) (fun q h12 h15 => ?_)⟩
        show τ' q = μ q
        rw [hfr.2.2 q h12 (by omega) (by omega) (by omega), w_open_n _ _ ⟨by omega, by omega⟩, w_aside_n _ h12]
