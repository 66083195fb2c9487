/-! level 2: odds, mid -/
theorem sum_b (f : Nat → Int32) (B : Nat) (hB : B ≤ 100) : ∀ n, n ≤ 100 → (∀ i, i < n → 0 ≤ (f i).toInt ∧ (f i).toInt ≤ (B : Int)) → 0 ≤ (a_sum f n).toInt ∧ (a_sum f n).toInt ≤ (B : Int) * (n : Int)
  | 0, _, _ => by rw [a_sum, show (0 : Int32).toInt = 0 by decide]; omega
  | n + 1, hn, h => by
    have ih := sum_b f B hB n (by omega) (fun i hi => h i (by omega))
    have hq := h n (by omega)
    have hm : (B : Int) * (n : Int) ≤ 100 * 100 := Int.mul_le_mul (by omega) (by omega) (by omega) (by omega)
    have he : (B : Int) * ((n + 1 : Nat) : Int) = (B : Int) * (n : Int) + (B : Int) := by rw [Int.natCast_add, Int.mul_add]; simp
    rw [a_sum, add_i (by omega) (by omega), he]
    omega
theorem worth_e {P S : PT} (ho : seatsOk P S) : a_highStanding P S = b_worth P S := by
  unfold a_highStanding b_worth
  exact a_sum_c _ (fun i hi => by
    rcases ho i hi with q | q
    · rw [if_pos q, q]
      have : a_stands P S (-9) = false := by
        unfold a_stands a_isUp
        have : a_isPole P (-9) = false := by unfold a_isPole; rw [decide_eq_false (by decide)]; rfl
        rw [this]; rfl
      rw [this, if_neg (by decide)]
    · have n9 : ¬ S 2 i = -9 := fun e => by
        have w := up_of_seat q
        rw [e] at w
        exact absurd (isPole_t w).1 (by decide)
      rw [if_neg n9]
      unfold a_stands
      rw [q, Bool.true_and]
      by_cases c : a_load P S (S 2 i) ≤ a_bearsNow P S (S 2 i)
      · rw [decide_eq_true c, if_pos rfl, if_pos c]
      · rw [decide_eq_false c, if_neg (by decide), if_neg c])
theorem worth_i {P S : PT} (hpb : PB P) (hr : PR P) (ho : seatsOk P S) : 0 ≤ (b_worth P S).toInt ∧ (b_worth P S).toInt ≤ 45 := by
  have h5 := (PB_pe hpb).2.1
  have k0 : (0 : Int32).toInt = 0 := by decide
  have q := sum_b (fun i => if S 2 i = -9 then 0 else if a_load P S (S 2 i) ≤ a_bearsNow P S (S 2 i) then a_high P (nI i) (S 2 i) else 0) 9 (by decide) (nPe P) (by omega) (fun i hi => by
    show 0 ≤ (if S 2 i = -9 then (0 : Int32) else if a_load P S (S 2 i) ≤ a_bearsNow P S (S 2 i) then a_high P (nI i) (S 2 i) else 0).toInt ∧ (if S 2 i = -9 then (0 : Int32) else if a_load P S (S 2 i) ≤ a_bearsNow P S (S 2 i) then a_high P (nI i) (S 2 i) else 0).toInt ≤ ((9 : Nat) : Int)
    have w := high_i hr (one_nI hpb hi) (k := S 2 i) (by
      rcases ho i hi with q | q
      · exact Or.inl q
      · exact Or.inr (up_of_seat q))
    split
    · omega
    · split
      · omega
      · omega)
  unfold b_worth
  omega
theorem twelve {x q : Int32} (hx : 0 ≤ x.toInt ∧ x.toInt ≤ 45) (hq : 0 ≤ q.toInt ∧ q.toInt ≤ 12) : 0 ≤ (x * (12 - q)).toInt ∧ (x * (12 - q)).toInt ≤ 540 := by
  have e : (12 - q).toInt = 12 - q.toInt := by rw [sub_i (by decide) ⟨by omega, by omega⟩]; rfl
  have hm : x.toInt * (12 - q.toInt) ≤ 45 * 12 := Int.mul_le_mul (by omega) (by omega) (by omega) (by omega)
  have h0 : 0 ≤ x.toInt * (12 - q.toInt) := Int.mul_nonneg (by omega) (by omega)
  have em : (x * (12 - q)).toInt = x.toInt * (12 - q.toInt) := by rw [Int32.toInt_mul, e]; exact Int.bmod_eq_of_le (by omega) (by omega)
  omega
theorem Rl_w_aside {σ μ : Mem} (h : Rl σ μ) : Rl σ (w_aside μ) := Rl_aside h (fun _ _ => rfl) (fun _ h12 _ => w_aside_n _ h12)
theorem ok_aside {σ μ : Mem} (h : Rl σ μ) : seatsOk (pM μ) (sM (w_aside μ) 12) := seatsOk_c (asideM_rel (pM μ) (PB_pl h.1.2.1).2.1 (PB_pe h.1.2.1).2.1 μ) h.2.2.2.1.2.2.2.2.1
theorem mid_w {σ μ : Mem} (h : Rl σ μ) {q : Int32} (q0 : 0 ≤ q.toInt) (q1 : q.toInt ≤ 12) : 0 ≤ (b_worth (pM μ) (sM (w_aside μ) 12) * (12 - q)).toInt ∧ (b_worth (pM μ) (sM (w_aside μ) 12) * (12 - q)).toInt ≤ 540 :=
  twelve (worth_i h.1.2.1 h.1.2.2.1 (ok_aside h)) ⟨q0, q1⟩
theorem op_odds {σ μ : Mem} (h : Rl σ μ) (i q : Int32) : Ag (k_odds σ i q) (n_odds μ i q) := by
  have hp := h.1.1
  have hs := h.2.2.2.1.2.2.1
  have hb : b_in q.toInt64 0 12 = true ↔ ¬ q < 0 ∧ ¬ 12 < q := bin_iff (by decide) (by decide)
  have k0 : (0 : Int32).toInt = 0 := by decide
  have k12 : (12 : Int32).toInt = 12 := by decide
  unfold k_odds n_odds
  rw [pe_isOne hp]
  by_cases c : a_isOne (pM μ) i = true
  · rw [if_pos c, if_pos c]
    by_cases c1 : q < 0
    · rw [if_pos c1, if_neg (fun w => (hb.mp w).1 c1)]; exact Ag.same h _
    · rw [if_neg c1]
      by_cases c2 : 12 < q
      · rw [if_pos c2, if_neg (fun w => (hb.mp w).2 c2)]; exact Ag.same h _
      · rw [if_neg c2, if_pos (hb.mpr ⟨c1, c2⟩)]
        have d1 := i_nlt c1
        have d2 := i_nlt c2
        have e12 : (12 - q).toInt = 12 - q.toInt := by rw [sub_i (by decide) ⟨by omega, by omega⟩]; rfl
        have es : σ 47 (ix i) = μ 11 (5 + ix i) := hs.2.2.2.2 _ (by rw [hp.pe]; exact isOne_ix c)
        have ex : (if a_stands (vP σ 33) (vS σ 45) (σ 47 (ix i)) = true then 12 - q else 0) = od_x μ i q := by
          rw [es, pe_stands hp hs]
          unfold od_x
          rcases h.2.2.2.1.2.2.2.2.1 (ix i) (isOne_ix c) with w | w
          · have w' : μ 11 (5 + ix i) = -9 := w
            have z : a_stands (pM μ) (sM μ 11) (-9) = false := by
              unfold a_stands a_isUp
              have : a_isPole (pM μ) (-9) = false := by unfold a_isPole; rw [decide_eq_false (by decide)]; rfl
              rw [this]; rfl
            rw [w', z, if_neg (by decide), if_pos rfl]
          · have w' : a_isUp (pM μ) (sM μ 11) (μ 11 (5 + ix i)) = true := w
            have n9 : ¬ μ 11 (5 + ix i) = -9 := fun e => by
              have v := up_of_seat w'
              rw [e] at v
              exact absurd (isPole_t v).1 (by decide)
            rw [if_neg n9]
            unfold a_stands
            rw [w', Bool.true_and]
            by_cases d : a_load (pM μ) (sM μ 11) (μ 11 (5 + ix i)) ≤ a_bearsNow (pM μ) (sM μ 11) (μ 11 (5 + ix i))
            · rw [decide_eq_true d, if_pos rfl, if_pos d]
            · rw [decide_eq_false d, if_neg (by decide), if_neg d]
        rw [ex]
        have hx : 0 ≤ (od_x μ i q).toInt ∧ (od_x μ i q).toInt ≤ 540 := by
          unfold od_x
          split
          · decide
          · split
            · omega
            · decide
        exact Ag.same (Rl_tw h hx.1 hx.2) _
  · rw [if_neg c, if_neg c]; exact Ag.same h _
theorem op_mid {σ μ : Mem} (h : Rl σ μ) (q : Int32) : Ag (k_mid σ q) (n_mid μ q) := by
  have hp := h.1.1
  have hs := h.2.2.2.1.2.2.1
  have hb : b_in q.toInt64 0 12 = true ↔ ¬ q < 0 ∧ ¬ 12 < q := bin_iff (by decide) (by decide)
  have k0 : (0 : Int32).toInt = 0 := by decide
  have k12 : (12 : Int32).toInt = 12 := by decide
  unfold k_mid n_mid
  by_cases c1 : q < 0
  · rw [if_pos c1, if_neg (fun w => (hb.mp w).1 c1)]; exact Ag.same h _
  · rw [if_neg c1]
    by_cases c2 : 12 < q
    · rw [if_pos c2, if_neg (fun w => (hb.mp w).2 c2)]; exact Ag.same h _
    · rw [if_neg c2, if_pos (hb.mpr ⟨c1, c2⟩), pl_0 h]
      by_cases c : μ 0 4 = 0
      · rw [if_pos c, if_pos c]; exact Ag.same h _
      · rw [if_neg c, if_neg c]
        have d1 := i_nlt c1
        have d2 := i_nlt c2
        have sa := asideM_rel (vP σ 33) (RlP_45 h.1).1 (RlP_45 h.1).2 μ
        rw [pe_highStanding hp (hs.tr sa), worth_e (ok_aside h)]
        have w := mid_w h (q := q) (by omega) (by omega)
        exact Ag.same (Rl_tw (Rl_w_aside h) w.1 w.2) _
