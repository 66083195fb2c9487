/-! level 2: digest -/
theorem foldL_c {f g : Nat → Int32} (h : Int64) : ∀ n, (∀ i, i < n → f i = g i) → foldL f h n = foldL g h n
  | 0, _ => rfl
  | n + 1, e => by rw [foldL, foldL, foldL_c h n (fun i hi => e i (by omega)), e n (by omega)]
theorem foldLL_c {f g : Nat → Int64 → Int64} (h : Int64) : ∀ n, (∀ i, i < n → ∀ x, f i x = g i x) → foldLL f h n = foldLL g h n
  | 0, _ => rfl
  | n + 1, e => by rw [foldLL, foldLL, foldLL_c h n (fun i hi => e i (by omega)), e n (by omega)]
theorem tally_e {σ μ : Mem} (h : Rl σ μ) {w : Nat} (hw : w < 12) : a_tally σ (nI w) = n_count (pM μ) μ (nI w) := by
  have q := op_count h (nI w)
  have e : (nI w).toInt = (w : Int) := nI_toInt (by omega)
  unfold k_count at q
  rw [if_neg (fun c => by have := i_lt c; rw [e, show (0 : Int32).toInt = 0 by decide] at this; omega), if_neg (fun c => by have := i_le c; rw [e, show (12 : Int32).toInt = 12 by decide] at this; omega)] at q
  exact q
theorem dpole_e {σ μ : Mem} (h : Rl σ μ) {k : Nat} (hk : k < nPl (pM μ)) (x : Int64) : foldL (fun w => a_ofPole (vP σ 33) (vS σ 45) (nI k) (nI w)) x 8 = dm_pole (pM μ) μ k x := by
  have hp := h.1.1
  have hs := h.2.2.2.1.2.2.1
  have c := pole_nI h.1.2.1 hk
  have h4 := (PB_pl h.1.2.1).2.1
  have e : ix (nI k) = k := ix_of (by omega)
  have o : ∀ w, a_ofPole (vP σ 33) (vS σ 45) (nI k) (nI w) = a_ofPole (pM μ) (sM μ 11) (nI k) (nI w) := fun w => pe_ofPole hp hs _ _
  have o0 : a_ofPole (pM μ) (sM μ 11) (nI k) (nI 0) = pM μ 1 k := by unfold a_ofPole; rw [if_pos c, if_pos (by decide), e]
  have o1 : a_ofPole (pM μ) (sM μ 11) (nI k) (nI 1) = pM μ 2 k := by unfold a_ofPole; rw [if_pos c, if_neg (by decide), if_pos (by decide), e]
  have o2 : a_ofPole (pM μ) (sM μ 11) (nI k) (nI 2) = pM μ 3 k := by unfold a_ofPole; rw [if_pos c, if_neg (by decide), if_neg (by decide), if_pos (by decide), e]
  have o3 : a_ofPole (pM μ) (sM μ 11) (nI k) (nI 3) = μ 11 (0 + k) := by unfold a_ofPole; rw [if_pos c, if_neg (by decide), if_neg (by decide), if_neg (by decide), if_pos (by decide), e, Nat.zero_add]; rfl
  have o4 : a_ofPole (pM μ) (sM μ 11) (nI k) (nI 4) = a_bearsNow (pM μ) (sM μ 11) (nI k) := by unfold a_ofPole; rw [if_pos c, if_neg (by decide), if_neg (by decide), if_neg (by decide), if_neg (by decide), if_pos (by decide)]
  have o5 : a_ofPole (pM μ) (sM μ 11) (nI k) (nI 5) = a_load (pM μ) (sM μ 11) (nI k) := by unfold a_ofPole; rw [if_pos c, if_neg (by decide), if_neg (by decide), if_neg (by decide), if_neg (by decide), if_neg (by decide), if_pos (by decide)]
  have o6 : a_ofPole (pM μ) (sM μ 11) (nI k) (nI 6) = a_sitters (pM μ) (sM μ 11) (nI k) := by unfold a_ofPole; rw [if_pos c, if_neg (by decide), if_neg (by decide), if_neg (by decide), if_neg (by decide), if_neg (by decide), if_neg (by decide), if_pos (by decide)]
  have o7 : a_ofPole (pM μ) (sM μ 11) (nI k) (nI 7) = (μ 11 4 >>> (nI k &&& 31)) &&& 1 := by unfold a_ofPole; rw [if_pos c, if_neg (by decide), if_neg (by decide), if_neg (by decide), if_neg (by decide), if_neg (by decide), if_neg (by decide), if_neg (by decide)]; rfl
  unfold dm_pole
  rw [foldL, foldL, foldL, foldL, foldL, foldL, foldL, foldL, foldL, o, o, o, o, o, o, o, o, o0, o1, o2, o3, o4, o5, o6, o7]
theorem done_e {σ μ : Mem} (h : Rl σ μ) {i : Nat} (hi : i < nPe (pM μ)) (x : Int64) : foldL (fun w => a_ofOne (vP σ 33) (vS σ 45) (nI i) (nI w)) x 4 = dm_one (pM μ) μ i x := by
  have hp := h.1.1
  have hs := h.2.2.2.1.2.2.1
  have c := one_nI h.1.2.1 hi
  have h5 := (PB_pe h.1.2.1).2.1
  have e : ix (nI i) = i := ix_of (by omega)
  have o : ∀ w, a_ofOne (vP σ 33) (vS σ 45) (nI i) (nI w) = a_ofOne (pM μ) (sM μ 11) (nI i) (nI w) := fun w => pe_ofOne hp hs _ _
  have o0 : a_ofOne (pM μ) (sM μ 11) (nI i) (nI 0) = pM μ 4 i := by unfold a_ofOne; rw [if_pos c, if_pos (by decide), e]
  have o1 : a_ofOne (pM μ) (sM μ 11) (nI i) (nI 1) = pM μ 5 i := by unfold a_ofOne; rw [if_pos c, if_neg (by decide), if_pos (by decide), e]
  have o2 : a_ofOne (pM μ) (sM μ 11) (nI i) (nI 2) = μ 11 (5 + i) := by unfold a_ofOne; rw [if_pos c, if_neg (by decide), if_neg (by decide), if_pos (by decide), e]; rfl
  have o3 : a_ofOne (pM μ) (sM μ 11) (nI i) (nI 3) = a_high (pM μ) (nI i) (μ 11 (5 + i)) := by unfold a_ofOne; rw [if_pos c, if_neg (by decide), if_neg (by decide), if_neg (by decide), e]; rfl
  unfold dm_one
  rw [foldL, foldL, foldL, foldL, foldL, o, o, o, o, o0, o1, o2, o3]
theorem drow_e {σ μ : Mem} (h : Rl σ μ) {r : Nat} (hr : r < 6) (x : Int64) : dg_row σ (5 + 2 * r) x = dm_row μ 2 1 40 r x := by
  obtain ⟨e1, e2, e3, e4⟩ := h.2.1.1 r hr
  unfold dg_row dm_row
  rw [e1]
  exact foldL_c _ _ fun i hi => by
    rcases ix_cases (μ 2 r) with ⟨_, q⟩ | ⟨_, q⟩
    · exact row_get h hr (by omega)
    · omega
theorem dtext_e {σ μ : Mem} (h : Rl σ μ) {r : Nat} (hr : r < 4) (x : Int64) : dg_row σ (17 + 2 * r) x = dm_row μ 4 3 60 r x := by
  obtain ⟨e1, e2, e3, e4⟩ := h.2.1.2 r hr
  unfold dg_row dm_row
  rw [e1]
  exact foldL_c _ _ fun i hi => by
    rcases ix_cases (μ 4 r) with ⟨_, q⟩ | ⟨_, q⟩
    · exact (get_nI (by rw [e1]; omega) (by rw [e1]; omega)).trans (e4 i (by omega))
    · omega
theorem op_digest {σ μ : Mem} (h : Rl σ μ) : k_digest σ = n_dig (pM μ) μ := by
  have hp := h.1.1
  unfold k_digest n_dig dg_rows dg_ones dg_poles
  rw [foldL_c (f := fun w => a_tally σ (nI w)) (g := fun w => n_count (pM μ) μ (nI w)) 17 12 (fun w hw => tally_e h hw), hp.pl, hp.pe,
    foldLL_c (f := fun k h => foldL (fun w => a_ofPole (vP σ 33) (vS σ 45) (nI k) (nI w)) h 8) (g := dm_pole (pM μ) μ) _ (nPl (pM μ)) (fun k hk x => dpole_e h hk x),
    foldLL_c (f := fun k h => foldL (fun w => a_ofOne (vP σ 33) (vS σ 45) (nI k) (nI w)) h 4) (g := dm_one (pM μ) μ) _ (nPe (pM μ)) (fun k hk x => done_e h hk x),
    foldL_c (f := fun k => σ (27 + 2 * k) 0) (g := fun k => μ 14 (493 * k)) _ 3 (fun k hk => (h.2.2.2.2 k hk).1),
    foldLL_c (f := fun r => dg_row σ (5 + 2 * r)) (g := dm_row μ 2 1 40) _ 6 (fun r hr x => drow_e h hr x),
    foldLL_c (f := fun r => dg_row σ (17 + 2 * r)) (g := dm_row μ 4 3 60) _ 4 (fun r hr x => dtext_e h hr x)]
