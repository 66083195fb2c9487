/-! level 2: a year, deeds -/
theorem cap_min (x : Int32) : b_cap x = imin 20 x := by
  unfold b_cap imin
  by_cases h : 20 < x
  · rw [if_pos h, if_neg (fun q => by have := i_lt h; have := i_lt q; omega)]
  · rw [if_neg h]
    by_cases h2 : x < 20
    · rw [if_pos h2]
    · rw [if_neg h2]; apply i_eqI; have := i_nlt h; have := i_nlt h2; omega
theorem wear_e {P : PT} (hpb : PB P) (hr : PR P) (S : PT) {k : Nat} (hk : k < nPl P) : b_wear P S k = y_wear P S k := by
  have h4 := (PB_pl hpb).2.1
  have hp := pole_nI hpb hk
  unfold b_wear y_wear
  by_cases c : a_isUp P S (nI k) = true
  · rw [if_pos c, if_pos c]
    have hb : b_has (y_gave P S) (nI k) = y_gives P S k := bits_has _ (by omega) hk
    rw [hb]
    unfold y_gives
    rw [c, Bool.true_and]
    by_cases d : a_bearsNow P S (nI k) < a_load P S (nI k)
    · rw [if_pos (decide_eq_true d), if_pos d]
    · rw [if_neg (by rw [decide_eq_false d]; decide), if_neg d, cap_min]
      unfold a_worn
      have hl := laden_sit hpb hr S hp
      by_cases e : a_sitters P S (nI k) = 0
      · rw [if_pos e, if_neg (fun q => hl.mp q e)]; rfl
      · rw [if_neg e, if_pos (hl.mpr e)]; rfl
  · rw [if_neg c, if_neg c]
theorem pe_wear {P Q S T : PT} (h : PEq P Q) (hs : SEq P S T) {k : Nat} (hk : k < nPl P) : y_wear P S k = y_wear Q T k := by
  unfold y_wear; rw [pe_isUp h hs, pe_load h hs, pe_bearsNow h hs, hs.2.2.2.1 k hk]
theorem pe_seat {P Q S T : PT} (h : PEq P Q) (hs : SEq P S T) (g : Int32) {i : Nat} (hi : i < nPe P) : y_seat P S g i = y_seat Q T g i := by
  unfold y_seat; rw [pe_isSeated h hs, hs.2.2.2.2 i hi]
theorem vS_year (σ : Mem) (o : Nat) : vS (m_year σ o) o 0 0 = vS σ o 0 0 ||| y_gave (vP σ 33) (vS σ o) ∧ vS (m_year σ o) o 0 1 = vS σ o 0 1 + 1 ∧ vS (m_year σ o) o 0 2 = vS σ o 0 2 ∧
    (∀ k, k < nPl (vP σ 33) → vS (m_year σ o) o 1 k = y_wear (vP σ 33) (vS σ o) k) ∧ (∀ i, i < nPe (vP σ 33) → vS (m_year σ o) o 2 i = y_seat (vP σ 33) (vS σ o) (y_gave (vP σ 33) (vS σ o)) i) := by
  have n1 : o ≠ o + 1 := by omega
  have n2 : o ≠ o + 2 := by omega
  have n3 : o + 1 ≠ o := by omega
  have n4 : o + 2 ≠ o := by omega
  have n5 : o + 1 ≠ o + 2 := by omega
  refine ⟨?_, ?_, ?_, fun k hk => ?_, fun i hi => ?_⟩
  · rw [vS_0, vS_0]; unfold m_year; simp [mU_e]
  · rw [vS_0, vS_0]; unfold m_year; simp [mU_e]
  · rw [vS_0, vS_0]; unfold m_year; simp [mU_e, mF_e]
  · rw [vS_1]; unfold m_year; rw [mU_n _ _ _ n3, mU_n _ _ _ n3, mF_n _ _ _ n5, mF_e, if_pos rfl, if_pos hk]
  · rw [vS_2]; unfold m_year; rw [mU_n _ _ _ n4, mU_n _ _ _ n4, mF_e, if_pos rfl, if_pos hi]
theorem sM_year {P : PT} (hpb : PB P) (μ : Mem) (t : Nat) : sM (w_year P μ t) t 0 0 = sM μ t 0 0 ||| y_gave P (sM μ t) ∧ sM (w_year P μ t) t 0 1 = sM μ t 0 1 + 1 ∧ sM (w_year P μ t) t 0 2 = sM μ t 0 2 ∧
    (∀ k, k < nPl P → sM (w_year P μ t) t 1 k = b_wear P (sM μ t) k) ∧ (∀ i, i < nPe P → sM (w_year P μ t) t 2 i = y_seat P (sM μ t) (y_gave P (sM μ t)) i) := by
  have h4 := (PB_pl hpb).2.1
  have h5 := (PB_pe hpb).2.1
  refine ⟨?_, ?_, ?_, fun k hk => ?_, fun i hi => ?_⟩
  · show w_year P μ t t 4 = μ t 4 ||| _
    unfold w_year; rw [mU_e, if_pos rfl, if_neg (by decide), mU_e, if_pos rfl, if_pos rfl]
  · show w_year P μ t t 10 = μ t 10 + 1
    unfold w_year; rw [mU_e, if_pos rfl, if_pos rfl]
  · show w_year P μ t t 11 = μ t 11
    unfold w_year w_seat w_wear
    rw [mU_e, if_pos rfl, if_neg (by decide), mU_e, if_pos rfl, if_neg (by decide), mG_e, if_pos rfl, if_neg (by omega), mF_e, if_pos rfl, if_neg (by omega)]
  · show w_year P μ t t k = _
    unfold w_year w_seat w_wear
    rw [mU_e, if_pos rfl, if_neg (by omega), mU_e, if_pos rfl, if_neg (by omega), mG_e, if_pos rfl, if_neg (by omega), mF_e, if_pos rfl, if_pos hk]
  · show w_year P μ t t (5 + i) = _
    unfold w_year w_seat
    rw [mU_e, if_pos rfl, if_neg (by omega), mU_e, if_pos rfl, if_neg (by omega), mG_e, if_pos rfl, if_pos (by omega), show 5 + i - 5 = i by omega]
/-- a year of the class beside a year of the model -/
theorem year_rel {σ μ : Mem} {Q : PT} {o t : Nat} (h : PEq (vP σ 33) Q) (hpb : PB Q) (hr : PR Q) (hs : SEq (vP σ 33) (vS σ o) (sM μ t)) :
    SEq (vP σ 33) (vS (m_year σ o) o) (sM (w_year Q μ t) t) ∧ y_gave (vP σ 33) (vS σ o) = y_gave Q (sM μ t) := by
  have g := pe_gave h hs
  obtain ⟨x0, x1, x2, x3, x4⟩ := vS_year σ o
  obtain ⟨z0, z1, z2, z3, z4⟩ := sM_year hpb μ t
  refine ⟨⟨?_, ?_, ?_, fun k hk => ?_, fun i hi => ?_⟩, g⟩
  · rw [x0, z0, hs.1, g]
  · rw [x1, z1, hs.2.1]
  · rw [x2, z2, hs.2.2.1]
  · rw [x3 k hk, z3 k (by rw [← h.pl]; exact hk), wear_e hpb hr _ (by rw [← h.pl]; exact hk), pe_wear h hs hk]
  · rw [x4 i hi, z4 i (by rw [← h.pe]; exact hi), g, pe_seat h hs _ hi]
/-- a year of the class beside another one of the class -/
theorem year_xx {σ τ : Mem} {o o' : Nat} (h : PEq (vP σ 33) (vP τ 33)) (hs : SEq (vP σ 33) (vS σ o) (vS τ o')) : SEq (vP σ 33) (vS (m_year σ o) o) (vS (m_year τ o') o') := by
  have g := pe_gave h hs
  obtain ⟨x0, x1, x2, x3, x4⟩ := vS_year σ o
  obtain ⟨z0, z1, z2, z3, z4⟩ := vS_year τ o'
  refine ⟨?_, ?_, ?_, fun k hk => ?_, fun i hi => ?_⟩
  · rw [x0, z0, hs.1, g]
  · rw [x1, z1, hs.2.1]
  · rw [x2, z2, hs.2.2.1]
  · rw [x3 k hk, z3 k (by rw [← h.pl]; exact hk), pe_wear h hs hk]
  · rw [x4 i hi, z4 i (by rw [← h.pe]; exact hi), g, pe_seat h hs _ hi]
theorem SEq.rfl' {P S : PT} : SEq P S S := ⟨rfl, rfl, rfl, fun _ _ => rfl, fun _ _ => rfl⟩
theorem SEq.sy {P S T : PT} (h : SEq P S T) : SEq P T S := ⟨h.1.symm, h.2.1.symm, h.2.2.1.symm, fun k hk => (h.2.2.2.1 k hk).symm, fun i hi => (h.2.2.2.2 i hi).symm⟩
theorem SEq.tr {P S T U : PT} (h : SEq P S T) (g : SEq P T U) : SEq P S U := ⟨h.1.trans g.1, h.2.1.trans g.2.1, h.2.2.1.trans g.2.2.1, fun k hk => (h.2.2.2.1 k hk).trans (g.2.2.2.1 k hk), fun i hi => (h.2.2.2.2 i hi).trans (g.2.2.2.2 i hi)⟩
theorem PEq.sy {P Q : PT} (h : PEq P Q) : PEq Q P := ⟨h.1.symm, h.2.1.symm, fun k hk => by have q := h.2.2.1 k (by rw [h.pl]; exact hk); exact ⟨q.1.symm, q.2.1.symm, q.2.2.symm⟩, fun i hi => by have q := h.2.2.2 i (by rw [h.pe]; exact hi); exact ⟨q.1.symm, q.2.symm⟩⟩
theorem PEq.rfl' {P : PT} : PEq P P := ⟨rfl, rfl, fun _ _ => ⟨rfl, rfl, rfl⟩, fun _ _ => ⟨rfl, rfl⟩⟩
/-- the same deed on scaffolds alike -/
theorem apply_xx {σ τ : Mem} {o : Nat} (h : PEq (vP σ 33) (vP τ 33)) (hs : SEq (vP σ 33) (vS σ o) (vS τ o)) (d : Int32) : SEq (vP σ 33) (vS (m_apply σ o d) o) (vS (m_apply τ o d) o) := by
  have n3 : o + 1 ≠ o := by omega
  have n4 : o + 2 ≠ o := by omega
  have n1 : o ≠ o + 1 := by omega
  have n2 : o ≠ o + 2 := by omega
  have n5 : o + 1 ≠ o + 2 := by omega
  have n6 : o + 2 ≠ o + 1 := by omega
  have seat : ∀ (j : Nat) (v : Int32), SEq (vP σ 33) (vS (mU σ (o + 2) j v) o) (vS (mU τ (o + 2) j v) o) := by
    intro j v
    refine ⟨?_, ?_, ?_, fun k hk => ?_, fun i hi => ?_⟩
    · rw [vS_0, vS_0, mU_n _ _ _ n2, mU_n _ _ _ n2]; exact hs.1
    · rw [vS_0, vS_0, mU_n _ _ _ n2, mU_n _ _ _ n2]; exact hs.2.1
    · rw [vS_0, vS_0, mU_n _ _ _ n2, mU_n _ _ _ n2]; exact hs.2.2.1
    · rw [vS_1, vS_1, mU_n _ _ _ n5, mU_n _ _ _ n5]; exact hs.2.2.2.1 k hk
    · rw [vS_2, vS_2, mU_e, mU_e, if_pos rfl, if_pos rfl]
      have q := hs.2.2.2.2 i hi
      rw [vS_2, vS_2] at q
      rw [q]
  unfold m_apply
  split
  · unfold m_goUp; rw [← pe_isOne h]; split
    · exact seat _ _
    · exact hs
  · split
    · unfold m_down; rw [← pe_isOne h]; split
      · exact seat _ _
      · exact hs
    · split
      · unfold m_renew; rw [← pe_isPole h]; split
        · refine ⟨?_, ?_, ?_, fun k hk => ?_, fun i hi => ?_⟩
          · rw [vS_0, vS_0, mU_n _ _ _ n1, mU_n _ _ _ n1]; exact hs.1
          · rw [vS_0, vS_0, mU_n _ _ _ n1, mU_n _ _ _ n1]; exact hs.2.1
          · rw [vS_0, vS_0, mU_n _ _ _ n1, mU_n _ _ _ n1]; exact hs.2.2.1
          · rw [vS_1, vS_1, mU_e, mU_e, if_pos rfl, if_pos rfl]
            have q := hs.2.2.2.1 k hk
            rw [vS_1, vS_1] at q
            rw [q]
          · rw [vS_2, vS_2, mU_n _ _ _ n6, mU_n _ _ _ n6]; exact hs.2.2.2.2 i hi
        · exact hs
      · split
        · have q := hs.2.2.1
          rw [vS_0, vS_0] at q
          refine ⟨?_, ?_, ?_, fun k hk => ?_, fun i hi => ?_⟩
          · rw [vS_0, vS_0, mU_e, mU_e, if_pos rfl, if_pos rfl, if_neg (by decide), if_neg (by decide)]; exact hs.1
          · rw [vS_0, vS_0, mU_e, mU_e, if_pos rfl, if_pos rfl, if_neg (by decide), if_neg (by decide)]; exact hs.2.1
          · rw [vS_0, vS_0, mU_e, mU_e, if_pos rfl, if_pos rfl, if_pos rfl, if_pos rfl, q]
          · rw [vS_1, vS_1, mU_n _ _ _ n3, mU_n _ _ _ n3]; exact hs.2.2.2.1 k hk
          · rw [vS_2, vS_2, mU_n _ _ _ n4, mU_n _ _ _ n4]; exact hs.2.2.2.2 i hi
        · exact year_xx h hs
