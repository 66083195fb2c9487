theorem hd_X8_fraction : kHd yX8_fraction 2 := by decide +kernel
theorem hd_X8_laced : kHd yX8_laced 0 := by decide +kernel
theorem hd_X8_lot : kHd yX8_lot 1 := by decide +kernel
theorem hd_X8_there : kHd yX8_there 3 := by decide +kernel
theorem hd_X8_whoAreUp : kHd yX8_whoAreUp 0 := by decide +kernel
theorem hd_X8_worth : kHd yX8_worth 0 := by decide +kernel
theorem kw_X8_300 : ∀ w ∈ k5V RX8 300 yX8_fraction cX8_fraction 6 (some .int), w ∈ TB := tb_ins (by decide +kernel)
theorem kw_X8_289 : ∀ w ∈ k5V RX8 289 yX8_worth cX8_worth 4 (some .int), w ∈ TB := tb_ins (by decide +kernel)
theorem kw_X8_309 : ∀ w ∈ k5V RX8 309 yX8_lot cX8_lot 5 none, w ∈ TB := tb_ins (by decide +kernel)
theorem kw_X8_312 : ∀ w ∈ k5V RX8 312 yX8_whoAreUp cX8_whoAreUp 3 (some .int), w ∈ TB := tb_ins (by decide +kernel)
theorem kw_X8_315 : ∀ w ∈ k5S RX8 315 yX8_there cX8_there 5 (some .int), w ∈ TB := tb_ins (by decide +kernel)
theorem kw_X8_319 : ∀ w ∈ k5V RX8 319 yX8_laced cX8_laced 3 (some .int), w ∈ TB := tb_ins (by decide +kernel)
set_option maxHeartbeats 800000 in
set_option maxRecDepth 100000 in
theorem c_X8_worth (G : GT) (l : Launch) (σ : Mem) (P : PT) (hpb : PB P) (hPV : pM σ = P) (hsv : SV P σ 12) : CI G 24 (cM G) l yX8_worth ({ frames := 4, cells := 0, slots := 0, locals := 93 } : Room) cX8_worth 4 (some .int) [.ref (G.1 0)] σ (fun (r : Int32) u => r = b_worth P (sM σ 12) ∧ u = σ) := by
  intro sz
  refine xbegin (by decide) (Nat.le_of_ble_eq_true rfl) ?_
  intro p e s m below meth c ls hsz ha hP hl
  subst hsz
  have hx := ha.1
  have hb := ha.2.1
  have hS : va_S (xA G 24 s.heap.size) s.heap s.heap [] := va_S.rf
  have hl : lv_has ls 4 [(0, .ref (G.1 0))] := hl
  have k_m9 : (-9 : Int32).toInt = -9 := by decide
  have k_0 : (0 : Int32).toInt = 0 := by decide
  have k_4 : (4 : Int32).toInt = 4 := by decide
  have k_5 : (5 : Int32).toInt = 5 := by decide
  have k_6 : (6 : Int32).toInt = 6 := by decide
  have hPL := PB_pl hpb
  have hPE := PB_pe hpb
  have hp4 := PV_pl hpb hPV
  have hp5 := PV_pe hpb hPV
  refine lv_iconst (v := 0) hx hb dX8_worth_0 (by decide) ?_
  refine lv_istore_n (lv' := [(1, .int 0), (0, .ref (G.1 0))]) hx hb dX8_worth_1 rfl hl (by decide) rfl (fun ls hl => ?_)
  refine lv_iconst (v := 0) hx hb dX8_worth_2 (by decide) ?_
  refine lv_istore_n (lv' := [(2, .int 0), (1, .int 0), (0, .ref (G.1 0))]) hx hb dX8_worth_3 rfl hl (by decide) rfl (fun ls hl => ?_)
  have lp_4 : ∀ (d j : Nat) (x1 : Int32) (H : Heap) (locs : List Loc) (ls : Array Slot), j ≤ (nPe P) → (nPe P) - j < d → x1 = a_sum (fun i => if (sM σ 12) 2 i = -9 then 0 else if a_load P (sM σ 12) ((sM σ 12) 2 i) ≤ a_bearsNow P (sM σ 12) ((sM σ 12) 2 i) then a_high P (nI i) ((sM σ 12) 2 i) else 0) j → va_P G.2.1 vwCl (wl G 24 (cM G σ)) H → va_S (xA G 24 s.heap.size) s.heap H locs → lv_has ls 4 [(2, .int (nI j)), (1, .int x1), (0, .ref (G.1 0))] → W p l e ({ frames := 4, cells := 0, slots := 0, locals := 93 } : Room) s m ([.ref (G.1 0)] : List Value).toArray below meth c H locs 0 0 (MQ below (va_Qi (fun (r : Int32) u => r = b_worth P (sM σ 12) ∧ u = σ) (xB G 24 (cM G)) (xA G 24 s.heap.size)) ([.ref (G.1 0)] : List Value).toArray s 0 0 (xA G 24 s.heap.size)) (F0 m 4 ls []) := by
    intro d
    induction d with
    | zero => intro j x1 H locs ls hj hd; exact absurd hd (Nat.not_lt_zero _)
    | succ d ih_4 =>
      intro j x1 H locs ls hj_j hd_j e_x1 hP hS hl
      have h31_j : (nI j).toInt = (j : Int) := nI_toInt (by omega)
      refine lv_iload_n hx hb dX8_worth_4 rfl (lv_at hl 0 rfl) ?_
      refine lv_aload_n hx hb dX8_worth_5 rfl (lv_at hl 2 rfl) ?_
      refine g8_166 ha hP 0 (by decide) (cM_0 G _) (v := .int (σ 0 5)) rfl dX8_worth_6 ?_
      refine lv_icmp_ge (tgt := 58) hx hb dX8_worth_9 (by decide) (fun c_1 => ?_) (fun c_1 => ?_)
      · have t_1 := i_le c_1
        have u_1 := u_le c_1
        obtain rfl : j = (nPe P) := by omega
        refine lv_iload_n hx hb dX8_worth_58 rfl (lv_at hl 1 rfl) ?_
        exact xiret ha hP hS dX8_worth_59 ⟨by exact e_x1, rfl⟩ rfl
      · have t_1 := i_nle c_1
        have u_1 := u_nle c_1
        have hlt_j : j < (nPe P) := by omega
        have hone := one_nI hpb (show j < nPe P by omega)
        have hsj := hsv j hlt_j
        refine lv_aload_n hx hb dX8_worth_12 rfl (lv_at hl 2 rfl) ?_
        refine g8_47 ha hP 0 (by decide) (cM_0 G _) (v := .ref (G.1 12)) rfl dX8_worth_13 ?_
        refine lv_iconst (v := 5) hx hb dX8_worth_16 (by decide) ?_
        refine lv_iload_n hx hb dX8_worth_17 rfl (lv_at hl 0 rfl) ?_
        refine lv_iadd hx hb dX8_worth_18 ?_
        refine xialdN ha hP 12 (by decide) (cM_12 G _) (5 + j) (nadd (rfl : (5 : Int32) = nI 5) rfl) (by omega) (by decide) dX8_worth_19 ?_
        refine lv_istore_n (lv' := [(3, .int (σ 12 (5 + j))), (2, .int (nI j)), (1, .int x1), (0, .ref (G.1 0))]) hx hb dX8_worth_20 rfl hl (by decide) rfl (fun ls hl => ?_)
        refine lv_iload_n hx hb dX8_worth_21 rfl (lv_at hl 2 rfl) ?_
        refine lv_iload_n hx hb dX8_worth_22 rfl (lv_at hl 0 rfl) ?_
        refine lv_bipush (v := (-9)) hx hb dX8_worth_23 (by decide) ?_
        refine lv_icmp_eq (tgt := 49) hx hb dX8_worth_25 (by decide) (fun c_2 => ?_) (fun c_2 => ?_)
        · have t_2 := i_eq c_2
          refine lv_iconst (v := 0) hx hb dX8_worth_49 (by decide) ?_
          refine lv_iadd hx hb dX8_worth_50 ?_
          refine lv_istore_n (lv' := [(1, .int (x1 + 0)), (3, .int (σ 12 (5 + j))), (2, .int (nI j)), (0, .ref (G.1 0))]) hx hb dX8_worth_51 rfl hl (by decide) rfl (fun ls hl => ?_)
          refine lv_iinc (v := (nI (j + 1))) (lv' := [(2, .int (nI (j + 1))), (1, .int (x1 + 0)), (3, .int (σ 12 (5 + j))), (0, .ref (G.1 0))]) hx hb dX8_worth_52 hl (k := 2) rfl (nI_1 j) (by decide) rfl (fun ls hl => ?_)
          refine lv_goto (tgt := 4) hx hb dX8_worth_55 (by decide) ?_
          exact ih_4 (j + 1) (x1 + 0) _ _ _ (by omega) (by omega) (by rw [a_sum, ← e_x1, show sM σ 12 2 j = σ 12 (5 + j) from rfl]; simp [u_1, c_2]) hP hS (lv_sub hl [0, 1, 3] rfl)
        · have t_2 := i_ne c_2
          have hpk := hsj.resolve_left c_2
          refine lv_aload_n hx hb dX8_worth_28 rfl (lv_at hl 3 rfl) ?_
          refine lv_aload_n hx hb dX8_worth_29 rfl (lv_at hl 3 rfl) ?_
          refine g8_47 ha hP 0 (by decide) (cM_0 G _) (v := .ref (G.1 12)) rfl dX8_worth_30 ?_
          refine lv_iload_n hx hb dX8_worth_33 rfl (lv_at hl 0 rfl) ?_
          refine xVi ha hP hS (y := yX8_holdsOn) (As := [.ref (G.1 12), .int (σ 12 (5 + j))]) (rest := [.int x1]) 0 (by decide) (cM_0 G _) rfl rfl (c_X8_holdsOn G l σ P 12 (σ 12 (5 + j)) hpb hPV (by unfold oT; omega) hpk) kw_X8_196 hd_X8_holdsOn rfl ⟨rfl, rfl⟩ ⟨Nat.le_of_ble_eq_true rfl, Nat.le_of_ble_eq_true rfl⟩ ⟨Nat.zero_le _, Nat.zero_le _⟩ hl.1 (Nat.le_of_ble_eq_true rfl) rfl dX8_worth_34 (fun r u H locs hpq hP hS => ?_)
          obtain ⟨hr_, hu_⟩ := hpq
          have hr_ := hr_.symm
          have hu_ := hu_.symm
          subst hr_
          subst hu_
          refine lv_if_eq (tgt := 49) hx hb dX8_worth_37 (by decide) (fun c_3 => ?_) (fun c_3 => ?_)
          · have t_3 := b2i_f c_3
            have f_3 := of_decide_eq_false t_3
            refine lv_iconst (v := 0) hx hb dX8_worth_49 (by decide) ?_
            refine lv_iadd hx hb dX8_worth_50 ?_
            refine lv_istore_n (lv' := [(1, .int (x1 + 0)), (3, .int (σ 12 (5 + j))), (2, .int (nI j)), (0, .ref (G.1 0))]) hx hb dX8_worth_51 rfl hl (by decide) rfl (fun ls hl => ?_)
            refine lv_iinc (v := (nI (j + 1))) (lv' := [(2, .int (nI (j + 1))), (1, .int (x1 + 0)), (3, .int (σ 12 (5 + j))), (0, .ref (G.1 0))]) hx hb dX8_worth_52 hl (k := 2) rfl (nI_1 j) (by decide) rfl (fun ls hl => ?_)
            refine lv_goto (tgt := 4) hx hb dX8_worth_55 (by decide) ?_
            exact ih_4 (j + 1) (x1 + 0) _ _ _ (by omega) (by omega) (by rw [a_sum, ← e_x1, show sM σ 12 2 j = σ 12 (5 + j) from rfl]; simp [u_1, c_2, t_3, f_3]) hP hS (lv_sub hl [0, 1, 3] rfl)
          · have t_3 := b2i_t c_3
            have f_3 := of_decide_eq_true t_3
            refine lv_aload_n hx hb dX8_worth_40 rfl (lv_at hl 3 rfl) ?_
            refine lv_iload_n hx hb dX8_worth_41 rfl (lv_at hl 1 rfl) ?_
            refine lv_iload_n hx hb dX8_worth_42 rfl (lv_at hl 0 rfl) ?_
            refine xVi ha hP hS (y := yX8_highOn) (As := [.int (nI j), .int (σ 12 (5 + j))]) (rest := [.int x1]) 0 (by decide) (cM_0 G _) rfl rfl (c_X8_highOn G l σ P (nI j) (σ 12 (5 + j)) hpb hPV hone hsj) kw_X8_177 hd_X8_highOn rfl ⟨rfl, rfl⟩ ⟨Nat.le_of_ble_eq_true rfl, Nat.le_of_ble_eq_true rfl⟩ ⟨Nat.zero_le _, Nat.zero_le _⟩ hl.1 (Nat.le_of_ble_eq_true rfl) rfl dX8_worth_43 (fun r u H locs hpq hP hS => ?_)
            obtain ⟨hr_, hu_⟩ := hpq
            have hr_ := hr_.symm
            have hu_ := hu_.symm
            subst hr_
            subst hu_
            refine lv_goto (tgt := 50) hx hb dX8_worth_46 (by decide) ?_
            refine lv_iadd hx hb dX8_worth_50 ?_
            refine lv_istore_n (lv' := [(1, .int (x1 + (a_high P (nI j) (σ 12 (5 + j))))), (3, .int (σ 12 (5 + j))), (2, .int (nI j)), (0, .ref (G.1 0))]) hx hb dX8_worth_51 rfl hl (by decide) rfl (fun ls hl => ?_)
            refine lv_iinc (v := (nI (j + 1))) (lv' := [(2, .int (nI (j + 1))), (1, .int (x1 + (a_high P (nI j) (σ 12 (5 + j))))), (3, .int (σ 12 (5 + j))), (0, .ref (G.1 0))]) hx hb dX8_worth_52 hl (k := 2) rfl (nI_1 j) (by decide) rfl (fun ls hl => ?_)
            refine lv_goto (tgt := 4) hx hb dX8_worth_55 (by decide) ?_
            exact ih_4 (j + 1) (x1 + (a_high P (nI j) (σ 12 (5 + j)))) _ _ _ (by omega) (by omega) (by rw [a_sum, ← e_x1, show sM σ 12 2 j = σ 12 (5 + j) from rfl]; simp [u_1, c_2, t_3, f_3]) hP hS (lv_sub hl [0, 1, 3] rfl)
  exact lp_4 ((nPe P) - 0 + 1) 0 0 _ _ _ (by omega) (by omega) rfl hP hS (lv_sub hl [0, 1, 2] rfl)
set_option maxHeartbeats 800000 in
set_option maxRecDepth 100000 in
theorem c_X8_fraction (G : GT) (l : Launch) (σ : Mem) (x : Int32) (y : Int32) (hgz : gz 40 x y = true) (hgn : ¬ gq 40 x y = 0) : CI G 24 (cM G) l yX8_fraction ({ frames := 0, cells := 0, slots := 0, locals := 0 } : Room) cX8_fraction 6 (some .int) [.ref (G.1 0), .int x, .int y] σ (fun (r : Int32) u => r = 1 ∧ u = w_frac σ x y) := by
  intro sz
  refine xbegin (by decide) (Nat.le_of_ble_eq_true rfl) ?_
  intro p e s m below meth c ls hsz ha hP hl
  subst hsz
  have hx := ha.1
  have hb := ha.2.1
  have hS : va_S (xA G 24 s.heap.size) s.heap s.heap [] := va_S.rf
  have hl : lv_has ls 6 [(0, .ref (G.1 0)), (1, .int x), (2, .int y)] := hl
  have k_0 : (0 : Int32).toInt = 0 := by decide
  have k_1 : (1 : Int32).toInt = 1 := by decide
  have k_4 : (4 : Int32).toInt = 4 := by decide
  have k_5 : (5 : Int32).toInt = 5 := by decide
  have k_6 : (6 : Int32).toInt = 6 := by decide
  refine lv_iload_n hx hb dX8_fraction_0 rfl (lv_at hl 1 rfl) ?_
  refine lv_istore_n (lv' := [(3, .int x), (0, .ref (G.1 0)), (1, .int x), (2, .int y)]) hx hb dX8_fraction_1 rfl hl (by decide) rfl (fun ls hl => ?_)
  refine lv_iload_n hx hb dX8_fraction_2 rfl (lv_at hl 3 rfl) ?_
  refine lv_istore (lv' := [(4, .int y), (3, .int x), (0, .ref (G.1 0)), (1, .int x), (2, .int y)]) hx hb dX8_fraction_3 hl (by decide) rfl (fun ls hl => ?_)
  have lp_5 : ∀ (d j : Nat) (x3 : Int32) (x4 : Int32) (H : Heap) (locs : List Loc) (ls : Array Slot), j ≤ 40 → 40 - j < d → x3 = x3 → x4 = x4 → (gz (40 - j) x3 x4 = true) → (gq (40 - j) x3 x4 = gq 40 x y) → va_P G.2.1 vwCl (wl G 24 (cM G σ)) H → va_S (xA G 24 s.heap.size) s.heap H locs → lv_has ls 6 [(4, .int x4), (3, .int x3), (0, .ref (G.1 0)), (1, .int x), (2, .int y)] → W p l e ({ frames := 0, cells := 0, slots := 0, locals := 0 } : Room) s m ([.ref (G.1 0), .int x, .int y] : List Value).toArray below meth c H locs 0 0 (MQ below (va_Qi (fun (r : Int32) u => r = 1 ∧ u = w_frac σ x y) (xB G 24 (cM G)) (xA G 24 s.heap.size)) ([.ref (G.1 0), .int x, .int y] : List Value).toArray s 0 0 (xA G 24 s.heap.size)) (F0 m 5 ls []) := by
    intro d
    induction d with
    | zero => intro j x3 x4 H locs ls hj hd; exact absurd hd (Nat.not_lt_zero _)
    | succ d ih_5 =>
      intro j x3 x4 H locs ls hj_j hd_j e_x3 e_x4 hcl hct hP hS hl
      refine lv_iload hx hb dX8_fraction_5 (lv_at hl 0 rfl) ?_
      refine lv_if_eq (tgt := 26) hx hb dX8_fraction_7 (by decide) (fun c_1 => ?_) (fun c_1 => ?_)
      · have t_1 := i_eq c_1
        have hxx : x3 = gq 40 x y := by rw [← hct]; cases hj9 : 40 - j with | zero => rfl | succ f => rw [gq, if_pos (by assumption)]
        have hxn : ¬ x3 = 0 := by rw [hxx]; exact hgn
        refine lv_aload_n hx hb dX8_fraction_26 rfl (lv_at hl 2 rfl) ?_
        refine lv_iload_n hx hb dX8_fraction_27 rfl (lv_at hl 3 rfl) ?_
        refine lv_iload_n hx hb dX8_fraction_28 rfl (lv_at hl 1 rfl) ?_
        refine lv_idiv hx hb dX8_fraction_29 hxn ?_
        refine lv_i2l (v := (x / x3).toInt64) hx hb dX8_fraction_30 rfl ?_
        refine p8_295 ha hP hS (cM_loc G) 0 (by decide) (cM_0 G _) (x := (x / x3).toInt64) (Nat.le_of_ble_eq_true rfl) (mU σ 0 1 (x / x3)) (fun q hq => mU_n _ _ _ hq) (cM_p0_1 G _ _) dX8_fraction_31 (fun H locs hP hS => ?_)
        refine lv_aload_n hx hb dX8_fraction_34 rfl (lv_at hl 2 rfl) ?_
        refine lv_iload_n hx hb dX8_fraction_35 rfl (lv_at hl 4 rfl) ?_
        refine lv_iload_n hx hb dX8_fraction_36 rfl (lv_at hl 1 rfl) ?_
        refine lv_idiv hx hb dX8_fraction_37 hxn ?_
        refine lv_i2l (v := (y / x3).toInt64) hx hb dX8_fraction_38 rfl ?_
        refine p8_22 ha hP hS (cM_loc G) 0 (by decide) (cM_0 G _) (x := (y / x3).toInt64) (Nat.le_of_ble_eq_true rfl) (mU (mU σ 0 1 (x / x3)) 0 2 (y / x3)) (fun q hq => mU_n _ _ _ hq) (cM_p0_2 G _ _) dX8_fraction_39 (fun H locs hP hS => ?_)
        refine lv_iconst (v := 1) hx hb dX8_fraction_42 (by decide) ?_
        exact xiret ha hP hS dX8_fraction_43 ⟨by rfl, (by rw [w_frac, ← hxx])⟩ rfl
      · have t_1 := i_ne c_1
        obtain ⟨f, hf⟩ : ∃ f, 40 - j = f + 1 := by cases hj9 : 40 - j with | zero => (rw [hj9, gz] at hcl; exact absurd (of_decide_eq_true hcl) (by assumption)) | succ f => exact ⟨f, rfl⟩
        rw [hf, gz, if_neg (by assumption)] at hcl
        rw [hf, gq, if_neg (by assumption)] at hct
        have hff : 40 - (j + 1) = f := by omega
        refine lv_iload_n hx hb dX8_fraction_10 rfl (lv_at hl 1 rfl) ?_
        refine lv_iload hx hb dX8_fraction_11 (lv_at hl 0 rfl) ?_
        refine lv_irem hx hb dX8_fraction_13 (by assumption) ?_
        refine lv_istore (lv' := [(5, .int (x3 - x3 / x4 * x4)), (4, .int x4), (3, .int x3), (0, .ref (G.1 0)), (1, .int x), (2, .int y)]) hx hb dX8_fraction_14 hl (by decide) rfl (fun ls hl => ?_)
        refine lv_iload hx hb dX8_fraction_16 (lv_at hl 1 rfl) ?_
        refine lv_istore_n (lv' := [(3, .int x4), (5, .int (x3 - x3 / x4 * x4)), (4, .int x4), (0, .ref (G.1 0)), (1, .int x), (2, .int y)]) hx hb dX8_fraction_18 rfl hl (by decide) rfl (fun ls hl => ?_)
        refine lv_iload hx hb dX8_fraction_19 (lv_at hl 1 rfl) ?_
        refine lv_istore (lv' := [(4, .int (x3 - x3 / x4 * x4)), (3, .int x4), (5, .int (x3 - x3 / x4 * x4)), (0, .ref (G.1 0)), (1, .int x), (2, .int y)]) hx hb dX8_fraction_21 hl (by decide) rfl (fun ls hl => ?_)
        refine lv_goto (tgt := 5) hx hb dX8_fraction_23 (by decide) ?_
        exact ih_5 (j + 1) x4 (x3 - x3 / x4 * x4) _ _ _ (by omega) (by omega) rfl rfl (by rw [hff]; exact hcl) (by rw [hff]; exact hct) hP hS (lv_sub hl [0, 1, 3, 4, 5] rfl)
  exact lp_5 (40 - 0 + 1) 0 x y _ _ _ (by omega) (by omega) rfl rfl hgz rfl hP hS (lv_sub hl [0, 1, 2, 3, 4] rfl)
set_option maxHeartbeats 800000 in
set_option maxRecDepth 100000 in
theorem c_X8_odds (G : GT) (l : Launch) (σ : Mem) (i : Int32) (pp : Int32) (hpb : PB (pM σ)) (hsv : SV (pM σ) σ 11) : CI G 24 (cM G) l yX8_odds ({ frames := 4, cells := 0, slots := 0, locals := 93 } : Room) cX8_odds 4 (some .int) [.ref (G.1 0), .int i, .int pp] σ (fun (r : Int32) u => r = (n_odds σ i pp).1 ∧ u = (n_odds σ i pp).2) := by
  intro sz
  refine xbegin (by decide) (Nat.le_of_ble_eq_true rfl) ?_
  intro p e s m below meth c ls hsz ha hP hl
  subst hsz
  have hx := ha.1
  have hb := ha.2.1
  have hS : va_S (xA G 24 s.heap.size) s.heap s.heap [] := va_S.rf
  have hl : lv_has ls 4 [(0, .ref (G.1 0)), (1, .int i), (2, .int pp)] := hl
  have k_m9 : (-9 : Int32).toInt = -9 := by decide
  have k_m1 : (-1 : Int32).toInt = -1 := by decide
  have k_0 : (0 : Int32).toInt = 0 := by decide
  have k_4 : (4 : Int32).toInt = 4 := by decide
  have k_5 : (5 : Int32).toInt = 5 := by decide
  have k_6 : (6 : Int32).toInt = 6 := by decide
  have k_12 : (12 : Int32).toInt = 12 := by decide
  have hPL := PB_pl hpb
  have hPE := PB_pe hpb
  have hp4 := PV_pl hpb (rfl : pM σ = pM σ)
  have hp5 := PV_pe hpb (rfl : pM σ = pM σ)
  refine lv_aload_n hx hb dX8_odds_0 rfl (lv_at hl 0 rfl) ?_
  refine lv_iload_n hx hb dX8_odds_1 rfl (lv_at hl 1 rfl) ?_
  refine xVi ha hP hS (y := yX8_isOne) (As := [.int i]) (rest := []) 0 (by decide) (cM_0 G _) rfl rfl (c_X8_isOne G l σ (pM σ) i hpb rfl) kw_X8_209 hd_X8_isOne rfl ⟨rfl, rfl⟩ ⟨Nat.le_of_ble_eq_true rfl, Nat.le_of_ble_eq_true rfl⟩ ⟨Nat.zero_le _, Nat.zero_le _⟩ hl.1 (Nat.le_of_ble_eq_true rfl) rfl dX8_odds_2 (fun r u H locs hpq hP hS => ?_)
  obtain ⟨hr_, hu_⟩ := hpq
  have hr_ := hr_.symm
  have hu_ := hu_.symm
  subst hr_
  subst hu_
  refine lv_if_eq (tgt := 20) hx hb dX8_odds_5 (by decide) (fun c_1 => ?_) (fun c_1 => ?_)
  · have t_1 := b2i_f c_1
    refine lv_iconst (v := (-1)) hx hb dX8_odds_20 (by decide) ?_
    exact xiret ha hP hS dX8_odds_21 ⟨by simp [n_odds, od_x, t_1, i_leN, -Int32.not_lt], (by simp [n_odds, od_x, t_1, i_leN, -Int32.not_lt])⟩ rfl
  · have t_1 := b2i_t c_1
    have f_1 := isOne_t t_1
    refine lv_iload_n hx hb dX8_odds_8 rfl (lv_at hl 2 rfl) ?_
    refine lv_i2l (v := pp.toInt64) hx hb dX8_odds_9 rfl ?_
    refine lv_lconst (v := 0) hx hb dX8_odds_10 (by decide) ?_
    refine lv_ldc2 (v := 12) hx hb ha.2.2.2.1 (ha.2.2.2.2.1 _ (tb_in (w := .constantLong RX8 298 12) (by decide +kernel))) dX8_odds_11 ?_
    refine xSi ha hP hS (y := yX8_in) (As := [.long pp.toInt64, .long 0, .long 12]) (rest := []) rfl (c_X8_in G l σ pp.toInt64 0 12 ) kw_X8_95 hd_X8_in rfl ⟨rfl, rfl⟩ ⟨Nat.le_of_ble_eq_true rfl, Nat.le_of_ble_eq_true rfl⟩ ⟨Nat.zero_le _, Nat.zero_le _⟩ hl.1 (Nat.le_of_ble_eq_true rfl) rfl dX8_odds_14 (fun r u H locs hpq hP hS => ?_)
    obtain ⟨hr_, hu_⟩ := hpq
    have hr_ := hr_.symm
    have hu_ := hu_.symm
    subst hr_
    subst hu_
    refine lv_if_ne (tgt := 22) hx hb dX8_odds_17 (by decide) (fun c_2 => ?_) (fun c_2 => ?_)
    · have t_2 := b2i_t c_2
      have f_2 := bin_t t_2
      try simp only [Int32.toInt_toInt64, ll_0, ll_1, ll_2, ll_3, ll_4, ll_5, ll_9, ll_12, ll_20, ll_40, ll_57, ll_99, ll_2147483646] at f_2
      have hsj := hsv (ix i) (ix_lt (by omega) (by omega))
      have hi9 := ix_toInt (show 0 ≤ i.toInt by omega)
      refine lv_aload_n hx hb dX8_odds_22 rfl (lv_at hl 0 rfl) ?_
      refine g8_44 ha hP 0 (by decide) (cM_0 G _) (v := .ref (G.1 11)) rfl dX8_odds_23 ?_
      refine lv_iconst (v := 5) hx hb dX8_odds_26 (by decide) ?_
      refine lv_iload_n hx hb dX8_odds_27 rfl (lv_at hl 1 rfl) ?_
      refine lv_iadd hx hb dX8_odds_28 ?_
      refine xialdN ha hP 11 (by decide) (cM_11 G _) (5 + (ix i)) (nadd (rfl : (5 : Int32) = nI 5) (ix_nI (by omega))) (by have q_0 := ix_toInt (show (0 : Int) ≤ (i).toInt by omega); omega) (by decide) dX8_odds_29 ?_
      refine lv_istore_n (lv' := [(3, .int (σ 11 (5 + (ix i)))), (0, .ref (G.1 0)), (1, .int i), (2, .int pp)]) hx hb dX8_odds_30 rfl hl (by decide) rfl (fun ls hl => ?_)
      refine lv_aload_n hx hb dX8_odds_31 rfl (lv_at hl 1 rfl) ?_
      refine lv_iload_n hx hb dX8_odds_32 rfl (lv_at hl 0 rfl) ?_
      refine lv_bipush (v := (-9)) hx hb dX8_odds_33 (by decide) ?_
      refine lv_icmp_eq (tgt := 57) hx hb dX8_odds_35 (by decide) (fun c_3 => ?_) (fun c_3 => ?_)
      · have t_3 := i_eq c_3
        have hxp : 0 ≤ (0 : Int32).toInt := by decide
        refine lv_iconst (v := 0) hx hb dX8_odds_57 (by decide) ?_
        refine lv_bipush (v := 12) hx hb dX8_odds_58 (by decide) ?_
        refine xVi ha hP hS (y := yX8_fraction) (As := [.int 0, .int 12]) (rest := []) 0 (by decide) (cM_0 G _) rfl rfl (c_X8_fraction G l σ 0 12 ((gz_12 hxp).1) ((gz_12 hxp).2)) kw_X8_300 hd_X8_fraction rfl ⟨rfl, rfl⟩ ⟨Nat.le_of_ble_eq_true rfl, Nat.le_of_ble_eq_true rfl⟩ ⟨Nat.zero_le _, Nat.zero_le _⟩ hl.1 (Nat.le_of_ble_eq_true rfl) rfl dX8_odds_60 (fun r u H locs hpq hP hS => ?_)
        obtain ⟨hr_, hu_⟩ := hpq
        have hr_ := hr_.symm
        have hu_ := hu_.symm
        subst hr_
        subst hu_
        exact xiret ha hP hS dX8_odds_63 ⟨by simp [n_odds, od_x, t_1, t_2, c_3, i_leN, -Int32.not_lt], (by simp [n_odds, od_x, t_1, t_2, c_3, i_leN, -Int32.not_lt])⟩ rfl
      · have t_3 := i_ne c_3
        have hpk := hsj.resolve_left c_3
        refine lv_aload_n hx hb dX8_odds_38 rfl (lv_at hl 1 rfl) ?_
        refine lv_aload_n hx hb dX8_odds_39 rfl (lv_at hl 1 rfl) ?_
        refine g8_44 ha hP 0 (by decide) (cM_0 G _) (v := .ref (G.1 11)) rfl dX8_odds_40 ?_
        refine lv_iload_n hx hb dX8_odds_43 rfl (lv_at hl 0 rfl) ?_
        refine xVi ha hP hS (y := yX8_holdsOn) (As := [.ref (G.1 11), .int (σ 11 (5 + (ix i)))]) (rest := [.ref (G.1 0)]) 0 (by decide) (cM_0 G _) rfl rfl (c_X8_holdsOn G l σ (pM σ) 11 (σ 11 (5 + (ix i))) hpb rfl (by unfold oT; omega) hpk) kw_X8_196 hd_X8_holdsOn rfl ⟨rfl, rfl⟩ ⟨Nat.le_of_ble_eq_true rfl, Nat.le_of_ble_eq_true rfl⟩ ⟨Nat.zero_le _, Nat.zero_le _⟩ hl.1 (Nat.le_of_ble_eq_true rfl) rfl dX8_odds_44 (fun r u H locs hpq hP hS => ?_)
        obtain ⟨hr_, hu_⟩ := hpq
        have hr_ := hr_.symm
        have hu_ := hu_.symm
        subst hr_
        subst hu_
        have jn_4 : ∀ x_4 : Int32, x_4 = (if (decide (a_load (pM σ) (sM σ 11) (σ 11 (5 + (ix i))) ≤ a_bearsNow (pM σ) (sM σ 11) (σ 11 (5 + (ix i))))) = true then (12 - pp) else 0) → W p l e ({ frames := 4, cells := 0, slots := 0, locals := 93 } : Room) s m ([.ref (G.1 0), .int i, .int pp] : List Value).toArray below meth c H locs 0 0 (MQ below (va_Qi (fun (r : Int32) u => r = (n_odds σ i pp).1 ∧ u = (n_odds σ i pp).2) (xB G 24 (cM G)) (xA G 24 s.heap.size)) ([.ref (G.1 0), .int i, .int pp] : List Value).toArray s 0 0 (xA G 24 s.heap.size)) (F0 m 58 ls [.int x_4, .ref (G.1 0)]) := by
          intro x_4 ex_4
          have hxp : 0 ≤ (x_4).toInt := by rw [ex_4]; split; (rw [sub_i (by omega) (by omega)]; omega); decide
          refine lv_bipush (v := 12) hx hb dX8_odds_58 (by decide) ?_
          refine xVi ha hP hS (y := yX8_fraction) (As := [.int x_4, .int 12]) (rest := []) 0 (by decide) (cM_0 G _) rfl rfl (c_X8_fraction G l σ x_4 12 ((gz_12 hxp).1) ((gz_12 hxp).2)) kw_X8_300 hd_X8_fraction rfl ⟨rfl, rfl⟩ ⟨Nat.le_of_ble_eq_true rfl, Nat.le_of_ble_eq_true rfl⟩ ⟨Nat.zero_le _, Nat.zero_le _⟩ hl.1 (Nat.le_of_ble_eq_true rfl) rfl dX8_odds_60 (fun r u H locs hpq hP hS => ?_)
          obtain ⟨hr_, hu_⟩ := hpq
          have hr_ := hr_.symm
          have hu_ := hu_.symm
          subst hr_
          subst hu_
          exact xiret ha hP hS dX8_odds_63 ⟨by simp [n_odds, od_x, t_1, t_2, c_3, ex_4, i_leN, -Int32.not_lt], (by simp [n_odds, od_x, t_1, t_2, c_3, ex_4, i_leN, -Int32.not_lt])⟩ rfl
        refine lv_if_eq (tgt := 57) hx hb dX8_odds_47 (by decide) (fun c_4 => ?_) (fun c_4 => ?_)
        · have t_4 := b2i_f c_4
          have f_4 := of_decide_eq_false t_4
          refine lv_iconst (v := 0) hx hb dX8_odds_57 (by decide) ?_
          exact jn_4 _ (if_neg (Bool.eq_false_iff.mp t_4)).symm
        · have t_4 := b2i_t c_4
          have f_4 := of_decide_eq_true t_4
          refine lv_bipush (v := 12) hx hb dX8_odds_50 (by decide) ?_
          refine lv_iload_n hx hb dX8_odds_52 rfl (lv_at hl 3 rfl) ?_
          refine lv_isub hx hb dX8_odds_53 ?_
          refine lv_goto (tgt := 58) hx hb dX8_odds_54 (by decide) ?_
          exact jn_4 _ (if_pos t_4).symm
    · have t_2 := b2i_f c_2
      have f_2 := bin_f t_2
      try simp only [Int32.toInt_toInt64, ll_0, ll_1, ll_2, ll_3, ll_4, ll_5, ll_9, ll_12, ll_20, ll_40, ll_57, ll_99, ll_2147483646] at f_2
      refine lv_iconst (v := (-1)) hx hb dX8_odds_20 (by decide) ?_
      exact xiret ha hP hS dX8_odds_21 ⟨by simp [n_odds, od_x, t_1, t_2, i_leN, -Int32.not_lt], (by simp [n_odds, od_x, t_1, t_2, i_leN, -Int32.not_lt])⟩ rfl
set_option maxHeartbeats 800000 in
set_option maxRecDepth 100000 in
theorem c_X8_mid (G : GT) (l : Launch) (σ : Mem) (pp : Int32) (hpb : PB (pM σ)) (hsv : SV (pM σ) σ 11) (hw : 0 ≤ pp.toInt → pp.toInt ≤ 12 → 0 ≤ (b_worth (pM σ) (sM (w_aside σ) 12) * (12 - pp)).toInt) : CI G 24 (cM G) l yX8_mid ({ frames := 5, cells := 0, slots := 0, locals := 116 } : Room) cX8_mid 2 (some .int) [.ref (G.1 0), .int pp] σ (fun (r : Int32) u => r = (n_mid σ pp).1 ∧ u = (n_mid σ pp).2) := by
  intro sz
  refine xbegin (by decide) (Nat.le_of_ble_eq_true rfl) ?_
  intro p e s m below meth c ls hsz ha hP hl
  subst hsz
  have hx := ha.1
  have hb := ha.2.1
  have hS : va_S (xA G 24 s.heap.size) s.heap s.heap [] := va_S.rf
  have hl : lv_has ls 2 [(0, .ref (G.1 0)), (1, .int pp)] := hl
  have k_m4 : (-4 : Int32).toInt = -4 := by decide
  have k_m1 : (-1 : Int32).toInt = -1 := by decide
  have k_0 : (0 : Int32).toInt = 0 := by decide
  have k_4 : (4 : Int32).toInt = 4 := by decide
  have k_5 : (5 : Int32).toInt = 5 := by decide
  have k_6 : (6 : Int32).toInt = 6 := by decide
  have k_12 : (12 : Int32).toInt = 12 := by decide
  have hPL := PB_pl hpb
  have hPE := PB_pe hpb
  have hp4 := PV_pl hpb (rfl : pM σ = pM σ)
  have hp5 := PV_pe hpb (rfl : pM σ = pM σ)
  refine lv_iload_n hx hb dX8_mid_0 rfl (lv_at hl 1 rfl) ?_
  refine lv_i2l (v := pp.toInt64) hx hb dX8_mid_1 rfl ?_
  refine lv_lconst (v := 0) hx hb dX8_mid_2 (by decide) ?_
  refine lv_ldc2 (v := 12) hx hb ha.2.2.2.1 (ha.2.2.2.2.1 _ (tb_in (w := .constantLong RX8 298 12) (by decide +kernel))) dX8_mid_3 ?_
  refine xSi ha hP hS (y := yX8_in) (As := [.long pp.toInt64, .long 0, .long 12]) (rest := []) rfl (c_X8_in G l σ pp.toInt64 0 12 ) kw_X8_95 hd_X8_in rfl ⟨rfl, rfl⟩ ⟨Nat.le_of_ble_eq_true rfl, Nat.le_of_ble_eq_true rfl⟩ ⟨Nat.zero_le _, Nat.zero_le _⟩ hl.1 (Nat.le_of_ble_eq_true rfl) rfl dX8_mid_6 (fun r u H locs hpq hP hS => ?_)
  obtain ⟨hr_, hu_⟩ := hpq
  have hr_ := hr_.symm
  have hu_ := hu_.symm
  subst hr_
  subst hu_
  refine lv_if_ne (tgt := 14) hx hb dX8_mid_9 (by decide) (fun c_1 => ?_) (fun c_1 => ?_)
  · have t_1 := b2i_t c_1
    have f_1 := bin_t t_1
    try simp only [Int32.toInt_toInt64, ll_0, ll_1, ll_2, ll_3, ll_4, ll_5, ll_9, ll_12, ll_20, ll_40, ll_57, ll_99, ll_2147483646] at f_1
    refine lv_aload_n hx hb dX8_mid_14 rfl (lv_at hl 0 rfl) ?_
    refine g8_163 ha hP 0 (by decide) (cM_0 G _) (v := .int (σ 0 4)) rfl dX8_mid_15 ?_
    refine lv_if_ne (tgt := 24) hx hb dX8_mid_18 (by decide) (fun c_2 => ?_) (fun c_2 => ?_)
    · have t_2 := i_ne c_2
      refine lv_aload_n hx hb dX8_mid_24 rfl (lv_at hl 0 rfl) ?_
      refine xVv ha hP hS (y := yX8_layAside) (As := []) (rest := []) 0 (by decide) (cM_0 G _) rfl rfl (c_X8_layAside G l σ  ) kw_X8_232 hd_X8_layAside rfl ⟨rfl, rfl⟩ ⟨Nat.le_of_ble_eq_true rfl, Nat.le_of_ble_eq_true rfl⟩ ⟨Nat.zero_le _, Nat.zero_le _⟩ hl.1 (Nat.le_of_ble_eq_true rfl) rfl dX8_mid_25 (fun u H locs hpq hP hS => ?_)
      have hpq := hpq.symm
      subst hpq
      refine lv_aload_n hx hb dX8_mid_28 rfl (lv_at hl 0 rfl) ?_
      refine lv_aload_n hx hb dX8_mid_29 rfl (lv_at hl 0 rfl) ?_
      refine xVi ha hP hS (y := yX8_worth) (As := []) (rest := [.ref (G.1 0)]) 0 (by decide) (cM_0 G _) rfl rfl (c_X8_worth G l (w_aside σ) (pM σ) hpb ((pM_aside _).trans rfl) (SV_aside hPE.2.1 hsv)) kw_X8_289 hd_X8_worth rfl ⟨rfl, rfl⟩ ⟨Nat.le_of_ble_eq_true rfl, Nat.le_of_ble_eq_true rfl⟩ ⟨Nat.zero_le _, Nat.zero_le _⟩ hl.1 (Nat.le_of_ble_eq_true rfl) rfl dX8_mid_30 (fun r u H locs hpq hP hS => ?_)
      obtain ⟨hr_, hu_⟩ := hpq
      have hr_ := hr_.symm
      have hu_ := hu_.symm
      subst hr_
      subst hu_
      have hxp := hw (by omega) (by omega)
      refine lv_bipush (v := 12) hx hb dX8_mid_33 (by decide) ?_
      refine lv_iload_n hx hb dX8_mid_35 rfl (lv_at hl 1 rfl) ?_
      refine lv_isub hx hb dX8_mid_36 ?_
      refine lv_imul hx hb dX8_mid_37 ?_
      refine lv_bipush (v := 12) hx hb dX8_mid_38 (by decide) ?_
      refine xVi ha hP hS (y := yX8_fraction) (As := [.int ((b_worth (pM σ) (sM (w_aside σ) 12)) * (12 - pp)), .int 12]) (rest := []) 0 (by decide) (cM_0 G _) rfl rfl (c_X8_fraction G l (w_aside σ) ((b_worth (pM σ) (sM (w_aside σ) 12)) * (12 - pp)) 12 ((gz_12 hxp).1) ((gz_12 hxp).2)) kw_X8_300 hd_X8_fraction rfl ⟨rfl, rfl⟩ ⟨Nat.le_of_ble_eq_true rfl, Nat.le_of_ble_eq_true rfl⟩ ⟨Nat.zero_le _, Nat.zero_le _⟩ hl.1 (Nat.le_of_ble_eq_true rfl) rfl dX8_mid_40 (fun r u H locs hpq hP hS => ?_)
      obtain ⟨hr_, hu_⟩ := hpq
      have hr_ := hr_.symm
      have hu_ := hu_.symm
      subst hr_
      subst hu_
      exact xiret ha hP hS dX8_mid_43 ⟨by simp [n_mid, t_1, c_2, i_leN, -Int32.not_lt], (by simp [n_mid, t_1, c_2, i_leN, -Int32.not_lt])⟩ rfl
    · have t_2 := i_eq c_2
      refine lv_bipush (v := (-4)) hx hb dX8_mid_21 (by decide) ?_
      exact xiret ha hP hS dX8_mid_23 ⟨by simp [n_mid, t_1, c_2, i_leN, -Int32.not_lt], (by simp [n_mid, t_1, c_2, i_leN, -Int32.not_lt])⟩ rfl
  · have t_1 := b2i_f c_1
    have f_1 := bin_f t_1
    try simp only [Int32.toInt_toInt64, ll_0, ll_1, ll_2, ll_3, ll_4, ll_5, ll_9, ll_12, ll_20, ll_40, ll_57, ll_99, ll_2147483646] at f_1
    refine lv_iconst (v := (-1)) hx hb dX8_mid_12 (by decide) ?_
    exact xiret ha hP hS dX8_mid_13 ⟨by simp [n_mid, t_1, i_leN, -Int32.not_lt], (by simp [n_mid, t_1, i_leN, -Int32.not_lt])⟩ rfl
set_option maxHeartbeats 800000 in
set_option maxRecDepth 100000 in
theorem c_X8_lot (G : GT) (l : Launch) (σ : Mem) (P : PT) (lx : Int32) (hpb : PB P) (hPV : pM σ = P) (hx0 : 0 ≤ lx.toInt) (hd : 0 ≤ (σ 0 6).toInt ∧ (σ 0 6).toInt < 40) (h0 : 0 < nPl P) (h1 : 0 < nPe P) : CV G 24 (cM G) l yX8_lot ({ frames := 5, cells := 0, slots := 0, locals := 117 } : Room) cX8_lot 5 none [.ref (G.1 0), .int lx] σ (fun u => u = w_lot P σ lx) := by
  intro sz
  refine xbegin (by decide) (Nat.le_of_ble_eq_true rfl) ?_
  intro p e s m below meth c ls hsz ha hP hl
  subst hsz
  have hx := ha.1
  have hb := ha.2.1
  have hS : va_S (xA G 24 s.heap.size) s.heap s.heap [] := va_S.rf
  have hl : lv_has ls 5 [(0, .ref (G.1 0)), (1, .int lx)] := hl
  have k_m9 : (-9 : Int32).toInt = -9 := by decide
  have k_0 : (0 : Int32).toInt = 0 := by decide
  have k_1 : (1 : Int32).toInt = 1 := by decide
  have k_3 : (3 : Int32).toInt = 3 := by decide
  have k_4 : (4 : Int32).toInt = 4 := by decide
  have k_5 : (5 : Int32).toInt = 5 := by decide
  have k_6 : (6 : Int32).toInt = 6 := by decide
  have k_8 : (8 : Int32).toInt = 8 := by decide
  have k_11 : (11 : Int32).toInt = 11 := by decide
  have k_64 : (64 : Int32).toInt = 64 := by decide
  have hPL := PB_pl hpb
  have hPE := PB_pe hpb
  have hp4 := PV_pl hpb hPV
  have hp5 := PV_pe hpb hPV
  have hlo := lo_ok hpb h0 h1 hx0
  have hlo1 := isOne_t hlo.1
  have hlo2 := ix_toInt hlo1.1
  have p4 := PV_4 hPV
  have p5 := PV_5 hPV
  refine lv_iload_n hx hb dX8_lot_0 rfl (lv_at hl 1 rfl) ?_
  refine lv_bipush (v := 8) hx hb dX8_lot_1 (by decide) ?_
  refine lv_idiv hx hb dX8_lot_3 (by decide) ?_
  refine lv_aload_n hx hb dX8_lot_4 rfl (lv_at hl 0 rfl) ?_
  refine g8_166 ha hP 0 (by decide) (cM_0 G _) (v := .int (σ 0 5)) rfl dX8_lot_5 ?_
  refine lv_iremE (z := (lo_i P lx)) hx hb dX8_lot_8 (i_nz (by omega)) (by rw [p5]; rfl) ?_
  refine lv_istore_n (lv' := [(2, .int (lo_i P lx)), (0, .ref (G.1 0)), (1, .int lx)]) hx hb dX8_lot_9 rfl hl (by decide) rfl (fun ls hl => ?_)
  refine lv_iload_n hx hb dX8_lot_10 rfl (lv_at hl 2 rfl) ?_
  refine lv_bipush (v := 64) hx hb dX8_lot_11 (by decide) ?_
  refine lv_idiv hx hb dX8_lot_13 (by decide) ?_
  refine lv_aload_n hx hb dX8_lot_14 rfl (lv_at hl 1 rfl) ?_
  refine g8_163 ha hP 0 (by decide) (cM_0 G _) (v := .int (σ 0 4)) rfl dX8_lot_15 ?_
  refine lv_iremE (z := (lo_k P lx)) hx hb dX8_lot_18 (i_nz (by omega)) (by rw [p4]; rfl) ?_
  refine lv_istore_n (lv' := [(3, .int (lo_k P lx)), (2, .int (lo_i P lx)), (0, .ref (G.1 0)), (1, .int lx)]) hx hb dX8_lot_19 rfl hl (by decide) rfl (fun ls hl => ?_)
  refine lv_aload_n hx hb dX8_lot_20 rfl (lv_at hl 2 rfl) ?_
  refine xVv ha hP hS (y := yX8_remember) (As := []) (rest := []) 0 (by decide) (cM_0 G _) rfl rfl (c_X8_remember G l σ  hd) kw_X8_217 hd_X8_remember rfl ⟨rfl, rfl⟩ ⟨Nat.le_of_ble_eq_true rfl, Nat.le_of_ble_eq_true rfl⟩ ⟨Nat.zero_le _, Nat.zero_le _⟩ hl.1 (Nat.le_of_ble_eq_true rfl) rfl dX8_lot_21 (fun u H locs hpq hP hS => ?_)
  have hpq := hpq.symm
  subst hpq
  refine lv_iload_n hx hb dX8_lot_24 rfl (lv_at hl 3 rfl) ?_
  refine lv_iconst (v := 3) hx hb dX8_lot_25 (by decide) ?_
  refine lv_irem hx hb dX8_lot_26 (by decide) ?_
  refine lv_if_ne (tgt := 43) hx hb dX8_lot_27 (by decide) (fun c_1 => ?_) (fun c_1 => ?_)
  · have t_1 := i_ne c_1
    refine lv_aload_n hx hb dX8_lot_43 rfl (lv_at hl 2 rfl) ?_
    refine g8_44 ha hP 0 (by decide) (cM_0 G _) (v := .ref (G.1 11)) rfl dX8_lot_44 ?_
    refine lv_iconst (v := 5) hx hb dX8_lot_47 (by decide) ?_
    refine lv_iload_n hx hb dX8_lot_48 rfl (lv_at hl 1 rfl) ?_
    refine lv_iadd hx hb dX8_lot_49 ?_
    refine xialdN ha hP 11 (by decide) (cM_11 G _) (5 + (ix (lo_i P lx))) (nadd (rfl : (5 : Int32) = nI 5) (ix_nI (by omega))) (by have q_0 := ix_toInt (show (0 : Int) ≤ (lo_i P lx).toInt by omega); omega) (by decide) dX8_lot_50 ?_
    refine lv_bipush (v := (-9)) hx hb dX8_lot_51 (by decide) ?_
    refine lv_icmp_eq (tgt := 69) hx hb dX8_lot_53 (by decide) (fun c_2 => ?_) (fun c_2 => ?_)
    · have t_2 := i_eq c_2
      refine lv_aload_n hx hb dX8_lot_69 rfl (lv_at hl 2 rfl) ?_
      refine g8_44 ha hP 0 (by decide) (cM_0 G _) (v := .ref (G.1 11)) rfl dX8_lot_70 ?_
      refine lv_iload_n hx hb dX8_lot_73 rfl (lv_at hl 0 rfl) ?_
      refine xSi ha hP hS (y := yX8_isUp) (As := [.ref (G.1 11), .int (lo_k P lx)]) (rest := []) rfl (c_X8_isUp G l (w_rem σ) P 11 (lo_k P lx) hpb ((pM_rem _).trans hPV) (by unfold oT; omega) hlo.2) kw_X8_192 hd_X8_isUp rfl ⟨rfl, rfl⟩ ⟨Nat.le_of_ble_eq_true rfl, Nat.le_of_ble_eq_true rfl⟩ ⟨Nat.zero_le _, Nat.zero_le _⟩ hl.1 (Nat.le_of_ble_eq_true rfl) rfl dX8_lot_74 (fun r u H locs hpq hP hS => ?_)
      obtain ⟨hr_, hu_⟩ := hpq
      have hr_ := hr_.symm
      have hu_ := hu_.symm
      subst hr_
      subst hu_
      refine lv_if_eq (tgt := 92) hx hb dX8_lot_77 (by decide) (fun c_3 => ?_) (fun c_3 => ?_)
      · have t_3 := b2i_f c_3
        refine lv_aload_n hx hb dX8_lot_92 rfl (lv_at hl 2 rfl) ?_
        refine g8_44 ha hP 0 (by decide) (cM_0 G _) (v := .ref (G.1 11)) rfl dX8_lot_93 ?_
        refine lv_bipush (v := 11) hx hb dX8_lot_96 (by decide) ?_
        refine lv_dup2_11 hx hb dX8_lot_98 rfl rfl ?_
        refine xialdN ha hP 11 (by decide) (cM_11 G _) 11 (by decide) (by decide) (by decide) dX8_lot_99 ?_
        refine lv_iconst (v := 1) hx hb dX8_lot_100 (by decide) ?_
        refine lv_iadd hx hb dX8_lot_101 ?_
        refine xiastN ha hP hS (cM_loc G) 11 (by decide) (fun τ => cM_11 G τ) 11 (by decide) (by decide) (by decide) dX8_lot_102 (fun H locs hP hS => ?_)
        exact xvret ha hP hS dX8_lot_103 (by unfold w_lot; rw [show σ 11 = w_rem σ 11 from (w_rem_n σ (by decide)).symm, ← sM_rem]; simp [c_1, c_2, t_3])
      · have t_3 := b2i_t c_3
        refine lv_aload_n hx hb dX8_lot_80 rfl (lv_at hl 2 rfl) ?_
        refine g8_44 ha hP 0 (by decide) (cM_0 G _) (v := .ref (G.1 11)) rfl dX8_lot_81 ?_
        refine lv_iconst (v := 5) hx hb dX8_lot_84 (by decide) ?_
        refine lv_iload_n hx hb dX8_lot_85 rfl (lv_at hl 1 rfl) ?_
        refine lv_iadd hx hb dX8_lot_86 ?_
        refine lv_iload_n hx hb dX8_lot_87 rfl (lv_at hl 0 rfl) ?_
        refine xiastN ha hP hS (cM_loc G) 11 (by decide) (fun τ => cM_11 G τ) (5 + (ix (lo_i P lx))) (nadd (rfl : (5 : Int32) = nI 5) (ix_nI (by omega))) (by have q_0 := ix_toInt (show (0 : Int) ≤ (lo_i P lx).toInt by omega); omega) (by decide) dX8_lot_88 (fun H locs hP hS => ?_)
        refine lv_goto (tgt := 103) hx hb dX8_lot_89 (by decide) ?_
        exact xvret ha hP hS dX8_lot_103 (by unfold w_lot; rw [show σ 11 = w_rem σ 11 from (w_rem_n σ (by decide)).symm, ← sM_rem]; simp [c_1, c_2, t_3])
    · have t_2 := i_ne c_2
      refine lv_aload_n hx hb dX8_lot_56 rfl (lv_at hl 2 rfl) ?_
      refine g8_44 ha hP 0 (by decide) (cM_0 G _) (v := .ref (G.1 11)) rfl dX8_lot_57 ?_
      refine lv_iconst (v := 5) hx hb dX8_lot_60 (by decide) ?_
      refine lv_iload_n hx hb dX8_lot_61 rfl (lv_at hl 1 rfl) ?_
      refine lv_iadd hx hb dX8_lot_62 ?_
      refine lv_bipush (v := (-9)) hx hb dX8_lot_63 (by decide) ?_
      refine xiastN ha hP hS (cM_loc G) 11 (by decide) (fun τ => cM_11 G τ) (5 + (ix (lo_i P lx))) (nadd (rfl : (5 : Int32) = nI 5) (ix_nI (by omega))) (by have q_0 := ix_toInt (show (0 : Int) ≤ (lo_i P lx).toInt by omega); omega) (by decide) dX8_lot_65 (fun H locs hP hS => ?_)
      refine lv_goto (tgt := 103) hx hb dX8_lot_66 (by decide) ?_
      exact xvret ha hP hS dX8_lot_103 (by unfold w_lot; rw [show σ 11 = w_rem σ 11 from (w_rem_n σ (by decide)).symm, ← sM_rem]; simp [c_1, c_2])
  · have t_1 := i_eq c_1
    refine lv_aload_n hx hb dX8_lot_30 rfl (lv_at hl 2 rfl) ?_
    refine lv_aload_n hx hb dX8_lot_31 rfl (lv_at hl 2 rfl) ?_
    refine g8_44 ha hP 0 (by decide) (cM_0 G _) (v := .ref (G.1 11)) rfl dX8_lot_32 ?_
    refine xVi ha hP hS (y := yX8_yearGoes) (As := [.ref (G.1 11)]) (rest := []) 0 (by decide) (cM_0 G _) rfl rfl (c_X8_yearGoes G l (w_rem σ) P 11 hpb ((pM_rem _).trans hPV) (by unfold oT; omega)) kw_X8_223 hd_X8_yearGoes rfl ⟨rfl, rfl⟩ ⟨Nat.le_of_ble_eq_true rfl, Nat.le_of_ble_eq_true rfl⟩ ⟨Nat.zero_le _, Nat.zero_le _⟩ hl.1 (Nat.le_of_ble_eq_true rfl) rfl dX8_lot_35 (fun r u H locs hpq hP hS => ?_)
    obtain ⟨hr_, hu_⟩ := hpq
    have hr_ := hr_.symm
    have hu_ := hu_.symm
    subst hr_
    subst hu_
    refine lv_istore (lv' := [(4, .int (y_gave P (sM (w_rem σ) 11))), (3, .int (lo_k P lx)), (2, .int (lo_i P lx)), (0, .ref (G.1 0)), (1, .int lx)]) hx hb dX8_lot_38 hl (by decide) rfl (fun ls hl => ?_)
    refine lv_goto (tgt := 103) hx hb dX8_lot_40 (by decide) ?_
    exact xvret ha hP hS dX8_lot_103 (by unfold w_lot; rw [show σ 11 = w_rem σ 11 from (w_rem_n σ (by decide)).symm, ← sM_rem]; simp [c_1])
set_option maxHeartbeats 800000 in
set_option maxRecDepth 100000 in
theorem c_X8_lots (G : GT) (l : Launch) (σ : Mem) (n : Int32) (seed : Int32) (hpb : PB (pM σ)) (hsv : SV (pM σ) σ 11) (hd : DM σ) (hpp : ¬ σ 0 4 = 0 → 0 < nPe (pM σ)) : CI G 24 (cM G) l yX8_lots ({ frames := 6, cells := 0, slots := 0, locals := 141 } : Room) cX8_lots 7 (some .int) [.ref (G.1 0), .int n, .int seed] σ (fun (r : Int32) u => r = (n_lots σ n seed).1 ∧ u = (n_lots σ n seed).2) := by
  intro sz
  refine xbegin (by decide) (Nat.le_of_ble_eq_true rfl) ?_
  intro p e s m below meth c ls hsz ha hP hl
  subst hsz
  have hx := ha.1
  have hb := ha.2.1
  have hS : va_S (xA G 24 s.heap.size) s.heap s.heap [] := va_S.rf
  have hl : lv_has ls 7 [(0, .ref (G.1 0)), (1, .int n), (2, .int seed)] := hl
  have k_m1 : (-1 : Int32).toInt = -1 := by decide
  have k_0 : (0 : Int32).toInt = 0 := by decide
  have k_4 : (4 : Int32).toInt = 4 := by decide
  have k_5 : (5 : Int32).toInt = 5 := by decide
  have k_6 : (6 : Int32).toInt = 6 := by decide
  have k_40 : (40 : Int32).toInt = 40 := by decide
  have hPL := PB_pl hpb
  have hPE := PB_pe hpb
  have hp4 := PV_pl hpb (rfl : pM σ = pM σ)
  have hp5 := PV_pe hpb (rfl : pM σ = pM σ)
  have hdm : 0 ≤ (σ 0 6).toInt ∧ (σ 0 6).toInt ≤ 40 := hd
  refine lv_iload_n hx hb dX8_lots_0 rfl (lv_at hl 1 rfl) ?_
  refine lv_i2l (v := n.toInt64) hx hb dX8_lots_1 rfl ?_
  refine lv_lconst (v := 1) hx hb dX8_lots_2 (by decide) ?_
  refine lv_ldc2 (v := 20) hx hb ha.2.2.2.1 (ha.2.2.2.2.1 _ (tb_in (w := .constantLong RX8 215 20) (by decide +kernel))) dX8_lots_3 ?_
  refine xSi ha hP hS (y := yX8_in) (As := [.long n.toInt64, .long 1, .long 20]) (rest := []) rfl (c_X8_in G l σ n.toInt64 1 20 ) kw_X8_95 hd_X8_in rfl ⟨rfl, rfl⟩ ⟨Nat.le_of_ble_eq_true rfl, Nat.le_of_ble_eq_true rfl⟩ ⟨Nat.zero_le _, Nat.zero_le _⟩ hl.1 (Nat.le_of_ble_eq_true rfl) rfl dX8_lots_6 (fun r u H locs hpq hP hS => ?_)
  obtain ⟨hr_, hu_⟩ := hpq
  have hr_ := hr_.symm
  have hu_ := hu_.symm
  subst hr_
  subst hu_
  refine lv_if_eq (tgt := 24) hx hb dX8_lots_9 (by decide) (fun c_1 => ?_) (fun c_1 => ?_)
  · have t_1 := b2i_f c_1
    have f_1 := bin_f t_1
    try simp only [Int32.toInt_toInt64, ll_0, ll_1, ll_2, ll_3, ll_4, ll_5, ll_9, ll_12, ll_20, ll_40, ll_57, ll_99, ll_2147483646] at f_1
    refine lv_iconst (v := (-1)) hx hb dX8_lots_24 (by decide) ?_
    exact xiret ha hP hS dX8_lots_25 ⟨by simp [n_lots, t_1, i_leN, -Int32.not_lt], (by simp [n_lots, t_1, i_leN, -Int32.not_lt])⟩ rfl
  · have t_1 := b2i_t c_1
    have f_1 := bin_t t_1
    try simp only [Int32.toInt_toInt64, ll_0, ll_1, ll_2, ll_3, ll_4, ll_5, ll_9, ll_12, ll_20, ll_40, ll_57, ll_99, ll_2147483646] at f_1
    refine lv_iload_n hx hb dX8_lots_12 rfl (lv_at hl 2 rfl) ?_
    refine lv_i2l (v := seed.toInt64) hx hb dX8_lots_13 rfl ?_
    refine lv_lconst (v := 1) hx hb dX8_lots_14 (by decide) ?_
    refine lv_ldc2 (v := 2147483646) hx hb ha.2.2.2.1 (ha.2.2.2.2.1 _ (tb_in (w := .constantLong RX8 303 2147483646) (by decide +kernel))) dX8_lots_15 ?_
    refine xSi ha hP hS (y := yX8_in) (As := [.long seed.toInt64, .long 1, .long 2147483646]) (rest := []) rfl (c_X8_in G l σ seed.toInt64 1 2147483646 ) kw_X8_95 hd_X8_in rfl ⟨rfl, rfl⟩ ⟨Nat.le_of_ble_eq_true rfl, Nat.le_of_ble_eq_true rfl⟩ ⟨Nat.zero_le _, Nat.zero_le _⟩ hl.1 (Nat.le_of_ble_eq_true rfl) rfl dX8_lots_18 (fun r u H locs hpq hP hS => ?_)
    obtain ⟨hr_, hu_⟩ := hpq
    have hr_ := hr_.symm
    have hu_ := hu_.symm
    subst hr_
    subst hu_
    refine lv_if_ne (tgt := 26) hx hb dX8_lots_21 (by decide) (fun c_2 => ?_) (fun c_2 => ?_)
    · have t_2 := b2i_t c_2
      have f_2 := bin_t t_2
      try simp only [Int32.toInt_toInt64, ll_0, ll_1, ll_2, ll_3, ll_4, ll_5, ll_9, ll_12, ll_20, ll_40, ll_57, ll_99, ll_2147483646] at f_2
      refine lv_aload_n hx hb dX8_lots_26 rfl (lv_at hl 0 rfl) ?_
      refine lv_iload_n hx hb dX8_lots_27 rfl (lv_at hl 1 rfl) ?_
      refine xVi ha hP hS (y := yX8_refuses) (As := [.int n]) (rest := []) 0 (by decide) (cM_0 G _) rfl rfl (c_X8_refuses G l σ n ) kw_X8_220 hd_X8_refuses rfl ⟨rfl, rfl⟩ ⟨Nat.le_of_ble_eq_true rfl, Nat.le_of_ble_eq_true rfl⟩ ⟨Nat.zero_le _, Nat.zero_le _⟩ hl.1 (Nat.le_of_ble_eq_true rfl) rfl dX8_lots_28 (fun r u H locs hpq hP hS => ?_)
      obtain ⟨hr_, hu_⟩ := hpq
      have hr_ := hr_.symm
      have hu_ := hu_.symm
      subst hr_
      subst hu_
      refine lv_istore_n (lv' := [(3, .int (b_no σ n)), (0, .ref (G.1 0)), (1, .int n), (2, .int seed)]) hx hb dX8_lots_31 rfl hl (by decide) rfl (fun ls hl => ?_)
      refine lv_iload_n hx hb dX8_lots_32 rfl (lv_at hl 0 rfl) ?_
      refine lv_if_eq (tgt := 38) hx hb dX8_lots_33 (by decide) (fun c_3 => ?_) (fun c_3 => ?_)
      · have t_3 := i_eq c_3
        have hno := no_t (show b_no σ n = 0 by assumption)
        have hn1 := hpp hno.1
        have hn0 : 0 < nPl (pM σ) := by have h4 := i_ne hno.1; omega
        have hni := ix_toInt (show 0 ≤ n.toInt by omega)
        have hsum := i_nlt hno.2
        have hsx : (σ 0 6 + n).toInt = (σ 0 6).toInt + n.toInt := by rw [Int32.toInt_add]; exact Int.bmod_eq_of_le (by omega) (by omega)
        have hsd : 0 ≤ seed.toInt64.toInt ∧ seed.toInt64.toInt ≤ 2147483646 := by rw [Int32.toInt_toInt64]; omega
        refine lv_iload_n hx hb dX8_lots_38 rfl (lv_at hl 3 rfl) ?_
        refine lv_i2l (v := seed.toInt64) hx hb dX8_lots_39 rfl ?_
        refine lv_lstore (lv' := [(4, .long seed.toInt64), (3, .int (b_no σ n)), (0, .ref (G.1 0)), (1, .int n), (2, .int seed)]) hx hb dX8_lots_40 hl (by decide) rfl (fun ls hl => ?_)
        refine lv_iconst (v := 0) hx hb dX8_lots_42 (by decide) ?_
        refine lv_istore (lv' := [(6, .int 0), (4, .long seed.toInt64), (3, .int (b_no σ n)), (0, .ref (G.1 0)), (1, .int n), (2, .int seed)]) hx hb dX8_lots_43 hl (by decide) rfl (fun ls hl => ?_)
        have lp_45 : ∀ (d j : Nat) (x4 : Int64) (τj : Mem) (H : Heap) (locs : List Loc) (ls : Array Slot), j ≤ (ix n) → (ix n) - j < d → x4 = lotN seed.toInt64 j → τj = w_lots (pM σ) σ seed.toInt64 j → (pM τj = pM σ) → va_P G.2.1 vwCl (wl G 24 (cM G τj)) H → va_S (xA G 24 s.heap.size) s.heap H locs → lv_has ls 7 [(6, .int (nI j)), (4, .long x4), (3, .int (b_no σ n)), (0, .ref (G.1 0)), (1, .int n), (2, .int seed)] → W p l e ({ frames := 6, cells := 0, slots := 0, locals := 141 } : Room) s m ([.ref (G.1 0), .int n, .int seed] : List Value).toArray below meth c H locs 0 0 (MQ below (va_Qi (fun (r : Int32) u => r = (n_lots σ n seed).1 ∧ u = (n_lots σ n seed).2) (xB G 24 (cM G)) (xA G 24 s.heap.size)) ([.ref (G.1 0), .int n, .int seed] : List Value).toArray s 0 0 (xA G 24 s.heap.size)) (F0 m 45 ls []) := by
          intro d
          induction d with
          | zero => intro j x4 τj H locs ls hj hd; exact absurd hd (Nat.not_lt_zero _)
          | succ d ih_45 =>
            intro j x4 τj H locs ls hj_j hd_j e_x4 e_τj hPj hP hS hl
            have h31_j : (nI j).toInt = (j : Int) := nI_toInt (by omega)
            obtain ⟨z1, z2, z3⟩ := lots_ok hpb hn0 hn1 hsd hsv hdm.1 j (by omega) (by omega)
            rw [← e_τj] at z1 z3
            refine lv_iload hx hb dX8_lots_45 (lv_at hl 0 rfl) ?_
            refine lv_iload_n hx hb dX8_lots_47 rfl (lv_at hl 4 rfl) ?_
            refine lv_icmp_ge (tgt := 76) hx hb dX8_lots_48 (by decide) (fun c_4 => ?_) (fun c_4 => ?_)
            · have t_4 := i_le c_4
              have u_4 := u_le c_4
              obtain rfl : j = (ix n) := by omega
              refine lv_aload_n hx hb dX8_lots_76 rfl (lv_at hl 3 rfl) ?_
              refine lv_aload_n hx hb dX8_lots_77 rfl (lv_at hl 3 rfl) ?_
              refine g8_44 ha hP 0 (by decide) (cM_0 G _) (v := .ref (G.1 11)) rfl dX8_lots_78 ?_
              refine xVi ha hP hS (y := yX8_highAll) (As := [.ref (G.1 11)]) (rest := []) 0 (by decide) (cM_0 G _) rfl rfl (c_X8_highAll G l τj (pM σ) 11 hpb hPj (by unfold oT; omega) z1) kw_X8_237 hd_X8_highAll rfl ⟨rfl, rfl⟩ ⟨Nat.le_of_ble_eq_true rfl, Nat.le_of_ble_eq_true rfl⟩ ⟨Nat.zero_le _, Nat.zero_le _⟩ hl.1 (Nat.le_of_ble_eq_true rfl) rfl dX8_lots_81 (fun r u H locs hpq hP hS => ?_)
              obtain ⟨hr_, hu_⟩ := hpq
              have hr_ := hr_.symm
              have hu_ := hu_.symm
              subst hr_
              subst hu_
              exact xiret ha hP hS dX8_lots_84 ⟨by rw [e_τj]; simp [n_lots, t_1, t_2, c_3, u_4], (by rw [e_τj]; simp [n_lots, t_1, t_2, c_3, u_4])⟩ rfl
            · have t_4 := i_nle c_4
              have u_4 := u_nle c_4
              have hlt_j : j < (ix n) := by omega
              have hl9 := lotN_i hsd.1 hsd.2 (j + 1)
              have hl8 : (x4 * 48271 - x4 * 48271 / 2147483647 * 2147483647) = lotN seed.toInt64 (j + 1) := by rw [e_x4]; rfl
              refine lv_lload hx hb dX8_lots_51 (lv_at hl 1 rfl) ?_
              refine lv_ldc2 (v := 48271) hx hb ha.2.2.2.1 (ha.2.2.2.2.1 _ (tb_in (w := .constantLong RX8 305 48271) (by decide +kernel))) dX8_lots_53 ?_
              refine lv_lmul hx hb dX8_lots_56 ?_
              refine lv_ldc2 (v := 2147483647) hx hb ha.2.2.2.1 (ha.2.2.2.2.1 _ (tb_in (w := .constantLong RX8 307 2147483647) (by decide +kernel))) dX8_lots_57 ?_
              refine lv_lrem hx hb dX8_lots_60 (by decide) ?_
              refine lv_lstore (lv' := [(4, .long ((x4 * 48271) - (x4 * 48271) / 2147483647 * 2147483647)), (6, .int (nI j)), (3, .int (b_no σ n)), (0, .ref (G.1 0)), (1, .int n), (2, .int seed)]) hx hb dX8_lots_61 hl (by decide) rfl (fun ls hl => ?_)
              refine lv_aload_n hx hb dX8_lots_63 rfl (lv_at hl 3 rfl) ?_
              refine lv_lload hx hb dX8_lots_64 (lv_at hl 0 rfl) ?_
              refine lv_l2i (v := ((x4 * 48271) - (x4 * 48271) / 2147483647 * 2147483647).toInt32) hx hb dX8_lots_66 rfl ?_
              refine xVv ha hP hS (y := yX8_lot) (As := [.int (((x4 * 48271) - (x4 * 48271) / 2147483647 * 2147483647).toInt32)]) (rest := []) 0 (by decide) (cM_0 G _) rfl rfl (c_X8_lot G l τj (pM σ) (((x4 * 48271) - (x4 * 48271) / 2147483647 * 2147483647).toInt32) hpb hPj (by rw [hl8, lot_32 hl9.1 hl9.2]; exact hl9.1) (⟨by omega, by omega⟩) hn0 hn1) kw_X8_309 hd_X8_lot rfl ⟨rfl, rfl⟩ ⟨Nat.le_of_ble_eq_true rfl, Nat.le_of_ble_eq_true rfl⟩ ⟨Nat.zero_le _, Nat.zero_le _⟩ hl.1 (Nat.le_of_ble_eq_true rfl) rfl dX8_lots_67 (fun u H locs hpq hP hS => ?_)
              have hpq := hpq.symm
              subst hpq
              refine lv_iinc (v := (nI (j + 1))) (lv' := [(6, .int (nI (j + 1))), (4, .long ((x4 * 48271) - (x4 * 48271) / 2147483647 * 2147483647)), (3, .int (b_no σ n)), (0, .ref (G.1 0)), (1, .int n), (2, .int seed)]) hx hb dX8_lots_70 hl (k := 1) rfl (nI_1 j) (by decide) rfl (fun ls hl => ?_)
              refine lv_goto (tgt := 45) hx hb dX8_lots_73 (by decide) ?_
              exact ih_45 (j + 1) ((x4 * 48271) - (x4 * 48271) / 2147483647 * 2147483647) (w_lot (pM σ) τj (((x4 * 48271) - (x4 * 48271) / 2147483647 * 2147483647).toInt32)) _ _ _ (by omega) (by omega) (by rw [e_x4]; rfl) (by rw [e_τj, e_x4]; rfl) ((pM_lot _ _ _).trans hPj) hP hS (lv_sub hl [0, 1, 2, 3, 4, 5] rfl)
        exact lp_45 ((ix n) - 0 + 1) 0 seed.toInt64 σ _ _ _ (by omega) (by omega) rfl rfl rfl hP hS (lv_sub hl [0, 1, 2, 3, 4, 5] rfl)
      · have t_3 := i_ne c_3
        refine lv_iload_n hx hb dX8_lots_36 rfl (lv_at hl 0 rfl) ?_
        exact xiret ha hP hS dX8_lots_37 ⟨by simp [n_lots, t_1, t_2, c_3, i_leN, -Int32.not_lt], (by simp [n_lots, t_1, t_2, c_3, i_leN, -Int32.not_lt])⟩ rfl
    · have t_2 := b2i_f c_2
      have f_2 := bin_f t_2
      try simp only [Int32.toInt_toInt64, ll_0, ll_1, ll_2, ll_3, ll_4, ll_5, ll_9, ll_12, ll_20, ll_40, ll_57, ll_99, ll_2147483646] at f_2
      refine lv_iconst (v := (-1)) hx hb dX8_lots_24 (by decide) ?_
      exact xiret ha hP hS dX8_lots_25 ⟨by simp [n_lots, t_1, t_2, i_leN, -Int32.not_lt], (by simp [n_lots, t_1, t_2, i_leN, -Int32.not_lt])⟩ rfl
set_option maxHeartbeats 800000 in
set_option maxRecDepth 100000 in
theorem c_X8_asked (G : GT) (l : Launch) (σ : Mem)   : CI G 24 (cM G) l yX8_asked ({ frames := 0, cells := 0, slots := 0, locals := 0 } : Room) cX8_asked 1 (some .int) [.ref (G.1 0)] σ (fun (r : Int32) u => r = σ 0 0 ∧ u = σ) := by
  intro sz
  refine xbegin (by decide) (Nat.le_of_ble_eq_true rfl) ?_
  intro p e s m below meth c ls hsz ha hP hl
  subst hsz
  have hx := ha.1
  have hb := ha.2.1
  have hS : va_S (xA G 24 s.heap.size) s.heap s.heap [] := va_S.rf
  have hl : lv_has ls 1 [(0, .ref (G.1 0))] := hl
  have k_0 : (0 : Int32).toInt = 0 := by decide
  have k_4 : (4 : Int32).toInt = 4 := by decide
  have k_5 : (5 : Int32).toInt = 5 := by decide
  have k_6 : (6 : Int32).toInt = 6 := by decide
  refine lv_aload_n hx hb dX8_asked_0 rfl (lv_at hl 0 rfl) ?_
  refine g8_90 ha hP 0 (by decide) (cM_0 G _) (v := .int (σ 0 0)) rfl dX8_asked_1 ?_
  exact xiret ha hP hS dX8_asked_4 ⟨by rfl, rfl⟩ rfl
set_option maxHeartbeats 800000 in
set_option maxRecDepth 100000 in
theorem c_X8_finding (G : GT) (l : Launch) (σ : Mem)   : CI G 24 (cM G) l yX8_finding ({ frames := 0, cells := 0, slots := 0, locals := 0 } : Room) cX8_finding 1 (some .int) [.ref (G.1 0)] σ (fun (r : Int32) u => r = σ 0 3 ∧ u = σ) := by
  intro sz
  refine xbegin (by decide) (Nat.le_of_ble_eq_true rfl) ?_
  intro p e s m below meth c ls hsz ha hP hl
  subst hsz
  have hx := ha.1
  have hb := ha.2.1
  have hS : va_S (xA G 24 s.heap.size) s.heap s.heap [] := va_S.rf
  have hl : lv_has ls 1 [(0, .ref (G.1 0))] := hl
  have k_0 : (0 : Int32).toInt = 0 := by decide
  have k_4 : (4 : Int32).toInt = 4 := by decide
  have k_5 : (5 : Int32).toInt = 5 := by decide
  have k_6 : (6 : Int32).toInt = 6 := by decide
  refine lv_aload_n hx hb dX8_finding_0 rfl (lv_at hl 0 rfl) ?_
  refine g8_86 ha hP 0 (by decide) (cM_0 G _) (v := .int (σ 0 3)) rfl dX8_finding_1 ?_
  exact xiret ha hP hS dX8_finding_4 ⟨by rfl, rfl⟩ rfl
set_option maxHeartbeats 800000 in
set_option maxRecDepth 100000 in
theorem c_X8_upper (G : GT) (l : Launch) (σ : Mem)   : CL G 24 (cM G) l yX8_upper ({ frames := 0, cells := 0, slots := 0, locals := 0 } : Room) cX8_upper 1 (some .long) [.ref (G.1 0)] σ (fun (r : Int64) u => r = (σ 0 1).toInt64 ∧ u = σ) := by
  intro sz
  refine xbegin (by decide) (Nat.le_of_ble_eq_true rfl) ?_
  intro p e s m below meth c ls hsz ha hP hl
  subst hsz
  have hx := ha.1
  have hb := ha.2.1
  have hS : va_S (xA G 24 s.heap.size) s.heap s.heap [] := va_S.rf
  have hl : lv_has ls 1 [(0, .ref (G.1 0))] := hl
  have k_0 : (0 : Int32).toInt = 0 := by decide
  have k_4 : (4 : Int32).toInt = 4 := by decide
  have k_5 : (5 : Int32).toInt = 5 := by decide
  have k_6 : (6 : Int32).toInt = 6 := by decide
  refine lv_aload_n hx hb dX8_upper_0 rfl (lv_at hl 0 rfl) ?_
  refine g8_295 ha hP 0 (by decide) (cM_0 G _) (v := .long ((σ 0 1).toInt64)) rfl dX8_upper_1 ?_
  exact xlret ha hP hS dX8_upper_4 ⟨by rfl, rfl⟩ rfl
set_option maxHeartbeats 800000 in
set_option maxRecDepth 100000 in
theorem c_X8_lower (G : GT) (l : Launch) (σ : Mem)   : CL G 24 (cM G) l yX8_lower ({ frames := 0, cells := 0, slots := 0, locals := 0 } : Room) cX8_lower 1 (some .long) [.ref (G.1 0)] σ (fun (r : Int64) u => r = (σ 0 2).toInt64 ∧ u = σ) := by
  intro sz
  refine xbegin (by decide) (Nat.le_of_ble_eq_true rfl) ?_
  intro p e s m below meth c ls hsz ha hP hl
  subst hsz
  have hx := ha.1
  have hb := ha.2.1
  have hS : va_S (xA G 24 s.heap.size) s.heap s.heap [] := va_S.rf
  have hl : lv_has ls 1 [(0, .ref (G.1 0))] := hl
  have k_0 : (0 : Int32).toInt = 0 := by decide
  have k_4 : (4 : Int32).toInt = 4 := by decide
  have k_5 : (5 : Int32).toInt = 5 := by decide
  have k_6 : (6 : Int32).toInt = 6 := by decide
  refine lv_aload_n hx hb dX8_lower_0 rfl (lv_at hl 0 rfl) ?_
  refine g8_22 ha hP 0 (by decide) (cM_0 G _) (v := .long ((σ 0 2).toInt64)) rfl dX8_lower_1 ?_
  exact xlret ha hP hS dX8_lower_4 ⟨by rfl, rfl⟩ rfl
set_option maxHeartbeats 800000 in
set_option maxRecDepth 100000 in
theorem c_X8_findings (G : GT) (l : Launch) (σ : Mem) (f : Int32)  : CI G 24 (cM G) l yX8_findings ({ frames := 1, cells := 0, slots := 0, locals := 25 } : Room) cX8_findings 2 (some .int) [.ref (G.1 0), .int f] σ (fun (r : Int32) u => r = n_findings σ f ∧ u = σ) := by
  intro sz
  refine xbegin (by decide) (Nat.le_of_ble_eq_true rfl) ?_
  intro p e s m below meth c ls hsz ha hP hl
  subst hsz
  have hx := ha.1
  have hb := ha.2.1
  have hS : va_S (xA G 24 s.heap.size) s.heap s.heap [] := va_S.rf
  have hl : lv_has ls 2 [(0, .ref (G.1 0)), (1, .int f)] := hl
  have k_m1 : (-1 : Int32).toInt = -1 := by decide
  have k_0 : (0 : Int32).toInt = 0 := by decide
  have k_4 : (4 : Int32).toInt = 4 := by decide
  have k_5 : (5 : Int32).toInt = 5 := by decide
  have k_6 : (6 : Int32).toInt = 6 := by decide
  refine lv_iload_n hx hb dX8_findings_0 rfl (lv_at hl 1 rfl) ?_
  refine lv_i2l (v := f.toInt64) hx hb dX8_findings_1 rfl ?_
  refine lv_lconst (v := 1) hx hb dX8_findings_2 (by decide) ?_
  refine lv_ldc2 (v := 5) hx hb ha.2.2.2.1 (ha.2.2.2.2.1 _ (tb_in (w := .constantLong RX8 93 5) (by decide +kernel))) dX8_findings_3 ?_
  refine xSi ha hP hS (y := yX8_in) (As := [.long f.toInt64, .long 1, .long 5]) (rest := []) rfl (c_X8_in G l σ f.toInt64 1 5 ) kw_X8_95 hd_X8_in rfl ⟨rfl, rfl⟩ ⟨Nat.le_of_ble_eq_true rfl, Nat.le_of_ble_eq_true rfl⟩ ⟨Nat.zero_le _, Nat.zero_le _⟩ hl.1 (Nat.le_of_ble_eq_true rfl) rfl dX8_findings_6 (fun r u H locs hpq hP hS => ?_)
  obtain ⟨hr_, hu_⟩ := hpq
  have hr_ := hr_.symm
  have hu_ := hu_.symm
  subst hr_
  subst hu_
  have jn_1 : ∀ x_1 : Int32, x_1 = (if (b_in f.toInt64 1 5) = true then (σ 5 (ix f)) else (-1)) → W p l e ({ frames := 1, cells := 0, slots := 0, locals := 25 } : Room) s m ([.ref (G.1 0), .int f] : List Value).toArray below meth c H locs 0 0 (MQ below (va_Qi (fun (r : Int32) u => r = n_findings σ f ∧ u = σ) (xB G 24 (cM G)) (xA G 24 s.heap.size)) ([.ref (G.1 0), .int f] : List Value).toArray s 0 0 (xA G 24 s.heap.size)) (F0 m 22 ls [.int x_1]) := by
    intro x_1 ex_1
    exact xiret ha hP hS dX8_findings_22 ⟨by simp [n_findings, i_leN, ex_1, -Int32.not_lt] <;> first | rfl | simp_all, rfl⟩ rfl
  refine lv_if_eq (tgt := 21) hx hb dX8_findings_9 (by decide) (fun c_1 => ?_) (fun c_1 => ?_)
  · have t_1 := b2i_f c_1
    have f_1 := bin_f t_1
    try simp only [Int32.toInt_toInt64, ll_0, ll_1, ll_2, ll_3, ll_4, ll_5, ll_9, ll_12, ll_20, ll_40, ll_57, ll_99, ll_2147483646] at f_1
    refine lv_iconst (v := (-1)) hx hb dX8_findings_21 (by decide) ?_
    exact jn_1 _ (if_neg (Bool.eq_false_iff.mp t_1)).symm
  · have t_1 := b2i_t c_1
    have f_1 := bin_t t_1
    try simp only [Int32.toInt_toInt64, ll_0, ll_1, ll_2, ll_3, ll_4, ll_5, ll_9, ll_12, ll_20, ll_40, ll_57, ll_99, ll_2147483646] at f_1
    refine lv_aload_n hx hb dX8_findings_12 rfl (lv_at hl 0 rfl) ?_
    refine g8_26 ha hP 0 (by decide) (cM_0 G _) (v := .ref (G.1 5)) rfl dX8_findings_13 ?_
    refine lv_iload_n hx hb dX8_findings_16 rfl (lv_at hl 1 rfl) ?_
    refine xialdN ha hP 5 (by decide) (cM_5 G _) (ix f) (ix_nI (by omega)) (ix_lt (by omega) (by omega)) (by decide) dX8_findings_17 ?_
    refine lv_goto (tgt := 22) hx hb dX8_findings_18 (by decide) ?_
    exact jn_1 _ (if_pos t_1).symm
set_option maxHeartbeats 800000 in
set_option maxRecDepth 100000 in
theorem c_X8_there_2 (G : GT) (l : Launch) (σ : Mem)   : CI G 24 (cM G) l yX8_there ({ frames := 0, cells := 0, slots := 0, locals := 0 } : Room) cX8_there 5 (some .int) [.ref (G.1 2), .int 6, .int 1] σ (fun (r : Int32) u => r = b_there σ 2 1 6 ∧ u = σ) := by
  intro sz
  refine xbegin (by decide) (Nat.le_of_ble_eq_true rfl) ?_
  intro p e s m below meth c ls hsz ha hP hl
  subst hsz
  have hx := ha.1
  have hb := ha.2.1
  have hS : va_S (xA G 24 s.heap.size) s.heap s.heap [] := va_S.rf
  have hl : lv_has ls 5 [(0, .ref (G.1 2)), (1, .int 6), (2, .int 1)] := hl
  have k_0 : (0 : Int32).toInt = 0 := by decide
  have k_1 : (1 : Int32).toInt = 1 := by decide
  have k_3 : (3 : Int32).toInt = 3 := by decide
  have k_4 : (4 : Int32).toInt = 4 := by decide
  have k_5 : (5 : Int32).toInt = 5 := by decide
  have k_6 : (6 : Int32).toInt = 6 := by decide
  refine lv_iconst (v := 0) hx hb dX8_there_0 (by decide) ?_
  refine lv_istore_n (lv' := [(3, .int 0), (0, .ref (G.1 2)), (1, .int 6), (2, .int 1)]) hx hb dX8_there_1 rfl hl (by decide) rfl (fun ls hl => ?_)
  refine lv_iconst (v := 0) hx hb dX8_there_2 (by decide) ?_
  refine lv_istore (lv' := [(4, .int 0), (3, .int 0), (0, .ref (G.1 2)), (1, .int 6), (2, .int 1)]) hx hb dX8_there_3 hl (by decide) rfl (fun ls hl => ?_)
  have lp_5 : ∀ (d j : Nat) (x3 : Int32) (H : Heap) (locs : List Loc) (ls : Array Slot), j ≤ 6 → 6 - j < d → x3 = a_sum (fun j => if σ 2 (1 * j) < 0 then 0 else 1) j → va_P G.2.1 vwCl (wl G 24 (cM G σ)) H → va_S (xA G 24 s.heap.size) s.heap H locs → lv_has ls 5 [(4, .int (nI j)), (3, .int x3), (0, .ref (G.1 2)), (1, .int 6), (2, .int 1)] → W p l e ({ frames := 0, cells := 0, slots := 0, locals := 0 } : Room) s m ([.ref (G.1 2), .int 6, .int 1] : List Value).toArray below meth c H locs 0 0 (MQ below (va_Qi (fun (r : Int32) u => r = b_there σ 2 1 6 ∧ u = σ) (xB G 24 (cM G)) (xA G 24 s.heap.size)) ([.ref (G.1 2), .int 6, .int 1] : List Value).toArray s 0 0 (xA G 24 s.heap.size)) (F0 m 5 ls []) := by
    intro d
    induction d with
    | zero => intro j x3 H locs ls hj hd; exact absurd hd (Nat.not_lt_zero _)
    | succ d ih_5 =>
      intro j x3 H locs ls hj_j hd_j e_x3 hP hS hl
      have h31_j : (nI j).toInt = (j : Int) := nI_toInt (by omega)
      refine lv_iload hx hb dX8_there_5 (lv_at hl 0 rfl) ?_
      refine lv_iload_n hx hb dX8_there_7 rfl (lv_at hl 3 rfl) ?_
      refine lv_icmp_ge (tgt := 34) hx hb dX8_there_8 (by decide) (fun c_1 => ?_) (fun c_1 => ?_)
      · have t_1 := i_le c_1
        have u_1 := u_le c_1
        obtain rfl : j = 6 := by omega
        refine lv_iload_n hx hb dX8_there_34 rfl (lv_at hl 1 rfl) ?_
        exact xiret ha hP hS dX8_there_35 ⟨by exact e_x3, rfl⟩ rfl
      · have t_1 := i_nle c_1
        have u_1 := u_nle c_1
        have hlt_j : j < 6 := by omega
        refine lv_iload_n hx hb dX8_there_11 rfl (lv_at hl 1 rfl) ?_
        refine lv_aload_n hx hb dX8_there_12 rfl (lv_at hl 2 rfl) ?_
        refine lv_iload_n hx hb dX8_there_13 rfl (lv_at hl 4 rfl) ?_
        refine lv_iload hx hb dX8_there_14 (lv_at hl 0 rfl) ?_
        refine lv_imul hx hb dX8_there_16 ?_
        refine xialdN ha hP 2 (by decide) (cM_2 G _) (1 * j) (nmul (rfl : (1 : Int32) = nI 1) rfl) (by omega) (by decide) dX8_there_17 ?_
        have jn_2 : ∀ x_2 : Int32, x_2 = (if (σ 2 (1 * j)) < 0 then 0 else 1) → W p l e ({ frames := 0, cells := 0, slots := 0, locals := 0 } : Room) s m ([.ref (G.1 2), .int 6, .int 1] : List Value).toArray below meth c H locs 0 0 (MQ below (va_Qi (fun (r : Int32) u => r = b_there σ 2 1 6 ∧ u = σ) (xB G 24 (cM G)) (xA G 24 s.heap.size)) ([.ref (G.1 2), .int 6, .int 1] : List Value).toArray s 0 0 (xA G 24 s.heap.size)) (F0 m 26 ls [.int x_2, .int x3]) := by
          intro x_2 ex_2
          refine lv_iadd hx hb dX8_there_26 ?_
          refine lv_istore_n (lv' := [(3, .int (x3 + x_2)), (4, .int (nI j)), (0, .ref (G.1 2)), (1, .int 6), (2, .int 1)]) hx hb dX8_there_27 rfl hl (by decide) rfl (fun ls hl => ?_)
          refine lv_iinc (v := (nI (j + 1))) (lv' := [(4, .int (nI (j + 1))), (3, .int (x3 + x_2)), (0, .ref (G.1 2)), (1, .int 6), (2, .int 1)]) hx hb dX8_there_28 hl (k := 1) rfl (nI_1 j) (by decide) rfl (fun ls hl => ?_)
          refine lv_goto (tgt := 5) hx hb dX8_there_31 (by decide) ?_
          exact ih_5 (j + 1) (x3 + x_2) _ _ _ (by omega) (by omega) (by rw [a_sum, ← e_x3]; simp [u_1, ex_2]) hP hS (lv_sub hl [0, 1, 2, 3, 4] rfl)
        refine lv_if_ge (tgt := 25) hx hb dX8_there_18 (by decide) (fun c_2 => ?_) (fun c_2 => ?_)
        · have t_2 := i_le c_2
          refine lv_iconst (v := 1) hx hb dX8_there_25 (by decide) ?_
          exact jn_2 _ (if_neg (u_le c_2)).symm
        · have t_2 := i_nle c_2
          refine lv_iconst (v := 0) hx hb dX8_there_21 (by decide) ?_
          refine lv_goto (tgt := 26) hx hb dX8_there_22 (by decide) ?_
          exact jn_2 _ (if_pos (u_nle c_2)).symm
  exact lp_5 (6 - 0 + 1) 0 0 _ _ _ (by omega) (by omega) rfl hP hS (lv_sub hl [0, 1, 2, 3, 4] rfl)
set_option maxHeartbeats 800000 in
set_option maxRecDepth 100000 in
theorem c_X8_there_4 (G : GT) (l : Launch) (σ : Mem)   : CI G 24 (cM G) l yX8_there ({ frames := 0, cells := 0, slots := 0, locals := 0 } : Room) cX8_there 5 (some .int) [.ref (G.1 4), .int 4, .int 1] σ (fun (r : Int32) u => r = b_there σ 4 1 4 ∧ u = σ) := by
  intro sz
  refine xbegin (by decide) (Nat.le_of_ble_eq_true rfl) ?_
  intro p e s m below meth c ls hsz ha hP hl
  subst hsz
  have hx := ha.1
  have hb := ha.2.1
  have hS : va_S (xA G 24 s.heap.size) s.heap s.heap [] := va_S.rf
  have hl : lv_has ls 5 [(0, .ref (G.1 4)), (1, .int 4), (2, .int 1)] := hl
  have k_0 : (0 : Int32).toInt = 0 := by decide
  have k_1 : (1 : Int32).toInt = 1 := by decide
  have k_3 : (3 : Int32).toInt = 3 := by decide
  have k_4 : (4 : Int32).toInt = 4 := by decide
  have k_5 : (5 : Int32).toInt = 5 := by decide
  have k_6 : (6 : Int32).toInt = 6 := by decide
  refine lv_iconst (v := 0) hx hb dX8_there_0 (by decide) ?_
  refine lv_istore_n (lv' := [(3, .int 0), (0, .ref (G.1 4)), (1, .int 4), (2, .int 1)]) hx hb dX8_there_1 rfl hl (by decide) rfl (fun ls hl => ?_)
  refine lv_iconst (v := 0) hx hb dX8_there_2 (by decide) ?_
  refine lv_istore (lv' := [(4, .int 0), (3, .int 0), (0, .ref (G.1 4)), (1, .int 4), (2, .int 1)]) hx hb dX8_there_3 hl (by decide) rfl (fun ls hl => ?_)
  have lp_5 : ∀ (d j : Nat) (x3 : Int32) (H : Heap) (locs : List Loc) (ls : Array Slot), j ≤ 4 → 4 - j < d → x3 = a_sum (fun j => if σ 4 (1 * j) < 0 then 0 else 1) j → va_P G.2.1 vwCl (wl G 24 (cM G σ)) H → va_S (xA G 24 s.heap.size) s.heap H locs → lv_has ls 5 [(4, .int (nI j)), (3, .int x3), (0, .ref (G.1 4)), (1, .int 4), (2, .int 1)] → W p l e ({ frames := 0, cells := 0, slots := 0, locals := 0 } : Room) s m ([.ref (G.1 4), .int 4, .int 1] : List Value).toArray below meth c H locs 0 0 (MQ below (va_Qi (fun (r : Int32) u => r = b_there σ 4 1 4 ∧ u = σ) (xB G 24 (cM G)) (xA G 24 s.heap.size)) ([.ref (G.1 4), .int 4, .int 1] : List Value).toArray s 0 0 (xA G 24 s.heap.size)) (F0 m 5 ls []) := by
    intro d
    induction d with
    | zero => intro j x3 H locs ls hj hd; exact absurd hd (Nat.not_lt_zero _)
    | succ d ih_5 =>
      intro j x3 H locs ls hj_j hd_j e_x3 hP hS hl
      have h31_j : (nI j).toInt = (j : Int) := nI_toInt (by omega)
      refine lv_iload hx hb dX8_there_5 (lv_at hl 0 rfl) ?_
      refine lv_iload_n hx hb dX8_there_7 rfl (lv_at hl 3 rfl) ?_
      refine lv_icmp_ge (tgt := 34) hx hb dX8_there_8 (by decide) (fun c_1 => ?_) (fun c_1 => ?_)
      · have t_1 := i_le c_1
        have u_1 := u_le c_1
        obtain rfl : j = 4 := by omega
        refine lv_iload_n hx hb dX8_there_34 rfl (lv_at hl 1 rfl) ?_
        exact xiret ha hP hS dX8_there_35 ⟨by exact e_x3, rfl⟩ rfl
      · have t_1 := i_nle c_1
        have u_1 := u_nle c_1
        have hlt_j : j < 4 := by omega
        refine lv_iload_n hx hb dX8_there_11 rfl (lv_at hl 1 rfl) ?_
        refine lv_aload_n hx hb dX8_there_12 rfl (lv_at hl 2 rfl) ?_
        refine lv_iload_n hx hb dX8_there_13 rfl (lv_at hl 4 rfl) ?_
        refine lv_iload hx hb dX8_there_14 (lv_at hl 0 rfl) ?_
        refine lv_imul hx hb dX8_there_16 ?_
        refine xialdN ha hP 4 (by decide) (cM_4 G _) (1 * j) (nmul (rfl : (1 : Int32) = nI 1) rfl) (by omega) (by decide) dX8_there_17 ?_
        have jn_2 : ∀ x_2 : Int32, x_2 = (if (σ 4 (1 * j)) < 0 then 0 else 1) → W p l e ({ frames := 0, cells := 0, slots := 0, locals := 0 } : Room) s m ([.ref (G.1 4), .int 4, .int 1] : List Value).toArray below meth c H locs 0 0 (MQ below (va_Qi (fun (r : Int32) u => r = b_there σ 4 1 4 ∧ u = σ) (xB G 24 (cM G)) (xA G 24 s.heap.size)) ([.ref (G.1 4), .int 4, .int 1] : List Value).toArray s 0 0 (xA G 24 s.heap.size)) (F0 m 26 ls [.int x_2, .int x3]) := by
          intro x_2 ex_2
          refine lv_iadd hx hb dX8_there_26 ?_
          refine lv_istore_n (lv' := [(3, .int (x3 + x_2)), (4, .int (nI j)), (0, .ref (G.1 4)), (1, .int 4), (2, .int 1)]) hx hb dX8_there_27 rfl hl (by decide) rfl (fun ls hl => ?_)
          refine lv_iinc (v := (nI (j + 1))) (lv' := [(4, .int (nI (j + 1))), (3, .int (x3 + x_2)), (0, .ref (G.1 4)), (1, .int 4), (2, .int 1)]) hx hb dX8_there_28 hl (k := 1) rfl (nI_1 j) (by decide) rfl (fun ls hl => ?_)
          refine lv_goto (tgt := 5) hx hb dX8_there_31 (by decide) ?_
          exact ih_5 (j + 1) (x3 + x_2) _ _ _ (by omega) (by omega) (by rw [a_sum, ← e_x3]; simp [u_1, ex_2]) hP hS (lv_sub hl [0, 1, 2, 3, 4] rfl)
        refine lv_if_ge (tgt := 25) hx hb dX8_there_18 (by decide) (fun c_2 => ?_) (fun c_2 => ?_)
        · have t_2 := i_le c_2
          refine lv_iconst (v := 1) hx hb dX8_there_25 (by decide) ?_
          exact jn_2 _ (if_neg (u_le c_2)).symm
        · have t_2 := i_nle c_2
          refine lv_iconst (v := 0) hx hb dX8_there_21 (by decide) ?_
          refine lv_goto (tgt := 26) hx hb dX8_there_22 (by decide) ?_
          exact jn_2 _ (if_pos (u_nle c_2)).symm
  exact lp_5 (4 - 0 + 1) 0 0 _ _ _ (by omega) (by omega) rfl hP hS (lv_sub hl [0, 1, 2, 3, 4] rfl)
set_option maxHeartbeats 800000 in
set_option maxRecDepth 100000 in
theorem c_X8_there_14 (G : GT) (l : Launch) (σ : Mem)   : CI G 24 (cM G) l yX8_there ({ frames := 0, cells := 0, slots := 0, locals := 0 } : Room) cX8_there 5 (some .int) [.ref (G.1 14), .int 3, .int 493] σ (fun (r : Int32) u => r = b_there σ 14 493 3 ∧ u = σ) := by
  intro sz
  refine xbegin (by decide) (Nat.le_of_ble_eq_true rfl) ?_
  intro p e s m below meth c ls hsz ha hP hl
  subst hsz
  have hx := ha.1
  have hb := ha.2.1
  have hS : va_S (xA G 24 s.heap.size) s.heap s.heap [] := va_S.rf
  have hl : lv_has ls 5 [(0, .ref (G.1 14)), (1, .int 3), (2, .int 493)] := hl
  have k_0 : (0 : Int32).toInt = 0 := by decide
  have k_1 : (1 : Int32).toInt = 1 := by decide
  have k_3 : (3 : Int32).toInt = 3 := by decide
  have k_4 : (4 : Int32).toInt = 4 := by decide
  have k_5 : (5 : Int32).toInt = 5 := by decide
  have k_6 : (6 : Int32).toInt = 6 := by decide
  refine lv_iconst (v := 0) hx hb dX8_there_0 (by decide) ?_
  refine lv_istore_n (lv' := [(3, .int 0), (0, .ref (G.1 14)), (1, .int 3), (2, .int 493)]) hx hb dX8_there_1 rfl hl (by decide) rfl (fun ls hl => ?_)
  refine lv_iconst (v := 0) hx hb dX8_there_2 (by decide) ?_
  refine lv_istore (lv' := [(4, .int 0), (3, .int 0), (0, .ref (G.1 14)), (1, .int 3), (2, .int 493)]) hx hb dX8_there_3 hl (by decide) rfl (fun ls hl => ?_)
  have lp_5 : ∀ (d j : Nat) (x3 : Int32) (H : Heap) (locs : List Loc) (ls : Array Slot), j ≤ 3 → 3 - j < d → x3 = a_sum (fun j => if σ 14 (493 * j) < 0 then 0 else 1) j → va_P G.2.1 vwCl (wl G 24 (cM G σ)) H → va_S (xA G 24 s.heap.size) s.heap H locs → lv_has ls 5 [(4, .int (nI j)), (3, .int x3), (0, .ref (G.1 14)), (1, .int 3), (2, .int 493)] → W p l e ({ frames := 0, cells := 0, slots := 0, locals := 0 } : Room) s m ([.ref (G.1 14), .int 3, .int 493] : List Value).toArray below meth c H locs 0 0 (MQ below (va_Qi (fun (r : Int32) u => r = b_there σ 14 493 3 ∧ u = σ) (xB G 24 (cM G)) (xA G 24 s.heap.size)) ([.ref (G.1 14), .int 3, .int 493] : List Value).toArray s 0 0 (xA G 24 s.heap.size)) (F0 m 5 ls []) := by
    intro d
    induction d with
    | zero => intro j x3 H locs ls hj hd; exact absurd hd (Nat.not_lt_zero _)
    | succ d ih_5 =>
      intro j x3 H locs ls hj_j hd_j e_x3 hP hS hl
      have h31_j : (nI j).toInt = (j : Int) := nI_toInt (by omega)
      refine lv_iload hx hb dX8_there_5 (lv_at hl 0 rfl) ?_
      refine lv_iload_n hx hb dX8_there_7 rfl (lv_at hl 3 rfl) ?_
      refine lv_icmp_ge (tgt := 34) hx hb dX8_there_8 (by decide) (fun c_1 => ?_) (fun c_1 => ?_)
      · have t_1 := i_le c_1
        have u_1 := u_le c_1
        obtain rfl : j = 3 := by omega
        refine lv_iload_n hx hb dX8_there_34 rfl (lv_at hl 1 rfl) ?_
        exact xiret ha hP hS dX8_there_35 ⟨by exact e_x3, rfl⟩ rfl
      · have t_1 := i_nle c_1
        have u_1 := u_nle c_1
        have hlt_j : j < 3 := by omega
        refine lv_iload_n hx hb dX8_there_11 rfl (lv_at hl 1 rfl) ?_
        refine lv_aload_n hx hb dX8_there_12 rfl (lv_at hl 2 rfl) ?_
        refine lv_iload_n hx hb dX8_there_13 rfl (lv_at hl 4 rfl) ?_
        refine lv_iload hx hb dX8_there_14 (lv_at hl 0 rfl) ?_
        refine lv_imul hx hb dX8_there_16 ?_
        refine xialdN ha hP 14 (by decide) (cM_14 G _) (493 * j) (nmul (rfl : (493 : Int32) = nI 493) rfl) (by omega) (by decide) dX8_there_17 ?_
        have jn_2 : ∀ x_2 : Int32, x_2 = (if (σ 14 (493 * j)) < 0 then 0 else 1) → W p l e ({ frames := 0, cells := 0, slots := 0, locals := 0 } : Room) s m ([.ref (G.1 14), .int 3, .int 493] : List Value).toArray below meth c H locs 0 0 (MQ below (va_Qi (fun (r : Int32) u => r = b_there σ 14 493 3 ∧ u = σ) (xB G 24 (cM G)) (xA G 24 s.heap.size)) ([.ref (G.1 14), .int 3, .int 493] : List Value).toArray s 0 0 (xA G 24 s.heap.size)) (F0 m 26 ls [.int x_2, .int x3]) := by
          intro x_2 ex_2
          refine lv_iadd hx hb dX8_there_26 ?_
          refine lv_istore_n (lv' := [(3, .int (x3 + x_2)), (4, .int (nI j)), (0, .ref (G.1 14)), (1, .int 3), (2, .int 493)]) hx hb dX8_there_27 rfl hl (by decide) rfl (fun ls hl => ?_)
          refine lv_iinc (v := (nI (j + 1))) (lv' := [(4, .int (nI (j + 1))), (3, .int (x3 + x_2)), (0, .ref (G.1 14)), (1, .int 3), (2, .int 493)]) hx hb dX8_there_28 hl (k := 1) rfl (nI_1 j) (by decide) rfl (fun ls hl => ?_)
          refine lv_goto (tgt := 5) hx hb dX8_there_31 (by decide) ?_
          exact ih_5 (j + 1) (x3 + x_2) _ _ _ (by omega) (by omega) (by rw [a_sum, ← e_x3]; simp [u_1, ex_2]) hP hS (lv_sub hl [0, 1, 2, 3, 4] rfl)
        refine lv_if_ge (tgt := 25) hx hb dX8_there_18 (by decide) (fun c_2 => ?_) (fun c_2 => ?_)
        · have t_2 := i_le c_2
          refine lv_iconst (v := 1) hx hb dX8_there_25 (by decide) ?_
          exact jn_2 _ (if_neg (u_le c_2)).symm
        · have t_2 := i_nle c_2
          refine lv_iconst (v := 0) hx hb dX8_there_21 (by decide) ?_
          refine lv_goto (tgt := 26) hx hb dX8_there_22 (by decide) ?_
          exact jn_2 _ (if_pos (u_nle c_2)).symm
  exact lp_5 (3 - 0 + 1) 0 0 _ _ _ (by omega) (by omega) rfl hP hS (lv_sub hl [0, 1, 2, 3, 4] rfl)
set_option maxHeartbeats 800000 in
set_option maxRecDepth 100000 in
theorem c_X8_whoAreUp (G : GT) (l : Launch) (σ : Mem) (P : PT) (hpb : PB P) (hPV : pM σ = P) : CI G 24 (cM G) l yX8_whoAreUp ({ frames := 0, cells := 0, slots := 0, locals := 0 } : Room) cX8_whoAreUp 3 (some .int) [.ref (G.1 0)] σ (fun (r : Int32) u => r = b_up P σ ∧ u = σ) := by
  intro sz
  refine xbegin (by decide) (Nat.le_of_ble_eq_true rfl) ?_
  intro p e s m below meth c ls hsz ha hP hl
  subst hsz
  have hx := ha.1
  have hb := ha.2.1
  have hS : va_S (xA G 24 s.heap.size) s.heap s.heap [] := va_S.rf
  have hl : lv_has ls 3 [(0, .ref (G.1 0))] := hl
  have k_m9 : (-9 : Int32).toInt = -9 := by decide
  have k_0 : (0 : Int32).toInt = 0 := by decide
  have k_1 : (1 : Int32).toInt = 1 := by decide
  have k_4 : (4 : Int32).toInt = 4 := by decide
  have k_5 : (5 : Int32).toInt = 5 := by decide
  have k_6 : (6 : Int32).toInt = 6 := by decide
  have hPL := PB_pl hpb
  have hPE := PB_pe hpb
  have hp4 := PV_pl hpb hPV
  have hp5 := PV_pe hpb hPV
  refine lv_iconst (v := 0) hx hb dX8_whoAreUp_0 (by decide) ?_
  refine lv_istore_n (lv' := [(1, .int 0), (0, .ref (G.1 0))]) hx hb dX8_whoAreUp_1 rfl hl (by decide) rfl (fun ls hl => ?_)
  refine lv_iconst (v := 0) hx hb dX8_whoAreUp_2 (by decide) ?_
  refine lv_istore_n (lv' := [(2, .int 0), (1, .int 0), (0, .ref (G.1 0))]) hx hb dX8_whoAreUp_3 rfl hl (by decide) rfl (fun ls hl => ?_)
  have lp_4 : ∀ (d j : Nat) (x1 : Int32) (H : Heap) (locs : List Loc) (ls : Array Slot), j ≤ (nPe P) → (nPe P) - j < d → x1 = a_bits (fun i => !decide (σ 11 (5 + i) = -9)) j → va_P G.2.1 vwCl (wl G 24 (cM G σ)) H → va_S (xA G 24 s.heap.size) s.heap H locs → lv_has ls 3 [(2, .int (nI j)), (1, .int x1), (0, .ref (G.1 0))] → W p l e ({ frames := 0, cells := 0, slots := 0, locals := 0 } : Room) s m ([.ref (G.1 0)] : List Value).toArray below meth c H locs 0 0 (MQ below (va_Qi (fun (r : Int32) u => r = b_up P σ ∧ u = σ) (xB G 24 (cM G)) (xA G 24 s.heap.size)) ([.ref (G.1 0)] : List Value).toArray s 0 0 (xA G 24 s.heap.size)) (F0 m 4 ls []) := by
    intro d
    induction d with
    | zero => intro j x1 H locs ls hj hd; exact absurd hd (Nat.not_lt_zero _)
    | succ d ih_4 =>
      intro j x1 H locs ls hj_j hd_j e_x1 hP hS hl
      have h31_j : (nI j).toInt = (j : Int) := nI_toInt (by omega)
      refine lv_iload_n hx hb dX8_whoAreUp_4 rfl (lv_at hl 0 rfl) ?_
      refine lv_aload_n hx hb dX8_whoAreUp_5 rfl (lv_at hl 2 rfl) ?_
      refine g8_166 ha hP 0 (by decide) (cM_0 G _) (v := .int (σ 0 5)) rfl dX8_whoAreUp_6 ?_
      refine lv_icmp_ge (tgt := 41) hx hb dX8_whoAreUp_9 (by decide) (fun c_1 => ?_) (fun c_1 => ?_)
      · have t_1 := i_le c_1
        have u_1 := u_le c_1
        obtain rfl : j = (nPe P) := by omega
        refine lv_iload_n hx hb dX8_whoAreUp_41 rfl (lv_at hl 1 rfl) ?_
        exact xiret ha hP hS dX8_whoAreUp_42 ⟨by exact e_x1, rfl⟩ rfl
      · have t_1 := i_nle c_1
        have u_1 := u_nle c_1
        have hlt_j : j < (nPe P) := by omega
        refine lv_iload_n hx hb dX8_whoAreUp_12 rfl (lv_at hl 1 rfl) ?_
        refine lv_aload_n hx hb dX8_whoAreUp_13 rfl (lv_at hl 2 rfl) ?_
        refine g8_44 ha hP 0 (by decide) (cM_0 G _) (v := .ref (G.1 11)) rfl dX8_whoAreUp_14 ?_
        refine lv_iconst (v := 5) hx hb dX8_whoAreUp_17 (by decide) ?_
        refine lv_iload_n hx hb dX8_whoAreUp_18 rfl (lv_at hl 0 rfl) ?_
        refine lv_iadd hx hb dX8_whoAreUp_19 ?_
        refine xialdN ha hP 11 (by decide) (cM_11 G _) (5 + j) (nadd (rfl : (5 : Int32) = nI 5) rfl) (by omega) (by decide) dX8_whoAreUp_20 ?_
        refine lv_bipush (v := (-9)) hx hb dX8_whoAreUp_21 (by decide) ?_
        have jn_2 : ∀ x_2 : Int32, x_2 = (if (σ 11 (5 + j)) = (-9) then (0 : Int32) else ((1 <<< (nI j &&& 31)) : Int32)) → W p l e ({ frames := 0, cells := 0, slots := 0, locals := 0 } : Room) s m ([.ref (G.1 0)] : List Value).toArray below meth c H locs 0 0 (MQ below (va_Qi (fun (r : Int32) u => r = b_up P σ ∧ u = σ) (xB G 24 (cM G)) (xA G 24 s.heap.size)) ([.ref (G.1 0)] : List Value).toArray s 0 0 (xA G 24 s.heap.size)) (F0 m 33 ls [.int x_2, .int x1]) := by
          intro x_2 ex_2
          refine lv_ior hx hb dX8_whoAreUp_33 ?_
          refine lv_istore_n (lv' := [(1, .int (x1 ||| x_2)), (2, .int (nI j)), (0, .ref (G.1 0))]) hx hb dX8_whoAreUp_34 rfl hl (by decide) rfl (fun ls hl => ?_)
          refine lv_iinc (v := (nI (j + 1))) (lv' := [(2, .int (nI (j + 1))), (1, .int (x1 ||| x_2)), (0, .ref (G.1 0))]) hx hb dX8_whoAreUp_35 hl (k := 1) rfl (nI_1 j) (by decide) rfl (fun ls hl => ?_)
          refine lv_goto (tgt := 4) hx hb dX8_whoAreUp_38 (by decide) ?_
          exact ih_4 (j + 1) (x1 ||| x_2) _ _ _ (by omega) (by omega) (by rw [a_bits, ← e_x1]; simp [u_1, ex_2]; try (split <;> simp_all)) hP hS (lv_sub hl [0, 1, 2] rfl)
        refine lv_icmp_ne (tgt := 30) hx hb dX8_whoAreUp_23 (by decide) (fun c_2 => ?_) (fun c_2 => ?_)
        · have t_2 := i_ne c_2
          refine lv_iconst (v := 1) hx hb dX8_whoAreUp_30 (by decide) ?_
          refine lv_iload_n hx hb dX8_whoAreUp_31 rfl (lv_at hl 0 rfl) ?_
          refine lv_ishl hx hb dX8_whoAreUp_32 ?_
          exact jn_2 _ (if_neg c_2).symm
        · have t_2 := i_eq c_2
          refine lv_iconst (v := 0) hx hb dX8_whoAreUp_26 (by decide) ?_
          refine lv_goto (tgt := 33) hx hb dX8_whoAreUp_27 (by decide) ?_
          exact jn_2 _ (if_pos c_2).symm
  exact lp_4 ((nPe P) - 0 + 1) 0 0 _ _ _ (by omega) (by omega) rfl hP hS (lv_sub hl [0, 1, 2] rfl)
set_option maxHeartbeats 800000 in
set_option maxRecDepth 100000 in
theorem c_X8_laced (G : GT) (l : Launch) (σ : Mem) (P : PT) (hpb : PB P) (hPV : pM σ = P) : CI G 24 (cM G) l yX8_laced ({ frames := 1, cells := 0, slots := 0, locals := 21 } : Room) cX8_laced 3 (some .int) [.ref (G.1 0)] σ (fun (r : Int32) u => r = b_laced P ∧ u = σ) := by
  intro sz
  refine xbegin (by decide) (Nat.le_of_ble_eq_true rfl) ?_
  intro p e s m below meth c ls hsz ha hP hl
  subst hsz
  have hx := ha.1
  have hb := ha.2.1
  have hS : va_S (xA G 24 s.heap.size) s.heap s.heap [] := va_S.rf
  have hl : lv_has ls 3 [(0, .ref (G.1 0))] := hl
  have k_0 : (0 : Int32).toInt = 0 := by decide
  have k_1 : (1 : Int32).toInt = 1 := by decide
  have k_2 : (2 : Int32).toInt = 2 := by decide
  have k_4 : (4 : Int32).toInt = 4 := by decide
  have k_5 : (5 : Int32).toInt = 5 := by decide
  have k_6 : (6 : Int32).toInt = 6 := by decide
  have hPL := PB_pl hpb
  have hPE := PB_pe hpb
  have hp4 := PV_pl hpb hPV
  have hp5 := PV_pe hpb hPV
  obtain ⟨p6, p7, p8, p9, p10⟩ := pM_c hPV
  refine lv_iconst (v := 0) hx hb dX8_laced_0 (by decide) ?_
  refine lv_istore_n (lv' := [(1, .int 0), (0, .ref (G.1 0))]) hx hb dX8_laced_1 rfl hl (by decide) rfl (fun ls hl => ?_)
  refine lv_iconst (v := 0) hx hb dX8_laced_2 (by decide) ?_
  refine lv_istore_n (lv' := [(2, .int 0), (1, .int 0), (0, .ref (G.1 0))]) hx hb dX8_laced_3 rfl hl (by decide) rfl (fun ls hl => ?_)
  have lp_4 : ∀ (d j : Nat) (x1 : Int32) (H : Heap) (locs : List Loc) (ls : Array Slot), j ≤ (nPl P) → (nPl P) - j < d → x1 = a_sum (fun k => if a_isOf (P 1 k) 2 = true then 1 else 0) j → va_P G.2.1 vwCl (wl G 24 (cM G σ)) H → va_S (xA G 24 s.heap.size) s.heap H locs → lv_has ls 3 [(2, .int (nI j)), (1, .int x1), (0, .ref (G.1 0))] → W p l e ({ frames := 1, cells := 0, slots := 0, locals := 21 } : Room) s m ([.ref (G.1 0)] : List Value).toArray below meth c H locs 0 0 (MQ below (va_Qi (fun (r : Int32) u => r = b_laced P ∧ u = σ) (xB G 24 (cM G)) (xA G 24 s.heap.size)) ([.ref (G.1 0)] : List Value).toArray s 0 0 (xA G 24 s.heap.size)) (F0 m 4 ls []) := by
    intro d
    induction d with
    | zero => intro j x1 H locs ls hj hd; exact absurd hd (Nat.not_lt_zero _)
    | succ d ih_4 =>
      intro j x1 H locs ls hj_j hd_j e_x1 hP hS hl
      have h31_j : (nI j).toInt = (j : Int) := nI_toInt (by omega)
      refine lv_iload_n hx hb dX8_laced_4 rfl (lv_at hl 0 rfl) ?_
      refine lv_aload_n hx hb dX8_laced_5 rfl (lv_at hl 2 rfl) ?_
      refine g8_163 ha hP 0 (by decide) (cM_0 G _) (v := .int (σ 0 4)) rfl dX8_laced_6 ?_
      refine lv_icmp_ge (tgt := 39) hx hb dX8_laced_9 (by decide) (fun c_1 => ?_) (fun c_1 => ?_)
      · have t_1 := i_le c_1
        have u_1 := u_le c_1
        obtain rfl : j = (nPl P) := by omega
        refine lv_iload_n hx hb dX8_laced_39 rfl (lv_at hl 1 rfl) ?_
        exact xiret ha hP hS dX8_laced_40 ⟨by exact e_x1, rfl⟩ rfl
      · have t_1 := i_nle c_1
        have u_1 := u_nle c_1
        have hlt_j : j < (nPl P) := by omega
        refine lv_iload_n hx hb dX8_laced_12 rfl (lv_at hl 1 rfl) ?_
        refine lv_aload_n hx hb dX8_laced_13 rfl (lv_at hl 2 rfl) ?_
        refine g8_29 ha hP 0 (by decide) (cM_0 G _) (v := .ref (G.1 6)) rfl dX8_laced_14 ?_
        refine lv_iload_n hx hb dX8_laced_17 rfl (lv_at hl 0 rfl) ?_
        refine xialdN ha hP 6 (by decide) (cM_6 G _) j rfl (by omega) (by decide) dX8_laced_18 ?_
        refine lv_iconst (v := 2) hx hb dX8_laced_19 (by decide) ?_
        refine xSi ha hP hS (y := yX8_isOf) (As := [.int (σ 6 j), .int 2]) (rest := [.int x1]) rfl (c_X8_isOf G l σ (σ 6 j) 2 ) kw_X8_212 hd_X8_isOf rfl ⟨rfl, rfl⟩ ⟨Nat.le_of_ble_eq_true rfl, Nat.le_of_ble_eq_true rfl⟩ ⟨Nat.zero_le _, Nat.zero_le _⟩ hl.1 (Nat.le_of_ble_eq_true rfl) rfl dX8_laced_20 (fun r u H locs hpq hP hS => ?_)
        obtain ⟨hr_, hu_⟩ := hpq
        have hr_ := hr_.symm
        have hu_ := hu_.symm
        subst hr_
        subst hu_
        have jn_2 : ∀ x_2 : Int32, x_2 = (if (a_isOf (σ 6 j) 2) = true then 1 else 0) → W p l e ({ frames := 1, cells := 0, slots := 0, locals := 21 } : Room) s m ([.ref (G.1 0)] : List Value).toArray below meth c H locs 0 0 (MQ below (va_Qi (fun (r : Int32) u => r = b_laced P ∧ u = σ) (xB G 24 (cM G)) (xA G 24 s.heap.size)) ([.ref (G.1 0)] : List Value).toArray s 0 0 (xA G 24 s.heap.size)) (F0 m 31 ls [.int x_2, .int x1]) := by
          intro x_2 ex_2
          refine lv_iadd hx hb dX8_laced_31 ?_
          refine lv_istore_n (lv' := [(1, .int (x1 + x_2)), (2, .int (nI j)), (0, .ref (G.1 0))]) hx hb dX8_laced_32 rfl hl (by decide) rfl (fun ls hl => ?_)
          refine lv_iinc (v := (nI (j + 1))) (lv' := [(2, .int (nI (j + 1))), (1, .int (x1 + x_2)), (0, .ref (G.1 0))]) hx hb dX8_laced_33 hl (k := 1) rfl (nI_1 j) (by decide) rfl (fun ls hl => ?_)
          refine lv_goto (tgt := 4) hx hb dX8_laced_36 (by decide) ?_
          exact ih_4 (j + 1) (x1 + x_2) _ _ _ (by omega) (by omega) (by rw [a_sum, ← e_x1, ← p6]; simp [u_1, ex_2]) hP hS (lv_sub hl [0, 1, 2] rfl)
        refine lv_if_eq (tgt := 30) hx hb dX8_laced_23 (by decide) (fun c_2 => ?_) (fun c_2 => ?_)
        · have t_2 := b2i_f c_2
          refine lv_iconst (v := 0) hx hb dX8_laced_30 (by decide) ?_
          exact jn_2 _ (if_neg (Bool.eq_false_iff.mp t_2)).symm
        · have t_2 := b2i_t c_2
          refine lv_iconst (v := 1) hx hb dX8_laced_26 (by decide) ?_
          refine lv_goto (tgt := 31) hx hb dX8_laced_27 (by decide) ?_
          exact jn_2 _ (if_pos t_2).symm
  exact lp_4 ((nPl P) - 0 + 1) 0 0 _ _ _ (by omega) (by omega) rfl hP hS (lv_sub hl [0, 1, 2] rfl)
set_option maxHeartbeats 800000 in
set_option maxRecDepth 100000 in
theorem c_X8_count (G : GT) (l : Launch) (σ : Mem) (P : PT) (what : Int32) (hpb : PB P) (hPV : pM σ = P) (hsv : SV P σ 11) : CI G 24 (cM G) l yX8_count ({ frames := 2, cells := 0, slots := 0, locals := 45 } : Room) cX8_count 2 (some .int) [.ref (G.1 0), .int what] σ (fun (r : Int32) u => r = n_count P σ what ∧ u = σ) := by
  intro sz
  refine xbegin (by decide) (Nat.le_of_ble_eq_true rfl) ?_
  intro p e s m below meth c ls hsz ha hP hl
  subst hsz
  have hx := ha.1
  have hb := ha.2.1
  have hS : va_S (xA G 24 s.heap.size) s.heap s.heap [] := va_S.rf
  have hl : lv_has ls 2 [(0, .ref (G.1 0)), (1, .int what)] := hl
  have k_m1 : (-1 : Int32).toInt = -1 := by decide
  have k_0 : (0 : Int32).toInt = 0 := by decide
  have k_1 : (1 : Int32).toInt = 1 := by decide
  have k_3 : (3 : Int32).toInt = 3 := by decide
  have k_4 : (4 : Int32).toInt = 4 := by decide
  have k_5 : (5 : Int32).toInt = 5 := by decide
  have k_6 : (6 : Int32).toInt = 6 := by decide
  have k_10 : (10 : Int32).toInt = 10 := by decide
  have k_11 : (11 : Int32).toInt = 11 := by decide
  have k_493 : (493 : Int32).toInt = 493 := by decide
  have hPL := PB_pl hpb
  have hPE := PB_pe hpb
  have hp4 := PV_pl hpb hPV
  have hp5 := PV_pe hpb hPV
  have p4 := PV_4 hPV
  have p5 := PV_5 hPV
  refine lv_iload_n hx hb dX8_count_0 rfl (lv_at hl 1 rfl) ?_
  by_cases c_1 : what = 0
  · refine lv_tableIn (tgt := 64) hx hb dX8_count_1 (by rw [c_1]; decide) (by rw [c_1]; decide) (off := 63) (by rw [c_1]; rfl) (by decide) ?_
    refine lv_aload_n hx hb dX8_count_64 rfl (lv_at hl 0 rfl) ?_
    refine g8_163 ha hP 0 (by decide) (cM_0 G _) (v := .int (σ 0 4)) rfl dX8_count_65 ?_
    exact xiret ha hP hS dX8_count_68 ⟨by simp [n_count, p4, p5, i_leN, c_1, -Int32.not_lt] <;> first | rfl | simp_all, rfl⟩ rfl
  by_cases c_2 : what = 1
  · refine lv_tableIn (tgt := 69) hx hb dX8_count_1 (by rw [c_2]; decide) (by rw [c_2]; decide) (off := 68) (by rw [c_2]; rfl) (by decide) ?_
    refine lv_aload_n hx hb dX8_count_69 rfl (lv_at hl 0 rfl) ?_
    refine g8_166 ha hP 0 (by decide) (cM_0 G _) (v := .int (σ 0 5)) rfl dX8_count_70 ?_
    exact xiret ha hP hS dX8_count_73 ⟨by simp [n_count, p4, p5, i_leN, c_1, c_2, -Int32.not_lt] <;> first | rfl | simp_all, rfl⟩ rfl
  by_cases c_3 : what = 2
  · refine lv_tableIn (tgt := 74) hx hb dX8_count_1 (by rw [c_3]; decide) (by rw [c_3]; decide) (off := 73) (by rw [c_3]; rfl) (by decide) ?_
    refine lv_aload_n hx hb dX8_count_74 rfl (lv_at hl 0 rfl) ?_
    refine g8_117 ha hP 0 (by decide) (cM_0 G _) (v := .int (σ 0 6)) rfl dX8_count_75 ?_
    exact xiret ha hP hS dX8_count_78 ⟨by simp [n_count, p4, p5, i_leN, c_1, c_2, c_3, -Int32.not_lt] <;> first | rfl | simp_all, rfl⟩ rfl
  by_cases c_4 : what = 3
  · refine lv_tableIn (tgt := 79) hx hb dX8_count_1 (by rw [c_4]; decide) (by rw [c_4]; decide) (off := 78) (by rw [c_4]; rfl) (by decide) ?_
    refine lv_aload_n hx hb dX8_count_79 rfl (lv_at hl 0 rfl) ?_
    refine g8_44 ha hP 0 (by decide) (cM_0 G _) (v := .ref (G.1 11)) rfl dX8_count_80 ?_
    refine lv_bipush (v := 10) hx hb dX8_count_83 (by decide) ?_
    refine xialdN ha hP 11 (by decide) (cM_11 G _) 10 (by decide) (by decide) (by decide) dX8_count_85 ?_
    exact xiret ha hP hS dX8_count_86 ⟨by simp [n_count, p4, p5, i_leN, c_1, c_2, c_3, c_4, -Int32.not_lt] <;> first | rfl | simp_all, rfl⟩ rfl
  by_cases c_5 : what = 4
  · refine lv_tableIn (tgt := 87) hx hb dX8_count_1 (by rw [c_5]; decide) (by rw [c_5]; decide) (off := 86) (by rw [c_5]; rfl) (by decide) ?_
    refine lv_aload_n hx hb dX8_count_87 rfl (lv_at hl 0 rfl) ?_
    refine g8_44 ha hP 0 (by decide) (cM_0 G _) (v := .ref (G.1 11)) rfl dX8_count_88 ?_
    refine lv_iconst (v := 4) hx hb dX8_count_91 (by decide) ?_
    refine xialdN ha hP 11 (by decide) (cM_11 G _) 4 (by decide) (by decide) (by decide) dX8_count_92 ?_
    exact xiret ha hP hS dX8_count_93 ⟨by simp [n_count, p4, p5, i_leN, c_1, c_2, c_3, c_4, c_5, -Int32.not_lt] <;> first | rfl | simp_all, rfl⟩ rfl
  by_cases c_6 : what = 5
  · refine lv_tableIn (tgt := 94) hx hb dX8_count_1 (by rw [c_6]; decide) (by rw [c_6]; decide) (off := 93) (by rw [c_6]; rfl) (by decide) ?_
    refine lv_aload_n hx hb dX8_count_94 rfl (lv_at hl 0 rfl) ?_
    refine xVi ha hP hS (y := yX8_whoAreUp) (As := []) (rest := []) 0 (by decide) (cM_0 G _) rfl rfl (c_X8_whoAreUp G l σ P hpb hPV) kw_X8_312 hd_X8_whoAreUp rfl ⟨rfl, rfl⟩ ⟨Nat.le_of_ble_eq_true rfl, Nat.le_of_ble_eq_true rfl⟩ ⟨Nat.zero_le _, Nat.zero_le _⟩ hl.1 (Nat.le_of_ble_eq_true rfl) rfl dX8_count_95 (fun r u H locs hpq hP hS => ?_)
    obtain ⟨hr_, hu_⟩ := hpq
    have hr_ := hr_.symm
    have hu_ := hu_.symm
    subst hr_
    subst hu_
    exact xiret ha hP hS dX8_count_98 ⟨by simp [n_count, p4, p5, i_leN, c_1, c_2, c_3, c_4, c_5, c_6, -Int32.not_lt] <;> first | rfl | simp_all, rfl⟩ rfl
  by_cases c_7 : what = 6
  · refine lv_tableIn (tgt := 99) hx hb dX8_count_1 (by rw [c_7]; decide) (by rw [c_7]; decide) (off := 98) (by rw [c_7]; rfl) (by decide) ?_
    refine lv_aload_n hx hb dX8_count_99 rfl (lv_at hl 0 rfl) ?_
    refine lv_aload_n hx hb dX8_count_100 rfl (lv_at hl 0 rfl) ?_
    refine g8_44 ha hP 0 (by decide) (cM_0 G _) (v := .ref (G.1 11)) rfl dX8_count_101 ?_
    refine xVi ha hP hS (y := yX8_highAll) (As := [.ref (G.1 11)]) (rest := []) 0 (by decide) (cM_0 G _) rfl rfl (c_X8_highAll G l σ P 11 hpb hPV (by unfold oT; omega) hsv) kw_X8_237 hd_X8_highAll rfl ⟨rfl, rfl⟩ ⟨Nat.le_of_ble_eq_true rfl, Nat.le_of_ble_eq_true rfl⟩ ⟨Nat.zero_le _, Nat.zero_le _⟩ hl.1 (Nat.le_of_ble_eq_true rfl) rfl dX8_count_104 (fun r u H locs hpq hP hS => ?_)
    obtain ⟨hr_, hu_⟩ := hpq
    have hr_ := hr_.symm
    have hu_ := hu_.symm
    subst hr_
    subst hu_
    exact xiret ha hP hS dX8_count_107 ⟨by simp [n_count, p4, p5, i_leN, c_1, c_2, c_3, c_4, c_5, c_6, c_7, -Int32.not_lt] <;> first | rfl | simp_all, rfl⟩ rfl
  by_cases c_8 : what = 7
  · refine lv_tableIn (tgt := 108) hx hb dX8_count_1 (by rw [c_8]; decide) (by rw [c_8]; decide) (off := 107) (by rw [c_8]; rfl) (by decide) ?_
    refine lv_aload_n hx hb dX8_count_108 rfl (lv_at hl 0 rfl) ?_
    refine g8_44 ha hP 0 (by decide) (cM_0 G _) (v := .ref (G.1 11)) rfl dX8_count_109 ?_
    refine lv_bipush (v := 11) hx hb dX8_count_112 (by decide) ?_
    refine xialdN ha hP 11 (by decide) (cM_11 G _) 11 (by decide) (by decide) (by decide) dX8_count_114 ?_
    exact xiret ha hP hS dX8_count_115 ⟨by simp [n_count, p4, p5, i_leN, c_1, c_2, c_3, c_4, c_5, c_6, c_7, c_8, -Int32.not_lt] <;> first | rfl | simp_all, rfl⟩ rfl
  by_cases c_9 : what = 8
  · refine lv_tableIn (tgt := 116) hx hb dX8_count_1 (by rw [c_9]; decide) (by rw [c_9]; decide) (off := 115) (by rw [c_9]; rfl) (by decide) ?_
    refine lv_aload_n hx hb dX8_count_116 rfl (lv_at hl 0 rfl) ?_
    refine g8_13 ha hP 0 (by decide) (cM_0 G _) (v := .ref (G.1 2)) rfl dX8_count_117 ?_
    refine lv_bipush (v := 6) hx hb dX8_count_120 (by decide) ?_
    refine lv_iconst (v := 1) hx hb dX8_count_122 (by decide) ?_
    refine xSi ha hP hS (y := yX8_there) (As := [.ref (G.1 2), .int 6, .int 1]) (rest := []) rfl (c_X8_there_2 G l σ  ) kw_X8_315 hd_X8_there rfl ⟨rfl, rfl⟩ ⟨Nat.le_of_ble_eq_true rfl, Nat.le_of_ble_eq_true rfl⟩ ⟨Nat.zero_le _, Nat.zero_le _⟩ hl.1 (Nat.le_of_ble_eq_true rfl) rfl dX8_count_123 (fun r u H locs hpq hP hS => ?_)
    obtain ⟨hr_, hu_⟩ := hpq
    have hr_ := hr_.symm
    have hu_ := hu_.symm
    subst hr_
    subst hu_
    exact xiret ha hP hS dX8_count_126 ⟨by simp [n_count, p4, p5, i_leN, c_1, c_2, c_3, c_4, c_5, c_6, c_7, c_8, c_9, -Int32.not_lt] <;> first | rfl | simp_all, rfl⟩ rfl
  by_cases c_10 : what = 9
  · refine lv_tableIn (tgt := 127) hx hb dX8_count_1 (by rw [c_10]; decide) (by rw [c_10]; decide) (off := 126) (by rw [c_10]; rfl) (by decide) ?_
    refine lv_aload_n hx hb dX8_count_127 rfl (lv_at hl 0 rfl) ?_
    refine g8_19 ha hP 0 (by decide) (cM_0 G _) (v := .ref (G.1 4)) rfl dX8_count_128 ?_
    refine lv_iconst (v := 4) hx hb dX8_count_131 (by decide) ?_
    refine lv_iconst (v := 1) hx hb dX8_count_132 (by decide) ?_
    refine xSi ha hP hS (y := yX8_there) (As := [.ref (G.1 4), .int 4, .int 1]) (rest := []) rfl (c_X8_there_4 G l σ  ) kw_X8_315 hd_X8_there rfl ⟨rfl, rfl⟩ ⟨Nat.le_of_ble_eq_true rfl, Nat.le_of_ble_eq_true rfl⟩ ⟨Nat.zero_le _, Nat.zero_le _⟩ hl.1 (Nat.le_of_ble_eq_true rfl) rfl dX8_count_133 (fun r u H locs hpq hP hS => ?_)
    obtain ⟨hr_, hu_⟩ := hpq
    have hr_ := hr_.symm
    have hu_ := hu_.symm
    subst hr_
    subst hu_
    exact xiret ha hP hS dX8_count_136 ⟨by simp [n_count, p4, p5, i_leN, c_1, c_2, c_3, c_4, c_5, c_6, c_7, c_8, c_9, c_10, -Int32.not_lt] <;> first | rfl | simp_all, rfl⟩ rfl
  by_cases c_11 : what = 10
  · refine lv_tableIn (tgt := 137) hx hb dX8_count_1 (by rw [c_11]; decide) (by rw [c_11]; decide) (off := 136) (by rw [c_11]; rfl) (by decide) ?_
    refine lv_aload_n hx hb dX8_count_137 rfl (lv_at hl 0 rfl) ?_
    refine g8_53 ha hP 0 (by decide) (cM_0 G _) (v := .ref (G.1 14)) rfl dX8_count_138 ?_
    refine lv_iconst (v := 3) hx hb dX8_count_141 (by decide) ?_
    refine lv_sipush (v := 493) hx hb dX8_count_142 (by decide) ?_
    refine xSi ha hP hS (y := yX8_there) (As := [.ref (G.1 14), .int 3, .int 493]) (rest := []) rfl (c_X8_there_14 G l σ  ) kw_X8_315 hd_X8_there rfl ⟨rfl, rfl⟩ ⟨Nat.le_of_ble_eq_true rfl, Nat.le_of_ble_eq_true rfl⟩ ⟨Nat.zero_le _, Nat.zero_le _⟩ hl.1 (Nat.le_of_ble_eq_true rfl) rfl dX8_count_145 (fun r u H locs hpq hP hS => ?_)
    obtain ⟨hr_, hu_⟩ := hpq
    have hr_ := hr_.symm
    have hu_ := hu_.symm
    subst hr_
    subst hu_
    exact xiret ha hP hS dX8_count_148 ⟨by simp [n_count, p4, p5, i_leN, c_1, c_2, c_3, c_4, c_5, c_6, c_7, c_8, c_9, c_10, c_11, -Int32.not_lt] <;> first | rfl | simp_all, rfl⟩ rfl
  by_cases c_12 : what = 11
  · refine lv_tableIn (tgt := 149) hx hb dX8_count_1 (by rw [c_12]; decide) (by rw [c_12]; decide) (off := 148) (by rw [c_12]; rfl) (by decide) ?_
    refine lv_aload_n hx hb dX8_count_149 rfl (lv_at hl 0 rfl) ?_
    refine xVi ha hP hS (y := yX8_laced) (As := []) (rest := []) 0 (by decide) (cM_0 G _) rfl rfl (c_X8_laced G l σ P hpb hPV) kw_X8_319 hd_X8_laced rfl ⟨rfl, rfl⟩ ⟨Nat.le_of_ble_eq_true rfl, Nat.le_of_ble_eq_true rfl⟩ ⟨Nat.zero_le _, Nat.zero_le _⟩ hl.1 (Nat.le_of_ble_eq_true rfl) rfl dX8_count_150 (fun r u H locs hpq hP hS => ?_)
    obtain ⟨hr_, hu_⟩ := hpq
    have hr_ := hr_.symm
    have hu_ := hu_.symm
    subst hr_
    subst hu_
    exact xiret ha hP hS dX8_count_153 ⟨by simp [n_count, p4, p5, i_leN, c_1, c_2, c_3, c_4, c_5, c_6, c_7, c_8, c_9, c_10, c_11, c_12, -Int32.not_lt] <;> first | rfl | simp_all, rfl⟩ rfl
  have t_1 := i_ne c_1
  have t_2 := i_ne c_2
  have t_3 := i_ne c_3
  have t_4 := i_ne c_4
  have t_5 := i_ne c_5
  have t_6 := i_ne c_6
  have t_7 := i_ne c_7
  have t_8 := i_ne c_8
  have t_9 := i_ne c_9
  have t_10 := i_ne c_10
  have t_11 := i_ne c_11
  have t_12 := i_ne c_12
  have kk_1 : (0 : Int32).toInt = 0 := by decide
  have kk_2 : (1 : Int32).toInt = 1 := by decide
  have kk_3 : (2 : Int32).toInt = 2 := by decide
  have kk_4 : (3 : Int32).toInt = 3 := by decide
  have kk_5 : (4 : Int32).toInt = 4 := by decide
  have kk_6 : (5 : Int32).toInt = 5 := by decide
  have kk_7 : (6 : Int32).toInt = 6 := by decide
  have kk_8 : (7 : Int32).toInt = 7 := by decide
  have kk_9 : (8 : Int32).toInt = 8 := by decide
  have kk_10 : (9 : Int32).toInt = 9 := by decide
  have kk_11 : (10 : Int32).toInt = 10 := by decide
  have kk_12 : (11 : Int32).toInt = 11 := by decide
  refine lv_tableOut (tgt := 154) hx hb dX8_count_1 (by omega) (by decide) ?_
  refine lv_iconst (v := (-1)) hx hb dX8_count_154 (by decide) ?_
  exact xiret ha hP hS dX8_count_155 ⟨by simp [n_count, p4, p5, i_leN, c_1, c_2, c_3, c_4, c_5, c_6, c_7, c_8, c_9, c_10, c_11, c_12, -Int32.not_lt] <;> first | rfl | simp_all, rfl⟩ rfl
