theorem hd_X2_howManyLaced : kHd yX2_howManyLaced 0 := by decide +kernel
theorem hd_X4_highOfStanding : kHd yX4_highOfStanding 0 := by decide +kernel
theorem hd_X4_seatedPeople : kHd yX4_seatedPeople 0 := by decide +kernel
theorem hd_X5_begin : kHd yX5_begin 1 := by decide +kernel
theorem hd_X7_deedByLot : kHd yX7_deedByLot 1 := by decide +kernel
theorem hd_X7_howManyKept : kHd yX7_howManyKept 0 := by decide +kernel
theorem hd_X7_howManyThere : kHd yX7_howManyThere 1 := by decide +kernel
theorem hd_X7_tally : kHd yX7_tally 1 := by decide +kernel
theorem hd_X7_tellTwelfths : kHd yX7_tellTwelfths 1 := by decide +kernel
theorem kw_X7_290 : ∀ w ∈ k5V RX7 290 yX5_begin cX5_begin 3 none, w ∈ TB := tb_ins (by decide +kernel)
theorem kw_X7_291 : ∀ w ∈ k5N yX5_sendUp cX5_sendUp 7 (some .int), w ∈ TB := tb_ins (by decide +kernel)
theorem kw_X7_295 : ∀ w ∈ k5V RX7 295 yX4_stands cX4_stands 2 (some .boolean), w ∈ TB := tb_ins (by decide +kernel)
theorem kw_X7_298 : ∀ w ∈ k5V RX7 298 yX7_tellTwelfths cX7_tellTwelfths 3 (some .int), w ∈ TB := tb_ins (by decide +kernel)
theorem kw_X7_301 : ∀ w ∈ k5V RX7 301 yX4_highOfStanding cX4_highOfStanding 3 (some .int), w ∈ TB := tb_ins (by decide +kernel)
theorem kw_X7_309 : ∀ w ∈ k5V RX7 309 yX7_deedByLot cX7_deedByLot 4 (some .int), w ∈ TB := tb_ins (by decide +kernel)
theorem kw_X7_338 : ∀ w ∈ k5V RX7 338 yX4_seatedPeople cX4_seatedPeople 3 (some .int), w ∈ TB := tb_ins (by decide +kernel)
theorem kw_X7_344 : ∀ w ∈ k5S RX7 344 yX7_howManyThere cX7_howManyThere 3 (some .int), w ∈ TB := tb_ins (by decide +kernel)
theorem kw_X7_348 : ∀ w ∈ k5V RX7 348 yX7_howManyKept cX7_howManyKept 3 (some .int), w ∈ TB := tb_ins (by decide +kernel)
theorem kw_X7_351 : ∀ w ∈ k5V RX7 351 yX2_howManyLaced cX2_howManyLaced 3 (some .int), w ∈ TB := tb_ins (by decide +kernel)
theorem kw_X7_318 : ∀ w ∈ k5V RX7 318 yX7_tally cX7_tally 2 (some .int), w ∈ TB := tb_ins (by decide +kernel)
set_option maxHeartbeats 4000000 in
set_option maxRecDepth 100000 in
theorem c_X7_duel (G : GT) (l : Launch) (σ : Mem) (n : Int32) (hp : PO 33 σ) : CI G 74 (cX G) l yX7_duel ({ frames := 8, cells := 0, slots := 0, locals := 196 } : Room) cX7_duel 2 (some .int) [.ref (G.1 0), .int n] σ (fun (r : Int32) u => r = (k_duel σ n).1 ∧ u = (k_duel σ n).2) := by
  intro sz
  refine xbegin (by decide) (Nat.le_of_ble_eq_true rfl) ?_
  intro p e s m below meth c ls hsz ha hP hl
  subst hsz
  have hx := ha.1
  have hb := ha.2.1
  have hS : va_S (xA G 74 s.heap.size) s.heap s.heap [] := va_S.rf
  have hl : lv_has ls 2 [(0, .ref (G.1 0)), (1, .int n)] := hl
  have k_m4 : (-4 : Int32).toInt = -4 := by decide
  have k_m1 : (-1 : Int32).toInt = -1 := by decide
  have k_0 : (0 : Int32).toInt = 0 := by decide
  have k_4 : (4 : Int32).toInt = 4 := by decide
  have k_1000 : (1000 : Int32).toInt = 1000 := by decide
  refine lv_iload_n hx hb dX7_duel_0 rfl (lv_at hl 1 rfl) ?_
  refine lv_if_lt (tgt := 9) hx hb dX7_duel_1 (by decide) (fun c_1 => ?_) (fun c_1 => ?_)
  · have t_1 := i_lt c_1
    refine lv_iconst (v := (-1)) hx hb dX7_duel_9 (by decide) ?_
    exact xiret ha hP hS dX7_duel_10 ⟨by (try subst eo); (try subst eo2); simp [k_duel, c_1, i_leN, -Int32.not_lt], (by (try subst eo); (try subst eo2); simp [k_duel, c_1, i_leN, -Int32.not_lt])⟩ rfl
  · have t_1 := i_nlt c_1
    refine lv_iload_n hx hb dX7_duel_4 rfl (lv_at hl 1 rfl) ?_
    refine lv_iconst (v := 4) hx hb dX7_duel_5 (by decide) ?_
    refine lv_icmp_le (tgt := 11) hx hb dX7_duel_6 (by decide) (fun c_2 => ?_) (fun c_2 => ?_)
    · have t_2 := i_le c_2
      have u_2 := u_le c_2
      refine lv_aload_n hx hb dX7_duel_11 rfl (lv_at hl 0 rfl) ?_
      refine g7_21 ha hP 0 (by decide) (cX_0 G _) (v := .ref (G.1 33)) rfl dX7_duel_12 ?_
      refine xVi ha hP hS (y := yX2_isEmpty) (As := []) (rest := []) 33 (by decide) (cX_33 G _) rfl rfl (c_X2_isEmpty G l σ 33 (by unfold oPl; omega)) kw_X7_182 hd_X2_isEmpty rfl ⟨rfl, rfl⟩ ⟨Nat.le_of_ble_eq_true rfl, Nat.le_of_ble_eq_true rfl⟩ ⟨Nat.zero_le _, Nat.zero_le _⟩ hl.1 (Nat.le_of_ble_eq_true rfl) rfl dX7_duel_15 (fun r u H locs hpq hP hS => ?_)
      obtain ⟨hr_, hu_⟩ := hpq
      have hr_ := hr_.symm
      have hu_ := hu_.symm
      subst hr_
      subst hu_
      refine lv_if_eq (tgt := 24) hx hb dX7_duel_18 (by decide) (fun c_3 => ?_) (fun c_3 => ?_)
      · have t_3 := b2i_f c_3
        have f_3 := of_decide_eq_false t_3
        refine lv_aload_n hx hb dX7_duel_24 rfl (lv_at hl 0 rfl) ?_
        have hnI := ix_nI (show 0 ≤ n.toInt by omega)
        have hni := ix_toInt (show 0 ≤ n.toInt by omega)
        refine g7_68 ha hP 0 (by decide) (cX_0 G _) (v := .ref (G.1 67)) rfl dX7_duel_25 ?_
        refine lv_aload_n hx hb dX7_duel_28 rfl (lv_at hl 0 rfl) ?_
        refine g7_33 ha hP 0 (by decide) (cX_0 G _) (v := .ref (G.1 45)) rfl dX7_duel_29 ?_
        refine xVv ha hP hS (y := yX5_begin) (As := [.ref (G.1 45)]) (rest := []) 67 (by decide) (cX_67 G _) rfl rfl (c_X5_begin G l σ  hp) kw_X7_290 hd_X5_begin rfl ⟨rfl, rfl⟩ ⟨Nat.le_of_ble_eq_true rfl, Nat.le_of_ble_eq_true rfl⟩ ⟨Nat.zero_le _, Nat.zero_le _⟩ hl.1 (Nat.le_of_ble_eq_true rfl) rfl dX7_duel_32 (fun u H locs hpq hP hS => ?_)
        have hpq := hpq.symm
        subst hpq
        refine lv_aload_n hx hb dX7_duel_35 rfl (lv_at hl 0 rfl) ?_
        refine g7_68 ha hP 0 (by decide) (cX_0 G _) (v := .ref (G.1 67)) rfl dX7_duel_36 ?_
        refine lv_iload_n hx hb dX7_duel_39 rfl (lv_at hl 1 rfl) ?_
        refine lv_iconst (v := (-1)) hx hb dX7_duel_40 (by decide) ?_
        refine lv_sipush (v := 1000) hx hb dX7_duel_41 (by decide) ?_
        refine xNi ha hP hS (y := yX5_sendUp) (As := [.ref (G.1 67), .int n, .int (-1), .int 1000]) (rest := []) "PoleNave" (nb_in (by decide +kernel)) (show CI G 74 (cX G) l yX5_sendUp ({ frames := (ix n) + 3, cells := 0, slots := 0, locals := 26 * ((ix n)) + 66 } : Room) cX5_sendUp 7 (some .int) [.ref (G.1 67), .int n, .int (-1), .int 1000] (m_gBegin (vP σ 33) (vS σ 45) σ) (fun r u => r = g_val (vP σ 33) (ix n) true (m_gBegin (vP σ 33) (vS σ 45) σ) (-1) 1000 ∧ u = (m_gBegin (vP σ 33) (vS σ 45) σ)) from by have h := (c_X5_duel G l (vP σ 33) (ix n) (by omega)).1 (m_gBegin (vP σ 33) (vS σ 45) σ) (-1) 1000 (PO_eq hp (m_gBegin_n _ _ _ (by omega))) ((vP_eq fun q hq => (m_gBegin_n _ _ _ (by omega))).trans rfl); rw [← hnI] at h; exact h) kw_X7_291 hd_X5_sendUp rfl ⟨rfl, rfl⟩ ⟨by dsimp only; omega, by dsimp only; omega⟩ ⟨Nat.zero_le _, Nat.zero_le _⟩ hl.1 (Nat.le_of_ble_eq_true rfl) rfl dX7_duel_44 (fun r u H locs hpq hP hS => ?_)
        obtain ⟨hr_, hu_⟩ := hpq
        have hr_ := hr_.symm
        have hu_ := hu_.symm
        subst hr_
        subst hu_
        exact xiret ha hP hS dX7_duel_47 ⟨by (try subst eo); (try subst eo2); simp [k_duel, c_1, u_2, t_3, f_3, i_leN, -Int32.not_lt], (by (try subst eo); (try subst eo2); simp [k_duel, c_1, u_2, t_3, f_3, i_leN, -Int32.not_lt])⟩ rfl
      · have t_3 := b2i_t c_3
        have f_3 := of_decide_eq_true t_3
        refine lv_bipush (v := (-4)) hx hb dX7_duel_21 (by decide) ?_
        exact xiret ha hP hS dX7_duel_23 ⟨by (try subst eo); (try subst eo2); simp [k_duel, c_1, u_2, t_3, f_3, i_leN, -Int32.not_lt], (by (try subst eo); (try subst eo2); simp [k_duel, c_1, u_2, t_3, f_3, i_leN, -Int32.not_lt])⟩ rfl
    · have t_2 := i_nle c_2
      have u_2 := u_nle c_2
      refine lv_iconst (v := (-1)) hx hb dX7_duel_9 (by decide) ?_
      exact xiret ha hP hS dX7_duel_10 ⟨by (try subst eo); (try subst eo2); simp [k_duel, c_1, u_2, i_leN, -Int32.not_lt], (by (try subst eo); (try subst eo2); simp [k_duel, c_1, u_2, i_leN, -Int32.not_lt])⟩ rfl
set_option maxHeartbeats 4000000 in
set_option maxRecDepth 100000 in
theorem c_X7_tellTwelfths (G : GT) (l : Launch) (σ : Mem) (t : Int32)  : CI G 74 (cX G) l yX7_tellTwelfths ({ frames := 0, cells := 0, slots := 0, locals := 0 } : Room) cX7_tellTwelfths 3 (some .int) [.ref (G.1 0), .int t] σ (fun (r : Int32) u => r = 1 ∧ u = m_tw σ t) := by
  intro sz
  refine xbegin (by decide) (Nat.le_of_ble_eq_true rfl) ?_
  intro p e s m below meth c ls hsz ha hP hl
  subst hsz
  have hx := ha.1
  have hb := ha.2.1
  have hS : va_S (xA G 74 s.heap.size) s.heap s.heap [] := va_S.rf
  have hl : lv_has ls 3 [(0, .ref (G.1 0)), (1, .int t)] := hl
  have k_0 : (0 : Int32).toInt = 0 := by decide
  have k_1 : (1 : Int32).toInt = 1 := by decide
  have k_12 : (12 : Int32).toInt = 12 := by decide
  refine lv_bipush (v := 12) hx hb dX7_tellTwelfths_0 (by decide) ?_
  refine lv_istore_n (lv' := [(2, .int 12), (0, .ref (G.1 0)), (1, .int t)]) hx hb dX7_tellTwelfths_2 rfl hl (by decide) rfl (fun ls hl => ?_)
  have lp_3 : ∀ (d j : Nat) (x2 : Int32) (H : Heap) (locs : List Loc) (ls : Array Slot), j ≤ 11 → 11 - j < d → x2 = nI (12 - j) → (tw t 12 = tw t (12 - j)) → va_P G.2.1 vwCl (wl G 74 (cX G σ)) H → va_S (xA G 74 s.heap.size) s.heap H locs → lv_has ls 3 [(2, .int x2), (0, .ref (G.1 0)), (1, .int t)] → W p l e ({ frames := 0, cells := 0, slots := 0, locals := 0 } : Room) s m ([.ref (G.1 0), .int t] : List Value).toArray below meth c H locs 0 0 (MQ below (va_Qi (fun (r : Int32) u => r = 1 ∧ u = m_tw σ t) (xB G 74 (cX G)) (xA G 74 s.heap.size)) ([.ref (G.1 0), .int t] : List Value).toArray s 0 0 (xA G 74 s.heap.size)) (F0 m 3 ls []) := by
    intro d
    induction d with
    | zero => intro j x2 H locs ls hj hd; exact absurd hd (Nat.not_lt_zero _)
    | succ d ih_3 =>
      intro j x2 H locs ls hj_j hd_j e_x2 htw hP hS hl
      have h31_j : (nI j).toInt = (j : Int) := nI_toInt (by omega)
      have hx2 : x2.toInt = ((12 - j : Nat) : Int) := by rw [e_x2]; exact nI_toInt (by omega)
      refine lv_iload_n hx hb dX7_tellTwelfths_3 rfl (lv_at hl 0 rfl) ?_
      refine lv_iconst (v := 1) hx hb dX7_tellTwelfths_4 (by decide) ?_
      refine lv_icmp_le (tgt := 27) hx hb dX7_tellTwelfths_5 (by decide) (fun c_1 => ?_) (fun c_1 => ?_)
      · have t_1 := i_le c_1
        have u_1 := u_le c_1
        obtain rfl : j = 11 := by omega
        have hX : nI (tw t 12) = x2 := by rw [htw, e_x2]; simp [tw]
        refine lv_aload_n hx hb dX7_tellTwelfths_27 rfl (lv_at hl 1 rfl) ?_
        refine lv_iload_n hx hb dX7_tellTwelfths_28 rfl (lv_at hl 2 rfl) ?_
        refine lv_iload_n hx hb dX7_tellTwelfths_29 rfl (lv_at hl 0 rfl) ?_
        refine lv_idiv hx hb dX7_tellTwelfths_30 (i_nz (by omega)) ?_
        refine lv_i2l (v := (t / x2).toInt64) hx hb dX7_tellTwelfths_31 rfl ?_
        refine p7_315 ha hP hS (cX_loc G) 0 (by decide) (cX_0 G _) (x := (t / x2).toInt64) (Nat.le_of_ble_eq_true rfl) (mU σ 0 2 (t / x2)) (fun q hq => mU_n _ _ _ hq) (cX_p0_2 G _ _) dX7_tellTwelfths_32 (fun H locs hP hS => ?_)
        refine lv_aload_n hx hb dX7_tellTwelfths_35 rfl (lv_at hl 1 rfl) ?_
        refine lv_bipush (v := 12) hx hb dX7_tellTwelfths_36 (by decide) ?_
        refine lv_iload_n hx hb dX7_tellTwelfths_38 rfl (lv_at hl 0 rfl) ?_
        refine lv_idiv hx hb dX7_tellTwelfths_39 (i_nz (by omega)) ?_
        refine lv_i2l (v := (12 / x2).toInt64) hx hb dX7_tellTwelfths_40 rfl ?_
        refine p7_76 ha hP hS (cX_loc G) 0 (by decide) (cX_0 G _) (x := (12 / x2).toInt64) (Nat.le_of_ble_eq_true rfl) (mU (mU σ 0 2 (t / x2)) 0 3 (12 / x2)) (fun q hq => mU_n _ _ _ hq) (cX_p0_3 G _ _) dX7_tellTwelfths_41 (fun H locs hP hS => ?_)
        refine lv_iconst (v := 1) hx hb dX7_tellTwelfths_44 (by decide) ?_
        exact xiret ha hP hS dX7_tellTwelfths_45 ⟨by rfl, (by rw [m_tw, hX])⟩ rfl
      · have t_1 := i_nle c_1
        have u_1 := u_nle c_1
        have hlt_j : j < 11 := by omega
        refine lv_iload_n hx hb dX7_tellTwelfths_8 rfl (lv_at hl 2 rfl) ?_
        refine lv_iload_n hx hb dX7_tellTwelfths_9 rfl (lv_at hl 0 rfl) ?_
        refine lv_irem hx hb dX7_tellTwelfths_10 (i_nz (by omega)) ?_
        refine lv_if_ne (tgt := 21) hx hb dX7_tellTwelfths_11 (by decide) (fun c_2 => ?_) (fun c_2 => ?_)
        · have t_2 := i_ne c_2
          refine lv_iinc (v := (x2 + (-1))) (lv' := [(2, .int (x2 + (-1))), (0, .ref (G.1 0)), (1, .int t)]) hx hb dX7_tellTwelfths_21 hl (k := 0) rfl rfl (by decide) rfl (fun ls hl => ?_)
          refine lv_goto (tgt := 3) hx hb dX7_tellTwelfths_24 (by decide) ?_
          exact ih_3 (j + 1) (x2 + (-1)) _ _ _ (by omega) (by omega) (by rw [e_x2, show 12 - j = (12 - (j + 1)) + 1 by omega]; exact nI_dec _) (by obtain ⟨q, hq⟩ : ∃ q, 12 - j = q + 1 := ⟨11 - j, by omega⟩; rw [htw, hq, tw, if_neg (by omega), if_neg (by rw [← hq, ← e_x2]; intro h; first | exact absurd h.1 (by assumption) | exact absurd h.2 (by assumption)), show 12 - (j + 1) = q by omega]) hP hS (lv_sub hl [0, 1, 2] rfl)
        · have t_2 := i_eq c_2
          refine lv_bipush (v := 12) hx hb dX7_tellTwelfths_14 (by decide) ?_
          refine lv_iload_n hx hb dX7_tellTwelfths_16 rfl (lv_at hl 0 rfl) ?_
          refine lv_irem hx hb dX7_tellTwelfths_17 (i_nz (by omega)) ?_
          refine lv_if_eq (tgt := 27) hx hb dX7_tellTwelfths_18 (by decide) (fun c_3 => ?_) (fun c_3 => ?_)
          · have t_3 := i_eq c_3
            have hX : nI (tw t 12) = x2 := by obtain ⟨q, hq⟩ : ∃ q, 12 - j = q + 1 := ⟨11 - j, by omega⟩; rw [htw, hq, tw, if_neg (by omega), if_pos (by rw [← hq, ← e_x2]; exact ⟨by assumption, by assumption⟩), ← hq, e_x2]
            refine lv_aload_n hx hb dX7_tellTwelfths_27 rfl (lv_at hl 1 rfl) ?_
            refine lv_iload_n hx hb dX7_tellTwelfths_28 rfl (lv_at hl 2 rfl) ?_
            refine lv_iload_n hx hb dX7_tellTwelfths_29 rfl (lv_at hl 0 rfl) ?_
            refine lv_idiv hx hb dX7_tellTwelfths_30 (i_nz (by omega)) ?_
            refine lv_i2l (v := (t / x2).toInt64) hx hb dX7_tellTwelfths_31 rfl ?_
            refine p7_315 ha hP hS (cX_loc G) 0 (by decide) (cX_0 G _) (x := (t / x2).toInt64) (Nat.le_of_ble_eq_true rfl) (mU σ 0 2 (t / x2)) (fun q hq => mU_n _ _ _ hq) (cX_p0_2 G _ _) dX7_tellTwelfths_32 (fun H locs hP hS => ?_)
            refine lv_aload_n hx hb dX7_tellTwelfths_35 rfl (lv_at hl 1 rfl) ?_
            refine lv_bipush (v := 12) hx hb dX7_tellTwelfths_36 (by decide) ?_
            refine lv_iload_n hx hb dX7_tellTwelfths_38 rfl (lv_at hl 0 rfl) ?_
            refine lv_idiv hx hb dX7_tellTwelfths_39 (i_nz (by omega)) ?_
            refine lv_i2l (v := (12 / x2).toInt64) hx hb dX7_tellTwelfths_40 rfl ?_
            refine p7_76 ha hP hS (cX_loc G) 0 (by decide) (cX_0 G _) (x := (12 / x2).toInt64) (Nat.le_of_ble_eq_true rfl) (mU (mU σ 0 2 (t / x2)) 0 3 (12 / x2)) (fun q hq => mU_n _ _ _ hq) (cX_p0_3 G _ _) dX7_tellTwelfths_41 (fun H locs hP hS => ?_)
            refine lv_iconst (v := 1) hx hb dX7_tellTwelfths_44 (by decide) ?_
            exact xiret ha hP hS dX7_tellTwelfths_45 ⟨by rfl, (by rw [m_tw, hX])⟩ rfl
          · have t_3 := i_ne c_3
            refine lv_iinc (v := (x2 + (-1))) (lv' := [(2, .int (x2 + (-1))), (0, .ref (G.1 0)), (1, .int t)]) hx hb dX7_tellTwelfths_21 hl (k := 0) rfl rfl (by decide) rfl (fun ls hl => ?_)
            refine lv_goto (tgt := 3) hx hb dX7_tellTwelfths_24 (by decide) ?_
            exact ih_3 (j + 1) (x2 + (-1)) _ _ _ (by omega) (by omega) (by rw [e_x2, show 12 - j = (12 - (j + 1)) + 1 by omega]; exact nI_dec _) (by obtain ⟨q, hq⟩ : ∃ q, 12 - j = q + 1 := ⟨11 - j, by omega⟩; rw [htw, hq, tw, if_neg (by omega), if_neg (by rw [← hq, ← e_x2]; intro h; first | exact absurd h.1 (by assumption) | exact absurd h.2 (by assumption)), show 12 - (j + 1) = q by omega]) hP hS (lv_sub hl [0, 1, 2] rfl)
  exact lp_3 (11 - 0 + 1) 0 12 _ _ _ (by omega) (by omega) rfl rfl hP hS (lv_sub hl [0, 1, 2] rfl)
set_option maxHeartbeats 4000000 in
set_option maxRecDepth 100000 in
theorem c_X7_odds (G : GT) (l : Launch) (σ : Mem) (i : Int32) (pp : Int32) (hp : PO 33 σ) : CI G 74 (cX G) l yX7_odds ({ frames := 4, cells := 0, slots := 0, locals := 89 } : Room) cX7_odds 3 (some .int) [.ref (G.1 0), .int i, .int pp] σ (fun (r : Int32) u => r = (k_odds σ i pp).1 ∧ u = (k_odds σ i pp).2) := by
  intro sz
  refine xbegin (by decide) (Nat.le_of_ble_eq_true rfl) ?_
  intro p e s m below meth c ls hsz ha hP hl
  subst hsz
  have hx := ha.1
  have hb := ha.2.1
  have hS : va_S (xA G 74 s.heap.size) s.heap s.heap [] := va_S.rf
  have hl : lv_has ls 3 [(0, .ref (G.1 0)), (1, .int i), (2, .int pp)] := hl
  have k_m1 : (-1 : Int32).toInt = -1 := by decide
  have k_0 : (0 : Int32).toInt = 0 := by decide
  have k_12 : (12 : Int32).toInt = 12 := by decide
  refine lv_aload_n hx hb dX7_odds_0 rfl (lv_at hl 0 rfl) ?_
  refine g7_21 ha hP 0 (by decide) (cX_0 G _) (v := .ref (G.1 33)) rfl dX7_odds_1 ?_
  refine lv_iload_n hx hb dX7_odds_4 rfl (lv_at hl 1 rfl) ?_
  refine xVi ha hP hS (y := yX2_isOne) (As := [.int i]) (rest := []) 33 (by decide) (cX_33 G _) rfl rfl (c_X2_isOne G l σ 33 i (by unfold oPl; omega)) kw_X7_148 hd_X2_isOne rfl ⟨rfl, rfl⟩ ⟨Nat.le_of_ble_eq_true rfl, Nat.le_of_ble_eq_true rfl⟩ ⟨Nat.zero_le _, Nat.zero_le _⟩ hl.1 (Nat.le_of_ble_eq_true rfl) rfl dX7_odds_5 (fun r u H locs hpq hP hS => ?_)
  obtain ⟨hr_, hu_⟩ := hpq
  have hr_ := hr_.symm
  have hu_ := hu_.symm
  subst hr_
  subst hu_
  refine lv_if_eq (tgt := 21) hx hb dX7_odds_8 (by decide) (fun c_1 => ?_) (fun c_1 => ?_)
  · have t_1 := b2i_f c_1
    refine lv_iconst (v := (-1)) hx hb dX7_odds_21 (by decide) ?_
    exact xiret ha hP hS dX7_odds_22 ⟨by (try subst eo); (try subst eo2); simp [k_odds, t_1, i_leN, -Int32.not_lt], (by (try subst eo); (try subst eo2); simp [k_odds, t_1, i_leN, -Int32.not_lt])⟩ rfl
  · have t_1 := b2i_t c_1
    have f_1 := isOne_t t_1
    refine lv_iload_n hx hb dX7_odds_11 rfl (lv_at hl 2 rfl) ?_
    refine lv_if_lt (tgt := 21) hx hb dX7_odds_12 (by decide) (fun c_2 => ?_) (fun c_2 => ?_)
    · have t_2 := i_lt c_2
      refine lv_iconst (v := (-1)) hx hb dX7_odds_21 (by decide) ?_
      exact xiret ha hP hS dX7_odds_22 ⟨by (try subst eo); (try subst eo2); simp [k_odds, t_1, c_2, i_leN, -Int32.not_lt], (by (try subst eo); (try subst eo2); simp [k_odds, t_1, c_2, i_leN, -Int32.not_lt])⟩ rfl
    · have t_2 := i_nlt c_2
      refine lv_iload_n hx hb dX7_odds_15 rfl (lv_at hl 2 rfl) ?_
      refine lv_bipush (v := 12) hx hb dX7_odds_16 (by decide) ?_
      refine lv_icmp_le (tgt := 23) hx hb dX7_odds_18 (by decide) (fun c_3 => ?_) (fun c_3 => ?_)
      · have t_3 := i_le c_3
        have u_3 := u_le c_3
        refine lv_aload_n hx hb dX7_odds_23 rfl (lv_at hl 0 rfl) ?_
        refine lv_aload_n hx hb dX7_odds_24 rfl (lv_at hl 0 rfl) ?_
        refine g7_33 ha hP 0 (by decide) (cX_0 G _) (v := .ref (G.1 45)) rfl dX7_odds_25 ?_
        refine lv_aload_n hx hb dX7_odds_28 rfl (lv_at hl 0 rfl) ?_
        refine g7_33 ha hP 0 (by decide) (cX_0 G _) (v := .ref (G.1 45)) rfl dX7_odds_29 ?_
        refine g7_256 ha hP 45 (by decide) (cX_45 G _) (v := .ref (G.1 47)) rfl dX7_odds_32 ?_
        refine lv_iload_n hx hb dX7_odds_35 rfl (lv_at hl 1 rfl) ?_
        refine xialdN ha hP 47 (by decide) (cX_47 G _) (ix i) (ix_nI (by omega)) (ix_lt (by omega) (by omega)) (by decide) dX7_odds_36 ?_
        refine xVi ha hP hS (y := yX4_stands) (As := [.int (σ 47 (ix i))]) (rest := [.ref (G.1 0)]) 45 (by decide) (cX_45 G _) rfl rfl (c_X4_stands G l σ 45 (σ 47 (ix i)) (by unfold oSc; omega) hp) kw_X7_295 hd_X4_stands rfl ⟨rfl, rfl⟩ ⟨Nat.le_of_ble_eq_true rfl, Nat.le_of_ble_eq_true rfl⟩ ⟨Nat.zero_le _, Nat.zero_le _⟩ hl.1 (Nat.le_of_ble_eq_true rfl) rfl dX7_odds_37 (fun r u H locs hpq hP hS => ?_)
        obtain ⟨hr_, hu_⟩ := hpq
        have hr_ := hr_.symm
        have hu_ := hu_.symm
        subst hr_
        subst hu_
        have jn_4 : ∀ x_4 : Int32, x_4 = (if (a_stands (vP σ 33) (vS σ 45) (σ 47 (ix i))) = true then (12 - pp) else 0) → W p l e ({ frames := 4, cells := 0, slots := 0, locals := 89 } : Room) s m ([.ref (G.1 0), .int i, .int pp] : List Value).toArray below meth c H locs 0 0 (MQ below (va_Qi (fun (r : Int32) u => r = (k_odds σ i pp).1 ∧ u = (k_odds σ i pp).2) (xB G 74 (cX G)) (xA G 74 s.heap.size)) ([.ref (G.1 0), .int i, .int pp] : List Value).toArray s 0 0 (xA G 74 s.heap.size)) (F0 m 51 ls [.int x_4, .ref (G.1 0)]) := by
          intro x_4 ex_4
          refine xVi ha hP hS (y := yX7_tellTwelfths) (As := [.int x_4]) (rest := []) 0 (by decide) (cX_0 G _) rfl rfl (c_X7_tellTwelfths G l σ x_4 ) kw_X7_298 hd_X7_tellTwelfths rfl ⟨rfl, rfl⟩ ⟨Nat.le_of_ble_eq_true rfl, Nat.le_of_ble_eq_true rfl⟩ ⟨Nat.zero_le _, Nat.zero_le _⟩ hl.1 (Nat.le_of_ble_eq_true rfl) rfl dX7_odds_51 (fun r u H locs hpq hP hS => ?_)
          obtain ⟨hr_, hu_⟩ := hpq
          have hr_ := hr_.symm
          have hu_ := hu_.symm
          subst hr_
          subst hu_
          exact xiret ha hP hS dX7_odds_54 ⟨by (try subst eo); (try subst eo2); simp [k_odds, t_1, c_2, u_3, ex_4, i_leN, -Int32.not_lt], (by (try subst eo); (try subst eo2); simp [k_odds, t_1, c_2, u_3, ex_4, i_leN, -Int32.not_lt])⟩ rfl
        refine lv_if_eq (tgt := 50) hx hb dX7_odds_40 (by decide) (fun c_4 => ?_) (fun c_4 => ?_)
        · have t_4 := b2i_f c_4
          refine lv_iconst (v := 0) hx hb dX7_odds_50 (by decide) ?_
          exact jn_4 _ (if_neg (Bool.eq_false_iff.mp t_4)).symm
        · have t_4 := b2i_t c_4
          refine lv_bipush (v := 12) hx hb dX7_odds_43 (by decide) ?_
          refine lv_iload_n hx hb dX7_odds_45 rfl (lv_at hl 2 rfl) ?_
          refine lv_isub hx hb dX7_odds_46 ?_
          refine lv_goto (tgt := 51) hx hb dX7_odds_47 (by decide) ?_
          exact jn_4 _ (if_pos t_4).symm
      · have t_3 := i_nle c_3
        have u_3 := u_nle c_3
        refine lv_iconst (v := (-1)) hx hb dX7_odds_21 (by decide) ?_
        exact xiret ha hP hS dX7_odds_22 ⟨by (try subst eo); (try subst eo2); simp [k_odds, t_1, c_2, u_3, i_leN, -Int32.not_lt], (by (try subst eo); (try subst eo2); simp [k_odds, t_1, c_2, u_3, i_leN, -Int32.not_lt])⟩ rfl
set_option maxHeartbeats 4000000 in
set_option maxRecDepth 100000 in
theorem c_X7_mid (G : GT) (l : Launch) (σ : Mem) (pp : Int32) (hp : PO 33 σ) : CI G 74 (cX G) l yX7_mid ({ frames := 5, cells := 0, slots := 0, locals := 111 } : Room) cX7_mid 2 (some .int) [.ref (G.1 0), .int pp] σ (fun (r : Int32) u => r = (k_mid σ pp).1 ∧ u = (k_mid σ pp).2) := by
  intro sz
  refine xbegin (by decide) (Nat.le_of_ble_eq_true rfl) ?_
  intro p e s m below meth c ls hsz ha hP hl
  subst hsz
  have hx := ha.1
  have hb := ha.2.1
  have hS : va_S (xA G 74 s.heap.size) s.heap s.heap [] := va_S.rf
  have hl : lv_has ls 2 [(0, .ref (G.1 0)), (1, .int pp)] := hl
  have k_m4 : (-4 : Int32).toInt = -4 := by decide
  have k_m1 : (-1 : Int32).toInt = -1 := by decide
  have k_0 : (0 : Int32).toInt = 0 := by decide
  have k_12 : (12 : Int32).toInt = 12 := by decide
  refine lv_iload_n hx hb dX7_mid_0 rfl (lv_at hl 1 rfl) ?_
  refine lv_if_lt (tgt := 10) hx hb dX7_mid_1 (by decide) (fun c_1 => ?_) (fun c_1 => ?_)
  · have t_1 := i_lt c_1
    refine lv_iconst (v := (-1)) hx hb dX7_mid_10 (by decide) ?_
    exact xiret ha hP hS dX7_mid_11 ⟨by (try subst eo); (try subst eo2); simp [k_mid, c_1, i_leN, -Int32.not_lt], (by (try subst eo); (try subst eo2); simp [k_mid, c_1, i_leN, -Int32.not_lt])⟩ rfl
  · have t_1 := i_nlt c_1
    refine lv_iload_n hx hb dX7_mid_4 rfl (lv_at hl 1 rfl) ?_
    refine lv_bipush (v := 12) hx hb dX7_mid_5 (by decide) ?_
    refine lv_icmp_le (tgt := 12) hx hb dX7_mid_7 (by decide) (fun c_2 => ?_) (fun c_2 => ?_)
    · have t_2 := i_le c_2
      have u_2 := u_le c_2
      refine lv_aload_n hx hb dX7_mid_12 rfl (lv_at hl 0 rfl) ?_
      refine g7_21 ha hP 0 (by decide) (cX_0 G _) (v := .ref (G.1 33)) rfl dX7_mid_13 ?_
      refine xVi ha hP hS (y := yX2_isEmpty) (As := []) (rest := []) 33 (by decide) (cX_33 G _) rfl rfl (c_X2_isEmpty G l σ 33 (by unfold oPl; omega)) kw_X7_182 hd_X2_isEmpty rfl ⟨rfl, rfl⟩ ⟨Nat.le_of_ble_eq_true rfl, Nat.le_of_ble_eq_true rfl⟩ ⟨Nat.zero_le _, Nat.zero_le _⟩ hl.1 (Nat.le_of_ble_eq_true rfl) rfl dX7_mid_16 (fun r u H locs hpq hP hS => ?_)
      obtain ⟨hr_, hu_⟩ := hpq
      have hr_ := hr_.symm
      have hu_ := hu_.symm
      subst hr_
      subst hu_
      refine lv_if_eq (tgt := 27) hx hb dX7_mid_19 (by decide) (fun c_3 => ?_) (fun c_3 => ?_)
      · have t_3 := b2i_f c_3
        have f_3 := of_decide_eq_false t_3
        refine lv_aload_n hx hb dX7_mid_27 rfl (lv_at hl 0 rfl) ?_
        refine lv_aload_n hx hb dX7_mid_28 rfl (lv_at hl 0 rfl) ?_
        refine g7_33 ha hP 0 (by decide) (cX_0 G _) (v := .ref (G.1 45)) rfl dX7_mid_29 ?_
        refine xVi ha hP hS (y := yX4_highOfStanding) (As := []) (rest := [.ref (G.1 0)]) 45 (by decide) (cX_45 G _) rfl rfl (c_X4_highOfStanding G l σ 45 (by unfold oSc; omega) hp) kw_X7_301 hd_X4_highOfStanding rfl ⟨rfl, rfl⟩ ⟨Nat.le_of_ble_eq_true rfl, Nat.le_of_ble_eq_true rfl⟩ ⟨Nat.zero_le _, Nat.zero_le _⟩ hl.1 (Nat.le_of_ble_eq_true rfl) rfl dX7_mid_32 (fun r u H locs hpq hP hS => ?_)
        obtain ⟨hr_, hu_⟩ := hpq
        have hr_ := hr_.symm
        have hu_ := hu_.symm
        subst hr_
        subst hu_
        refine lv_bipush (v := 12) hx hb dX7_mid_35 (by decide) ?_
        refine lv_iload_n hx hb dX7_mid_37 rfl (lv_at hl 1 rfl) ?_
        refine lv_isub hx hb dX7_mid_38 ?_
        refine lv_imul hx hb dX7_mid_39 ?_
        refine xVi ha hP hS (y := yX7_tellTwelfths) (As := [.int ((a_highStanding (vP σ 33) (vS σ 45)) * (12 - pp))]) (rest := []) 0 (by decide) (cX_0 G _) rfl rfl (c_X7_tellTwelfths G l σ ((a_highStanding (vP σ 33) (vS σ 45)) * (12 - pp)) ) kw_X7_298 hd_X7_tellTwelfths rfl ⟨rfl, rfl⟩ ⟨Nat.le_of_ble_eq_true rfl, Nat.le_of_ble_eq_true rfl⟩ ⟨Nat.zero_le _, Nat.zero_le _⟩ hl.1 (Nat.le_of_ble_eq_true rfl) rfl dX7_mid_40 (fun r u H locs hpq hP hS => ?_)
        obtain ⟨hr_, hu_⟩ := hpq
        have hr_ := hr_.symm
        have hu_ := hu_.symm
        subst hr_
        subst hu_
        exact xiret ha hP hS dX7_mid_43 ⟨by (try subst eo); (try subst eo2); simp [k_mid, c_1, u_2, t_3, f_3, i_leN, -Int32.not_lt], (by (try subst eo); (try subst eo2); simp [k_mid, c_1, u_2, t_3, f_3, i_leN, -Int32.not_lt])⟩ rfl
      · have t_3 := b2i_t c_3
        have f_3 := of_decide_eq_true t_3
        refine lv_bipush (v := (-4)) hx hb dX7_mid_22 (by decide) ?_
        refine lv_goto (tgt := 43) hx hb dX7_mid_24 (by decide) ?_
        exact xiret ha hP hS dX7_mid_43 ⟨by (try subst eo); (try subst eo2); simp [k_mid, c_1, u_2, t_3, f_3, i_leN, -Int32.not_lt], (by (try subst eo); (try subst eo2); simp [k_mid, c_1, u_2, t_3, f_3, i_leN, -Int32.not_lt])⟩ rfl
    · have t_2 := i_nle c_2
      have u_2 := u_nle c_2
      refine lv_iconst (v := (-1)) hx hb dX7_mid_10 (by decide) ?_
      exact xiret ha hP hS dX7_mid_11 ⟨by (try subst eo); (try subst eo2); simp [k_mid, c_1, u_2, i_leN, -Int32.not_lt], (by (try subst eo); (try subst eo2); simp [k_mid, c_1, u_2, i_leN, -Int32.not_lt])⟩ rfl
set_option maxHeartbeats 4000000 in
set_option maxRecDepth 100000 in
theorem c_X7_deedByLot (G : GT) (l : Launch) (σ : Mem) (lot : Int32) (hp : PO 33 σ) : CI G 74 (cX G) l yX7_deedByLot ({ frames := 2, cells := 0, slots := 0, locals := 42 } : Room) cX7_deedByLot 4 (some .int) [.ref (G.1 0), .int lot] σ (fun (r : Int32) u => r = a_byLot σ lot ∧ u = σ) := by
  intro sz
  refine xbegin (by decide) (Nat.le_of_ble_eq_true rfl) ?_
  intro p e s m below meth c ls hsz ha hP hl
  subst hsz
  have hx := ha.1
  have hb := ha.2.1
  have hS : va_S (xA G 74 s.heap.size) s.heap s.heap [] := va_S.rf
  have hl : lv_has ls 4 [(0, .ref (G.1 0)), (1, .int lot)] := hl
  have k_0 : (0 : Int32).toInt = 0 := by decide
  have k_1 : (1 : Int32).toInt = 1 := by decide
  have k_3 : (3 : Int32).toInt = 3 := by decide
  have k_4 : (4 : Int32).toInt = 4 := by decide
  have k_8 : (8 : Int32).toInt = 8 := by decide
  have k_64 : (64 : Int32).toInt = 64 := by decide
  obtain ⟨hn, hn4, hnt⟩ := PO_pl hp
  obtain ⟨hm, hm4, hmt⟩ := PO_pe hp
  refine lv_iload_n hx hb dX7_deedByLot_0 rfl (lv_at hl 1 rfl) ?_
  refine lv_iconst (v := 3) hx hb dX7_deedByLot_1 (by decide) ?_
  refine lv_irem hx hb dX7_deedByLot_2 (by decide) ?_
  refine lv_if_eq (tgt := 28) hx hb dX7_deedByLot_3 (by decide) (fun c_1 => ?_) (fun c_1 => ?_)
  · have t_1 := i_eq c_1
    refine lv_iconst (v := 4) hx hb dX7_deedByLot_28 (by decide) ?_
    refine lv_iconst (v := 0) hx hb dX7_deedByLot_29 (by decide) ?_
    refine lv_iconst (v := 0) hx hb dX7_deedByLot_30 (by decide) ?_
    refine xSi ha hP hS (y := yX7_deed) (As := [.int 4, .int 0, .int 0]) (rest := []) rfl (c_X7_deed G l σ 4 0 0 ) kw_X7_175 hd_X7_deed rfl ⟨rfl, rfl⟩ ⟨Nat.le_of_ble_eq_true rfl, Nat.le_of_ble_eq_true rfl⟩ ⟨Nat.zero_le _, Nat.zero_le _⟩ hl.1 (Nat.le_of_ble_eq_true rfl) rfl dX7_deedByLot_31 (fun r u H locs hpq hP hS => ?_)
    obtain ⟨hr_, hu_⟩ := hpq
    have hr_ := hr_.symm
    have hu_ := hu_.symm
    subst hr_
    subst hu_
    exact xiret ha hP hS dX7_deedByLot_34 ⟨by simp [a_byLot, i_leN, c_1, -Int32.not_lt] <;> first | rfl | simp_all, rfl⟩ rfl
  · have t_1 := i_ne c_1
    refine lv_aload_n hx hb dX7_deedByLot_6 rfl (lv_at hl 0 rfl) ?_
    refine g7_21 ha hP 0 (by decide) (cX_0 G _) (v := .ref (G.1 33)) rfl dX7_deedByLot_7 ?_
    refine g7_236 ha hP 33 (by decide) (cX_33 G _) (v := .int (σ 33 1)) rfl dX7_deedByLot_10 ?_
    refine lv_iconst (v := 1) hx hb dX7_deedByLot_13 (by decide) ?_
    refine lv_icmp_lt (tgt := 28) hx hb dX7_deedByLot_14 (by decide) (fun c_2 => ?_) (fun c_2 => ?_)
    · have t_2 := i_lt c_2
      refine lv_iconst (v := 4) hx hb dX7_deedByLot_28 (by decide) ?_
      refine lv_iconst (v := 0) hx hb dX7_deedByLot_29 (by decide) ?_
      refine lv_iconst (v := 0) hx hb dX7_deedByLot_30 (by decide) ?_
      refine xSi ha hP hS (y := yX7_deed) (As := [.int 4, .int 0, .int 0]) (rest := []) rfl (c_X7_deed G l σ 4 0 0 ) kw_X7_175 hd_X7_deed rfl ⟨rfl, rfl⟩ ⟨Nat.le_of_ble_eq_true rfl, Nat.le_of_ble_eq_true rfl⟩ ⟨Nat.zero_le _, Nat.zero_le _⟩ hl.1 (Nat.le_of_ble_eq_true rfl) rfl dX7_deedByLot_31 (fun r u H locs hpq hP hS => ?_)
      obtain ⟨hr_, hu_⟩ := hpq
      have hr_ := hr_.symm
      have hu_ := hu_.symm
      subst hr_
      subst hu_
      exact xiret ha hP hS dX7_deedByLot_34 ⟨by simp [a_byLot, i_leN, c_1, c_2, -Int32.not_lt] <;> first | rfl | simp_all, rfl⟩ rfl
    · have t_2 := i_nlt c_2
      refine lv_aload_n hx hb dX7_deedByLot_17 rfl (lv_at hl 0 rfl) ?_
      refine g7_21 ha hP 0 (by decide) (cX_0 G _) (v := .ref (G.1 33)) rfl dX7_deedByLot_18 ?_
      refine g7_137 ha hP 33 (by decide) (cX_33 G _) (v := .int (σ 33 0)) rfl dX7_deedByLot_21 ?_
      refine lv_iconst (v := 1) hx hb dX7_deedByLot_24 (by decide) ?_
      refine lv_icmp_ge (tgt := 35) hx hb dX7_deedByLot_25 (by decide) (fun c_3 => ?_) (fun c_3 => ?_)
      · have t_3 := i_le c_3
        have u_3 := u_le c_3
        refine lv_iload_n hx hb dX7_deedByLot_35 rfl (lv_at hl 1 rfl) ?_
        refine lv_bipush (v := 8) hx hb dX7_deedByLot_36 (by decide) ?_
        refine lv_idiv hx hb dX7_deedByLot_38 (by decide) ?_
        refine lv_aload_n hx hb dX7_deedByLot_39 rfl (lv_at hl 0 rfl) ?_
        refine g7_21 ha hP 0 (by decide) (cX_0 G _) (v := .ref (G.1 33)) rfl dX7_deedByLot_40 ?_
        refine g7_236 ha hP 33 (by decide) (cX_33 G _) (v := .int (σ 33 1)) rfl dX7_deedByLot_43 ?_
        refine lv_irem hx hb dX7_deedByLot_46 (i_nz (by omega)) ?_
        refine lv_istore_n (lv' := [(2, .int ((lot / 8) - (lot / 8) / (σ 33 1) * (σ 33 1))), (0, .ref (G.1 0)), (1, .int lot)]) hx hb dX7_deedByLot_47 rfl hl (by decide) rfl (fun ls hl => ?_)
        refine lv_iload_n hx hb dX7_deedByLot_48 rfl (lv_at hl 2 rfl) ?_
        refine lv_bipush (v := 64) hx hb dX7_deedByLot_49 (by decide) ?_
        refine lv_idiv hx hb dX7_deedByLot_51 (by decide) ?_
        refine lv_aload_n hx hb dX7_deedByLot_52 rfl (lv_at hl 1 rfl) ?_
        refine g7_21 ha hP 0 (by decide) (cX_0 G _) (v := .ref (G.1 33)) rfl dX7_deedByLot_53 ?_
        refine g7_137 ha hP 33 (by decide) (cX_33 G _) (v := .int (σ 33 0)) rfl dX7_deedByLot_56 ?_
        refine lv_irem hx hb dX7_deedByLot_59 (i_nz (by omega)) ?_
        refine lv_istore_n (lv' := [(3, .int ((lot / 64) - (lot / 64) / (σ 33 0) * (σ 33 0))), (2, .int ((lot / 8) - (lot / 8) / (σ 33 1) * (σ 33 1))), (0, .ref (G.1 0)), (1, .int lot)]) hx hb dX7_deedByLot_60 rfl hl (by decide) rfl (fun ls hl => ?_)
        refine lv_aload_n hx hb dX7_deedByLot_61 rfl (lv_at hl 2 rfl) ?_
        refine g7_33 ha hP 0 (by decide) (cX_0 G _) (v := .ref (G.1 45)) rfl dX7_deedByLot_62 ?_
        refine lv_iload_n hx hb dX7_deedByLot_65 rfl (lv_at hl 1 rfl) ?_
        refine xVi ha hP hS (y := yX4_isSeated) (As := [.int ((lot / 8) - (lot / 8) / (σ 33 1) * (σ 33 1))]) (rest := []) 45 (by decide) (cX_45 G _) rfl rfl (c_X4_isSeated G l σ 45 ((lot / 8) - (lot / 8) / (σ 33 1) * (σ 33 1)) (by unfold oSc; omega)) kw_X7_169 hd_X4_isSeated rfl ⟨rfl, rfl⟩ ⟨Nat.le_of_ble_eq_true rfl, Nat.le_of_ble_eq_true rfl⟩ ⟨Nat.zero_le _, Nat.zero_le _⟩ hl.1 (Nat.le_of_ble_eq_true rfl) rfl dX7_deedByLot_66 (fun r u H locs hpq hP hS => ?_)
        obtain ⟨hr_, hu_⟩ := hpq
        have hr_ := hr_.symm
        have hu_ := hu_.symm
        subst hr_
        subst hu_
        refine lv_if_eq (tgt := 79) hx hb dX7_deedByLot_69 (by decide) (fun c_4 => ?_) (fun c_4 => ?_)
        · have t_4 := b2i_f c_4
          refine lv_aload_n hx hb dX7_deedByLot_79 rfl (lv_at hl 2 rfl) ?_
          refine g7_33 ha hP 0 (by decide) (cX_0 G _) (v := .ref (G.1 45)) rfl dX7_deedByLot_80 ?_
          refine lv_iload_n hx hb dX7_deedByLot_83 rfl (lv_at hl 0 rfl) ?_
          refine xVi ha hP hS (y := yX4_isUp) (As := [.int ((lot / 64) - (lot / 64) / (σ 33 0) * (σ 33 0))]) (rest := []) 45 (by decide) (cX_45 G _) rfl rfl (c_X4_isUp G l σ 45 ((lot / 64) - (lot / 64) / (σ 33 0) * (σ 33 0)) (by unfold oSc; omega)) kw_X7_172 hd_X4_isUp rfl ⟨rfl, rfl⟩ ⟨Nat.le_of_ble_eq_true rfl, Nat.le_of_ble_eq_true rfl⟩ ⟨Nat.zero_le _, Nat.zero_le _⟩ hl.1 (Nat.le_of_ble_eq_true rfl) rfl dX7_deedByLot_84 (fun r u H locs hpq hP hS => ?_)
          obtain ⟨hr_, hu_⟩ := hpq
          have hr_ := hr_.symm
          have hu_ := hu_.symm
          subst hr_
          subst hu_
          refine lv_if_eq (tgt := 99) hx hb dX7_deedByLot_87 (by decide) (fun c_5 => ?_) (fun c_5 => ?_)
          · have t_5 := b2i_f c_5
            refine lv_iconst (v := 3) hx hb dX7_deedByLot_99 (by decide) ?_
            refine lv_iconst (v := 0) hx hb dX7_deedByLot_100 (by decide) ?_
            refine lv_iconst (v := 0) hx hb dX7_deedByLot_101 (by decide) ?_
            refine xSi ha hP hS (y := yX7_deed) (As := [.int 3, .int 0, .int 0]) (rest := []) rfl (c_X7_deed G l σ 3 0 0 ) kw_X7_175 hd_X7_deed rfl ⟨rfl, rfl⟩ ⟨Nat.le_of_ble_eq_true rfl, Nat.le_of_ble_eq_true rfl⟩ ⟨Nat.zero_le _, Nat.zero_le _⟩ hl.1 (Nat.le_of_ble_eq_true rfl) rfl dX7_deedByLot_102 (fun r u H locs hpq hP hS => ?_)
            obtain ⟨hr_, hu_⟩ := hpq
            have hr_ := hr_.symm
            have hu_ := hu_.symm
            subst hr_
            subst hu_
            exact xiret ha hP hS dX7_deedByLot_105 ⟨by simp [a_byLot, i_leN, c_1, c_2, u_3, t_4, t_5, -Int32.not_lt] <;> first | rfl | simp_all, rfl⟩ rfl
          · have t_5 := b2i_t c_5
            refine lv_iconst (v := 0) hx hb dX7_deedByLot_90 (by decide) ?_
            refine lv_iload_n hx hb dX7_deedByLot_91 rfl (lv_at hl 1 rfl) ?_
            refine lv_iload_n hx hb dX7_deedByLot_92 rfl (lv_at hl 0 rfl) ?_
            refine xSi ha hP hS (y := yX7_deed) (As := [.int 0, .int ((lot / 8) - (lot / 8) / (σ 33 1) * (σ 33 1)), .int ((lot / 64) - (lot / 64) / (σ 33 0) * (σ 33 0))]) (rest := []) rfl (c_X7_deed G l σ 0 ((lot / 8) - (lot / 8) / (σ 33 1) * (σ 33 1)) ((lot / 64) - (lot / 64) / (σ 33 0) * (σ 33 0)) ) kw_X7_175 hd_X7_deed rfl ⟨rfl, rfl⟩ ⟨Nat.le_of_ble_eq_true rfl, Nat.le_of_ble_eq_true rfl⟩ ⟨Nat.zero_le _, Nat.zero_le _⟩ hl.1 (Nat.le_of_ble_eq_true rfl) rfl dX7_deedByLot_93 (fun r u H locs hpq hP hS => ?_)
            obtain ⟨hr_, hu_⟩ := hpq
            have hr_ := hr_.symm
            have hu_ := hu_.symm
            subst hr_
            subst hu_
            refine lv_goto (tgt := 105) hx hb dX7_deedByLot_96 (by decide) ?_
            exact xiret ha hP hS dX7_deedByLot_105 ⟨by simp [a_byLot, i_leN, c_1, c_2, u_3, t_4, t_5, -Int32.not_lt] <;> first | rfl | simp_all, rfl⟩ rfl
        · have t_4 := b2i_t c_4
          refine lv_iconst (v := 1) hx hb dX7_deedByLot_72 (by decide) ?_
          refine lv_iload_n hx hb dX7_deedByLot_73 rfl (lv_at hl 1 rfl) ?_
          refine lv_iconst (v := 0) hx hb dX7_deedByLot_74 (by decide) ?_
          refine xSi ha hP hS (y := yX7_deed) (As := [.int 1, .int ((lot / 8) - (lot / 8) / (σ 33 1) * (σ 33 1)), .int 0]) (rest := []) rfl (c_X7_deed G l σ 1 ((lot / 8) - (lot / 8) / (σ 33 1) * (σ 33 1)) 0 ) kw_X7_175 hd_X7_deed rfl ⟨rfl, rfl⟩ ⟨Nat.le_of_ble_eq_true rfl, Nat.le_of_ble_eq_true rfl⟩ ⟨Nat.zero_le _, Nat.zero_le _⟩ hl.1 (Nat.le_of_ble_eq_true rfl) rfl dX7_deedByLot_75 (fun r u H locs hpq hP hS => ?_)
          obtain ⟨hr_, hu_⟩ := hpq
          have hr_ := hr_.symm
          have hu_ := hu_.symm
          subst hr_
          subst hu_
          exact xiret ha hP hS dX7_deedByLot_78 ⟨by simp [a_byLot, i_leN, c_1, c_2, u_3, t_4, -Int32.not_lt] <;> first | rfl | simp_all, rfl⟩ rfl
      · have t_3 := i_nle c_3
        have u_3 := u_nle c_3
        refine lv_iconst (v := 4) hx hb dX7_deedByLot_28 (by decide) ?_
        refine lv_iconst (v := 0) hx hb dX7_deedByLot_29 (by decide) ?_
        refine lv_iconst (v := 0) hx hb dX7_deedByLot_30 (by decide) ?_
        refine xSi ha hP hS (y := yX7_deed) (As := [.int 4, .int 0, .int 0]) (rest := []) rfl (c_X7_deed G l σ 4 0 0 ) kw_X7_175 hd_X7_deed rfl ⟨rfl, rfl⟩ ⟨Nat.le_of_ble_eq_true rfl, Nat.le_of_ble_eq_true rfl⟩ ⟨Nat.zero_le _, Nat.zero_le _⟩ hl.1 (Nat.le_of_ble_eq_true rfl) rfl dX7_deedByLot_31 (fun r u H locs hpq hP hS => ?_)
        obtain ⟨hr_, hu_⟩ := hpq
        have hr_ := hr_.symm
        have hu_ := hu_.symm
        subst hr_
        subst hu_
        exact xiret ha hP hS dX7_deedByLot_34 ⟨by simp [a_byLot, i_leN, c_1, c_2, u_3, -Int32.not_lt] <;> first | rfl | simp_all, rfl⟩ rfl
set_option maxHeartbeats 4000000 in
set_option maxRecDepth 100000 in
theorem c_X7_lots (G : GT) (l : Launch) (σ : Mem) (n : Int32) (seed : Int32) (hp : PO 33 σ) : CI G 74 (cX G) l yX7_lots ({ frames := 6, cells := 0, slots := 0, locals := 135 } : Room) cX7_lots 6 (some .int) [.ref (G.1 0), .int n, .int seed] σ (fun (r : Int32) u => r = (k_lots σ n seed).1 ∧ u = (k_lots σ n seed).2) := by
  intro sz
  refine xbegin (by decide) (Nat.le_of_ble_eq_true rfl) ?_
  intro p e s m below meth c ls hsz ha hP hl
  subst hsz
  have hx := ha.1
  have hb := ha.2.1
  have hS : va_S (xA G 74 s.heap.size) s.heap s.heap [] := va_S.rf
  have hl : lv_has ls 6 [(0, .ref (G.1 0)), (1, .int n), (2, .int seed)] := hl
  have k_m4 : (-4 : Int32).toInt = -4 := by decide
  have k_m2 : (-2 : Int32).toInt = -2 := by decide
  have k_m1 : (-1 : Int32).toInt = -1 := by decide
  have k_0 : (0 : Int32).toInt = 0 := by decide
  have k_1 : (1 : Int32).toInt = 1 := by decide
  have k_20 : (20 : Int32).toInt = 20 := by decide
  have k_40 : (40 : Int32).toInt = 40 := by decide
  have k_2147483646 : (2147483646 : Int32).toInt = 2147483646 := by decide
  refine lv_iload_n hx hb dX7_lots_0 rfl (lv_at hl 1 rfl) ?_
  refine lv_iconst (v := 1) hx hb dX7_lots_1 (by decide) ?_
  refine lv_icmp_lt (tgt := 23) hx hb dX7_lots_2 (by decide) (fun c_1 => ?_) (fun c_1 => ?_)
  · have t_1 := i_lt c_1
    refine lv_iconst (v := (-1)) hx hb dX7_lots_23 (by decide) ?_
    exact xiret ha hP hS dX7_lots_24 ⟨by (try subst eo); (try subst eo2); simp [k_lots, c_1, i_leN, -Int32.not_lt], (by (try subst eo); (try subst eo2); simp [k_lots, c_1, i_leN, -Int32.not_lt])⟩ rfl
  · have t_1 := i_nlt c_1
    refine lv_iload_n hx hb dX7_lots_5 rfl (lv_at hl 1 rfl) ?_
    refine lv_bipush (v := 20) hx hb dX7_lots_6 (by decide) ?_
    refine lv_icmp_gt (tgt := 23) hx hb dX7_lots_8 (by decide) (fun c_2 => ?_) (fun c_2 => ?_)
    · have t_2 := i_lt c_2
      refine lv_iconst (v := (-1)) hx hb dX7_lots_23 (by decide) ?_
      exact xiret ha hP hS dX7_lots_24 ⟨by (try subst eo); (try subst eo2); simp [k_lots, c_1, c_2, i_leN, -Int32.not_lt], (by (try subst eo); (try subst eo2); simp [k_lots, c_1, c_2, i_leN, -Int32.not_lt])⟩ rfl
    · have t_2 := i_nlt c_2
      refine lv_iload_n hx hb dX7_lots_11 rfl (lv_at hl 2 rfl) ?_
      refine lv_iconst (v := 1) hx hb dX7_lots_12 (by decide) ?_
      refine lv_icmp_lt (tgt := 23) hx hb dX7_lots_13 (by decide) (fun c_3 => ?_) (fun c_3 => ?_)
      · have t_3 := i_lt c_3
        refine lv_iconst (v := (-1)) hx hb dX7_lots_23 (by decide) ?_
        exact xiret ha hP hS dX7_lots_24 ⟨by (try subst eo); (try subst eo2); simp [k_lots, c_1, c_2, c_3, i_leN, -Int32.not_lt], (by (try subst eo); (try subst eo2); simp [k_lots, c_1, c_2, c_3, i_leN, -Int32.not_lt])⟩ rfl
      · have t_3 := i_nlt c_3
        refine lv_iload_n hx hb dX7_lots_16 rfl (lv_at hl 2 rfl) ?_
        refine lv_ldcw (v := 2147483646) hx hb ha.2.2.2.1 (ha.2.2.2.2.1 _ (tb_in (w := .constant RX7 304 2147483646) (by decide +kernel))) dX7_lots_17 ?_
        refine lv_icmp_le (tgt := 25) hx hb dX7_lots_20 (by decide) (fun c_4 => ?_) (fun c_4 => ?_)
        · have t_4 := i_le c_4
          have u_4 := u_le c_4
          refine lv_aload_n hx hb dX7_lots_25 rfl (lv_at hl 0 rfl) ?_
          refine g7_21 ha hP 0 (by decide) (cX_0 G _) (v := .ref (G.1 33)) rfl dX7_lots_26 ?_
          refine xVi ha hP hS (y := yX2_isEmpty) (As := []) (rest := []) 33 (by decide) (cX_33 G _) rfl rfl (c_X2_isEmpty G l σ 33 (by unfold oPl; omega)) kw_X7_182 hd_X2_isEmpty rfl ⟨rfl, rfl⟩ ⟨Nat.le_of_ble_eq_true rfl, Nat.le_of_ble_eq_true rfl⟩ ⟨Nat.zero_le _, Nat.zero_le _⟩ hl.1 (Nat.le_of_ble_eq_true rfl) rfl dX7_lots_29 (fun r u H locs hpq hP hS => ?_)
          obtain ⟨hr_, hu_⟩ := hpq
          have hr_ := hr_.symm
          have hu_ := hu_.symm
          subst hr_
          subst hu_
          refine lv_if_eq (tgt := 38) hx hb dX7_lots_32 (by decide) (fun c_5 => ?_) (fun c_5 => ?_)
          · have t_5 := b2i_f c_5
            have f_5 := of_decide_eq_false t_5
            refine lv_aload_n hx hb dX7_lots_38 rfl (lv_at hl 0 rfl) ?_
            refine g7_43 ha hP 0 (by decide) (cX_0 G _) (v := .ref (G.1 25)) rfl dX7_lots_39 ?_
            refine g7_81 ha hP 25 (by decide) (cX_25 G _) (v := .int (σ 25 0)) rfl dX7_lots_42 ?_
            refine lv_iload_n hx hb dX7_lots_45 rfl (lv_at hl 1 rfl) ?_
            refine lv_iadd hx hb dX7_lots_46 ?_
            refine lv_bipush (v := 40) hx hb dX7_lots_47 (by decide) ?_
            refine lv_icmp_le (tgt := 55) hx hb dX7_lots_49 (by decide) (fun c_6 => ?_) (fun c_6 => ?_)
            · have t_6 := i_le c_6
              have u_6 := u_le c_6
              refine lv_iload_n hx hb dX7_lots_55 rfl (lv_at hl 2 rfl) ?_
              refine lv_i2l (v := seed.toInt64) hx hb dX7_lots_56 rfl ?_
              refine lv_lstore_n (lv' := [(3, .long seed.toInt64), (0, .ref (G.1 0)), (1, .int n), (2, .int seed)]) hx hb dX7_lots_57 rfl hl (by decide) rfl (fun ls hl => ?_)
              have hni := ix_toInt (show 0 ≤ n.toInt by omega)
              refine lv_iconst (v := 0) hx hb dX7_lots_58 (by decide) ?_
              refine lv_istore (lv' := [(5, .int 0), (3, .long seed.toInt64), (0, .ref (G.1 0)), (1, .int n), (2, .int seed)]) hx hb dX7_lots_59 hl (by decide) rfl (fun ls hl => ?_)
              have lp_61 : ∀ (d j : Nat) (x3 : Int64) (τj : Mem) (H : Heap) (locs : List Loc) (ls : Array Slot), j ≤ (ix n) → (ix n) - j < d → x3 = lotN seed.toInt64 j → τj = m_lots σ seed.toInt64 j → (PO 33 τj) → va_P G.2.1 vwCl (wl G 74 (cX G τj)) H → va_S (xA G 74 s.heap.size) s.heap H locs → lv_has ls 6 [(5, .int (nI j)), (3, .long x3), (0, .ref (G.1 0)), (1, .int n), (2, .int seed)] → W p l e ({ frames := 6, cells := 0, slots := 0, locals := 135 } : Room) s m ([.ref (G.1 0), .int n, .int seed] : List Value).toArray below meth c H locs 0 0 (MQ below (va_Qi (fun (r : Int32) u => r = (k_lots σ n seed).1 ∧ u = (k_lots σ n seed).2) (xB G 74 (cX G)) (xA G 74 s.heap.size)) ([.ref (G.1 0), .int n, .int seed] : List Value).toArray s 0 0 (xA G 74 s.heap.size)) (F0 m 61 ls []) := by
                intro d
                induction d with
                | zero => intro j x3 τj H locs ls hj hd; exact absurd hd (Nat.not_lt_zero _)
                | succ d ih_61 =>
                  intro j x3 τj H locs ls hj_j hd_j e_x3 e_τj hpj hP hS hl
                  have h31_j : (nI j).toInt = (j : Int) := nI_toInt (by omega)
                  have hni := ix_toInt (show 0 ≤ n.toInt by omega)
                  refine lv_iload hx hb dX7_lots_61 (lv_at hl 0 rfl) ?_
                  refine lv_iload_n hx hb dX7_lots_63 rfl (lv_at hl 3 rfl) ?_
                  refine lv_icmp_ge (tgt := 94) hx hb dX7_lots_64 (by decide) (fun c_7 => ?_) (fun c_7 => ?_)
                  · have t_7 := i_le c_7
                    have u_7 := u_le c_7
                    obtain rfl : j = (ix n) := by omega
                    refine lv_aload_n hx hb dX7_lots_94 rfl (lv_at hl 2 rfl) ?_
                    refine g7_33 ha hP 0 (by decide) (cX_0 G _) (v := .ref (G.1 45)) rfl dX7_lots_95 ?_
                    refine xVi ha hP hS (y := yX4_highOfAll) (As := []) (rest := []) 45 (by decide) (cX_45 G _) rfl rfl (c_X4_highOfAll G l τj 45 (by unfold oSc; omega) hpj) kw_X7_224 hd_X4_highOfAll rfl ⟨rfl, rfl⟩ ⟨Nat.le_of_ble_eq_true rfl, Nat.le_of_ble_eq_true rfl⟩ ⟨Nat.zero_le _, Nat.zero_le _⟩ hl.1 (Nat.le_of_ble_eq_true rfl) rfl dX7_lots_98 (fun r u H locs hpq hP hS => ?_)
                    obtain ⟨hr_, hu_⟩ := hpq
                    have hr_ := hr_.symm
                    have hu_ := hu_.symm
                    subst hr_
                    subst hu_
                    exact xiret ha hP hS dX7_lots_101 ⟨by rw [e_τj, show vP (m_lots σ seed.toInt64 (ix n)) 33 = vP σ 33 from vP_eq fun q hq => m_lots_n _ _ (by omega) _]; simp [k_lots, c_1, c_2, c_3, u_4, t_5, f_5, u_6, u_7, i_leN, -Int32.not_lt], (by rw [e_τj]; simp [k_lots, c_1, c_2, c_3, u_4, t_5, f_5, u_6, u_7, i_leN, -Int32.not_lt])⟩ rfl
                  · have t_7 := i_nle c_7
                    have u_7 := u_nle c_7
                    have hlt_j : j < (ix n) := by omega
                    refine lv_lload_n hx hb dX7_lots_67 rfl (lv_at hl 1 rfl) ?_
                    refine lv_ldc2 (v := 48271) hx hb ha.2.2.2.1 (ha.2.2.2.2.1 _ (tb_in (w := .constantLong RX7 305 48271) (by decide +kernel))) dX7_lots_68 ?_
                    refine lv_lmul hx hb dX7_lots_71 ?_
                    refine lv_ldc2 (v := 2147483647) hx hb ha.2.2.2.1 (ha.2.2.2.2.1 _ (tb_in (w := .constantLong RX7 307 2147483647) (by decide +kernel))) dX7_lots_72 ?_
                    refine lv_lrem hx hb dX7_lots_75 (by decide) ?_
                    refine lv_lstore_n (lv' := [(3, .long ((x3 * 48271) - (x3 * 48271) / 2147483647 * 2147483647)), (5, .int (nI j)), (0, .ref (G.1 0)), (1, .int n), (2, .int seed)]) hx hb dX7_lots_76 rfl hl (by decide) rfl (fun ls hl => ?_)
                    refine lv_aload_n hx hb dX7_lots_77 rfl (lv_at hl 2 rfl) ?_
                    refine lv_aload_n hx hb dX7_lots_78 rfl (lv_at hl 2 rfl) ?_
                    refine lv_lload_n hx hb dX7_lots_79 rfl (lv_at hl 0 rfl) ?_
                    refine lv_l2i (v := ((x3 * 48271) - (x3 * 48271) / 2147483647 * 2147483647).toInt32) hx hb dX7_lots_80 rfl ?_
                    refine xVi ha hP hS (y := yX7_deedByLot) (As := [.int (((x3 * 48271) - (x3 * 48271) / 2147483647 * 2147483647).toInt32)]) (rest := [.ref (G.1 0)]) 0 (by decide) (cX_0 G _) rfl rfl (c_X7_deedByLot G l τj (((x3 * 48271) - (x3 * 48271) / 2147483647 * 2147483647).toInt32) hpj) kw_X7_309 hd_X7_deedByLot rfl ⟨rfl, rfl⟩ ⟨Nat.le_of_ble_eq_true rfl, Nat.le_of_ble_eq_true rfl⟩ ⟨Nat.zero_le _, Nat.zero_le _⟩ hl.1 (Nat.le_of_ble_eq_true rfl) rfl dX7_lots_81 (fun r u H locs hpq hP hS => ?_)
                    obtain ⟨hr_, hu_⟩ := hpq
                    have hr_ := hr_.symm
                    have hu_ := hu_.symm
                    subst hr_
                    subst hu_
                    refine xVi ha hP hS (y := yX7_perform) (As := [.int (a_byLot τj (((x3 * 48271) - (x3 * 48271) / 2147483647 * 2147483647).toInt32))]) (rest := []) 0 (by decide) (cX_0 G _) rfl rfl (c_X7_perform G l τj (a_byLot τj (((x3 * 48271) - (x3 * 48271) / 2147483647 * 2147483647).toInt32)) hpj) kw_X7_179 hd_X7_perform rfl ⟨rfl, rfl⟩ ⟨Nat.le_of_ble_eq_true rfl, Nat.le_of_ble_eq_true rfl⟩ ⟨Nat.zero_le _, Nat.zero_le _⟩ hl.1 (Nat.le_of_ble_eq_true rfl) rfl dX7_lots_84 (fun r u H locs hpq hP hS => ?_)
                    obtain ⟨hr_, hu_⟩ := hpq
                    have hr_ := hr_.symm
                    have hu_ := hu_.symm
                    subst hr_
                    subst hu_
                    refine lv_pop hx hb dX7_lots_87 rfl ?_
                    refine lv_iinc (v := (nI (j + 1))) (lv' := [(5, .int (nI (j + 1))), (3, .long ((x3 * 48271) - (x3 * 48271) / 2147483647 * 2147483647)), (0, .ref (G.1 0)), (1, .int n), (2, .int seed)]) hx hb dX7_lots_88 hl (k := 1) rfl (nI_1 j) (by decide) rfl (fun ls hl => ?_)
                    refine lv_goto (tgt := 61) hx hb dX7_lots_91 (by decide) ?_
                    exact ih_61 (j + 1) ((x3 * 48271) - (x3 * 48271) / 2147483647 * 2147483647) ((k_do τj (a_byLot τj (((x3 * 48271) - (x3 * 48271) / 2147483647 * 2147483647).toInt32))).2) _ _ _ (by omega) (by omega) (by rw [e_x3]; rfl) (by rw [e_τj, e_x3]; rfl) (PO_eq hpj (k_do_n _ _ (by omega) (by omega) (by omega) (by omega) (by omega))) hP hS (lv_sub hl [0, 1, 2, 3, 4] rfl)
              exact lp_61 ((ix n) - 0 + 1) 0 seed.toInt64 σ _ _ _ (by omega) (by omega) rfl rfl hp hP hS (lv_sub hl [0, 1, 2, 3, 4] rfl)
            · have t_6 := i_nle c_6
              have u_6 := u_nle c_6
              refine lv_bipush (v := (-2)) hx hb dX7_lots_52 (by decide) ?_
              exact xiret ha hP hS dX7_lots_54 ⟨by (try subst eo); (try subst eo2); simp [k_lots, c_1, c_2, c_3, u_4, t_5, f_5, u_6, i_leN, -Int32.not_lt], (by (try subst eo); (try subst eo2); simp [k_lots, c_1, c_2, c_3, u_4, t_5, f_5, u_6, i_leN, -Int32.not_lt])⟩ rfl
          · have t_5 := b2i_t c_5
            have f_5 := of_decide_eq_true t_5
            refine lv_bipush (v := (-4)) hx hb dX7_lots_35 (by decide) ?_
            exact xiret ha hP hS dX7_lots_37 ⟨by (try subst eo); (try subst eo2); simp [k_lots, c_1, c_2, c_3, u_4, t_5, f_5, i_leN, -Int32.not_lt], (by (try subst eo); (try subst eo2); simp [k_lots, c_1, c_2, c_3, u_4, t_5, f_5, i_leN, -Int32.not_lt])⟩ rfl
        · have t_4 := i_nle c_4
          have u_4 := u_nle c_4
          refine lv_iconst (v := (-1)) hx hb dX7_lots_23 (by decide) ?_
          exact xiret ha hP hS dX7_lots_24 ⟨by (try subst eo); (try subst eo2); simp [k_lots, c_1, c_2, c_3, u_4, i_leN, -Int32.not_lt], (by (try subst eo); (try subst eo2); simp [k_lots, c_1, c_2, c_3, u_4, i_leN, -Int32.not_lt])⟩ rfl
set_option maxHeartbeats 4000000 in
set_option maxRecDepth 100000 in
theorem c_X7_asked (G : GT) (l : Launch) (σ : Mem)   : CI G 74 (cX G) l yX7_asked ({ frames := 0, cells := 0, slots := 0, locals := 0 } : Room) cX7_asked 1 (some .int) [.ref (G.1 0)] σ (fun (r : Int32) u => r = σ 0 1 ∧ u = σ) := by
  intro sz
  refine xbegin (by decide) (Nat.le_of_ble_eq_true rfl) ?_
  intro p e s m below meth c ls hsz ha hP hl
  subst hsz
  have hx := ha.1
  have hb := ha.2.1
  have hS : va_S (xA G 74 s.heap.size) s.heap s.heap [] := va_S.rf
  have hl : lv_has ls 1 [(0, .ref (G.1 0))] := hl
  have k_0 : (0 : Int32).toInt = 0 := by decide
  refine lv_aload_n hx hb dX7_asked_0 rfl (lv_at hl 0 rfl) ?_
  refine g7_312 ha hP 0 (by decide) (cX_0 G _) (v := .int (σ 0 1)) rfl dX7_asked_1 ?_
  exact xiret ha hP hS dX7_asked_4 ⟨by rfl, rfl⟩ rfl
set_option maxHeartbeats 4000000 in
set_option maxRecDepth 100000 in
theorem c_X7_upper (G : GT) (l : Launch) (σ : Mem)   : CL G 74 (cX G) l yX7_upper ({ frames := 0, cells := 0, slots := 0, locals := 0 } : Room) cX7_upper 1 (some .long) [.ref (G.1 0)] σ (fun (r : Int64) u => r = (σ 0 2).toInt64 ∧ u = σ) := by
  intro sz
  refine xbegin (by decide) (Nat.le_of_ble_eq_true rfl) ?_
  intro p e s m below meth c ls hsz ha hP hl
  subst hsz
  have hx := ha.1
  have hb := ha.2.1
  have hS : va_S (xA G 74 s.heap.size) s.heap s.heap [] := va_S.rf
  have hl : lv_has ls 1 [(0, .ref (G.1 0))] := hl
  have k_0 : (0 : Int32).toInt = 0 := by decide
  refine lv_aload_n hx hb dX7_upper_0 rfl (lv_at hl 0 rfl) ?_
  refine g7_315 ha hP 0 (by decide) (cX_0 G _) (v := .long ((σ 0 2).toInt64)) rfl dX7_upper_1 ?_
  exact xlret ha hP hS dX7_upper_4 ⟨by rfl, rfl⟩ rfl
set_option maxHeartbeats 4000000 in
set_option maxRecDepth 100000 in
theorem c_X7_lower (G : GT) (l : Launch) (σ : Mem)   : CL G 74 (cX G) l yX7_lower ({ frames := 0, cells := 0, slots := 0, locals := 0 } : Room) cX7_lower 1 (some .long) [.ref (G.1 0)] σ (fun (r : Int64) u => r = (σ 0 3).toInt64 ∧ u = σ) := by
  intro sz
  refine xbegin (by decide) (Nat.le_of_ble_eq_true rfl) ?_
  intro p e s m below meth c ls hsz ha hP hl
  subst hsz
  have hx := ha.1
  have hb := ha.2.1
  have hS : va_S (xA G 74 s.heap.size) s.heap s.heap [] := va_S.rf
  have hl : lv_has ls 1 [(0, .ref (G.1 0))] := hl
  have k_0 : (0 : Int32).toInt = 0 := by decide
  refine lv_aload_n hx hb dX7_lower_0 rfl (lv_at hl 0 rfl) ?_
  refine g7_76 ha hP 0 (by decide) (cX_0 G _) (v := .long ((σ 0 3).toInt64)) rfl dX7_lower_1 ?_
  exact xlret ha hP hS dX7_lower_4 ⟨by rfl, rfl⟩ rfl
set_option maxHeartbeats 4000000 in
set_option maxRecDepth 100000 in
theorem c_X7_howManyKept (G : GT) (l : Launch) (σ : Mem)   : CI G 74 (cX G) l yX7_howManyKept ({ frames := 0, cells := 0, slots := 0, locals := 0 } : Room) cX7_howManyKept 3 (some .int) [.ref (G.1 0)] σ (fun (r : Int32) u => r = a_manyKept σ ∧ u = σ) := by
  intro sz
  refine xbegin (by decide) (Nat.le_of_ble_eq_true rfl) ?_
  intro p e s m below meth c ls hsz ha hP hl
  subst hsz
  have hx := ha.1
  have hb := ha.2.1
  have hS : va_S (xA G 74 s.heap.size) s.heap s.heap [] := va_S.rf
  have hl : lv_has ls 3 [(0, .ref (G.1 0))] := hl
  have k_m1 : (-1 : Int32).toInt = -1 := by decide
  have k_0 : (0 : Int32).toInt = 0 := by decide
  have k_1 : (1 : Int32).toInt = 1 := by decide
  have k_3 : (3 : Int32).toInt = 3 := by decide
  have k_4 : (4 : Int32).toInt = 4 := by decide
  have k_5 : (5 : Int32).toInt = 5 := by decide
  have k_6 : (6 : Int32).toInt = 6 := by decide
  have k_40 : (40 : Int32).toInt = 40 := by decide
  have k_60 : (60 : Int32).toInt = 60 := by decide
  refine lv_iconst (v := 0) hx hb dX7_howManyKept_0 (by decide) ?_
  refine lv_istore_n (lv' := [(1, .int 0), (0, .ref (G.1 0))]) hx hb dX7_howManyKept_1 rfl hl (by decide) rfl (fun ls hl => ?_)
  refine lv_iconst (v := 0) hx hb dX7_howManyKept_2 (by decide) ?_
  refine lv_istore_n (lv' := [(2, .int 0), (1, .int 0), (0, .ref (G.1 0))]) hx hb dX7_howManyKept_3 rfl hl (by decide) rfl (fun ls hl => ?_)
  have lp_4 : ∀ (d j : Nat) (x1 : Int32) (H : Heap) (locs : List Loc) (ls : Array Slot), j ≤ 3 → 3 - j < d → x1 = a_sum (fun j => if σ (27 + 2 * j) 0 = -1 then 0 else 1) j → va_P G.2.1 vwCl (wl G 74 (cX G σ)) H → va_S (xA G 74 s.heap.size) s.heap H locs → lv_has ls 3 [(2, .int (nI j)), (1, .int x1), (0, .ref (G.1 0))] → W p l e ({ frames := 0, cells := 0, slots := 0, locals := 0 } : Room) s m ([.ref (G.1 0)] : List Value).toArray below meth c H locs 0 0 (MQ below (va_Qi (fun (r : Int32) u => r = a_manyKept σ ∧ u = σ) (xB G 74 (cX G)) (xA G 74 s.heap.size)) ([.ref (G.1 0)] : List Value).toArray s 0 0 (xA G 74 s.heap.size)) (F0 m 4 ls []) := by
    intro d
    induction d with
    | zero => intro j x1 H locs ls hj hd; exact absurd hd (Nat.not_lt_zero _)
    | succ d ih_4 =>
      intro j x1 H locs ls hj_j hd_j e_x1 hP hS hl
      have h31_j : (nI j).toInt = (j : Int) := nI_toInt (by omega)
      refine lv_iload_n hx hb dX7_howManyKept_4 rfl (lv_at hl 0 rfl) ?_
      refine lv_aload_n hx hb dX7_howManyKept_5 rfl (lv_at hl 2 rfl) ?_
      refine g7_47 ha hP 0 (by decide) (cX_0 G _) (v := .ref (G.1 3)) rfl dX7_howManyKept_6 ?_
      refine xalen ha hP 3 (by decide) 2 (cX_3 G _) rfl (v := 3) rfl dX7_howManyKept_9 ?_
      refine lv_icmp_ge (tgt := 40) hx hb dX7_howManyKept_10 (by decide) (fun c_1 => ?_) (fun c_1 => ?_)
      · have t_1 := i_le c_1
        have u_1 := u_le c_1
        obtain rfl : j = 3 := by omega
        refine lv_iload_n hx hb dX7_howManyKept_40 rfl (lv_at hl 1 rfl) ?_
        exact xiret ha hP hS dX7_howManyKept_41 ⟨by simp [a_manyKept, i_leN, e_x1, u_1, -Int32.not_lt] <;> first | rfl | simp_all, rfl⟩ rfl
      · have t_1 := i_nle c_1
        have u_1 := u_nle c_1
        have hlt_j : j < 3 := by omega
        refine lv_iload_n hx hb dX7_howManyKept_13 rfl (lv_at hl 1 rfl) ?_
        refine lv_aload_n hx hb dX7_howManyKept_14 rfl (lv_at hl 2 rfl) ?_
        refine g7_47 ha hP 0 (by decide) (cX_0 G _) (v := .ref (G.1 3)) rfl dX7_howManyKept_15 ?_
        refine lv_iload_n hx hb dX7_howManyKept_18 rfl (lv_at hl 0 rfl) ?_
        refine xaald ha hP 3 (by decide) 2 (cX_3 G _) rfl rfl j rfl (by omega) (by decide) (q := G.1 (27 + 2 * j)) rfl dX7_howManyKept_19 ?_
        refine g7_81 ha hP (27 + 2 * j) (oDd_lt0 (show oDd (27 + 2 * j) by unfold oDd; omega)) (sDd (show oDd (27 + 2 * j) by unfold oDd; omega)) (v := .int (σ (27 + 2 * j) 0)) rfl dX7_howManyKept_20 ?_
        refine lv_iconst (v := (-1)) hx hb dX7_howManyKept_23 (by decide) ?_
        have jn_2 : ∀ x_2 : Int32, x_2 = (if (σ (27 + 2 * j) 0) = (-1) then 0 else 1) → W p l e ({ frames := 0, cells := 0, slots := 0, locals := 0 } : Room) s m ([.ref (G.1 0)] : List Value).toArray below meth c H locs 0 0 (MQ below (va_Qi (fun (r : Int32) u => r = a_manyKept σ ∧ u = σ) (xB G 74 (cX G)) (xA G 74 s.heap.size)) ([.ref (G.1 0)] : List Value).toArray s 0 0 (xA G 74 s.heap.size)) (F0 m 32 ls [.int x_2, .int x1]) := by
          intro x_2 ex_2
          refine lv_iadd hx hb dX7_howManyKept_32 ?_
          refine lv_istore_n (lv' := [(1, .int (x1 + x_2)), (2, .int (nI j)), (0, .ref (G.1 0))]) hx hb dX7_howManyKept_33 rfl hl (by decide) rfl (fun ls hl => ?_)
          refine lv_iinc (v := (nI (j + 1))) (lv' := [(2, .int (nI (j + 1))), (1, .int (x1 + x_2)), (0, .ref (G.1 0))]) hx hb dX7_howManyKept_34 hl (k := 1) rfl (nI_1 j) (by decide) rfl (fun ls hl => ?_)
          refine lv_goto (tgt := 4) hx hb dX7_howManyKept_37 (by decide) ?_
          exact ih_4 (j + 1) (x1 + x_2) _ _ _ (by omega) (by omega) (by simp [a_sum, i_leN, e_x1, u_1, ex_2, -Int32.not_lt] <;> first | rfl | simp_all) hP hS (lv_sub hl [0, 1, 2] rfl)
        refine lv_icmp_ne (tgt := 31) hx hb dX7_howManyKept_24 (by decide) (fun c_2 => ?_) (fun c_2 => ?_)
        · have t_2 := i_ne c_2
          refine lv_iconst (v := 1) hx hb dX7_howManyKept_31 (by decide) ?_
          exact jn_2 _ (if_neg c_2).symm
        · have t_2 := i_eq c_2
          refine lv_iconst (v := 0) hx hb dX7_howManyKept_27 (by decide) ?_
          refine lv_goto (tgt := 32) hx hb dX7_howManyKept_28 (by decide) ?_
          exact jn_2 _ (if_pos c_2).symm
  exact lp_4 (3 - 0 + 1) 0 0 _ _ _ (by omega) (by omega) (by first | rfl | simp [a_sum, i_leN, -Int32.not_lt] <;> first | rfl | simp_all) hP hS (lv_sub hl [0, 1, 2] rfl)
set_option maxHeartbeats 4000000 in
set_option maxRecDepth 100000 in
theorem c_X7_howManyThere_1 (G : GT) (l : Launch) (σ : Mem)   : CI G 74 (cX G) l yX7_howManyThere ({ frames := 1, cells := 0, slots := 0, locals := 20 } : Room) cX7_howManyThere 3 (some .int) [.ref (G.1 1)] σ (fun (r : Int32) u => r = a_manyThere σ 5 6 ∧ u = σ) := by
  intro sz
  refine xbegin (by decide) (Nat.le_of_ble_eq_true rfl) ?_
  intro p e s m below meth c ls hsz ha hP hl
  subst hsz
  have hx := ha.1
  have hb := ha.2.1
  have hS : va_S (xA G 74 s.heap.size) s.heap s.heap [] := va_S.rf
  have hl : lv_has ls 3 [(0, .ref (G.1 1))] := hl
  have k_0 : (0 : Int32).toInt = 0 := by decide
  have k_1 : (1 : Int32).toInt = 1 := by decide
  have k_3 : (3 : Int32).toInt = 3 := by decide
  have k_4 : (4 : Int32).toInt = 4 := by decide
  have k_5 : (5 : Int32).toInt = 5 := by decide
  have k_6 : (6 : Int32).toInt = 6 := by decide
  have k_40 : (40 : Int32).toInt = 40 := by decide
  have k_60 : (60 : Int32).toInt = 60 := by decide
  refine lv_iconst (v := 0) hx hb dX7_howManyThere_0 (by decide) ?_
  refine lv_istore_n (lv' := [(1, .int 0), (0, .ref (G.1 1))]) hx hb dX7_howManyThere_1 rfl hl (by decide) rfl (fun ls hl => ?_)
  refine lv_iconst (v := 0) hx hb dX7_howManyThere_2 (by decide) ?_
  refine lv_istore_n (lv' := [(2, .int 0), (1, .int 0), (0, .ref (G.1 1))]) hx hb dX7_howManyThere_3 rfl hl (by decide) rfl (fun ls hl => ?_)
  have lp_4 : ∀ (d j : Nat) (x1 : Int32) (H : Heap) (locs : List Loc) (ls : Array Slot), j ≤ 6 → 6 - j < d → x1 = a_sum (fun j => if σ (5 + 2 * j) 0 < 0 then 0 else 1) j → va_P G.2.1 vwCl (wl G 74 (cX G σ)) H → va_S (xA G 74 s.heap.size) s.heap H locs → lv_has ls 3 [(2, .int (nI j)), (1, .int x1), (0, .ref (G.1 1))] → W p l e ({ frames := 1, cells := 0, slots := 0, locals := 20 } : Room) s m ([.ref (G.1 1)] : List Value).toArray below meth c H locs 0 0 (MQ below (va_Qi (fun (r : Int32) u => r = a_manyThere σ 5 6 ∧ u = σ) (xB G 74 (cX G)) (xA G 74 s.heap.size)) ([.ref (G.1 1)] : List Value).toArray s 0 0 (xA G 74 s.heap.size)) (F0 m 4 ls []) := by
    intro d
    induction d with
    | zero => intro j x1 H locs ls hj hd; exact absurd hd (Nat.not_lt_zero _)
    | succ d ih_4 =>
      intro j x1 H locs ls hj_j hd_j e_x1 hP hS hl
      have h31_j : (nI j).toInt = (j : Int) := nI_toInt (by omega)
      refine lv_iload_n hx hb dX7_howManyThere_4 rfl (lv_at hl 0 rfl) ?_
      refine lv_aload_n hx hb dX7_howManyThere_5 rfl (lv_at hl 2 rfl) ?_
      refine xalen ha hP 1 (by decide) 1 (cX_1 G _) rfl (v := 6) rfl dX7_howManyThere_6 ?_
      refine lv_icmp_ge (tgt := 33) hx hb dX7_howManyThere_7 (by decide) (fun c_1 => ?_) (fun c_1 => ?_)
      · have t_1 := i_le c_1
        have u_1 := u_le c_1
        obtain rfl : j = 6 := by omega
        refine lv_iload_n hx hb dX7_howManyThere_33 rfl (lv_at hl 1 rfl) ?_
        exact xiret ha hP hS dX7_howManyThere_34 ⟨by simp [a_manyThere, i_leN, e_x1, u_1, -Int32.not_lt] <;> first | rfl | simp_all, rfl⟩ rfl
      · have t_1 := i_nle c_1
        have u_1 := u_nle c_1
        have hlt_j : j < 6 := by omega
        refine lv_iload_n hx hb dX7_howManyThere_10 rfl (lv_at hl 1 rfl) ?_
        refine lv_aload_n hx hb dX7_howManyThere_11 rfl (lv_at hl 2 rfl) ?_
        refine lv_iload_n hx hb dX7_howManyThere_12 rfl (lv_at hl 0 rfl) ?_
        refine xaald ha hP 1 (by decide) 1 (cX_1 G _) rfl rfl j rfl (by omega) (by decide) (q := G.1 (5 + 2 * j)) rfl dX7_howManyThere_13 ?_
        refine xVi ha hP hS (y := yX3_isMissing) (As := []) (rest := [.int x1]) (5 + 2 * j) (oRow_lt0 (show oRow (5 + 2 * j) by unfold oRow; omega)) (sRow (show oRow (5 + 2 * j) by unfold oRow; omega)) rfl rfl (c_X3_isMissing G l σ (5 + 2 * j) (by unfold oRow; omega)) kw_X7_110 hd_X3_isMissing rfl ⟨rfl, rfl⟩ ⟨Nat.le_of_ble_eq_true rfl, Nat.le_of_ble_eq_true rfl⟩ ⟨Nat.zero_le _, Nat.zero_le _⟩ hl.1 (Nat.le_of_ble_eq_true rfl) rfl dX7_howManyThere_14 (fun r u H locs hpq hP hS => ?_)
        obtain ⟨hr_, hu_⟩ := hpq
        have hr_ := hr_.symm
        have hu_ := hu_.symm
        subst hr_
        subst hu_
        have jn_2 : ∀ x_2 : Int32, x_2 = (if (decide (σ (5 + 2 * j) 0 < 0)) = true then 0 else 1) → W p l e ({ frames := 1, cells := 0, slots := 0, locals := 20 } : Room) s m ([.ref (G.1 1)] : List Value).toArray below meth c H locs 0 0 (MQ below (va_Qi (fun (r : Int32) u => r = a_manyThere σ 5 6 ∧ u = σ) (xB G 74 (cX G)) (xA G 74 s.heap.size)) ([.ref (G.1 1)] : List Value).toArray s 0 0 (xA G 74 s.heap.size)) (F0 m 25 ls [.int x_2, .int x1]) := by
          intro x_2 ex_2
          refine lv_iadd hx hb dX7_howManyThere_25 ?_
          refine lv_istore_n (lv' := [(1, .int (x1 + x_2)), (2, .int (nI j)), (0, .ref (G.1 1))]) hx hb dX7_howManyThere_26 rfl hl (by decide) rfl (fun ls hl => ?_)
          refine lv_iinc (v := (nI (j + 1))) (lv' := [(2, .int (nI (j + 1))), (1, .int (x1 + x_2)), (0, .ref (G.1 1))]) hx hb dX7_howManyThere_27 hl (k := 1) rfl (nI_1 j) (by decide) rfl (fun ls hl => ?_)
          refine lv_goto (tgt := 4) hx hb dX7_howManyThere_30 (by decide) ?_
          exact ih_4 (j + 1) (x1 + x_2) _ _ _ (by omega) (by omega) (by simp [a_sum, i_leN, e_x1, u_1, ex_2, -Int32.not_lt] <;> first | rfl | simp_all) hP hS (lv_sub hl [0, 1, 2] rfl)
        refine lv_if_eq (tgt := 24) hx hb dX7_howManyThere_17 (by decide) (fun c_2 => ?_) (fun c_2 => ?_)
        · have t_2 := b2i_f c_2
          have f_2 := of_decide_eq_false t_2
          refine lv_iconst (v := 1) hx hb dX7_howManyThere_24 (by decide) ?_
          exact jn_2 _ (if_neg (Bool.eq_false_iff.mp t_2)).symm
        · have t_2 := b2i_t c_2
          have f_2 := of_decide_eq_true t_2
          refine lv_iconst (v := 0) hx hb dX7_howManyThere_20 (by decide) ?_
          refine lv_goto (tgt := 25) hx hb dX7_howManyThere_21 (by decide) ?_
          exact jn_2 _ (if_pos t_2).symm
  exact lp_4 (6 - 0 + 1) 0 0 _ _ _ (by omega) (by omega) (by first | rfl | simp [a_sum, i_leN, -Int32.not_lt] <;> first | rfl | simp_all) hP hS (lv_sub hl [0, 1, 2] rfl)
set_option maxHeartbeats 4000000 in
set_option maxRecDepth 100000 in
theorem c_X7_howManyThere_2 (G : GT) (l : Launch) (σ : Mem)   : CI G 74 (cX G) l yX7_howManyThere ({ frames := 1, cells := 0, slots := 0, locals := 20 } : Room) cX7_howManyThere 3 (some .int) [.ref (G.1 2)] σ (fun (r : Int32) u => r = a_manyThere σ 17 4 ∧ u = σ) := by
  intro sz
  refine xbegin (by decide) (Nat.le_of_ble_eq_true rfl) ?_
  intro p e s m below meth c ls hsz ha hP hl
  subst hsz
  have hx := ha.1
  have hb := ha.2.1
  have hS : va_S (xA G 74 s.heap.size) s.heap s.heap [] := va_S.rf
  have hl : lv_has ls 3 [(0, .ref (G.1 2))] := hl
  have k_0 : (0 : Int32).toInt = 0 := by decide
  have k_1 : (1 : Int32).toInt = 1 := by decide
  have k_3 : (3 : Int32).toInt = 3 := by decide
  have k_4 : (4 : Int32).toInt = 4 := by decide
  have k_5 : (5 : Int32).toInt = 5 := by decide
  have k_6 : (6 : Int32).toInt = 6 := by decide
  have k_40 : (40 : Int32).toInt = 40 := by decide
  have k_60 : (60 : Int32).toInt = 60 := by decide
  refine lv_iconst (v := 0) hx hb dX7_howManyThere_0 (by decide) ?_
  refine lv_istore_n (lv' := [(1, .int 0), (0, .ref (G.1 2))]) hx hb dX7_howManyThere_1 rfl hl (by decide) rfl (fun ls hl => ?_)
  refine lv_iconst (v := 0) hx hb dX7_howManyThere_2 (by decide) ?_
  refine lv_istore_n (lv' := [(2, .int 0), (1, .int 0), (0, .ref (G.1 2))]) hx hb dX7_howManyThere_3 rfl hl (by decide) rfl (fun ls hl => ?_)
  have lp_4 : ∀ (d j : Nat) (x1 : Int32) (H : Heap) (locs : List Loc) (ls : Array Slot), j ≤ 4 → 4 - j < d → x1 = a_sum (fun j => if σ (17 + 2 * j) 0 < 0 then 0 else 1) j → va_P G.2.1 vwCl (wl G 74 (cX G σ)) H → va_S (xA G 74 s.heap.size) s.heap H locs → lv_has ls 3 [(2, .int (nI j)), (1, .int x1), (0, .ref (G.1 2))] → W p l e ({ frames := 1, cells := 0, slots := 0, locals := 20 } : Room) s m ([.ref (G.1 2)] : List Value).toArray below meth c H locs 0 0 (MQ below (va_Qi (fun (r : Int32) u => r = a_manyThere σ 17 4 ∧ u = σ) (xB G 74 (cX G)) (xA G 74 s.heap.size)) ([.ref (G.1 2)] : List Value).toArray s 0 0 (xA G 74 s.heap.size)) (F0 m 4 ls []) := by
    intro d
    induction d with
    | zero => intro j x1 H locs ls hj hd; exact absurd hd (Nat.not_lt_zero _)
    | succ d ih_4 =>
      intro j x1 H locs ls hj_j hd_j e_x1 hP hS hl
      have h31_j : (nI j).toInt = (j : Int) := nI_toInt (by omega)
      refine lv_iload_n hx hb dX7_howManyThere_4 rfl (lv_at hl 0 rfl) ?_
      refine lv_aload_n hx hb dX7_howManyThere_5 rfl (lv_at hl 2 rfl) ?_
      refine xalen ha hP 2 (by decide) 1 (cX_2 G _) rfl (v := 4) rfl dX7_howManyThere_6 ?_
      refine lv_icmp_ge (tgt := 33) hx hb dX7_howManyThere_7 (by decide) (fun c_1 => ?_) (fun c_1 => ?_)
      · have t_1 := i_le c_1
        have u_1 := u_le c_1
        obtain rfl : j = 4 := by omega
        refine lv_iload_n hx hb dX7_howManyThere_33 rfl (lv_at hl 1 rfl) ?_
        exact xiret ha hP hS dX7_howManyThere_34 ⟨by simp [a_manyThere, i_leN, e_x1, u_1, -Int32.not_lt] <;> first | rfl | simp_all, rfl⟩ rfl
      · have t_1 := i_nle c_1
        have u_1 := u_nle c_1
        have hlt_j : j < 4 := by omega
        refine lv_iload_n hx hb dX7_howManyThere_10 rfl (lv_at hl 1 rfl) ?_
        refine lv_aload_n hx hb dX7_howManyThere_11 rfl (lv_at hl 2 rfl) ?_
        refine lv_iload_n hx hb dX7_howManyThere_12 rfl (lv_at hl 0 rfl) ?_
        refine xaald ha hP 2 (by decide) 1 (cX_2 G _) rfl rfl j rfl (by omega) (by decide) (q := G.1 (17 + 2 * j)) rfl dX7_howManyThere_13 ?_
        refine xVi ha hP hS (y := yX3_isMissing) (As := []) (rest := [.int x1]) (17 + 2 * j) (oRow_lt0 (show oRow (17 + 2 * j) by unfold oRow; omega)) (sRow (show oRow (17 + 2 * j) by unfold oRow; omega)) rfl rfl (c_X3_isMissing G l σ (17 + 2 * j) (by unfold oRow; omega)) kw_X7_110 hd_X3_isMissing rfl ⟨rfl, rfl⟩ ⟨Nat.le_of_ble_eq_true rfl, Nat.le_of_ble_eq_true rfl⟩ ⟨Nat.zero_le _, Nat.zero_le _⟩ hl.1 (Nat.le_of_ble_eq_true rfl) rfl dX7_howManyThere_14 (fun r u H locs hpq hP hS => ?_)
        obtain ⟨hr_, hu_⟩ := hpq
        have hr_ := hr_.symm
        have hu_ := hu_.symm
        subst hr_
        subst hu_
        have jn_2 : ∀ x_2 : Int32, x_2 = (if (decide (σ (17 + 2 * j) 0 < 0)) = true then 0 else 1) → W p l e ({ frames := 1, cells := 0, slots := 0, locals := 20 } : Room) s m ([.ref (G.1 2)] : List Value).toArray below meth c H locs 0 0 (MQ below (va_Qi (fun (r : Int32) u => r = a_manyThere σ 17 4 ∧ u = σ) (xB G 74 (cX G)) (xA G 74 s.heap.size)) ([.ref (G.1 2)] : List Value).toArray s 0 0 (xA G 74 s.heap.size)) (F0 m 25 ls [.int x_2, .int x1]) := by
          intro x_2 ex_2
          refine lv_iadd hx hb dX7_howManyThere_25 ?_
          refine lv_istore_n (lv' := [(1, .int (x1 + x_2)), (2, .int (nI j)), (0, .ref (G.1 2))]) hx hb dX7_howManyThere_26 rfl hl (by decide) rfl (fun ls hl => ?_)
          refine lv_iinc (v := (nI (j + 1))) (lv' := [(2, .int (nI (j + 1))), (1, .int (x1 + x_2)), (0, .ref (G.1 2))]) hx hb dX7_howManyThere_27 hl (k := 1) rfl (nI_1 j) (by decide) rfl (fun ls hl => ?_)
          refine lv_goto (tgt := 4) hx hb dX7_howManyThere_30 (by decide) ?_
          exact ih_4 (j + 1) (x1 + x_2) _ _ _ (by omega) (by omega) (by simp [a_sum, i_leN, e_x1, u_1, ex_2, -Int32.not_lt] <;> first | rfl | simp_all) hP hS (lv_sub hl [0, 1, 2] rfl)
        refine lv_if_eq (tgt := 24) hx hb dX7_howManyThere_17 (by decide) (fun c_2 => ?_) (fun c_2 => ?_)
        · have t_2 := b2i_f c_2
          have f_2 := of_decide_eq_false t_2
          refine lv_iconst (v := 1) hx hb dX7_howManyThere_24 (by decide) ?_
          exact jn_2 _ (if_neg (Bool.eq_false_iff.mp t_2)).symm
        · have t_2 := b2i_t c_2
          have f_2 := of_decide_eq_true t_2
          refine lv_iconst (v := 0) hx hb dX7_howManyThere_20 (by decide) ?_
          refine lv_goto (tgt := 25) hx hb dX7_howManyThere_21 (by decide) ?_
          exact jn_2 _ (if_pos t_2).symm
  exact lp_4 (4 - 0 + 1) 0 0 _ _ _ (by omega) (by omega) (by first | rfl | simp [a_sum, i_leN, -Int32.not_lt] <;> first | rfl | simp_all) hP hS (lv_sub hl [0, 1, 2] rfl)
set_option maxHeartbeats 4000000 in
set_option maxRecDepth 100000 in
theorem c_X7_tally (G : GT) (l : Launch) (σ : Mem) (what : Int32) (hp : PO 33 σ) : CI G 74 (cX G) l yX7_tally ({ frames := 3, cells := 0, slots := 0, locals := 64 } : Room) cX7_tally 2 (some .int) [.ref (G.1 0), .int what] σ (fun (r : Int32) u => r = a_tally σ what ∧ u = σ) := by
  intro sz
  refine xbegin (by decide) (Nat.le_of_ble_eq_true rfl) ?_
  intro p e s m below meth c ls hsz ha hP hl
  subst hsz
  have hx := ha.1
  have hb := ha.2.1
  have hS : va_S (xA G 74 s.heap.size) s.heap s.heap [] := va_S.rf
  have hl : lv_has ls 2 [(0, .ref (G.1 0)), (1, .int what)] := hl
  have k_0 : (0 : Int32).toInt = 0 := by decide
  refine lv_iload_n hx hb dX7_tally_0 rfl (lv_at hl 1 rfl) ?_
  by_cases c_1 : what = 0
  · refine lv_tableIn (tgt := 60) hx hb dX7_tally_1 (by rw [c_1]; decide) (by rw [c_1]; decide) (off := 59) (by rw [c_1]; rfl) (by decide) ?_
    refine lv_aload_n hx hb dX7_tally_60 rfl (lv_at hl 0 rfl) ?_
    refine g7_21 ha hP 0 (by decide) (cX_0 G _) (v := .ref (G.1 33)) rfl dX7_tally_61 ?_
    refine g7_137 ha hP 33 (by decide) (cX_33 G _) (v := .int (σ 33 0)) rfl dX7_tally_64 ?_
    exact xiret ha hP hS dX7_tally_67 ⟨by simp [a_tally, i_leN, c_1, -Int32.not_lt] <;> first | rfl | simp_all, rfl⟩ rfl
  by_cases c_2 : what = 1
  · refine lv_tableIn (tgt := 68) hx hb dX7_tally_1 (by rw [c_2]; decide) (by rw [c_2]; decide) (off := 67) (by rw [c_2]; rfl) (by decide) ?_
    refine lv_aload_n hx hb dX7_tally_68 rfl (lv_at hl 0 rfl) ?_
    refine g7_21 ha hP 0 (by decide) (cX_0 G _) (v := .ref (G.1 33)) rfl dX7_tally_69 ?_
    refine g7_236 ha hP 33 (by decide) (cX_33 G _) (v := .int (σ 33 1)) rfl dX7_tally_72 ?_
    exact xiret ha hP hS dX7_tally_75 ⟨by simp [a_tally, i_leN, c_1, c_2, -Int32.not_lt] <;> first | rfl | simp_all, rfl⟩ rfl
  by_cases c_3 : what = 2
  · refine lv_tableIn (tgt := 76) hx hb dX7_tally_1 (by rw [c_3]; decide) (by rw [c_3]; decide) (off := 75) (by rw [c_3]; rfl) (by decide) ?_
    refine lv_aload_n hx hb dX7_tally_76 rfl (lv_at hl 0 rfl) ?_
    refine g7_43 ha hP 0 (by decide) (cX_0 G _) (v := .ref (G.1 25)) rfl dX7_tally_77 ?_
    refine g7_81 ha hP 25 (by decide) (cX_25 G _) (v := .int (σ 25 0)) rfl dX7_tally_80 ?_
    exact xiret ha hP hS dX7_tally_83 ⟨by simp [a_tally, i_leN, c_1, c_2, c_3, -Int32.not_lt] <;> first | rfl | simp_all, rfl⟩ rfl
  by_cases c_4 : what = 3
  · refine lv_tableIn (tgt := 84) hx hb dX7_tally_1 (by rw [c_4]; decide) (by rw [c_4]; decide) (off := 83) (by rw [c_4]; rfl) (by decide) ?_
    refine lv_aload_n hx hb dX7_tally_84 rfl (lv_at hl 0 rfl) ?_
    refine g7_33 ha hP 0 (by decide) (cX_0 G _) (v := .ref (G.1 45)) rfl dX7_tally_85 ?_
    refine g7_335 ha hP 45 (by decide) (cX_45 G _) (v := .int (σ 45 1)) rfl dX7_tally_88 ?_
    exact xiret ha hP hS dX7_tally_91 ⟨by simp [a_tally, i_leN, c_1, c_2, c_3, c_4, -Int32.not_lt] <;> first | rfl | simp_all, rfl⟩ rfl
  by_cases c_5 : what = 4
  · refine lv_tableIn (tgt := 92) hx hb dX7_tally_1 (by rw [c_5]; decide) (by rw [c_5]; decide) (off := 91) (by rw [c_5]; rfl) (by decide) ?_
    refine lv_aload_n hx hb dX7_tally_92 rfl (lv_at hl 0 rfl) ?_
    refine g7_33 ha hP 0 (by decide) (cX_0 G _) (v := .ref (G.1 45)) rfl dX7_tally_93 ?_
    refine g7_221 ha hP 45 (by decide) (cX_45 G _) (v := .int (σ 45 0)) rfl dX7_tally_96 ?_
    exact xiret ha hP hS dX7_tally_99 ⟨by simp [a_tally, i_leN, c_1, c_2, c_3, c_4, c_5, -Int32.not_lt] <;> first | rfl | simp_all, rfl⟩ rfl
  by_cases c_6 : what = 5
  · refine lv_tableIn (tgt := 100) hx hb dX7_tally_1 (by rw [c_6]; decide) (by rw [c_6]; decide) (off := 99) (by rw [c_6]; rfl) (by decide) ?_
    refine lv_aload_n hx hb dX7_tally_100 rfl (lv_at hl 0 rfl) ?_
    refine g7_33 ha hP 0 (by decide) (cX_0 G _) (v := .ref (G.1 45)) rfl dX7_tally_101 ?_
    refine xVi ha hP hS (y := yX4_seatedPeople) (As := []) (rest := []) 45 (by decide) (cX_45 G _) rfl rfl (c_X4_seatedPeople G l σ 45 (by unfold oSc; omega) hp) kw_X7_338 hd_X4_seatedPeople rfl ⟨rfl, rfl⟩ ⟨Nat.le_of_ble_eq_true rfl, Nat.le_of_ble_eq_true rfl⟩ ⟨Nat.zero_le _, Nat.zero_le _⟩ hl.1 (Nat.le_of_ble_eq_true rfl) rfl dX7_tally_104 (fun r u H locs hpq hP hS => ?_)
    obtain ⟨hr_, hu_⟩ := hpq
    have hr_ := hr_.symm
    have hu_ := hu_.symm
    subst hr_
    subst hu_
    exact xiret ha hP hS dX7_tally_107 ⟨by simp [a_tally, i_leN, c_1, c_2, c_3, c_4, c_5, c_6, -Int32.not_lt] <;> first | rfl | simp_all, rfl⟩ rfl
  by_cases c_7 : what = 6
  · refine lv_tableIn (tgt := 108) hx hb dX7_tally_1 (by rw [c_7]; decide) (by rw [c_7]; decide) (off := 107) (by rw [c_7]; rfl) (by decide) ?_
    refine lv_aload_n hx hb dX7_tally_108 rfl (lv_at hl 0 rfl) ?_
    refine g7_33 ha hP 0 (by decide) (cX_0 G _) (v := .ref (G.1 45)) rfl dX7_tally_109 ?_
    refine xVi ha hP hS (y := yX4_highOfAll) (As := []) (rest := []) 45 (by decide) (cX_45 G _) rfl rfl (c_X4_highOfAll G l σ 45 (by unfold oSc; omega) hp) kw_X7_224 hd_X4_highOfAll rfl ⟨rfl, rfl⟩ ⟨Nat.le_of_ble_eq_true rfl, Nat.le_of_ble_eq_true rfl⟩ ⟨Nat.zero_le _, Nat.zero_le _⟩ hl.1 (Nat.le_of_ble_eq_true rfl) rfl dX7_tally_112 (fun r u H locs hpq hP hS => ?_)
    obtain ⟨hr_, hu_⟩ := hpq
    have hr_ := hr_.symm
    have hu_ := hu_.symm
    subst hr_
    subst hu_
    exact xiret ha hP hS dX7_tally_115 ⟨by simp [a_tally, i_leN, c_1, c_2, c_3, c_4, c_5, c_6, c_7, -Int32.not_lt] <;> first | rfl | simp_all, rfl⟩ rfl
  by_cases c_8 : what = 7
  · refine lv_tableIn (tgt := 116) hx hb dX7_tally_1 (by rw [c_8]; decide) (by rw [c_8]; decide) (off := 115) (by rw [c_8]; rfl) (by decide) ?_
    refine lv_aload_n hx hb dX7_tally_116 rfl (lv_at hl 0 rfl) ?_
    refine g7_33 ha hP 0 (by decide) (cX_0 G _) (v := .ref (G.1 45)) rfl dX7_tally_117 ?_
    refine g7_341 ha hP 45 (by decide) (cX_45 G _) (v := .int (σ 45 2)) rfl dX7_tally_120 ?_
    exact xiret ha hP hS dX7_tally_123 ⟨by simp [a_tally, i_leN, c_1, c_2, c_3, c_4, c_5, c_6, c_7, c_8, -Int32.not_lt] <;> first | rfl | simp_all, rfl⟩ rfl
  by_cases c_9 : what = 8
  · refine lv_tableIn (tgt := 124) hx hb dX7_tally_1 (by rw [c_9]; decide) (by rw [c_9]; decide) (off := 123) (by rw [c_9]; rfl) (by decide) ?_
    refine lv_aload_n hx hb dX7_tally_124 rfl (lv_at hl 0 rfl) ?_
    refine g7_11 ha hP 0 (by decide) (cX_0 G _) (v := .ref (G.1 1)) rfl dX7_tally_125 ?_
    refine xSi ha hP hS (y := yX7_howManyThere) (As := [.ref (G.1 1)]) (rest := []) rfl (c_X7_howManyThere_1 G l σ  ) kw_X7_344 hd_X7_howManyThere rfl ⟨rfl, rfl⟩ ⟨Nat.le_of_ble_eq_true rfl, Nat.le_of_ble_eq_true rfl⟩ ⟨Nat.zero_le _, Nat.zero_le _⟩ hl.1 (Nat.le_of_ble_eq_true rfl) rfl dX7_tally_128 (fun r u H locs hpq hP hS => ?_)
    obtain ⟨hr_, hu_⟩ := hpq
    have hr_ := hr_.symm
    have hu_ := hu_.symm
    subst hr_
    subst hu_
    exact xiret ha hP hS dX7_tally_131 ⟨by simp [a_tally, i_leN, c_1, c_2, c_3, c_4, c_5, c_6, c_7, c_8, c_9, -Int32.not_lt] <;> first | rfl | simp_all, rfl⟩ rfl
  by_cases c_10 : what = 9
  · refine lv_tableIn (tgt := 132) hx hb dX7_tally_1 (by rw [c_10]; decide) (by rw [c_10]; decide) (off := 131) (by rw [c_10]; rfl) (by decide) ?_
    refine lv_aload_n hx hb dX7_tally_132 rfl (lv_at hl 0 rfl) ?_
    refine g7_15 ha hP 0 (by decide) (cX_0 G _) (v := .ref (G.1 2)) rfl dX7_tally_133 ?_
    refine xSi ha hP hS (y := yX7_howManyThere) (As := [.ref (G.1 2)]) (rest := []) rfl (c_X7_howManyThere_2 G l σ  ) kw_X7_344 hd_X7_howManyThere rfl ⟨rfl, rfl⟩ ⟨Nat.le_of_ble_eq_true rfl, Nat.le_of_ble_eq_true rfl⟩ ⟨Nat.zero_le _, Nat.zero_le _⟩ hl.1 (Nat.le_of_ble_eq_true rfl) rfl dX7_tally_136 (fun r u H locs hpq hP hS => ?_)
    obtain ⟨hr_, hu_⟩ := hpq
    have hr_ := hr_.symm
    have hu_ := hu_.symm
    subst hr_
    subst hu_
    exact xiret ha hP hS dX7_tally_139 ⟨by simp [a_tally, i_leN, c_1, c_2, c_3, c_4, c_5, c_6, c_7, c_8, c_9, c_10, -Int32.not_lt] <;> first | rfl | simp_all, rfl⟩ rfl
  by_cases c_11 : what = 10
  · refine lv_tableIn (tgt := 140) hx hb dX7_tally_1 (by rw [c_11]; decide) (by rw [c_11]; decide) (off := 139) (by rw [c_11]; rfl) (by decide) ?_
    refine lv_aload_n hx hb dX7_tally_140 rfl (lv_at hl 0 rfl) ?_
    refine xVi ha hP hS (y := yX7_howManyKept) (As := []) (rest := []) 0 (by decide) (cX_0 G _) rfl rfl (c_X7_howManyKept G l σ  ) kw_X7_348 hd_X7_howManyKept rfl ⟨rfl, rfl⟩ ⟨Nat.le_of_ble_eq_true rfl, Nat.le_of_ble_eq_true rfl⟩ ⟨Nat.zero_le _, Nat.zero_le _⟩ hl.1 (Nat.le_of_ble_eq_true rfl) rfl dX7_tally_141 (fun r u H locs hpq hP hS => ?_)
    obtain ⟨hr_, hu_⟩ := hpq
    have hr_ := hr_.symm
    have hu_ := hu_.symm
    subst hr_
    subst hu_
    exact xiret ha hP hS dX7_tally_144 ⟨by simp [a_tally, i_leN, c_1, c_2, c_3, c_4, c_5, c_6, c_7, c_8, c_9, c_10, c_11, -Int32.not_lt] <;> first | rfl | simp_all, rfl⟩ rfl
  have t_1 := i_ne c_1
  have t_2 := i_ne c_2
  have t_3 := i_ne c_3
  have t_4 := i_ne c_4
  have t_5 := i_ne c_5
  have t_6 := i_ne c_6
  have t_7 := i_ne c_7
  have t_8 := i_ne c_8
  have t_9 := i_ne c_9
  have t_10 := i_ne c_10
  have t_11 := i_ne c_11
  have kk_1 : (0 : Int32).toInt = 0 := by decide
  have kk_2 : (1 : Int32).toInt = 1 := by decide
  have kk_3 : (2 : Int32).toInt = 2 := by decide
  have kk_4 : (3 : Int32).toInt = 3 := by decide
  have kk_5 : (4 : Int32).toInt = 4 := by decide
  have kk_6 : (5 : Int32).toInt = 5 := by decide
  have kk_7 : (6 : Int32).toInt = 6 := by decide
  have kk_8 : (7 : Int32).toInt = 7 := by decide
  have kk_9 : (8 : Int32).toInt = 8 := by decide
  have kk_10 : (9 : Int32).toInt = 9 := by decide
  have kk_11 : (10 : Int32).toInt = 10 := by decide
  refine lv_tableOut (tgt := 145) hx hb dX7_tally_1 (by omega) (by decide) ?_
  refine lv_aload_n hx hb dX7_tally_145 rfl (lv_at hl 0 rfl) ?_
  refine g7_21 ha hP 0 (by decide) (cX_0 G _) (v := .ref (G.1 33)) rfl dX7_tally_146 ?_
  refine xVi ha hP hS (y := yX2_howManyLaced) (As := []) (rest := []) 33 (by decide) (cX_33 G _) rfl rfl (c_X2_howManyLaced G l σ 33 (by unfold oPl; omega) hp) kw_X7_351 hd_X2_howManyLaced rfl ⟨rfl, rfl⟩ ⟨Nat.le_of_ble_eq_true rfl, Nat.le_of_ble_eq_true rfl⟩ ⟨Nat.zero_le _, Nat.zero_le _⟩ hl.1 (Nat.le_of_ble_eq_true rfl) rfl dX7_tally_149 (fun r u H locs hpq hP hS => ?_)
  obtain ⟨hr_, hu_⟩ := hpq
  have hr_ := hr_.symm
  have hu_ := hu_.symm
  subst hr_
  subst hu_
  exact xiret ha hP hS dX7_tally_152 ⟨by simp [a_tally, i_leN, c_1, c_2, c_3, c_4, c_5, c_6, c_7, c_8, c_9, c_10, c_11, -Int32.not_lt] <;> first | rfl | simp_all, rfl⟩ rfl
set_option maxHeartbeats 4000000 in
set_option maxRecDepth 100000 in
theorem c_X7_count (G : GT) (l : Launch) (σ : Mem) (what : Int32) (hp : PO 33 σ) : CI G 74 (cX G) l yX7_count ({ frames := 4, cells := 0, slots := 0, locals := 85 } : Room) cX7_count 2 (some .int) [.ref (G.1 0), .int what] σ (fun (r : Int32) u => r = k_count σ what ∧ u = σ) := by
  intro sz
  refine xbegin (by decide) (Nat.le_of_ble_eq_true rfl) ?_
  intro p e s m below meth c ls hsz ha hP hl
  subst hsz
  have hx := ha.1
  have hb := ha.2.1
  have hS : va_S (xA G 74 s.heap.size) s.heap s.heap [] := va_S.rf
  have hl : lv_has ls 2 [(0, .ref (G.1 0)), (1, .int what)] := hl
  have k_m1 : (-1 : Int32).toInt = -1 := by decide
  have k_0 : (0 : Int32).toInt = 0 := by decide
  have k_12 : (12 : Int32).toInt = 12 := by decide
  refine lv_iload_n hx hb dX7_count_0 rfl (lv_at hl 1 rfl) ?_
  refine lv_if_lt (tgt := 10) hx hb dX7_count_1 (by decide) (fun c_1 => ?_) (fun c_1 => ?_)
  · have t_1 := i_lt c_1
    refine lv_iconst (v := (-1)) hx hb dX7_count_10 (by decide) ?_
    refine lv_goto (tgt := 19) hx hb dX7_count_11 (by decide) ?_
    exact xiret ha hP hS dX7_count_19 ⟨by simp [k_count, i_leN, c_1, -Int32.not_lt] <;> first | rfl | simp_all, rfl⟩ rfl
  · have t_1 := i_nlt c_1
    refine lv_iload_n hx hb dX7_count_4 rfl (lv_at hl 1 rfl) ?_
    refine lv_bipush (v := 12) hx hb dX7_count_5 (by decide) ?_
    refine lv_icmp_lt (tgt := 14) hx hb dX7_count_7 (by decide) (fun c_2 => ?_) (fun c_2 => ?_)
    · have t_2 := i_lt c_2
      refine lv_aload_n hx hb dX7_count_14 rfl (lv_at hl 0 rfl) ?_
      refine lv_iload_n hx hb dX7_count_15 rfl (lv_at hl 1 rfl) ?_
      refine xVi ha hP hS (y := yX7_tally) (As := [.int what]) (rest := []) 0 (by decide) (cX_0 G _) rfl rfl (c_X7_tally G l σ what hp) kw_X7_318 hd_X7_tally rfl ⟨rfl, rfl⟩ ⟨Nat.le_of_ble_eq_true rfl, Nat.le_of_ble_eq_true rfl⟩ ⟨Nat.zero_le _, Nat.zero_le _⟩ hl.1 (Nat.le_of_ble_eq_true rfl) rfl dX7_count_16 (fun r u H locs hpq hP hS => ?_)
      obtain ⟨hr_, hu_⟩ := hpq
      have hr_ := hr_.symm
      have hu_ := hu_.symm
      subst hr_
      subst hu_
      exact xiret ha hP hS dX7_count_19 ⟨by simp [k_count, i_leN, c_1, c_2, -Int32.not_lt] <;> first | rfl | simp_all, rfl⟩ rfl
    · have t_2 := i_nlt c_2
      refine lv_iconst (v := (-1)) hx hb dX7_count_10 (by decide) ?_
      refine lv_goto (tgt := 19) hx hb dX7_count_11 (by decide) ?_
      exact xiret ha hP hS dX7_count_19 ⟨by simp [k_count, i_leN, c_1, c_2, -Int32.not_lt] <;> first | rfl | simp_all, rfl⟩ rfl
