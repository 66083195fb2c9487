theorem hd_X1_holdsOut : kHd yX1_holdsOut 2 := by decide +kernel
theorem hd_X1_laceOn : kHd yX1_laceOn 3 := by decide +kernel
theorem hd_X2_bearsWith : kHd yX2_bearsWith 2 := by decide +kernel
theorem hd_X4_up : kHd yX4_up 0 := by decide +kernel
theorem hd_X5_callDown : kHd yX5_callDown 4 := by decide +kernel
theorem hd_X5_seat : kHd yX5_seat 2 := by decide +kernel
theorem hd_X5_sendUp : kHd yX5_sendUp 4 := by decide +kernel
theorem hd_X5_unseat : kHd yX5_unseat 1 := by decide +kernel
theorem hd_X5_worth : kHd yX5_worth 0 := by decide +kernel
theorem kw_X1_30 : ∀ w ∈ k5V RX1 30 yX4_up cX4_up 1 (some .int), w ∈ TB := tb_ins (by decide +kernel)
theorem kw_X1_58 : ∀ w ∈ k5V RX1 58 yX4_loadOn cX4_loadOn 4 (some .int), w ∈ TB := tb_ins (by decide +kernel)
theorem kw_X1_79 : ∀ w ∈ k5N yX7_worn cX7_worn 2 (some .int), w ∈ TB := tb_ins (by decide +kernel)
theorem kw_X1_76 : ∀ w ∈ k5V RX1 76 yX2_bearsWith cX2_bearsWith 3 (some .int), w ∈ TB := tb_ins (by decide +kernel)
theorem kw_X1_68 : ∀ w ∈ k5V RX1 68 yX1_holdsOut cX1_holdsOut 5 (some .boolean), w ∈ TB := tb_ins (by decide +kernel)
theorem kw_X1_72 : ∀ w ∈ k5S RX1 72 yX1_laceOn cX1_laceOn 4 none, w ∈ TB := tb_ins (by decide +kernel)
theorem kw_X5_54 : ∀ w ∈ k5V RX5 54 yX2_isOne cX2_isOne 2 (some .boolean), w ∈ TB := tb_ins (by decide +kernel)
theorem kw_X5_58 : ∀ w ∈ k5V RX5 58 yX2_isPole cX2_isPole 2 (some .boolean), w ∈ TB := tb_ins (by decide +kernel)
theorem kw_X5_61 : ∀ w ∈ k5V RX5 61 yX2_loadBy cX2_loadBy 3 (some .int), w ∈ TB := tb_ins (by decide +kernel)
theorem kw_X5_65 : ∀ w ∈ k5V RX5 65 yX2_highOn cX2_highOn 3 (some .int), w ∈ TB := tb_ins (by decide +kernel)
theorem kw_X5_28 : ∀ w ∈ k5V RX5 28 yX4_up cX4_up 1 (some .int), w ∈ TB := tb_ins (by decide +kernel)
theorem kw_X5_50 : ∀ w ∈ k5V RX5 50 yX5_seat cX5_seat 3 none, w ∈ TB := tb_ins (by decide +kernel)
theorem kw_X5_42 : ∀ w ∈ k5V RX5 42 yX4_bearsNow cX4_bearsNow 2 (some .int), w ∈ TB := tb_ins (by decide +kernel)
theorem kw_X5_68 : ∀ w ∈ k5V RX5 68 yX5_worth cX5_worth 3 (some .int), w ∈ TB := tb_ins (by decide +kernel)
theorem kw_X5_71 : ∀ w ∈ k5S RX5 71 yX5_callDown cX5_callDown 7 (some .int), w ∈ TB := tb_ins (by decide +kernel)
theorem kw_X5_80 : ∀ w ∈ k5V RX5 80 yX5_unseat cX5_unseat 3 (some .int), w ∈ TB := tb_ins (by decide +kernel)
theorem kw_X5_83 : ∀ w ∈ k5S RX5 83 yX5_sendUp cX5_sendUp 7 (some .int), w ∈ TB := tb_ins (by decide +kernel)
set_option maxHeartbeats 4000000 in
set_option maxRecDepth 100000 in
theorem c_X1_begin (G : GT) (l : Launch) (σ : Mem) (n : Int32) (hp : PO 33 σ) : CV G 74 (cX G) l yX1_begin ({ frames := 3, cells := 0, slots := 0, locals := 67 } : Room) cX1_begin 4 none [.ref (G.1 56), .ref (G.1 45), .int n] σ (fun u => u = (m_lBegin (vP σ 33) (vS σ 45) σ n)) := by
  intro sz
  refine xbegin (by decide) (Nat.le_of_ble_eq_true rfl) ?_
  intro p e s m below meth c ls hsz ha hP hl
  subst hsz
  have hx := ha.1
  have hb := ha.2.1
  have hS : va_S (xA G 74 s.heap.size) s.heap s.heap [] := va_S.rf
  have hl : lv_has ls 4 [(0, .ref (G.1 56)), (1, .ref (G.1 45)), (2, .int n)] := hl
  have k_0 : (0 : Int32).toInt = 0 := by decide
  have k_1 : (1 : Int32).toInt = 1 := by decide
  have k_5 : (5 : Int32).toInt = 5 := by decide
  obtain ⟨hn, hn4, hnt⟩ := PO_pl hp
  refine lv_aload_n hx hb dX1_begin_0 rfl (lv_at hl 0 rfl) ?_
  refine lv_aload_n hx hb dX1_begin_1 rfl (lv_at hl 1 rfl) ?_
  refine xVi ha hP hS (y := yX4_up) (As := []) (rest := [.ref (G.1 56)]) 45 (by decide) (cX_45 G _) rfl rfl (c_X4_up G l σ 45 (by unfold oSc; omega)) kw_X1_30 hd_X4_up rfl ⟨rfl, rfl⟩ ⟨Nat.le_of_ble_eq_true rfl, Nat.le_of_ble_eq_true rfl⟩ ⟨Nat.zero_le _, Nat.zero_le _⟩ hl.1 (Nat.le_of_ble_eq_true rfl) rfl dX1_begin_2 (fun r u H locs hpq hP hS => ?_)
  obtain ⟨hr_, hu_⟩ := hpq
  have hr_ := hr_.symm
  have hu_ := hu_.symm
  subst hr_
  subst hu_
  refine p1_36 ha hP hS (cX_loc G) 56 (by decide) (cX_56 G _) (x := (a_up (vP σ 33) (vS σ 45))) (Nat.le_of_ble_eq_true rfl) (mU σ 56 0 (a_up (vP σ 33) (vS σ 45))) (fun q hq => mU_n _ _ _ hq) (cX_p56_0 G _ _) dX1_begin_5 (fun H locs hP hS => ?_)
  refine lv_aload_n hx hb dX1_begin_8 rfl (lv_at hl 0 rfl) ?_
  refine lv_iload_n hx hb dX1_begin_9 rfl (lv_at hl 2 rfl) ?_
  refine lv_iconst (v := 5) hx hb dX1_begin_10 (by decide) ?_
  refine xmmin ha (tb_in (w := .methodLink RX1 39 Lib.Math.min.name) (by decide +kernel)) hl.1 (by decide) (Nat.le_of_ble_eq_true rfl) ⟨Nat.zero_le _, Nat.zero_le _⟩ dX1_begin_11 ?_
  refine p1_45 ha hP hS (cX_loc G) 56 (by decide) (cX_56 G _) (x := (imin n 5)) (Nat.le_of_ble_eq_true rfl) (mU (mU σ 56 0 (a_up (vP σ 33) (vS σ 45))) 56 1 (imin n 5)) (fun q hq => mU_n _ _ _ hq) (cX_p56_1 G _ _) dX1_begin_14 (fun H locs hP hS => ?_)
  refine lv_aload_n hx hb dX1_begin_17 rfl (lv_at hl 0 rfl) ?_
  refine lv_aload_n hx hb dX1_begin_18 rfl (lv_at hl 0 rfl) ?_
  refine g1_45 ha hP 56 (by decide) (cX_56 G _) (v := .int ((mU (mU σ 56 0 (a_up (vP σ 33) (vS σ 45))) 56 1 (imin n 5)) 56 1)) rfl dX1_begin_19 ?_
  refine lv_iconst (v := 1) hx hb dX1_begin_22 (by decide) ?_
  refine lv_iadd hx hb dX1_begin_23 ?_
  refine p1_48 ha hP hS (cX_loc G) 56 (by decide) (cX_56 G _) (x := (((mU (mU σ 56 0 (a_up (vP σ 33) (vS σ 45))) 56 1 (imin n 5)) 56 1) + 1)) (Nat.le_of_ble_eq_true rfl) (mU (mU (mU σ 56 0 (a_up (vP σ 33) (vS σ 45))) 56 1 (imin n 5)) 56 2 (((mU (mU σ 56 0 (a_up (vP σ 33) (vS σ 45))) 56 1 (imin n 5)) 56 1) + 1)) (fun q hq => mU_n _ _ _ hq) (cX_p56_2 G _ _) dX1_begin_24 (fun H locs hP hS => ?_)
  refine lv_iconst (v := 0) hx hb dX1_begin_27 (by decide) ?_
  refine lv_istore_n (lv' := [(3, .int 0), (0, .ref (G.1 56)), (1, .ref (G.1 45)), (2, .int n)]) hx hb dX1_begin_28 rfl hl (by decide) rfl (fun ls hl => ?_)
  have lp_29 : ∀ (d j : Nat) (τj : Mem) (H : Heap) (locs : List Loc) (ls : Array Slot), j ≤ (ix (σ 33 0)) → (ix (σ 33 0)) - j < d → τj = mF (mF (mU (mU (mU σ 56 0 (a_up (vP σ 33) (vS σ 45))) 56 1 (imin n 5)) 56 2 (imin n 5 + 1)) 58 j (σ 46)) 64 j (fun k => a_load (vP σ 33) (vS σ 45) (nI k)) → (PO 33 τj) → (vP τj 33 = (vP σ 33)) → (vS τj 45 = (vS σ 45)) → va_P G.2.1 vwCl (wl G 74 (cX G τj)) H → va_S (xA G 74 s.heap.size) s.heap H locs → lv_has ls 4 [(3, .int (nI j)), (0, .ref (G.1 56)), (1, .ref (G.1 45)), (2, .int n)] → W p l e ({ frames := 3, cells := 0, slots := 0, locals := 67 } : Room) s m ([.ref (G.1 56), .ref (G.1 45), .int n] : List Value).toArray below meth c H locs 0 0 (MQ below (va_Qv (fun u => u = (m_lBegin (vP σ 33) (vS σ 45) σ n)) (xB G 74 (cX G)) (xA G 74 s.heap.size)) ([.ref (G.1 56), .ref (G.1 45), .int n] : List Value).toArray s 0 0 (xA G 74 s.heap.size)) (F0 m 29 ls []) := by
    intro d
    induction d with
    | zero => intro j τj H locs ls hj hd; exact absurd hd (Nat.not_lt_zero _)
    | succ d ih_29 =>
      intro j τj H locs ls hj_j hd_j e_τj hpj hPj hSj hP hS hl
      have h31_j : (nI j).toInt = (j : Int) := nI_toInt (by omega)
      have hz : τj 33 = σ 33 := by rw [e_τj]; rfl
      have hz2 : (τj 33 0).toInt = (ix (σ 33 0) : Int) := by rw [hz]; exact hnt
      refine lv_iload_n hx hb dX1_begin_29 rfl (lv_at hl 0 rfl) ?_
      refine lv_aload_n hx hb dX1_begin_30 rfl (lv_at hl 1 rfl) ?_
      refine g1_26 ha hP 56 (by decide) (cX_56 G _) (v := .ref (G.1 33)) rfl dX1_begin_31 ?_
      refine g1_51 ha hP 33 (by decide) (cX_33 G _) (v := .int (τj 33 0)) rfl dX1_begin_34 ?_
      refine lv_icmp_ge (tgt := 71) hx hb dX1_begin_37 (by decide) (fun c_1 => ?_) (fun c_1 => ?_)
      · have t_1 := i_le c_1
        have u_1 := u_le c_1
        obtain rfl : j = (ix (σ 33 0)) := by omega
        exact xvret ha hP hS dX1_begin_71 (by rw [e_τj]; rfl)
      · have t_1 := i_nle c_1
        have u_1 := u_nle c_1
        have hlt_j : j < (ix (σ 33 0)) := by omega
        refine lv_aload_n hx hb dX1_begin_40 rfl (lv_at hl 1 rfl) ?_
        refine g1_11 ha hP 56 (by decide) (cX_56 G _) (v := .ref (G.1 57)) rfl dX1_begin_41 ?_
        refine lv_iconst (v := 0) hx hb dX1_begin_44 (by decide) ?_
        refine xaald ha hP 57 (by decide) 3 (cX_57 G _) rfl rfl 0 (by decide) (by decide) (by decide) (q := G.1 58) rfl dX1_begin_45 ?_
        refine lv_iload_n hx hb dX1_begin_46 rfl (lv_at hl 0 rfl) ?_
        refine lv_aload_n hx hb dX1_begin_47 rfl (lv_at hl 2 rfl) ?_
        refine g1_56 ha hP 45 (by decide) (cX_45 G _) (v := .ref (G.1 46)) rfl dX1_begin_48 ?_
        refine lv_iload_n hx hb dX1_begin_51 rfl (lv_at hl 0 rfl) ?_
        refine xialdN ha hP 46 (by decide) (cX_46 G _) j rfl (by omega) (by decide) dX1_begin_52 ?_
        refine xiastN ha hP hS (cX_loc G) 58 (by decide) (fun τ => cX_58 G τ) j rfl (by omega) (by decide) dX1_begin_53 (fun H locs hP hS => ?_)
        refine lv_aload_n hx hb dX1_begin_54 rfl (lv_at hl 1 rfl) ?_
        refine g1_16 ha hP 56 (by decide) (cX_56 G _) (v := .ref (G.1 64)) rfl dX1_begin_55 ?_
        refine lv_iload_n hx hb dX1_begin_58 rfl (lv_at hl 0 rfl) ?_
        refine lv_aload_n hx hb dX1_begin_59 rfl (lv_at hl 2 rfl) ?_
        refine lv_iload_n hx hb dX1_begin_60 rfl (lv_at hl 0 rfl) ?_
        refine xVi ha hP hS (y := yX4_loadOn) (As := [.int (nI j)]) (rest := [.int (nI j), .ref (G.1 64)]) 45 (by decide) (cX_45 G _) rfl rfl (c_X4_loadOn G l (mU τj 58 j (τj 46 j)) 45 (nI j) (by unfold oSc; omega) (PO_mU hpj (by decide))) kw_X1_58 hd_X4_loadOn rfl ⟨rfl, rfl⟩ ⟨Nat.le_of_ble_eq_true rfl, Nat.le_of_ble_eq_true rfl⟩ ⟨Nat.zero_le _, Nat.zero_le _⟩ hl.1 (Nat.le_of_ble_eq_true rfl) rfl dX1_begin_61 (fun r u H locs hpq hP hS => ?_)
        obtain ⟨hr_, hu_⟩ := hpq
        have hr_ := hr_.symm
        have hu_ := hu_.symm
        subst hr_
        subst hu_
        rw [((vP_mU _ _ _ (by decide)).trans hPj)]
        rw [((vS_mU _ _ _ (by decide)).trans hSj)]
        refine xiastN ha hP hS (cX_loc G) 64 (by decide) (fun τ => cX_64 G τ) j rfl (by omega) (by decide) dX1_begin_64 (fun H locs hP hS => ?_)
        refine lv_iinc (v := (nI (j + 1))) (lv' := [(3, .int (nI (j + 1))), (0, .ref (G.1 56)), (1, .ref (G.1 45)), (2, .int n)]) hx hb dX1_begin_65 hl (k := 0) rfl (nI_1 j) (by decide) rfl (fun ls hl => ?_)
        refine lv_goto (tgt := 29) hx hb dX1_begin_68 (by decide) ?_
        exact ih_29 (j + 1) (mU (mU τj 58 j (τj 46 j)) 64 j (a_load (vP σ 33) (vS σ 45) (nI j))) _ _ _ (by omega) (by omega) (by rw [e_τj]; exact mF2_s _ _ _ _ (by decide) rfl rfl) (PO_mU (PO_mU hpj (by decide)) (by decide)) ((vP_mU _ _ _ (by decide)).trans ((vP_mU _ _ _ (by decide)).trans hPj)) ((vS_mU _ _ _ (by decide)).trans ((vS_mU _ _ _ (by decide)).trans hSj)) hP hS (lv_sub hl [0, 1, 2, 3] rfl)
  exact lp_29 ((ix (σ 33 0)) - 0 + 1) 0 (mU (mU (mU σ 56 0 (a_up (vP σ 33) (vS σ 45))) 56 1 (imin n 5)) 56 2 (((mU (mU σ 56 0 (a_up (vP σ 33) (vS σ 45))) 56 1 (imin n 5)) 56 1) + 1)) _ _ _ (by omega) (by omega) (by rw [show (mF (mF (mU (mU (mU σ 56 0 (a_up (vP σ 33) (vS σ 45))) 56 1 (imin n 5)) 56 2 (imin n 5 + 1)) 58 0 (σ 46)) 64 0 (fun k => a_load (vP σ 33) (vS σ 45) (nI k))) = mF (mU (mU (mU σ 56 0 (a_up (vP σ 33) (vS σ 45))) 56 1 (imin n 5)) 56 2 (imin n 5 + 1)) 58 0 (σ 46) from (mF_0 _ _ _).symm]; exact mF_0 _ _ _) (PO_mU (PO_mU (PO_mU hp (by decide)) (by decide)) (by decide)) ((vP_mU _ _ _ (by decide)).trans ((vP_mU _ _ _ (by decide)).trans ((vP_mU _ _ _ (by decide)).trans rfl))) ((vS_mU _ _ _ (by decide)).trans ((vS_mU _ _ _ (by decide)).trans ((vS_mU _ _ _ (by decide)).trans rfl))) hP hS (lv_sub hl [0, 1, 2, 3] rfl)
set_option maxHeartbeats 4000000 in
set_option maxRecDepth 100000 in
theorem c_X1_holdsOut (G : GT) (l : Launch) (σ : Mem) (P : PT) (year : Nat) (one : Int32) (hp : PO 33 σ) (hPP : vP σ 33 = P) (hy : year < 5) : CI G 74 (cX G) l yX1_holdsOut ({ frames := 3, cells := 0, slots := 0, locals := 69 } : Room) cX1_holdsOut 5 (some .boolean) [.ref (G.1 56), .int (nI year), .int one] σ (fun (r : Int32) u => r = b2i (l_ok P σ year one) ∧ u = l_out P σ year one) := by
  intro sz
  refine xbegin (by decide) (Nat.le_of_ble_eq_true rfl) ?_
  intro p e s m below meth c ls hsz ha hP hl
  subst hsz
  have hx := ha.1
  have hb := ha.2.1
  have hS : va_S (xA G 74 s.heap.size) s.heap s.heap [] := va_S.rf
  have hl : lv_has ls 5 [(0, .ref (G.1 56)), (1, .int (nI year)), (2, .int one)] := hl
  have k_0 : (0 : Int32).toInt = 0 := by decide
  have k_1 : (1 : Int32).toInt = 1 := by decide
  have k_5 : (5 : Int32).toInt = 5 := by decide
  have hnn := nPe_of hPP
  have hmm := nPl_of hPP
  have hy31 : (nI year).toInt = (year : Int) := nI_toInt (by omega)
  obtain ⟨hn, hn4, hnt⟩ := PO_pl hp
  refine lv_iload_n hx hb dX1_holdsOut_0 rfl (lv_at hl 1 rfl) ?_
  refine lv_if_lt (tgt := 9) hx hb dX1_holdsOut_1 (by decide) (fun c_1 => ?_) (fun c_1 => ?_)
  · have t_1 := i_lt c_1
    exfalso; omega
  · have t_1 := i_nlt c_1
    refine lv_iload_n hx hb dX1_holdsOut_4 rfl (lv_at hl 1 rfl) ?_
    refine lv_iconst (v := 5) hx hb dX1_holdsOut_5 (by decide) ?_
    refine lv_icmp_lt (tgt := 11) hx hb dX1_holdsOut_6 (by decide) (fun c_2 => ?_) (fun c_2 => ?_)
    · have t_2 := i_lt c_2
      refine lv_iconst (v := 0) hx hb dX1_holdsOut_11 (by decide) ?_
      refine lv_istore_n (lv' := [(3, .int 0), (0, .ref (G.1 56)), (1, .int (nI year)), (2, .int one)]) hx hb dX1_holdsOut_12 rfl hl (by decide) rfl (fun ls hl => ?_)
      have lp_13 : ∀ (d j : Nat) (τj : Mem) (H : Heap) (locs : List Loc) (ls : Array Slot), j ≤ (ix (σ 33 0)) → (ix (σ 33 0)) - j < d → τj = mF σ (58 + (year + 1)) j (l_wear σ year one) → (PO 33 τj) → (vP τj 33 = P) → (l_stop P σ year one j = j) → va_P G.2.1 vwCl (wl G 74 (cX G τj)) H → va_S (xA G 74 s.heap.size) s.heap H locs → lv_has ls 5 [(3, .int (nI j)), (0, .ref (G.1 56)), (1, .int (nI year)), (2, .int one)] → W p l e ({ frames := 3, cells := 0, slots := 0, locals := 69 } : Room) s m ([.ref (G.1 56), .int (nI year), .int one] : List Value).toArray below meth c H locs 0 0 (MQ below (va_Qi (fun (r : Int32) u => r = b2i (l_ok P σ year one) ∧ u = l_out P σ year one) (xB G 74 (cX G)) (xA G 74 s.heap.size)) ([.ref (G.1 56), .int (nI year), .int one] : List Value).toArray s 0 0 (xA G 74 s.heap.size)) (F0 m 13 ls []) := by
        intro d
        induction d with
        | zero => intro j τj H locs ls hj hd; exact absurd hd (Nat.not_lt_zero _)
        | succ d ih_13 =>
          intro j τj H locs ls hj_j hd_j e_τj hpj hPj hst hP hS hl
          have h31_j : (nI j).toInt = (j : Int) := nI_toInt (by omega)
          have hy1 : τj (58 + year) = σ (58 + year) := by rw [e_τj]; exact mF_n _ _ _ (by omega)
          have hy2 : τj 56 = σ 56 := by rw [e_τj]; exact mF_n _ _ _ (by omega)
          have hy3 : τj 64 = σ 64 := by rw [e_τj]; exact mF_n _ _ _ (by omega)
          have hz : τj 33 = σ 33 := by rw [e_τj]; exact mF_n _ _ _ (by omega)
          have hz2 : (τj 33 0).toInt = (ix (σ 33 0) : Int) := by rw [hz]; exact hnt
          refine lv_iload_n hx hb dX1_holdsOut_13 rfl (lv_at hl 0 rfl) ?_
          refine lv_aload_n hx hb dX1_holdsOut_14 rfl (lv_at hl 1 rfl) ?_
          refine g1_26 ha hP 56 (by decide) (cX_56 G _) (v := .ref (G.1 33)) rfl dX1_holdsOut_15 ?_
          refine g1_51 ha hP 33 (by decide) (cX_33 G _) (v := .int (τj 33 0)) rfl dX1_holdsOut_18 ?_
          refine lv_icmp_ge (tgt := 111) hx hb dX1_holdsOut_21 (by decide) (fun c_3 => ?_) (fun c_3 => ?_)
          · have t_3 := i_le c_3
            have u_3 := u_le c_3
            obtain rfl : j = (ix (σ 33 0)) := by omega
            refine lv_iconst (v := 1) hx hb dX1_holdsOut_111 (by decide) ?_
            exact xzret ha hP hS rfl dX1_holdsOut_112 ⟨by rw [show l_ok P σ year one = true from decide_eq_true (by rw [hmm]; exact hst)]; rfl, (by rw [e_τj, l_out, hmm, hst])⟩ rfl
          · have t_3 := i_nle c_3
            have u_3 := u_nle c_3
            have hlt_j : j < (ix (σ 33 0)) := by omega
            refine lv_iload_n hx hb dX1_holdsOut_24 rfl (lv_at hl 0 rfl) ?_
            refine lv_iload_n hx hb dX1_holdsOut_25 rfl (lv_at hl 3 rfl) ?_
            have jn_4 : ∀ x_4 : Int32, x_4 = (if nI j = one then 0 else (τj (58 + year) j)) → W p l e ({ frames := 3, cells := 0, slots := 0, locals := 69 } : Room) s m ([.ref (G.1 56), .int (nI year), .int one] : List Value).toArray below meth c H locs 0 0 (MQ below (va_Qi (fun (r : Int32) u => r = b2i (l_ok P σ year one) ∧ u = l_out P σ year one) (xB G 74 (cX G)) (xA G 74 s.heap.size)) ([.ref (G.1 56), .int (nI year), .int one] : List Value).toArray s 0 0 (xA G 74 s.heap.size)) (F0 m 41 ls [.int x_4]) := by
              intro x_4 ex_4
              have hbx : l_bef σ year one j = x_4 := by rw [ex_4, hy1]; rfl
              refine lv_istore (lv' := [(4, .int x_4), (3, .int (nI j)), (0, .ref (G.1 56)), (1, .int (nI year)), (2, .int one)]) hx hb dX1_holdsOut_41 hl (by decide) rfl (fun ls hl => ?_)
              refine lv_aload_n hx hb dX1_holdsOut_43 rfl (lv_at hl 2 rfl) ?_
              refine g1_36 ha hP 56 (by decide) (cX_56 G _) (v := .int (τj 56 0)) rfl dX1_holdsOut_44 ?_
              refine lv_iload_n hx hb dX1_holdsOut_47 rfl (lv_at hl 1 rfl) ?_
              refine lv_ishr hx hb dX1_holdsOut_48 ?_
              refine lv_iconst (v := 1) hx hb dX1_holdsOut_49 (by decide) ?_
              refine lv_iand hx hb dX1_holdsOut_50 ?_
              refine lv_iconst (v := 1) hx hb dX1_holdsOut_51 (by decide) ?_
              refine lv_icmp_ne (tgt := 76) hx hb dX1_holdsOut_52 (by decide) (fun c_5 => ?_) (fun c_5 => ?_)
              · have t_5 := i_ne c_5
                refine lv_aload_n hx hb dX1_holdsOut_76 rfl (lv_at hl 2 rfl) ?_
                refine g1_11 ha hP 56 (by decide) (cX_56 G _) (v := .ref (G.1 57)) rfl dX1_holdsOut_77 ?_
                refine lv_iload_n hx hb dX1_holdsOut_80 rfl (lv_at hl 3 rfl) ?_
                refine lv_iconst (v := 1) hx hb dX1_holdsOut_81 (by decide) ?_
                refine lv_iaddE (z := (nI (year + 1))) hx hb dX1_holdsOut_82 (nI_1 year) ?_
                refine xaald ha hP 57 (by decide) 3 (cX_57 G _) rfl rfl (year + 1) rfl (by omega) (by decide) (q := G.1 (58 + (year + 1))) rfl dX1_holdsOut_83 ?_
                refine lv_iload_n hx hb dX1_holdsOut_84 rfl (lv_at hl 1 rfl) ?_
                refine lv_iload hx hb dX1_holdsOut_85 (lv_at hl 0 rfl) ?_
                refine lv_aload_n hx hb dX1_holdsOut_87 rfl (lv_at hl 2 rfl) ?_
                refine g1_16 ha hP 56 (by decide) (cX_56 G _) (v := .ref (G.1 64)) rfl dX1_holdsOut_88 ?_
                refine lv_iload_n hx hb dX1_holdsOut_91 rfl (lv_at hl 1 rfl) ?_
                refine xialdN ha hP 64 (by decide) (cX_64 G _) j rfl (by omega) (by decide) dX1_holdsOut_92 ?_
                have jn_6 : ∀ x_6 : Int32, x_6 = (if 0 < (τj 64 j) then 1 else 0) → W p l e ({ frames := 3, cells := 0, slots := 0, locals := 69 } : Room) s m ([.ref (G.1 56), .int (nI year), .int one] : List Value).toArray below meth c H locs 0 0 (MQ below (va_Qi (fun (r : Int32) u => r = b2i (l_ok P σ year one) ∧ u = l_out P σ year one) (xB G 74 (cX G)) (xA G 74 s.heap.size)) ([.ref (G.1 56), .int (nI year), .int one] : List Value).toArray s 0 0 (xA G 74 s.heap.size)) (F0 m 101 ls [.int x_6, .int x_4, .int (nI j), .ref (G.1 (58 + (year + 1)))]) := by
                  intro x_6 ex_6
                  have hlx : (if 0 < σ 64 j then (1 : Int32) else 0) = x_6 := by rw [ex_6, hy3]
                  refine xNi ha hP hS (y := yX7_worn) (As := [.int x_4, .int x_6]) (rest := [.int (nI j), .ref (G.1 (58 + (year + 1)))]) "PoleNave" (nb_in (by decide +kernel)) (c_X7_worn G l τj x_4 x_6 ) kw_X1_79 hd_X7_worn rfl ⟨rfl, rfl⟩ ⟨Nat.le_of_ble_eq_true rfl, Nat.le_of_ble_eq_true rfl⟩ ⟨Nat.zero_le _, Nat.zero_le _⟩ hl.1 (Nat.le_of_ble_eq_true rfl) rfl dX1_holdsOut_101 (fun r u H locs hpq hP hS => ?_)
                  obtain ⟨hr_, hu_⟩ := hpq
                  have hr_ := hr_.symm
                  have hu_ := hu_.symm
                  subst hr_
                  subst hu_
                  refine xiastN ha hP hS (cX_loc G) (58 + (year + 1)) (by omega) (fun τ => cX_w G τ (by omega)) j rfl (by omega) (by decide) dX1_holdsOut_104 (fun H locs hP hS => ?_)
                  refine lv_iinc (v := (nI (j + 1))) (lv' := [(3, .int (nI (j + 1))), (4, .int x_4), (0, .ref (G.1 56)), (1, .int (nI year)), (2, .int one)]) hx hb dX1_holdsOut_105 hl (k := 1) rfl (nI_1 j) (by decide) rfl (fun ls hl => ?_)
                  refine lv_goto (tgt := 13) hx hb dX1_holdsOut_108 (by decide) ?_
                  exact ih_13 (j + 1) (mU τj (58 + (year + 1)) j (a_worn x_4 x_6)) _ _ _ (by omega) (by omega) (by rw [e_τj]; refine mF_s _ _ _ _ ?_; rw [l_wear, hbx, hlx]) (PO_mU hpj (by omega)) ((vP_mU _ _ _ (by omega)).trans hPj) (l_stop_s hst (by simp [l_bad, hbx, ← hy2, ← hy3, c_1, c_2, u_3, c_5])) hP hS (lv_sub hl [0, 2, 3, 4] rfl)
                refine lv_if_le (tgt := 100) hx hb dX1_holdsOut_93 (by decide) (fun c_6 => ?_) (fun c_6 => ?_)
                · have t_6 := i_le c_6
                  refine lv_iconst (v := 0) hx hb dX1_holdsOut_100 (by decide) ?_
                  exact jn_6 _ (if_neg (u_le c_6)).symm
                · have t_6 := i_nle c_6
                  refine lv_iconst (v := 1) hx hb dX1_holdsOut_96 (by decide) ?_
                  refine lv_goto (tgt := 101) hx hb dX1_holdsOut_97 (by decide) ?_
                  exact jn_6 _ (if_pos (u_nle c_6)).symm
              · have t_5 := i_eq c_5
                refine lv_aload_n hx hb dX1_holdsOut_55 rfl (lv_at hl 2 rfl) ?_
                refine g1_16 ha hP 56 (by decide) (cX_56 G _) (v := .ref (G.1 64)) rfl dX1_holdsOut_56 ?_
                refine lv_iload_n hx hb dX1_holdsOut_59 rfl (lv_at hl 1 rfl) ?_
                refine xialdN ha hP 64 (by decide) (cX_64 G _) j rfl (by omega) (by decide) dX1_holdsOut_60 ?_
                refine lv_aload_n hx hb dX1_holdsOut_61 rfl (lv_at hl 2 rfl) ?_
                refine g1_26 ha hP 56 (by decide) (cX_56 G _) (v := .ref (G.1 33)) rfl dX1_holdsOut_62 ?_
                refine lv_iload_n hx hb dX1_holdsOut_65 rfl (lv_at hl 1 rfl) ?_
                refine lv_iload hx hb dX1_holdsOut_66 (lv_at hl 0 rfl) ?_
                refine xVi ha hP hS (y := yX2_bearsWith) (As := [.int (nI j), .int x_4]) (rest := [.int (τj 64 j)]) 33 (by decide) (cX_33 G _) rfl rfl (c_X2_bearsWith G l τj 33 (nI j) x_4 (by unfold oPl; omega)) kw_X1_76 hd_X2_bearsWith rfl ⟨rfl, rfl⟩ ⟨Nat.le_of_ble_eq_true rfl, Nat.le_of_ble_eq_true rfl⟩ ⟨Nat.zero_le _, Nat.zero_le _⟩ hl.1 (Nat.le_of_ble_eq_true rfl) rfl dX1_holdsOut_68 (fun r u H locs hpq hP hS => ?_)
                obtain ⟨hr_, hu_⟩ := hpq
                have hr_ := hr_.symm
                have hu_ := hu_.symm
                subst hr_
                subst hu_
                rw [hPj]
                refine lv_icmp_le (tgt := 76) hx hb dX1_holdsOut_71 (by decide) (fun c_7 => ?_) (fun c_7 => ?_)
                · have t_7 := i_le c_7
                  have u_7 := u_le c_7
                  refine lv_aload_n hx hb dX1_holdsOut_76 rfl (lv_at hl 2 rfl) ?_
                  refine g1_11 ha hP 56 (by decide) (cX_56 G _) (v := .ref (G.1 57)) rfl dX1_holdsOut_77 ?_
                  refine lv_iload_n hx hb dX1_holdsOut_80 rfl (lv_at hl 3 rfl) ?_
                  refine lv_iconst (v := 1) hx hb dX1_holdsOut_81 (by decide) ?_
                  refine lv_iaddE (z := (nI (year + 1))) hx hb dX1_holdsOut_82 (nI_1 year) ?_
                  refine xaald ha hP 57 (by decide) 3 (cX_57 G _) rfl rfl (year + 1) rfl (by omega) (by decide) (q := G.1 (58 + (year + 1))) rfl dX1_holdsOut_83 ?_
                  refine lv_iload_n hx hb dX1_holdsOut_84 rfl (lv_at hl 1 rfl) ?_
                  refine lv_iload hx hb dX1_holdsOut_85 (lv_at hl 0 rfl) ?_
                  refine lv_aload_n hx hb dX1_holdsOut_87 rfl (lv_at hl 2 rfl) ?_
                  refine g1_16 ha hP 56 (by decide) (cX_56 G _) (v := .ref (G.1 64)) rfl dX1_holdsOut_88 ?_
                  refine lv_iload_n hx hb dX1_holdsOut_91 rfl (lv_at hl 1 rfl) ?_
                  refine xialdN ha hP 64 (by decide) (cX_64 G _) j rfl (by omega) (by decide) dX1_holdsOut_92 ?_
                  have jn_8 : ∀ x_8 : Int32, x_8 = (if 0 < (τj 64 j) then 1 else 0) → W p l e ({ frames := 3, cells := 0, slots := 0, locals := 69 } : Room) s m ([.ref (G.1 56), .int (nI year), .int one] : List Value).toArray below meth c H locs 0 0 (MQ below (va_Qi (fun (r : Int32) u => r = b2i (l_ok P σ year one) ∧ u = l_out P σ year one) (xB G 74 (cX G)) (xA G 74 s.heap.size)) ([.ref (G.1 56), .int (nI year), .int one] : List Value).toArray s 0 0 (xA G 74 s.heap.size)) (F0 m 101 ls [.int x_8, .int x_4, .int (nI j), .ref (G.1 (58 + (year + 1)))]) := by
                    intro x_8 ex_8
                    have hlx : (if 0 < σ 64 j then (1 : Int32) else 0) = x_8 := by rw [ex_8, hy3]
                    refine xNi ha hP hS (y := yX7_worn) (As := [.int x_4, .int x_8]) (rest := [.int (nI j), .ref (G.1 (58 + (year + 1)))]) "PoleNave" (nb_in (by decide +kernel)) (c_X7_worn G l τj x_4 x_8 ) kw_X1_79 hd_X7_worn rfl ⟨rfl, rfl⟩ ⟨Nat.le_of_ble_eq_true rfl, Nat.le_of_ble_eq_true rfl⟩ ⟨Nat.zero_le _, Nat.zero_le _⟩ hl.1 (Nat.le_of_ble_eq_true rfl) rfl dX1_holdsOut_101 (fun r u H locs hpq hP hS => ?_)
                    obtain ⟨hr_, hu_⟩ := hpq
                    have hr_ := hr_.symm
                    have hu_ := hu_.symm
                    subst hr_
                    subst hu_
                    refine xiastN ha hP hS (cX_loc G) (58 + (year + 1)) (by omega) (fun τ => cX_w G τ (by omega)) j rfl (by omega) (by decide) dX1_holdsOut_104 (fun H locs hP hS => ?_)
                    refine lv_iinc (v := (nI (j + 1))) (lv' := [(3, .int (nI (j + 1))), (4, .int x_4), (0, .ref (G.1 56)), (1, .int (nI year)), (2, .int one)]) hx hb dX1_holdsOut_105 hl (k := 1) rfl (nI_1 j) (by decide) rfl (fun ls hl => ?_)
                    refine lv_goto (tgt := 13) hx hb dX1_holdsOut_108 (by decide) ?_
                    exact ih_13 (j + 1) (mU τj (58 + (year + 1)) j (a_worn x_4 x_8)) _ _ _ (by omega) (by omega) (by rw [e_τj]; refine mF_s _ _ _ _ ?_; rw [l_wear, hbx, hlx]) (PO_mU hpj (by omega)) ((vP_mU _ _ _ (by omega)).trans hPj) (l_stop_s hst (by simp [l_bad, hbx, ← hy2, ← hy3, c_1, c_2, u_3, c_5, u_7])) hP hS (lv_sub hl [0, 2, 3, 4] rfl)
                  refine lv_if_le (tgt := 100) hx hb dX1_holdsOut_93 (by decide) (fun c_8 => ?_) (fun c_8 => ?_)
                  · have t_8 := i_le c_8
                    refine lv_iconst (v := 0) hx hb dX1_holdsOut_100 (by decide) ?_
                    exact jn_8 _ (if_neg (u_le c_8)).symm
                  · have t_8 := i_nle c_8
                    refine lv_iconst (v := 1) hx hb dX1_holdsOut_96 (by decide) ?_
                    refine lv_goto (tgt := 101) hx hb dX1_holdsOut_97 (by decide) ?_
                    exact jn_8 _ (if_pos (u_nle c_8)).symm
                · have t_7 := i_nle c_7
                  have u_7 := u_nle c_7
                  have HB : l_bad P σ year one j = true := by simp [l_bad, hbx, ← hy2, ← hy3, c_1, c_2, u_3, c_5, u_7]
                  have HS := l_stop_b hst HB (nPl P) (by rw [hmm]; exact hlt_j)
                  refine lv_iconst (v := 0) hx hb dX1_holdsOut_74 (by decide) ?_
                  exact xzret ha hP hS rfl dX1_holdsOut_75 ⟨by rw [show l_ok P σ year one = false from decide_eq_false (by rw [HS, hmm]; omega)]; rfl, (by rw [e_τj, l_out, HS])⟩ rfl
            refine lv_icmp_ne (tgt := 33) hx hb dX1_holdsOut_26 (by decide) (fun c_4 => ?_) (fun c_4 => ?_)
            · have t_4 := i_ne c_4
              refine lv_aload_n hx hb dX1_holdsOut_33 rfl (lv_at hl 1 rfl) ?_
              refine g1_11 ha hP 56 (by decide) (cX_56 G _) (v := .ref (G.1 57)) rfl dX1_holdsOut_34 ?_
              refine lv_iload_n hx hb dX1_holdsOut_37 rfl (lv_at hl 2 rfl) ?_
              refine xaald ha hP 57 (by decide) 3 (cX_57 G _) rfl rfl year rfl (by omega) (by decide) (q := G.1 (58 + year)) rfl dX1_holdsOut_38 ?_
              refine lv_iload_n hx hb dX1_holdsOut_39 rfl (lv_at hl 0 rfl) ?_
              refine xialdN ha hP (58 + year) (by omega) (cX_w G _ (by omega)) j rfl (by omega) (by decide) dX1_holdsOut_40 ?_
              exact jn_4 _ (if_neg c_4).symm
            · have t_4 := i_eq c_4
              refine lv_iconst (v := 0) hx hb dX1_holdsOut_29 (by decide) ?_
              refine lv_goto (tgt := 41) hx hb dX1_holdsOut_30 (by decide) ?_
              exact jn_4 _ (if_pos c_4).symm
      exact lp_13 ((ix (σ 33 0)) - 0 + 1) 0 σ _ _ _ (by omega) (by omega) (mF_0 _ _ _) hp hPP rfl hP hS (lv_sub hl [0, 1, 2, 3] rfl)
    · have t_2 := i_nlt c_2
      exfalso; omega
set_option maxHeartbeats 4000000 in
set_option maxRecDepth 100000 in
theorem c_X1_laceOn_0 (G : GT) (l : Launch) (σ : Mem) (P : PT) (Y : Int32) (year : Nat) (many : Int32) (hp : PO 33 σ) (hPP : vP σ 33 = P) (hL : LY σ Y) (hd : Y.toInt = (year : Int)) (hy : year ≤ 5) : CV G 74 (cX G) l yX1_laceOn ({ frames := 0 + 4, cells := 0, slots := 0, locals := 23 * (0) + 93 } : Room) cX1_laceOn 4 none [.ref (G.1 56), .int (nI year), .int many] σ (fun u => u = s_lace P 0 σ year many) := by
  intro sz
  refine xbegin (by decide) (Nat.le_of_ble_eq_true rfl) ?_
  intro p e s m below meth c ls hsz ha hP hl
  subst hsz
  have hx := ha.1
  have hb := ha.2.1
  have hS : va_S (xA G 74 s.heap.size) s.heap s.heap [] := va_S.rf
  have hl : lv_has ls 4 [(0, .ref (G.1 56)), (1, .int (nI year)), (2, .int many)] := hl
  have k_m9 : (-9 : Int32).toInt = -9 := by decide
  have k_0 : (0 : Int32).toInt = 0 := by decide
  have k_1 : (1 : Int32).toInt = 1 := by decide
  have k_5 : (5 : Int32).toInt = 5 := by decide
  have hnn := nPe_of hPP
  have hmm := nPl_of hPP
  have hLv : σ 56 1 = Y := hL
  have hy31 : (nI year).toInt = (year : Int) := nI_toInt (by omega)
  have hYv : (σ 56 1).toInt = Y.toInt := by rw [hLv]
  refine lv_iload_n hx hb dX1_laceOn_0 rfl (lv_at hl 2 rfl) ?_
  refine lv_aload_n hx hb dX1_laceOn_1 rfl (lv_at hl 0 rfl) ?_
  refine g1_48 ha hP 56 (by decide) (cX_56 G _) (v := .int (σ 56 2)) rfl dX1_laceOn_2 ?_
  refine lv_icmp_lt (tgt := 9) hx hb dX1_laceOn_5 (by decide) (fun c_1 => ?_) (fun c_1 => ?_)
  · have t_1 := i_lt c_1
    refine lv_iload_n hx hb dX1_laceOn_9 rfl (lv_at hl 1 rfl) ?_
    refine lv_aload_n hx hb dX1_laceOn_10 rfl (lv_at hl 0 rfl) ?_
    refine g1_45 ha hP 56 (by decide) (cX_56 G _) (v := .int (σ 56 1)) rfl dX1_laceOn_11 ?_
    refine lv_icmp_ge (tgt := 22) hx hb dX1_laceOn_14 (by decide) (fun c_2 => ?_) (fun c_2 => ?_)
    · have t_2 := i_le c_2
      have u_2 := u_le c_2
      refine lv_aload_n hx hb dX1_laceOn_22 rfl (lv_at hl 0 rfl) ?_
      refine lv_iload_n hx hb dX1_laceOn_23 rfl (lv_at hl 2 rfl) ?_
      refine p1_48 ha hP hS (cX_loc G) 56 (by decide) (cX_56 G _) (x := many) (Nat.le_of_ble_eq_true rfl) (mU σ 56 2 many) (fun q hq => mU_n _ _ _ hq) (cX_p56_2 G _ _) dX1_laceOn_24 (fun H locs hP hS => ?_)
      refine lv_aload_n hx hb dX1_laceOn_27 rfl (lv_at hl 0 rfl) ?_
      refine g1_20 ha hP 56 (by decide) (cX_56 G _) (v := .ref (G.1 65)) rfl dX1_laceOn_28 ?_
      refine lv_iconst (v := 0) hx hb dX1_laceOn_31 (by decide) ?_
      refine lv_aload_n hx hb dX1_laceOn_32 rfl (lv_at hl 0 rfl) ?_
      refine g1_23 ha hP 56 (by decide) (cX_56 G _) (v := .ref (G.1 66)) rfl dX1_laceOn_33 ?_
      refine lv_iconst (v := 0) hx hb dX1_laceOn_36 (by decide) ?_
      refine lv_iconst (v := 5) hx hb dX1_laceOn_37 (by decide) ?_
      refine xcopy0 ha hP hS (cX_loc G) (tb_in (w := .methodLink RX1 62 arraycopyName) (by decide +kernel)) 65 66 (by decide) (by decide) (n0 := 5) (n1 := 5) (fun τ => cX_65 G τ) (fun τ => cX_66 G τ) (k := 5) (by decide) (by decide) (by decide) rfl (by decide) (Nat.le_of_ble_eq_true rfl) hl.1 dX1_laceOn_38 (fun H locs hP hS => ?_)
      exact xvret ha hP hS dX1_laceOn_41 (by simp [s_lace, s_laced, c_1, u_2, i_leN, -Int32.not_lt] <;> rfl)
    · have t_2 := i_nle c_2
      have u_2 := u_nle c_2
      exfalso; omega
  · have t_1 := i_nlt c_1
    exact xvret ha hP hS dX1_laceOn_8 (by simp [s_lace, s_laced, c_1, i_leN, -Int32.not_lt] <;> rfl)
set_option maxHeartbeats 4000000 in
set_option maxRecDepth 100000 in
theorem c_X1_laceOn_s (G : GT) (l : Launch) (σ : Mem) (w : Nat) (P : PT) (Y : Int32) (year : Nat) (many : Int32) (hp : PO 33 σ) (hPP : vP σ 33 = P) (hL : LY σ Y) (hd : Y.toInt = ((year + (w + 1) : Nat) : Int)) (hy : year + (w + 1) ≤ 5) (ih : ∀ (τ : Mem) (many1 : Int32), PO 33 τ → vP τ 33 = P → LY τ Y → CV G 74 (cX G) l yX1_laceOn ({ frames := w + 4, cells := 0, slots := 0, locals := 23 * (w) + 93 } : Room) cX1_laceOn 4 none [.ref (G.1 56), .int (nI (year + 1)), .int many1] τ (fun u => u = s_lace P w τ (year + 1) many1)) : CV G 74 (cX G) l yX1_laceOn ({ frames := (w + 1) + 4, cells := 0, slots := 0, locals := 23 * ((w + 1)) + 93 } : Room) cX1_laceOn 4 none [.ref (G.1 56), .int (nI year), .int many] σ (fun u => u = s_lace P (w + 1) σ year many) := by
  intro sz
  refine xbegin (by decide) (Nat.le_of_ble_eq_true rfl) ?_
  intro p e s m below meth c ls hsz ha hP hl
  subst hsz
  have hx := ha.1
  have hb := ha.2.1
  have hS : va_S (xA G 74 s.heap.size) s.heap s.heap [] := va_S.rf
  have hl : lv_has ls 4 [(0, .ref (G.1 56)), (1, .int (nI year)), (2, .int many)] := hl
  have k_m9 : (-9 : Int32).toInt = -9 := by decide
  have k_0 : (0 : Int32).toInt = 0 := by decide
  have k_1 : (1 : Int32).toInt = 1 := by decide
  have k_5 : (5 : Int32).toInt = 5 := by decide
  have hnn := nPe_of hPP
  have hmm := nPl_of hPP
  have hLv : σ 56 1 = Y := hL
  have hy31 : (nI year).toInt = (year : Int) := nI_toInt (by omega)
  have hYv : (σ 56 1).toInt = Y.toInt := by rw [hLv]
  obtain ⟨hk, hk4, hkt⟩ := PO_pl hp
  refine lv_iload_n hx hb dX1_laceOn_0 rfl (lv_at hl 2 rfl) ?_
  refine lv_aload_n hx hb dX1_laceOn_1 rfl (lv_at hl 0 rfl) ?_
  refine g1_48 ha hP 56 (by decide) (cX_56 G _) (v := .int (σ 56 2)) rfl dX1_laceOn_2 ?_
  refine lv_icmp_lt (tgt := 9) hx hb dX1_laceOn_5 (by decide) (fun c_1 => ?_) (fun c_1 => ?_)
  · have t_1 := i_lt c_1
    refine lv_iload_n hx hb dX1_laceOn_9 rfl (lv_at hl 1 rfl) ?_
    refine lv_aload_n hx hb dX1_laceOn_10 rfl (lv_at hl 0 rfl) ?_
    refine g1_45 ha hP 56 (by decide) (cX_56 G _) (v := .int (σ 56 1)) rfl dX1_laceOn_11 ?_
    refine lv_icmp_ge (tgt := 22) hx hb dX1_laceOn_14 (by decide) (fun c_2 => ?_) (fun c_2 => ?_)
    · have t_2 := i_le c_2
      have u_2 := u_le c_2
      exfalso; omega
    · have t_2 := i_nle c_2
      have u_2 := u_nle c_2
      refine lv_iload_n hx hb dX1_laceOn_17 rfl (lv_at hl 1 rfl) ?_
      refine lv_iconst (v := 5) hx hb dX1_laceOn_18 (by decide) ?_
      refine lv_icmp_lt (tgt := 42) hx hb dX1_laceOn_19 (by decide) (fun c_3 => ?_) (fun c_3 => ?_)
      · have t_3 := i_lt c_3
        refine lv_aload_n hx hb dX1_laceOn_42 rfl (lv_at hl 0 rfl) ?_
        refine g1_20 ha hP 56 (by decide) (cX_56 G _) (v := .ref (G.1 65)) rfl dX1_laceOn_43 ?_
        refine lv_iload_n hx hb dX1_laceOn_46 rfl (lv_at hl 1 rfl) ?_
        refine lv_bipush (v := (-9)) hx hb dX1_laceOn_47 (by decide) ?_
        refine xiastN ha hP hS (cX_loc G) 65 (by decide) (fun τ => cX_65 G τ) year rfl (by omega) (by decide) dX1_laceOn_49 (fun H locs hP hS => ?_)
        refine lv_aload_n hx hb dX1_laceOn_50 rfl (lv_at hl 0 rfl) ?_
        refine lv_iload_n hx hb dX1_laceOn_51 rfl (lv_at hl 1 rfl) ?_
        refine lv_bipush (v := (-9)) hx hb dX1_laceOn_52 (by decide) ?_
        refine xVi ha hP hS (y := yX1_holdsOut) (As := [.int (nI year), .int (-9)]) (rest := []) 56 (by decide) (cX_56 G _) rfl rfl (c_X1_holdsOut G l (mU σ 65 year (-9)) P year (-9) (PO_mU hp (by decide)) ((vP_mU _ _ _ (by decide)).trans hPP) (by omega)) kw_X1_68 hd_X1_holdsOut rfl ⟨rfl, rfl⟩ ⟨by dsimp only; omega, by dsimp only; omega⟩ ⟨Nat.zero_le _, Nat.zero_le _⟩ hl.1 (Nat.le_of_ble_eq_true rfl) rfl dX1_laceOn_54 (fun r u H locs hpq hP hS => ?_)
        obtain ⟨hr_, hu_⟩ := hpq
        have hr_ := hr_.symm
        have hu_ := hu_.symm
        subst hr_
        subst hu_
        refine lv_if_eq (tgt := 68) hx hb dX1_laceOn_57 (by decide) (fun c_4 => ?_) (fun c_4 => ?_)
        · have t_4 := b2i_f c_4
          refine lv_iconst (v := 0) hx hb dX1_laceOn_68 (by decide) ?_
          refine lv_istore_n (lv' := [(3, .int 0), (0, .ref (G.1 56)), (1, .int (nI year)), (2, .int many)]) hx hb dX1_laceOn_69 rfl hl (by decide) rfl (fun ls hl => ?_)
          have lp_70 : ∀ (d j : Nat) (τj : Mem) (H : Heap) (locs : List Loc) (ls : Array Slot), j ≤ (ix (σ 33 0)) → (ix (σ 33 0)) - j < d → τj = forM (s_laceK P w year many) j (s_lace0 P w year many σ) → (PO 33 τj) → (vP τj 33 = P) → (LY τj Y) → va_P G.2.1 vwCl (wl G 74 (cX G τj)) H → va_S (xA G 74 s.heap.size) s.heap H locs → lv_has ls 4 [(3, .int (nI j)), (0, .ref (G.1 56)), (1, .int (nI year)), (2, .int many)] → W p l e ({ frames := (w + 1) + 4, cells := 0, slots := 0, locals := 23 * ((w + 1)) + 93 } : Room) s m ([.ref (G.1 56), .int (nI year), .int many] : List Value).toArray below meth c H locs 0 0 (MQ below (va_Qv (fun u => u = s_lace P (w + 1) σ year many) (xB G 74 (cX G)) (xA G 74 s.heap.size)) ([.ref (G.1 56), .int (nI year), .int many] : List Value).toArray s 0 0 (xA G 74 s.heap.size)) (F0 m 70 ls []) := by
            intro d
            induction d with
            | zero => intro j τj H locs ls hj hd; exact absurd hd (Nat.not_lt_zero _)
            | succ d ih_70 =>
              intro j τj H locs ls hj_j hd_j e_τj hpj hPj hLj hP hS hl
              have h31_j : (nI j).toInt = (j : Int) := nI_toInt (by omega)
              have hz := nPl_of hPj
              have hz2 := PO_pl hpj
              have hz3 : (τj 33 0).toInt = (ix (σ 33 0) : Int) := by rw [hz2.2.2, ← hz, hmm]
              refine lv_iload_n hx hb dX1_laceOn_70 rfl (lv_at hl 0 rfl) ?_
              refine lv_aload_n hx hb dX1_laceOn_71 rfl (lv_at hl 1 rfl) ?_
              refine g1_26 ha hP 56 (by decide) (cX_56 G _) (v := .ref (G.1 33)) rfl dX1_laceOn_72 ?_
              refine g1_51 ha hP 33 (by decide) (cX_33 G _) (v := .int (τj 33 0)) rfl dX1_laceOn_75 ?_
              refine lv_icmp_ge (tgt := 125) hx hb dX1_laceOn_78 (by decide) (fun c_5 => ?_) (fun c_5 => ?_)
              · have t_5 := i_le c_5
                have u_5 := u_le c_5
                obtain rfl : j = (ix (σ 33 0)) := by omega
                exact xvret ha hP hS dX1_laceOn_125 (by first | (rw [s_lace_s]; simp [c_1, u_2, c_3, t_4, u_5, i_leN, -Int32.not_lt]; done) | (rw [s_lace_s, if_pos (by assumption), e_τj, hmm]))
              · have t_5 := i_nle c_5
                have u_5 := u_nle c_5
                have hlt_j : j < (ix (σ 33 0)) := by omega
                refine lv_aload_n hx hb dX1_laceOn_81 rfl (lv_at hl 1 rfl) ?_
                refine g1_20 ha hP 56 (by decide) (cX_56 G _) (v := .ref (G.1 65)) rfl dX1_laceOn_82 ?_
                refine lv_iload_n hx hb dX1_laceOn_85 rfl (lv_at hl 2 rfl) ?_
                refine lv_iload_n hx hb dX1_laceOn_86 rfl (lv_at hl 0 rfl) ?_
                refine xiastN ha hP hS (cX_loc G) 65 (by decide) (fun τ => cX_65 G τ) year rfl (by omega) (by decide) dX1_laceOn_87 (fun H locs hP hS => ?_)
                refine lv_aload_n hx hb dX1_laceOn_88 rfl (lv_at hl 1 rfl) ?_
                refine g1_36 ha hP 56 (by decide) (cX_56 G _) (v := .int ((mU τj 65 year (nI j)) 56 0)) rfl dX1_laceOn_89 ?_
                refine lv_iload_n hx hb dX1_laceOn_92 rfl (lv_at hl 0 rfl) ?_
                refine lv_ishr hx hb dX1_laceOn_93 ?_
                refine lv_iconst (v := 1) hx hb dX1_laceOn_94 (by decide) ?_
                refine lv_iand hx hb dX1_laceOn_95 ?_
                refine lv_iconst (v := 1) hx hb dX1_laceOn_96 (by decide) ?_
                refine lv_icmp_ne (tgt := 119) hx hb dX1_laceOn_97 (by decide) (fun c_6 => ?_) (fun c_6 => ?_)
                · have t_6 := i_ne c_6
                  refine lv_iinc (v := (nI (j + 1))) (lv' := [(3, .int (nI (j + 1))), (0, .ref (G.1 56)), (1, .int (nI year)), (2, .int many)]) hx hb dX1_laceOn_119 hl (k := 0) rfl (nI_1 j) (by decide) rfl (fun ls hl => ?_)
                  refine lv_goto (tgt := 70) hx hb dX1_laceOn_122 (by decide) ?_
                  exact ih_70 (j + 1) (mU τj 65 year (nI j)) _ _ _ (by omega) (by omega) (by rw [show forM (s_laceK P w year many) (j + 1) (s_lace0 P w year many σ) = s_laceK P w year many j (forM (s_laceK P w year many) j (s_lace0 P w year many σ)) from rfl, ← e_τj]; simp [s_laceK, c_1, u_2, c_3, t_4, u_5, c_6]) (PO_mU hpj (by decide)) ((vP_mU _ _ _ (by decide)).trans hPj) (LY_mU hLj (by decide)) hP hS (lv_sub hl [0, 1, 2, 3] rfl)
                · have t_6 := i_eq c_6
                  refine lv_aload_n hx hb dX1_laceOn_100 rfl (lv_at hl 1 rfl) ?_
                  refine lv_iload_n hx hb dX1_laceOn_101 rfl (lv_at hl 2 rfl) ?_
                  refine lv_iload_n hx hb dX1_laceOn_102 rfl (lv_at hl 0 rfl) ?_
                  refine xVi ha hP hS (y := yX1_holdsOut) (As := [.int (nI year), .int (nI j)]) (rest := []) 56 (by decide) (cX_56 G _) rfl rfl (c_X1_holdsOut G l (mU τj 65 year (nI j)) P year (nI j) (PO_mU hpj (by decide)) ((vP_mU _ _ _ (by decide)).trans hPj) (by omega)) kw_X1_68 hd_X1_holdsOut rfl ⟨rfl, rfl⟩ ⟨by dsimp only; omega, by dsimp only; omega⟩ ⟨Nat.zero_le _, Nat.zero_le _⟩ hl.1 (Nat.le_of_ble_eq_true rfl) rfl dX1_laceOn_103 (fun r u H locs hpq hP hS => ?_)
                  obtain ⟨hr_, hu_⟩ := hpq
                  have hr_ := hr_.symm
                  have hu_ := hu_.symm
                  subst hr_
                  subst hu_
                  refine lv_if_eq (tgt := 119) hx hb dX1_laceOn_106 (by decide) (fun c_7 => ?_) (fun c_7 => ?_)
                  · have t_7 := b2i_f c_7
                    refine lv_iinc (v := (nI (j + 1))) (lv' := [(3, .int (nI (j + 1))), (0, .ref (G.1 56)), (1, .int (nI year)), (2, .int many)]) hx hb dX1_laceOn_119 hl (k := 0) rfl (nI_1 j) (by decide) rfl (fun ls hl => ?_)
                    refine lv_goto (tgt := 70) hx hb dX1_laceOn_122 (by decide) ?_
                    exact ih_70 (j + 1) (l_out P (mU τj 65 year (nI j)) year (nI j)) _ _ _ (by omega) (by omega) (by rw [show forM (s_laceK P w year many) (j + 1) (s_lace0 P w year many σ) = s_laceK P w year many j (forM (s_laceK P w year many) j (s_lace0 P w year many σ)) from rfl, ← e_τj]; simp [s_laceK, c_1, u_2, c_3, t_4, u_5, c_6, t_7]) (PO_l_out _ _ (PO_mU hpj (by decide))) (l_out_P _ _ ((vP_mU _ _ _ (by decide)).trans hPj)) (LY_out _ _ (LY_mU hLj (by decide))) hP hS (lv_sub hl [0, 1, 2, 3] rfl)
                  · have t_7 := b2i_t c_7
                    refine lv_aload_n hx hb dX1_laceOn_109 rfl (lv_at hl 1 rfl) ?_
                    refine lv_iload_n hx hb dX1_laceOn_110 rfl (lv_at hl 2 rfl) ?_
                    refine lv_iconst (v := 1) hx hb dX1_laceOn_111 (by decide) ?_
                    refine lv_iaddE (z := (nI (year + 1))) hx hb dX1_laceOn_112 (nI_1 year) ?_
                    refine lv_iload_n hx hb dX1_laceOn_113 rfl (lv_at hl 3 rfl) ?_
                    refine lv_iconst (v := 1) hx hb dX1_laceOn_114 (by decide) ?_
                    refine lv_iadd hx hb dX1_laceOn_115 ?_
                    refine xSv ha hP hS (y := yX1_laceOn) (As := [.ref (G.1 56), .int (nI (year + 1)), .int (many + 1)]) (rest := []) rfl (ih (l_out P (mU τj 65 year (nI j)) year (nI j)) (many + 1) (PO_l_out _ _ (PO_mU hpj (by decide))) (l_out_P _ _ ((vP_mU _ _ _ (by decide)).trans hPj)) (LY_out _ _ (LY_mU hLj (by decide)))) kw_X1_72 hd_X1_laceOn rfl ⟨rfl, rfl⟩ ⟨by dsimp only; omega, by dsimp only; omega⟩ ⟨Nat.zero_le _, Nat.zero_le _⟩ hl.1 (Nat.le_of_ble_eq_true rfl) rfl dX1_laceOn_116 (fun u H locs hpq hP hS => ?_)
                    have hpq := hpq.symm
                    subst hpq
                    refine lv_iinc (v := (nI (j + 1))) (lv' := [(3, .int (nI (j + 1))), (0, .ref (G.1 56)), (1, .int (nI year)), (2, .int many)]) hx hb dX1_laceOn_119 hl (k := 0) rfl (nI_1 j) (by decide) rfl (fun ls hl => ?_)
                    refine lv_goto (tgt := 70) hx hb dX1_laceOn_122 (by decide) ?_
                    exact ih_70 (j + 1) (s_lace P w (l_out P (mU τj 65 year (nI j)) year (nI j)) (year + 1) (many + 1)) _ _ _ (by omega) (by omega) (by rw [show forM (s_laceK P w year many) (j + 1) (s_lace0 P w year many σ) = s_laceK P w year many j (forM (s_laceK P w year many) j (s_lace0 P w year many σ)) from rfl, ← e_τj]; simp [s_laceK, c_1, u_2, c_3, t_4, u_5, c_6, t_7]) (PO_s_lace _ _ _ (PO_l_out _ _ (PO_mU hpj (by decide)))) (s_lace_P _ _ _ (l_out_P _ _ ((vP_mU _ _ _ (by decide)).trans hPj))) (LY_lace _ _ _ (LY_out _ _ (LY_mU hLj (by decide)))) hP hS (lv_sub hl [0, 1, 2, 3] rfl)
          exact lp_70 ((ix (σ 33 0)) - 0 + 1) 0 (l_out P (mU σ 65 year (-9)) year (-9)) _ _ _ (by omega) (by omega) (by show _ = s_lace0 _ _ _ _ _; simp [s_lace0, c_1, u_2, c_3, t_4]) (PO_l_out _ _ (PO_mU hp (by decide))) (l_out_P _ _ ((vP_mU _ _ _ (by decide)).trans hPP)) (LY_out _ _ (LY_mU hL (by decide))) hP hS (lv_sub hl [0, 1, 2, 3] rfl)
        · have t_4 := b2i_t c_4
          refine lv_aload_n hx hb dX1_laceOn_60 rfl (lv_at hl 0 rfl) ?_
          refine lv_iload_n hx hb dX1_laceOn_61 rfl (lv_at hl 1 rfl) ?_
          refine lv_iconst (v := 1) hx hb dX1_laceOn_62 (by decide) ?_
          refine lv_iaddE (z := (nI (year + 1))) hx hb dX1_laceOn_63 (nI_1 year) ?_
          refine lv_iload_n hx hb dX1_laceOn_64 rfl (lv_at hl 2 rfl) ?_
          refine xSv ha hP hS (y := yX1_laceOn) (As := [.ref (G.1 56), .int (nI (year + 1)), .int many]) (rest := []) rfl (ih (l_out P (mU σ 65 year (-9)) year (-9)) many (PO_l_out _ _ (PO_mU hp (by decide))) (l_out_P _ _ ((vP_mU _ _ _ (by decide)).trans hPP)) (LY_out _ _ (LY_mU hL (by decide)))) kw_X1_72 hd_X1_laceOn rfl ⟨rfl, rfl⟩ ⟨by dsimp only; omega, by dsimp only; omega⟩ ⟨Nat.zero_le _, Nat.zero_le _⟩ hl.1 (Nat.le_of_ble_eq_true rfl) rfl dX1_laceOn_65 (fun u H locs hpq hP hS => ?_)
          have hpq := hpq.symm
          subst hpq
          refine lv_iconst (v := 0) hx hb dX1_laceOn_68 (by decide) ?_
          refine lv_istore_n (lv' := [(3, .int 0), (0, .ref (G.1 56)), (1, .int (nI year)), (2, .int many)]) hx hb dX1_laceOn_69 rfl hl (by decide) rfl (fun ls hl => ?_)
          have lp_70 : ∀ (d j : Nat) (τj : Mem) (H : Heap) (locs : List Loc) (ls : Array Slot), j ≤ (ix (σ 33 0)) → (ix (σ 33 0)) - j < d → τj = forM (s_laceK P w year many) j (s_lace0 P w year many σ) → (PO 33 τj) → (vP τj 33 = P) → (LY τj Y) → va_P G.2.1 vwCl (wl G 74 (cX G τj)) H → va_S (xA G 74 s.heap.size) s.heap H locs → lv_has ls 4 [(3, .int (nI j)), (0, .ref (G.1 56)), (1, .int (nI year)), (2, .int many)] → W p l e ({ frames := (w + 1) + 4, cells := 0, slots := 0, locals := 23 * ((w + 1)) + 93 } : Room) s m ([.ref (G.1 56), .int (nI year), .int many] : List Value).toArray below meth c H locs 0 0 (MQ below (va_Qv (fun u => u = s_lace P (w + 1) σ year many) (xB G 74 (cX G)) (xA G 74 s.heap.size)) ([.ref (G.1 56), .int (nI year), .int many] : List Value).toArray s 0 0 (xA G 74 s.heap.size)) (F0 m 70 ls []) := by
            intro d
            induction d with
            | zero => intro j τj H locs ls hj hd; exact absurd hd (Nat.not_lt_zero _)
            | succ d ih_70 =>
              intro j τj H locs ls hj_j hd_j e_τj hpj hPj hLj hP hS hl
              have h31_j : (nI j).toInt = (j : Int) := nI_toInt (by omega)
              have hz := nPl_of hPj
              have hz2 := PO_pl hpj
              have hz3 : (τj 33 0).toInt = (ix (σ 33 0) : Int) := by rw [hz2.2.2, ← hz, hmm]
              refine lv_iload_n hx hb dX1_laceOn_70 rfl (lv_at hl 0 rfl) ?_
              refine lv_aload_n hx hb dX1_laceOn_71 rfl (lv_at hl 1 rfl) ?_
              refine g1_26 ha hP 56 (by decide) (cX_56 G _) (v := .ref (G.1 33)) rfl dX1_laceOn_72 ?_
              refine g1_51 ha hP 33 (by decide) (cX_33 G _) (v := .int (τj 33 0)) rfl dX1_laceOn_75 ?_
              refine lv_icmp_ge (tgt := 125) hx hb dX1_laceOn_78 (by decide) (fun c_8 => ?_) (fun c_8 => ?_)
              · have t_8 := i_le c_8
                have u_8 := u_le c_8
                obtain rfl : j = (ix (σ 33 0)) := by omega
                exact xvret ha hP hS dX1_laceOn_125 (by first | (rw [s_lace_s]; simp [c_1, u_2, c_3, t_4, u_8, i_leN, -Int32.not_lt]; done) | (rw [s_lace_s, if_pos (by assumption), e_τj, hmm]))
              · have t_8 := i_nle c_8
                have u_8 := u_nle c_8
                have hlt_j : j < (ix (σ 33 0)) := by omega
                refine lv_aload_n hx hb dX1_laceOn_81 rfl (lv_at hl 1 rfl) ?_
                refine g1_20 ha hP 56 (by decide) (cX_56 G _) (v := .ref (G.1 65)) rfl dX1_laceOn_82 ?_
                refine lv_iload_n hx hb dX1_laceOn_85 rfl (lv_at hl 2 rfl) ?_
                refine lv_iload_n hx hb dX1_laceOn_86 rfl (lv_at hl 0 rfl) ?_
                refine xiastN ha hP hS (cX_loc G) 65 (by decide) (fun τ => cX_65 G τ) year rfl (by omega) (by decide) dX1_laceOn_87 (fun H locs hP hS => ?_)
                refine lv_aload_n hx hb dX1_laceOn_88 rfl (lv_at hl 1 rfl) ?_
                refine g1_36 ha hP 56 (by decide) (cX_56 G _) (v := .int ((mU τj 65 year (nI j)) 56 0)) rfl dX1_laceOn_89 ?_
                refine lv_iload_n hx hb dX1_laceOn_92 rfl (lv_at hl 0 rfl) ?_
                refine lv_ishr hx hb dX1_laceOn_93 ?_
                refine lv_iconst (v := 1) hx hb dX1_laceOn_94 (by decide) ?_
                refine lv_iand hx hb dX1_laceOn_95 ?_
                refine lv_iconst (v := 1) hx hb dX1_laceOn_96 (by decide) ?_
                refine lv_icmp_ne (tgt := 119) hx hb dX1_laceOn_97 (by decide) (fun c_9 => ?_) (fun c_9 => ?_)
                · have t_9 := i_ne c_9
                  refine lv_iinc (v := (nI (j + 1))) (lv' := [(3, .int (nI (j + 1))), (0, .ref (G.1 56)), (1, .int (nI year)), (2, .int many)]) hx hb dX1_laceOn_119 hl (k := 0) rfl (nI_1 j) (by decide) rfl (fun ls hl => ?_)
                  refine lv_goto (tgt := 70) hx hb dX1_laceOn_122 (by decide) ?_
                  exact ih_70 (j + 1) (mU τj 65 year (nI j)) _ _ _ (by omega) (by omega) (by rw [show forM (s_laceK P w year many) (j + 1) (s_lace0 P w year many σ) = s_laceK P w year many j (forM (s_laceK P w year many) j (s_lace0 P w year many σ)) from rfl, ← e_τj]; simp [s_laceK, c_1, u_2, c_3, t_4, u_8, c_9]) (PO_mU hpj (by decide)) ((vP_mU _ _ _ (by decide)).trans hPj) (LY_mU hLj (by decide)) hP hS (lv_sub hl [0, 1, 2, 3] rfl)
                · have t_9 := i_eq c_9
                  refine lv_aload_n hx hb dX1_laceOn_100 rfl (lv_at hl 1 rfl) ?_
                  refine lv_iload_n hx hb dX1_laceOn_101 rfl (lv_at hl 2 rfl) ?_
                  refine lv_iload_n hx hb dX1_laceOn_102 rfl (lv_at hl 0 rfl) ?_
                  refine xVi ha hP hS (y := yX1_holdsOut) (As := [.int (nI year), .int (nI j)]) (rest := []) 56 (by decide) (cX_56 G _) rfl rfl (c_X1_holdsOut G l (mU τj 65 year (nI j)) P year (nI j) (PO_mU hpj (by decide)) ((vP_mU _ _ _ (by decide)).trans hPj) (by omega)) kw_X1_68 hd_X1_holdsOut rfl ⟨rfl, rfl⟩ ⟨by dsimp only; omega, by dsimp only; omega⟩ ⟨Nat.zero_le _, Nat.zero_le _⟩ hl.1 (Nat.le_of_ble_eq_true rfl) rfl dX1_laceOn_103 (fun r u H locs hpq hP hS => ?_)
                  obtain ⟨hr_, hu_⟩ := hpq
                  have hr_ := hr_.symm
                  have hu_ := hu_.symm
                  subst hr_
                  subst hu_
                  refine lv_if_eq (tgt := 119) hx hb dX1_laceOn_106 (by decide) (fun c_10 => ?_) (fun c_10 => ?_)
                  · have t_10 := b2i_f c_10
                    refine lv_iinc (v := (nI (j + 1))) (lv' := [(3, .int (nI (j + 1))), (0, .ref (G.1 56)), (1, .int (nI year)), (2, .int many)]) hx hb dX1_laceOn_119 hl (k := 0) rfl (nI_1 j) (by decide) rfl (fun ls hl => ?_)
                    refine lv_goto (tgt := 70) hx hb dX1_laceOn_122 (by decide) ?_
                    exact ih_70 (j + 1) (l_out P (mU τj 65 year (nI j)) year (nI j)) _ _ _ (by omega) (by omega) (by rw [show forM (s_laceK P w year many) (j + 1) (s_lace0 P w year many σ) = s_laceK P w year many j (forM (s_laceK P w year many) j (s_lace0 P w year many σ)) from rfl, ← e_τj]; simp [s_laceK, c_1, u_2, c_3, t_4, u_8, c_9, t_10]) (PO_l_out _ _ (PO_mU hpj (by decide))) (l_out_P _ _ ((vP_mU _ _ _ (by decide)).trans hPj)) (LY_out _ _ (LY_mU hLj (by decide))) hP hS (lv_sub hl [0, 1, 2, 3] rfl)
                  · have t_10 := b2i_t c_10
                    refine lv_aload_n hx hb dX1_laceOn_109 rfl (lv_at hl 1 rfl) ?_
                    refine lv_iload_n hx hb dX1_laceOn_110 rfl (lv_at hl 2 rfl) ?_
                    refine lv_iconst (v := 1) hx hb dX1_laceOn_111 (by decide) ?_
                    refine lv_iaddE (z := (nI (year + 1))) hx hb dX1_laceOn_112 (nI_1 year) ?_
                    refine lv_iload_n hx hb dX1_laceOn_113 rfl (lv_at hl 3 rfl) ?_
                    refine lv_iconst (v := 1) hx hb dX1_laceOn_114 (by decide) ?_
                    refine lv_iadd hx hb dX1_laceOn_115 ?_
                    refine xSv ha hP hS (y := yX1_laceOn) (As := [.ref (G.1 56), .int (nI (year + 1)), .int (many + 1)]) (rest := []) rfl (ih (l_out P (mU τj 65 year (nI j)) year (nI j)) (many + 1) (PO_l_out _ _ (PO_mU hpj (by decide))) (l_out_P _ _ ((vP_mU _ _ _ (by decide)).trans hPj)) (LY_out _ _ (LY_mU hLj (by decide)))) kw_X1_72 hd_X1_laceOn rfl ⟨rfl, rfl⟩ ⟨by dsimp only; omega, by dsimp only; omega⟩ ⟨Nat.zero_le _, Nat.zero_le _⟩ hl.1 (Nat.le_of_ble_eq_true rfl) rfl dX1_laceOn_116 (fun u H locs hpq hP hS => ?_)
                    have hpq := hpq.symm
                    subst hpq
                    refine lv_iinc (v := (nI (j + 1))) (lv' := [(3, .int (nI (j + 1))), (0, .ref (G.1 56)), (1, .int (nI year)), (2, .int many)]) hx hb dX1_laceOn_119 hl (k := 0) rfl (nI_1 j) (by decide) rfl (fun ls hl => ?_)
                    refine lv_goto (tgt := 70) hx hb dX1_laceOn_122 (by decide) ?_
                    exact ih_70 (j + 1) (s_lace P w (l_out P (mU τj 65 year (nI j)) year (nI j)) (year + 1) (many + 1)) _ _ _ (by omega) (by omega) (by rw [show forM (s_laceK P w year many) (j + 1) (s_lace0 P w year many σ) = s_laceK P w year many j (forM (s_laceK P w year many) j (s_lace0 P w year many σ)) from rfl, ← e_τj]; simp [s_laceK, c_1, u_2, c_3, t_4, u_8, c_9, t_10]) (PO_s_lace _ _ _ (PO_l_out _ _ (PO_mU hpj (by decide)))) (s_lace_P _ _ _ (l_out_P _ _ ((vP_mU _ _ _ (by decide)).trans hPj))) (LY_lace _ _ _ (LY_out _ _ (LY_mU hLj (by decide)))) hP hS (lv_sub hl [0, 1, 2, 3] rfl)
          exact lp_70 ((ix (σ 33 0)) - 0 + 1) 0 (s_lace P w (l_out P (mU σ 65 year (-9)) year (-9)) (year + 1) many) _ _ _ (by omega) (by omega) (by show _ = s_lace0 _ _ _ _ _; simp [s_lace0, c_1, u_2, c_3, t_4]) (PO_s_lace _ _ _ (PO_l_out _ _ (PO_mU hp (by decide)))) (s_lace_P _ _ _ (l_out_P _ _ ((vP_mU _ _ _ (by decide)).trans hPP))) (LY_lace _ _ _ (LY_out _ _ (LY_mU hL (by decide)))) hP hS (lv_sub hl [0, 1, 2, 3] rfl)
      · have t_3 := i_nlt c_3
        exfalso; omega
  · have t_1 := i_nlt c_1
    exact xvret ha hP hS dX1_laceOn_8 (by first | (rw [s_lace_s]; simp [c_1, i_leN, -Int32.not_lt]; done) | (rw [s_lace_s, if_pos (by assumption), e_τj, hmm]))
theorem c_X1_laceOn (G : GT) (l : Launch) (P : PT) (Y : Int32) : ∀ (d : Nat) (σ : Mem) (year : Nat) (many : Int32), PO 33 σ → vP σ 33 = P → LY σ Y → Y.toInt = ((year + d : Nat) : Int) → year + d ≤ 5 → CV G 74 (cX G) l yX1_laceOn ({ frames := d + 4, cells := 0, slots := 0, locals := 23 * (d) + 93 } : Room) cX1_laceOn 4 none [.ref (G.1 56), .int (nI year), .int many] σ (fun u => u = s_lace P d σ year many)
  | 0, σ, year, many, hp, hP, hL, hd, hy => c_X1_laceOn_0 G l σ P Y year many hp hP hL hd hy
  | d + 1, σ, year, many, hp, hP, hL, hd, hy => c_X1_laceOn_s G l σ d P Y year many hp hP hL hd hy (fun τ h hp1 hP1 hL1 => c_X1_laceOn G l P Y d τ (year + 1) h hp1 hP1 hL1 (by omega) (by omega))
theorem isOne_nI {P : PT} {σ : Mem} {i : Nat} (hp : PO 33 σ) (hP : vP σ 33 = P) (hi : i < nPe P) : a_isOne P (nI i) = true := by
  obtain ⟨h1, h5, ht⟩ := PO_pe hp
  have hn := nPe_of hP
  have e : P 0 1 = nI (nPe P) := by rw [hn, ← h1, ← hP]; rfl
  unfold a_isOne
  rw [e]
  simp only [Bool.and_eq_true, decide_eq_true_eq]
  exact ⟨nI_pos' (by omega), nI_lt hi (by omega), by rw [show (5 : Int32) = nI 5 from rfl]; exact nI_lt (by omega) (by decide)⟩
theorem mF3_s (σ : Mem) {a b c : Nat} (j : Nat) (f g h : Nat → Int32) (hab : a ≠ b) (hac : a ≠ c) (hbc : b ≠ c) {v w u : Int32} (hv : v = f j) (hw : w = g j) (hu : u = h j) : mU (mU (mU (mF (mF (mF σ a j f) b j g) c j h) a j v) b j w) c j u = mF (mF (mF σ a (j + 1) f) b (j + 1) g) c (j + 1) h := by
  rw [mF_mU _ _ _ _ _ hac, mF_mU _ _ _ _ _ hbc, mF_s _ _ _ _ hu, mF2_s _ _ _ _ hab hv hw]
set_option maxHeartbeats 4000000 in
set_option maxRecDepth 100000 in
theorem c_X5_seat (G : GT) (l : Launch) (σ : Mem) (P : PT) (i : Nat) (k : Int32) (hp : PO 33 σ) (hPP : vP σ 33 = P) (hi : i < nPe P) : CV G 74 (cX G) l yX5_seat ({ frames := 2, cells := 0, slots := 0, locals := 44 } : Room) cX5_seat 3 none [.ref (G.1 67), .int (nI i), .int k] σ (fun u => u = m_seat P σ i k) := by
  intro sz
  refine xbegin (by decide) (Nat.le_of_ble_eq_true rfl) ?_
  intro p e s m below meth c ls hsz ha hP hl
  subst hsz
  have hx := ha.1
  have hb := ha.2.1
  have hS : va_S (xA G 74 s.heap.size) s.heap s.heap [] := va_S.rf
  have hl : lv_has ls 3 [(0, .ref (G.1 67)), (1, .int (nI i)), (2, .int k)] := hl
  have k_0 : (0 : Int32).toInt = 0 := by decide
  have hnn := nPe_of hPP
  have hmm := nPl_of hPP
  have hone := isOne_nI hp hPP hi
  obtain ⟨hn, hn4, hnt⟩ := PO_pe hp
  have hi5 : i < 5 := by omega
  refine lv_aload_n hx hb dX5_seat_0 rfl (lv_at hl 0 rfl) ?_
  refine g5_24 ha hP 67 (by decide) (cX_67 G _) (v := .ref (G.1 33)) rfl dX5_seat_1 ?_
  refine lv_iload_n hx hb dX5_seat_4 rfl (lv_at hl 1 rfl) ?_
  refine xVi ha hP hS (y := yX2_isOne) (As := [.int (nI i)]) (rest := []) 33 (by decide) (cX_33 G _) rfl rfl (c_X2_isOne G l σ 33 (nI i) (by unfold oPl; omega)) kw_X5_54 hd_X2_isOne rfl ⟨rfl, rfl⟩ ⟨Nat.le_of_ble_eq_true rfl, Nat.le_of_ble_eq_true rfl⟩ ⟨Nat.zero_le _, Nat.zero_le _⟩ hl.1 (Nat.le_of_ble_eq_true rfl) rfl dX5_seat_5 (fun r u H locs hpq hP hS => ?_)
  obtain ⟨hr_, hu_⟩ := hpq
  have hr_ := hr_.symm
  have hu_ := hu_.symm
  subst hr_
  subst hu_
  rw [hPP]
  refine lv_if_eq (tgt := 65) hx hb dX5_seat_8 (by decide) (fun c_1 => ?_) (fun c_1 => ?_)
  · have t_1 := b2i_f c_1
    exact absurd (hone.symm.trans t_1) (by decide)
  · have t_1 := b2i_t c_1
    have f_1 := isOne_t t_1
    refine lv_aload_n hx hb dX5_seat_11 rfl (lv_at hl 0 rfl) ?_
    refine g5_24 ha hP 67 (by decide) (cX_67 G _) (v := .ref (G.1 33)) rfl dX5_seat_12 ?_
    refine lv_iload_n hx hb dX5_seat_15 rfl (lv_at hl 2 rfl) ?_
    refine xVi ha hP hS (y := yX2_isPole) (As := [.int k]) (rest := []) 33 (by decide) (cX_33 G _) rfl rfl (c_X2_isPole G l σ 33 k (by unfold oPl; omega)) kw_X5_58 hd_X2_isPole rfl ⟨rfl, rfl⟩ ⟨Nat.le_of_ble_eq_true rfl, Nat.le_of_ble_eq_true rfl⟩ ⟨Nat.zero_le _, Nat.zero_le _⟩ hl.1 (Nat.le_of_ble_eq_true rfl) rfl dX5_seat_16 (fun r u H locs hpq hP hS => ?_)
    obtain ⟨hr_, hu_⟩ := hpq
    have hr_ := hr_.symm
    have hu_ := hu_.symm
    subst hr_
    subst hu_
    rw [hPP]
    refine lv_if_eq (tgt := 65) hx hb dX5_seat_19 (by decide) (fun c_2 => ?_) (fun c_2 => ?_)
    · have t_2 := b2i_f c_2
      exact xvret ha hP hS dX5_seat_65 (by simp [m_seat, t_1, t_2, mU_e])
    · have t_2 := b2i_t c_2
      have f_2 := isPole_t t_2
      refine lv_aload_n hx hb dX5_seat_22 rfl (lv_at hl 0 rfl) ?_
      refine g5_9 ha hP 67 (by decide) (cX_67 G _) (v := .ref (G.1 68)) rfl dX5_seat_23 ?_
      refine lv_iload_n hx hb dX5_seat_26 rfl (lv_at hl 1 rfl) ?_
      refine lv_iload_n hx hb dX5_seat_27 rfl (lv_at hl 2 rfl) ?_
      refine xiastN ha hP hS (cX_loc G) 68 (by decide) (fun τ => cX_68 G τ) i rfl (by omega) (by decide) dX5_seat_28 (fun H locs hP hS => ?_)
      refine lv_aload_n hx hb dX5_seat_29 rfl (lv_at hl 0 rfl) ?_
      refine g5_15 ha hP 67 (by decide) (cX_67 G _) (v := .ref (G.1 69)) rfl dX5_seat_30 ?_
      refine lv_iload_n hx hb dX5_seat_33 rfl (lv_at hl 2 rfl) ?_
      refine lv_dup2_11 hx hb dX5_seat_34 rfl rfl ?_
      refine xialdN ha hP 69 (by decide) (cX_69 G _) (ix k) (ix_nI (by omega)) (ix_lt (by omega) (by omega)) (by decide) dX5_seat_35 ?_
      refine lv_aload_n hx hb dX5_seat_36 rfl (lv_at hl 0 rfl) ?_
      refine g5_24 ha hP 67 (by decide) (cX_67 G _) (v := .ref (G.1 33)) rfl dX5_seat_37 ?_
      refine lv_iload_n hx hb dX5_seat_40 rfl (lv_at hl 1 rfl) ?_
      refine lv_iload_n hx hb dX5_seat_41 rfl (lv_at hl 2 rfl) ?_
      refine xVi ha hP hS (y := yX2_loadBy) (As := [.int (nI i), .int k]) (rest := [.int ((mU σ 68 i k) 69 (ix k)), .int k, .ref (G.1 69)]) 33 (by decide) (cX_33 G _) rfl rfl (c_X2_loadBy G l (mU σ 68 i k) 33 (nI i) k (by unfold oPl; omega) (PO_mU hp (by decide))) kw_X5_61 hd_X2_loadBy rfl ⟨rfl, rfl⟩ ⟨Nat.le_of_ble_eq_true rfl, Nat.le_of_ble_eq_true rfl⟩ ⟨Nat.zero_le _, Nat.zero_le _⟩ hl.1 (Nat.le_of_ble_eq_true rfl) rfl dX5_seat_42 (fun r u H locs hpq hP hS => ?_)
      obtain ⟨hr_, hu_⟩ := hpq
      have hr_ := hr_.symm
      have hu_ := hu_.symm
      subst hr_
      subst hu_
      rw [((vP_mU _ _ _ (by decide)).trans hPP)]
      refine lv_iadd hx hb dX5_seat_45 ?_
      refine xiastN ha hP hS (cX_loc G) 69 (by decide) (fun τ => cX_69 G τ) (ix k) (ix_nI (by omega)) (ix_lt (by omega) (by omega)) (by decide) dX5_seat_46 (fun H locs hP hS => ?_)
      refine lv_aload_n hx hb dX5_seat_47 rfl (lv_at hl 0 rfl) ?_
      refine g5_18 ha hP 67 (by decide) (cX_67 G _) (v := .ref (G.1 70)) rfl dX5_seat_48 ?_
      refine lv_iload_n hx hb dX5_seat_51 rfl (lv_at hl 2 rfl) ?_
      refine lv_dup2_11 hx hb dX5_seat_52 rfl rfl ?_
      refine xialdN ha hP 70 (by decide) (cX_70 G _) (ix k) (ix_nI (by omega)) (ix_lt (by omega) (by omega)) (by decide) dX5_seat_53 ?_
      refine lv_aload_n hx hb dX5_seat_54 rfl (lv_at hl 0 rfl) ?_
      refine g5_24 ha hP 67 (by decide) (cX_67 G _) (v := .ref (G.1 33)) rfl dX5_seat_55 ?_
      refine lv_iload_n hx hb dX5_seat_58 rfl (lv_at hl 1 rfl) ?_
      refine lv_iload_n hx hb dX5_seat_59 rfl (lv_at hl 2 rfl) ?_
      refine xVi ha hP hS (y := yX2_highOn) (As := [.int (nI i), .int k]) (rest := [.int ((mU (mU σ 68 i k) 69 (ix k) (((mU σ 68 i k) 69 (ix k)) + (a_loadBy P (nI i) k))) 70 (ix k)), .int k, .ref (G.1 70)]) 33 (by decide) (cX_33 G _) rfl rfl (c_X2_highOn G l (mU (mU σ 68 i k) 69 (ix k) (((mU σ 68 i k) 69 (ix k)) + (a_loadBy P (nI i) k))) 33 (nI i) k (by unfold oPl; omega) (PO_mU (PO_mU hp (by decide)) (by decide))) kw_X5_65 hd_X2_highOn rfl ⟨rfl, rfl⟩ ⟨Nat.le_of_ble_eq_true rfl, Nat.le_of_ble_eq_true rfl⟩ ⟨Nat.zero_le _, Nat.zero_le _⟩ hl.1 (Nat.le_of_ble_eq_true rfl) rfl dX5_seat_60 (fun r u H locs hpq hP hS => ?_)
      obtain ⟨hr_, hu_⟩ := hpq
      have hr_ := hr_.symm
      have hu_ := hu_.symm
      subst hr_
      subst hu_
      rw [((vP_mU _ _ _ (by decide)).trans ((vP_mU _ _ _ (by decide)).trans hPP))]
      refine lv_iadd hx hb dX5_seat_63 ?_
      refine xiastN ha hP hS (cX_loc G) 70 (by decide) (fun τ => cX_70 G τ) (ix k) (ix_nI (by omega)) (ix_lt (by omega) (by omega)) (by decide) dX5_seat_64 (fun H locs hP hS => ?_)
      exact xvret ha hP hS dX5_seat_65 (by simp [m_seat, t_1, t_2, mU_e])
set_option maxHeartbeats 4000000 in
set_option maxRecDepth 100000 in
theorem c_X5_unseat (G : GT) (l : Launch) (σ : Mem) (P : PT) (i : Nat) (hp : PO 33 σ) (hPP : vP σ 33 = P) (hi : i < nPe P) : CI G 74 (cX G) l yX5_unseat ({ frames := 2, cells := 0, slots := 0, locals := 44 } : Room) cX5_unseat 3 (some .int) [.ref (G.1 67), .int (nI i)] σ (fun (r : Int32) u => r = σ 68 i ∧ u = m_unseat P σ i) := by
  intro sz
  refine xbegin (by decide) (Nat.le_of_ble_eq_true rfl) ?_
  intro p e s m below meth c ls hsz ha hP hl
  subst hsz
  have hx := ha.1
  have hb := ha.2.1
  have hS : va_S (xA G 74 s.heap.size) s.heap s.heap [] := va_S.rf
  have hl : lv_has ls 3 [(0, .ref (G.1 67)), (1, .int (nI i))] := hl
  have k_m9 : (-9 : Int32).toInt = -9 := by decide
  have k_0 : (0 : Int32).toInt = 0 := by decide
  have hnn := nPe_of hPP
  have hmm := nPl_of hPP
  have hone := isOne_nI hp hPP hi
  obtain ⟨hn, hn4, hnt⟩ := PO_pe hp
  have hi5 : i < 5 := by omega
  refine lv_aload_n hx hb dX5_unseat_0 rfl (lv_at hl 0 rfl) ?_
  refine g5_24 ha hP 67 (by decide) (cX_67 G _) (v := .ref (G.1 33)) rfl dX5_unseat_1 ?_
  refine lv_iload_n hx hb dX5_unseat_4 rfl (lv_at hl 1 rfl) ?_
  refine xVi ha hP hS (y := yX2_isOne) (As := [.int (nI i)]) (rest := []) 33 (by decide) (cX_33 G _) rfl rfl (c_X2_isOne G l σ 33 (nI i) (by unfold oPl; omega)) kw_X5_54 hd_X2_isOne rfl ⟨rfl, rfl⟩ ⟨Nat.le_of_ble_eq_true rfl, Nat.le_of_ble_eq_true rfl⟩ ⟨Nat.zero_le _, Nat.zero_le _⟩ hl.1 (Nat.le_of_ble_eq_true rfl) rfl dX5_unseat_5 (fun r u H locs hpq hP hS => ?_)
  obtain ⟨hr_, hu_⟩ := hpq
  have hr_ := hr_.symm
  have hu_ := hu_.symm
  subst hr_
  subst hu_
  rw [hPP]
  have jn_1 : ∀ x_1 : Int32, x_1 = (if (a_isOne P (nI i)) = true then (σ 68 i) else (-9)) → W p l e ({ frames := 2, cells := 0, slots := 0, locals := 44 } : Room) s m ([.ref (G.1 67), .int (nI i)] : List Value).toArray below meth c H locs 0 0 (MQ below (va_Qi (fun (r : Int32) u => r = σ 68 i ∧ u = m_unseat P σ i) (xB G 74 (cX G)) (xA G 74 s.heap.size)) ([.ref (G.1 67), .int (nI i)] : List Value).toArray s 0 0 (xA G 74 s.heap.size)) (F0 m 22 ls [.int x_1]) := by
    intro x_1 ex_1
    have hx_1 : x_1 = (σ 68 i) := (by rw [ex_1, if_pos hone])
    clear ex_1
    subst hx_1
    refine lv_istore_n (lv' := [(2, .int (σ 68 i)), (0, .ref (G.1 67)), (1, .int (nI i))]) hx hb dX5_unseat_22 rfl hl (by decide) rfl (fun ls hl => ?_)
    refine lv_aload_n hx hb dX5_unseat_23 rfl (lv_at hl 1 rfl) ?_
    refine g5_24 ha hP 67 (by decide) (cX_67 G _) (v := .ref (G.1 33)) rfl dX5_unseat_24 ?_
    refine lv_iload_n hx hb dX5_unseat_27 rfl (lv_at hl 0 rfl) ?_
    refine xVi ha hP hS (y := yX2_isPole) (As := [.int (σ 68 i)]) (rest := []) 33 (by decide) (cX_33 G _) rfl rfl (c_X2_isPole G l σ 33 (σ 68 i) (by unfold oPl; omega)) kw_X5_58 hd_X2_isPole rfl ⟨rfl, rfl⟩ ⟨Nat.le_of_ble_eq_true rfl, Nat.le_of_ble_eq_true rfl⟩ ⟨Nat.zero_le _, Nat.zero_le _⟩ hl.1 (Nat.le_of_ble_eq_true rfl) rfl dX5_unseat_28 (fun r u H locs hpq hP hS => ?_)
    obtain ⟨hr_, hu_⟩ := hpq
    have hr_ := hr_.symm
    have hu_ := hu_.symm
    subst hr_
    subst hu_
    rw [hPP]
    refine lv_if_eq (tgt := 78) hx hb dX5_unseat_31 (by decide) (fun c_2 => ?_) (fun c_2 => ?_)
    · have t_2 := b2i_f c_2
      refine lv_iload_n hx hb dX5_unseat_78 rfl (lv_at hl 0 rfl) ?_
      exact xiret ha hP hS dX5_unseat_79 ⟨by rfl, (by simp [m_unseat, t_2, mU_e])⟩ rfl
    · have t_2 := b2i_t c_2
      have f_2 := isPole_t t_2
      refine lv_aload_n hx hb dX5_unseat_34 rfl (lv_at hl 1 rfl) ?_
      refine g5_9 ha hP 67 (by decide) (cX_67 G _) (v := .ref (G.1 68)) rfl dX5_unseat_35 ?_
      refine lv_iload_n hx hb dX5_unseat_38 rfl (lv_at hl 2 rfl) ?_
      refine lv_bipush (v := (-9)) hx hb dX5_unseat_39 (by decide) ?_
      refine xiastN ha hP hS (cX_loc G) 68 (by decide) (fun τ => cX_68 G τ) i rfl (by omega) (by decide) dX5_unseat_41 (fun H locs hP hS => ?_)
      refine lv_aload_n hx hb dX5_unseat_42 rfl (lv_at hl 1 rfl) ?_
      refine g5_15 ha hP 67 (by decide) (cX_67 G _) (v := .ref (G.1 69)) rfl dX5_unseat_43 ?_
      refine lv_iload_n hx hb dX5_unseat_46 rfl (lv_at hl 0 rfl) ?_
      refine lv_dup2_11 hx hb dX5_unseat_47 rfl rfl ?_
      refine xialdN ha hP 69 (by decide) (cX_69 G _) (ix (σ 68 i)) (ix_nI (by omega)) (ix_lt (by omega) (by omega)) (by decide) dX5_unseat_48 ?_
      refine lv_aload_n hx hb dX5_unseat_49 rfl (lv_at hl 1 rfl) ?_
      refine g5_24 ha hP 67 (by decide) (cX_67 G _) (v := .ref (G.1 33)) rfl dX5_unseat_50 ?_
      refine lv_iload_n hx hb dX5_unseat_53 rfl (lv_at hl 2 rfl) ?_
      refine lv_iload_n hx hb dX5_unseat_54 rfl (lv_at hl 0 rfl) ?_
      refine xVi ha hP hS (y := yX2_loadBy) (As := [.int (nI i), .int (σ 68 i)]) (rest := [.int ((mU σ 68 i (-9)) 69 (ix (σ 68 i))), .int (σ 68 i), .ref (G.1 69)]) 33 (by decide) (cX_33 G _) rfl rfl (c_X2_loadBy G l (mU σ 68 i (-9)) 33 (nI i) (σ 68 i) (by unfold oPl; omega) (PO_mU hp (by decide))) kw_X5_61 hd_X2_loadBy rfl ⟨rfl, rfl⟩ ⟨Nat.le_of_ble_eq_true rfl, Nat.le_of_ble_eq_true rfl⟩ ⟨Nat.zero_le _, Nat.zero_le _⟩ hl.1 (Nat.le_of_ble_eq_true rfl) rfl dX5_unseat_55 (fun r u H locs hpq hP hS => ?_)
      obtain ⟨hr_, hu_⟩ := hpq
      have hr_ := hr_.symm
      have hu_ := hu_.symm
      subst hr_
      subst hu_
      rw [((vP_mU _ _ _ (by decide)).trans hPP)]
      refine lv_isub hx hb dX5_unseat_58 ?_
      refine xiastN ha hP hS (cX_loc G) 69 (by decide) (fun τ => cX_69 G τ) (ix (σ 68 i)) (ix_nI (by omega)) (ix_lt (by omega) (by omega)) (by decide) dX5_unseat_59 (fun H locs hP hS => ?_)
      refine lv_aload_n hx hb dX5_unseat_60 rfl (lv_at hl 1 rfl) ?_
      refine g5_18 ha hP 67 (by decide) (cX_67 G _) (v := .ref (G.1 70)) rfl dX5_unseat_61 ?_
      refine lv_iload_n hx hb dX5_unseat_64 rfl (lv_at hl 0 rfl) ?_
      refine lv_dup2_11 hx hb dX5_unseat_65 rfl rfl ?_
      refine xialdN ha hP 70 (by decide) (cX_70 G _) (ix (σ 68 i)) (ix_nI (by omega)) (ix_lt (by omega) (by omega)) (by decide) dX5_unseat_66 ?_
      refine lv_aload_n hx hb dX5_unseat_67 rfl (lv_at hl 1 rfl) ?_
      refine g5_24 ha hP 67 (by decide) (cX_67 G _) (v := .ref (G.1 33)) rfl dX5_unseat_68 ?_
      refine lv_iload_n hx hb dX5_unseat_71 rfl (lv_at hl 2 rfl) ?_
      refine lv_iload_n hx hb dX5_unseat_72 rfl (lv_at hl 0 rfl) ?_
      refine xVi ha hP hS (y := yX2_highOn) (As := [.int (nI i), .int (σ 68 i)]) (rest := [.int ((mU (mU σ 68 i (-9)) 69 (ix (σ 68 i)) (((mU σ 68 i (-9)) 69 (ix (σ 68 i))) - (a_loadBy P (nI i) (σ 68 i)))) 70 (ix (σ 68 i))), .int (σ 68 i), .ref (G.1 70)]) 33 (by decide) (cX_33 G _) rfl rfl (c_X2_highOn G l (mU (mU σ 68 i (-9)) 69 (ix (σ 68 i)) (((mU σ 68 i (-9)) 69 (ix (σ 68 i))) - (a_loadBy P (nI i) (σ 68 i)))) 33 (nI i) (σ 68 i) (by unfold oPl; omega) (PO_mU (PO_mU hp (by decide)) (by decide))) kw_X5_65 hd_X2_highOn rfl ⟨rfl, rfl⟩ ⟨Nat.le_of_ble_eq_true rfl, Nat.le_of_ble_eq_true rfl⟩ ⟨Nat.zero_le _, Nat.zero_le _⟩ hl.1 (Nat.le_of_ble_eq_true rfl) rfl dX5_unseat_73 (fun r u H locs hpq hP hS => ?_)
      obtain ⟨hr_, hu_⟩ := hpq
      have hr_ := hr_.symm
      have hu_ := hu_.symm
      subst hr_
      subst hu_
      rw [((vP_mU _ _ _ (by decide)).trans ((vP_mU _ _ _ (by decide)).trans hPP))]
      refine lv_isub hx hb dX5_unseat_76 ?_
      refine xiastN ha hP hS (cX_loc G) 70 (by decide) (fun τ => cX_70 G τ) (ix (σ 68 i)) (ix_nI (by omega)) (ix_lt (by omega) (by omega)) (by decide) dX5_unseat_77 (fun H locs hP hS => ?_)
      refine lv_iload_n hx hb dX5_unseat_78 rfl (lv_at hl 0 rfl) ?_
      exact xiret ha hP hS dX5_unseat_79 ⟨by rfl, (by simp [m_unseat, t_2, mU_e])⟩ rfl
  refine lv_if_eq (tgt := 20) hx hb dX5_unseat_8 (by decide) (fun c_1 => ?_) (fun c_1 => ?_)
  · have t_1 := b2i_f c_1
    refine lv_bipush (v := (-9)) hx hb dX5_unseat_20 (by decide) ?_
    exact jn_1 _ (if_neg (Bool.eq_false_iff.mp t_1)).symm
  · have t_1 := b2i_t c_1
    have f_1 := isOne_t t_1
    refine lv_aload_n hx hb dX5_unseat_11 rfl (lv_at hl 0 rfl) ?_
    refine g5_9 ha hP 67 (by decide) (cX_67 G _) (v := .ref (G.1 68)) rfl dX5_unseat_12 ?_
    refine lv_iload_n hx hb dX5_unseat_15 rfl (lv_at hl 1 rfl) ?_
    refine xialdN ha hP 68 (by decide) (cX_68 G _) i rfl (by omega) (by decide) dX5_unseat_16 ?_
    refine lv_goto (tgt := 22) hx hb dX5_unseat_17 (by decide) ?_
    exact jn_1 _ (if_pos t_1).symm
set_option maxHeartbeats 4000000 in
set_option maxRecDepth 100000 in
theorem c_X5_worth (G : GT) (l : Launch) (σ : Mem) (P : PT) (hp : PO 33 σ) (hPP : vP σ 33 = P) : CI G 74 (cX G) l yX5_worth ({ frames := 0, cells := 0, slots := 0, locals := 0 } : Room) cX5_worth 3 (some .int) [.ref (G.1 67)] σ (fun (r : Int32) u => r = a_worth P σ ∧ u = σ) := by
  intro sz
  refine xbegin (by decide) (Nat.le_of_ble_eq_true rfl) ?_
  intro p e s m below meth c ls hsz ha hP hl
  subst hsz
  have hx := ha.1
  have hb := ha.2.1
  have hS : va_S (xA G 74 s.heap.size) s.heap s.heap [] := va_S.rf
  have hl : lv_has ls 3 [(0, .ref (G.1 67))] := hl
  have k_0 : (0 : Int32).toInt = 0 := by decide
  have hnn := nPe_of hPP
  have hmm := nPl_of hPP
  obtain ⟨hn, hn4, hnt⟩ := PO_pl hp
  refine lv_iconst (v := 0) hx hb dX5_worth_0 (by decide) ?_
  refine lv_istore_n (lv' := [(1, .int 0), (0, .ref (G.1 67))]) hx hb dX5_worth_1 rfl hl (by decide) rfl (fun ls hl => ?_)
  refine lv_iconst (v := 0) hx hb dX5_worth_2 (by decide) ?_
  refine lv_istore_n (lv' := [(2, .int 0), (1, .int 0), (0, .ref (G.1 67))]) hx hb dX5_worth_3 rfl hl (by decide) rfl (fun ls hl => ?_)
  have lp_4 : ∀ (d j : Nat) (x1 : Int32) (H : Heap) (locs : List Loc) (ls : Array Slot), j ≤ (ix (σ 33 0)) → (ix (σ 33 0)) - j < d → x1 = a_sum (fun k => if σ 71 k < σ 69 k then 0 else σ 70 k) j → va_P G.2.1 vwCl (wl G 74 (cX G σ)) H → va_S (xA G 74 s.heap.size) s.heap H locs → lv_has ls 3 [(2, .int (nI j)), (1, .int x1), (0, .ref (G.1 67))] → W p l e ({ frames := 0, cells := 0, slots := 0, locals := 0 } : Room) s m ([.ref (G.1 67)] : List Value).toArray below meth c H locs 0 0 (MQ below (va_Qi (fun (r : Int32) u => r = a_worth P σ ∧ u = σ) (xB G 74 (cX G)) (xA G 74 s.heap.size)) ([.ref (G.1 67)] : List Value).toArray s 0 0 (xA G 74 s.heap.size)) (F0 m 4 ls []) := by
    intro d
    induction d with
    | zero => intro j x1 H locs ls hj hd; exact absurd hd (Nat.not_lt_zero _)
    | succ d ih_4 =>
      intro j x1 H locs ls hj_j hd_j e_x1 hP hS hl
      have h31_j : (nI j).toInt = (j : Int) := nI_toInt (by omega)
      refine lv_iload_n hx hb dX5_worth_4 rfl (lv_at hl 0 rfl) ?_
      refine lv_aload_n hx hb dX5_worth_5 rfl (lv_at hl 2 rfl) ?_
      refine g5_24 ha hP 67 (by decide) (cX_67 G _) (v := .ref (G.1 33)) rfl dX5_worth_6 ?_
      refine g5_37 ha hP 33 (by decide) (cX_33 G _) (v := .int (σ 33 0)) rfl dX5_worth_9 ?_
      refine lv_icmp_ge (tgt := 49) hx hb dX5_worth_12 (by decide) (fun c_1 => ?_) (fun c_1 => ?_)
      · have t_1 := i_le c_1
        have u_1 := u_le c_1
        obtain rfl : j = (ix (σ 33 0)) := by omega
        refine lv_iload_n hx hb dX5_worth_49 rfl (lv_at hl 1 rfl) ?_
        exact xiret ha hP hS dX5_worth_50 ⟨by rw [a_worth, hmm]; assumption, rfl⟩ rfl
      · have t_1 := i_nle c_1
        have u_1 := u_nle c_1
        have hlt_j : j < (ix (σ 33 0)) := by omega
        refine lv_iload_n hx hb dX5_worth_15 rfl (lv_at hl 1 rfl) ?_
        refine lv_aload_n hx hb dX5_worth_16 rfl (lv_at hl 2 rfl) ?_
        refine g5_15 ha hP 67 (by decide) (cX_67 G _) (v := .ref (G.1 69)) rfl dX5_worth_17 ?_
        refine lv_iload_n hx hb dX5_worth_20 rfl (lv_at hl 0 rfl) ?_
        refine xialdN ha hP 69 (by decide) (cX_69 G _) j rfl (by omega) (by decide) dX5_worth_21 ?_
        refine lv_aload_n hx hb dX5_worth_22 rfl (lv_at hl 2 rfl) ?_
        refine g5_21 ha hP 67 (by decide) (cX_67 G _) (v := .ref (G.1 71)) rfl dX5_worth_23 ?_
        refine lv_iload_n hx hb dX5_worth_26 rfl (lv_at hl 0 rfl) ?_
        refine xialdN ha hP 71 (by decide) (cX_71 G _) j rfl (by omega) (by decide) dX5_worth_27 ?_
        have jn_2 : ∀ x_2 : Int32, x_2 = (if (σ 71 j) < (σ 69 j) then 0 else (σ 70 j)) → W p l e ({ frames := 0, cells := 0, slots := 0, locals := 0 } : Room) s m ([.ref (G.1 67)] : List Value).toArray below meth c H locs 0 0 (MQ below (va_Qi (fun (r : Int32) u => r = a_worth P σ ∧ u = σ) (xB G 74 (cX G)) (xA G 74 s.heap.size)) ([.ref (G.1 67)] : List Value).toArray s 0 0 (xA G 74 s.heap.size)) (F0 m 41 ls [.int x_2, .int x1]) := by
          intro x_2 ex_2
          refine lv_iadd hx hb dX5_worth_41 ?_
          refine lv_istore_n (lv' := [(1, .int (x1 + x_2)), (2, .int (nI j)), (0, .ref (G.1 67))]) hx hb dX5_worth_42 rfl hl (by decide) rfl (fun ls hl => ?_)
          refine lv_iinc (v := (nI (j + 1))) (lv' := [(2, .int (nI (j + 1))), (1, .int (x1 + x_2)), (0, .ref (G.1 67))]) hx hb dX5_worth_43 hl (k := 1) rfl (nI_1 j) (by decide) rfl (fun ls hl => ?_)
          refine lv_goto (tgt := 4) hx hb dX5_worth_46 (by decide) ?_
          exact ih_4 (j + 1) (x1 + x_2) _ _ _ (by omega) (by omega) (by simp [a_sum, i_leN, e_x1, u_1, ex_2, -Int32.not_lt] <;> first | rfl | simp_all) hP hS (lv_sub hl [0, 1, 2] rfl)
        refine lv_icmp_gt (tgt := 40) hx hb dX5_worth_28 (by decide) (fun c_2 => ?_) (fun c_2 => ?_)
        · have t_2 := i_lt c_2
          refine lv_iconst (v := 0) hx hb dX5_worth_40 (by decide) ?_
          exact jn_2 _ (if_pos c_2).symm
        · have t_2 := i_nlt c_2
          refine lv_aload_n hx hb dX5_worth_31 rfl (lv_at hl 2 rfl) ?_
          refine g5_18 ha hP 67 (by decide) (cX_67 G _) (v := .ref (G.1 70)) rfl dX5_worth_32 ?_
          refine lv_iload_n hx hb dX5_worth_35 rfl (lv_at hl 0 rfl) ?_
          refine xialdN ha hP 70 (by decide) (cX_70 G _) j rfl (by omega) (by decide) dX5_worth_36 ?_
          refine lv_goto (tgt := 41) hx hb dX5_worth_37 (by decide) ?_
          exact jn_2 _ (if_neg c_2).symm
  exact lp_4 ((ix (σ 33 0)) - 0 + 1) 0 0 _ _ _ (by omega) (by omega) (by first | rfl | simp [a_sum, i_leN, -Int32.not_lt] <;> first | rfl | simp_all) hP hS (lv_sub hl [0, 1, 2] rfl)
set_option maxHeartbeats 4000000 in
set_option maxRecDepth 100000 in
theorem c_X5_begin (G : GT) (l : Launch) (σ : Mem)  (hp : PO 33 σ) : CV G 74 (cX G) l yX5_begin ({ frames := 3, cells := 0, slots := 0, locals := 68 } : Room) cX5_begin 3 none [.ref (G.1 67), .ref (G.1 45)] σ (fun u => u = (m_gBegin (vP σ 33) (vS σ 45) σ)) := by
  intro sz
  refine xbegin (by decide) (Nat.le_of_ble_eq_true rfl) ?_
  intro p e s m below meth c ls hsz ha hP hl
  subst hsz
  have hx := ha.1
  have hb := ha.2.1
  have hS : va_S (xA G 74 s.heap.size) s.heap s.heap [] := va_S.rf
  have hl : lv_has ls 3 [(0, .ref (G.1 67)), (1, .ref (G.1 45))] := hl
  have k_m9 : (-9 : Int32).toInt = -9 := by decide
  have k_0 : (0 : Int32).toInt = 0 := by decide
  obtain ⟨hn, hn4, hnt⟩ := PO_pl hp
  obtain ⟨hm, hm5, hmt⟩ := PO_pe hp
  refine lv_aload_n hx hb dX5_begin_0 rfl (lv_at hl 0 rfl) ?_
  refine lv_aload_n hx hb dX5_begin_1 rfl (lv_at hl 1 rfl) ?_
  refine xVi ha hP hS (y := yX4_up) (As := []) (rest := [.ref (G.1 67)]) 45 (by decide) (cX_45 G _) rfl rfl (c_X4_up G l σ 45 (by unfold oSc; omega)) kw_X5_28 hd_X4_up rfl ⟨rfl, rfl⟩ ⟨Nat.le_of_ble_eq_true rfl, Nat.le_of_ble_eq_true rfl⟩ ⟨Nat.zero_le _, Nat.zero_le _⟩ hl.1 (Nat.le_of_ble_eq_true rfl) rfl dX5_begin_2 (fun r u H locs hpq hP hS => ?_)
  obtain ⟨hr_, hu_⟩ := hpq
  have hr_ := hr_.symm
  have hu_ := hu_.symm
  subst hr_
  subst hu_
  refine p5_34 ha hP hS (cX_loc G) 67 (by decide) (cX_67 G _) (x := (a_up (vP σ 33) (vS σ 45))) (Nat.le_of_ble_eq_true rfl) (mU σ 67 0 (a_up (vP σ 33) (vS σ 45))) (fun q hq => mU_n _ _ _ hq) (cX_p67_0 G _ _) dX5_begin_5 (fun H locs hP hS => ?_)
  refine lv_iconst (v := 0) hx hb dX5_begin_8 (by decide) ?_
  refine lv_istore_n (lv' := [(2, .int 0), (0, .ref (G.1 67)), (1, .ref (G.1 45))]) hx hb dX5_begin_9 rfl hl (by decide) rfl (fun ls hl => ?_)
  have lp_10 : ∀ (d j : Nat) (σj : Mem) (H : Heap) (locs : List Loc) (ls : Array Slot), j ≤ (ix (σ 33 0)) → (ix (σ 33 0)) - j < d → σj = mF (mF (mF (mU σ 67 0 (a_up (vP σ 33) (vS σ 45))) 69 j (fun _ => 0)) 70 j (fun _ => 0)) 71 j (fun k => a_bearsNow (vP σ 33) (vS σ 45) (nI k)) → (PO 33 σj) → (vP σj 33 = (vP σ 33)) → (vS σj 45 = (vS σ 45)) → va_P G.2.1 vwCl (wl G 74 (cX G σj)) H → va_S (xA G 74 s.heap.size) s.heap H locs → lv_has ls 3 [(2, .int (nI j)), (0, .ref (G.1 67)), (1, .ref (G.1 45))] → W p l e ({ frames := 3, cells := 0, slots := 0, locals := 68 } : Room) s m ([.ref (G.1 67), .ref (G.1 45)] : List Value).toArray below meth c H locs 0 0 (MQ below (va_Qv (fun u => u = (m_gBegin (vP σ 33) (vS σ 45) σ)) (xB G 74 (cX G)) (xA G 74 s.heap.size)) ([.ref (G.1 67), .ref (G.1 45)] : List Value).toArray s 0 0 (xA G 74 s.heap.size)) (F0 m 10 ls []) := by
    intro d
    induction d with
    | zero => intro j σj H locs ls hj hd; exact absurd hd (Nat.not_lt_zero _)
    | succ d ih_10 =>
      intro j σj H locs ls hj_j hd_j e_σj hpj hPj hSj hP hS hl
      have h31_j : (nI j).toInt = (j : Int) := nI_toInt (by omega)
      have hz : σj 33 = σ 33 := by rw [e_σj]; rfl
      have hz2 : (σj 33 0).toInt = (ix (σ 33 0) : Int) := by rw [hz]; exact hnt
      refine lv_iload_n hx hb dX5_begin_10 rfl (lv_at hl 0 rfl) ?_
      refine lv_aload_n hx hb dX5_begin_11 rfl (lv_at hl 1 rfl) ?_
      refine g5_24 ha hP 67 (by decide) (cX_67 G _) (v := .ref (G.1 33)) rfl dX5_begin_12 ?_
      refine g5_37 ha hP 33 (by decide) (cX_33 G _) (v := .int (σj 33 0)) rfl dX5_begin_15 ?_
      refine lv_icmp_ge (tgt := 52) hx hb dX5_begin_18 (by decide) (fun c_1 => ?_) (fun c_1 => ?_)
      · have t_1 := i_le c_1
        have u_1 := u_le c_1
        obtain rfl : j = (ix (σ 33 0)) := by omega
        refine lv_iconst (v := 0) hx hb dX5_begin_52 (by decide) ?_
        refine lv_istore_n (lv' := [(2, .int 0), (0, .ref (G.1 67)), (1, .ref (G.1 45))]) hx hb dX5_begin_53 rfl hl (by decide) rfl (fun ls hl => ?_)
        have lp_54 : ∀ (d j1 : Nat) (τj : Mem) (H : Heap) (locs : List Loc) (ls : Array Slot), j1 ≤ (ix (σ 33 1)) → (ix (σ 33 1)) - j1 < d → τj = m_seatsN (vP σ 33) (σ 47) j1 (mF (mF (mF (mU σ 67 0 (a_up (vP σ 33) (vS σ 45))) 69 (ix (σ 33 0)) (fun _ => 0)) 70 (ix (σ 33 0)) (fun _ => 0)) 71 (ix (σ 33 0)) (fun k => a_bearsNow (vP σ 33) (vS σ 45) (nI k))) → (PO 33 τj) → (vP τj 33 = (vP σ 33)) → va_P G.2.1 vwCl (wl G 74 (cX G τj)) H → va_S (xA G 74 s.heap.size) s.heap H locs → lv_has ls 3 [(2, .int (nI j1)), (0, .ref (G.1 67)), (1, .ref (G.1 45))] → W p l e ({ frames := 3, cells := 0, slots := 0, locals := 68 } : Room) s m ([.ref (G.1 67), .ref (G.1 45)] : List Value).toArray below meth c H locs 0 0 (MQ below (va_Qv (fun u => u = (m_gBegin (vP σ 33) (vS σ 45) σ)) (xB G 74 (cX G)) (xA G 74 s.heap.size)) ([.ref (G.1 67), .ref (G.1 45)] : List Value).toArray s 0 0 (xA G 74 s.heap.size)) (F0 m 54 ls []) := by
          intro d
          induction d with
          | zero => intro j1 τj H locs ls hj hd; exact absurd hd (Nat.not_lt_zero _)
          | succ d ih_54 =>
            intro j1 τj H locs ls hj_j1 hd_j1 e_τj hpk hPk hP hS hl
            have h31_j1 : (nI j1).toInt = (j1 : Int) := nI_toInt (by omega)
            have hw : τj 33 = σ 33 := by rw [e_τj, m_seatsN_n _ _ (by decide)]; rfl
            have hw2 : (τj 33 1).toInt = (ix (σ 33 1) : Int) := by rw [hw]; exact hmt
            have hs : τj 47 = σ 47 := by rw [e_τj, m_seatsN_n _ _ (by decide)]; rfl
            refine lv_iload_n hx hb dX5_begin_54 rfl (lv_at hl 0 rfl) ?_
            refine lv_aload_n hx hb dX5_begin_55 rfl (lv_at hl 1 rfl) ?_
            refine g5_24 ha hP 67 (by decide) (cX_67 G _) (v := .ref (G.1 33)) rfl dX5_begin_56 ?_
            refine g5_46 ha hP 33 (by decide) (cX_33 G _) (v := .int (τj 33 1)) rfl dX5_begin_59 ?_
            refine lv_icmp_ge (tgt := 90) hx hb dX5_begin_62 (by decide) (fun c_2 => ?_) (fun c_2 => ?_)
            · have t_2 := i_le c_2
              have u_2 := u_le c_2
              obtain rfl : j1 = (ix (σ 33 1)) := by omega
              exact xvret ha hP hS dX5_begin_90 (by rw [e_τj]; rfl)
            · have t_2 := i_nle c_2
              have u_2 := u_nle c_2
              have hlt_j1 : j1 < (ix (σ 33 1)) := by omega
              refine lv_aload_n hx hb dX5_begin_65 rfl (lv_at hl 1 rfl) ?_
              refine g5_9 ha hP 67 (by decide) (cX_67 G _) (v := .ref (G.1 68)) rfl dX5_begin_66 ?_
              refine lv_iload_n hx hb dX5_begin_69 rfl (lv_at hl 0 rfl) ?_
              refine lv_bipush (v := (-9)) hx hb dX5_begin_70 (by decide) ?_
              refine xiastN ha hP hS (cX_loc G) 68 (by decide) (fun τ => cX_68 G τ) j1 rfl (by omega) (by decide) dX5_begin_72 (fun H locs hP hS => ?_)
              refine lv_aload_n hx hb dX5_begin_73 rfl (lv_at hl 1 rfl) ?_
              refine lv_iload_n hx hb dX5_begin_74 rfl (lv_at hl 0 rfl) ?_
              refine lv_aload_n hx hb dX5_begin_75 rfl (lv_at hl 2 rfl) ?_
              refine g5_49 ha hP 45 (by decide) (cX_45 G _) (v := .ref (G.1 47)) rfl dX5_begin_76 ?_
              refine lv_iload_n hx hb dX5_begin_79 rfl (lv_at hl 0 rfl) ?_
              refine xialdN ha hP 47 (by decide) (cX_47 G _) j1 rfl (by omega) (by decide) dX5_begin_80 ?_
              refine xVv ha hP hS (y := yX5_seat) (As := [.int (nI j1), .int ((mU τj 68 j1 (-9)) 47 j1)]) (rest := []) 67 (by decide) (cX_67 G _) rfl rfl (c_X5_seat G l (mU τj 68 j1 (-9)) (vP σ 33) j1 ((mU τj 68 j1 (-9)) 47 j1) (PO_mU hpk (by decide)) ((vP_mU _ _ _ (by decide)).trans hPk) (show _ < ix (σ 33 1) by omega)) kw_X5_50 hd_X5_seat rfl ⟨rfl, rfl⟩ ⟨Nat.le_of_ble_eq_true rfl, Nat.le_of_ble_eq_true rfl⟩ ⟨Nat.zero_le _, Nat.zero_le _⟩ hl.1 (Nat.le_of_ble_eq_true rfl) rfl dX5_begin_81 (fun u H locs hpq hP hS => ?_)
              have hpq := hpq.symm
              subst hpq
              refine lv_iinc (v := (nI (j1 + 1))) (lv' := [(2, .int (nI (j1 + 1))), (0, .ref (G.1 67)), (1, .ref (G.1 45))]) hx hb dX5_begin_84 hl (k := 0) rfl (nI_1 j1) (by decide) rfl (fun ls hl => ?_)
              refine lv_goto (tgt := 54) hx hb dX5_begin_87 (by decide) ?_
              exact ih_54 (j1 + 1) (m_seat (vP σ 33) (mU τj 68 j1 (-9)) j1 ((mU τj 68 j1 (-9)) 47 j1)) _ _ _ (by omega) (by omega) (by rw [show m_seatsN (vP σ 33) (σ 47) (j1 + 1) (mF (mF (mF (mU σ 67 0 (a_up (vP σ 33) (vS σ 45))) 69 (ix (σ 33 0)) (fun _ => 0)) 70 (ix (σ 33 0)) (fun _ => 0)) 71 (ix (σ 33 0)) (fun k => a_bearsNow (vP σ 33) (vS σ 45) (nI k))) = m_seat (vP σ 33) (mU (m_seatsN (vP σ 33) (σ 47) j1 (mF (mF (mF (mU σ 67 0 (a_up (vP σ 33) (vS σ 45))) 69 (ix (σ 33 0)) (fun _ => 0)) 70 (ix (σ 33 0)) (fun _ => 0)) 71 (ix (σ 33 0)) (fun k => a_bearsNow (vP σ 33) (vS σ 45) (nI k)))) 68 j1 (-9)) j1 (σ 47 j1) from rfl, ← e_τj, ← hs]; rfl) (PO_m_seat _ _ (PO_mU hpk (by decide))) (m_seat_P _ _ ((vP_mU _ _ _ (by decide)).trans hPk)) hP hS (lv_sub hl [0, 1, 2] rfl)
        exact lp_54 ((ix (σ 33 1)) - 0 + 1) 0 σj _ _ _ (by omega) (by omega) (by rw [e_σj]; rfl) hpj hPj hP hS (lv_sub hl [0, 1, 2] rfl)
      · have t_1 := i_nle c_1
        have u_1 := u_nle c_1
        have hlt_j : j < (ix (σ 33 0)) := by omega
        refine lv_aload_n hx hb dX5_begin_21 rfl (lv_at hl 1 rfl) ?_
        refine g5_15 ha hP 67 (by decide) (cX_67 G _) (v := .ref (G.1 69)) rfl dX5_begin_22 ?_
        refine lv_iload_n hx hb dX5_begin_25 rfl (lv_at hl 0 rfl) ?_
        refine lv_iconst (v := 0) hx hb dX5_begin_26 (by decide) ?_
        refine xiastN ha hP hS (cX_loc G) 69 (by decide) (fun τ => cX_69 G τ) j rfl (by omega) (by decide) dX5_begin_27 (fun H locs hP hS => ?_)
        refine lv_aload_n hx hb dX5_begin_28 rfl (lv_at hl 1 rfl) ?_
        refine g5_18 ha hP 67 (by decide) (cX_67 G _) (v := .ref (G.1 70)) rfl dX5_begin_29 ?_
        refine lv_iload_n hx hb dX5_begin_32 rfl (lv_at hl 0 rfl) ?_
        refine lv_iconst (v := 0) hx hb dX5_begin_33 (by decide) ?_
        refine xiastN ha hP hS (cX_loc G) 70 (by decide) (fun τ => cX_70 G τ) j rfl (by omega) (by decide) dX5_begin_34 (fun H locs hP hS => ?_)
        refine lv_aload_n hx hb dX5_begin_35 rfl (lv_at hl 1 rfl) ?_
        refine g5_21 ha hP 67 (by decide) (cX_67 G _) (v := .ref (G.1 71)) rfl dX5_begin_36 ?_
        refine lv_iload_n hx hb dX5_begin_39 rfl (lv_at hl 0 rfl) ?_
        refine lv_aload_n hx hb dX5_begin_40 rfl (lv_at hl 2 rfl) ?_
        refine lv_iload_n hx hb dX5_begin_41 rfl (lv_at hl 0 rfl) ?_
        refine xVi ha hP hS (y := yX4_bearsNow) (As := [.int (nI j)]) (rest := [.int (nI j), .ref (G.1 71)]) 45 (by decide) (cX_45 G _) rfl rfl (c_X4_bearsNow G l (mU (mU σj 69 j 0) 70 j 0) 45 (nI j) (by unfold oSc; omega) (PO_mU (PO_mU hpj (by decide)) (by decide))) kw_X5_42 hd_X4_bearsNow rfl ⟨rfl, rfl⟩ ⟨Nat.le_of_ble_eq_true rfl, Nat.le_of_ble_eq_true rfl⟩ ⟨Nat.zero_le _, Nat.zero_le _⟩ hl.1 (Nat.le_of_ble_eq_true rfl) rfl dX5_begin_42 (fun r u H locs hpq hP hS => ?_)
        obtain ⟨hr_, hu_⟩ := hpq
        have hr_ := hr_.symm
        have hu_ := hu_.symm
        subst hr_
        subst hu_
        rw [((vP_mU _ _ _ (by decide)).trans ((vP_mU _ _ _ (by decide)).trans hPj))]
        rw [((vS_mU _ _ _ (by decide)).trans ((vS_mU _ _ _ (by decide)).trans hSj))]
        refine xiastN ha hP hS (cX_loc G) 71 (by decide) (fun τ => cX_71 G τ) j rfl (by omega) (by decide) dX5_begin_45 (fun H locs hP hS => ?_)
        refine lv_iinc (v := (nI (j + 1))) (lv' := [(2, .int (nI (j + 1))), (0, .ref (G.1 67)), (1, .ref (G.1 45))]) hx hb dX5_begin_46 hl (k := 0) rfl (nI_1 j) (by decide) rfl (fun ls hl => ?_)
        refine lv_goto (tgt := 10) hx hb dX5_begin_49 (by decide) ?_
        exact ih_10 (j + 1) (mU (mU (mU σj 69 j 0) 70 j 0) 71 j (a_bearsNow (vP σ 33) (vS σ 45) (nI j))) _ _ _ (by omega) (by omega) (by rw [e_σj]; exact mF3_s _ _ _ _ _ (by decide) (by decide) (by decide) rfl rfl rfl) (PO_mU (PO_mU (PO_mU hpj (by decide)) (by decide)) (by decide)) ((vP_mU _ _ _ (by decide)).trans ((vP_mU _ _ _ (by decide)).trans ((vP_mU _ _ _ (by decide)).trans hPj))) ((vS_mU _ _ _ (by decide)).trans ((vS_mU _ _ _ (by decide)).trans ((vS_mU _ _ _ (by decide)).trans hSj))) hP hS (lv_sub hl [0, 1, 2] rfl)
  exact lp_10 ((ix (σ 33 0)) - 0 + 1) 0 (mU σ 67 0 (a_up (vP σ 33) (vS σ 45))) _ _ _ (by omega) (by omega) (by rw [show (mF (mF (mF (mU σ 67 0 (a_up (vP σ 33) (vS σ 45))) 69 0 (fun _ => 0)) 70 0 (fun _ => 0)) 71 0 (fun k => a_bearsNow (vP σ 33) (vS σ 45) (nI k))) = mF (mF (mU σ 67 0 (a_up (vP σ 33) (vS σ 45))) 69 0 (fun _ => 0)) 70 0 (fun _ => 0) from (mF_0 _ _ _).symm, show (mF (mF (mU σ 67 0 (a_up (vP σ 33) (vS σ 45))) 69 0 (fun _ => 0)) 70 0 (fun _ => 0)) = mF (mU σ 67 0 (a_up (vP σ 33) (vS σ 45))) 69 0 (fun _ => 0) from (mF_0 _ _ _).symm]; exact mF_0 _ _ _) (PO_mU hp (by decide)) ((vP_mU _ _ _ (by decide)).trans rfl) ((vS_mU _ _ _ (by decide)).trans rfl) hP hS (lv_sub hl [0, 1, 2] rfl)
set_option maxHeartbeats 4000000 in
set_option maxRecDepth 100000 in
theorem c_X5_sendUp_0 (G : GT) (l : Launch) (σ : Mem) (P : PT) (low : Int32) (top : Int32) (hp : PO 33 σ) (hPP : vP σ 33 = P) : CI G 74 (cX G) l yX5_sendUp ({ frames := 0 + 3, cells := 0, slots := 0, locals := 26 * (0) + 66 } : Room) cX5_sendUp 7 (some .int) [.ref (G.1 67), .int 0, .int low, .int top] σ (fun (r : Int32) u => r = g_val P 0 true σ low top ∧ u = σ) := by
  intro sz
  refine xbegin (by decide) (Nat.le_of_ble_eq_true rfl) ?_
  intro p e s m below meth c ls hsz ha hP hl
  subst hsz
  have hx := ha.1
  have hb := ha.2.1
  have hS : va_S (xA G 74 s.heap.size) s.heap s.heap [] := va_S.rf
  have hl : lv_has ls 7 [(0, .ref (G.1 67)), (1, .int 0), (2, .int low), (3, .int top)] := hl
  have k_m9 : (-9 : Int32).toInt = -9 := by decide
  have k_0 : (0 : Int32).toInt = 0 := by decide
  have k_1 : (1 : Int32).toInt = 1 := by decide
  have hnn := nPe_of hPP
  have hmm := nPl_of hPP
  refine lv_iload_n hx hb dX5_sendUp_0 rfl (lv_at hl 1 rfl) ?_
  refine lv_if_gt (tgt := 9) hx hb dX5_sendUp_1 (by decide) (fun c_1 => ?_) (fun c_1 => ?_)
  · have t_1 := i_lt c_1
    exact absurd c_1 (by decide)
  · have t_1 := i_nlt c_1
    refine lv_aload_n hx hb dX5_sendUp_4 rfl (lv_at hl 0 rfl) ?_
    refine xVi ha hP hS (y := yX5_worth) (As := []) (rest := []) 67 (by decide) (cX_67 G _) rfl rfl (c_X5_worth G l σ P hp hPP) kw_X5_68 hd_X5_worth rfl ⟨rfl, rfl⟩ ⟨Nat.le_of_ble_eq_true rfl, Nat.le_of_ble_eq_true rfl⟩ ⟨Nat.zero_le _, Nat.zero_le _⟩ hl.1 (Nat.le_of_ble_eq_true rfl) rfl dX5_sendUp_5 (fun r u H locs hpq hP hS => ?_)
    obtain ⟨hr_, hu_⟩ := hpq
    have hr_ := hr_.symm
    have hu_ := hu_.symm
    subst hr_
    subst hu_
    exact xiret ha hP hS dX5_sendUp_8 ⟨by rw [g_val_0], rfl⟩ rfl
set_option maxHeartbeats 4000000 in
set_option maxRecDepth 100000 in
theorem c_X5_sendUp_s (G : GT) (l : Launch) (σ : Mem) (w : Nat) (P : PT) (low : Int32) (top : Int32) (hp : PO 33 σ) (hPP : vP σ 33 = P) (hw : w < 4) (ih : ∀ (τ : Mem) (low1 top1 : Int32), PO 33 τ → vP τ 33 = P → CI G 74 (cX G) l yX5_callDown ({ frames := w + 3, cells := 0, slots := 0, locals := 26 * (w) + 66 } : Room) cX5_callDown 7 (some .int) [.ref (G.1 67), .int (nI w), .int low1, .int top1] τ (fun r u => r = g_val P w false τ low1 top1 ∧ u = τ)) : CI G 74 (cX G) l yX5_sendUp ({ frames := (w + 1) + 3, cells := 0, slots := 0, locals := 26 * ((w + 1)) + 66 } : Room) cX5_sendUp 7 (some .int) [.ref (G.1 67), .int (nI (w + 1)), .int low, .int top] σ (fun (r : Int32) u => r = g_val P (w + 1) true σ low top ∧ u = σ) := by
  intro sz
  refine xbegin (by decide) (Nat.le_of_ble_eq_true rfl) ?_
  intro p e s m below meth c ls hsz ha hP hl
  subst hsz
  have hx := ha.1
  have hb := ha.2.1
  have hS : va_S (xA G 74 s.heap.size) s.heap s.heap [] := va_S.rf
  have hl : lv_has ls 7 [(0, .ref (G.1 67)), (1, .int (nI (w + 1))), (2, .int low), (3, .int top)] := hl
  have k_m9 : (-9 : Int32).toInt = -9 := by decide
  have k_0 : (0 : Int32).toInt = 0 := by decide
  have k_1 : (1 : Int32).toInt = 1 := by decide
  have hnn := nPe_of hPP
  have hmm := nPl_of hPP
  have hw31 : (nI (w + 1)).toInt = ((w + 1 : Nat) : Int) := nI_toInt (by omega)
  obtain ⟨hn, hn4, hnt⟩ := PO_pl hp
  obtain ⟨hm, hm5, hmt⟩ := PO_pe hp
  refine lv_iload_n hx hb dX5_sendUp_0 rfl (lv_at hl 1 rfl) ?_
  refine lv_if_gt (tgt := 9) hx hb dX5_sendUp_1 (by decide) (fun c_1 => ?_) (fun c_1 => ?_)
  · have t_1 := i_lt c_1
    refine lv_aload_n hx hb dX5_sendUp_9 rfl (lv_at hl 0 rfl) ?_
    refine lv_iload_n hx hb dX5_sendUp_10 rfl (lv_at hl 1 rfl) ?_
    refine lv_iconst (v := 1) hx hb dX5_sendUp_11 (by decide) ?_
    refine lv_isubE (z := (nI w)) hx hb dX5_sendUp_12 (nI_pred w) ?_
    refine lv_iload_n hx hb dX5_sendUp_13 rfl (lv_at hl 2 rfl) ?_
    refine lv_iload_n hx hb dX5_sendUp_14 rfl (lv_at hl 3 rfl) ?_
    refine xSi ha hP hS (y := yX5_callDown) (As := [.ref (G.1 67), .int (nI w), .int low, .int top]) (rest := []) rfl (ih σ low top hp hPP) kw_X5_71 hd_X5_callDown rfl ⟨rfl, rfl⟩ ⟨by dsimp only; omega, by dsimp only; omega⟩ ⟨Nat.zero_le _, Nat.zero_le _⟩ hl.1 (Nat.le_of_ble_eq_true rfl) rfl dX5_sendUp_15 (fun r u H locs hpq hP hS => ?_)
    obtain ⟨hr_, hu_⟩ := hpq
    have hr_ := hr_.symm
    have hu_ := hu_.symm
    subst hr_
    subst hu_
    refine lv_istore (lv' := [(4, .int (g_val P w false σ low top)), (0, .ref (G.1 67)), (1, .int (nI (w + 1))), (2, .int low), (3, .int top)]) hx hb dX5_sendUp_18 hl (by decide) rfl (fun ls hl => ?_)
    refine lv_iconst (v := 0) hx hb dX5_sendUp_20 (by decide) ?_
    refine lv_istore (lv' := [(5, .int 0), (4, .int (g_val P w false σ low top)), (0, .ref (G.1 67)), (1, .int (nI (w + 1))), (2, .int low), (3, .int top)]) hx hb dX5_sendUp_21 hl (by decide) rfl (fun ls hl => ?_)
    have lp_23 : ∀ (d j : Nat) (x4 : Int32) (H : Heap) (locs : List Loc) (ls : Array Slot), j ≤ (ix (σ 33 1)) → (ix (σ 33 1)) - j < d → x4 = foldN (g_si P w σ low top) j (g_val P w false σ low top) → va_P G.2.1 vwCl (wl G 74 (cX G σ)) H → va_S (xA G 74 s.heap.size) s.heap H locs → lv_has ls 7 [(5, .int (nI j)), (4, .int x4), (0, .ref (G.1 67)), (1, .int (nI (w + 1))), (2, .int low), (3, .int top)] → W p l e ({ frames := (w + 1) + 3, cells := 0, slots := 0, locals := 26 * ((w + 1)) + 66 } : Room) s m ([.ref (G.1 67), .int (nI (w + 1)), .int low, .int top] : List Value).toArray below meth c H locs 0 0 (MQ below (va_Qi (fun (r : Int32) u => r = g_val P (w + 1) true σ low top ∧ u = σ) (xB G 74 (cX G)) (xA G 74 s.heap.size)) ([.ref (G.1 67), .int (nI (w + 1)), .int low, .int top] : List Value).toArray s 0 0 (xA G 74 s.heap.size)) (F0 m 23 ls []) := by
      intro d
      induction d with
      | zero => intro j x4 H locs ls hj hd; exact absurd hd (Nat.not_lt_zero _)
      | succ d ih_23 =>
        intro j x4 H locs ls hj_j hd_j e_x4 hP hS hl
        have h31_j : (nI j).toInt = (j : Int) := nI_toInt (by omega)
        refine lv_iload hx hb dX5_sendUp_23 (lv_at hl 0 rfl) ?_
        refine lv_aload_n hx hb dX5_sendUp_25 rfl (lv_at hl 2 rfl) ?_
        refine g5_24 ha hP 67 (by decide) (cX_67 G _) (v := .ref (G.1 33)) rfl dX5_sendUp_26 ?_
        refine g5_46 ha hP 33 (by decide) (cX_33 G _) (v := .int (σ 33 1)) rfl dX5_sendUp_29 ?_
        refine lv_icmp_ge (tgt := 129) hx hb dX5_sendUp_32 (by decide) (fun c_2 => ?_) (fun c_2 => ?_)
        · have t_2 := i_le c_2
          have u_2 := u_le c_2
          obtain rfl : j = (ix (σ 33 1)) := by omega
          refine lv_iload hx hb dX5_sendUp_129 (lv_at hl 1 rfl) ?_
          exact xiret ha hP hS dX5_sendUp_131 ⟨by rw [g_val_st, hnn]; exact e_x4, rfl⟩ rfl
        · have t_2 := i_nle c_2
          have u_2 := u_nle c_2
          have hlt_j : j < (ix (σ 33 1)) := by omega
          refine lv_iconst (v := 0) hx hb dX5_sendUp_35 (by decide) ?_
          refine lv_istore (lv' := [(6, .int 0), (5, .int (nI j)), (4, .int x4), (0, .ref (G.1 67)), (1, .int (nI (w + 1))), (2, .int low), (3, .int top)]) hx hb dX5_sendUp_36 hl (by decide) rfl (fun ls hl => ?_)
          have lp_38 : ∀ (d j1 : Nat) (y4 : Int32) (H : Heap) (locs : List Loc) (ls : Array Slot), j1 ≤ (ix (σ 33 0)) → (ix (σ 33 0)) - j1 < d → y4 = foldN (g_sk P w σ low top j) j1 x4 → va_P G.2.1 vwCl (wl G 74 (cX G σ)) H → va_S (xA G 74 s.heap.size) s.heap H locs → lv_has ls 7 [(6, .int (nI j1)), (5, .int (nI j)), (4, .int y4), (0, .ref (G.1 67)), (1, .int (nI (w + 1))), (2, .int low), (3, .int top)] → W p l e ({ frames := (w + 1) + 3, cells := 0, slots := 0, locals := 26 * ((w + 1)) + 66 } : Room) s m ([.ref (G.1 67), .int (nI (w + 1)), .int low, .int top] : List Value).toArray below meth c H locs 0 0 (MQ below (va_Qi (fun (r : Int32) u => r = g_val P (w + 1) true σ low top ∧ u = σ) (xB G 74 (cX G)) (xA G 74 s.heap.size)) ([.ref (G.1 67), .int (nI (w + 1)), .int low, .int top] : List Value).toArray s 0 0 (xA G 74 s.heap.size)) (F0 m 38 ls []) := by
            intro d
            induction d with
            | zero => intro j1 y4 H locs ls hj hd; exact absurd hd (Nat.not_lt_zero _)
            | succ d ih_38 =>
              intro j1 y4 H locs ls hj_j1 hd_j1 e_y4 hP hS hl
              have h31_j1 : (nI j1).toInt = (j1 : Int) := nI_toInt (by omega)
              refine lv_iload hx hb dX5_sendUp_38 (lv_at hl 0 rfl) ?_
              refine lv_aload_n hx hb dX5_sendUp_40 rfl (lv_at hl 3 rfl) ?_
              refine g5_24 ha hP 67 (by decide) (cX_67 G _) (v := .ref (G.1 33)) rfl dX5_sendUp_41 ?_
              refine g5_37 ha hP 33 (by decide) (cX_33 G _) (v := .int (σ 33 0)) rfl dX5_sendUp_44 ?_
              refine lv_icmp_ge (tgt := 123) hx hb dX5_sendUp_47 (by decide) (fun c_3 => ?_) (fun c_3 => ?_)
              · have t_3 := i_le c_3
                have u_3 := u_le c_3
                obtain rfl : j1 = (ix (σ 33 0)) := by omega
                refine lv_iinc (v := (nI (j + 1))) (lv' := [(5, .int (nI (j + 1))), (6, .int (nI (ix (σ 33 0)))), (4, .int y4), (0, .ref (G.1 67)), (1, .int (nI (w + 1))), (2, .int low), (3, .int top)]) hx hb dX5_sendUp_123 hl (k := 1) rfl (nI_1 j) (by decide) rfl (fun ls hl => ?_)
                refine lv_goto (tgt := 23) hx hb dX5_sendUp_126 (by decide) ?_
                exact ih_23 (j + 1) y4 _ _ _ (by omega) (by omega) (by rw [show foldN (g_si P w σ low top) (j + 1) (g_val P w false σ low top) = foldN (g_sk P w σ low top j) (nPl P) (foldN (g_si P w σ low top) j (g_val P w false σ low top)) from rfl, ← e_x4, hmm]; first | exact e_y4 | (rw [foldN_stay (j := j1) (by rw [← e_y4]; exact g_sk_stop _ _ _ _ _ _ _ (by first | exact Or.inl (by assumption) | exact Or.inr (by assumption))) _ (by omega)]; exact e_y4)) hP hS (lv_sub hl [0, 2, 3, 4, 5, 6] rfl)
              · have t_3 := i_nle c_3
                have u_3 := u_nle c_3
                have hlt_j1 : j1 < (ix (σ 33 0)) := by omega
                refine lv_aload_n hx hb dX5_sendUp_50 rfl (lv_at hl 3 rfl) ?_
                refine g5_9 ha hP 67 (by decide) (cX_67 G _) (v := .ref (G.1 68)) rfl dX5_sendUp_51 ?_
                refine lv_iload hx hb dX5_sendUp_54 (lv_at hl 1 rfl) ?_
                refine xialdN ha hP 68 (by decide) (cX_68 G _) j rfl (by omega) (by decide) dX5_sendUp_56 ?_
                refine lv_bipush (v := (-9)) hx hb dX5_sendUp_57 (by decide) ?_
                refine lv_icmp_ne (tgt := 123) hx hb dX5_sendUp_59 (by decide) (fun c_4 => ?_) (fun c_4 => ?_)
                · have t_4 := i_ne c_4
                  refine lv_iinc (v := (nI (j + 1))) (lv' := [(5, .int (nI (j + 1))), (6, .int (nI j1)), (4, .int y4), (0, .ref (G.1 67)), (1, .int (nI (w + 1))), (2, .int low), (3, .int top)]) hx hb dX5_sendUp_123 hl (k := 1) rfl (nI_1 j) (by decide) rfl (fun ls hl => ?_)
                  refine lv_goto (tgt := 23) hx hb dX5_sendUp_126 (by decide) ?_
                  exact ih_23 (j + 1) y4 _ _ _ (by omega) (by omega) (by rw [show foldN (g_si P w σ low top) (j + 1) (g_val P w false σ low top) = foldN (g_sk P w σ low top j) (nPl P) (foldN (g_si P w σ low top) j (g_val P w false σ low top)) from rfl, ← e_x4, hmm]; first | exact e_y4 | (rw [foldN_stay (j := j1) (by rw [← e_y4]; exact g_sk_stop _ _ _ _ _ _ _ (by first | exact Or.inl (by assumption) | exact Or.inr (by assumption))) _ (by omega)]; exact e_y4)) hP hS (lv_sub hl [0, 2, 3, 4, 5, 6] rfl)
                · have t_4 := i_eq c_4
                  refine lv_iload hx hb dX5_sendUp_62 (lv_at hl 2 rfl) ?_
                  refine lv_iload_n hx hb dX5_sendUp_64 rfl (lv_at hl 6 rfl) ?_
                  refine lv_icmp_ge (tgt := 123) hx hb dX5_sendUp_65 (by decide) (fun c_5 => ?_) (fun c_5 => ?_)
                  · have t_5 := i_le c_5
                    have u_5 := u_le c_5
                    refine lv_iinc (v := (nI (j + 1))) (lv' := [(5, .int (nI (j + 1))), (6, .int (nI j1)), (4, .int y4), (0, .ref (G.1 67)), (1, .int (nI (w + 1))), (2, .int low), (3, .int top)]) hx hb dX5_sendUp_123 hl (k := 1) rfl (nI_1 j) (by decide) rfl (fun ls hl => ?_)
                    refine lv_goto (tgt := 23) hx hb dX5_sendUp_126 (by decide) ?_
                    exact ih_23 (j + 1) y4 _ _ _ (by omega) (by omega) (by rw [show foldN (g_si P w σ low top) (j + 1) (g_val P w false σ low top) = foldN (g_sk P w σ low top j) (nPl P) (foldN (g_si P w σ low top) j (g_val P w false σ low top)) from rfl, ← e_x4, hmm]; first | exact e_y4 | (rw [foldN_stay (j := j1) (by rw [← e_y4]; exact g_sk_stop _ _ _ _ _ _ _ (by first | exact Or.inl (by assumption) | exact Or.inr (by assumption))) _ (by omega)]; exact e_y4)) hP hS (lv_sub hl [0, 2, 3, 4, 5, 6] rfl)
                  · have t_5 := i_nle c_5
                    have u_5 := u_nle c_5
                    refine lv_aload_n hx hb dX5_sendUp_68 rfl (lv_at hl 3 rfl) ?_
                    refine g5_34 ha hP 67 (by decide) (cX_67 G _) (v := .int (σ 67 0)) rfl dX5_sendUp_69 ?_
                    refine lv_iload hx hb dX5_sendUp_72 (lv_at hl 0 rfl) ?_
                    refine lv_ishr hx hb dX5_sendUp_74 ?_
                    refine lv_iconst (v := 1) hx hb dX5_sendUp_75 (by decide) ?_
                    refine lv_iand hx hb dX5_sendUp_76 ?_
                    refine lv_iconst (v := 1) hx hb dX5_sendUp_77 (by decide) ?_
                    refine lv_icmp_ne (tgt := 117) hx hb dX5_sendUp_78 (by decide) (fun c_6 => ?_) (fun c_6 => ?_)
                    · have t_6 := i_ne c_6
                      refine lv_iinc (v := (nI (j1 + 1))) (lv' := [(6, .int (nI (j1 + 1))), (5, .int (nI j)), (4, .int y4), (0, .ref (G.1 67)), (1, .int (nI (w + 1))), (2, .int low), (3, .int top)]) hx hb dX5_sendUp_117 hl (k := 0) rfl (nI_1 j1) (by decide) rfl (fun ls hl => ?_)
                      refine lv_goto (tgt := 38) hx hb dX5_sendUp_120 (by decide) ?_
                      exact ih_38 (j1 + 1) y4 _ _ _ (by omega) (by omega) (by rw [show foldN (g_sk P w σ low top j) (j1 + 1) x4 = g_sk P w σ low top j j1 (foldN (g_sk P w σ low top j) j1 x4) from rfl, ← e_y4]; simp [g_sk, c_1, u_2, u_3, c_4, u_5, c_6]) hP hS (lv_sub hl [0, 1, 2, 3, 4, 5, 6] rfl)
                    · have t_6 := i_eq c_6
                      refine lv_aload_n hx hb dX5_sendUp_81 rfl (lv_at hl 3 rfl) ?_
                      refine lv_iload hx hb dX5_sendUp_82 (lv_at hl 1 rfl) ?_
                      refine lv_iload hx hb dX5_sendUp_84 (lv_at hl 0 rfl) ?_
                      refine xVv ha hP hS (y := yX5_seat) (As := [.int (nI j), .int (nI j1)]) (rest := []) 67 (by decide) (cX_67 G _) rfl rfl (c_X5_seat G l σ P j (nI j1) hp hPP (by rw [hnn]; omega)) kw_X5_50 hd_X5_seat rfl ⟨rfl, rfl⟩ ⟨by dsimp only; omega, by dsimp only; omega⟩ ⟨Nat.zero_le _, Nat.zero_le _⟩ hl.1 (Nat.le_of_ble_eq_true rfl) rfl dX5_sendUp_86 (fun u H locs hpq hP hS => ?_)
                      have hpq := hpq.symm
                      subst hpq
                      refine lv_iload hx hb dX5_sendUp_89 (lv_at hl 2 rfl) ?_
                      refine lv_aload_n hx hb dX5_sendUp_91 rfl (lv_at hl 3 rfl) ?_
                      refine lv_iload_n hx hb dX5_sendUp_92 rfl (lv_at hl 4 rfl) ?_
                      refine lv_iconst (v := 1) hx hb dX5_sendUp_93 (by decide) ?_
                      refine lv_isubE (z := (nI w)) hx hb dX5_sendUp_94 (nI_pred w) ?_
                      refine lv_iload_n hx hb dX5_sendUp_95 rfl (lv_at hl 5 rfl) ?_
                      refine lv_iload hx hb dX5_sendUp_96 (lv_at hl 2 rfl) ?_
                      refine xmmax ha (tb_in (w := .methodLink RX5 75 Lib.Math.max.name) (by decide +kernel)) hl.1 (by dsimp only; omega) (Nat.le_trans (m := 25) (Nat.le_of_ble_eq_true rfl) (by dsimp only; omega)) ⟨Nat.zero_le _, Nat.zero_le _⟩ dX5_sendUp_98 ?_
                      refine lv_iload_n hx hb dX5_sendUp_101 rfl (lv_at hl 6 rfl) ?_
                      refine xSi ha hP hS (y := yX5_callDown) (As := [.ref (G.1 67), .int (nI w), .int (imax low y4), .int top]) (rest := [.int y4]) rfl (ih (m_seat P σ j (nI j1)) (imax low y4) top (PO_m_seat _ _ hp) (m_seat_P _ _ hPP)) kw_X5_71 hd_X5_callDown rfl ⟨rfl, rfl⟩ ⟨by dsimp only; omega, by dsimp only; omega⟩ ⟨Nat.zero_le _, Nat.zero_le _⟩ hl.1 (Nat.le_of_ble_eq_true rfl) rfl dX5_sendUp_102 (fun r u H locs hpq hP hS => ?_)
                      obtain ⟨hr_, hu_⟩ := hpq
                      have hr_ := hr_.symm
                      have hu_ := hu_.symm
                      subst hr_
                      subst hu_
                      refine xmmax ha (tb_in (w := .methodLink RX5 75 Lib.Math.max.name) (by decide +kernel)) hl.1 (by dsimp only; omega) (Nat.le_trans (m := 25) (Nat.le_of_ble_eq_true rfl) (by dsimp only; omega)) ⟨Nat.zero_le _, Nat.zero_le _⟩ dX5_sendUp_105 ?_
                      refine lv_istore (lv' := [(4, .int (imax y4 (g_val P w false (m_seat P σ j (nI j1)) (imax low y4) top))), (6, .int (nI j1)), (5, .int (nI j)), (0, .ref (G.1 67)), (1, .int (nI (w + 1))), (2, .int low), (3, .int top)]) hx hb dX5_sendUp_108 hl (by decide) rfl (fun ls hl => ?_)
                      refine lv_aload_n hx hb dX5_sendUp_110 rfl (lv_at hl 3 rfl) ?_
                      refine lv_iload hx hb dX5_sendUp_111 (lv_at hl 2 rfl) ?_
                      refine xVi ha hP hS (y := yX5_unseat) (As := [.int (nI j)]) (rest := []) 67 (by decide) (cX_67 G _) rfl rfl (c_X5_unseat G l (m_seat P σ j (nI j1)) P j (PO_m_seat _ _ hp) (m_seat_P _ _ hPP) (by rw [hnn]; omega)) kw_X5_80 hd_X5_unseat rfl ⟨rfl, rfl⟩ ⟨by dsimp only; omega, by dsimp only; omega⟩ ⟨Nat.zero_le _, Nat.zero_le _⟩ hl.1 (Nat.le_of_ble_eq_true rfl) rfl dX5_sendUp_113 (fun r u H locs hpq hP hS => ?_)
                      obtain ⟨hr_, hu_⟩ := hpq
                      have hr_ := hr_.symm
                      have hu_ := hu_.symm
                      subst hr_
                      subst hu_
                      have hmm_113 : (m_unseat P (m_seat P σ j (nI j1)) j) = σ := (m_us P σ j (nI j1) (by assumption))
                      rw [hmm_113] at hP
                      refine lv_pop hx hb dX5_sendUp_116 rfl ?_
                      refine lv_iinc (v := (nI (j1 + 1))) (lv' := [(6, .int (nI (j1 + 1))), (4, .int (imax y4 (g_val P w false (m_seat P σ j (nI j1)) (imax low y4) top))), (5, .int (nI j)), (0, .ref (G.1 67)), (1, .int (nI (w + 1))), (2, .int low), (3, .int top)]) hx hb dX5_sendUp_117 hl (k := 1) rfl (nI_1 j1) (by decide) rfl (fun ls hl => ?_)
                      refine lv_goto (tgt := 38) hx hb dX5_sendUp_120 (by decide) ?_
                      exact ih_38 (j1 + 1) (imax y4 (g_val P w false (m_seat P σ j (nI j1)) (imax low y4) top)) _ _ _ (by omega) (by omega) (by rw [show foldN (g_sk P w σ low top j) (j1 + 1) x4 = g_sk P w σ low top j j1 (foldN (g_sk P w σ low top j) j1 x4) from rfl, ← e_y4]; simp [g_sk, c_1, u_2, u_3, c_4, u_5, c_6]) hP hS (lv_sub hl [0, 2, 1, 3, 4, 5, 6] rfl)
          exact lp_38 ((ix (σ 33 0)) - 0 + 1) 0 x4 _ _ _ (by omega) (by omega) rfl hP hS (lv_sub hl [0, 1, 2, 3, 4, 5, 6] rfl)
    exact lp_23 ((ix (σ 33 1)) - 0 + 1) 0 (g_val P w false σ low top) _ _ _ (by omega) (by omega) rfl hP hS (lv_sub hl [0, 1, 2, 3, 4, 5] rfl)
  · have t_1 := i_nlt c_1
    exfalso; omega
set_option maxHeartbeats 4000000 in
set_option maxRecDepth 100000 in
theorem c_X5_callDown_0 (G : GT) (l : Launch) (σ : Mem) (P : PT) (low : Int32) (top : Int32) (hp : PO 33 σ) (hPP : vP σ 33 = P) : CI G 74 (cX G) l yX5_callDown ({ frames := 0 + 3, cells := 0, slots := 0, locals := 26 * (0) + 66 } : Room) cX5_callDown 7 (some .int) [.ref (G.1 67), .int 0, .int low, .int top] σ (fun (r : Int32) u => r = g_val P 0 false σ low top ∧ u = σ) := by
  intro sz
  refine xbegin (by decide) (Nat.le_of_ble_eq_true rfl) ?_
  intro p e s m below meth c ls hsz ha hP hl
  subst hsz
  have hx := ha.1
  have hb := ha.2.1
  have hS : va_S (xA G 74 s.heap.size) s.heap s.heap [] := va_S.rf
  have hl : lv_has ls 7 [(0, .ref (G.1 67)), (1, .int 0), (2, .int low), (3, .int top)] := hl
  have k_m9 : (-9 : Int32).toInt = -9 := by decide
  have k_0 : (0 : Int32).toInt = 0 := by decide
  have k_1 : (1 : Int32).toInt = 1 := by decide
  have hnn := nPe_of hPP
  have hmm := nPl_of hPP
  refine lv_iload_n hx hb dX5_callDown_0 rfl (lv_at hl 1 rfl) ?_
  refine lv_if_gt (tgt := 9) hx hb dX5_callDown_1 (by decide) (fun c_1 => ?_) (fun c_1 => ?_)
  · have t_1 := i_lt c_1
    exact absurd c_1 (by decide)
  · have t_1 := i_nlt c_1
    refine lv_aload_n hx hb dX5_callDown_4 rfl (lv_at hl 0 rfl) ?_
    refine xVi ha hP hS (y := yX5_worth) (As := []) (rest := []) 67 (by decide) (cX_67 G _) rfl rfl (c_X5_worth G l σ P hp hPP) kw_X5_68 hd_X5_worth rfl ⟨rfl, rfl⟩ ⟨Nat.le_of_ble_eq_true rfl, Nat.le_of_ble_eq_true rfl⟩ ⟨Nat.zero_le _, Nat.zero_le _⟩ hl.1 (Nat.le_of_ble_eq_true rfl) rfl dX5_callDown_5 (fun r u H locs hpq hP hS => ?_)
    obtain ⟨hr_, hu_⟩ := hpq
    have hr_ := hr_.symm
    have hu_ := hu_.symm
    subst hr_
    subst hu_
    exact xiret ha hP hS dX5_callDown_8 ⟨by rw [g_val_0], rfl⟩ rfl
set_option maxHeartbeats 4000000 in
set_option maxRecDepth 100000 in
theorem c_X5_callDown_s (G : GT) (l : Launch) (σ : Mem) (w : Nat) (P : PT) (low : Int32) (top : Int32) (hp : PO 33 σ) (hPP : vP σ 33 = P) (hw : w < 4) (ih : ∀ (τ : Mem) (low1 top1 : Int32), PO 33 τ → vP τ 33 = P → CI G 74 (cX G) l yX5_sendUp ({ frames := w + 3, cells := 0, slots := 0, locals := 26 * (w) + 66 } : Room) cX5_sendUp 7 (some .int) [.ref (G.1 67), .int (nI w), .int low1, .int top1] τ (fun r u => r = g_val P w true τ low1 top1 ∧ u = τ)) : CI G 74 (cX G) l yX5_callDown ({ frames := (w + 1) + 3, cells := 0, slots := 0, locals := 26 * ((w + 1)) + 66 } : Room) cX5_callDown 7 (some .int) [.ref (G.1 67), .int (nI (w + 1)), .int low, .int top] σ (fun (r : Int32) u => r = g_val P (w + 1) false σ low top ∧ u = σ) := by
  intro sz
  refine xbegin (by decide) (Nat.le_of_ble_eq_true rfl) ?_
  intro p e s m below meth c ls hsz ha hP hl
  subst hsz
  have hx := ha.1
  have hb := ha.2.1
  have hS : va_S (xA G 74 s.heap.size) s.heap s.heap [] := va_S.rf
  have hl : lv_has ls 7 [(0, .ref (G.1 67)), (1, .int (nI (w + 1))), (2, .int low), (3, .int top)] := hl
  have k_m9 : (-9 : Int32).toInt = -9 := by decide
  have k_0 : (0 : Int32).toInt = 0 := by decide
  have k_1 : (1 : Int32).toInt = 1 := by decide
  have hnn := nPe_of hPP
  have hmm := nPl_of hPP
  have hw31 : (nI (w + 1)).toInt = ((w + 1 : Nat) : Int) := nI_toInt (by omega)
  obtain ⟨hn, hn4, hnt⟩ := PO_pl hp
  obtain ⟨hm, hm5, hmt⟩ := PO_pe hp
  refine lv_iload_n hx hb dX5_callDown_0 rfl (lv_at hl 1 rfl) ?_
  refine lv_if_gt (tgt := 9) hx hb dX5_callDown_1 (by decide) (fun c_1 => ?_) (fun c_1 => ?_)
  · have t_1 := i_lt c_1
    refine lv_aload_n hx hb dX5_callDown_9 rfl (lv_at hl 0 rfl) ?_
    refine lv_iload_n hx hb dX5_callDown_10 rfl (lv_at hl 1 rfl) ?_
    refine lv_iconst (v := 1) hx hb dX5_callDown_11 (by decide) ?_
    refine lv_isubE (z := (nI w)) hx hb dX5_callDown_12 (nI_pred w) ?_
    refine lv_iload_n hx hb dX5_callDown_13 rfl (lv_at hl 2 rfl) ?_
    refine lv_iload_n hx hb dX5_callDown_14 rfl (lv_at hl 3 rfl) ?_
    refine xSi ha hP hS (y := yX5_sendUp) (As := [.ref (G.1 67), .int (nI w), .int low, .int top]) (rest := []) rfl (ih σ low top hp hPP) kw_X5_83 hd_X5_sendUp rfl ⟨rfl, rfl⟩ ⟨by dsimp only; omega, by dsimp only; omega⟩ ⟨Nat.zero_le _, Nat.zero_le _⟩ hl.1 (Nat.le_of_ble_eq_true rfl) rfl dX5_callDown_15 (fun r u H locs hpq hP hS => ?_)
    obtain ⟨hr_, hu_⟩ := hpq
    have hr_ := hr_.symm
    have hu_ := hu_.symm
    subst hr_
    subst hu_
    refine lv_istore (lv' := [(4, .int (g_val P w true σ low top)), (0, .ref (G.1 67)), (1, .int (nI (w + 1))), (2, .int low), (3, .int top)]) hx hb dX5_callDown_18 hl (by decide) rfl (fun ls hl => ?_)
    refine lv_iconst (v := 0) hx hb dX5_callDown_20 (by decide) ?_
    refine lv_istore (lv' := [(5, .int 0), (4, .int (g_val P w true σ low top)), (0, .ref (G.1 67)), (1, .int (nI (w + 1))), (2, .int low), (3, .int top)]) hx hb dX5_callDown_21 hl (by decide) rfl (fun ls hl => ?_)
    have lp_23 : ∀ (d j : Nat) (x4 : Int32) (H : Heap) (locs : List Loc) (ls : Array Slot), j ≤ (ix (σ 33 1)) → (ix (σ 33 1)) - j < d → x4 = foldN (g_ci P w σ low top) j (g_val P w true σ low top) → va_P G.2.1 vwCl (wl G 74 (cX G σ)) H → va_S (xA G 74 s.heap.size) s.heap H locs → lv_has ls 7 [(5, .int (nI j)), (4, .int x4), (0, .ref (G.1 67)), (1, .int (nI (w + 1))), (2, .int low), (3, .int top)] → W p l e ({ frames := (w + 1) + 3, cells := 0, slots := 0, locals := 26 * ((w + 1)) + 66 } : Room) s m ([.ref (G.1 67), .int (nI (w + 1)), .int low, .int top] : List Value).toArray below meth c H locs 0 0 (MQ below (va_Qi (fun (r : Int32) u => r = g_val P (w + 1) false σ low top ∧ u = σ) (xB G 74 (cX G)) (xA G 74 s.heap.size)) ([.ref (G.1 67), .int (nI (w + 1)), .int low, .int top] : List Value).toArray s 0 0 (xA G 74 s.heap.size)) (F0 m 23 ls []) := by
      intro d
      induction d with
      | zero => intro j x4 H locs ls hj hd; exact absurd hd (Nat.not_lt_zero _)
      | succ d ih_23 =>
        intro j x4 H locs ls hj_j hd_j e_x4 hP hS hl
        have h31_j : (nI j).toInt = (j : Int) := nI_toInt (by omega)
        refine lv_iload hx hb dX5_callDown_23 (lv_at hl 0 rfl) ?_
        refine lv_aload_n hx hb dX5_callDown_25 rfl (lv_at hl 2 rfl) ?_
        refine g5_24 ha hP 67 (by decide) (cX_67 G _) (v := .ref (G.1 33)) rfl dX5_callDown_26 ?_
        refine g5_46 ha hP 33 (by decide) (cX_33 G _) (v := .int (σ 33 1)) rfl dX5_callDown_29 ?_
        refine lv_icmp_ge (tgt := 96) hx hb dX5_callDown_32 (by decide) (fun c_2 => ?_) (fun c_2 => ?_)
        · have t_2 := i_le c_2
          have u_2 := u_le c_2
          obtain rfl : j = (ix (σ 33 1)) := by omega
          refine lv_iload hx hb dX5_callDown_96 (lv_at hl 1 rfl) ?_
          exact xiret ha hP hS dX5_callDown_98 ⟨by rw [g_val_sf, hnn]; first | exact e_x4 | (rw [foldN_stay (j := j) (by rw [← e_x4]; exact g_ci_stop _ _ _ _ _ _ (by assumption)) _ (by omega)]; exact e_x4), rfl⟩ rfl
        · have t_2 := i_nle c_2
          have u_2 := u_nle c_2
          have hlt_j : j < (ix (σ 33 1)) := by omega
          refine lv_iload hx hb dX5_callDown_35 (lv_at hl 1 rfl) ?_
          refine lv_iload_n hx hb dX5_callDown_37 rfl (lv_at hl 4 rfl) ?_
          refine lv_icmp_le (tgt := 96) hx hb dX5_callDown_38 (by decide) (fun c_3 => ?_) (fun c_3 => ?_)
          · have t_3 := i_le c_3
            have u_3 := u_le c_3
            refine lv_iload hx hb dX5_callDown_96 (lv_at hl 1 rfl) ?_
            exact xiret ha hP hS dX5_callDown_98 ⟨by rw [g_val_sf, hnn]; first | exact e_x4 | (rw [foldN_stay (j := j) (by rw [← e_x4]; exact g_ci_stop _ _ _ _ _ _ (by assumption)) _ (by omega)]; exact e_x4), rfl⟩ rfl
          · have t_3 := i_nle c_3
            have u_3 := u_nle c_3
            refine lv_aload_n hx hb dX5_callDown_41 rfl (lv_at hl 2 rfl) ?_
            refine g5_9 ha hP 67 (by decide) (cX_67 G _) (v := .ref (G.1 68)) rfl dX5_callDown_42 ?_
            refine lv_iload hx hb dX5_callDown_45 (lv_at hl 0 rfl) ?_
            refine xialdN ha hP 68 (by decide) (cX_68 G _) j rfl (by omega) (by decide) dX5_callDown_47 ?_
            refine lv_bipush (v := (-9)) hx hb dX5_callDown_48 (by decide) ?_
            refine lv_icmp_eq (tgt := 90) hx hb dX5_callDown_50 (by decide) (fun c_4 => ?_) (fun c_4 => ?_)
            · have t_4 := i_eq c_4
              refine lv_iinc (v := (nI (j + 1))) (lv' := [(5, .int (nI (j + 1))), (4, .int x4), (0, .ref (G.1 67)), (1, .int (nI (w + 1))), (2, .int low), (3, .int top)]) hx hb dX5_callDown_90 hl (k := 0) rfl (nI_1 j) (by decide) rfl (fun ls hl => ?_)
              refine lv_goto (tgt := 23) hx hb dX5_callDown_93 (by decide) ?_
              exact ih_23 (j + 1) x4 _ _ _ (by omega) (by omega) (by rw [show foldN (g_ci P w σ low top) (j + 1) (g_val P w true σ low top) = g_ci P w σ low top j (foldN (g_ci P w σ low top) j (g_val P w true σ low top)) from rfl, ← e_x4]; simp [g_ci, c_1, u_2, u_3, c_4]) hP hS (lv_sub hl [0, 1, 2, 3, 4, 5] rfl)
            · have t_4 := i_ne c_4
              refine lv_aload_n hx hb dX5_callDown_53 rfl (lv_at hl 2 rfl) ?_
              refine lv_iload hx hb dX5_callDown_54 (lv_at hl 0 rfl) ?_
              refine xVi ha hP hS (y := yX5_unseat) (As := [.int (nI j)]) (rest := []) 67 (by decide) (cX_67 G _) rfl rfl (c_X5_unseat G l σ P j hp hPP (by rw [hnn]; omega)) kw_X5_80 hd_X5_unseat rfl ⟨rfl, rfl⟩ ⟨by dsimp only; omega, by dsimp only; omega⟩ ⟨Nat.zero_le _, Nat.zero_le _⟩ hl.1 (Nat.le_of_ble_eq_true rfl) rfl dX5_callDown_56 (fun r u H locs hpq hP hS => ?_)
              obtain ⟨hr_, hu_⟩ := hpq
              have hr_ := hr_.symm
              have hu_ := hu_.symm
              subst hr_
              subst hu_
              refine lv_istore (lv' := [(6, .int (σ 68 j)), (5, .int (nI j)), (4, .int x4), (0, .ref (G.1 67)), (1, .int (nI (w + 1))), (2, .int low), (3, .int top)]) hx hb dX5_callDown_59 hl (by decide) rfl (fun ls hl => ?_)
              refine lv_iload hx hb dX5_callDown_61 (lv_at hl 2 rfl) ?_
              refine lv_aload_n hx hb dX5_callDown_63 rfl (lv_at hl 3 rfl) ?_
              refine lv_iload_n hx hb dX5_callDown_64 rfl (lv_at hl 4 rfl) ?_
              refine lv_iconst (v := 1) hx hb dX5_callDown_65 (by decide) ?_
              refine lv_isubE (z := (nI w)) hx hb dX5_callDown_66 (nI_pred w) ?_
              refine lv_iload_n hx hb dX5_callDown_67 rfl (lv_at hl 5 rfl) ?_
              refine lv_iload_n hx hb dX5_callDown_68 rfl (lv_at hl 6 rfl) ?_
              refine lv_iload hx hb dX5_callDown_69 (lv_at hl 2 rfl) ?_
              refine xmmin ha (tb_in (w := .methodLink RX5 86 Lib.Math.min.name) (by decide +kernel)) hl.1 (by dsimp only; omega) (Nat.le_trans (m := 25) (Nat.le_of_ble_eq_true rfl) (by dsimp only; omega)) ⟨Nat.zero_le _, Nat.zero_le _⟩ dX5_callDown_71 ?_
              refine xSi ha hP hS (y := yX5_sendUp) (As := [.ref (G.1 67), .int (nI w), .int low, .int (imin top x4)]) (rest := [.int x4]) rfl (ih (m_unseat P σ j) low (imin top x4) (PO_m_unseat _ hp) (m_unseat_P _ hPP)) kw_X5_83 hd_X5_sendUp rfl ⟨rfl, rfl⟩ ⟨by dsimp only; omega, by dsimp only; omega⟩ ⟨Nat.zero_le _, Nat.zero_le _⟩ hl.1 (Nat.le_of_ble_eq_true rfl) rfl dX5_callDown_74 (fun r u H locs hpq hP hS => ?_)
              obtain ⟨hr_, hu_⟩ := hpq
              have hr_ := hr_.symm
              have hu_ := hu_.symm
              subst hr_
              subst hu_
              refine xmmin ha (tb_in (w := .methodLink RX5 86 Lib.Math.min.name) (by decide +kernel)) hl.1 (by dsimp only; omega) (Nat.le_trans (m := 25) (Nat.le_of_ble_eq_true rfl) (by dsimp only; omega)) ⟨Nat.zero_le _, Nat.zero_le _⟩ dX5_callDown_77 ?_
              refine lv_istore (lv' := [(4, .int (imin x4 (g_val P w true (m_unseat P σ j) low (imin top x4)))), (6, .int (σ 68 j)), (5, .int (nI j)), (0, .ref (G.1 67)), (1, .int (nI (w + 1))), (2, .int low), (3, .int top)]) hx hb dX5_callDown_80 hl (by decide) rfl (fun ls hl => ?_)
              refine lv_aload_n hx hb dX5_callDown_82 rfl (lv_at hl 3 rfl) ?_
              refine lv_iload hx hb dX5_callDown_83 (lv_at hl 2 rfl) ?_
              refine lv_iload hx hb dX5_callDown_85 (lv_at hl 1 rfl) ?_
              refine xVv ha hP hS (y := yX5_seat) (As := [.int (nI j), .int (σ 68 j)]) (rest := []) 67 (by decide) (cX_67 G _) rfl rfl (c_X5_seat G l (m_unseat P σ j) P j (σ 68 j) (PO_m_unseat _ hp) (m_unseat_P _ hPP) (by rw [hnn]; omega)) kw_X5_50 hd_X5_seat rfl ⟨rfl, rfl⟩ ⟨by dsimp only; omega, by dsimp only; omega⟩ ⟨Nat.zero_le _, Nat.zero_le _⟩ hl.1 (Nat.le_of_ble_eq_true rfl) rfl dX5_callDown_87 (fun u H locs hpq hP hS => ?_)
              have hpq := hpq.symm
              subst hpq
              have hmm_87 : (m_seat P (m_unseat P σ j) j (σ 68 j)) = σ := (m_su P σ j)
              rw [hmm_87] at hP
              refine lv_iinc (v := (nI (j + 1))) (lv' := [(5, .int (nI (j + 1))), (4, .int (imin x4 (g_val P w true (m_unseat P σ j) low (imin top x4)))), (6, .int (σ 68 j)), (0, .ref (G.1 67)), (1, .int (nI (w + 1))), (2, .int low), (3, .int top)]) hx hb dX5_callDown_90 hl (k := 2) rfl (nI_1 j) (by decide) rfl (fun ls hl => ?_)
              refine lv_goto (tgt := 23) hx hb dX5_callDown_93 (by decide) ?_
              exact ih_23 (j + 1) (imin x4 (g_val P w true (m_unseat P σ j) low (imin top x4))) _ _ _ (by omega) (by omega) (by rw [show foldN (g_ci P w σ low top) (j + 1) (g_val P w true σ low top) = g_ci P w σ low top j (foldN (g_ci P w σ low top) j (g_val P w true σ low top)) from rfl, ← e_x4]; simp [g_ci, c_1, u_2, u_3, c_4]) hP hS (lv_sub hl [0, 1, 3, 4, 5, 6] rfl)
    exact lp_23 ((ix (σ 33 1)) - 0 + 1) 0 (g_val P w true σ low top) _ _ _ (by omega) (by omega) rfl hP hS (lv_sub hl [0, 1, 2, 3, 4, 5] rfl)
  · have t_1 := i_nlt c_1
    exfalso; omega
theorem c_X5_duel (G : GT) (l : Launch) (P : PT) : ∀ (d : Nat), d ≤ 4 → (∀ (σ : Mem) (low top : Int32), PO 33 σ → vP σ 33 = P → CI G 74 (cX G) l yX5_sendUp ({ frames := d + 3, cells := 0, slots := 0, locals := 26 * (d) + 66 } : Room) cX5_sendUp 7 (some .int) [.ref (G.1 67), .int (nI d), .int low, .int top] σ (fun r u => r = g_val P d true σ low top ∧ u = σ)) ∧ (∀ (σ : Mem) (low top : Int32), PO 33 σ → vP σ 33 = P → CI G 74 (cX G) l yX5_callDown ({ frames := d + 3, cells := 0, slots := 0, locals := 26 * (d) + 66 } : Room) cX5_callDown 7 (some .int) [.ref (G.1 67), .int (nI d), .int low, .int top] σ (fun r u => r = g_val P d false σ low top ∧ u = σ))
  | 0, _ => ⟨fun σ low top hp hP => c_X5_sendUp_0 G l σ P low top hp hP, fun σ low top hp hP => c_X5_callDown_0 G l σ P low top hp hP⟩
  | d + 1, h => ⟨fun σ low top hp hP => c_X5_sendUp_s G l σ d P low top hp hP (by omega) (c_X5_duel G l P d (by omega)).2, fun σ low top hp hP => c_X5_callDown_s G l σ d P low top hp hP (by omega) (c_X5_duel G l P d (by omega)).1⟩
