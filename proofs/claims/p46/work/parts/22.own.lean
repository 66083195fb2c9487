theorem hd_X0_add : kHd yX0_add 1 := by decide +kernel
theorem hd_X2_read : kHd yX2_read 1 := by decide +kernel
theorem hd_X3_findingAt : kHd yX3_findingAt 1 := by decide +kernel
theorem hd_X3_set : kHd yX3_set 2 := by decide +kernel
theorem hd_X4_ofOne : kHd yX4_ofOne 2 := by decide +kernel
theorem hd_X4_ofPole : kHd yX4_ofPole 2 := by decide +kernel
theorem hd_X7_begin : kHd yX7_begin 4 := by decide +kernel
theorem hd_X7_found : kHd yX7_found 1 := by decide +kernel
theorem hd_X7_rowAt : kHd yX7_rowAt 1 := by decide +kernel
theorem hd_X7_tell : kHd yX7_tell 1 := by decide +kernel
theorem hd_X7_textAt : kHd yX7_textAt 1 := by decide +kernel
theorem kw_X7_332 : ∀ w ∈ k5V RX7 332 yX3_fill cX3_fill 4 none, w ∈ TB := tb_ins (by decide +kernel)
theorem kw_X7_97 : ∀ w ∈ k5V RX7 97 yX7_found cX7_found 2 (some .int), w ∈ TB := tb_ins (by decide +kernel)
theorem kw_X7_85 : ∀ w ∈ k5V RX7 85 yX7_rowAt cX7_rowAt 2 (some (.object "PoleNave$Row")), w ∈ TB := tb_ins (by decide +kernel)
theorem kw_X7_89 : ∀ w ∈ k5V RX7 89 yX7_begin cX7_begin 5 (some .int), w ∈ TB := tb_ins (by decide +kernel)
theorem kw_X7_128 : ∀ w ∈ k5V RX7 128 yX7_textAt cX7_textAt 2 (some (.object "PoleNave$Row")), w ∈ TB := tb_ins (by decide +kernel)
theorem kw_X7_93 : ∀ w ∈ k5V RX7 93 yX3_findingAt cX3_findingAt 2 (some .int), w ∈ TB := tb_ins (by decide +kernel)
theorem kw_X7_100 : ∀ w ∈ k5V RX7 100 yX3_get cX3_get 2 (some .int), w ∈ TB := tb_ins (by decide +kernel)
theorem kw_X7_103 : ∀ w ∈ k5V RX7 103 yX3_set cX3_set 3 none, w ∈ TB := tb_ins (by decide +kernel)
theorem kw_X7_107 : ∀ w ∈ k5V RX7 107 yX7_tell cX7_tell 2 (some .int), w ∈ TB := tb_ins (by decide +kernel)
theorem kw_X7_110 : ∀ w ∈ k5V RX7 110 yX3_isMissing cX3_isMissing 1 (some .boolean), w ∈ TB := tb_ins (by decide +kernel)
theorem kw_X7_131 : ∀ w ∈ k5V RX7 131 yX2_read cX2_read 5 (some .int), w ∈ TB := tb_ins (by decide +kernel)
theorem kw_X7_135 : ∀ w ∈ k5V RX7 135 yX4_begin cX4_begin 2 none, w ∈ TB := tb_ins (by decide +kernel)
theorem kw_X7_140 : ∀ w ∈ k5V RX7 140 yX2_isPole cX2_isPole 2 (some .boolean), w ∈ TB := tb_ins (by decide +kernel)
theorem kw_X7_144 : ∀ w ∈ k5V RX7 144 yX4_ofPole cX4_ofPole 3 (some .int), w ∈ TB := tb_ins (by decide +kernel)
theorem kw_X7_148 : ∀ w ∈ k5V RX7 148 yX2_isOne cX2_isOne 2 (some .boolean), w ∈ TB := tb_ins (by decide +kernel)
theorem kw_X7_151 : ∀ w ∈ k5V RX7 151 yX4_ofOne cX4_ofOne 3 (some .int), w ∈ TB := tb_ins (by decide +kernel)
theorem kw_X7_160 : ∀ w ∈ k5V RX7 160 yX4_bearsNow cX4_bearsNow 2 (some .int), w ∈ TB := tb_ins (by decide +kernel)
theorem kw_X7_166 : ∀ w ∈ k5V RX7 166 yX2_bearsWith cX2_bearsWith 3 (some .int), w ∈ TB := tb_ins (by decide +kernel)
theorem kw_X7_354 : ∀ w ∈ k5V RX7 354 yX0_add cX0_add 2 none, w ∈ TB := tb_ins (by decide +kernel)
theorem kw_X7_358 : ∀ w ∈ k5V RX7 358 yX4_apply cX4_apply 4 (some .int), w ∈ TB := tb_ins (by decide +kernel)
set_option maxHeartbeats 4000000 in
set_option maxRecDepth 100000 in
theorem c_X7_rowAt (G : GT) (l : Launch) (σ : Mem) (ro : Int32)  : CQ G 74 (cX G) l yX7_rowAt ({ frames := 0, cells := 0, slots := 0, locals := 0 } : Room) cX7_rowAt 2 (some (.object "PoleNave$Row")) [.ref (G.1 0), .int ro] σ (fun (r : Option Nat) u => r = (if a_in ro 6 = true then some (G.1 (5 + 2 * ix ro)) else none) ∧ u = σ) := by
  intro sz
  refine xbegin (by decide) (Nat.le_of_ble_eq_true rfl) ?_
  intro p e s m below meth c ls hsz ha hP hl
  subst hsz
  have hx := ha.1
  have hb := ha.2.1
  have hS : va_S (xA G 74 s.heap.size) s.heap s.heap [] := va_S.rf
  have hl : lv_has ls 2 [(0, .ref (G.1 0)), (1, .int ro)] := hl
  have k_0 : (0 : Int32).toInt = 0 := by decide
  have k_3 : (3 : Int32).toInt = 3 := by decide
  have k_4 : (4 : Int32).toInt = 4 := by decide
  have k_5 : (5 : Int32).toInt = 5 := by decide
  have k_6 : (6 : Int32).toInt = 6 := by decide
  have k_40 : (40 : Int32).toInt = 40 := by decide
  have k_60 : (60 : Int32).toInt = 60 := by decide
  refine lv_iload_n hx hb dX7_rowAt_0 rfl (lv_at hl 1 rfl) ?_
  refine lv_if_lt (tgt := 22) hx hb dX7_rowAt_1 (by decide) (fun c_1 => ?_) (fun c_1 => ?_)
  · have t_1 := i_lt c_1
    refine lv_null hx hb dX7_rowAt_22 ?_
    exact xqret ha hP hS none dX7_rowAt_23 ⟨by simp [a_in, c_1, i_leN, -Int32.not_lt], rfl⟩ rfl
  · have t_1 := i_nlt c_1
    refine lv_iload_n hx hb dX7_rowAt_4 rfl (lv_at hl 1 rfl) ?_
    refine lv_aload_n hx hb dX7_rowAt_5 rfl (lv_at hl 0 rfl) ?_
    refine g7_11 ha hP 0 (by decide) (cX_0 G _) (v := .ref (G.1 1)) rfl dX7_rowAt_6 ?_
    refine xalen ha hP 1 (by decide) 1 (cX_1 G _) rfl (v := 6) rfl dX7_rowAt_9 ?_
    refine lv_icmp_ge (tgt := 22) hx hb dX7_rowAt_10 (by decide) (fun c_2 => ?_) (fun c_2 => ?_)
    · have t_2 := i_le c_2
      have u_2 := u_le c_2
      refine lv_null hx hb dX7_rowAt_22 ?_
      exact xqret ha hP hS none dX7_rowAt_23 ⟨by simp [a_in, c_1, u_2, i_leN, -Int32.not_lt], rfl⟩ rfl
    · have t_2 := i_nle c_2
      have u_2 := u_nle c_2
      refine lv_aload_n hx hb dX7_rowAt_13 rfl (lv_at hl 0 rfl) ?_
      refine g7_11 ha hP 0 (by decide) (cX_0 G _) (v := .ref (G.1 1)) rfl dX7_rowAt_14 ?_
      refine lv_iload_n hx hb dX7_rowAt_17 rfl (lv_at hl 1 rfl) ?_
      refine xaald ha hP 1 (by decide) 1 (cX_1 G _) rfl rfl (ix ro) (ix_nI (by omega)) (ix_lt (by omega) (by omega)) (by decide) (q := G.1 (5 + 2 * (ix ro))) rfl dX7_rowAt_18 ?_
      refine lv_goto (tgt := 23) hx hb dX7_rowAt_19 (by decide) ?_
      exact xqret ha hP hS (some (G.1 (5 + 2 * (ix ro)))) dX7_rowAt_23 ⟨by simp [a_in, c_1, u_2, i_leN, -Int32.not_lt], rfl⟩ rfl
set_option maxHeartbeats 4000000 in
set_option maxRecDepth 100000 in
theorem c_X7_textAt (G : GT) (l : Launch) (σ : Mem) (ro : Int32)  : CQ G 74 (cX G) l yX7_textAt ({ frames := 0, cells := 0, slots := 0, locals := 0 } : Room) cX7_textAt 2 (some (.object "PoleNave$Row")) [.ref (G.1 0), .int ro] σ (fun (r : Option Nat) u => r = (if a_in ro 4 = true then some (G.1 (17 + 2 * ix ro)) else none) ∧ u = σ) := by
  intro sz
  refine xbegin (by decide) (Nat.le_of_ble_eq_true rfl) ?_
  intro p e s m below meth c ls hsz ha hP hl
  subst hsz
  have hx := ha.1
  have hb := ha.2.1
  have hS : va_S (xA G 74 s.heap.size) s.heap s.heap [] := va_S.rf
  have hl : lv_has ls 2 [(0, .ref (G.1 0)), (1, .int ro)] := hl
  have k_0 : (0 : Int32).toInt = 0 := by decide
  have k_3 : (3 : Int32).toInt = 3 := by decide
  have k_4 : (4 : Int32).toInt = 4 := by decide
  have k_5 : (5 : Int32).toInt = 5 := by decide
  have k_6 : (6 : Int32).toInt = 6 := by decide
  have k_40 : (40 : Int32).toInt = 40 := by decide
  have k_60 : (60 : Int32).toInt = 60 := by decide
  refine lv_iload_n hx hb dX7_textAt_0 rfl (lv_at hl 1 rfl) ?_
  refine lv_if_lt (tgt := 22) hx hb dX7_textAt_1 (by decide) (fun c_1 => ?_) (fun c_1 => ?_)
  · have t_1 := i_lt c_1
    refine lv_null hx hb dX7_textAt_22 ?_
    exact xqret ha hP hS none dX7_textAt_23 ⟨by simp [a_in, c_1, i_leN, -Int32.not_lt], rfl⟩ rfl
  · have t_1 := i_nlt c_1
    refine lv_iload_n hx hb dX7_textAt_4 rfl (lv_at hl 1 rfl) ?_
    refine lv_aload_n hx hb dX7_textAt_5 rfl (lv_at hl 0 rfl) ?_
    refine g7_15 ha hP 0 (by decide) (cX_0 G _) (v := .ref (G.1 2)) rfl dX7_textAt_6 ?_
    refine xalen ha hP 2 (by decide) 1 (cX_2 G _) rfl (v := 4) rfl dX7_textAt_9 ?_
    refine lv_icmp_ge (tgt := 22) hx hb dX7_textAt_10 (by decide) (fun c_2 => ?_) (fun c_2 => ?_)
    · have t_2 := i_le c_2
      have u_2 := u_le c_2
      refine lv_null hx hb dX7_textAt_22 ?_
      exact xqret ha hP hS none dX7_textAt_23 ⟨by simp [a_in, c_1, u_2, i_leN, -Int32.not_lt], rfl⟩ rfl
    · have t_2 := i_nle c_2
      have u_2 := u_nle c_2
      refine lv_aload_n hx hb dX7_textAt_13 rfl (lv_at hl 0 rfl) ?_
      refine g7_15 ha hP 0 (by decide) (cX_0 G _) (v := .ref (G.1 2)) rfl dX7_textAt_14 ?_
      refine lv_iload_n hx hb dX7_textAt_17 rfl (lv_at hl 1 rfl) ?_
      refine xaald ha hP 2 (by decide) 1 (cX_2 G _) rfl rfl (ix ro) (ix_nI (by omega)) (ix_lt (by omega) (by omega)) (by decide) (q := G.1 (17 + 2 * (ix ro))) rfl dX7_textAt_18 ?_
      refine lv_goto (tgt := 23) hx hb dX7_textAt_19 (by decide) ?_
      exact xqret ha hP hS (some (G.1 (17 + 2 * (ix ro)))) dX7_textAt_23 ⟨by simp [a_in, c_1, u_2, i_leN, -Int32.not_lt], rfl⟩ rfl
set_option maxHeartbeats 4000000 in
set_option maxRecDepth 100000 in
theorem c_X7_keptAt (G : GT) (l : Launch) (σ : Mem) (ro : Int32)  : CQ G 74 (cX G) l yX7_keptAt ({ frames := 0, cells := 0, slots := 0, locals := 0 } : Room) cX7_keptAt 2 (some (.object "PoleNave$Deeds")) [.ref (G.1 0), .int ro] σ (fun (r : Option Nat) u => r = (if a_in ro 3 = true then some (G.1 (27 + 2 * ix ro)) else none) ∧ u = σ) := by
  intro sz
  refine xbegin (by decide) (Nat.le_of_ble_eq_true rfl) ?_
  intro p e s m below meth c ls hsz ha hP hl
  subst hsz
  have hx := ha.1
  have hb := ha.2.1
  have hS : va_S (xA G 74 s.heap.size) s.heap s.heap [] := va_S.rf
  have hl : lv_has ls 2 [(0, .ref (G.1 0)), (1, .int ro)] := hl
  have k_0 : (0 : Int32).toInt = 0 := by decide
  have k_3 : (3 : Int32).toInt = 3 := by decide
  have k_4 : (4 : Int32).toInt = 4 := by decide
  have k_5 : (5 : Int32).toInt = 5 := by decide
  have k_6 : (6 : Int32).toInt = 6 := by decide
  have k_40 : (40 : Int32).toInt = 40 := by decide
  have k_60 : (60 : Int32).toInt = 60 := by decide
  refine lv_iload_n hx hb dX7_keptAt_0 rfl (lv_at hl 1 rfl) ?_
  refine lv_if_lt (tgt := 22) hx hb dX7_keptAt_1 (by decide) (fun c_1 => ?_) (fun c_1 => ?_)
  · have t_1 := i_lt c_1
    refine lv_null hx hb dX7_keptAt_22 ?_
    exact xqret ha hP hS none dX7_keptAt_23 ⟨by simp [a_in, c_1, i_leN, -Int32.not_lt], rfl⟩ rfl
  · have t_1 := i_nlt c_1
    refine lv_iload_n hx hb dX7_keptAt_4 rfl (lv_at hl 1 rfl) ?_
    refine lv_aload_n hx hb dX7_keptAt_5 rfl (lv_at hl 0 rfl) ?_
    refine g7_47 ha hP 0 (by decide) (cX_0 G _) (v := .ref (G.1 3)) rfl dX7_keptAt_6 ?_
    refine xalen ha hP 3 (by decide) 2 (cX_3 G _) rfl (v := 3) rfl dX7_keptAt_9 ?_
    refine lv_icmp_ge (tgt := 22) hx hb dX7_keptAt_10 (by decide) (fun c_2 => ?_) (fun c_2 => ?_)
    · have t_2 := i_le c_2
      have u_2 := u_le c_2
      refine lv_null hx hb dX7_keptAt_22 ?_
      exact xqret ha hP hS none dX7_keptAt_23 ⟨by simp [a_in, c_1, u_2, i_leN, -Int32.not_lt], rfl⟩ rfl
    · have t_2 := i_nle c_2
      have u_2 := u_nle c_2
      refine lv_aload_n hx hb dX7_keptAt_13 rfl (lv_at hl 0 rfl) ?_
      refine g7_47 ha hP 0 (by decide) (cX_0 G _) (v := .ref (G.1 3)) rfl dX7_keptAt_14 ?_
      refine lv_iload_n hx hb dX7_keptAt_17 rfl (lv_at hl 1 rfl) ?_
      refine xaald ha hP 3 (by decide) 2 (cX_3 G _) rfl rfl (ix ro) (ix_nI (by omega)) (ix_lt (by omega) (by omega)) (by decide) (q := G.1 (27 + 2 * (ix ro))) rfl dX7_keptAt_18 ?_
      refine lv_goto (tgt := 23) hx hb dX7_keptAt_19 (by decide) ?_
      exact xqret ha hP hS (some (G.1 (27 + 2 * (ix ro)))) dX7_keptAt_23 ⟨by simp [a_in, c_1, u_2, i_leN, -Int32.not_lt], rfl⟩ rfl
set_option maxHeartbeats 4000000 in
set_option maxRecDepth 100000 in
theorem c_X7_found (G : GT) (l : Launch) (σ : Mem) (f : Int32)  : CI G 74 (cX G) l yX7_found ({ frames := 0, cells := 0, slots := 0, locals := 0 } : Room) cX7_found 2 (some .int) [.ref (G.1 0), .int f] σ (fun (r : Int32) u => r = -3 ∧ u = m_found σ f) := by
  intro sz
  refine xbegin (by decide) (Nat.le_of_ble_eq_true rfl) ?_
  intro p e s m below meth c ls hsz ha hP hl
  subst hsz
  have hx := ha.1
  have hb := ha.2.1
  have hS : va_S (xA G 74 s.heap.size) s.heap s.heap [] := va_S.rf
  have hl : lv_has ls 2 [(0, .ref (G.1 0)), (1, .int f)] := hl
  have k_m3 : (-3 : Int32).toInt = -3 := by decide
  have k_0 : (0 : Int32).toInt = 0 := by decide
  have k_1 : (1 : Int32).toInt = 1 := by decide
  have k_5 : (5 : Int32).toInt = 5 := by decide
  refine lv_iload_n hx hb dX7_found_0 rfl (lv_at hl 1 rfl) ?_
  refine lv_iconst (v := 1) hx hb dX7_found_1 (by decide) ?_
  refine lv_icmp_lt (tgt := 25) hx hb dX7_found_2 (by decide) (fun c_1 => ?_) (fun c_1 => ?_)
  · have t_1 := i_lt c_1
    refine lv_bipush (v := (-3)) hx hb dX7_found_25 (by decide) ?_
    exact xiret ha hP hS dX7_found_27 ⟨by rfl, (by simp [m_found, c_1, i_leN, mU_e, -Int32.not_lt])⟩ rfl
  · have t_1 := i_nlt c_1
    refine lv_iload_n hx hb dX7_found_5 rfl (lv_at hl 1 rfl) ?_
    refine lv_iconst (v := 5) hx hb dX7_found_6 (by decide) ?_
    refine lv_icmp_gt (tgt := 25) hx hb dX7_found_7 (by decide) (fun c_2 => ?_) (fun c_2 => ?_)
    · have t_2 := i_lt c_2
      refine lv_bipush (v := (-3)) hx hb dX7_found_25 (by decide) ?_
      exact xiret ha hP hS dX7_found_27 ⟨by rfl, (by simp [m_found, c_1, c_2, i_leN, mU_e, -Int32.not_lt])⟩ rfl
    · have t_2 := i_nlt c_2
      refine lv_aload_n hx hb dX7_found_10 rfl (lv_at hl 0 rfl) ?_
      refine lv_iload_n hx hb dX7_found_11 rfl (lv_at hl 1 rfl) ?_
      refine p7_321 ha hP hS (cX_loc G) 0 (by decide) (cX_0 G _) (x := f) (Nat.le_of_ble_eq_true rfl) (mU σ 0 0 f) (fun q hq => mU_n _ _ _ hq) (cX_p0_0 G _ _) dX7_found_12 (fun H locs hP hS => ?_)
      refine lv_aload_n hx hb dX7_found_15 rfl (lv_at hl 0 rfl) ?_
      refine g7_72 ha hP 0 (by decide) (cX_0 G _) (v := .ref (G.1 4)) rfl dX7_found_16 ?_
      refine lv_iload_n hx hb dX7_found_19 rfl (lv_at hl 1 rfl) ?_
      refine lv_dup2_11 hx hb dX7_found_20 rfl rfl ?_
      refine xialdN ha hP 4 (by decide) (cX_4 G _) (ix f) (ix_nI (by omega)) (ix_lt (by omega) (by omega)) (by decide) dX7_found_21 ?_
      refine lv_iconst (v := 1) hx hb dX7_found_22 (by decide) ?_
      refine lv_iadd hx hb dX7_found_23 ?_
      refine xiastN ha hP hS (cX_loc G) 4 (by decide) (fun τ => cX_4 G τ) (ix f) (ix_nI (by omega)) (ix_lt (by omega) (by omega)) (by decide) dX7_found_24 (fun H locs hP hS => ?_)
      refine lv_bipush (v := (-3)) hx hb dX7_found_25 (by decide) ?_
      exact xiret ha hP hS dX7_found_27 ⟨by rfl, (by simp [m_found, c_1, c_2, i_leN, mU_e, -Int32.not_lt])⟩ rfl
set_option maxHeartbeats 4000000 in
set_option maxRecDepth 100000 in
theorem c_X7_tell (G : GT) (l : Launch) (σ : Mem) (v : Int32)  : CI G 74 (cX G) l yX7_tell ({ frames := 0, cells := 0, slots := 0, locals := 0 } : Room) cX7_tell 2 (some .int) [.ref (G.1 0), .int v] σ (fun (r : Int32) u => r = 1 ∧ u = mU σ 0 1 v) := by
  intro sz
  refine xbegin (by decide) (Nat.le_of_ble_eq_true rfl) ?_
  intro p e s m below meth c ls hsz ha hP hl
  subst hsz
  have hx := ha.1
  have hb := ha.2.1
  have hS : va_S (xA G 74 s.heap.size) s.heap s.heap [] := va_S.rf
  have hl : lv_has ls 2 [(0, .ref (G.1 0)), (1, .int v)] := hl
  have k_0 : (0 : Int32).toInt = 0 := by decide
  have k_1 : (1 : Int32).toInt = 1 := by decide
  refine lv_aload_n hx hb dX7_tell_0 rfl (lv_at hl 0 rfl) ?_
  refine lv_iload_n hx hb dX7_tell_1 rfl (lv_at hl 1 rfl) ?_
  refine p7_312 ha hP hS (cX_loc G) 0 (by decide) (cX_0 G _) (x := v) (Nat.le_of_ble_eq_true rfl) (mU σ 0 1 v) (fun q hq => mU_n _ _ _ hq) (cX_p0_1 G _ _) dX7_tell_2 (fun H locs hP hS => ?_)
  refine lv_iconst (v := 1) hx hb dX7_tell_5 (by decide) ?_
  exact xiret ha hP hS dX7_tell_6 ⟨by rfl, (by rfl)⟩ rfl
set_option maxHeartbeats 4000000 in
set_option maxRecDepth 100000 in
theorem c_X7_begin (G : GT) (l : Launch) (σ : Mem) (o : Nat) (n : Int32) (most : Int32) (fill : Int32) (ho : oRow o) : CI G 74 (cX G) l yX7_begin ({ frames := 2, cells := 0, slots := 0, locals := 44 } : Room) cX7_begin 5 (some .int) [.ref (G.1 0), .ref (G.1 o), .int n, .int most, .int fill] σ (fun (r : Int32) u => r = (x_begin σ o n most fill).1 ∧ u = (x_begin σ o n most fill).2) := by
  intro sz
  refine xbegin (by decide) (Nat.le_of_ble_eq_true rfl) ?_
  intro p e s m below meth c ls hsz ha hP hl
  subst hsz
  have hx := ha.1
  have hb := ha.2.1
  have hS : va_S (xA G 74 s.heap.size) s.heap s.heap [] := va_S.rf
  have hl : lv_has ls 5 [(0, .ref (G.1 0)), (1, .ref (G.1 o)), (2, .int n), (3, .int most), (4, .int fill)] := hl
  have k_m1 : (-1 : Int32).toInt = -1 := by decide
  have k_0 : (0 : Int32).toInt = 0 := by decide
  have k_5 : (5 : Int32).toInt = 5 := by decide
  refine lv_aload_n hx hb dX7_begin_0 rfl (lv_at hl 1 rfl) ?_
  refine lv_ifnull hx hb dX7_begin_1 ?_
  refine lv_iload_n hx hb dX7_begin_4 rfl (lv_at hl 2 rfl) ?_
  refine lv_iload_n hx hb dX7_begin_5 rfl (lv_at hl 3 rfl) ?_
  refine lv_icmp_le (tgt := 11) hx hb dX7_begin_6 (by decide) (fun c_1 => ?_) (fun c_1 => ?_)
  · have t_1 := i_le c_1
    have u_1 := u_le c_1
    refine lv_iload_n hx hb dX7_begin_11 rfl (lv_at hl 2 rfl) ?_
    refine lv_if_ge (tgt := 21) hx hb dX7_begin_12 (by decide) (fun c_2 => ?_) (fun c_2 => ?_)
    · have t_2 := i_le c_2
      have u_2 := u_le c_2
      refine lv_aload_n hx hb dX7_begin_21 rfl (lv_at hl 1 rfl) ?_
      refine lv_iload_n hx hb dX7_begin_22 rfl (lv_at hl 2 rfl) ?_
      refine lv_iload hx hb dX7_begin_23 (lv_at hl 4 rfl) ?_
      refine xVv ha hP hS (y := yX3_fill) (As := [.int n, .int fill]) (rest := []) o (oRow_lt0 ho) (sRow ho) rfl rfl (c_X3_fill G l σ o n fill ho) kw_X7_332 hd_X3_fill rfl ⟨rfl, rfl⟩ ⟨Nat.le_of_ble_eq_true rfl, Nat.le_of_ble_eq_true rfl⟩ ⟨Nat.zero_le _, Nat.zero_le _⟩ hl.1 (Nat.le_of_ble_eq_true rfl) rfl dX7_begin_25 (fun u H locs hpq hP hS => ?_)
      have hpq := hpq.symm
      subst hpq
      refine lv_iload_n hx hb dX7_begin_28 rfl (lv_at hl 2 rfl) ?_
      exact xiret ha hP hS dX7_begin_29 ⟨by simp [x_begin, u_1, u_2, i_leN, -Int32.not_lt], (by simp [x_begin, u_1, u_2, i_leN, -Int32.not_lt])⟩ rfl
    · have t_2 := i_nle c_2
      have u_2 := u_nle c_2
      refine lv_aload_n hx hb dX7_begin_15 rfl (lv_at hl 0 rfl) ?_
      refine lv_iconst (v := 5) hx hb dX7_begin_16 (by decide) ?_
      refine xVi ha hP hS (y := yX7_found) (As := [.int 5]) (rest := []) 0 (by decide) (cX_0 G _) rfl rfl (c_X7_found G l σ 5 ) kw_X7_97 hd_X7_found rfl ⟨rfl, rfl⟩ ⟨Nat.le_of_ble_eq_true rfl, Nat.le_of_ble_eq_true rfl⟩ ⟨Nat.zero_le _, Nat.zero_le _⟩ hl.1 (Nat.le_of_ble_eq_true rfl) rfl dX7_begin_17 (fun r u H locs hpq hP hS => ?_)
      obtain ⟨hr_, hu_⟩ := hpq
      have hr_ := hr_.symm
      have hu_ := hu_.symm
      subst hr_
      subst hu_
      exact xiret ha hP hS dX7_begin_20 ⟨by simp [x_begin, u_1, u_2, i_leN, -Int32.not_lt], (by simp [x_begin, u_1, u_2, i_leN, -Int32.not_lt])⟩ rfl
  · have t_1 := i_nle c_1
    have u_1 := u_nle c_1
    refine lv_iconst (v := (-1)) hx hb dX7_begin_9 (by decide) ?_
    exact xiret ha hP hS dX7_begin_10 ⟨by simp [x_begin, u_1, i_leN, -Int32.not_lt], (by simp [x_begin, u_1, i_leN, -Int32.not_lt])⟩ rfl
set_option maxHeartbeats 4000000 in
set_option maxRecDepth 100000 in
theorem c_X7_begin_n (G : GT) (l : Launch) (σ : Mem) (n : Int32) (most : Int32) (fill : Int32)  : CI G 74 (cX G) l yX7_begin ({ frames := 2, cells := 0, slots := 0, locals := 44 } : Room) cX7_begin 5 (some .int) [.ref (G.1 0), .null, .int n, .int most, .int fill] σ (fun (r : Int32) u => r = -1 ∧ u = σ) := by
  intro sz
  refine xbegin (by decide) (Nat.le_of_ble_eq_true rfl) ?_
  intro p e s m below meth c ls hsz ha hP hl
  subst hsz
  have hx := ha.1
  have hb := ha.2.1
  have hS : va_S (xA G 74 s.heap.size) s.heap s.heap [] := va_S.rf
  have hl : lv_has ls 5 [(0, .ref (G.1 0)), (1, .null), (2, .int n), (3, .int most), (4, .int fill)] := hl
  have k_m1 : (-1 : Int32).toInt = -1 := by decide
  have k_0 : (0 : Int32).toInt = 0 := by decide
  have k_5 : (5 : Int32).toInt = 5 := by decide
  refine lv_aload_nN hx hb dX7_begin_0 rfl (lv_at hl 1 rfl) ?_
  refine lv_ifnullN (tgt := 9) hx hb dX7_begin_1 (by decide) ?_
  refine lv_iconst (v := (-1)) hx hb dX7_begin_9 (by decide) ?_
  exact xiret ha hP hS dX7_begin_10 ⟨by rfl, rfl⟩ rfl
set_option maxHeartbeats 4000000 in
set_option maxRecDepth 100000 in
theorem c_X7_row (G : GT) (l : Launch) (σ : Mem) (ro : Int32) (n : Int32)  : CI G 74 (cX G) l yX7_row ({ frames := 3, cells := 0, slots := 0, locals := 68 } : Room) cX7_row 3 (some .int) [.ref (G.1 0), .int ro, .int n] σ (fun (r : Int32) u => r = (k_row σ ro n).1 ∧ u = (k_row σ ro n).2) := by
  intro sz
  refine xbegin (by decide) (Nat.le_of_ble_eq_true rfl) ?_
  intro p e s m below meth c ls hsz ha hP hl
  subst hsz
  have hx := ha.1
  have hb := ha.2.1
  have hS : va_S (xA G 74 s.heap.size) s.heap s.heap [] := va_S.rf
  have hl : lv_has ls 3 [(0, .ref (G.1 0)), (1, .int ro), (2, .int n)] := hl
  have k_0 : (0 : Int32).toInt = 0 := by decide
  have k_40 : (40 : Int32).toInt = 40 := by decide
  refine lv_aload_n hx hb dX7_row_0 rfl (lv_at hl 0 rfl) ?_
  refine lv_aload_n hx hb dX7_row_1 rfl (lv_at hl 0 rfl) ?_
  refine lv_iload_n hx hb dX7_row_2 rfl (lv_at hl 1 rfl) ?_
  refine xVq ha hP hS (y := yX7_rowAt) (As := [.int ro]) (rest := [.ref (G.1 0)]) 0 (by decide) (cX_0 G _) rfl rfl (c_X7_rowAt G l σ ro ) kw_X7_85 hd_X7_rowAt rfl ⟨rfl, rfl⟩ ⟨Nat.le_of_ble_eq_true rfl, Nat.le_of_ble_eq_true rfl⟩ ⟨Nat.zero_le _, Nat.zero_le _⟩ hl.1 (Nat.le_of_ble_eq_true rfl) rfl dX7_row_3 (fun r u H locs hpq hP hS => ?_)
  obtain ⟨hr_, hu_⟩ := hpq
  have hr_ := hr_.symm
  have hu_ := hu_.symm
  subst hr_
  subst hu_
  by_cases t_1 : a_in ro 6 = true
  · have f_1 := in_t t_1
    have g_1 := ix_toInt f_1.1
    rw [show (6 : Int32).toInt = 6 by decide] at f_1
    obtain ⟨o, eo⟩ : ∃ q, q = 5 + 2 * ix ro := ⟨_, rfl⟩
    have ho : oRow o := by unfold oRow; omega
    rw [show va_rf (if a_in ro 6 = true then some (G.1 (5 + 2 * ix ro)) else none) = .ref (G.1 o) from by rw [if_pos t_1, eo]; rfl]
    refine lv_iload_n hx hb dX7_row_6 rfl (lv_at hl 2 rfl) ?_
    refine lv_bipush (v := 40) hx hb dX7_row_7 (by decide) ?_
    refine lv_iconst (v := 0) hx hb dX7_row_9 (by decide) ?_
    refine xVi ha hP hS (y := yX7_begin) (As := [.ref (G.1 o), .int n, .int 40, .int 0]) (rest := []) 0 (by decide) (cX_0 G _) rfl rfl (c_X7_begin G l σ o n 40 0 ho) kw_X7_89 hd_X7_begin rfl ⟨rfl, rfl⟩ ⟨Nat.le_of_ble_eq_true rfl, Nat.le_of_ble_eq_true rfl⟩ ⟨Nat.zero_le _, Nat.zero_le _⟩ hl.1 (Nat.le_of_ble_eq_true rfl) rfl dX7_row_10 (fun r u H locs hpq hP hS => ?_)
    obtain ⟨hr_, hu_⟩ := hpq
    have hr_ := hr_.symm
    have hu_ := hu_.symm
    subst hr_
    subst hu_
    exact xiret ha hP hS dX7_row_13 ⟨by (try subst eo); (try subst eo2); simp [k_row, t_1, i_leN, -Int32.not_lt], (by (try subst eo); (try subst eo2); simp [k_row, t_1, i_leN, -Int32.not_lt])⟩ rfl
  · rw [show va_rf (if a_in ro 6 = true then some (G.1 (5 + 2 * ix ro)) else none) = .null from by rw [if_neg t_1]; rfl]
    refine lv_iload_n hx hb dX7_row_6 rfl (lv_at hl 2 rfl) ?_
    refine lv_bipush (v := 40) hx hb dX7_row_7 (by decide) ?_
    refine lv_iconst (v := 0) hx hb dX7_row_9 (by decide) ?_
    refine xVi ha hP hS (y := yX7_begin) (As := [.null, .int n, .int 40, .int 0]) (rest := []) 0 (by decide) (cX_0 G _) rfl rfl (c_X7_begin_n G l σ n 40 0 ) kw_X7_89 hd_X7_begin rfl ⟨rfl, rfl⟩ ⟨Nat.le_of_ble_eq_true rfl, Nat.le_of_ble_eq_true rfl⟩ ⟨Nat.zero_le _, Nat.zero_le _⟩ hl.1 (Nat.le_of_ble_eq_true rfl) rfl dX7_row_10 (fun r u H locs hpq hP hS => ?_)
    obtain ⟨hr_, hu_⟩ := hpq
    have hr_ := hr_.symm
    have hu_ := hu_.symm
    subst hr_
    subst hu_
    exact xiret ha hP hS dX7_row_13 ⟨by (try subst eo); (try subst eo2); simp [k_row, t_1, i_leN, -Int32.not_lt], (by (try subst eo); (try subst eo2); simp [k_row, t_1, i_leN, -Int32.not_lt])⟩ rfl
set_option maxHeartbeats 4000000 in
set_option maxRecDepth 100000 in
theorem c_X7_text (G : GT) (l : Launch) (σ : Mem) (ro : Int32) (n : Int32)  : CI G 74 (cX G) l yX7_text ({ frames := 3, cells := 0, slots := 0, locals := 68 } : Room) cX7_text 3 (some .int) [.ref (G.1 0), .int ro, .int n] σ (fun (r : Int32) u => r = (k_text σ ro n).1 ∧ u = (k_text σ ro n).2) := by
  intro sz
  refine xbegin (by decide) (Nat.le_of_ble_eq_true rfl) ?_
  intro p e s m below meth c ls hsz ha hP hl
  subst hsz
  have hx := ha.1
  have hb := ha.2.1
  have hS : va_S (xA G 74 s.heap.size) s.heap s.heap [] := va_S.rf
  have hl : lv_has ls 3 [(0, .ref (G.1 0)), (1, .int ro), (2, .int n)] := hl
  have k_0 : (0 : Int32).toInt = 0 := by decide
  have k_32 : (32 : Int32).toInt = 32 := by decide
  have k_60 : (60 : Int32).toInt = 60 := by decide
  refine lv_aload_n hx hb dX7_text_0 rfl (lv_at hl 0 rfl) ?_
  refine lv_aload_n hx hb dX7_text_1 rfl (lv_at hl 0 rfl) ?_
  refine lv_iload_n hx hb dX7_text_2 rfl (lv_at hl 1 rfl) ?_
  refine xVq ha hP hS (y := yX7_textAt) (As := [.int ro]) (rest := [.ref (G.1 0)]) 0 (by decide) (cX_0 G _) rfl rfl (c_X7_textAt G l σ ro ) kw_X7_128 hd_X7_textAt rfl ⟨rfl, rfl⟩ ⟨Nat.le_of_ble_eq_true rfl, Nat.le_of_ble_eq_true rfl⟩ ⟨Nat.zero_le _, Nat.zero_le _⟩ hl.1 (Nat.le_of_ble_eq_true rfl) rfl dX7_text_3 (fun r u H locs hpq hP hS => ?_)
  obtain ⟨hr_, hu_⟩ := hpq
  have hr_ := hr_.symm
  have hu_ := hu_.symm
  subst hr_
  subst hu_
  by_cases t_1 : a_in ro 4 = true
  · have f_1 := in_t t_1
    have g_1 := ix_toInt f_1.1
    rw [show (4 : Int32).toInt = 4 by decide] at f_1
    obtain ⟨o, eo⟩ : ∃ q, q = 17 + 2 * ix ro := ⟨_, rfl⟩
    have ho : oRow o := by unfold oRow; omega
    rw [show va_rf (if a_in ro 4 = true then some (G.1 (17 + 2 * ix ro)) else none) = .ref (G.1 o) from by rw [if_pos t_1, eo]; rfl]
    refine lv_iload_n hx hb dX7_text_6 rfl (lv_at hl 2 rfl) ?_
    refine lv_bipush (v := 60) hx hb dX7_text_7 (by decide) ?_
    refine lv_bipush (v := 32) hx hb dX7_text_9 (by decide) ?_
    refine xVi ha hP hS (y := yX7_begin) (As := [.ref (G.1 o), .int n, .int 60, .int 32]) (rest := []) 0 (by decide) (cX_0 G _) rfl rfl (c_X7_begin G l σ o n 60 32 ho) kw_X7_89 hd_X7_begin rfl ⟨rfl, rfl⟩ ⟨Nat.le_of_ble_eq_true rfl, Nat.le_of_ble_eq_true rfl⟩ ⟨Nat.zero_le _, Nat.zero_le _⟩ hl.1 (Nat.le_of_ble_eq_true rfl) rfl dX7_text_11 (fun r u H locs hpq hP hS => ?_)
    obtain ⟨hr_, hu_⟩ := hpq
    have hr_ := hr_.symm
    have hu_ := hu_.symm
    subst hr_
    subst hu_
    exact xiret ha hP hS dX7_text_14 ⟨by (try subst eo); (try subst eo2); simp [k_text, t_1, i_leN, -Int32.not_lt], (by (try subst eo); (try subst eo2); simp [k_text, t_1, i_leN, -Int32.not_lt])⟩ rfl
  · rw [show va_rf (if a_in ro 4 = true then some (G.1 (17 + 2 * ix ro)) else none) = .null from by rw [if_neg t_1]; rfl]
    refine lv_iload_n hx hb dX7_text_6 rfl (lv_at hl 2 rfl) ?_
    refine lv_bipush (v := 60) hx hb dX7_text_7 (by decide) ?_
    refine lv_bipush (v := 32) hx hb dX7_text_9 (by decide) ?_
    refine xVi ha hP hS (y := yX7_begin) (As := [.null, .int n, .int 60, .int 32]) (rest := []) 0 (by decide) (cX_0 G _) rfl rfl (c_X7_begin_n G l σ n 60 32 ) kw_X7_89 hd_X7_begin rfl ⟨rfl, rfl⟩ ⟨Nat.le_of_ble_eq_true rfl, Nat.le_of_ble_eq_true rfl⟩ ⟨Nat.zero_le _, Nat.zero_le _⟩ hl.1 (Nat.le_of_ble_eq_true rfl) rfl dX7_text_11 (fun r u H locs hpq hP hS => ?_)
    obtain ⟨hr_, hu_⟩ := hpq
    have hr_ := hr_.symm
    have hu_ := hu_.symm
    subst hr_
    subst hu_
    exact xiret ha hP hS dX7_text_14 ⟨by (try subst eo); (try subst eo2); simp [k_text, t_1, i_leN, -Int32.not_lt], (by (try subst eo); (try subst eo2); simp [k_text, t_1, i_leN, -Int32.not_lt])⟩ rfl
set_option maxHeartbeats 4000000 in
set_option maxRecDepth 100000 in
theorem c_X7_lay (G : GT) (l : Launch) (σ : Mem) (ro : Int32) (i : Int32) (v : Int32)  : CI G 74 (cX G) l yX7_lay ({ frames := 2, cells := 0, slots := 0, locals := 43 } : Room) cX7_lay 7 (some .int) [.ref (G.1 0), .int ro, .int i, .int v] σ (fun (r : Int32) u => r = (k_lay σ ro i v).1 ∧ u = (k_lay σ ro i v).2) := by
  intro sz
  refine xbegin (by decide) (Nat.le_of_ble_eq_true rfl) ?_
  intro p e s m below meth c ls hsz ha hP hl
  subst hsz
  have hx := ha.1
  have hb := ha.2.1
  have hS : va_S (xA G 74 s.heap.size) s.heap s.heap [] := va_S.rf
  have hl : lv_has ls 7 [(0, .ref (G.1 0)), (1, .int ro), (2, .int i), (3, .int v)] := hl
  have k_m1 : (-1 : Int32).toInt = -1 := by decide
  have k_0 : (0 : Int32).toInt = 0 := by decide
  refine lv_aload_n hx hb dX7_lay_0 rfl (lv_at hl 0 rfl) ?_
  refine lv_iload_n hx hb dX7_lay_1 rfl (lv_at hl 1 rfl) ?_
  refine xVq ha hP hS (y := yX7_rowAt) (As := [.int ro]) (rest := []) 0 (by decide) (cX_0 G _) rfl rfl (c_X7_rowAt G l σ ro ) kw_X7_85 hd_X7_rowAt rfl ⟨rfl, rfl⟩ ⟨Nat.le_of_ble_eq_true rfl, Nat.le_of_ble_eq_true rfl⟩ ⟨Nat.zero_le _, Nat.zero_le _⟩ hl.1 (Nat.le_of_ble_eq_true rfl) rfl dX7_lay_2 (fun r u H locs hpq hP hS => ?_)
  obtain ⟨hr_, hu_⟩ := hpq
  have hr_ := hr_.symm
  have hu_ := hu_.symm
  subst hr_
  subst hu_
  by_cases t_1 : a_in ro 6 = true
  · have f_1 := in_t t_1
    have g_1 := ix_toInt f_1.1
    rw [show (6 : Int32).toInt = 6 by decide] at f_1
    obtain ⟨o, eo⟩ : ∃ q, q = 5 + 2 * ix ro := ⟨_, rfl⟩
    have ho : oRow o := by unfold oRow; omega
    rw [show va_rf (if a_in ro 6 = true then some (G.1 (5 + 2 * ix ro)) else none) = .ref (G.1 o) from by rw [if_pos t_1, eo]; rfl]
    refine lv_astore (lv' := [(4, .ref (G.1 o)), (0, .ref (G.1 0)), (1, .int ro), (2, .int i), (3, .int v)]) hx hb dX7_lay_5 hl (by decide) rfl (fun ls hl => ?_)
    refine lv_aload hx hb dX7_lay_7 (lv_at hl 0 rfl) ?_
    refine lv_ifnonnull (tgt := 14) hx hb dX7_lay_9 (by decide) ?_
    refine lv_aload hx hb dX7_lay_14 (lv_at hl 0 rfl) ?_
    refine lv_iload_n hx hb dX7_lay_16 rfl (lv_at hl 3 rfl) ?_
    refine xVi ha hP hS (y := yX3_findingAt) (As := [.int i]) (rest := []) o (oRow_lt0 ho) (sRow ho) rfl rfl (c_X3_findingAt G l σ o i ho) kw_X7_93 hd_X3_findingAt rfl ⟨rfl, rfl⟩ ⟨Nat.le_of_ble_eq_true rfl, Nat.le_of_ble_eq_true rfl⟩ ⟨Nat.zero_le _, Nat.zero_le _⟩ hl.1 (Nat.le_of_ble_eq_true rfl) rfl dX7_lay_17 (fun r u H locs hpq hP hS => ?_)
    obtain ⟨hr_, hu_⟩ := hpq
    have hr_ := hr_.symm
    have hu_ := hu_.symm
    subst hr_
    subst hu_
    refine lv_istore (lv' := [(5, .int (a_findAt σ o i)), (4, .ref (G.1 o)), (0, .ref (G.1 0)), (1, .int ro), (2, .int i), (3, .int v)]) hx hb dX7_lay_20 hl (by decide) rfl (fun ls hl => ?_)
    refine lv_iload hx hb dX7_lay_22 (lv_at hl 0 rfl) ?_
    refine lv_if_eq (tgt := 34) hx hb dX7_lay_24 (by decide) (fun c_2 => ?_) (fun c_2 => ?_)
    · have t_2 := i_eq c_2
      refine lv_aload hx hb dX7_lay_34 (lv_at hl 1 rfl) ?_
      refine lv_iload_n hx hb dX7_lay_36 rfl (lv_at hl 4 rfl) ?_
      refine xVi ha hP hS (y := yX3_get) (As := [.int i]) (rest := []) o (oRow_lt0 ho) (sRow ho) rfl rfl (c_X3_get G l σ o i ho) kw_X7_100 hd_X3_get rfl ⟨rfl, rfl⟩ ⟨Nat.le_of_ble_eq_true rfl, Nat.le_of_ble_eq_true rfl⟩ ⟨Nat.zero_le _, Nat.zero_le _⟩ hl.1 (Nat.le_of_ble_eq_true rfl) rfl dX7_lay_37 (fun r u H locs hpq hP hS => ?_)
      obtain ⟨hr_, hu_⟩ := hpq
      have hr_ := hr_.symm
      have hu_ := hu_.symm
      subst hr_
      subst hu_
      refine lv_istore (lv' := [(6, .int (a_get σ o i)), (5, .int (a_findAt σ o i)), (4, .ref (G.1 o)), (0, .ref (G.1 0)), (1, .int ro), (2, .int i), (3, .int v)]) hx hb dX7_lay_40 hl (by decide) rfl (fun ls hl => ?_)
      refine lv_aload hx hb dX7_lay_42 (lv_at hl 2 rfl) ?_
      refine lv_iload_n hx hb dX7_lay_44 rfl (lv_at hl 5 rfl) ?_
      refine lv_iload_n hx hb dX7_lay_45 rfl (lv_at hl 6 rfl) ?_
      refine xVv ha hP hS (y := yX3_set) (As := [.int i, .int v]) (rest := []) o (oRow_lt0 ho) (sRow ho) rfl rfl (c_X3_set G l σ o i v ho) kw_X7_103 hd_X3_set rfl ⟨rfl, rfl⟩ ⟨Nat.le_of_ble_eq_true rfl, Nat.le_of_ble_eq_true rfl⟩ ⟨Nat.zero_le _, Nat.zero_le _⟩ hl.1 (Nat.le_of_ble_eq_true rfl) rfl dX7_lay_46 (fun u H locs hpq hP hS => ?_)
      have hpq := hpq.symm
      subst hpq
      refine lv_aload_n hx hb dX7_lay_49 rfl (lv_at hl 3 rfl) ?_
      refine lv_iload hx hb dX7_lay_50 (lv_at hl 0 rfl) ?_
      refine xVi ha hP hS (y := yX7_tell) (As := [.int (a_get σ o i)]) (rest := []) 0 (by decide) (cX_0 G _) rfl rfl (c_X7_tell G l (m_set σ o i v) (a_get σ o i) ) kw_X7_107 hd_X7_tell rfl ⟨rfl, rfl⟩ ⟨Nat.le_of_ble_eq_true rfl, Nat.le_of_ble_eq_true rfl⟩ ⟨Nat.zero_le _, Nat.zero_le _⟩ hl.1 (Nat.le_of_ble_eq_true rfl) rfl dX7_lay_52 (fun r u H locs hpq hP hS => ?_)
      obtain ⟨hr_, hu_⟩ := hpq
      have hr_ := hr_.symm
      have hu_ := hu_.symm
      subst hr_
      subst hu_
      exact xiret ha hP hS dX7_lay_55 ⟨by (try subst eo); (try subst eo2); simp [k_lay, t_1, c_2, i_leN, -Int32.not_lt], (by (try subst eo); (try subst eo2); simp [k_lay, t_1, c_2, i_leN, -Int32.not_lt])⟩ rfl
    · have t_2 := i_ne c_2
      refine lv_aload_n hx hb dX7_lay_27 rfl (lv_at hl 2 rfl) ?_
      refine lv_iload hx hb dX7_lay_28 (lv_at hl 0 rfl) ?_
      refine xVi ha hP hS (y := yX7_found) (As := [.int (a_findAt σ o i)]) (rest := []) 0 (by decide) (cX_0 G _) rfl rfl (c_X7_found G l σ (a_findAt σ o i) ) kw_X7_97 hd_X7_found rfl ⟨rfl, rfl⟩ ⟨Nat.le_of_ble_eq_true rfl, Nat.le_of_ble_eq_true rfl⟩ ⟨Nat.zero_le _, Nat.zero_le _⟩ hl.1 (Nat.le_of_ble_eq_true rfl) rfl dX7_lay_30 (fun r u H locs hpq hP hS => ?_)
      obtain ⟨hr_, hu_⟩ := hpq
      have hr_ := hr_.symm
      have hu_ := hu_.symm
      subst hr_
      subst hu_
      exact xiret ha hP hS dX7_lay_33 ⟨by (try subst eo); (try subst eo2); simp [k_lay, t_1, c_2, i_leN, -Int32.not_lt], (by (try subst eo); (try subst eo2); simp [k_lay, t_1, c_2, i_leN, -Int32.not_lt])⟩ rfl
  · rw [show va_rf (if a_in ro 6 = true then some (G.1 (5 + 2 * ix ro)) else none) = .null from by rw [if_neg t_1]; rfl]
    refine lv_astoreN (lv' := [(4, .null), (0, .ref (G.1 0)), (1, .int ro), (2, .int i), (3, .int v)]) hx hb dX7_lay_5 hl (by decide) rfl (fun ls hl => ?_)
    refine lv_aloadN hx hb dX7_lay_7 (lv_at hl 0 rfl) ?_
    refine lv_ifnonnullN hx hb dX7_lay_9 ?_
    refine lv_iconst (v := (-1)) hx hb dX7_lay_12 (by decide) ?_
    exact xiret ha hP hS dX7_lay_13 ⟨by (try subst eo); (try subst eo2); simp [k_lay, t_1, i_leN, -Int32.not_lt], (by (try subst eo); (try subst eo2); simp [k_lay, t_1, i_leN, -Int32.not_lt])⟩ rfl
set_option maxHeartbeats 4000000 in
set_option maxRecDepth 100000 in
theorem c_X7_at (G : GT) (l : Launch) (σ : Mem) (ro : Int32) (i : Int32)  : CI G 74 (cX G) l yX7_at ({ frames := 2, cells := 0, slots := 0, locals := 42 } : Room) cX7_at 5 (some .int) [.ref (G.1 0), .int ro, .int i] σ (fun (r : Int32) u => r = (k_at σ ro i).1 ∧ u = (k_at σ ro i).2) := by
  intro sz
  refine xbegin (by decide) (Nat.le_of_ble_eq_true rfl) ?_
  intro p e s m below meth c ls hsz ha hP hl
  subst hsz
  have hx := ha.1
  have hb := ha.2.1
  have hS : va_S (xA G 74 s.heap.size) s.heap s.heap [] := va_S.rf
  have hl : lv_has ls 5 [(0, .ref (G.1 0)), (1, .int ro), (2, .int i)] := hl
  have k_m1 : (-1 : Int32).toInt = -1 := by decide
  have k_0 : (0 : Int32).toInt = 0 := by decide
  refine lv_aload_n hx hb dX7_at_0 rfl (lv_at hl 0 rfl) ?_
  refine lv_iload_n hx hb dX7_at_1 rfl (lv_at hl 1 rfl) ?_
  refine xVq ha hP hS (y := yX7_rowAt) (As := [.int ro]) (rest := []) 0 (by decide) (cX_0 G _) rfl rfl (c_X7_rowAt G l σ ro ) kw_X7_85 hd_X7_rowAt rfl ⟨rfl, rfl⟩ ⟨Nat.le_of_ble_eq_true rfl, Nat.le_of_ble_eq_true rfl⟩ ⟨Nat.zero_le _, Nat.zero_le _⟩ hl.1 (Nat.le_of_ble_eq_true rfl) rfl dX7_at_2 (fun r u H locs hpq hP hS => ?_)
  obtain ⟨hr_, hu_⟩ := hpq
  have hr_ := hr_.symm
  have hu_ := hu_.symm
  subst hr_
  subst hu_
  by_cases t_1 : a_in ro 6 = true
  · have f_1 := in_t t_1
    have g_1 := ix_toInt f_1.1
    rw [show (6 : Int32).toInt = 6 by decide] at f_1
    obtain ⟨o, eo⟩ : ∃ q, q = 5 + 2 * ix ro := ⟨_, rfl⟩
    have ho : oRow o := by unfold oRow; omega
    rw [show va_rf (if a_in ro 6 = true then some (G.1 (5 + 2 * ix ro)) else none) = .ref (G.1 o) from by rw [if_pos t_1, eo]; rfl]
    refine lv_astore_n (lv' := [(3, .ref (G.1 o)), (0, .ref (G.1 0)), (1, .int ro), (2, .int i)]) hx hb dX7_at_5 rfl hl (by decide) rfl (fun ls hl => ?_)
    refine lv_aload_n hx hb dX7_at_6 rfl (lv_at hl 0 rfl) ?_
    refine lv_ifnonnull (tgt := 12) hx hb dX7_at_7 (by decide) ?_
    refine lv_aload_n hx hb dX7_at_12 rfl (lv_at hl 0 rfl) ?_
    refine lv_iload_n hx hb dX7_at_13 rfl (lv_at hl 3 rfl) ?_
    refine xVi ha hP hS (y := yX3_findingAt) (As := [.int i]) (rest := []) o (oRow_lt0 ho) (sRow ho) rfl rfl (c_X3_findingAt G l σ o i ho) kw_X7_93 hd_X3_findingAt rfl ⟨rfl, rfl⟩ ⟨Nat.le_of_ble_eq_true rfl, Nat.le_of_ble_eq_true rfl⟩ ⟨Nat.zero_le _, Nat.zero_le _⟩ hl.1 (Nat.le_of_ble_eq_true rfl) rfl dX7_at_14 (fun r u H locs hpq hP hS => ?_)
    obtain ⟨hr_, hu_⟩ := hpq
    have hr_ := hr_.symm
    have hu_ := hu_.symm
    subst hr_
    subst hu_
    refine lv_istore (lv' := [(4, .int (a_findAt σ o i)), (3, .ref (G.1 o)), (0, .ref (G.1 0)), (1, .int ro), (2, .int i)]) hx hb dX7_at_17 hl (by decide) rfl (fun ls hl => ?_)
    refine lv_iload hx hb dX7_at_19 (lv_at hl 0 rfl) ?_
    refine lv_if_eq (tgt := 33) hx hb dX7_at_21 (by decide) (fun c_2 => ?_) (fun c_2 => ?_)
    · have t_2 := i_eq c_2
      refine lv_aload_n hx hb dX7_at_33 rfl (lv_at hl 2 rfl) ?_
      refine lv_aload_n hx hb dX7_at_34 rfl (lv_at hl 1 rfl) ?_
      refine lv_iload_n hx hb dX7_at_35 rfl (lv_at hl 4 rfl) ?_
      refine xVi ha hP hS (y := yX3_get) (As := [.int i]) (rest := [.ref (G.1 0)]) o (oRow_lt0 ho) (sRow ho) rfl rfl (c_X3_get G l σ o i ho) kw_X7_100 hd_X3_get rfl ⟨rfl, rfl⟩ ⟨Nat.le_of_ble_eq_true rfl, Nat.le_of_ble_eq_true rfl⟩ ⟨Nat.zero_le _, Nat.zero_le _⟩ hl.1 (Nat.le_of_ble_eq_true rfl) rfl dX7_at_36 (fun r u H locs hpq hP hS => ?_)
      obtain ⟨hr_, hu_⟩ := hpq
      have hr_ := hr_.symm
      have hu_ := hu_.symm
      subst hr_
      subst hu_
      refine xVi ha hP hS (y := yX7_tell) (As := [.int (a_get σ o i)]) (rest := []) 0 (by decide) (cX_0 G _) rfl rfl (c_X7_tell G l σ (a_get σ o i) ) kw_X7_107 hd_X7_tell rfl ⟨rfl, rfl⟩ ⟨Nat.le_of_ble_eq_true rfl, Nat.le_of_ble_eq_true rfl⟩ ⟨Nat.zero_le _, Nat.zero_le _⟩ hl.1 (Nat.le_of_ble_eq_true rfl) rfl dX7_at_39 (fun r u H locs hpq hP hS => ?_)
      obtain ⟨hr_, hu_⟩ := hpq
      have hr_ := hr_.symm
      have hu_ := hu_.symm
      subst hr_
      subst hu_
      exact xiret ha hP hS dX7_at_42 ⟨by (try subst eo); (try subst eo2); simp [k_at, t_1, c_2, i_leN, -Int32.not_lt], (by (try subst eo); (try subst eo2); simp [k_at, t_1, c_2, i_leN, -Int32.not_lt])⟩ rfl
    · have t_2 := i_ne c_2
      refine lv_aload_n hx hb dX7_at_24 rfl (lv_at hl 2 rfl) ?_
      refine lv_iload hx hb dX7_at_25 (lv_at hl 0 rfl) ?_
      refine xVi ha hP hS (y := yX7_found) (As := [.int (a_findAt σ o i)]) (rest := []) 0 (by decide) (cX_0 G _) rfl rfl (c_X7_found G l σ (a_findAt σ o i) ) kw_X7_97 hd_X7_found rfl ⟨rfl, rfl⟩ ⟨Nat.le_of_ble_eq_true rfl, Nat.le_of_ble_eq_true rfl⟩ ⟨Nat.zero_le _, Nat.zero_le _⟩ hl.1 (Nat.le_of_ble_eq_true rfl) rfl dX7_at_27 (fun r u H locs hpq hP hS => ?_)
      obtain ⟨hr_, hu_⟩ := hpq
      have hr_ := hr_.symm
      have hu_ := hu_.symm
      subst hr_
      subst hu_
      refine lv_goto (tgt := 42) hx hb dX7_at_30 (by decide) ?_
      exact xiret ha hP hS dX7_at_42 ⟨by (try subst eo); (try subst eo2); simp [k_at, t_1, c_2, i_leN, -Int32.not_lt], (by (try subst eo); (try subst eo2); simp [k_at, t_1, c_2, i_leN, -Int32.not_lt])⟩ rfl
  · rw [show va_rf (if a_in ro 6 = true then some (G.1 (5 + 2 * ix ro)) else none) = .null from by rw [if_neg t_1]; rfl]
    refine lv_astore_nN (lv' := [(3, .null), (0, .ref (G.1 0)), (1, .int ro), (2, .int i)]) hx hb dX7_at_5 rfl hl (by decide) rfl (fun ls hl => ?_)
    refine lv_aload_nN hx hb dX7_at_6 rfl (lv_at hl 0 rfl) ?_
    refine lv_ifnonnullN hx hb dX7_at_7 ?_
    refine lv_iconst (v := (-1)) hx hb dX7_at_10 (by decide) ?_
    exact xiret ha hP hS dX7_at_11 ⟨by (try subst eo); (try subst eo2); simp [k_at, t_1, i_leN, -Int32.not_lt], (by (try subst eo); (try subst eo2); simp [k_at, t_1, i_leN, -Int32.not_lt])⟩ rfl
set_option maxHeartbeats 4000000 in
set_option maxRecDepth 100000 in
theorem c_X7_put (G : GT) (l : Launch) (σ : Mem) (ro : Int32) (i : Int32) (v : Int32)  : CI G 74 (cX G) l yX7_put ({ frames := 2, cells := 0, slots := 0, locals := 43 } : Room) cX7_put 7 (some .int) [.ref (G.1 0), .int ro, .int i, .int v] σ (fun (r : Int32) u => r = (k_put σ ro i v).1 ∧ u = (k_put σ ro i v).2) := by
  intro sz
  refine xbegin (by decide) (Nat.le_of_ble_eq_true rfl) ?_
  intro p e s m below meth c ls hsz ha hP hl
  subst hsz
  have hx := ha.1
  have hb := ha.2.1
  have hS : va_S (xA G 74 s.heap.size) s.heap s.heap [] := va_S.rf
  have hl : lv_has ls 7 [(0, .ref (G.1 0)), (1, .int ro), (2, .int i), (3, .int v)] := hl
  have k_m1 : (-1 : Int32).toInt = -1 := by decide
  have k_0 : (0 : Int32).toInt = 0 := by decide
  have k_1000 : (1000 : Int32).toInt = 1000 := by decide
  refine lv_aload_n hx hb dX7_put_0 rfl (lv_at hl 0 rfl) ?_
  refine lv_iload_n hx hb dX7_put_1 rfl (lv_at hl 1 rfl) ?_
  refine xVq ha hP hS (y := yX7_textAt) (As := [.int ro]) (rest := []) 0 (by decide) (cX_0 G _) rfl rfl (c_X7_textAt G l σ ro ) kw_X7_128 hd_X7_textAt rfl ⟨rfl, rfl⟩ ⟨Nat.le_of_ble_eq_true rfl, Nat.le_of_ble_eq_true rfl⟩ ⟨Nat.zero_le _, Nat.zero_le _⟩ hl.1 (Nat.le_of_ble_eq_true rfl) rfl dX7_put_2 (fun r u H locs hpq hP hS => ?_)
  obtain ⟨hr_, hu_⟩ := hpq
  have hr_ := hr_.symm
  have hu_ := hu_.symm
  subst hr_
  subst hu_
  by_cases t_1 : a_in ro 4 = true
  · have f_1 := in_t t_1
    have g_1 := ix_toInt f_1.1
    rw [show (4 : Int32).toInt = 4 by decide] at f_1
    obtain ⟨o, eo⟩ : ∃ q, q = 17 + 2 * ix ro := ⟨_, rfl⟩
    have ho : oRow o := by unfold oRow; omega
    rw [show va_rf (if a_in ro 4 = true then some (G.1 (17 + 2 * ix ro)) else none) = .ref (G.1 o) from by rw [if_pos t_1, eo]; rfl]
    refine lv_astore (lv' := [(4, .ref (G.1 o)), (0, .ref (G.1 0)), (1, .int ro), (2, .int i), (3, .int v)]) hx hb dX7_put_5 hl (by decide) rfl (fun ls hl => ?_)
    refine lv_aload hx hb dX7_put_7 (lv_at hl 0 rfl) ?_
    refine lv_ifnonnull (tgt := 14) hx hb dX7_put_9 (by decide) ?_
    refine lv_aload hx hb dX7_put_14 (lv_at hl 0 rfl) ?_
    refine lv_iload_n hx hb dX7_put_16 rfl (lv_at hl 3 rfl) ?_
    refine xVi ha hP hS (y := yX3_findingAt) (As := [.int i]) (rest := []) o (oRow_lt0 ho) (sRow ho) rfl rfl (c_X3_findingAt G l σ o i ho) kw_X7_93 hd_X3_findingAt rfl ⟨rfl, rfl⟩ ⟨Nat.le_of_ble_eq_true rfl, Nat.le_of_ble_eq_true rfl⟩ ⟨Nat.zero_le _, Nat.zero_le _⟩ hl.1 (Nat.le_of_ble_eq_true rfl) rfl dX7_put_17 (fun r u H locs hpq hP hS => ?_)
    obtain ⟨hr_, hu_⟩ := hpq
    have hr_ := hr_.symm
    have hu_ := hu_.symm
    subst hr_
    subst hu_
    refine lv_istore (lv' := [(5, .int (a_findAt σ o i)), (4, .ref (G.1 o)), (0, .ref (G.1 0)), (1, .int ro), (2, .int i), (3, .int v)]) hx hb dX7_put_20 hl (by decide) rfl (fun ls hl => ?_)
    refine lv_iload hx hb dX7_put_22 (lv_at hl 0 rfl) ?_
    refine lv_if_eq (tgt := 34) hx hb dX7_put_24 (by decide) (fun c_2 => ?_) (fun c_2 => ?_)
    · have t_2 := i_eq c_2
      refine lv_aload hx hb dX7_put_34 (lv_at hl 1 rfl) ?_
      refine lv_iload_n hx hb dX7_put_36 rfl (lv_at hl 4 rfl) ?_
      refine xVi ha hP hS (y := yX3_get) (As := [.int i]) (rest := []) o (oRow_lt0 ho) (sRow ho) rfl rfl (c_X3_get G l σ o i ho) kw_X7_100 hd_X3_get rfl ⟨rfl, rfl⟩ ⟨Nat.le_of_ble_eq_true rfl, Nat.le_of_ble_eq_true rfl⟩ ⟨Nat.zero_le _, Nat.zero_le _⟩ hl.1 (Nat.le_of_ble_eq_true rfl) rfl dX7_put_37 (fun r u H locs hpq hP hS => ?_)
      obtain ⟨hr_, hu_⟩ := hpq
      have hr_ := hr_.symm
      have hu_ := hu_.symm
      subst hr_
      subst hu_
      refine lv_istore (lv' := [(6, .int (a_get σ o i)), (5, .int (a_findAt σ o i)), (4, .ref (G.1 o)), (0, .ref (G.1 0)), (1, .int ro), (2, .int i), (3, .int v)]) hx hb dX7_put_40 hl (by decide) rfl (fun ls hl => ?_)
      refine lv_aload hx hb dX7_put_42 (lv_at hl 2 rfl) ?_
      refine lv_iload_n hx hb dX7_put_44 rfl (lv_at hl 5 rfl) ?_
      refine lv_iload_n hx hb dX7_put_45 rfl (lv_at hl 6 rfl) ?_
      refine lv_i2b (v := v.toInt8.toInt32) hx hb dX7_put_46 rfl ?_
      refine xVv ha hP hS (y := yX3_set) (As := [.int i, .int v.toInt8.toInt32]) (rest := []) o (oRow_lt0 ho) (sRow ho) rfl rfl (c_X3_set G l σ o i v.toInt8.toInt32 ho) kw_X7_103 hd_X3_set rfl ⟨rfl, rfl⟩ ⟨Nat.le_of_ble_eq_true rfl, Nat.le_of_ble_eq_true rfl⟩ ⟨Nat.zero_le _, Nat.zero_le _⟩ hl.1 (Nat.le_of_ble_eq_true rfl) rfl dX7_put_47 (fun u H locs hpq hP hS => ?_)
      have hpq := hpq.symm
      subst hpq
      refine lv_iload hx hb dX7_put_50 (lv_at hl 0 rfl) ?_
      refine lv_sipush (v := 1000) hx hb dX7_put_52 (by decide) ?_
      refine lv_iadd hx hb dX7_put_55 ?_
      exact xiret ha hP hS dX7_put_56 ⟨by (try subst eo); (try subst eo2); simp [k_put, t_1, c_2, i_leN, -Int32.not_lt], (by (try subst eo); (try subst eo2); simp [k_put, t_1, c_2, i_leN, -Int32.not_lt])⟩ rfl
    · have t_2 := i_ne c_2
      refine lv_aload_n hx hb dX7_put_27 rfl (lv_at hl 2 rfl) ?_
      refine lv_iload hx hb dX7_put_28 (lv_at hl 0 rfl) ?_
      refine xVi ha hP hS (y := yX7_found) (As := [.int (a_findAt σ o i)]) (rest := []) 0 (by decide) (cX_0 G _) rfl rfl (c_X7_found G l σ (a_findAt σ o i) ) kw_X7_97 hd_X7_found rfl ⟨rfl, rfl⟩ ⟨Nat.le_of_ble_eq_true rfl, Nat.le_of_ble_eq_true rfl⟩ ⟨Nat.zero_le _, Nat.zero_le _⟩ hl.1 (Nat.le_of_ble_eq_true rfl) rfl dX7_put_30 (fun r u H locs hpq hP hS => ?_)
      obtain ⟨hr_, hu_⟩ := hpq
      have hr_ := hr_.symm
      have hu_ := hu_.symm
      subst hr_
      subst hu_
      exact xiret ha hP hS dX7_put_33 ⟨by (try subst eo); (try subst eo2); simp [k_put, t_1, c_2, i_leN, -Int32.not_lt], (by (try subst eo); (try subst eo2); simp [k_put, t_1, c_2, i_leN, -Int32.not_lt])⟩ rfl
  · rw [show va_rf (if a_in ro 4 = true then some (G.1 (17 + 2 * ix ro)) else none) = .null from by rw [if_neg t_1]; rfl]
    refine lv_astoreN (lv' := [(4, .null), (0, .ref (G.1 0)), (1, .int ro), (2, .int i), (3, .int v)]) hx hb dX7_put_5 hl (by decide) rfl (fun ls hl => ?_)
    refine lv_aloadN hx hb dX7_put_7 (lv_at hl 0 rfl) ?_
    refine lv_ifnonnullN hx hb dX7_put_9 ?_
    refine lv_iconst (v := (-1)) hx hb dX7_put_12 (by decide) ?_
    exact xiret ha hP hS dX7_put_13 ⟨by (try subst eo); (try subst eo2); simp [k_put, t_1, i_leN, -Int32.not_lt], (by (try subst eo); (try subst eo2); simp [k_put, t_1, i_leN, -Int32.not_lt])⟩ rfl
set_option maxHeartbeats 4000000 in
set_option maxRecDepth 100000 in
theorem c_X7_fault (G : GT) (l : Launch) (σ : Mem) (ro : Int32) (hz : RZ σ) : CI G 74 (cX G) l yX7_fault ({ frames := 5, cells := 0, slots := 0, locals := 114 } : Room) cX7_fault 3 (some .int) [.ref (G.1 0), .int ro] σ (fun (r : Int32) u => r = (k_fault σ ro).1 ∧ u = (k_fault σ ro).2) := by
  intro sz
  refine xbegin (by decide) (Nat.le_of_ble_eq_true rfl) ?_
  intro p e s m below meth c ls hsz ha hP hl
  subst hsz
  have hx := ha.1
  have hb := ha.2.1
  have hS : va_S (xA G 74 s.heap.size) s.heap s.heap [] := va_S.rf
  have hl : lv_has ls 3 [(0, .ref (G.1 0)), (1, .int ro)] := hl
  have k_m1 : (-1 : Int32).toInt = -1 := by decide
  have k_0 : (0 : Int32).toInt = 0 := by decide
  have k_1 : (1 : Int32).toInt = 1 := by decide
  refine lv_aload_n hx hb dX7_fault_0 rfl (lv_at hl 0 rfl) ?_
  refine lv_iload_n hx hb dX7_fault_1 rfl (lv_at hl 1 rfl) ?_
  refine xVq ha hP hS (y := yX7_textAt) (As := [.int ro]) (rest := []) 0 (by decide) (cX_0 G _) rfl rfl (c_X7_textAt G l σ ro ) kw_X7_128 hd_X7_textAt rfl ⟨rfl, rfl⟩ ⟨Nat.le_of_ble_eq_true rfl, Nat.le_of_ble_eq_true rfl⟩ ⟨Nat.zero_le _, Nat.zero_le _⟩ hl.1 (Nat.le_of_ble_eq_true rfl) rfl dX7_fault_2 (fun r u H locs hpq hP hS => ?_)
  obtain ⟨hr_, hu_⟩ := hpq
  have hr_ := hr_.symm
  have hu_ := hu_.symm
  subst hr_
  subst hu_
  by_cases t_1 : a_in ro 4 = true
  · have f_1 := in_t t_1
    have g_1 := ix_toInt f_1.1
    rw [show (4 : Int32).toInt = 4 by decide] at f_1
    obtain ⟨o, eo⟩ : ∃ q, q = 17 + 2 * ix ro := ⟨_, rfl⟩
    have ho : oRow o := by unfold oRow; omega
    rw [show va_rf (if a_in ro 4 = true then some (G.1 (17 + 2 * ix ro)) else none) = .ref (G.1 o) from by rw [if_pos t_1, eo]; rfl]
    refine lv_astore_n (lv' := [(2, .ref (G.1 o)), (0, .ref (G.1 0)), (1, .int ro)]) hx hb dX7_fault_5 rfl hl (by decide) rfl (fun ls hl => ?_)
    refine lv_aload_n hx hb dX7_fault_6 rfl (lv_at hl 0 rfl) ?_
    refine lv_ifnonnull (tgt := 12) hx hb dX7_fault_7 (by decide) ?_
    refine lv_aload_n hx hb dX7_fault_12 rfl (lv_at hl 0 rfl) ?_
    refine xVi ha hP hS (y := yX3_isMissing) (As := []) (rest := []) o (oRow_lt0 ho) (sRow ho) rfl rfl (c_X3_isMissing G l σ o ho) kw_X7_110 hd_X3_isMissing rfl ⟨rfl, rfl⟩ ⟨Nat.le_of_ble_eq_true rfl, Nat.le_of_ble_eq_true rfl⟩ ⟨Nat.zero_le _, Nat.zero_le _⟩ hl.1 (Nat.le_of_ble_eq_true rfl) rfl dX7_fault_13 (fun r u H locs hpq hP hS => ?_)
    obtain ⟨hr_, hu_⟩ := hpq
    have hr_ := hr_.symm
    have hu_ := hu_.symm
    subst hr_
    subst hu_
    refine lv_if_eq (tgt := 27) hx hb dX7_fault_16 (by decide) (fun c_2 => ?_) (fun c_2 => ?_)
    · have t_2 := b2i_f c_2
      have f_2 := of_decide_eq_false t_2
      refine lv_aload_n hx hb dX7_fault_27 rfl (lv_at hl 1 rfl) ?_
      refine g7_25 ha hP 0 (by decide) (cX_0 G _) (v := .ref (G.1 39)) rfl dX7_fault_28 ?_
      refine lv_aload_n hx hb dX7_fault_31 rfl (lv_at hl 0 rfl) ?_
      refine xVi ha hP hS (y := yX2_read) (As := [.ref (G.1 o)]) (rest := []) 39 (by decide) (cX_39 G _) rfl rfl (c_X2_read G l σ 39 o (by unfold oPl; omega) ho (hz _ ho)) kw_X7_131 hd_X2_read rfl ⟨rfl, rfl⟩ ⟨Nat.le_of_ble_eq_true rfl, Nat.le_of_ble_eq_true rfl⟩ ⟨Nat.zero_le _, Nat.zero_le _⟩ hl.1 (Nat.le_of_ble_eq_true rfl) rfl dX7_fault_32 (fun r u H locs hpq hP hS => ?_)
      obtain ⟨hr_, hu_⟩ := hpq
      have hr_ := hr_.symm
      have hu_ := hu_.symm
      subst hr_
      subst hu_
      exact xiret ha hP hS dX7_fault_35 ⟨by (try subst eo); (try subst eo2); simp [k_fault, t_1, t_2, f_2, i_leN, -Int32.not_lt], (by (try subst eo); (try subst eo2); simp [k_fault, t_1, t_2, f_2, i_leN, -Int32.not_lt])⟩ rfl
    · have t_2 := b2i_t c_2
      have f_2 := of_decide_eq_true t_2
      refine lv_aload_n hx hb dX7_fault_19 rfl (lv_at hl 1 rfl) ?_
      refine lv_iconst (v := 1) hx hb dX7_fault_20 (by decide) ?_
      refine xVi ha hP hS (y := yX7_found) (As := [.int 1]) (rest := []) 0 (by decide) (cX_0 G _) rfl rfl (c_X7_found G l σ 1 ) kw_X7_97 hd_X7_found rfl ⟨rfl, rfl⟩ ⟨Nat.le_of_ble_eq_true rfl, Nat.le_of_ble_eq_true rfl⟩ ⟨Nat.zero_le _, Nat.zero_le _⟩ hl.1 (Nat.le_of_ble_eq_true rfl) rfl dX7_fault_21 (fun r u H locs hpq hP hS => ?_)
      obtain ⟨hr_, hu_⟩ := hpq
      have hr_ := hr_.symm
      have hu_ := hu_.symm
      subst hr_
      subst hu_
      refine lv_goto (tgt := 35) hx hb dX7_fault_24 (by decide) ?_
      exact xiret ha hP hS dX7_fault_35 ⟨by (try subst eo); (try subst eo2); simp [k_fault, t_1, t_2, f_2, i_leN, -Int32.not_lt], (by (try subst eo); (try subst eo2); simp [k_fault, t_1, t_2, f_2, i_leN, -Int32.not_lt])⟩ rfl
  · rw [show va_rf (if a_in ro 4 = true then some (G.1 (17 + 2 * ix ro)) else none) = .null from by rw [if_neg t_1]; rfl]
    refine lv_astore_nN (lv' := [(2, .null), (0, .ref (G.1 0)), (1, .int ro)]) hx hb dX7_fault_5 rfl hl (by decide) rfl (fun ls hl => ?_)
    refine lv_aload_nN hx hb dX7_fault_6 rfl (lv_at hl 0 rfl) ?_
    refine lv_ifnonnullN hx hb dX7_fault_7 ?_
    refine lv_iconst (v := (-1)) hx hb dX7_fault_10 (by decide) ?_
    exact xiret ha hP hS dX7_fault_11 ⟨by (try subst eo); (try subst eo2); simp [k_fault, t_1, i_leN, -Int32.not_lt], (by (try subst eo); (try subst eo2); simp [k_fault, t_1, i_leN, -Int32.not_lt])⟩ rfl
set_option maxHeartbeats 4000000 in
set_option maxRecDepth 100000 in
theorem c_X7_nave (G : GT) (l : Launch) (σ : Mem) (ro : Int32) (hz : RZ σ) : CI G 74 (cX G) l yX7_nave ({ frames := 5, cells := 0, slots := 0, locals := 114 } : Room) cX7_nave 4 (some .int) [.ref (G.1 0), .int ro] σ (fun (r : Int32) u => r = (k_nave σ ro).1 ∧ u = (k_nave σ ro).2) := by
  intro sz
  refine xbegin (by decide) (Nat.le_of_ble_eq_true rfl) ?_
  intro p e s m below meth c ls hsz ha hP hl
  subst hsz
  have hx := ha.1
  have hb := ha.2.1
  have hS : va_S (xA G 74 s.heap.size) s.heap s.heap [] := va_S.rf
  have hl : lv_has ls 4 [(0, .ref (G.1 0)), (1, .int ro)] := hl
  have k_m9 : (-9 : Int32).toInt = -9 := by decide
  have k_m4 : (-4 : Int32).toInt = -4 := by decide
  have k_m1 : (-1 : Int32).toInt = -1 := by decide
  have k_0 : (0 : Int32).toInt = 0 := by decide
  have k_1 : (1 : Int32).toInt = 1 := by decide
  have k_3 : (3 : Int32).toInt = 3 := by decide
  have k_4 : (4 : Int32).toInt = 4 := by decide
  have k_5 : (5 : Int32).toInt = 5 := by decide
  have k_6 : (6 : Int32).toInt = 6 := by decide
  have k_40 : (40 : Int32).toInt = 40 := by decide
  have k_60 : (60 : Int32).toInt = 60 := by decide
  refine lv_aload_n hx hb dX7_nave_0 rfl (lv_at hl 0 rfl) ?_
  refine lv_iload_n hx hb dX7_nave_1 rfl (lv_at hl 1 rfl) ?_
  refine xVq ha hP hS (y := yX7_textAt) (As := [.int ro]) (rest := []) 0 (by decide) (cX_0 G _) rfl rfl (c_X7_textAt G l σ ro ) kw_X7_128 hd_X7_textAt rfl ⟨rfl, rfl⟩ ⟨Nat.le_of_ble_eq_true rfl, Nat.le_of_ble_eq_true rfl⟩ ⟨Nat.zero_le _, Nat.zero_le _⟩ hl.1 (Nat.le_of_ble_eq_true rfl) rfl dX7_nave_2 (fun r u H locs hpq hP hS => ?_)
  obtain ⟨hr_, hu_⟩ := hpq
  have hr_ := hr_.symm
  have hu_ := hu_.symm
  subst hr_
  subst hu_
  by_cases t_1 : a_in ro 4 = true
  · have f_1 := in_t t_1
    have g_1 := ix_toInt f_1.1
    rw [show (4 : Int32).toInt = 4 by decide] at f_1
    obtain ⟨o, eo⟩ : ∃ q, q = 17 + 2 * ix ro := ⟨_, rfl⟩
    have ho : oRow o := by unfold oRow; omega
    rw [show va_rf (if a_in ro 4 = true then some (G.1 (17 + 2 * ix ro)) else none) = .ref (G.1 o) from by rw [if_pos t_1, eo]; rfl]
    refine lv_astore_n (lv' := [(2, .ref (G.1 o)), (0, .ref (G.1 0)), (1, .int ro)]) hx hb dX7_nave_5 rfl hl (by decide) rfl (fun ls hl => ?_)
    refine lv_aload_n hx hb dX7_nave_6 rfl (lv_at hl 0 rfl) ?_
    refine lv_ifnonnull (tgt := 12) hx hb dX7_nave_7 (by decide) ?_
    refine lv_aload_n hx hb dX7_nave_12 rfl (lv_at hl 0 rfl) ?_
    refine xVi ha hP hS (y := yX3_isMissing) (As := []) (rest := []) o (oRow_lt0 ho) (sRow ho) rfl rfl (c_X3_isMissing G l σ o ho) kw_X7_110 hd_X3_isMissing rfl ⟨rfl, rfl⟩ ⟨Nat.le_of_ble_eq_true rfl, Nat.le_of_ble_eq_true rfl⟩ ⟨Nat.zero_le _, Nat.zero_le _⟩ hl.1 (Nat.le_of_ble_eq_true rfl) rfl dX7_nave_13 (fun r u H locs hpq hP hS => ?_)
    obtain ⟨hr_, hu_⟩ := hpq
    have hr_ := hr_.symm
    have hu_ := hu_.symm
    subst hr_
    subst hu_
    refine lv_if_eq (tgt := 25) hx hb dX7_nave_16 (by decide) (fun c_2 => ?_) (fun c_2 => ?_)
    · have t_2 := b2i_f c_2
      have f_2 := of_decide_eq_false t_2
      refine lv_aload_n hx hb dX7_nave_25 rfl (lv_at hl 1 rfl) ?_
      refine g7_25 ha hP 0 (by decide) (cX_0 G _) (v := .ref (G.1 39)) rfl dX7_nave_26 ?_
      refine lv_aload_n hx hb dX7_nave_29 rfl (lv_at hl 0 rfl) ?_
      refine xVi ha hP hS (y := yX2_read) (As := [.ref (G.1 o)]) (rest := []) 39 (by decide) (cX_39 G _) rfl rfl (c_X2_read G l σ 39 o (by unfold oPl; omega) ho (hz _ ho)) kw_X7_131 hd_X2_read rfl ⟨rfl, rfl⟩ ⟨Nat.le_of_ble_eq_true rfl, Nat.le_of_ble_eq_true rfl⟩ ⟨Nat.zero_le _, Nat.zero_le _⟩ hl.1 (Nat.le_of_ble_eq_true rfl) rfl dX7_nave_30 (fun r u H locs hpq hP hS => ?_)
      obtain ⟨hr_, hu_⟩ := hpq
      have hr_ := hr_.symm
      have hu_ := hu_.symm
      subst hr_
      subst hu_
      refine lv_bipush (v := (-9)) hx hb dX7_nave_33 (by decide) ?_
      refine lv_icmp_eq (tgt := 41) hx hb dX7_nave_35 (by decide) (fun c_3 => ?_) (fun c_3 => ?_)
      · have t_3 := i_eq c_3
        refine lv_aload_n hx hb dX7_nave_41 rfl (lv_at hl 1 rfl) ?_
        refine g7_21 ha hP 0 (by decide) (cX_0 G _) (v := .ref (G.1 33)) rfl dX7_nave_42 ?_
        refine lv_aload_n hx hb dX7_nave_45 rfl (lv_at hl 0 rfl) ?_
        refine xVi ha hP hS (y := yX2_read) (As := [.ref (G.1 o)]) (rest := []) 33 (by decide) (cX_33 G _) rfl rfl (c_X2_read G l ((rd0 39 o σ).2) 33 o (by unfold oPl; omega) ho (by rw [rd0_n _ _ _ (by unfold oRow at ho; omega)]; exact hz _ ho)) kw_X7_131 hd_X2_read rfl ⟨rfl, rfl⟩ ⟨Nat.le_of_ble_eq_true rfl, Nat.le_of_ble_eq_true rfl⟩ ⟨Nat.zero_le _, Nat.zero_le _⟩ hl.1 (Nat.le_of_ble_eq_true rfl) rfl dX7_nave_46 (fun r u H locs hpq hP hS => ?_)
        obtain ⟨hr_, hu_⟩ := hpq
        have hr_ := hr_.symm
        have hu_ := hu_.symm
        subst hr_
        subst hu_
        refine lv_pop hx hb dX7_nave_49 rfl ?_
        refine lv_aload_n hx hb dX7_nave_50 rfl (lv_at hl 1 rfl) ?_
        refine g7_33 ha hP 0 (by decide) (cX_0 G _) (v := .ref (G.1 45)) rfl dX7_nave_51 ?_
        refine xVv ha hP hS (y := yX4_begin) (As := []) (rest := []) 45 (by decide) (cX_45 G _) rfl rfl (c_X4_begin G l ((rd0 33 o ((rd0 39 o σ).2)).2) 45 (by unfold oSc; omega)) kw_X7_135 hd_X4_begin rfl ⟨rfl, rfl⟩ ⟨Nat.le_of_ble_eq_true rfl, Nat.le_of_ble_eq_true rfl⟩ ⟨Nat.zero_le _, Nat.zero_le _⟩ hl.1 (Nat.le_of_ble_eq_true rfl) rfl dX7_nave_54 (fun u H locs hpq hP hS => ?_)
        have hpq := hpq.symm
        subst hpq
        refine lv_aload_n hx hb dX7_nave_57 rfl (lv_at hl 1 rfl) ?_
        refine g7_43 ha hP 0 (by decide) (cX_0 G _) (v := .ref (G.1 25)) rfl dX7_nave_58 ?_
        refine lv_iconst (v := 0) hx hb dX7_nave_61 (by decide) ?_
        refine p7_81 ha hP hS (cX_loc G) 25 (by decide) (cX_25 G _) (x := 0) (Nat.le_of_ble_eq_true rfl) (mU (m_begin ((rd0 33 o ((rd0 39 o σ).2)).2) 45) 25 0 0) (fun q hq => mU_n _ _ _ hq) (sDd_p0 (by unfold oDd; omega)) dX7_nave_62 (fun H locs hP hS => ?_)
        refine lv_iconst (v := 0) hx hb dX7_nave_65 (by decide) ?_
        refine lv_istore_n (lv' := [(3, .int 0), (2, .ref (G.1 o)), (0, .ref (G.1 0)), (1, .int ro)]) hx hb dX7_nave_66 rfl hl (by decide) rfl (fun ls hl => ?_)
        have lp_67 : ∀ (d j : Nat) (τj : Mem) (H : Heap) (locs : List Loc) (ls : Array Slot), j ≤ 3 → 3 - j < d → τj = m_kept0 (mU (m_begin (rd0 33 o (rd0 39 o σ).2).2 45) 25 0 0) j → va_P G.2.1 vwCl (wl G 74 (cX G τj)) H → va_S (xA G 74 s.heap.size) s.heap H locs → lv_has ls 4 [(3, .int (nI j)), (2, .ref (G.1 o)), (0, .ref (G.1 0)), (1, .int ro)] → W p l e ({ frames := 5, cells := 0, slots := 0, locals := 114 } : Room) s m ([.ref (G.1 0), .int ro] : List Value).toArray below meth c H locs 0 0 (MQ below (va_Qi (fun (r : Int32) u => r = (k_nave σ ro).1 ∧ u = (k_nave σ ro).2) (xB G 74 (cX G)) (xA G 74 s.heap.size)) ([.ref (G.1 0), .int ro] : List Value).toArray s 0 0 (xA G 74 s.heap.size)) (F0 m 67 ls []) := by
          intro d
          induction d with
          | zero => intro j τj H locs ls hj hd; exact absurd hd (Nat.not_lt_zero _)
          | succ d ih_67 =>
            intro j τj H locs ls hj_j hd_j e_τj hP hS hl
            have h31_j : (nI j).toInt = (j : Int) := nI_toInt (by omega)
            refine lv_iload_n hx hb dX7_nave_67 rfl (lv_at hl 0 rfl) ?_
            refine lv_aload_n hx hb dX7_nave_68 rfl (lv_at hl 2 rfl) ?_
            refine g7_47 ha hP 0 (by decide) (cX_0 G _) (v := .ref (G.1 3)) rfl dX7_nave_69 ?_
            refine xalen ha hP 3 (by decide) 2 (cX_3 G _) rfl (v := 3) rfl dX7_nave_72 ?_
            refine lv_icmp_ge (tgt := 92) hx hb dX7_nave_73 (by decide) (fun c_4 => ?_) (fun c_4 => ?_)
            · have t_4 := i_le c_4
              have u_4 := u_le c_4
              obtain rfl : j = 3 := by omega
              refine lv_aload_n hx hb dX7_nave_92 rfl (lv_at hl 2 rfl) ?_
              refine g7_21 ha hP 0 (by decide) (cX_0 G _) (v := .ref (G.1 33)) rfl dX7_nave_93 ?_
              refine g7_137 ha hP 33 (by decide) (cX_33 G _) (v := .int (τj 33 0)) rfl dX7_nave_96 ?_
              exact xiret ha hP hS dX7_nave_99 ⟨by (try subst eo); (try subst eo2); rw [e_τj, m_kept0_k _ _ (by omega), mU_n _ _ _ (by decide), m_begin_n _ _ (by decide) (by decide) (by decide)]; simp [k_nave, t_1, t_2, f_2, c_3, u_4, i_leN, -Int32.not_lt], (by (try subst eo); (try subst eo2); rw [e_τj]; simp [k_nave, t_1, t_2, f_2, c_3, u_4, i_leN, -Int32.not_lt])⟩ rfl
            · have t_4 := i_nle c_4
              have u_4 := u_nle c_4
              have hlt_j : j < 3 := by omega
              refine lv_aload_n hx hb dX7_nave_76 rfl (lv_at hl 2 rfl) ?_
              refine g7_47 ha hP 0 (by decide) (cX_0 G _) (v := .ref (G.1 3)) rfl dX7_nave_77 ?_
              refine lv_iload_n hx hb dX7_nave_80 rfl (lv_at hl 0 rfl) ?_
              refine xaald ha hP 3 (by decide) 2 (cX_3 G _) rfl rfl j rfl (by omega) (by decide) (q := G.1 (27 + 2 * j)) rfl dX7_nave_81 ?_
              refine lv_iconst (v := (-1)) hx hb dX7_nave_82 (by decide) ?_
              refine p7_81 ha hP hS (cX_loc G) (27 + 2 * j) (oDd_lt0 (show oDd (27 + 2 * j) by unfold oDd; omega)) (sDd (show oDd (27 + 2 * j) by unfold oDd; omega)) (x := (-1)) (Nat.le_of_ble_eq_true rfl) (mU τj (27 + 2 * j) 0 (-1)) (fun q hq => mU_n _ _ _ hq) (sDd_p0 (show oDd (27 + 2 * j) by unfold oDd; omega)) dX7_nave_83 (fun H locs hP hS => ?_)
              refine lv_iinc (v := (nI (j + 1))) (lv' := [(3, .int (nI (j + 1))), (2, .ref (G.1 o)), (0, .ref (G.1 0)), (1, .int ro)]) hx hb dX7_nave_86 hl (k := 0) rfl (nI_1 j) (by decide) rfl (fun ls hl => ?_)
              refine lv_goto (tgt := 67) hx hb dX7_nave_89 (by decide) ?_
              exact ih_67 (j + 1) (mU τj (27 + 2 * j) 0 (-1)) _ _ _ (by omega) (by omega) (by rw [e_τj]; rfl) hP hS (lv_sub hl [0, 1, 2, 3] rfl)
        exact lp_67 (3 - 0 + 1) 0 (mU (m_begin ((rd0 33 o ((rd0 39 o σ).2)).2) 45) 25 0 0) _ _ _ (by omega) (by omega) rfl hP hS (lv_sub hl [0, 1, 2, 3] rfl)
      · have t_3 := i_ne c_3
        refine lv_bipush (v := (-4)) hx hb dX7_nave_38 (by decide) ?_
        exact xiret ha hP hS dX7_nave_40 ⟨by (try subst eo); (try subst eo2); simp [k_nave, t_1, t_2, f_2, c_3, i_leN, -Int32.not_lt], (by (try subst eo); (try subst eo2); simp [k_nave, t_1, t_2, f_2, c_3, i_leN, -Int32.not_lt])⟩ rfl
    · have t_2 := b2i_t c_2
      have f_2 := of_decide_eq_true t_2
      refine lv_aload_n hx hb dX7_nave_19 rfl (lv_at hl 1 rfl) ?_
      refine lv_iconst (v := 1) hx hb dX7_nave_20 (by decide) ?_
      refine xVi ha hP hS (y := yX7_found) (As := [.int 1]) (rest := []) 0 (by decide) (cX_0 G _) rfl rfl (c_X7_found G l σ 1 ) kw_X7_97 hd_X7_found rfl ⟨rfl, rfl⟩ ⟨Nat.le_of_ble_eq_true rfl, Nat.le_of_ble_eq_true rfl⟩ ⟨Nat.zero_le _, Nat.zero_le _⟩ hl.1 (Nat.le_of_ble_eq_true rfl) rfl dX7_nave_21 (fun r u H locs hpq hP hS => ?_)
      obtain ⟨hr_, hu_⟩ := hpq
      have hr_ := hr_.symm
      have hu_ := hu_.symm
      subst hr_
      subst hu_
      exact xiret ha hP hS dX7_nave_24 ⟨by (try subst eo); (try subst eo2); simp [k_nave, t_1, t_2, f_2, i_leN, -Int32.not_lt], (by (try subst eo); (try subst eo2); simp [k_nave, t_1, t_2, f_2, i_leN, -Int32.not_lt])⟩ rfl
  · rw [show va_rf (if a_in ro 4 = true then some (G.1 (17 + 2 * ix ro)) else none) = .null from by rw [if_neg t_1]; rfl]
    refine lv_astore_nN (lv' := [(2, .null), (0, .ref (G.1 0)), (1, .int ro)]) hx hb dX7_nave_5 rfl hl (by decide) rfl (fun ls hl => ?_)
    refine lv_aload_nN hx hb dX7_nave_6 rfl (lv_at hl 0 rfl) ?_
    refine lv_ifnonnullN hx hb dX7_nave_7 ?_
    refine lv_iconst (v := (-1)) hx hb dX7_nave_10 (by decide) ?_
    exact xiret ha hP hS dX7_nave_11 ⟨by (try subst eo); (try subst eo2); simp [k_nave, t_1, i_leN, -Int32.not_lt], (by (try subst eo); (try subst eo2); simp [k_nave, t_1, i_leN, -Int32.not_lt])⟩ rfl
set_option maxHeartbeats 4000000 in
set_option maxRecDepth 100000 in
theorem c_X7_pole (G : GT) (l : Launch) (σ : Mem) (k : Int32) (what : Int32) (hp : PO 33 σ) : CI G 74 (cX G) l yX7_pole ({ frames := 4, cells := 0, slots := 0, locals := 90 } : Room) cX7_pole 3 (some .int) [.ref (G.1 0), .int k, .int what] σ (fun (r : Int32) u => r = (k_pole σ k what).1 ∧ u = (k_pole σ k what).2) := by
  intro sz
  refine xbegin (by decide) (Nat.le_of_ble_eq_true rfl) ?_
  intro p e s m below meth c ls hsz ha hP hl
  subst hsz
  have hx := ha.1
  have hb := ha.2.1
  have hS : va_S (xA G 74 s.heap.size) s.heap s.heap [] := va_S.rf
  have hl : lv_has ls 3 [(0, .ref (G.1 0)), (1, .int k), (2, .int what)] := hl
  have k_m1 : (-1 : Int32).toInt = -1 := by decide
  have k_0 : (0 : Int32).toInt = 0 := by decide
  have k_8 : (8 : Int32).toInt = 8 := by decide
  refine lv_aload_n hx hb dX7_pole_0 rfl (lv_at hl 0 rfl) ?_
  refine g7_21 ha hP 0 (by decide) (cX_0 G _) (v := .ref (G.1 33)) rfl dX7_pole_1 ?_
  refine lv_iload_n hx hb dX7_pole_4 rfl (lv_at hl 1 rfl) ?_
  refine xVi ha hP hS (y := yX2_isPole) (As := [.int k]) (rest := []) 33 (by decide) (cX_33 G _) rfl rfl (c_X2_isPole G l σ 33 k (by unfold oPl; omega)) kw_X7_140 hd_X2_isPole rfl ⟨rfl, rfl⟩ ⟨Nat.le_of_ble_eq_true rfl, Nat.le_of_ble_eq_true rfl⟩ ⟨Nat.zero_le _, Nat.zero_le _⟩ hl.1 (Nat.le_of_ble_eq_true rfl) rfl dX7_pole_5 (fun r u H locs hpq hP hS => ?_)
  obtain ⟨hr_, hu_⟩ := hpq
  have hr_ := hr_.symm
  have hu_ := hu_.symm
  subst hr_
  subst hu_
  refine lv_if_eq (tgt := 21) hx hb dX7_pole_8 (by decide) (fun c_1 => ?_) (fun c_1 => ?_)
  · have t_1 := b2i_f c_1
    refine lv_iconst (v := (-1)) hx hb dX7_pole_21 (by decide) ?_
    exact xiret ha hP hS dX7_pole_22 ⟨by (try subst eo); (try subst eo2); simp [k_pole, t_1, i_leN, -Int32.not_lt], (by (try subst eo); (try subst eo2); simp [k_pole, t_1, i_leN, -Int32.not_lt])⟩ rfl
  · have t_1 := b2i_t c_1
    have f_1 := isPole_t t_1
    refine lv_iload_n hx hb dX7_pole_11 rfl (lv_at hl 2 rfl) ?_
    refine lv_if_lt (tgt := 21) hx hb dX7_pole_12 (by decide) (fun c_2 => ?_) (fun c_2 => ?_)
    · have t_2 := i_lt c_2
      refine lv_iconst (v := (-1)) hx hb dX7_pole_21 (by decide) ?_
      exact xiret ha hP hS dX7_pole_22 ⟨by (try subst eo); (try subst eo2); simp [k_pole, t_1, c_2, i_leN, -Int32.not_lt], (by (try subst eo); (try subst eo2); simp [k_pole, t_1, c_2, i_leN, -Int32.not_lt])⟩ rfl
    · have t_2 := i_nlt c_2
      refine lv_iload_n hx hb dX7_pole_15 rfl (lv_at hl 2 rfl) ?_
      refine lv_bipush (v := 8) hx hb dX7_pole_16 (by decide) ?_
      refine lv_icmp_lt (tgt := 23) hx hb dX7_pole_18 (by decide) (fun c_3 => ?_) (fun c_3 => ?_)
      · have t_3 := i_lt c_3
        refine lv_aload_n hx hb dX7_pole_23 rfl (lv_at hl 0 rfl) ?_
        refine lv_aload_n hx hb dX7_pole_24 rfl (lv_at hl 0 rfl) ?_
        refine g7_33 ha hP 0 (by decide) (cX_0 G _) (v := .ref (G.1 45)) rfl dX7_pole_25 ?_
        refine lv_iload_n hx hb dX7_pole_28 rfl (lv_at hl 1 rfl) ?_
        refine lv_iload_n hx hb dX7_pole_29 rfl (lv_at hl 2 rfl) ?_
        refine xVi ha hP hS (y := yX4_ofPole) (As := [.int k, .int what]) (rest := [.ref (G.1 0)]) 45 (by decide) (cX_45 G _) rfl rfl (c_X4_ofPole G l σ 45 k what (by unfold oSc; omega) hp) kw_X7_144 hd_X4_ofPole rfl ⟨rfl, rfl⟩ ⟨Nat.le_of_ble_eq_true rfl, Nat.le_of_ble_eq_true rfl⟩ ⟨Nat.zero_le _, Nat.zero_le _⟩ hl.1 (Nat.le_of_ble_eq_true rfl) rfl dX7_pole_30 (fun r u H locs hpq hP hS => ?_)
        obtain ⟨hr_, hu_⟩ := hpq
        have hr_ := hr_.symm
        have hu_ := hu_.symm
        subst hr_
        subst hu_
        refine xVi ha hP hS (y := yX7_tell) (As := [.int (a_ofPole (vP σ 33) (vS σ 45) k what)]) (rest := []) 0 (by decide) (cX_0 G _) rfl rfl (c_X7_tell G l σ (a_ofPole (vP σ 33) (vS σ 45) k what) ) kw_X7_107 hd_X7_tell rfl ⟨rfl, rfl⟩ ⟨Nat.le_of_ble_eq_true rfl, Nat.le_of_ble_eq_true rfl⟩ ⟨Nat.zero_le _, Nat.zero_le _⟩ hl.1 (Nat.le_of_ble_eq_true rfl) rfl dX7_pole_33 (fun r u H locs hpq hP hS => ?_)
        obtain ⟨hr_, hu_⟩ := hpq
        have hr_ := hr_.symm
        have hu_ := hu_.symm
        subst hr_
        subst hu_
        exact xiret ha hP hS dX7_pole_36 ⟨by (try subst eo); (try subst eo2); simp [k_pole, t_1, c_2, c_3, i_leN, -Int32.not_lt], (by (try subst eo); (try subst eo2); simp [k_pole, t_1, c_2, c_3, i_leN, -Int32.not_lt])⟩ rfl
      · have t_3 := i_nlt c_3
        refine lv_iconst (v := (-1)) hx hb dX7_pole_21 (by decide) ?_
        exact xiret ha hP hS dX7_pole_22 ⟨by (try subst eo); (try subst eo2); simp [k_pole, t_1, c_2, c_3, i_leN, -Int32.not_lt], (by (try subst eo); (try subst eo2); simp [k_pole, t_1, c_2, c_3, i_leN, -Int32.not_lt])⟩ rfl
set_option maxHeartbeats 4000000 in
set_option maxRecDepth 100000 in
theorem c_X7_one (G : GT) (l : Launch) (σ : Mem) (i : Int32) (what : Int32) (hp : PO 33 σ) : CI G 74 (cX G) l yX7_one ({ frames := 2, cells := 0, slots := 0, locals := 44 } : Room) cX7_one 3 (some .int) [.ref (G.1 0), .int i, .int what] σ (fun (r : Int32) u => r = (k_one σ i what).1 ∧ u = (k_one σ i what).2) := by
  intro sz
  refine xbegin (by decide) (Nat.le_of_ble_eq_true rfl) ?_
  intro p e s m below meth c ls hsz ha hP hl
  subst hsz
  have hx := ha.1
  have hb := ha.2.1
  have hS : va_S (xA G 74 s.heap.size) s.heap s.heap [] := va_S.rf
  have hl : lv_has ls 3 [(0, .ref (G.1 0)), (1, .int i), (2, .int what)] := hl
  have k_m1 : (-1 : Int32).toInt = -1 := by decide
  have k_0 : (0 : Int32).toInt = 0 := by decide
  have k_4 : (4 : Int32).toInt = 4 := by decide
  refine lv_aload_n hx hb dX7_one_0 rfl (lv_at hl 0 rfl) ?_
  refine g7_21 ha hP 0 (by decide) (cX_0 G _) (v := .ref (G.1 33)) rfl dX7_one_1 ?_
  refine lv_iload_n hx hb dX7_one_4 rfl (lv_at hl 1 rfl) ?_
  refine xVi ha hP hS (y := yX2_isOne) (As := [.int i]) (rest := []) 33 (by decide) (cX_33 G _) rfl rfl (c_X2_isOne G l σ 33 i (by unfold oPl; omega)) kw_X7_148 hd_X2_isOne rfl ⟨rfl, rfl⟩ ⟨Nat.le_of_ble_eq_true rfl, Nat.le_of_ble_eq_true rfl⟩ ⟨Nat.zero_le _, Nat.zero_le _⟩ hl.1 (Nat.le_of_ble_eq_true rfl) rfl dX7_one_5 (fun r u H locs hpq hP hS => ?_)
  obtain ⟨hr_, hu_⟩ := hpq
  have hr_ := hr_.symm
  have hu_ := hu_.symm
  subst hr_
  subst hu_
  refine lv_if_eq (tgt := 20) hx hb dX7_one_8 (by decide) (fun c_1 => ?_) (fun c_1 => ?_)
  · have t_1 := b2i_f c_1
    refine lv_iconst (v := (-1)) hx hb dX7_one_20 (by decide) ?_
    exact xiret ha hP hS dX7_one_21 ⟨by (try subst eo); (try subst eo2); simp [k_one, t_1, i_leN, -Int32.not_lt], (by (try subst eo); (try subst eo2); simp [k_one, t_1, i_leN, -Int32.not_lt])⟩ rfl
  · have t_1 := b2i_t c_1
    have f_1 := isOne_t t_1
    refine lv_iload_n hx hb dX7_one_11 rfl (lv_at hl 2 rfl) ?_
    refine lv_if_lt (tgt := 20) hx hb dX7_one_12 (by decide) (fun c_2 => ?_) (fun c_2 => ?_)
    · have t_2 := i_lt c_2
      refine lv_iconst (v := (-1)) hx hb dX7_one_20 (by decide) ?_
      exact xiret ha hP hS dX7_one_21 ⟨by (try subst eo); (try subst eo2); simp [k_one, t_1, c_2, i_leN, -Int32.not_lt], (by (try subst eo); (try subst eo2); simp [k_one, t_1, c_2, i_leN, -Int32.not_lt])⟩ rfl
    · have t_2 := i_nlt c_2
      refine lv_iload_n hx hb dX7_one_15 rfl (lv_at hl 2 rfl) ?_
      refine lv_iconst (v := 4) hx hb dX7_one_16 (by decide) ?_
      refine lv_icmp_lt (tgt := 22) hx hb dX7_one_17 (by decide) (fun c_3 => ?_) (fun c_3 => ?_)
      · have t_3 := i_lt c_3
        refine lv_aload_n hx hb dX7_one_22 rfl (lv_at hl 0 rfl) ?_
        refine lv_aload_n hx hb dX7_one_23 rfl (lv_at hl 0 rfl) ?_
        refine g7_33 ha hP 0 (by decide) (cX_0 G _) (v := .ref (G.1 45)) rfl dX7_one_24 ?_
        refine lv_iload_n hx hb dX7_one_27 rfl (lv_at hl 1 rfl) ?_
        refine lv_iload_n hx hb dX7_one_28 rfl (lv_at hl 2 rfl) ?_
        refine xVi ha hP hS (y := yX4_ofOne) (As := [.int i, .int what]) (rest := [.ref (G.1 0)]) 45 (by decide) (cX_45 G _) rfl rfl (c_X4_ofOne G l σ 45 i what (by unfold oSc; omega) hp) kw_X7_151 hd_X4_ofOne rfl ⟨rfl, rfl⟩ ⟨Nat.le_of_ble_eq_true rfl, Nat.le_of_ble_eq_true rfl⟩ ⟨Nat.zero_le _, Nat.zero_le _⟩ hl.1 (Nat.le_of_ble_eq_true rfl) rfl dX7_one_29 (fun r u H locs hpq hP hS => ?_)
        obtain ⟨hr_, hu_⟩ := hpq
        have hr_ := hr_.symm
        have hu_ := hu_.symm
        subst hr_
        subst hu_
        refine xVi ha hP hS (y := yX7_tell) (As := [.int (a_ofOne (vP σ 33) (vS σ 45) i what)]) (rest := []) 0 (by decide) (cX_0 G _) rfl rfl (c_X7_tell G l σ (a_ofOne (vP σ 33) (vS σ 45) i what) ) kw_X7_107 hd_X7_tell rfl ⟨rfl, rfl⟩ ⟨Nat.le_of_ble_eq_true rfl, Nat.le_of_ble_eq_true rfl⟩ ⟨Nat.zero_le _, Nat.zero_le _⟩ hl.1 (Nat.le_of_ble_eq_true rfl) rfl dX7_one_32 (fun r u H locs hpq hP hS => ?_)
        obtain ⟨hr_, hu_⟩ := hpq
        have hr_ := hr_.symm
        have hu_ := hu_.symm
        subst hr_
        subst hu_
        exact xiret ha hP hS dX7_one_35 ⟨by (try subst eo); (try subst eo2); simp [k_one, t_1, c_2, c_3, i_leN, -Int32.not_lt], (by (try subst eo); (try subst eo2); simp [k_one, t_1, c_2, c_3, i_leN, -Int32.not_lt])⟩ rfl
      · have t_3 := i_nlt c_3
        refine lv_iconst (v := (-1)) hx hb dX7_one_20 (by decide) ?_
        exact xiret ha hP hS dX7_one_21 ⟨by (try subst eo); (try subst eo2); simp [k_one, t_1, c_2, c_3, i_leN, -Int32.not_lt], (by (try subst eo); (try subst eo2); simp [k_one, t_1, c_2, c_3, i_leN, -Int32.not_lt])⟩ rfl
set_option maxHeartbeats 4000000 in
set_option maxRecDepth 100000 in
theorem c_X7_bears (G : GT) (l : Launch) (σ : Mem) (k : Int32) (wear : Int32) (hp : PO 33 σ) : CI G 74 (cX G) l yX7_bears ({ frames := 3, cells := 0, slots := 0, locals := 69 } : Room) cX7_bears 3 (some .int) [.ref (G.1 0), .int k, .int wear] σ (fun (r : Int32) u => r = k_bears σ k wear ∧ u = σ) := by
  intro sz
  refine xbegin (by decide) (Nat.le_of_ble_eq_true rfl) ?_
  intro p e s m below meth c ls hsz ha hP hl
  subst hsz
  have hx := ha.1
  have hb := ha.2.1
  have hS : va_S (xA G 74 s.heap.size) s.heap s.heap [] := va_S.rf
  have hl : lv_has ls 3 [(0, .ref (G.1 0)), (1, .int k), (2, .int wear)] := hl
  have k_m1 : (-1 : Int32).toInt = -1 := by decide
  have k_0 : (0 : Int32).toInt = 0 := by decide
  have k_20 : (20 : Int32).toInt = 20 := by decide
  refine lv_aload_n hx hb dX7_bears_0 rfl (lv_at hl 0 rfl) ?_
  refine g7_21 ha hP 0 (by decide) (cX_0 G _) (v := .ref (G.1 33)) rfl dX7_bears_1 ?_
  refine lv_iload_n hx hb dX7_bears_4 rfl (lv_at hl 1 rfl) ?_
  refine xVi ha hP hS (y := yX2_isPole) (As := [.int k]) (rest := []) 33 (by decide) (cX_33 G _) rfl rfl (c_X2_isPole G l σ 33 k (by unfold oPl; omega)) kw_X7_140 hd_X2_isPole rfl ⟨rfl, rfl⟩ ⟨Nat.le_of_ble_eq_true rfl, Nat.le_of_ble_eq_true rfl⟩ ⟨Nat.zero_le _, Nat.zero_le _⟩ hl.1 (Nat.le_of_ble_eq_true rfl) rfl dX7_bears_5 (fun r u H locs hpq hP hS => ?_)
  obtain ⟨hr_, hu_⟩ := hpq
  have hr_ := hr_.symm
  have hu_ := hu_.symm
  subst hr_
  subst hu_
  refine lv_if_eq (tgt := 21) hx hb dX7_bears_8 (by decide) (fun c_1 => ?_) (fun c_1 => ?_)
  · have t_1 := b2i_f c_1
    refine lv_iconst (v := (-1)) hx hb dX7_bears_21 (by decide) ?_
    exact xiret ha hP hS dX7_bears_22 ⟨by simp [k_bears, t_1, i_leN, -Int32.not_lt], rfl⟩ rfl
  · have t_1 := b2i_t c_1
    have f_1 := isPole_t t_1
    refine lv_iload_n hx hb dX7_bears_11 rfl (lv_at hl 2 rfl) ?_
    refine lv_if_lt (tgt := 21) hx hb dX7_bears_12 (by decide) (fun c_2 => ?_) (fun c_2 => ?_)
    · have t_2 := i_lt c_2
      refine lv_iconst (v := (-1)) hx hb dX7_bears_21 (by decide) ?_
      exact xiret ha hP hS dX7_bears_22 ⟨by simp [k_bears, t_1, c_2, i_leN, -Int32.not_lt], rfl⟩ rfl
    · have t_2 := i_nlt c_2
      refine lv_iload_n hx hb dX7_bears_15 rfl (lv_at hl 2 rfl) ?_
      refine lv_bipush (v := 20) hx hb dX7_bears_16 (by decide) ?_
      refine lv_icmp_le (tgt := 23) hx hb dX7_bears_18 (by decide) (fun c_3 => ?_) (fun c_3 => ?_)
      · have t_3 := i_le c_3
        have u_3 := u_le c_3
        refine lv_aload_n hx hb dX7_bears_23 rfl (lv_at hl 0 rfl) ?_
        refine g7_21 ha hP 0 (by decide) (cX_0 G _) (v := .ref (G.1 33)) rfl dX7_bears_24 ?_
        refine lv_iload_n hx hb dX7_bears_27 rfl (lv_at hl 1 rfl) ?_
        refine lv_iload_n hx hb dX7_bears_28 rfl (lv_at hl 2 rfl) ?_
        refine xVi ha hP hS (y := yX2_bearsWith) (As := [.int k, .int wear]) (rest := []) 33 (by decide) (cX_33 G _) rfl rfl (c_X2_bearsWith G l σ 33 k wear (by unfold oPl; omega)) kw_X7_166 hd_X2_bearsWith rfl ⟨rfl, rfl⟩ ⟨Nat.le_of_ble_eq_true rfl, Nat.le_of_ble_eq_true rfl⟩ ⟨Nat.zero_le _, Nat.zero_le _⟩ hl.1 (Nat.le_of_ble_eq_true rfl) rfl dX7_bears_29 (fun r u H locs hpq hP hS => ?_)
        obtain ⟨hr_, hu_⟩ := hpq
        have hr_ := hr_.symm
        have hu_ := hu_.symm
        subst hr_
        subst hu_
        exact xiret ha hP hS dX7_bears_32 ⟨by simp [k_bears, t_1, c_2, u_3, i_leN, -Int32.not_lt], rfl⟩ rfl
      · have t_3 := i_nle c_3
        have u_3 := u_nle c_3
        refine lv_iconst (v := (-1)) hx hb dX7_bears_21 (by decide) ?_
        exact xiret ha hP hS dX7_bears_22 ⟨by simp [k_bears, t_1, c_2, u_3, i_leN, -Int32.not_lt], rfl⟩ rfl
set_option maxHeartbeats 4000000 in
set_option maxRecDepth 100000 in
theorem c_X7_deed (G : GT) (l : Launch) (σ : Mem) (what : Int32) (i : Int32) (k : Int32)  : CI G 74 (cX G) l yX7_deed ({ frames := 0, cells := 0, slots := 0, locals := 0 } : Room) cX7_deed 3 (some .int) [.int what, .int i, .int k] σ (fun (r : Int32) u => r = dCode what i k ∧ u = σ) := by
  intro sz
  refine xbegin (by decide) (Nat.le_of_ble_eq_true rfl) ?_
  intro p e s m below meth c ls hsz ha hP hl
  subst hsz
  have hx := ha.1
  have hb := ha.2.1
  have hS : va_S (xA G 74 s.heap.size) s.heap s.heap [] := va_S.rf
  have hl : lv_has ls 3 [(0, .int what), (1, .int i), (2, .int k)] := hl
  have k_0 : (0 : Int32).toInt = 0 := by decide
  have k_10 : (10 : Int32).toInt = 10 := by decide
  have k_100 : (100 : Int32).toInt = 100 := by decide
  refine lv_iload_n hx hb dX7_deed_0 rfl (lv_at hl 0 rfl) ?_
  refine lv_bipush (v := 100) hx hb dX7_deed_1 (by decide) ?_
  refine lv_imul hx hb dX7_deed_3 ?_
  refine lv_iload_n hx hb dX7_deed_4 rfl (lv_at hl 1 rfl) ?_
  refine lv_bipush (v := 10) hx hb dX7_deed_5 (by decide) ?_
  refine lv_imul hx hb dX7_deed_7 ?_
  refine lv_iadd hx hb dX7_deed_8 ?_
  refine lv_iload_n hx hb dX7_deed_9 rfl (lv_at hl 2 rfl) ?_
  refine lv_iadd hx hb dX7_deed_10 ?_
  exact xiret ha hP hS dX7_deed_11 ⟨by rfl, rfl⟩ rfl
set_option maxHeartbeats 4000000 in
set_option maxRecDepth 100000 in
theorem c_X7_perform (G : GT) (l : Launch) (σ : Mem) (dd : Int32) (hp : PO 33 σ) : CI G 74 (cX G) l yX7_perform ({ frames := 5, cells := 0, slots := 0, locals := 114 } : Room) cX7_perform 2 (some .int) [.ref (G.1 0), .int dd] σ (fun (r : Int32) u => r = (k_do σ dd).1 ∧ u = (k_do σ dd).2) := by
  intro sz
  refine xbegin (by decide) (Nat.le_of_ble_eq_true rfl) ?_
  intro p e s m below meth c ls hsz ha hP hl
  subst hsz
  have hx := ha.1
  have hb := ha.2.1
  have hS : va_S (xA G 74 s.heap.size) s.heap s.heap [] := va_S.rf
  have hl : lv_has ls 2 [(0, .ref (G.1 0)), (1, .int dd)] := hl
  have k_m2 : (-2 : Int32).toInt = -2 := by decide
  have k_0 : (0 : Int32).toInt = 0 := by decide
  have k_40 : (40 : Int32).toInt = 40 := by decide
  refine lv_aload_n hx hb dX7_perform_0 rfl (lv_at hl 0 rfl) ?_
  refine g7_43 ha hP 0 (by decide) (cX_0 G _) (v := .ref (G.1 25)) rfl dX7_perform_1 ?_
  refine g7_81 ha hP 25 (by decide) (cX_25 G _) (v := .int (σ 25 0)) rfl dX7_perform_4 ?_
  refine lv_bipush (v := 40) hx hb dX7_perform_7 (by decide) ?_
  refine lv_icmp_lt (tgt := 15) hx hb dX7_perform_9 (by decide) (fun c_1 => ?_) (fun c_1 => ?_)
  · have t_1 := i_lt c_1
    refine lv_aload_n hx hb dX7_perform_15 rfl (lv_at hl 0 rfl) ?_
    refine g7_43 ha hP 0 (by decide) (cX_0 G _) (v := .ref (G.1 25)) rfl dX7_perform_16 ?_
    refine lv_iload_n hx hb dX7_perform_19 rfl (lv_at hl 1 rfl) ?_
    refine xVv ha hP hS (y := yX0_add) (As := [.int dd]) (rest := []) 25 (by decide) (cX_25 G _) rfl rfl (c_X0_add G l σ 25 dd (by unfold oDd; omega)) kw_X7_354 hd_X0_add rfl ⟨rfl, rfl⟩ ⟨Nat.le_of_ble_eq_true rfl, Nat.le_of_ble_eq_true rfl⟩ ⟨Nat.zero_le _, Nat.zero_le _⟩ hl.1 (Nat.le_of_ble_eq_true rfl) rfl dX7_perform_20 (fun u H locs hpq hP hS => ?_)
    have hpq := hpq.symm
    subst hpq
    refine lv_aload_n hx hb dX7_perform_23 rfl (lv_at hl 0 rfl) ?_
    refine g7_33 ha hP 0 (by decide) (cX_0 G _) (v := .ref (G.1 45)) rfl dX7_perform_24 ?_
    refine lv_iload_n hx hb dX7_perform_27 rfl (lv_at hl 1 rfl) ?_
    refine xVi ha hP hS (y := yX4_apply) (As := [.int dd]) (rest := []) 45 (by decide) (cX_45 G _) rfl rfl (c_X4_apply G l (m_add σ 25 dd) 45 dd (by unfold oSc; omega) (PO_eq hp (m_add_n _ _ _ (by first | omega | (unfold oDd at *; omega) | (unfold oRow at *; omega)) (by first | omega | (unfold oDd at *; omega) | (unfold oRow at *; omega))))) kw_X7_358 hd_X4_apply rfl ⟨rfl, rfl⟩ ⟨Nat.le_of_ble_eq_true rfl, Nat.le_of_ble_eq_true rfl⟩ ⟨Nat.zero_le _, Nat.zero_le _⟩ hl.1 (Nat.le_of_ble_eq_true rfl) rfl dX7_perform_28 (fun r u H locs hpq hP hS => ?_)
    obtain ⟨hr_, hu_⟩ := hpq
    have hr_ := hr_.symm
    have hu_ := hu_.symm
    subst hr_
    subst hu_
    exact xiret ha hP hS dX7_perform_31 ⟨by (try subst eo); (try subst eo2); simp [k_do, c_1, i_leN, -Int32.not_lt], (by (try subst eo); (try subst eo2); simp [k_do, c_1, i_leN, -Int32.not_lt])⟩ rfl
  · have t_1 := i_nlt c_1
    refine lv_bipush (v := (-2)) hx hb dX7_perform_12 (by decide) ?_
    exact xiret ha hP hS dX7_perform_14 ⟨by (try subst eo); (try subst eo2); simp [k_do, c_1, i_leN, -Int32.not_lt], (by (try subst eo); (try subst eo2); simp [k_do, c_1, i_leN, -Int32.not_lt])⟩ rfl
