theorem hd_X8_begins : kHd yX8_begins 0 := by decide +kernel
theorem hd_X8_here : kHd yX8_here 0 := by decide +kernel
theorem hd_X8_isFigure : kHd yX8_isFigure 1 := by decide +kernel
theorem hd_X8_isStrength : kHd yX8_isStrength 0 := by decide +kernel
theorem hd_X8_kindOf : kHd yX8_kindOf 1 := by decide +kernel
theorem hd_X8_last : kHd yX8_last 0 := by decide +kernel
theorem hd_X8_reads : kHd yX8_reads 1 := by decide +kernel
theorem hd_X8_readsOne : kHd yX8_readsOne 0 := by decide +kernel
theorem hd_X8_readsPole : kHd yX8_readsPole 0 := by decide +kernel
theorem kw_X8_129 : ∀ w ∈ k5V RX8 129 yX8_here cX8_here 1 (some .int), w ∈ TB := tb_ins (by decide +kernel)
theorem kw_X8_135 : ∀ w ∈ k5V RX8 135 yX8_isFigure cX8_isFigure 2 (some .boolean), w ∈ TB := tb_ins (by decide +kernel)
theorem kw_X8_138 : ∀ w ∈ k5V RX8 138 yX8_last cX8_last 1 (some .int), w ∈ TB := tb_ins (by decide +kernel)
theorem kw_X8_144 : ∀ w ∈ k5S RX8 144 yX8_kindOf cX8_kindOf 1 (some .int), w ∈ TB := tb_ins (by decide +kernel)
theorem kw_X8_147 : ∀ w ∈ k5V RX8 147 yX8_isStrength cX8_isStrength 3 (some .boolean), w ∈ TB := tb_ins (by decide +kernel)
theorem kw_X8_157 : ∀ w ∈ k5V RX8 157 yX8_readsPole cX8_readsPole 2 (some .boolean), w ∈ TB := tb_ins (by decide +kernel)
theorem kw_X8_154 : ∀ w ∈ k5V RX8 154 yX8_readsOne cX8_readsOne 1 (some .boolean), w ∈ TB := tb_ins (by decide +kernel)
theorem kw_X8_160 : ∀ w ∈ k5V RX8 160 yX8_reads cX8_reads 3 (some .int), w ∈ TB := tb_ins (by decide +kernel)
theorem kw_X8_83 : ∀ w ∈ k5V RX8 83 yX8_begins cX8_begins 2 none, w ∈ TB := tb_ins (by decide +kernel)
set_option maxHeartbeats 4000000 in
set_option maxRecDepth 100000 in
theorem c_X8_here (G : GT) (l : Launch) (σ : Mem)  (hrh : RH σ) : CI G 24 (cM G) l yX8_here ({ frames := 0, cells := 0, slots := 0, locals := 0 } : Room) cX8_here 1 (some .int) [.ref (G.1 0)] σ (fun (r : Int32) u => r = b_here σ ∧ u = σ) := by
  intro sz
  refine xbegin (by decide) (Nat.le_of_ble_eq_true rfl) ?_
  intro p e s m below meth c ls hsz ha hP hl
  subst hsz
  have hx := ha.1
  have hb := ha.2.1
  have hS : va_S (xA G 24 s.heap.size) s.heap s.heap [] := va_S.rf
  have hl : lv_has ls 1 [(0, .ref (G.1 0))] := hl
  have k_m1 : (-1 : Int32).toInt = -1 := by decide
  have k_0 : (0 : Int32).toInt = 0 := by decide
  have k_4 : (4 : Int32).toInt = 4 := by decide
  have k_5 : (5 : Int32).toInt = 5 := by decide
  have k_6 : (6 : Int32).toInt = 6 := by decide
  have k_60 : (60 : Int32).toInt = 60 := by decide
  have hrhx := hrh
  obtain ⟨q1, q2, q3, q4, q5, q6, q7, q8, q9⟩ := hrhx
  refine lv_aload_n hx hb dX8_here_0 rfl (lv_at hl 0 rfl) ?_
  refine g8_120 ha hP 0 (by decide) (cM_0 G _) (v := .int (σ 0 7)) rfl dX8_here_1 ?_
  refine lv_aload_n hx hb dX8_here_4 rfl (lv_at hl 0 rfl) ?_
  refine g8_123 ha hP 0 (by decide) (cM_0 G _) (v := .int (σ 0 8)) rfl dX8_here_5 ?_
  have jn_1 : ∀ x_1 : Int32, x_1 = (if (σ 0 7) < (σ 0 8) then (σ 3 ((60 * (ix (σ 0 9))) + (ix (σ 0 7)))) else (-1)) → W p l e ({ frames := 0, cells := 0, slots := 0, locals := 0 } : Room) s m ([.ref (G.1 0)] : List Value).toArray below meth c s.heap [] 0 0 (MQ below (va_Qi (fun (r : Int32) u => r = b_here σ ∧ u = σ) (xB G 24 (cM G)) (xA G 24 s.heap.size)) ([.ref (G.1 0)] : List Value).toArray s 0 0 (xA G 24 s.heap.size)) (F0 m 32 ls [.int x_1]) := by
    intro x_1 ex_1
    exact xiret ha hP hS dX8_here_32 ⟨by simp [b_here, i_leN, ex_1, -Int32.not_lt] <;> first | rfl | simp_all, rfl⟩ rfl
  refine lv_icmp_ge (tgt := 31) hx hb dX8_here_8 (by decide) (fun c_1 => ?_) (fun c_1 => ?_)
  · have t_1 := i_le c_1
    refine lv_iconst (v := (-1)) hx hb dX8_here_31 (by decide) ?_
    exact jn_1 _ (if_neg (u_le c_1)).symm
  · have t_1 := i_nle c_1
    refine lv_aload_n hx hb dX8_here_11 rfl (lv_at hl 0 rfl) ?_
    refine g8_16 ha hP 0 (by decide) (cM_0 G _) (v := .ref (G.1 3)) rfl dX8_here_12 ?_
    refine lv_bipush (v := 60) hx hb dX8_here_15 (by decide) ?_
    refine lv_aload_n hx hb dX8_here_17 rfl (lv_at hl 0 rfl) ?_
    refine g8_126 ha hP 0 (by decide) (cM_0 G _) (v := .int (σ 0 9)) rfl dX8_here_18 ?_
    refine lv_imul hx hb dX8_here_21 ?_
    refine lv_aload_n hx hb dX8_here_22 rfl (lv_at hl 0 rfl) ?_
    refine g8_120 ha hP 0 (by decide) (cM_0 G _) (v := .int (σ 0 7)) rfl dX8_here_23 ?_
    refine lv_iadd hx hb dX8_here_26 ?_
    refine xialdN ha hP 3 (by decide) (cM_3 G _) ((60 * (ix (σ 0 9))) + (ix (σ 0 7))) (nadd (nmul (rfl : (60 : Int32) = nI 60) (ix_nI (by omega))) (ix_nI (by omega))) (by have q_0 := ix_toInt (show (0 : Int) ≤ (σ 0 9).toInt by omega); have q_1 := ix_toInt (show (0 : Int) ≤ (σ 0 7).toInt by omega); omega) (by decide) dX8_here_27 ?_
    refine lv_goto (tgt := 32) hx hb dX8_here_28 (by decide) ?_
    exact jn_1 _ (if_pos (u_nle c_1)).symm
set_option maxHeartbeats 4000000 in
set_option maxRecDepth 100000 in
theorem c_X8_kindOf (G : GT) (l : Launch) (σ : Mem) (x : Int32)  : CI G 24 (cM G) l yX8_kindOf ({ frames := 0, cells := 0, slots := 0, locals := 0 } : Room) cX8_kindOf 1 (some .int) [.int x] σ (fun (r : Int32) u => r = b_kindM x ∧ u = σ) := by
  intro sz
  refine xbegin (by decide) (Nat.le_of_ble_eq_true rfl) ?_
  intro p e s m below meth c ls hsz ha hP hl
  subst hsz
  have hx := ha.1
  have hb := ha.2.1
  have hS : va_S (xA G 24 s.heap.size) s.heap s.heap [] := va_S.rf
  have hl : lv_has ls 1 [(0, .int x)] := hl
  have k_m9 : (-9 : Int32).toInt = -9 := by decide
  have k_0 : (0 : Int32).toInt = 0 := by decide
  have k_1 : (1 : Int32).toInt = 1 := by decide
  have k_2 : (2 : Int32).toInt = 2 := by decide
  have k_3 : (3 : Int32).toInt = 3 := by decide
  have k_4 : (4 : Int32).toInt = 4 := by decide
  have k_5 : (5 : Int32).toInt = 5 := by decide
  have k_6 : (6 : Int32).toInt = 6 := by decide
  refine lv_iload_n hx hb dX8_kindOf_0 rfl (lv_at hl 0 rfl) ?_
  by_cases c_1 : x = 100
  · refine lv_tableIn (tgt := 88) hx hb dX8_kindOf_1 (by rw [c_1]; decide) (by rw [c_1]; decide) (off := 87) (by rw [c_1]; rfl) (by decide) ?_
    refine lv_iconst (v := 4) hx hb dX8_kindOf_88 (by decide) ?_
    exact xiret ha hP hS dX8_kindOf_89 ⟨by simp [b_kindM, i_leN, c_1, -Int32.not_lt] <;> first | rfl | simp_all, rfl⟩ rfl
  by_cases c_2 : x = 101
  · refine lv_tableIn (tgt := 92) hx hb dX8_kindOf_1 (by rw [c_2]; decide) (by rw [c_2]; decide) (off := 91) (by rw [c_2]; rfl) (by decide) ?_
    refine lv_bipush (v := (-9)) hx hb dX8_kindOf_92 (by decide) ?_
    exact xiret ha hP hS dX8_kindOf_94 ⟨by simp [b_kindM, i_leN, c_1, c_2, -Int32.not_lt] <;> first | rfl | simp_all, rfl⟩ rfl
  by_cases c_3 : x = 102
  · refine lv_tableIn (tgt := 92) hx hb dX8_kindOf_1 (by rw [c_3]; decide) (by rw [c_3]; decide) (off := 91) (by rw [c_3]; rfl) (by decide) ?_
    refine lv_bipush (v := (-9)) hx hb dX8_kindOf_92 (by decide) ?_
    exact xiret ha hP hS dX8_kindOf_94 ⟨by simp [b_kindM, i_leN, c_1, c_2, c_3, -Int32.not_lt] <;> first | rfl | simp_all, rfl⟩ rfl
  by_cases c_4 : x = 103
  · refine lv_tableIn (tgt := 92) hx hb dX8_kindOf_1 (by rw [c_4]; decide) (by rw [c_4]; decide) (off := 91) (by rw [c_4]; rfl) (by decide) ?_
    refine lv_bipush (v := (-9)) hx hb dX8_kindOf_92 (by decide) ?_
    exact xiret ha hP hS dX8_kindOf_94 ⟨by simp [b_kindM, i_leN, c_1, c_2, c_3, c_4, -Int32.not_lt] <;> first | rfl | simp_all, rfl⟩ rfl
  by_cases c_5 : x = 104
  · refine lv_tableIn (tgt := 92) hx hb dX8_kindOf_1 (by rw [c_5]; decide) (by rw [c_5]; decide) (off := 91) (by rw [c_5]; rfl) (by decide) ?_
    refine lv_bipush (v := (-9)) hx hb dX8_kindOf_92 (by decide) ?_
    exact xiret ha hP hS dX8_kindOf_94 ⟨by simp [b_kindM, i_leN, c_1, c_2, c_3, c_4, c_5, -Int32.not_lt] <;> first | rfl | simp_all, rfl⟩ rfl
  by_cases c_6 : x = 105
  · refine lv_tableIn (tgt := 92) hx hb dX8_kindOf_1 (by rw [c_6]; decide) (by rw [c_6]; decide) (off := 91) (by rw [c_6]; rfl) (by decide) ?_
    refine lv_bipush (v := (-9)) hx hb dX8_kindOf_92 (by decide) ?_
    exact xiret ha hP hS dX8_kindOf_94 ⟨by simp [b_kindM, i_leN, c_1, c_2, c_3, c_4, c_5, c_6, -Int32.not_lt] <;> first | rfl | simp_all, rfl⟩ rfl
  by_cases c_7 : x = 106
  · refine lv_tableIn (tgt := 92) hx hb dX8_kindOf_1 (by rw [c_7]; decide) (by rw [c_7]; decide) (off := 91) (by rw [c_7]; rfl) (by decide) ?_
    refine lv_bipush (v := (-9)) hx hb dX8_kindOf_92 (by decide) ?_
    exact xiret ha hP hS dX8_kindOf_94 ⟨by simp [b_kindM, i_leN, c_1, c_2, c_3, c_4, c_5, c_6, c_7, -Int32.not_lt] <;> first | rfl | simp_all, rfl⟩ rfl
  by_cases c_8 : x = 107
  · refine lv_tableIn (tgt := 90) hx hb dX8_kindOf_1 (by rw [c_8]; decide) (by rw [c_8]; decide) (off := 89) (by rw [c_8]; rfl) (by decide) ?_
    refine lv_iconst (v := 5) hx hb dX8_kindOf_90 (by decide) ?_
    exact xiret ha hP hS dX8_kindOf_91 ⟨by simp [b_kindM, i_leN, c_1, c_2, c_3, c_4, c_5, c_6, c_7, c_8, -Int32.not_lt] <;> first | rfl | simp_all, rfl⟩ rfl
  by_cases c_9 : x = 108
  · refine lv_tableIn (tgt := 84) hx hb dX8_kindOf_1 (by rw [c_9]; decide) (by rw [c_9]; decide) (off := 83) (by rw [c_9]; rfl) (by decide) ?_
    refine lv_iconst (v := 2) hx hb dX8_kindOf_84 (by decide) ?_
    exact xiret ha hP hS dX8_kindOf_85 ⟨by simp [b_kindM, i_leN, c_1, c_2, c_3, c_4, c_5, c_6, c_7, c_8, c_9, -Int32.not_lt] <;> first | rfl | simp_all, rfl⟩ rfl
  by_cases c_10 : x = 109
  · refine lv_tableIn (tgt := 92) hx hb dX8_kindOf_1 (by rw [c_10]; decide) (by rw [c_10]; decide) (off := 91) (by rw [c_10]; rfl) (by decide) ?_
    refine lv_bipush (v := (-9)) hx hb dX8_kindOf_92 (by decide) ?_
    exact xiret ha hP hS dX8_kindOf_94 ⟨by simp [b_kindM, i_leN, c_1, c_2, c_3, c_4, c_5, c_6, c_7, c_8, c_9, c_10, -Int32.not_lt] <;> first | rfl | simp_all, rfl⟩ rfl
  by_cases c_11 : x = 110
  · refine lv_tableIn (tgt := 92) hx hb dX8_kindOf_1 (by rw [c_11]; decide) (by rw [c_11]; decide) (off := 91) (by rw [c_11]; rfl) (by decide) ?_
    refine lv_bipush (v := (-9)) hx hb dX8_kindOf_92 (by decide) ?_
    exact xiret ha hP hS dX8_kindOf_94 ⟨by simp [b_kindM, i_leN, c_1, c_2, c_3, c_4, c_5, c_6, c_7, c_8, c_9, c_10, c_11, -Int32.not_lt] <;> first | rfl | simp_all, rfl⟩ rfl
  by_cases c_12 : x = 111
  · refine lv_tableIn (tgt := 92) hx hb dX8_kindOf_1 (by rw [c_12]; decide) (by rw [c_12]; decide) (off := 91) (by rw [c_12]; rfl) (by decide) ?_
    refine lv_bipush (v := (-9)) hx hb dX8_kindOf_92 (by decide) ?_
    exact xiret ha hP hS dX8_kindOf_94 ⟨by simp [b_kindM, i_leN, c_1, c_2, c_3, c_4, c_5, c_6, c_7, c_8, c_9, c_10, c_11, c_12, -Int32.not_lt] <;> first | rfl | simp_all, rfl⟩ rfl
  by_cases c_13 : x = 112
  · refine lv_tableIn (tgt := 80) hx hb dX8_kindOf_1 (by rw [c_13]; decide) (by rw [c_13]; decide) (off := 79) (by rw [c_13]; rfl) (by decide) ?_
    refine lv_iconst (v := 0) hx hb dX8_kindOf_80 (by decide) ?_
    exact xiret ha hP hS dX8_kindOf_81 ⟨by simp [b_kindM, i_leN, c_1, c_2, c_3, c_4, c_5, c_6, c_7, c_8, c_9, c_10, c_11, c_12, c_13, -Int32.not_lt] <;> first | rfl | simp_all, rfl⟩ rfl
  by_cases c_14 : x = 113
  · refine lv_tableIn (tgt := 92) hx hb dX8_kindOf_1 (by rw [c_14]; decide) (by rw [c_14]; decide) (off := 91) (by rw [c_14]; rfl) (by decide) ?_
    refine lv_bipush (v := (-9)) hx hb dX8_kindOf_92 (by decide) ?_
    exact xiret ha hP hS dX8_kindOf_94 ⟨by simp [b_kindM, i_leN, c_1, c_2, c_3, c_4, c_5, c_6, c_7, c_8, c_9, c_10, c_11, c_12, c_13, c_14, -Int32.not_lt] <;> first | rfl | simp_all, rfl⟩ rfl
  by_cases c_15 : x = 114
  · refine lv_tableIn (tgt := 82) hx hb dX8_kindOf_1 (by rw [c_15]; decide) (by rw [c_15]; decide) (off := 81) (by rw [c_15]; rfl) (by decide) ?_
    refine lv_iconst (v := 1) hx hb dX8_kindOf_82 (by decide) ?_
    exact xiret ha hP hS dX8_kindOf_83 ⟨by simp [b_kindM, i_leN, c_1, c_2, c_3, c_4, c_5, c_6, c_7, c_8, c_9, c_10, c_11, c_12, c_13, c_14, c_15, -Int32.not_lt] <;> first | rfl | simp_all, rfl⟩ rfl
  by_cases c_16 : x = 115
  · refine lv_tableIn (tgt := 86) hx hb dX8_kindOf_1 (by rw [c_16]; decide) (by rw [c_16]; decide) (off := 85) (by rw [c_16]; rfl) (by decide) ?_
    refine lv_iconst (v := 3) hx hb dX8_kindOf_86 (by decide) ?_
    exact xiret ha hP hS dX8_kindOf_87 ⟨by simp [b_kindM, i_leN, c_1, c_2, c_3, c_4, c_5, c_6, c_7, c_8, c_9, c_10, c_11, c_12, c_13, c_14, c_15, c_16, -Int32.not_lt] <;> first | rfl | simp_all, rfl⟩ rfl
  have t_1 := i_ne c_1
  have t_2 := i_ne c_2
  have t_3 := i_ne c_3
  have t_4 := i_ne c_4
  have t_5 := i_ne c_5
  have t_6 := i_ne c_6
  have t_7 := i_ne c_7
  have t_8 := i_ne c_8
  have t_9 := i_ne c_9
  have t_10 := i_ne c_10
  have t_11 := i_ne c_11
  have t_12 := i_ne c_12
  have t_13 := i_ne c_13
  have t_14 := i_ne c_14
  have t_15 := i_ne c_15
  have t_16 := i_ne c_16
  have kk_1 : (100 : Int32).toInt = 100 := by decide
  have kk_2 : (101 : Int32).toInt = 101 := by decide
  have kk_3 : (102 : Int32).toInt = 102 := by decide
  have kk_4 : (103 : Int32).toInt = 103 := by decide
  have kk_5 : (104 : Int32).toInt = 104 := by decide
  have kk_6 : (105 : Int32).toInt = 105 := by decide
  have kk_7 : (106 : Int32).toInt = 106 := by decide
  have kk_8 : (107 : Int32).toInt = 107 := by decide
  have kk_9 : (108 : Int32).toInt = 108 := by decide
  have kk_10 : (109 : Int32).toInt = 109 := by decide
  have kk_11 : (110 : Int32).toInt = 110 := by decide
  have kk_12 : (111 : Int32).toInt = 111 := by decide
  have kk_13 : (112 : Int32).toInt = 112 := by decide
  have kk_14 : (113 : Int32).toInt = 113 := by decide
  have kk_15 : (114 : Int32).toInt = 114 := by decide
  have kk_16 : (115 : Int32).toInt = 115 := by decide
  refine lv_tableOut (tgt := 92) hx hb dX8_kindOf_1 (by omega) (by decide) ?_
  refine lv_bipush (v := (-9)) hx hb dX8_kindOf_92 (by decide) ?_
  exact xiret ha hP hS dX8_kindOf_94 ⟨by simp [b_kindM, i_leN, c_1, c_2, c_3, c_4, c_5, c_6, c_7, c_8, c_9, c_10, c_11, c_12, c_13, c_14, c_15, c_16, -Int32.not_lt] <;> first | rfl | simp_all, rfl⟩ rfl
set_option maxHeartbeats 4000000 in
set_option maxRecDepth 100000 in
theorem c_X8_isFigure (G : GT) (l : Launch) (σ : Mem) (least : Int32) (hrh : RH σ) (hl01 : 0 ≤ least.toInt ∧ least.toInt ≤ 1) : CI G 24 (cM G) l yX8_isFigure ({ frames := 1, cells := 0, slots := 0, locals := 25 } : Room) cX8_isFigure 2 (some .boolean) [.ref (G.1 0), .int least] σ (fun (r : Int32) u => r = b2i (b_fig σ least) ∧ u = w_fig σ least) := by
  intro sz
  refine xbegin (by decide) (Nat.le_of_ble_eq_true rfl) ?_
  intro p e s m below meth c ls hsz ha hP hl
  subst hsz
  have hx := ha.1
  have hb := ha.2.1
  have hS : va_S (xA G 24 s.heap.size) s.heap s.heap [] := va_S.rf
  have hl : lv_has ls 2 [(0, .ref (G.1 0)), (1, .int least)] := hl
  have k_0 : (0 : Int32).toInt = 0 := by decide
  have k_1 : (1 : Int32).toInt = 1 := by decide
  have k_4 : (4 : Int32).toInt = 4 := by decide
  have k_5 : (5 : Int32).toInt = 5 := by decide
  have k_6 : (6 : Int32).toInt = 6 := by decide
  have k_48 : (48 : Int32).toInt = 48 := by decide
  refine lv_aload_n hx hb dX8_isFigure_0 rfl (lv_at hl 0 rfl) ?_
  refine xVi ha hP hS (y := yX8_here) (As := []) (rest := []) 0 (by decide) (cM_0 G _) rfl rfl (c_X8_here G l σ  hrh) kw_X8_129 hd_X8_here rfl ⟨rfl, rfl⟩ ⟨Nat.le_of_ble_eq_true rfl, Nat.le_of_ble_eq_true rfl⟩ ⟨Nat.zero_le _, Nat.zero_le _⟩ hl.1 (Nat.le_of_ble_eq_true rfl) rfl dX8_isFigure_1 (fun r u H locs hpq hP hS => ?_)
  obtain ⟨hr_, hu_⟩ := hpq
  have hr_ := hr_.symm
  have hu_ := hu_.symm
  subst hr_
  subst hu_
  refine lv_i2l (v := (b_here σ).toInt64) hx hb dX8_isFigure_4 rfl ?_
  refine lv_bipush (v := 48) hx hb dX8_isFigure_5 (by decide) ?_
  refine lv_iload_n hx hb dX8_isFigure_7 rfl (lv_at hl 1 rfl) ?_
  refine lv_iadd hx hb dX8_isFigure_8 ?_
  refine lv_i2l (v := (48 + least).toInt64) hx hb dX8_isFigure_9 rfl ?_
  refine lv_ldc2 (v := 57) hx hb ha.2.2.2.1 (ha.2.2.2.2.1 _ (tb_in (w := .constantLong RX8 133 57) (by decide +kernel))) dX8_isFigure_10 ?_
  refine xSi ha hP hS (y := yX8_in) (As := [.long ((b_here σ).toInt64), .long ((48 + least).toInt64), .long 57]) (rest := []) rfl (c_X8_in G l σ ((b_here σ).toInt64) ((48 + least).toInt64) 57 ) kw_X8_95 hd_X8_in rfl ⟨rfl, rfl⟩ ⟨Nat.le_of_ble_eq_true rfl, Nat.le_of_ble_eq_true rfl⟩ ⟨Nat.zero_le _, Nat.zero_le _⟩ hl.1 (Nat.le_of_ble_eq_true rfl) rfl dX8_isFigure_13 (fun r u H locs hpq hP hS => ?_)
  obtain ⟨hr_, hu_⟩ := hpq
  have hr_ := hr_.symm
  have hu_ := hu_.symm
  subst hr_
  subst hu_
  refine lv_if_ne (tgt := 21) hx hb dX8_isFigure_16 (by decide) (fun c_1 => ?_) (fun c_1 => ?_)
  · have t_1 := b2i_t c_1
    have f_1 := bin_t t_1
    try simp only [Int32.toInt_toInt64, ll_0, ll_1, ll_2, ll_3, ll_4, ll_5, ll_9, ll_12, ll_20, ll_40, ll_57, ll_99, ll_2147483646] at f_1
    refine lv_aload_n hx hb dX8_isFigure_21 rfl (lv_at hl 0 rfl) ?_
    refine lv_dup hx hb dX8_isFigure_22 rfl ?_
    refine g8_120 ha hP 0 (by decide) (cM_0 G _) (v := .int (σ 0 7)) rfl dX8_isFigure_23 ?_
    refine lv_iconst (v := 1) hx hb dX8_isFigure_26 (by decide) ?_
    refine lv_iadd hx hb dX8_isFigure_27 ?_
    refine p8_120 ha hP hS (cM_loc G) 0 (by decide) (cM_0 G _) (x := ((σ 0 7) + 1)) (Nat.le_of_ble_eq_true rfl) (mU σ 0 7 ((σ 0 7) + 1)) (fun q hq => mU_n _ _ _ hq) (cM_p0_7 G _ _) dX8_isFigure_28 (fun H locs hP hS => ?_)
    refine lv_iconst (v := 1) hx hb dX8_isFigure_31 (by decide) ?_
    exact xzret ha hP hS rfl dX8_isFigure_32 ⟨by simp [b_fig, t_1, b2i], (by simp [w_fig, b_fig, inc7, t_1])⟩ rfl
  · have t_1 := b2i_f c_1
    have f_1 := bin_f t_1
    try simp only [Int32.toInt_toInt64, ll_0, ll_1, ll_2, ll_3, ll_4, ll_5, ll_9, ll_12, ll_20, ll_40, ll_57, ll_99, ll_2147483646] at f_1
    refine lv_iconst (v := 0) hx hb dX8_isFigure_19 (by decide) ?_
    exact xzret ha hP hS rfl dX8_isFigure_20 ⟨by simp [b_fig, t_1, b2i], (by simp [w_fig, b_fig, inc7, t_1])⟩ rfl
set_option maxHeartbeats 4000000 in
set_option maxRecDepth 100000 in
theorem c_X8_last (G : GT) (l : Launch) (σ : Mem)  (hrl : RQ σ) : CI G 24 (cM G) l yX8_last ({ frames := 0, cells := 0, slots := 0, locals := 0 } : Room) cX8_last 1 (some .int) [.ref (G.1 0)] σ (fun (r : Int32) u => r = b_last σ ∧ u = σ) := by
  intro sz
  refine xbegin (by decide) (Nat.le_of_ble_eq_true rfl) ?_
  intro p e s m below meth c ls hsz ha hP hl
  subst hsz
  have hx := ha.1
  have hb := ha.2.1
  have hS : va_S (xA G 24 s.heap.size) s.heap s.heap [] := va_S.rf
  have hl : lv_has ls 1 [(0, .ref (G.1 0))] := hl
  have k_0 : (0 : Int32).toInt = 0 := by decide
  have k_1 : (1 : Int32).toInt = 1 := by decide
  have k_4 : (4 : Int32).toInt = 4 := by decide
  have k_5 : (5 : Int32).toInt = 5 := by decide
  have k_6 : (6 : Int32).toInt = 6 := by decide
  have k_48 : (48 : Int32).toInt = 48 := by decide
  have k_60 : (60 : Int32).toInt = 60 := by decide
  have hrhx := hrl.1
  obtain ⟨q1, q2, q3, q4, q5, q6, q7, q8, q9⟩ := hrhx
  have q0 := hrl.2
  refine lv_aload_n hx hb dX8_last_0 rfl (lv_at hl 0 rfl) ?_
  refine g8_16 ha hP 0 (by decide) (cM_0 G _) (v := .ref (G.1 3)) rfl dX8_last_1 ?_
  refine lv_bipush (v := 60) hx hb dX8_last_4 (by decide) ?_
  refine lv_aload_n hx hb dX8_last_6 rfl (lv_at hl 0 rfl) ?_
  refine g8_126 ha hP 0 (by decide) (cM_0 G _) (v := .int (σ 0 9)) rfl dX8_last_7 ?_
  refine lv_imul hx hb dX8_last_10 ?_
  refine lv_aload_n hx hb dX8_last_11 rfl (lv_at hl 0 rfl) ?_
  refine g8_120 ha hP 0 (by decide) (cM_0 G _) (v := .int (σ 0 7)) rfl dX8_last_12 ?_
  refine lv_iadd hx hb dX8_last_15 ?_
  refine lv_iconst (v := 1) hx hb dX8_last_16 (by decide) ?_
  refine lv_isub hx hb dX8_last_17 ?_
  refine xialdN ha hP 3 (by decide) (cM_3 G _) (((60 * (ix (σ 0 9))) + (ix (σ 0 7))) - 1) (nsub (nadd (nmul (rfl : (60 : Int32) = nI 60) (ix_nI (by omega))) (ix_nI (by omega))) (rfl : (1 : Int32) = nI 1) (by have q_0 := ix_toInt (show (0 : Int) ≤ (σ 0 9).toInt by omega); have q_1 := ix_toInt (show (0 : Int) ≤ (σ 0 7).toInt by omega); omega)) (by have q_0 := ix_toInt (show (0 : Int) ≤ (σ 0 9).toInt by omega); have q_1 := ix_toInt (show (0 : Int) ≤ (σ 0 7).toInt by omega); omega) (by decide) dX8_last_18 ?_
  refine lv_bipush (v := 48) hx hb dX8_last_19 (by decide) ?_
  refine lv_isub hx hb dX8_last_21 ?_
  exact xiret ha hP hS dX8_last_22 ⟨by rfl, rfl⟩ rfl
set_option maxHeartbeats 4000000 in
set_option maxRecDepth 100000 in
theorem c_X8_isStrength (G : GT) (l : Launch) (σ : Mem)  (hrh : RH σ) (hp4 : (σ 0 10).toInt < 4) : CI G 24 (cM G) l yX8_isStrength ({ frames := 2, cells := 0, slots := 0, locals := 46 } : Room) cX8_isStrength 3 (some .boolean) [.ref (G.1 0)] σ (fun (r : Int32) u => r = b2i (b_str σ) ∧ u = w_str σ) := by
  intro sz
  refine xbegin (by decide) (Nat.le_of_ble_eq_true rfl) ?_
  intro p e s m below meth c ls hsz ha hP hl
  subst hsz
  have hx := ha.1
  have hb := ha.2.1
  have hS : va_S (xA G 24 s.heap.size) s.heap s.heap [] := va_S.rf
  have hl : lv_has ls 3 [(0, .ref (G.1 0))] := hl
  have k_0 : (0 : Int32).toInt = 0 := by decide
  have k_1 : (1 : Int32).toInt = 1 := by decide
  have k_4 : (4 : Int32).toInt = 4 := by decide
  have k_5 : (5 : Int32).toInt = 5 := by decide
  have k_6 : (6 : Int32).toInt = 6 := by decide
  have k_10 : (10 : Int32).toInt = 10 := by decide
  have k_60 : (60 : Int32).toInt = 60 := by decide
  refine lv_aload_n hx hb dX8_isStrength_0 rfl (lv_at hl 0 rfl) ?_
  refine g8_120 ha hP 0 (by decide) (cM_0 G _) (v := .int (σ 0 7)) rfl dX8_isStrength_1 ?_
  refine lv_istore_n (lv' := [(1, .int (σ 0 7)), (0, .ref (G.1 0))]) hx hb dX8_isStrength_4 rfl hl (by decide) rfl (fun ls hl => ?_)
  refine lv_aload_n hx hb dX8_isStrength_5 rfl (lv_at hl 1 rfl) ?_
  refine lv_iconst (v := 0) hx hb dX8_isStrength_6 (by decide) ?_
  refine xVi ha hP hS (y := yX8_isFigure) (As := [.int 0]) (rest := []) 0 (by decide) (cM_0 G _) rfl rfl (c_X8_isFigure G l σ 0 hrh (by decide)) kw_X8_135 hd_X8_isFigure rfl ⟨rfl, rfl⟩ ⟨Nat.le_of_ble_eq_true rfl, Nat.le_of_ble_eq_true rfl⟩ ⟨Nat.zero_le _, Nat.zero_le _⟩ hl.1 (Nat.le_of_ble_eq_true rfl) rfl dX8_isStrength_7 (fun r u H locs hpq hP hS => ?_)
  obtain ⟨hr_, hu_⟩ := hpq
  have hr_ := hr_.symm
  have hu_ := hu_.symm
  subst hr_
  subst hu_
  refine lv_if_ne (tgt := 15) hx hb dX8_isStrength_10 (by decide) (fun c_1 => ?_) (fun c_1 => ?_)
  · have t_1 := b2i_t c_1
    have hRL1 : RQ (w_fig σ 0) := RQ_fig (by decide) hrh t_1
    refine lv_aload_n hx hb dX8_isStrength_15 rfl (lv_at hl 1 rfl) ?_
    refine xVi ha hP hS (y := yX8_last) (As := []) (rest := []) 0 (by decide) (cM_0 G _) rfl rfl (c_X8_last G l (w_fig σ 0)  hRL1) kw_X8_138 hd_X8_last rfl ⟨rfl, rfl⟩ ⟨Nat.le_of_ble_eq_true rfl, Nat.le_of_ble_eq_true rfl⟩ ⟨Nat.zero_le _, Nat.zero_le _⟩ hl.1 (Nat.le_of_ble_eq_true rfl) rfl dX8_isStrength_16 (fun r u H locs hpq hP hS => ?_)
    obtain ⟨hr_, hu_⟩ := hpq
    have hr_ := hr_.symm
    have hu_ := hu_.symm
    subst hr_
    subst hu_
    refine lv_istore_n (lv' := [(2, .int (b_last (w_fig σ 0))), (1, .int (σ 0 7)), (0, .ref (G.1 0))]) hx hb dX8_isStrength_19 rfl hl (by decide) rfl (fun ls hl => ?_)
    refine lv_aload_n hx hb dX8_isStrength_20 rfl (lv_at hl 2 rfl) ?_
    refine lv_iconst (v := 0) hx hb dX8_isStrength_21 (by decide) ?_
    refine xVi ha hP hS (y := yX8_isFigure) (As := [.int 0]) (rest := []) 0 (by decide) (cM_0 G _) rfl rfl (c_X8_isFigure G l (w_fig σ 0) 0 (RH_fig (by decide) hrh) (by decide)) kw_X8_135 hd_X8_isFigure rfl ⟨rfl, rfl⟩ ⟨Nat.le_of_ble_eq_true rfl, Nat.le_of_ble_eq_true rfl⟩ ⟨Nat.zero_le _, Nat.zero_le _⟩ hl.1 (Nat.le_of_ble_eq_true rfl) rfl dX8_isStrength_22 (fun r u H locs hpq hP hS => ?_)
    obtain ⟨hr_, hu_⟩ := hpq
    have hr_ := hr_.symm
    have hu_ := hu_.symm
    subst hr_
    subst hu_
    refine lv_if_ne (tgt := 30) hx hb dX8_isStrength_25 (by decide) (fun c_2 => ?_) (fun c_2 => ?_)
    · have t_2 := b2i_t c_2
      have hRL2 : RQ (w_fig (w_fig σ 0) 0) := RQ_fig (by decide) hRL1.1 t_2
      obtain ⟨q1, q2, q3, q4, q5, q6, q7, q8, q9⟩ := hRL2.1
      have e10 : (w_fig (w_fig σ 0) 0) 0 10 = σ 0 10 := by rw [w_fig_n (by decide), w_fig_n (by decide)]
      have i10 := i_eq e10
      refine lv_bipush (v := 10) hx hb dX8_isStrength_30 (by decide) ?_
      refine lv_iload_n hx hb dX8_isStrength_32 rfl (lv_at hl 0 rfl) ?_
      refine lv_imul hx hb dX8_isStrength_33 ?_
      refine lv_aload_n hx hb dX8_isStrength_34 rfl (lv_at hl 2 rfl) ?_
      refine xVi ha hP hS (y := yX8_last) (As := []) (rest := [.int (10 * (b_last (w_fig σ 0)))]) 0 (by decide) (cM_0 G _) rfl rfl (c_X8_last G l (w_fig (w_fig σ 0) 0)  hRL2) kw_X8_138 hd_X8_last rfl ⟨rfl, rfl⟩ ⟨Nat.le_of_ble_eq_true rfl, Nat.le_of_ble_eq_true rfl⟩ ⟨Nat.zero_le _, Nat.zero_le _⟩ hl.1 (Nat.le_of_ble_eq_true rfl) rfl dX8_isStrength_35 (fun r u H locs hpq hP hS => ?_)
      obtain ⟨hr_, hu_⟩ := hpq
      have hr_ := hr_.symm
      have hu_ := hu_.symm
      subst hr_
      subst hu_
      refine lv_iadd hx hb dX8_isStrength_38 ?_
      refine lv_bipush (v := 60) hx hb dX8_isStrength_39 (by decide) ?_
      refine lv_icmp_le (tgt := 51) hx hb dX8_isStrength_41 (by decide) (fun c_3 => ?_) (fun c_3 => ?_)
      · have t_3 := i_le c_3
        have u_3 := u_le c_3
        refine lv_aload_n hx hb dX8_isStrength_51 rfl (lv_at hl 2 rfl) ?_
        refine g8_62 ha hP 0 (by decide) (cM_0 G _) (v := .ref (G.1 17)) rfl dX8_isStrength_52 ?_
        refine lv_aload_n hx hb dX8_isStrength_55 rfl (lv_at hl 2 rfl) ?_
        refine g8_141 ha hP 0 (by decide) (cM_0 G _) (v := .int ((w_fig (w_fig σ 0) 0) 0 10)) rfl dX8_isStrength_56 ?_
        refine lv_bipush (v := 10) hx hb dX8_isStrength_59 (by decide) ?_
        refine lv_iload_n hx hb dX8_isStrength_61 rfl (lv_at hl 0 rfl) ?_
        refine lv_imul hx hb dX8_isStrength_62 ?_
        refine lv_aload_n hx hb dX8_isStrength_63 rfl (lv_at hl 2 rfl) ?_
        refine xVi ha hP hS (y := yX8_last) (As := []) (rest := [.int (10 * (b_last (w_fig σ 0))), .int ((w_fig (w_fig σ 0) 0) 0 10), .ref (G.1 17)]) 0 (by decide) (cM_0 G _) rfl rfl (c_X8_last G l (w_fig (w_fig σ 0) 0)  hRL2) kw_X8_138 hd_X8_last rfl ⟨rfl, rfl⟩ ⟨Nat.le_of_ble_eq_true rfl, Nat.le_of_ble_eq_true rfl⟩ ⟨Nat.zero_le _, Nat.zero_le _⟩ hl.1 (Nat.le_of_ble_eq_true rfl) rfl dX8_isStrength_64 (fun r u H locs hpq hP hS => ?_)
        obtain ⟨hr_, hu_⟩ := hpq
        have hr_ := hr_.symm
        have hu_ := hu_.symm
        subst hr_
        subst hu_
        refine lv_iadd hx hb dX8_isStrength_67 ?_
        refine xiastN ha hP hS (cM_loc G) 17 (by decide) (fun τ => cM_17 G τ) (ix ((w_fig (w_fig σ 0) 0) 0 10)) (ix_nI (by omega)) (ix_lt (by omega) (by omega)) (by decide) dX8_isStrength_68 (fun H locs hP hS => ?_)
        refine lv_iconst (v := 1) hx hb dX8_isStrength_69 (by decide) ?_
        exact xzret ha hP hS rfl dX8_isStrength_70 ⟨by simp [b_str, st1, st2, t_1, t_2, u_3, b2i, i_leN, -Int32.not_lt], (by simp [w_str, t_1, t_2, u_3, i_leN, -Int32.not_lt])⟩ rfl
      · have t_3 := i_nle c_3
        have u_3 := u_nle c_3
        refine lv_aload_n hx hb dX8_isStrength_44 rfl (lv_at hl 2 rfl) ?_
        refine lv_iload_n hx hb dX8_isStrength_45 rfl (lv_at hl 1 rfl) ?_
        refine p8_120 ha hP hS (cM_loc G) 0 (by decide) (cM_0 G _) (x := (σ 0 7)) (Nat.le_of_ble_eq_true rfl) (mU (w_fig (w_fig σ 0) 0) 0 7 (σ 0 7)) (fun q hq => mU_n _ _ _ hq) (cM_p0_7 G _ _) dX8_isStrength_46 (fun H locs hP hS => ?_)
        refine lv_iconst (v := 0) hx hb dX8_isStrength_49 (by decide) ?_
        exact xzret ha hP hS rfl dX8_isStrength_50 ⟨by simp [b_str, st1, st2, t_1, t_2, u_3, b2i, i_leN, -Int32.not_lt], (by simp [w_str, t_1, t_2, u_3, i_leN, -Int32.not_lt])⟩ rfl
    · have t_2 := b2i_f c_2
      refine lv_iconst (v := 0) hx hb dX8_isStrength_28 (by decide) ?_
      exact xzret ha hP hS rfl dX8_isStrength_29 ⟨by simp [b_str, st1, st2, t_1, t_2, b2i, i_leN, -Int32.not_lt], (by simp [w_str, t_1, t_2, i_leN, -Int32.not_lt])⟩ rfl
  · have t_1 := b2i_f c_1
    refine lv_iconst (v := 0) hx hb dX8_isStrength_13 (by decide) ?_
    exact xzret ha hP hS rfl dX8_isStrength_14 ⟨by simp [b_str, st1, st2, t_1, b2i, i_leN, -Int32.not_lt], (by simp [w_str, t_1, i_leN, -Int32.not_lt])⟩ rfl
set_option maxHeartbeats 4000000 in
set_option maxRecDepth 100000 in
theorem c_X8_readsPole (G : GT) (l : Launch) (σ : Mem)  (hrh : RH σ) (hlt : (σ 0 7).toInt < (σ 0 8).toInt) : CI G 24 (cM G) l yX8_readsPole ({ frames := 3, cells := 0, slots := 0, locals := 68 } : Room) cX8_readsPole 2 (some .boolean) [.ref (G.1 0)] σ (fun (r : Int32) u => r = b2i (b_rp σ) ∧ u = w_rp σ) := by
  intro sz
  refine xbegin (by decide) (Nat.le_of_ble_eq_true rfl) ?_
  intro p e s m below meth c ls hsz ha hP hl
  subst hsz
  have hx := ha.1
  have hb := ha.2.1
  have hS : va_S (xA G 24 s.heap.size) s.heap s.heap [] := va_S.rf
  have hl : lv_has ls 2 [(0, .ref (G.1 0))] := hl
  have k_0 : (0 : Int32).toInt = 0 := by decide
  have k_1 : (1 : Int32).toInt = 1 := by decide
  have k_4 : (4 : Int32).toInt = 4 := by decide
  have k_5 : (5 : Int32).toInt = 5 := by decide
  have k_6 : (6 : Int32).toInt = 6 := by decide
  have hrhx := hrh
  obtain ⟨q1, q2, q3, q4, q5, q6, q7, q8, q9⟩ := hrhx
  refine lv_aload_n hx hb dX8_readsPole_0 rfl (lv_at hl 0 rfl) ?_
  refine g8_141 ha hP 0 (by decide) (cM_0 G _) (v := .int (σ 0 10)) rfl dX8_readsPole_1 ?_
  refine lv_iconst (v := 4) hx hb dX8_readsPole_4 (by decide) ?_
  refine lv_icmp_ne (tgt := 10) hx hb dX8_readsPole_5 (by decide) (fun c_1 => ?_) (fun c_1 => ?_)
  · have t_1 := i_ne c_1
    refine lv_aload_n hx hb dX8_readsPole_10 rfl (lv_at hl 0 rfl) ?_
    refine xVi ha hP hS (y := yX8_here) (As := []) (rest := []) 0 (by decide) (cM_0 G _) rfl rfl (c_X8_here G l σ  hrh) kw_X8_129 hd_X8_here rfl ⟨rfl, rfl⟩ ⟨Nat.le_of_ble_eq_true rfl, Nat.le_of_ble_eq_true rfl⟩ ⟨Nat.zero_le _, Nat.zero_le _⟩ hl.1 (Nat.le_of_ble_eq_true rfl) rfl dX8_readsPole_11 (fun r u H locs hpq hP hS => ?_)
    obtain ⟨hr_, hu_⟩ := hpq
    have hr_ := hr_.symm
    have hu_ := hu_.symm
    subst hr_
    subst hu_
    refine xSi ha hP hS (y := yX8_kindOf) (As := [.int (b_here σ)]) (rest := []) rfl (c_X8_kindOf G l σ (b_here σ) ) kw_X8_144 hd_X8_kindOf rfl ⟨rfl, rfl⟩ ⟨Nat.le_of_ble_eq_true rfl, Nat.le_of_ble_eq_true rfl⟩ ⟨Nat.zero_le _, Nat.zero_le _⟩ hl.1 (Nat.le_of_ble_eq_true rfl) rfl dX8_readsPole_14 (fun r u H locs hpq hP hS => ?_)
    obtain ⟨hr_, hu_⟩ := hpq
    have hr_ := hr_.symm
    have hu_ := hu_.symm
    subst hr_
    subst hu_
    refine lv_istore_n (lv' := [(1, .int (b_kindM (b_here σ))), (0, .ref (G.1 0))]) hx hb dX8_readsPole_17 rfl hl (by decide) rfl (fun ls hl => ?_)
    refine lv_aload_n hx hb dX8_readsPole_18 rfl (lv_at hl 1 rfl) ?_
    refine lv_dup hx hb dX8_readsPole_19 rfl ?_
    refine g8_120 ha hP 0 (by decide) (cM_0 G _) (v := .int (σ 0 7)) rfl dX8_readsPole_20 ?_
    refine lv_iconst (v := 1) hx hb dX8_readsPole_23 (by decide) ?_
    refine lv_iadd hx hb dX8_readsPole_24 ?_
    refine p8_120 ha hP hS (cM_loc G) 0 (by decide) (cM_0 G _) (x := ((σ 0 7) + 1)) (Nat.le_of_ble_eq_true rfl) (mU σ 0 7 ((σ 0 7) + 1)) (fun q hq => mU_n _ _ _ hq) (cM_p0_7 G _ _) dX8_readsPole_25 (fun H locs hP hS => ?_)
    have hRLi : RQ (mU σ 0 7 ((σ 0 7) + 1)) := RQ_inc hrh hlt
    refine lv_aload_n hx hb dX8_readsPole_28 rfl (lv_at hl 1 rfl) ?_
    refine lv_iconst (v := 1) hx hb dX8_readsPole_29 (by decide) ?_
    refine xVi ha hP hS (y := yX8_isFigure) (As := [.int 1]) (rest := []) 0 (by decide) (cM_0 G _) rfl rfl (c_X8_isFigure G l (mU σ 0 7 ((σ 0 7) + 1)) 1 hRLi.1 (by decide)) kw_X8_135 hd_X8_isFigure rfl ⟨rfl, rfl⟩ ⟨Nat.le_of_ble_eq_true rfl, Nat.le_of_ble_eq_true rfl⟩ ⟨Nat.zero_le _, Nat.zero_le _⟩ hl.1 (Nat.le_of_ble_eq_true rfl) rfl dX8_readsPole_30 (fun r u H locs hpq hP hS => ?_)
    obtain ⟨hr_, hu_⟩ := hpq
    have hr_ := hr_.symm
    have hu_ := hu_.symm
    subst hr_
    subst hu_
    refine lv_if_ne (tgt := 38) hx hb dX8_readsPole_33 (by decide) (fun c_2 => ?_) (fun c_2 => ?_)
    · have t_2 := b2i_t c_2
      have hRL1 : RQ (w_fig (mU σ 0 7 ((σ 0 7) + 1)) 1) := RQ_fig (by decide) hRLi.1 t_2
      have e10 : (w_fig (mU σ 0 7 ((σ 0 7) + 1)) 1) 0 10 = σ 0 10 := by simp [w_fig_n, mU_e]
      have i10 := i_eq e10
      refine lv_aload_n hx hb dX8_readsPole_38 rfl (lv_at hl 1 rfl) ?_
      refine g8_56 ha hP 0 (by decide) (cM_0 G _) (v := .ref (G.1 15)) rfl dX8_readsPole_39 ?_
      refine lv_aload_n hx hb dX8_readsPole_42 rfl (lv_at hl 1 rfl) ?_
      refine g8_141 ha hP 0 (by decide) (cM_0 G _) (v := .int ((w_fig (mU σ 0 7 ((σ 0 7) + 1)) 1) 0 10)) rfl dX8_readsPole_43 ?_
      refine lv_iload_n hx hb dX8_readsPole_46 rfl (lv_at hl 0 rfl) ?_
      refine xiastN ha hP hS (cM_loc G) 15 (by decide) (fun τ => cM_15 G τ) (ix ((w_fig (mU σ 0 7 ((σ 0 7) + 1)) 1) 0 10)) (ix_nI (by omega)) (ix_lt (by omega) (by omega)) (by decide) dX8_readsPole_47 (fun H locs hP hS => ?_)
      refine lv_aload_n hx hb dX8_readsPole_48 rfl (lv_at hl 1 rfl) ?_
      refine g8_59 ha hP 0 (by decide) (cM_0 G _) (v := .ref (G.1 16)) rfl dX8_readsPole_49 ?_
      refine lv_aload_n hx hb dX8_readsPole_52 rfl (lv_at hl 1 rfl) ?_
      refine g8_141 ha hP 0 (by decide) (cM_0 G _) (v := .int ((w_fig (mU σ 0 7 ((σ 0 7) + 1)) 1) 0 10)) rfl dX8_readsPole_53 ?_
      refine lv_aload_n hx hb dX8_readsPole_56 rfl (lv_at hl 1 rfl) ?_
      refine xVi ha hP hS (y := yX8_last) (As := []) (rest := [.int ((w_fig (mU σ 0 7 ((σ 0 7) + 1)) 1) 0 10), .ref (G.1 16)]) 0 (by decide) (cM_0 G _) rfl rfl (c_X8_last G l (mU (w_fig (mU σ 0 7 ((σ 0 7) + 1)) 1) 15 (ix ((w_fig (mU σ 0 7 ((σ 0 7) + 1)) 1) 0 10)) (b_kindM (b_here σ)))  (RQ_mU hRL1 (by decide))) kw_X8_138 hd_X8_last rfl ⟨rfl, rfl⟩ ⟨Nat.le_of_ble_eq_true rfl, Nat.le_of_ble_eq_true rfl⟩ ⟨Nat.zero_le _, Nat.zero_le _⟩ hl.1 (Nat.le_of_ble_eq_true rfl) rfl dX8_readsPole_57 (fun r u H locs hpq hP hS => ?_)
      obtain ⟨hr_, hu_⟩ := hpq
      have hr_ := hr_.symm
      have hu_ := hu_.symm
      subst hr_
      subst hu_
      refine xiastN ha hP hS (cM_loc G) 16 (by decide) (fun τ => cM_16 G τ) (ix ((w_fig (mU σ 0 7 ((σ 0 7) + 1)) 1) 0 10)) (ix_nI (by omega)) (ix_lt (by omega) (by omega)) (by decide) dX8_readsPole_60 (fun H locs hP hS => ?_)
      refine lv_aload_n hx hb dX8_readsPole_61 rfl (lv_at hl 1 rfl) ?_
      refine xVi ha hP hS (y := yX8_isStrength) (As := []) (rest := []) 0 (by decide) (cM_0 G _) rfl rfl (c_X8_isStrength G l (mU (mU (w_fig (mU σ 0 7 ((σ 0 7) + 1)) 1) 15 (ix ((w_fig (mU σ 0 7 ((σ 0 7) + 1)) 1) 0 10)) (b_kindM (b_here σ))) 16 (ix ((w_fig (mU σ 0 7 ((σ 0 7) + 1)) 1) 0 10)) (b_last (mU (w_fig (mU σ 0 7 ((σ 0 7) + 1)) 1) 15 (ix ((w_fig (mU σ 0 7 ((σ 0 7) + 1)) 1) 0 10)) (b_kindM (b_here σ)))))  (RH_mU (RH_mU hRL1.1 (by decide)) (by decide)) (by rw [show (mU (mU (w_fig (mU σ 0 7 ((σ 0 7) + 1)) 1) 15 (ix ((w_fig (mU σ 0 7 ((σ 0 7) + 1)) 1) 0 10)) (b_kindM (b_here σ))) 16 (ix ((w_fig (mU σ 0 7 ((σ 0 7) + 1)) 1) 0 10)) (b_last (mU (w_fig (mU σ 0 7 ((σ 0 7) + 1)) 1) 15 (ix ((w_fig (mU σ 0 7 ((σ 0 7) + 1)) 1) 0 10)) (b_kindM (b_here σ))))) 0 10 = σ 0 10 by simp [w_fig_n, mU_e]]; omega)) kw_X8_147 hd_X8_isStrength rfl ⟨rfl, rfl⟩ ⟨Nat.le_of_ble_eq_true rfl, Nat.le_of_ble_eq_true rfl⟩ ⟨Nat.zero_le _, Nat.zero_le _⟩ hl.1 (Nat.le_of_ble_eq_true rfl) rfl dX8_readsPole_62 (fun r u H locs hpq hP hS => ?_)
      obtain ⟨hr_, hu_⟩ := hpq
      have hr_ := hr_.symm
      have hu_ := hu_.symm
      subst hr_
      subst hu_
      refine lv_if_ne (tgt := 70) hx hb dX8_readsPole_65 (by decide) (fun c_3 => ?_) (fun c_3 => ?_)
      · have t_3 := b2i_t c_3
        refine lv_aload_n hx hb dX8_readsPole_70 rfl (lv_at hl 1 rfl) ?_
        refine lv_dup hx hb dX8_readsPole_71 rfl ?_
        refine g8_141 ha hP 0 (by decide) (cM_0 G _) (v := .int ((w_str (mU (mU (w_fig (mU σ 0 7 ((σ 0 7) + 1)) 1) 15 (ix ((w_fig (mU σ 0 7 ((σ 0 7) + 1)) 1) 0 10)) (b_kindM (b_here σ))) 16 (ix ((w_fig (mU σ 0 7 ((σ 0 7) + 1)) 1) 0 10)) (b_last (mU (w_fig (mU σ 0 7 ((σ 0 7) + 1)) 1) 15 (ix ((w_fig (mU σ 0 7 ((σ 0 7) + 1)) 1) 0 10)) (b_kindM (b_here σ)))))) 0 10)) rfl dX8_readsPole_72 ?_
        refine lv_iconst (v := 1) hx hb dX8_readsPole_75 (by decide) ?_
        refine lv_iadd hx hb dX8_readsPole_76 ?_
        refine p8_141 ha hP hS (cM_loc G) 0 (by decide) (cM_0 G _) (x := (((w_str (mU (mU (w_fig (mU σ 0 7 ((σ 0 7) + 1)) 1) 15 (ix ((w_fig (mU σ 0 7 ((σ 0 7) + 1)) 1) 0 10)) (b_kindM (b_here σ))) 16 (ix ((w_fig (mU σ 0 7 ((σ 0 7) + 1)) 1) 0 10)) (b_last (mU (w_fig (mU σ 0 7 ((σ 0 7) + 1)) 1) 15 (ix ((w_fig (mU σ 0 7 ((σ 0 7) + 1)) 1) 0 10)) (b_kindM (b_here σ)))))) 0 10) + 1)) (Nat.le_of_ble_eq_true rfl) (mU (w_str (mU (mU (w_fig (mU σ 0 7 ((σ 0 7) + 1)) 1) 15 (ix ((w_fig (mU σ 0 7 ((σ 0 7) + 1)) 1) 0 10)) (b_kindM (b_here σ))) 16 (ix ((w_fig (mU σ 0 7 ((σ 0 7) + 1)) 1) 0 10)) (b_last (mU (w_fig (mU σ 0 7 ((σ 0 7) + 1)) 1) 15 (ix ((w_fig (mU σ 0 7 ((σ 0 7) + 1)) 1) 0 10)) (b_kindM (b_here σ)))))) 0 10 (((w_str (mU (mU (w_fig (mU σ 0 7 ((σ 0 7) + 1)) 1) 15 (ix ((w_fig (mU σ 0 7 ((σ 0 7) + 1)) 1) 0 10)) (b_kindM (b_here σ))) 16 (ix ((w_fig (mU σ 0 7 ((σ 0 7) + 1)) 1) 0 10)) (b_last (mU (w_fig (mU σ 0 7 ((σ 0 7) + 1)) 1) 15 (ix ((w_fig (mU σ 0 7 ((σ 0 7) + 1)) 1) 0 10)) (b_kindM (b_here σ)))))) 0 10) + 1)) (fun q hq => mU_n _ _ _ hq) (cM_p0_10 G _ _) dX8_readsPole_77 (fun H locs hP hS => ?_)
        refine lv_iconst (v := 1) hx hb dX8_readsPole_80 (by decide) ?_
        exact xzret ha hP hS rfl dX8_readsPole_81 ⟨by simp [b_rp, zp3, zp2, zp1, inc7, c_1, t_2, t_3, b2i], (by simp [w_rp, zp3, zp2, zp1, inc7, c_1, t_2, t_3])⟩ rfl
      · have t_3 := b2i_f c_3
        refine lv_iconst (v := 0) hx hb dX8_readsPole_68 (by decide) ?_
        exact xzret ha hP hS rfl dX8_readsPole_69 ⟨by simp [b_rp, zp3, zp2, zp1, inc7, c_1, t_2, t_3, b2i], (by simp [w_rp, zp3, zp2, zp1, inc7, c_1, t_2, t_3])⟩ rfl
    · have t_2 := b2i_f c_2
      refine lv_iconst (v := 0) hx hb dX8_readsPole_36 (by decide) ?_
      exact xzret ha hP hS rfl dX8_readsPole_37 ⟨by simp [b_rp, zp3, zp2, zp1, inc7, c_1, t_2, b2i], (by simp [w_rp, zp3, zp2, zp1, inc7, c_1, t_2])⟩ rfl
  · have t_1 := i_eq c_1
    refine lv_iconst (v := 0) hx hb dX8_readsPole_8 (by decide) ?_
    exact xzret ha hP hS rfl dX8_readsPole_9 ⟨by simp [b_rp, zp3, zp2, zp1, inc7, c_1, b2i], (by simp [w_rp, zp3, zp2, zp1, inc7, c_1])⟩ rfl
set_option maxHeartbeats 4000000 in
set_option maxRecDepth 100000 in
theorem c_X8_readsOne (G : GT) (l : Launch) (σ : Mem)  (hrh : RH σ) (hlt : (σ 0 7).toInt < (σ 0 8).toInt) : CI G 24 (cM G) l yX8_readsOne ({ frames := 2, cells := 0, slots := 0, locals := 46 } : Room) cX8_readsOne 1 (some .boolean) [.ref (G.1 0)] σ (fun (r : Int32) u => r = b2i (b_ro σ) ∧ u = w_ro σ) := by
  intro sz
  refine xbegin (by decide) (Nat.le_of_ble_eq_true rfl) ?_
  intro p e s m below meth c ls hsz ha hP hl
  subst hsz
  have hx := ha.1
  have hb := ha.2.1
  have hS : va_S (xA G 24 s.heap.size) s.heap s.heap [] := va_S.rf
  have hl : lv_has ls 1 [(0, .ref (G.1 0))] := hl
  have k_0 : (0 : Int32).toInt = 0 := by decide
  have k_1 : (1 : Int32).toInt = 1 := by decide
  have k_4 : (4 : Int32).toInt = 4 := by decide
  have k_5 : (5 : Int32).toInt = 5 := by decide
  have k_6 : (6 : Int32).toInt = 6 := by decide
  have hrhx := hrh
  obtain ⟨q1, q2, q3, q4, q5, q6, q7, q8, q9⟩ := hrhx
  refine lv_aload_n hx hb dX8_readsOne_0 rfl (lv_at hl 0 rfl) ?_
  refine g8_151 ha hP 0 (by decide) (cM_0 G _) (v := .int (σ 0 11)) rfl dX8_readsOne_1 ?_
  refine lv_iconst (v := 5) hx hb dX8_readsOne_4 (by decide) ?_
  refine lv_icmp_ne (tgt := 10) hx hb dX8_readsOne_5 (by decide) (fun c_1 => ?_) (fun c_1 => ?_)
  · have t_1 := i_ne c_1
    refine lv_aload_n hx hb dX8_readsOne_10 rfl (lv_at hl 0 rfl) ?_
    refine lv_dup hx hb dX8_readsOne_11 rfl ?_
    refine g8_120 ha hP 0 (by decide) (cM_0 G _) (v := .int (σ 0 7)) rfl dX8_readsOne_12 ?_
    refine lv_iconst (v := 1) hx hb dX8_readsOne_15 (by decide) ?_
    refine lv_iadd hx hb dX8_readsOne_16 ?_
    refine p8_120 ha hP hS (cM_loc G) 0 (by decide) (cM_0 G _) (x := ((σ 0 7) + 1)) (Nat.le_of_ble_eq_true rfl) (mU σ 0 7 ((σ 0 7) + 1)) (fun q hq => mU_n _ _ _ hq) (cM_p0_7 G _ _) dX8_readsOne_17 (fun H locs hP hS => ?_)
    have hRLi : RQ (mU σ 0 7 ((σ 0 7) + 1)) := RQ_inc hrh hlt
    refine lv_aload_n hx hb dX8_readsOne_20 rfl (lv_at hl 0 rfl) ?_
    refine lv_iconst (v := 1) hx hb dX8_readsOne_21 (by decide) ?_
    refine xVi ha hP hS (y := yX8_isFigure) (As := [.int 1]) (rest := []) 0 (by decide) (cM_0 G _) rfl rfl (c_X8_isFigure G l (mU σ 0 7 ((σ 0 7) + 1)) 1 hRLi.1 (by decide)) kw_X8_135 hd_X8_isFigure rfl ⟨rfl, rfl⟩ ⟨Nat.le_of_ble_eq_true rfl, Nat.le_of_ble_eq_true rfl⟩ ⟨Nat.zero_le _, Nat.zero_le _⟩ hl.1 (Nat.le_of_ble_eq_true rfl) rfl dX8_readsOne_22 (fun r u H locs hpq hP hS => ?_)
    obtain ⟨hr_, hu_⟩ := hpq
    have hr_ := hr_.symm
    have hu_ := hu_.symm
    subst hr_
    subst hu_
    refine lv_if_ne (tgt := 30) hx hb dX8_readsOne_25 (by decide) (fun c_2 => ?_) (fun c_2 => ?_)
    · have t_2 := b2i_t c_2
      have hRL1 : RQ (w_fig (mU σ 0 7 ((σ 0 7) + 1)) 1) := RQ_fig (by decide) hRLi.1 t_2
      have e11 : (w_fig (mU σ 0 7 ((σ 0 7) + 1)) 1) 0 11 = σ 0 11 := by simp [w_fig_n, mU_e]
      have i11 := i_eq e11
      refine lv_aload_n hx hb dX8_readsOne_30 rfl (lv_at hl 0 rfl) ?_
      refine g8_65 ha hP 0 (by decide) (cM_0 G _) (v := .ref (G.1 18)) rfl dX8_readsOne_31 ?_
      refine lv_aload_n hx hb dX8_readsOne_34 rfl (lv_at hl 0 rfl) ?_
      refine g8_151 ha hP 0 (by decide) (cM_0 G _) (v := .int ((w_fig (mU σ 0 7 ((σ 0 7) + 1)) 1) 0 11)) rfl dX8_readsOne_35 ?_
      refine lv_aload_n hx hb dX8_readsOne_38 rfl (lv_at hl 0 rfl) ?_
      refine xVi ha hP hS (y := yX8_last) (As := []) (rest := [.int ((w_fig (mU σ 0 7 ((σ 0 7) + 1)) 1) 0 11), .ref (G.1 18)]) 0 (by decide) (cM_0 G _) rfl rfl (c_X8_last G l (w_fig (mU σ 0 7 ((σ 0 7) + 1)) 1)  hRL1) kw_X8_138 hd_X8_last rfl ⟨rfl, rfl⟩ ⟨Nat.le_of_ble_eq_true rfl, Nat.le_of_ble_eq_true rfl⟩ ⟨Nat.zero_le _, Nat.zero_le _⟩ hl.1 (Nat.le_of_ble_eq_true rfl) rfl dX8_readsOne_39 (fun r u H locs hpq hP hS => ?_)
      obtain ⟨hr_, hu_⟩ := hpq
      have hr_ := hr_.symm
      have hu_ := hu_.symm
      subst hr_
      subst hu_
      refine xiastN ha hP hS (cM_loc G) 18 (by decide) (fun τ => cM_18 G τ) (ix ((w_fig (mU σ 0 7 ((σ 0 7) + 1)) 1) 0 11)) (ix_nI (by omega)) (ix_lt (by omega) (by omega)) (by decide) dX8_readsOne_42 (fun H locs hP hS => ?_)
      refine lv_aload_n hx hb dX8_readsOne_43 rfl (lv_at hl 0 rfl) ?_
      refine lv_iconst (v := 0) hx hb dX8_readsOne_44 (by decide) ?_
      refine xVi ha hP hS (y := yX8_isFigure) (As := [.int 0]) (rest := []) 0 (by decide) (cM_0 G _) rfl rfl (c_X8_isFigure G l (mU (w_fig (mU σ 0 7 ((σ 0 7) + 1)) 1) 18 (ix ((w_fig (mU σ 0 7 ((σ 0 7) + 1)) 1) 0 11)) (b_last (w_fig (mU σ 0 7 ((σ 0 7) + 1)) 1))) 0 (RH_mU hRL1.1 (by decide)) (by decide)) kw_X8_135 hd_X8_isFigure rfl ⟨rfl, rfl⟩ ⟨Nat.le_of_ble_eq_true rfl, Nat.le_of_ble_eq_true rfl⟩ ⟨Nat.zero_le _, Nat.zero_le _⟩ hl.1 (Nat.le_of_ble_eq_true rfl) rfl dX8_readsOne_45 (fun r u H locs hpq hP hS => ?_)
      obtain ⟨hr_, hu_⟩ := hpq
      have hr_ := hr_.symm
      have hu_ := hu_.symm
      subst hr_
      subst hu_
      refine lv_if_ne (tgt := 53) hx hb dX8_readsOne_48 (by decide) (fun c_3 => ?_) (fun c_3 => ?_)
      · have t_3 := b2i_t c_3
        have hRL3 : RQ (w_fig (mU (w_fig (mU σ 0 7 ((σ 0 7) + 1)) 1) 18 (ix ((w_fig (mU σ 0 7 ((σ 0 7) + 1)) 1) 0 11)) (b_last (w_fig (mU σ 0 7 ((σ 0 7) + 1)) 1))) 0) := RQ_fig (by decide) (RH_mU hRL1.1 (by decide)) t_3
        have e13 : (w_fig (mU (w_fig (mU σ 0 7 ((σ 0 7) + 1)) 1) 18 (ix ((w_fig (mU σ 0 7 ((σ 0 7) + 1)) 1) 0 11)) (b_last (w_fig (mU σ 0 7 ((σ 0 7) + 1)) 1))) 0) 0 11 = σ 0 11 := by simp [w_fig_n, mU_e]
        have i13 := i_eq e13
        refine lv_aload_n hx hb dX8_readsOne_53 rfl (lv_at hl 0 rfl) ?_
        refine g8_68 ha hP 0 (by decide) (cM_0 G _) (v := .ref (G.1 19)) rfl dX8_readsOne_54 ?_
        refine lv_aload_n hx hb dX8_readsOne_57 rfl (lv_at hl 0 rfl) ?_
        refine g8_151 ha hP 0 (by decide) (cM_0 G _) (v := .int ((w_fig (mU (w_fig (mU σ 0 7 ((σ 0 7) + 1)) 1) 18 (ix ((w_fig (mU σ 0 7 ((σ 0 7) + 1)) 1) 0 11)) (b_last (w_fig (mU σ 0 7 ((σ 0 7) + 1)) 1))) 0) 0 11)) rfl dX8_readsOne_58 ?_
        refine lv_aload_n hx hb dX8_readsOne_61 rfl (lv_at hl 0 rfl) ?_
        refine xVi ha hP hS (y := yX8_last) (As := []) (rest := [.int ((w_fig (mU (w_fig (mU σ 0 7 ((σ 0 7) + 1)) 1) 18 (ix ((w_fig (mU σ 0 7 ((σ 0 7) + 1)) 1) 0 11)) (b_last (w_fig (mU σ 0 7 ((σ 0 7) + 1)) 1))) 0) 0 11), .ref (G.1 19)]) 0 (by decide) (cM_0 G _) rfl rfl (c_X8_last G l (w_fig (mU (w_fig (mU σ 0 7 ((σ 0 7) + 1)) 1) 18 (ix ((w_fig (mU σ 0 7 ((σ 0 7) + 1)) 1) 0 11)) (b_last (w_fig (mU σ 0 7 ((σ 0 7) + 1)) 1))) 0)  hRL3) kw_X8_138 hd_X8_last rfl ⟨rfl, rfl⟩ ⟨Nat.le_of_ble_eq_true rfl, Nat.le_of_ble_eq_true rfl⟩ ⟨Nat.zero_le _, Nat.zero_le _⟩ hl.1 (Nat.le_of_ble_eq_true rfl) rfl dX8_readsOne_62 (fun r u H locs hpq hP hS => ?_)
        obtain ⟨hr_, hu_⟩ := hpq
        have hr_ := hr_.symm
        have hu_ := hu_.symm
        subst hr_
        subst hu_
        refine xiastN ha hP hS (cM_loc G) 19 (by decide) (fun τ => cM_19 G τ) (ix ((w_fig (mU (w_fig (mU σ 0 7 ((σ 0 7) + 1)) 1) 18 (ix ((w_fig (mU σ 0 7 ((σ 0 7) + 1)) 1) 0 11)) (b_last (w_fig (mU σ 0 7 ((σ 0 7) + 1)) 1))) 0) 0 11)) (ix_nI (by omega)) (ix_lt (by omega) (by omega)) (by decide) dX8_readsOne_65 (fun H locs hP hS => ?_)
        refine lv_aload_n hx hb dX8_readsOne_66 rfl (lv_at hl 0 rfl) ?_
        refine lv_dup hx hb dX8_readsOne_67 rfl ?_
        refine g8_151 ha hP 0 (by decide) (cM_0 G _) (v := .int ((w_fig (mU (w_fig (mU σ 0 7 ((σ 0 7) + 1)) 1) 18 (ix ((w_fig (mU σ 0 7 ((σ 0 7) + 1)) 1) 0 11)) (b_last (w_fig (mU σ 0 7 ((σ 0 7) + 1)) 1))) 0) 0 11)) rfl dX8_readsOne_68 ?_
        refine lv_iconst (v := 1) hx hb dX8_readsOne_71 (by decide) ?_
        refine lv_iadd hx hb dX8_readsOne_72 ?_
        refine p8_151 ha hP hS (cM_loc G) 0 (by decide) (cM_0 G _) (x := (((w_fig (mU (w_fig (mU σ 0 7 ((σ 0 7) + 1)) 1) 18 (ix ((w_fig (mU σ 0 7 ((σ 0 7) + 1)) 1) 0 11)) (b_last (w_fig (mU σ 0 7 ((σ 0 7) + 1)) 1))) 0) 0 11) + 1)) (Nat.le_of_ble_eq_true rfl) (mU (mU (w_fig (mU (w_fig (mU σ 0 7 ((σ 0 7) + 1)) 1) 18 (ix ((w_fig (mU σ 0 7 ((σ 0 7) + 1)) 1) 0 11)) (b_last (w_fig (mU σ 0 7 ((σ 0 7) + 1)) 1))) 0) 19 (ix ((w_fig (mU (w_fig (mU σ 0 7 ((σ 0 7) + 1)) 1) 18 (ix ((w_fig (mU σ 0 7 ((σ 0 7) + 1)) 1) 0 11)) (b_last (w_fig (mU σ 0 7 ((σ 0 7) + 1)) 1))) 0) 0 11)) (b_last (w_fig (mU (w_fig (mU σ 0 7 ((σ 0 7) + 1)) 1) 18 (ix ((w_fig (mU σ 0 7 ((σ 0 7) + 1)) 1) 0 11)) (b_last (w_fig (mU σ 0 7 ((σ 0 7) + 1)) 1))) 0))) 0 11 (((w_fig (mU (w_fig (mU σ 0 7 ((σ 0 7) + 1)) 1) 18 (ix ((w_fig (mU σ 0 7 ((σ 0 7) + 1)) 1) 0 11)) (b_last (w_fig (mU σ 0 7 ((σ 0 7) + 1)) 1))) 0) 0 11) + 1)) (fun q hq => mU_n _ _ _ hq) (cM_p0_11 G _ _) dX8_readsOne_73 (fun H locs hP hS => ?_)
        refine lv_iconst (v := 1) hx hb dX8_readsOne_76 (by decide) ?_
        exact xzret ha hP hS rfl dX8_readsOne_77 ⟨by simp [b_ro, zo2, zo1, inc7, c_1, t_2, t_3, b2i], (by simp [w_ro, zo4, zo3, zo2, zo1, inc7, c_1, t_2, t_3])⟩ rfl
      · have t_3 := b2i_f c_3
        refine lv_iconst (v := 0) hx hb dX8_readsOne_51 (by decide) ?_
        exact xzret ha hP hS rfl dX8_readsOne_52 ⟨by simp [b_ro, zo2, zo1, inc7, c_1, t_2, t_3, b2i], (by simp [w_ro, zo4, zo3, zo2, zo1, inc7, c_1, t_2, t_3])⟩ rfl
    · have t_2 := b2i_f c_2
      refine lv_iconst (v := 0) hx hb dX8_readsOne_28 (by decide) ?_
      exact xzret ha hP hS rfl dX8_readsOne_29 ⟨by simp [b_ro, zo2, zo1, inc7, c_1, t_2, b2i], (by simp [w_ro, zo4, zo3, zo2, zo1, inc7, c_1, t_2])⟩ rfl
  · have t_1 := i_eq c_1
    refine lv_iconst (v := 0) hx hb dX8_readsOne_8 (by decide) ?_
    exact xzret ha hP hS rfl dX8_readsOne_9 ⟨by simp [b_ro, zo2, zo1, inc7, c_1, b2i], (by simp [w_ro, zo4, zo3, zo2, zo1, inc7, c_1])⟩ rfl
set_option maxHeartbeats 4000000 in
set_option maxRecDepth 100000 in
theorem c_X8_reads (G : GT) (l : Launch) (σ : Mem) (ro : Int32) (ht : a_in ro 4 = true) (hrm : RM σ) : CI G 24 (cM G) l yX8_reads ({ frames := 4, cells := 0, slots := 0, locals := 89 } : Room) cX8_reads 3 (some .int) [.ref (G.1 0), .int ro] σ (fun (r : Int32) u => r = (n_reads σ ro).1 ∧ u = (n_reads σ ro).2) := by
  intro sz
  refine xbegin (by decide) (Nat.le_of_ble_eq_true rfl) ?_
  intro p e s m below meth c ls hsz ha hP hl
  subst hsz
  have hx := ha.1
  have hb := ha.2.1
  have hS : va_S (xA G 24 s.heap.size) s.heap s.heap [] := va_S.rf
  have hl : lv_has ls 3 [(0, .ref (G.1 0)), (1, .int ro)] := hl
  have k_m9 : (-9 : Int32).toInt = -9 := by decide
  have k_0 : (0 : Int32).toInt = 0 := by decide
  have k_1 : (1 : Int32).toInt = 1 := by decide
  have k_4 : (4 : Int32).toInt = 4 := by decide
  have k_5 : (5 : Int32).toInt = 5 := by decide
  have k_6 : (6 : Int32).toInt = 6 := by decide
  have k_32 : (32 : Int32).toInt = 32 := by decide
  have k_109 : (109 : Int32).toInt = 109 := by decide
  have hti := in_t ht
  have hr1 := hrm.2 (ix ro) (by have := ix_toInt (show (0 : Int) ≤ ro.toInt by omega); omega)
  refine lv_aload_n hx hb dX8_reads_0 rfl (lv_at hl 0 rfl) ?_
  refine lv_iload_n hx hb dX8_reads_1 rfl (lv_at hl 1 rfl) ?_
  refine p8_126 ha hP hS (cM_loc G) 0 (by decide) (cM_0 G _) (x := ro) (Nat.le_of_ble_eq_true rfl) (mU σ 0 9 ro) (fun q hq => mU_n _ _ _ hq) (cM_p0_9 G _ _) dX8_reads_2 (fun H locs hP hS => ?_)
  refine lv_aload_n hx hb dX8_reads_5 rfl (lv_at hl 0 rfl) ?_
  refine lv_aload_n hx hb dX8_reads_6 rfl (lv_at hl 0 rfl) ?_
  refine g8_19 ha hP 0 (by decide) (cM_0 G _) (v := .ref (G.1 4)) rfl dX8_reads_7 ?_
  refine lv_iload_n hx hb dX8_reads_10 rfl (lv_at hl 1 rfl) ?_
  refine xialdN ha hP 4 (by decide) (cM_4 G _) (ix ro) (ix_nI (by omega)) (ix_lt (by omega) (by omega)) (by decide) dX8_reads_11 ?_
  refine p8_123 ha hP hS (cM_loc G) 0 (by decide) (cM_0 G _) (x := ((mU σ 0 9 ro) 4 (ix ro))) (Nat.le_of_ble_eq_true rfl) (mU (mU σ 0 9 ro) 0 8 ((mU σ 0 9 ro) 4 (ix ro))) (fun q hq => mU_n _ _ _ hq) (cM_p0_8 G _ _) dX8_reads_12 (fun H locs hP hS => ?_)
  refine lv_aload_n hx hb dX8_reads_15 rfl (lv_at hl 0 rfl) ?_
  refine lv_iconst (v := 0) hx hb dX8_reads_16 (by decide) ?_
  refine p8_120 ha hP hS (cM_loc G) 0 (by decide) (cM_0 G _) (x := 0) (Nat.le_of_ble_eq_true rfl) (mU (mU (mU σ 0 9 ro) 0 8 ((mU σ 0 9 ro) 4 (ix ro))) 0 7 0) (fun q hq => mU_n _ _ _ hq) (cM_p0_7 G _ _) dX8_reads_17 (fun H locs hP hS => ?_)
  refine lv_aload_n hx hb dX8_reads_20 rfl (lv_at hl 0 rfl) ?_
  refine lv_iconst (v := 0) hx hb dX8_reads_21 (by decide) ?_
  refine p8_141 ha hP hS (cM_loc G) 0 (by decide) (cM_0 G _) (x := 0) (Nat.le_of_ble_eq_true rfl) (mU (mU (mU (mU σ 0 9 ro) 0 8 ((mU σ 0 9 ro) 4 (ix ro))) 0 7 0) 0 10 0) (fun q hq => mU_n _ _ _ hq) (cM_p0_10 G _ _) dX8_reads_22 (fun H locs hP hS => ?_)
  refine lv_aload_n hx hb dX8_reads_25 rfl (lv_at hl 0 rfl) ?_
  refine lv_iconst (v := 0) hx hb dX8_reads_26 (by decide) ?_
  refine p8_151 ha hP hS (cM_loc G) 0 (by decide) (cM_0 G _) (x := 0) (Nat.le_of_ble_eq_true rfl) (mU (mU (mU (mU (mU σ 0 9 ro) 0 8 ((mU σ 0 9 ro) 4 (ix ro))) 0 7 0) 0 10 0) 0 11 0) (fun q hq => mU_n _ _ _ hq) (cM_p0_11 G _ _) dX8_reads_27 (fun H locs hP hS => ?_)
  refine lv_iconst (v := 1) hx hb dX8_reads_30 (by decide) ?_
  refine lv_istore_n (lv' := [(2, .int 1), (0, .ref (G.1 0)), (1, .int ro)]) hx hb dX8_reads_31 rfl hl (by decide) rfl (fun ls hl => ?_)
  have lp_32 : ∀ (d j : Nat) (x2 : Int32) (σj : Mem) (H : Heap) (locs : List Loc) (ls : Array Slot), j ≤ 62 → 62 - j < d → x2 = x2 → (RH σj) → (¬ x2 = 0 → (j : Int) ≤ (σj 0 7).toInt) → (rdM d σj x2 = n_reads σ ro) → va_P G.2.1 vwCl (wl G 24 (cM G σj)) H → va_S (xA G 24 s.heap.size) s.heap H locs → lv_has ls 3 [(2, .int x2), (0, .ref (G.1 0)), (1, .int ro)] → W p l e ({ frames := 4, cells := 0, slots := 0, locals := 89 } : Room) s m ([.ref (G.1 0), .int ro] : List Value).toArray below meth c H locs 0 0 (MQ below (va_Qi (fun (r : Int32) u => r = (n_reads σ ro).1 ∧ u = (n_reads σ ro).2) (xB G 24 (cM G)) (xA G 24 s.heap.size)) ([.ref (G.1 0), .int ro] : List Value).toArray s 0 0 (xA G 24 s.heap.size)) (F0 m 32 ls []) := by
    intro d
    induction d with
    | zero => intro j x2 σj H locs ls hj hd; exact absurd hd (Nat.not_lt_zero _)
    | succ d ih_32 =>
      intro j x2 σj H locs ls hj_j hd_j e_x2 hrh hm hR hP hS hl
      refine lv_aload_n hx hb dX8_reads_32 rfl (lv_at hl 1 rfl) ?_
      refine g8_120 ha hP 0 (by decide) (cM_0 G _) (v := .int (σj 0 7)) rfl dX8_reads_33 ?_
      refine lv_aload_n hx hb dX8_reads_36 rfl (lv_at hl 1 rfl) ?_
      refine g8_123 ha hP 0 (by decide) (cM_0 G _) (v := .int (σj 0 8)) rfl dX8_reads_37 ?_
      refine lv_icmp_ge (tgt := 114) hx hb dX8_reads_40 (by decide) (fun c_1 => ?_) (fun c_1 => ?_)
      · have t_1 := i_le c_1
        have u_1 := u_le c_1
        refine lv_iload_n hx hb dX8_reads_114 rfl (lv_at hl 0 rfl) ?_
        refine lv_if_eq (tgt := 137) hx hb dX8_reads_115 (by decide) (fun c_2 => ?_) (fun c_2 => ?_)
        · have t_2 := i_eq c_2
          refine lv_aload_n hx hb dX8_reads_137 rfl (lv_at hl 1 rfl) ?_
          refine g8_120 ha hP 0 (by decide) (cM_0 G _) (v := .int (σj 0 7)) rfl dX8_reads_138 ?_
          exact xiret ha hP hS dX8_reads_141 ⟨by first | (exfalso; omega) | (rw [← hR, rdM]; simp [u_1, c_2, i_leN, -Int32.not_lt]), (by first | (exfalso; omega) | (rw [← hR, rdM]; simp [u_1, c_2, i_leN, -Int32.not_lt]))⟩ rfl
        · have t_2 := i_ne c_2
          refine lv_aload_n hx hb dX8_reads_118 rfl (lv_at hl 1 rfl) ?_
          refine g8_141 ha hP 0 (by decide) (cM_0 G _) (v := .int (σj 0 10)) rfl dX8_reads_119 ?_
          refine lv_if_le (tgt := 137) hx hb dX8_reads_122 (by decide) (fun c_3 => ?_) (fun c_3 => ?_)
          · have t_3 := i_le c_3
            have u_3 := u_le c_3
            refine lv_aload_n hx hb dX8_reads_137 rfl (lv_at hl 1 rfl) ?_
            refine g8_120 ha hP 0 (by decide) (cM_0 G _) (v := .int (σj 0 7)) rfl dX8_reads_138 ?_
            exact xiret ha hP hS dX8_reads_141 ⟨by first | (exfalso; omega) | (rw [← hR, rdM]; simp [u_1, c_2, u_3, i_leN, -Int32.not_lt]), (by first | (exfalso; omega) | (rw [← hR, rdM]; simp [u_1, c_2, u_3, i_leN, -Int32.not_lt]))⟩ rfl
          · have t_3 := i_nle c_3
            have u_3 := u_nle c_3
            refine lv_aload_n hx hb dX8_reads_125 rfl (lv_at hl 1 rfl) ?_
            refine g8_151 ha hP 0 (by decide) (cM_0 G _) (v := .int (σj 0 11)) rfl dX8_reads_126 ?_
            have jn_4 : ∀ x_4 : Int32, x_4 = (if 0 < (σj 0 11) then (-9) else (σj 0 7)) → W p l e ({ frames := 4, cells := 0, slots := 0, locals := 89 } : Room) s m ([.ref (G.1 0), .int ro] : List Value).toArray below meth c H locs 0 0 (MQ below (va_Qi (fun (r : Int32) u => r = (n_reads σ ro).1 ∧ u = (n_reads σ ro).2) (xB G 24 (cM G)) (xA G 24 s.heap.size)) ([.ref (G.1 0), .int ro] : List Value).toArray s 0 0 (xA G 24 s.heap.size)) (F0 m 141 ls [.int x_4]) := by
              intro x_4 ex_4
              exact xiret ha hP hS dX8_reads_141 ⟨by first | (exfalso; omega) | (rw [← hR, rdM]; simp [u_1, c_2, u_3, ex_4, i_leN, -Int32.not_lt]), (by first | (exfalso; omega) | (rw [← hR, rdM]; simp [u_1, c_2, u_3, ex_4, i_leN, -Int32.not_lt]))⟩ rfl
            refine lv_if_le (tgt := 137) hx hb dX8_reads_129 (by decide) (fun c_4 => ?_) (fun c_4 => ?_)
            · have t_4 := i_le c_4
              refine lv_aload_n hx hb dX8_reads_137 rfl (lv_at hl 1 rfl) ?_
              refine g8_120 ha hP 0 (by decide) (cM_0 G _) (v := .int (σj 0 7)) rfl dX8_reads_138 ?_
              exact jn_4 _ (if_neg (u_le c_4)).symm
            · have t_4 := i_nle c_4
              refine lv_bipush (v := (-9)) hx hb dX8_reads_132 (by decide) ?_
              refine lv_goto (tgt := 141) hx hb dX8_reads_134 (by decide) ?_
              exact jn_4 _ (if_pos (u_nle c_4)).symm
      · have t_1 := i_nle c_1
        have u_1 := u_nle c_1
        refine lv_iload_n hx hb dX8_reads_43 rfl (lv_at hl 0 rfl) ?_
        refine lv_if_eq (tgt := 114) hx hb dX8_reads_44 (by decide) (fun c_5 => ?_) (fun c_5 => ?_)
        · have t_5 := i_eq c_5
          refine lv_iload_n hx hb dX8_reads_114 rfl (lv_at hl 0 rfl) ?_
          refine lv_if_eq (tgt := 137) hx hb dX8_reads_115 (by decide) (fun c_6 => ?_) (fun c_6 => ?_)
          · have t_6 := i_eq c_6
            refine lv_aload_n hx hb dX8_reads_137 rfl (lv_at hl 1 rfl) ?_
            refine g8_120 ha hP 0 (by decide) (cM_0 G _) (v := .int (σj 0 7)) rfl dX8_reads_138 ?_
            exact xiret ha hP hS dX8_reads_141 ⟨by first | (exfalso; omega) | (rw [← hR, rdM]; simp [u_1, c_5, c_6, i_leN, -Int32.not_lt]), (by first | (exfalso; omega) | (rw [← hR, rdM]; simp [u_1, c_5, c_6, i_leN, -Int32.not_lt]))⟩ rfl
          · have t_6 := i_ne c_6
            refine lv_aload_n hx hb dX8_reads_118 rfl (lv_at hl 1 rfl) ?_
            refine g8_141 ha hP 0 (by decide) (cM_0 G _) (v := .int (σj 0 10)) rfl dX8_reads_119 ?_
            refine lv_if_le (tgt := 137) hx hb dX8_reads_122 (by decide) (fun c_7 => ?_) (fun c_7 => ?_)
            · have t_7 := i_le c_7
              have u_7 := u_le c_7
              refine lv_aload_n hx hb dX8_reads_137 rfl (lv_at hl 1 rfl) ?_
              refine g8_120 ha hP 0 (by decide) (cM_0 G _) (v := .int (σj 0 7)) rfl dX8_reads_138 ?_
              exact xiret ha hP hS dX8_reads_141 ⟨by first | (exfalso; omega) | (rw [← hR, rdM]; simp [u_1, c_5, c_6, u_7, i_leN, -Int32.not_lt]), (by first | (exfalso; omega) | (rw [← hR, rdM]; simp [u_1, c_5, c_6, u_7, i_leN, -Int32.not_lt]))⟩ rfl
            · have t_7 := i_nle c_7
              have u_7 := u_nle c_7
              refine lv_aload_n hx hb dX8_reads_125 rfl (lv_at hl 1 rfl) ?_
              refine g8_151 ha hP 0 (by decide) (cM_0 G _) (v := .int (σj 0 11)) rfl dX8_reads_126 ?_
              have jn_8 : ∀ x_8 : Int32, x_8 = (if 0 < (σj 0 11) then (-9) else (σj 0 7)) → W p l e ({ frames := 4, cells := 0, slots := 0, locals := 89 } : Room) s m ([.ref (G.1 0), .int ro] : List Value).toArray below meth c H locs 0 0 (MQ below (va_Qi (fun (r : Int32) u => r = (n_reads σ ro).1 ∧ u = (n_reads σ ro).2) (xB G 24 (cM G)) (xA G 24 s.heap.size)) ([.ref (G.1 0), .int ro] : List Value).toArray s 0 0 (xA G 24 s.heap.size)) (F0 m 141 ls [.int x_8]) := by
                intro x_8 ex_8
                exact xiret ha hP hS dX8_reads_141 ⟨by first | (exfalso; omega) | (rw [← hR, rdM]; simp [u_1, c_5, c_6, u_7, ex_8, i_leN, -Int32.not_lt]), (by first | (exfalso; omega) | (rw [← hR, rdM]; simp [u_1, c_5, c_6, u_7, ex_8, i_leN, -Int32.not_lt]))⟩ rfl
              refine lv_if_le (tgt := 137) hx hb dX8_reads_129 (by decide) (fun c_8 => ?_) (fun c_8 => ?_)
              · have t_8 := i_le c_8
                refine lv_aload_n hx hb dX8_reads_137 rfl (lv_at hl 1 rfl) ?_
                refine g8_120 ha hP 0 (by decide) (cM_0 G _) (v := .int (σj 0 7)) rfl dX8_reads_138 ?_
                exact jn_8 _ (if_neg (u_le c_8)).symm
              · have t_8 := i_nle c_8
                refine lv_bipush (v := (-9)) hx hb dX8_reads_132 (by decide) ?_
                refine lv_goto (tgt := 141) hx hb dX8_reads_134 (by decide) ?_
                exact jn_8 _ (if_pos (u_nle c_8)).symm
        · have t_5 := i_ne c_5
          refine lv_aload_n hx hb dX8_reads_47 rfl (lv_at hl 1 rfl) ?_
          refine xVi ha hP hS (y := yX8_here) (As := []) (rest := []) 0 (by decide) (cM_0 G _) rfl rfl (c_X8_here G l σj  hrh) kw_X8_129 hd_X8_here rfl ⟨rfl, rfl⟩ ⟨Nat.le_of_ble_eq_true rfl, Nat.le_of_ble_eq_true rfl⟩ ⟨Nat.zero_le _, Nat.zero_le _⟩ hl.1 (Nat.le_of_ble_eq_true rfl) rfl dX8_reads_48 (fun r u H locs hpq hP hS => ?_)
          obtain ⟨hr_, hu_⟩ := hpq
          have hr_ := hr_.symm
          have hu_ := hu_.symm
          subst hr_
          subst hu_
          refine lv_bipush (v := 32) hx hb dX8_reads_51 (by decide) ?_
          refine lv_icmp_ne (tgt := 69) hx hb dX8_reads_53 (by decide) (fun c_9 => ?_) (fun c_9 => ?_)
          · have t_9 := i_ne c_9
            refine lv_aload_n hx hb dX8_reads_69 rfl (lv_at hl 1 rfl) ?_
            refine xVi ha hP hS (y := yX8_here) (As := []) (rest := []) 0 (by decide) (cM_0 G _) rfl rfl (c_X8_here G l σj  hrh) kw_X8_129 hd_X8_here rfl ⟨rfl, rfl⟩ ⟨Nat.le_of_ble_eq_true rfl, Nat.le_of_ble_eq_true rfl⟩ ⟨Nat.zero_le _, Nat.zero_le _⟩ hl.1 (Nat.le_of_ble_eq_true rfl) rfl dX8_reads_70 (fun r u H locs hpq hP hS => ?_)
            obtain ⟨hr_, hu_⟩ := hpq
            have hr_ := hr_.symm
            have hu_ := hu_.symm
            subst hr_
            subst hu_
            refine lv_bipush (v := 109) hx hb dX8_reads_73 (by decide) ?_
            refine lv_icmp_ne (tgt := 86) hx hb dX8_reads_75 (by decide) (fun c_10 => ?_) (fun c_10 => ?_)
            · have t_10 := i_ne c_10
              refine lv_aload_n hx hb dX8_reads_86 rfl (lv_at hl 1 rfl) ?_
              refine xVi ha hP hS (y := yX8_here) (As := []) (rest := []) 0 (by decide) (cM_0 G _) rfl rfl (c_X8_here G l σj  hrh) kw_X8_129 hd_X8_here rfl ⟨rfl, rfl⟩ ⟨Nat.le_of_ble_eq_true rfl, Nat.le_of_ble_eq_true rfl⟩ ⟨Nat.zero_le _, Nat.zero_le _⟩ hl.1 (Nat.le_of_ble_eq_true rfl) rfl dX8_reads_87 (fun r u H locs hpq hP hS => ?_)
              obtain ⟨hr_, hu_⟩ := hpq
              have hr_ := hr_.symm
              have hu_ := hu_.symm
              subst hr_
              subst hu_
              refine xSi ha hP hS (y := yX8_kindOf) (As := [.int (b_here σj)]) (rest := []) rfl (c_X8_kindOf G l σj (b_here σj) ) kw_X8_144 hd_X8_kindOf rfl ⟨rfl, rfl⟩ ⟨Nat.le_of_ble_eq_true rfl, Nat.le_of_ble_eq_true rfl⟩ ⟨Nat.zero_le _, Nat.zero_le _⟩ hl.1 (Nat.le_of_ble_eq_true rfl) rfl dX8_reads_90 (fun r u H locs hpq hP hS => ?_)
              obtain ⟨hr_, hu_⟩ := hpq
              have hr_ := hr_.symm
              have hu_ := hu_.symm
              subst hr_
              subst hu_
              refine lv_bipush (v := (-9)) hx hb dX8_reads_93 (by decide) ?_
              refine lv_icmp_eq (tgt := 109) hx hb dX8_reads_95 (by decide) (fun c_11 => ?_) (fun c_11 => ?_)
              · have t_11 := i_eq c_11
                refine lv_iconst (v := 0) hx hb dX8_reads_109 (by decide) ?_
                refine lv_istore_n (lv' := [(2, .int 0), (0, .ref (G.1 0)), (1, .int ro)]) hx hb dX8_reads_110 rfl hl (by decide) rfl (fun ls hl => ?_)
                refine lv_goto (tgt := 32) hx hb dX8_reads_111 (by decide) ?_
                have hj62 : j < 61 := by have := hm (by assumption); have := hrh.2.2.1; omega
                exact ih_32 (j + 1) 0 σj _ _ _ (by omega) (by omega) rfl (by first | exact hrh | exact (RQ_inc hrh (by omega)).1 | exact (ro_ok hrh (by omega)).1 | exact (rp_ok hrh (by omega)).1) (fun h2 => by have h0 := hm (by assumption); first | (have := inc7_i hrh; unfold inc7 at this; omega) | (have := (ro_ok hrh (by omega)).2 (b2i_t h2); omega) | (rcases Bool.eq_false_or_eq_true (b_rp σj) with hb | hb; (have := (rp_ok hrh (by omega)).2 hb; omega); exact absurd (by simp [u_1, c_5, c_9, c_10, c_11, hb]) h2) | exact absurd rfl h2) (by rw [← hR, rdM]; simp [u_1, c_5, c_9, c_10, c_11, inc7, b2i, -Int32.not_lt]) hP hS (lv_sub hl [0, 1, 2] rfl)
              · have t_11 := i_ne c_11
                refine lv_aload_n hx hb dX8_reads_98 rfl (lv_at hl 1 rfl) ?_
                refine xVi ha hP hS (y := yX8_readsPole) (As := []) (rest := []) 0 (by decide) (cM_0 G _) rfl rfl (c_X8_readsPole G l σj  hrh (by first | assumption | omega)) kw_X8_157 hd_X8_readsPole rfl ⟨rfl, rfl⟩ ⟨Nat.le_of_ble_eq_true rfl, Nat.le_of_ble_eq_true rfl⟩ ⟨Nat.zero_le _, Nat.zero_le _⟩ hl.1 (Nat.le_of_ble_eq_true rfl) rfl dX8_reads_99 (fun r u H locs hpq hP hS => ?_)
                obtain ⟨hr_, hu_⟩ := hpq
                have hr_ := hr_.symm
                have hu_ := hu_.symm
                subst hr_
                subst hu_
                have jn_12 : ∀ x_12 : Int32, x_12 = (if (b_rp σj) = true then 1 else 0) → W p l e ({ frames := 4, cells := 0, slots := 0, locals := 89 } : Room) s m ([.ref (G.1 0), .int ro] : List Value).toArray below meth c H locs 0 0 (MQ below (va_Qi (fun (r : Int32) u => r = (n_reads σ ro).1 ∧ u = (n_reads σ ro).2) (xB G 24 (cM G)) (xA G 24 s.heap.size)) ([.ref (G.1 0), .int ro] : List Value).toArray s 0 0 (xA G 24 s.heap.size)) (F0 m 110 ls [.int x_12]) := by
                  intro x_12 ex_12
                  refine lv_istore_n (lv' := [(2, .int x_12), (0, .ref (G.1 0)), (1, .int ro)]) hx hb dX8_reads_110 rfl hl (by decide) rfl (fun ls hl => ?_)
                  refine lv_goto (tgt := 32) hx hb dX8_reads_111 (by decide) ?_
                  have hj62 : j < 61 := by have := hm (by assumption); have := hrh.2.2.1; omega
                  exact ih_32 (j + 1) x_12 (w_rp σj) _ _ _ (by omega) (by omega) rfl (by first | exact hrh | exact (RQ_inc hrh (by omega)).1 | exact (ro_ok hrh (by omega)).1 | exact (rp_ok hrh (by omega)).1) (fun h2 => by have h0 := hm (by assumption); first | (have := inc7_i hrh; unfold inc7 at this; omega) | (have := (ro_ok hrh (by omega)).2 (b2i_t h2); omega) | (rcases Bool.eq_false_or_eq_true (b_rp σj) with hb | hb; (have := (rp_ok hrh (by omega)).2 hb; omega); exact absurd (by simp [u_1, c_5, c_9, c_10, c_11, ex_12, hb]) h2) | exact absurd rfl h2) (by rw [← hR, rdM]; simp [u_1, c_5, c_9, c_10, c_11, ex_12, inc7, b2i, -Int32.not_lt]) hP hS (lv_sub hl [0, 1, 2] rfl)
                refine lv_if_eq (tgt := 109) hx hb dX8_reads_102 (by decide) (fun c_12 => ?_) (fun c_12 => ?_)
                · have t_12 := b2i_f c_12
                  refine lv_iconst (v := 0) hx hb dX8_reads_109 (by decide) ?_
                  exact jn_12 _ (if_neg (Bool.eq_false_iff.mp t_12)).symm
                · have t_12 := b2i_t c_12
                  refine lv_iconst (v := 1) hx hb dX8_reads_105 (by decide) ?_
                  refine lv_goto (tgt := 110) hx hb dX8_reads_106 (by decide) ?_
                  exact jn_12 _ (if_pos t_12).symm
            · have t_10 := i_eq c_10
              refine lv_aload_n hx hb dX8_reads_78 rfl (lv_at hl 1 rfl) ?_
              refine xVi ha hP hS (y := yX8_readsOne) (As := []) (rest := []) 0 (by decide) (cM_0 G _) rfl rfl (c_X8_readsOne G l σj  hrh (by first | assumption | omega)) kw_X8_154 hd_X8_readsOne rfl ⟨rfl, rfl⟩ ⟨Nat.le_of_ble_eq_true rfl, Nat.le_of_ble_eq_true rfl⟩ ⟨Nat.zero_le _, Nat.zero_le _⟩ hl.1 (Nat.le_of_ble_eq_true rfl) rfl dX8_reads_79 (fun r u H locs hpq hP hS => ?_)
              obtain ⟨hr_, hu_⟩ := hpq
              have hr_ := hr_.symm
              have hu_ := hu_.symm
              subst hr_
              subst hu_
              refine lv_istore_n (lv' := [(2, .int (b2i (b_ro σj))), (0, .ref (G.1 0)), (1, .int ro)]) hx hb dX8_reads_82 rfl hl (by decide) rfl (fun ls hl => ?_)
              refine lv_goto (tgt := 32) hx hb dX8_reads_83 (by decide) ?_
              have hj62 : j < 61 := by have := hm (by assumption); have := hrh.2.2.1; omega
              exact ih_32 (j + 1) (b2i (b_ro σj)) (w_ro σj) _ _ _ (by omega) (by omega) rfl (by first | exact hrh | exact (RQ_inc hrh (by omega)).1 | exact (ro_ok hrh (by omega)).1 | exact (rp_ok hrh (by omega)).1) (fun h2 => by have h0 := hm (by assumption); first | (have := inc7_i hrh; unfold inc7 at this; omega) | (have := (ro_ok hrh (by omega)).2 (b2i_t h2); omega) | (rcases Bool.eq_false_or_eq_true (b_rp σj) with hb | hb; (have := (rp_ok hrh (by omega)).2 hb; omega); exact absurd (by simp [u_1, c_5, c_9, c_10, hb]) h2) | exact absurd rfl h2) (by rw [← hR, rdM]; simp [u_1, c_5, c_9, c_10, inc7, b2i, -Int32.not_lt]) hP hS (lv_sub hl [0, 1, 2] rfl)
          · have t_9 := i_eq c_9
            refine lv_aload_n hx hb dX8_reads_56 rfl (lv_at hl 1 rfl) ?_
            refine lv_dup hx hb dX8_reads_57 rfl ?_
            refine g8_120 ha hP 0 (by decide) (cM_0 G _) (v := .int (σj 0 7)) rfl dX8_reads_58 ?_
            refine lv_iconst (v := 1) hx hb dX8_reads_61 (by decide) ?_
            refine lv_iadd hx hb dX8_reads_62 ?_
            refine p8_120 ha hP hS (cM_loc G) 0 (by decide) (cM_0 G _) (x := ((σj 0 7) + 1)) (Nat.le_of_ble_eq_true rfl) (mU σj 0 7 ((σj 0 7) + 1)) (fun q hq => mU_n _ _ _ hq) (cM_p0_7 G _ _) dX8_reads_63 (fun H locs hP hS => ?_)
            refine lv_goto (tgt := 32) hx hb dX8_reads_66 (by decide) ?_
            have hj62 : j < 61 := by have := hm (by assumption); have := hrh.2.2.1; omega
            exact ih_32 (j + 1) x2 (mU σj 0 7 ((σj 0 7) + 1)) _ _ _ (by omega) (by omega) rfl (by first | exact hrh | exact (RQ_inc hrh (by omega)).1 | exact (ro_ok hrh (by omega)).1 | exact (rp_ok hrh (by omega)).1) (fun h2 => by have h0 := hm (by assumption); first | (have := inc7_i hrh; unfold inc7 at this; omega) | (have := (ro_ok hrh (by omega)).2 (b2i_t h2); omega) | (rcases Bool.eq_false_or_eq_true (b_rp σj) with hb | hb; (have := (rp_ok hrh (by omega)).2 hb; omega); exact absurd (by simp [u_1, c_5, c_9, hb]) h2) | exact absurd rfl h2) (by rw [← hR, rdM]; simp [u_1, c_5, c_9, inc7, b2i, -Int32.not_lt]) hP hS (lv_sub hl [0, 1, 2] rfl)
  exact lp_32 (62 - 0 + 1) 0 1 (mU (mU (mU (mU (mU σ 0 9 ro) 0 8 ((mU σ 0 9 ro) 4 (ix ro))) 0 7 0) 0 10 0) 0 11 0) _ _ _ (by omega) (by omega) rfl (RH_0 (by omega) (by omega) hr1) (fun _ => by simp [mU_e]) rfl hP hS (lv_sub hl [0, 1, 2] rfl)
set_option maxHeartbeats 4000000 in
set_option maxRecDepth 100000 in
theorem c_X8_fault (G : GT) (l : Launch) (σ : Mem) (ro : Int32) (hrm : RM σ) : CI G 24 (cM G) l yX8_fault ({ frames := 5, cells := 0, slots := 0, locals := 111 } : Room) cX8_fault 2 (some .int) [.ref (G.1 0), .int ro] σ (fun (r : Int32) u => r = (n_fault σ ro).1 ∧ u = (n_fault σ ro).2) := by
  intro sz
  refine xbegin (by decide) (Nat.le_of_ble_eq_true rfl) ?_
  intro p e s m below meth c ls hsz ha hP hl
  subst hsz
  have hx := ha.1
  have hb := ha.2.1
  have hS : va_S (xA G 24 s.heap.size) s.heap s.heap [] := va_S.rf
  have hl : lv_has ls 2 [(0, .ref (G.1 0)), (1, .int ro)] := hl
  have k_m1 : (-1 : Int32).toInt = -1 := by decide
  have k_0 : (0 : Int32).toInt = 0 := by decide
  have k_1 : (1 : Int32).toInt = 1 := by decide
  have k_4 : (4 : Int32).toInt = 4 := by decide
  have k_5 : (5 : Int32).toInt = 5 := by decide
  have k_6 : (6 : Int32).toInt = 6 := by decide
  refine lv_iload_n hx hb dX8_fault_0 rfl (lv_at hl 1 rfl) ?_
  refine xSi ha hP hS (y := yX8_isText) (As := [.int ro]) (rest := []) rfl (c_X8_isText G l σ ro ) kw_X8_112 hd_X8_isText rfl ⟨rfl, rfl⟩ ⟨Nat.le_of_ble_eq_true rfl, Nat.le_of_ble_eq_true rfl⟩ ⟨Nat.zero_le _, Nat.zero_le _⟩ hl.1 (Nat.le_of_ble_eq_true rfl) rfl dX8_fault_1 (fun r u H locs hpq hP hS => ?_)
  obtain ⟨hr_, hu_⟩ := hpq
  have hr_ := hr_.symm
  have hu_ := hu_.symm
  subst hr_
  subst hu_
  refine lv_if_ne (tgt := 9) hx hb dX8_fault_4 (by decide) (fun c_1 => ?_) (fun c_1 => ?_)
  · have t_1 := b2i_t c_1
    have f_1 := in_t t_1
    refine lv_aload_n hx hb dX8_fault_9 rfl (lv_at hl 0 rfl) ?_
    refine g8_19 ha hP 0 (by decide) (cM_0 G _) (v := .ref (G.1 4)) rfl dX8_fault_10 ?_
    refine lv_iload_n hx hb dX8_fault_13 rfl (lv_at hl 1 rfl) ?_
    refine xialdN ha hP 4 (by decide) (cM_4 G _) (ix ro) (ix_nI (by omega)) (ix_lt (by omega) (by omega)) (by decide) dX8_fault_14 ?_
    refine lv_if_ge (tgt := 26) hx hb dX8_fault_15 (by decide) (fun c_2 => ?_) (fun c_2 => ?_)
    · have t_2 := i_le c_2
      have u_2 := u_le c_2
      refine lv_aload_n hx hb dX8_fault_26 rfl (lv_at hl 0 rfl) ?_
      refine lv_iload_n hx hb dX8_fault_27 rfl (lv_at hl 1 rfl) ?_
      refine xVi ha hP hS (y := yX8_reads) (As := [.int ro]) (rest := []) 0 (by decide) (cM_0 G _) rfl rfl (c_X8_reads G l σ ro (by first | assumption | omega) hrm) kw_X8_160 hd_X8_reads rfl ⟨rfl, rfl⟩ ⟨Nat.le_of_ble_eq_true rfl, Nat.le_of_ble_eq_true rfl⟩ ⟨Nat.zero_le _, Nat.zero_le _⟩ hl.1 (Nat.le_of_ble_eq_true rfl) rfl dX8_fault_28 (fun r u H locs hpq hP hS => ?_)
      obtain ⟨hr_, hu_⟩ := hpq
      have hr_ := hr_.symm
      have hu_ := hu_.symm
      subst hr_
      subst hu_
      exact xiret ha hP hS dX8_fault_31 ⟨by simp [n_fault, t_1, u_2, i_leN, -Int32.not_lt], (by simp [n_fault, t_1, u_2, i_leN, -Int32.not_lt])⟩ rfl
    · have t_2 := i_nle c_2
      have u_2 := u_nle c_2
      refine lv_aload_n hx hb dX8_fault_18 rfl (lv_at hl 0 rfl) ?_
      refine lv_iconst (v := 1) hx hb dX8_fault_19 (by decide) ?_
      refine xVi ha hP hS (y := yX8_found) (As := [.int 1]) (rest := []) 0 (by decide) (cM_0 G _) rfl rfl (c_X8_found G l σ 1 (by decide)) kw_X8_105 hd_X8_found rfl ⟨rfl, rfl⟩ ⟨Nat.le_of_ble_eq_true rfl, Nat.le_of_ble_eq_true rfl⟩ ⟨Nat.zero_le _, Nat.zero_le _⟩ hl.1 (Nat.le_of_ble_eq_true rfl) rfl dX8_fault_20 (fun r u H locs hpq hP hS => ?_)
      obtain ⟨hr_, hu_⟩ := hpq
      have hr_ := hr_.symm
      have hu_ := hu_.symm
      subst hr_
      subst hu_
      refine lv_goto (tgt := 31) hx hb dX8_fault_23 (by decide) ?_
      exact xiret ha hP hS dX8_fault_31 ⟨by simp [n_fault, t_1, u_2, i_leN, -Int32.not_lt], (by simp [n_fault, t_1, u_2, i_leN, -Int32.not_lt])⟩ rfl
  · have t_1 := b2i_f c_1
    refine lv_iconst (v := (-1)) hx hb dX8_fault_7 (by decide) ?_
    exact xiret ha hP hS dX8_fault_8 ⟨by simp [n_fault, t_1, i_leN, -Int32.not_lt], (by simp [n_fault, t_1, i_leN, -Int32.not_lt])⟩ rfl
set_option maxHeartbeats 4000000 in
set_option maxRecDepth 100000 in
theorem c_X8_nave (G : GT) (l : Launch) (σ : Mem) (ro : Int32) (hrm : RM σ) : CI G 24 (cM G) l yX8_nave ({ frames := 5, cells := 0, slots := 0, locals := 111 } : Room) cX8_nave 3 (some .int) [.ref (G.1 0), .int ro] σ (fun (r : Int32) u => r = (n_nave σ ro).1 ∧ u = (n_nave σ ro).2) := by
  intro sz
  refine xbegin (by decide) (Nat.le_of_ble_eq_true rfl) ?_
  intro p e s m below meth c ls hsz ha hP hl
  subst hsz
  have hx := ha.1
  have hb := ha.2.1
  have hS : va_S (xA G 24 s.heap.size) s.heap s.heap [] := va_S.rf
  have hl : lv_has ls 3 [(0, .ref (G.1 0)), (1, .int ro)] := hl
  have k_m9 : (-9 : Int32).toInt = -9 := by decide
  have k_m4 : (-4 : Int32).toInt = -4 := by decide
  have k_m1 : (-1 : Int32).toInt = -1 := by decide
  have k_0 : (0 : Int32).toInt = 0 := by decide
  have k_1 : (1 : Int32).toInt = 1 := by decide
  have k_4 : (4 : Int32).toInt = 4 := by decide
  have k_5 : (5 : Int32).toInt = 5 := by decide
  have k_6 : (6 : Int32).toInt = 6 := by decide
  refine lv_iload_n hx hb dX8_nave_0 rfl (lv_at hl 1 rfl) ?_
  refine xSi ha hP hS (y := yX8_isText) (As := [.int ro]) (rest := []) rfl (c_X8_isText G l σ ro ) kw_X8_112 hd_X8_isText rfl ⟨rfl, rfl⟩ ⟨Nat.le_of_ble_eq_true rfl, Nat.le_of_ble_eq_true rfl⟩ ⟨Nat.zero_le _, Nat.zero_le _⟩ hl.1 (Nat.le_of_ble_eq_true rfl) rfl dX8_nave_1 (fun r u H locs hpq hP hS => ?_)
  obtain ⟨hr_, hu_⟩ := hpq
  have hr_ := hr_.symm
  have hu_ := hu_.symm
  subst hr_
  subst hu_
  refine lv_if_ne (tgt := 9) hx hb dX8_nave_4 (by decide) (fun c_1 => ?_) (fun c_1 => ?_)
  · have t_1 := b2i_t c_1
    have f_1 := in_t t_1
    refine lv_aload_n hx hb dX8_nave_9 rfl (lv_at hl 0 rfl) ?_
    refine g8_19 ha hP 0 (by decide) (cM_0 G _) (v := .ref (G.1 4)) rfl dX8_nave_10 ?_
    refine lv_iload_n hx hb dX8_nave_13 rfl (lv_at hl 1 rfl) ?_
    refine xialdN ha hP 4 (by decide) (cM_4 G _) (ix ro) (ix_nI (by omega)) (ix_lt (by omega) (by omega)) (by decide) dX8_nave_14 ?_
    refine lv_if_ge (tgt := 24) hx hb dX8_nave_15 (by decide) (fun c_2 => ?_) (fun c_2 => ?_)
    · have t_2 := i_le c_2
      have u_2 := u_le c_2
      refine lv_aload_n hx hb dX8_nave_24 rfl (lv_at hl 0 rfl) ?_
      refine lv_iload_n hx hb dX8_nave_25 rfl (lv_at hl 1 rfl) ?_
      refine xVi ha hP hS (y := yX8_reads) (As := [.int ro]) (rest := []) 0 (by decide) (cM_0 G _) rfl rfl (c_X8_reads G l σ ro (by first | assumption | omega) hrm) kw_X8_160 hd_X8_reads rfl ⟨rfl, rfl⟩ ⟨Nat.le_of_ble_eq_true rfl, Nat.le_of_ble_eq_true rfl⟩ ⟨Nat.zero_le _, Nat.zero_le _⟩ hl.1 (Nat.le_of_ble_eq_true rfl) rfl dX8_nave_26 (fun r u H locs hpq hP hS => ?_)
      obtain ⟨hr_, hu_⟩ := hpq
      have hr_ := hr_.symm
      have hu_ := hu_.symm
      subst hr_
      subst hu_
      refine lv_bipush (v := (-9)) hx hb dX8_nave_29 (by decide) ?_
      refine lv_icmp_eq (tgt := 37) hx hb dX8_nave_31 (by decide) (fun c_3 => ?_) (fun c_3 => ?_)
      · have t_3 := i_eq c_3
        refine lv_aload_n hx hb dX8_nave_37 rfl (lv_at hl 0 rfl) ?_
        refine lv_aload_n hx hb dX8_nave_38 rfl (lv_at hl 0 rfl) ?_
        refine g8_141 ha hP 0 (by decide) (cM_0 G _) (v := .int (((n_reads σ ro).2) 0 10)) rfl dX8_nave_39 ?_
        refine p8_163 ha hP hS (cM_loc G) 0 (by decide) (cM_0 G _) (x := (((n_reads σ ro).2) 0 10)) (Nat.le_of_ble_eq_true rfl) (mU ((n_reads σ ro).2) 0 4 (((n_reads σ ro).2) 0 10)) (fun q hq => mU_n _ _ _ hq) (cM_p0_4 G _ _) dX8_nave_42 (fun H locs hP hS => ?_)
        refine lv_aload_n hx hb dX8_nave_45 rfl (lv_at hl 0 rfl) ?_
        refine lv_aload_n hx hb dX8_nave_46 rfl (lv_at hl 0 rfl) ?_
        refine g8_151 ha hP 0 (by decide) (cM_0 G _) (v := .int (((n_reads σ ro).2) 0 11)) rfl dX8_nave_47 ?_
        refine p8_166 ha hP hS (cM_loc G) 0 (by decide) (cM_0 G _) (x := (((n_reads σ ro).2) 0 11)) (Nat.le_of_ble_eq_true rfl) (mU (mU ((n_reads σ ro).2) 0 4 (((n_reads σ ro).2) 0 10)) 0 5 (((n_reads σ ro).2) 0 11)) (fun q hq => mU_n _ _ _ hq) (cM_p0_5 G _ _) dX8_nave_50 (fun H locs hP hS => ?_)
        refine lv_iconst (v := 0) hx hb dX8_nave_53 (by decide) ?_
        refine lv_istore_n (lv' := [(2, .int 0), (0, .ref (G.1 0)), (1, .int ro)]) hx hb dX8_nave_54 rfl hl (by decide) rfl (fun ls hl => ?_)
        have lp_55 : ∀ (d j : Nat) (σj : Mem) (H : Heap) (locs : List Loc) (ls : Array Slot), j ≤ 4 → 4 - j < d → σj = cp3 (mU (mU (n_reads σ ro).2 0 4 ((n_reads σ ro).2 0 10)) 0 5 ((n_reads σ ro).2 0 11)) j → va_P G.2.1 vwCl (wl G 24 (cM G σj)) H → va_S (xA G 24 s.heap.size) s.heap H locs → lv_has ls 3 [(2, .int (nI j)), (0, .ref (G.1 0)), (1, .int ro)] → W p l e ({ frames := 5, cells := 0, slots := 0, locals := 111 } : Room) s m ([.ref (G.1 0), .int ro] : List Value).toArray below meth c H locs 0 0 (MQ below (va_Qi (fun (r : Int32) u => r = (n_nave σ ro).1 ∧ u = (n_nave σ ro).2) (xB G 24 (cM G)) (xA G 24 s.heap.size)) ([.ref (G.1 0), .int ro] : List Value).toArray s 0 0 (xA G 24 s.heap.size)) (F0 m 55 ls []) := by
          intro d
          induction d with
          | zero => intro j σj H locs ls hj hd; exact absurd hd (Nat.not_lt_zero _)
          | succ d ih_55 =>
            intro j σj H locs ls hj_j hd_j e_σj hP hS hl
            have h31_j : (nI j).toInt = (j : Int) := nI_toInt (by omega)
            refine lv_iload_n hx hb dX8_nave_55 rfl (lv_at hl 0 rfl) ?_
            refine lv_iconst (v := 4) hx hb dX8_nave_56 (by decide) ?_
            refine lv_icmp_ge (tgt := 102) hx hb dX8_nave_57 (by decide) (fun c_4 => ?_) (fun c_4 => ?_)
            · have t_4 := i_le c_4
              have u_4 := u_le c_4
              obtain rfl : j = 4 := by omega
              refine lv_iconst (v := 0) hx hb dX8_nave_102 (by decide) ?_
              refine lv_istore_n (lv' := [(2, .int 0), (0, .ref (G.1 0)), (1, .int ro)]) hx hb dX8_nave_103 rfl hl (by decide) rfl (fun ls hl => ?_)
              have lp_104 : ∀ (d j1 : Nat) (τj : Mem) (H : Heap) (locs : List Loc) (ls : Array Slot), j1 ≤ 5 → 5 - j1 < d → τj = cp2 (cp3 (mU (mU (n_reads σ ro).2 0 4 ((n_reads σ ro).2 0 10)) 0 5 ((n_reads σ ro).2 0 11)) 4) j1 → va_P G.2.1 vwCl (wl G 24 (cM G τj)) H → va_S (xA G 24 s.heap.size) s.heap H locs → lv_has ls 3 [(2, .int (nI j1)), (0, .ref (G.1 0)), (1, .int ro)] → W p l e ({ frames := 5, cells := 0, slots := 0, locals := 111 } : Room) s m ([.ref (G.1 0), .int ro] : List Value).toArray below meth c H locs 0 0 (MQ below (va_Qi (fun (r : Int32) u => r = (n_nave σ ro).1 ∧ u = (n_nave σ ro).2) (xB G 24 (cM G)) (xA G 24 s.heap.size)) ([.ref (G.1 0), .int ro] : List Value).toArray s 0 0 (xA G 24 s.heap.size)) (F0 m 104 ls []) := by
                intro d
                induction d with
                | zero => intro j1 τj H locs ls hj hd; exact absurd hd (Nat.not_lt_zero _)
                | succ d ih_104 =>
                  intro j1 τj H locs ls hj_j1 hd_j1 e_τj hP hS hl
                  have h31_j1 : (nI j1).toInt = (j1 : Int) := nI_toInt (by omega)
                  refine lv_iload_n hx hb dX8_nave_104 rfl (lv_at hl 0 rfl) ?_
                  refine lv_iconst (v := 5) hx hb dX8_nave_105 (by decide) ?_
                  refine lv_icmp_ge (tgt := 139) hx hb dX8_nave_106 (by decide) (fun c_5 => ?_) (fun c_5 => ?_)
                  · have t_5 := i_le c_5
                    have u_5 := u_le c_5
                    obtain rfl : j1 = 5 := by omega
                    refine lv_aload_n hx hb dX8_nave_139 rfl (lv_at hl 1 rfl) ?_
                    refine xVv ha hP hS (y := yX8_begins) (As := []) (rest := []) 0 (by decide) (cM_0 G _) rfl rfl (c_X8_begins G l τj  ) kw_X8_83 hd_X8_begins rfl ⟨rfl, rfl⟩ ⟨Nat.le_of_ble_eq_true rfl, Nat.le_of_ble_eq_true rfl⟩ ⟨Nat.zero_le _, Nat.zero_le _⟩ hl.1 (Nat.le_of_ble_eq_true rfl) rfl dX8_nave_140 (fun u H locs hpq hP hS => ?_)
                    have hpq := hpq.symm
                    subst hpq
                    refine lv_aload_n hx hb dX8_nave_143 rfl (lv_at hl 1 rfl) ?_
                    refine g8_163 ha hP 0 (by decide) (cM_0 G _) (v := .int ((w_begins τj) 0 4)) rfl dX8_nave_144 ?_
                    exact xiret ha hP hS dX8_nave_147 ⟨by rw [e_τj, nv_4]; simp [n_nave, t_1, u_2, c_3, u_4, u_5], (by rw [e_τj]; simp [n_nave, nvM, t_1, u_2, c_3, u_4, u_5])⟩ rfl
                  · have t_5 := i_nle c_5
                    have u_5 := u_nle c_5
                    have hlt_j1 : j1 < 5 := by omega
                    refine lv_aload_n hx hb dX8_nave_109 rfl (lv_at hl 1 rfl) ?_
                    refine g8_38 ha hP 0 (by decide) (cM_0 G _) (v := .ref (G.1 9)) rfl dX8_nave_110 ?_
                    refine lv_iload_n hx hb dX8_nave_113 rfl (lv_at hl 0 rfl) ?_
                    refine lv_aload_n hx hb dX8_nave_114 rfl (lv_at hl 1 rfl) ?_
                    refine g8_65 ha hP 0 (by decide) (cM_0 G _) (v := .ref (G.1 18)) rfl dX8_nave_115 ?_
                    refine lv_iload_n hx hb dX8_nave_118 rfl (lv_at hl 0 rfl) ?_
                    refine xialdN ha hP 18 (by decide) (cM_18 G _) j1 rfl (by omega) (by decide) dX8_nave_119 ?_
                    refine xiastN ha hP hS (cM_loc G) 9 (by decide) (fun τ => cM_9 G τ) j1 rfl (by omega) (by decide) dX8_nave_120 (fun H locs hP hS => ?_)
                    refine lv_aload_n hx hb dX8_nave_121 rfl (lv_at hl 1 rfl) ?_
                    refine g8_41 ha hP 0 (by decide) (cM_0 G _) (v := .ref (G.1 10)) rfl dX8_nave_122 ?_
                    refine lv_iload_n hx hb dX8_nave_125 rfl (lv_at hl 0 rfl) ?_
                    refine lv_aload_n hx hb dX8_nave_126 rfl (lv_at hl 1 rfl) ?_
                    refine g8_68 ha hP 0 (by decide) (cM_0 G _) (v := .ref (G.1 19)) rfl dX8_nave_127 ?_
                    refine lv_iload_n hx hb dX8_nave_130 rfl (lv_at hl 0 rfl) ?_
                    refine xialdN ha hP 19 (by decide) (cM_19 G _) j1 rfl (by omega) (by decide) dX8_nave_131 ?_
                    refine xiastN ha hP hS (cM_loc G) 10 (by decide) (fun τ => cM_10 G τ) j1 rfl (by omega) (by decide) dX8_nave_132 (fun H locs hP hS => ?_)
                    refine lv_iinc (v := (nI (j1 + 1))) (lv' := [(2, .int (nI (j1 + 1))), (0, .ref (G.1 0)), (1, .int ro)]) hx hb dX8_nave_133 hl (k := 0) rfl (nI_1 j1) (by decide) rfl (fun ls hl => ?_)
                    refine lv_goto (tgt := 104) hx hb dX8_nave_136 (by decide) ?_
                    exact ih_104 (j1 + 1) (mU (mU τj 9 j1 (τj 18 j1)) 10 j1 ((mU τj 9 j1 (τj 18 j1)) 19 j1)) _ _ _ (by omega) (by omega) (by rw [e_τj]; exact cp2_s _ _) hP hS (lv_sub hl [0, 1, 2] rfl)
              exact lp_104 (5 - 0 + 1) 0 σj _ _ _ (by omega) (by omega) (by rw [e_σj]; unfold cp2; rw [← mF_0, ← mF_0]) hP hS (lv_sub hl [0, 1, 2] rfl)
            · have t_4 := i_nle c_4
              have u_4 := u_nle c_4
              have hlt_j : j < 4 := by omega
              refine lv_aload_n hx hb dX8_nave_60 rfl (lv_at hl 1 rfl) ?_
              refine g8_29 ha hP 0 (by decide) (cM_0 G _) (v := .ref (G.1 6)) rfl dX8_nave_61 ?_
              refine lv_iload_n hx hb dX8_nave_64 rfl (lv_at hl 0 rfl) ?_
              refine lv_aload_n hx hb dX8_nave_65 rfl (lv_at hl 1 rfl) ?_
              refine g8_56 ha hP 0 (by decide) (cM_0 G _) (v := .ref (G.1 15)) rfl dX8_nave_66 ?_
              refine lv_iload_n hx hb dX8_nave_69 rfl (lv_at hl 0 rfl) ?_
              refine xialdN ha hP 15 (by decide) (cM_15 G _) j rfl (by omega) (by decide) dX8_nave_70 ?_
              refine xiastN ha hP hS (cM_loc G) 6 (by decide) (fun τ => cM_6 G τ) j rfl (by omega) (by decide) dX8_nave_71 (fun H locs hP hS => ?_)
              refine lv_aload_n hx hb dX8_nave_72 rfl (lv_at hl 1 rfl) ?_
              refine g8_32 ha hP 0 (by decide) (cM_0 G _) (v := .ref (G.1 7)) rfl dX8_nave_73 ?_
              refine lv_iload_n hx hb dX8_nave_76 rfl (lv_at hl 0 rfl) ?_
              refine lv_aload_n hx hb dX8_nave_77 rfl (lv_at hl 1 rfl) ?_
              refine g8_59 ha hP 0 (by decide) (cM_0 G _) (v := .ref (G.1 16)) rfl dX8_nave_78 ?_
              refine lv_iload_n hx hb dX8_nave_81 rfl (lv_at hl 0 rfl) ?_
              refine xialdN ha hP 16 (by decide) (cM_16 G _) j rfl (by omega) (by decide) dX8_nave_82 ?_
              refine xiastN ha hP hS (cM_loc G) 7 (by decide) (fun τ => cM_7 G τ) j rfl (by omega) (by decide) dX8_nave_83 (fun H locs hP hS => ?_)
              refine lv_aload_n hx hb dX8_nave_84 rfl (lv_at hl 1 rfl) ?_
              refine g8_35 ha hP 0 (by decide) (cM_0 G _) (v := .ref (G.1 8)) rfl dX8_nave_85 ?_
              refine lv_iload_n hx hb dX8_nave_88 rfl (lv_at hl 0 rfl) ?_
              refine lv_aload_n hx hb dX8_nave_89 rfl (lv_at hl 1 rfl) ?_
              refine g8_62 ha hP 0 (by decide) (cM_0 G _) (v := .ref (G.1 17)) rfl dX8_nave_90 ?_
              refine lv_iload_n hx hb dX8_nave_93 rfl (lv_at hl 0 rfl) ?_
              refine xialdN ha hP 17 (by decide) (cM_17 G _) j rfl (by omega) (by decide) dX8_nave_94 ?_
              refine xiastN ha hP hS (cM_loc G) 8 (by decide) (fun τ => cM_8 G τ) j rfl (by omega) (by decide) dX8_nave_95 (fun H locs hP hS => ?_)
              refine lv_iinc (v := (nI (j + 1))) (lv' := [(2, .int (nI (j + 1))), (0, .ref (G.1 0)), (1, .int ro)]) hx hb dX8_nave_96 hl (k := 0) rfl (nI_1 j) (by decide) rfl (fun ls hl => ?_)
              refine lv_goto (tgt := 55) hx hb dX8_nave_99 (by decide) ?_
              exact ih_55 (j + 1) (mU (mU (mU σj 6 j (σj 15 j)) 7 j ((mU σj 6 j (σj 15 j)) 16 j)) 8 j ((mU (mU σj 6 j (σj 15 j)) 7 j ((mU σj 6 j (σj 15 j)) 16 j)) 17 j)) _ _ _ (by omega) (by omega) (by rw [e_σj]; exact cp3_s _ _) hP hS (lv_sub hl [0, 1, 2] rfl)
        exact lp_55 (4 - 0 + 1) 0 (mU (mU ((n_reads σ ro).2) 0 4 (((n_reads σ ro).2) 0 10)) 0 5 (((n_reads σ ro).2) 0 11)) _ _ _ (by omega) (by omega) (by unfold cp3; rw [← mF_0, ← mF_0, ← mF_0]) hP hS (lv_sub hl [0, 1, 2] rfl)
      · have t_3 := i_ne c_3
        refine lv_bipush (v := (-4)) hx hb dX8_nave_34 (by decide) ?_
        exact xiret ha hP hS dX8_nave_36 ⟨by simp [n_nave, t_1, u_2, c_3, i_leN, -Int32.not_lt], (by simp [n_nave, t_1, u_2, c_3, i_leN, -Int32.not_lt])⟩ rfl
    · have t_2 := i_nle c_2
      have u_2 := u_nle c_2
      refine lv_aload_n hx hb dX8_nave_18 rfl (lv_at hl 0 rfl) ?_
      refine lv_iconst (v := 1) hx hb dX8_nave_19 (by decide) ?_
      refine xVi ha hP hS (y := yX8_found) (As := [.int 1]) (rest := []) 0 (by decide) (cM_0 G _) rfl rfl (c_X8_found G l σ 1 (by decide)) kw_X8_105 hd_X8_found rfl ⟨rfl, rfl⟩ ⟨Nat.le_of_ble_eq_true rfl, Nat.le_of_ble_eq_true rfl⟩ ⟨Nat.zero_le _, Nat.zero_le _⟩ hl.1 (Nat.le_of_ble_eq_true rfl) rfl dX8_nave_20 (fun r u H locs hpq hP hS => ?_)
      obtain ⟨hr_, hu_⟩ := hpq
      have hr_ := hr_.symm
      have hu_ := hu_.symm
      subst hr_
      subst hu_
      exact xiret ha hP hS dX8_nave_23 ⟨by simp [n_nave, t_1, u_2, i_leN, -Int32.not_lt], (by simp [n_nave, t_1, u_2, i_leN, -Int32.not_lt])⟩ rfl
  · have t_1 := b2i_f c_1
    refine lv_iconst (v := (-1)) hx hb dX8_nave_7 (by decide) ?_
    exact xiret ha hP hS dX8_nave_8 ⟨by simp [n_nave, t_1, i_leN, -Int32.not_lt], (by simp [n_nave, t_1, i_leN, -Int32.not_lt])⟩ rfl
