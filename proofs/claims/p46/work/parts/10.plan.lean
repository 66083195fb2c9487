theorem hd_X2_highOn : kHd yX2_highOn 2 := by decide +kernel
theorem hd_X2_isOne : kHd yX2_isOne 1 := by decide +kernel
theorem hd_X2_isPole : kHd yX2_isPole 1 := by decide +kernel
theorem hd_X2_loadBy : kHd yX2_loadBy 2 := by decide +kernel
theorem hd_X3_fill : kHd yX3_fill 2 := by decide +kernel
theorem hd_X3_has : kHd yX3_has 1 := by decide +kernel
theorem hd_X3_isMissing : kHd yX3_isMissing 0 := by decide +kernel
theorem hd_X4_bearsAs : kHd yX4_bearsAs 2 := by decide +kernel
theorem hd_X4_bearsNow : kHd yX4_bearsNow 1 := by decide +kernel
theorem hd_X4_isSeated : kHd yX4_isSeated 1 := by decide +kernel
theorem hd_X4_isUp : kHd yX4_isUp 1 := by decide +kernel
theorem hd_X4_loadOn : kHd yX4_loadOn 1 := by decide +kernel
theorem hd_X4_seatedOn : kHd yX4_seatedOn 1 := by decide +kernel
theorem hd_X4_stands : kHd yX4_stands 1 := by decide +kernel
theorem hd_X7_bearing : kHd yX7_bearing 4 := by decide +kernel
theorem hd_X7_isOfKind : kHd yX7_isOfKind 2 := by decide +kernel
theorem kw_X2_60 : ∀ w ∈ k5V RX2 60 yX2_isOne cX2_isOne 2 (some .boolean), w ∈ TB := tb_ins (by decide +kernel)
theorem kw_X2_64 : ∀ w ∈ k5V RX2 64 yX2_highOn cX2_highOn 3 (some .int), w ∈ TB := tb_ins (by decide +kernel)
theorem kw_X2_68 : ∀ w ∈ k5V RX2 68 yX2_isPole cX2_isPole 2 (some .boolean), w ∈ TB := tb_ins (by decide +kernel)
theorem kw_X2_71 : ∀ w ∈ k5N yX7_bearing cX7_bearing 7 (some .int), w ∈ TB := tb_ins (by decide +kernel)
theorem kw_X2_75 : ∀ w ∈ k5N yX7_isOfKind cX7_isOfKind 2 (some .boolean), w ∈ TB := tb_ins (by decide +kernel)
theorem kw_X3_19 : ∀ w ∈ k5V RX3 19 yX3_isMissing cX3_isMissing 1 (some .boolean), w ∈ TB := tb_ins (by decide +kernel)
theorem kw_X3_23 : ∀ w ∈ k5V RX3 23 yX3_has cX3_has 2 (some .boolean), w ∈ TB := tb_ins (by decide +kernel)
theorem kw_X4_98 : ∀ w ∈ k5V RX4 98 yX2_loadBy cX2_loadBy 3 (some .int), w ∈ TB := tb_ins (by decide +kernel)
theorem kw_X4_73 : ∀ w ∈ k5V RX4 73 yX2_isPole cX2_isPole 2 (some .boolean), w ∈ TB := tb_ins (by decide +kernel)
theorem kw_X4_61 : ∀ w ∈ k5V RX4 61 yX2_isOne cX2_isOne 2 (some .boolean), w ∈ TB := tb_ins (by decide +kernel)
theorem kw_X4_110 : ∀ w ∈ k5N yX7_bearing cX7_bearing 7 (some .int), w ∈ TB := tb_ins (by decide +kernel)
theorem kw_X4_79 : ∀ w ∈ k5V RX4 79 yX4_isUp cX4_isUp 2 (some .boolean), w ∈ TB := tb_ins (by decide +kernel)
theorem kw_X4_67 : ∀ w ∈ k5V RX4 67 yX4_loadOn cX4_loadOn 4 (some .int), w ∈ TB := tb_ins (by decide +kernel)
theorem kw_X4_82 : ∀ w ∈ k5V RX4 82 yX4_bearsNow cX4_bearsNow 2 (some .int), w ∈ TB := tb_ins (by decide +kernel)
theorem kw_X4_95 : ∀ w ∈ k5V RX4 95 yX4_stands cX4_stands 2 (some .boolean), w ∈ TB := tb_ins (by decide +kernel)
theorem kw_X4_114 : ∀ w ∈ k5V RX4 114 yX4_bearsAs cX4_bearsAs 3 (some .int), w ∈ TB := tb_ins (by decide +kernel)
theorem kw_X4_92 : ∀ w ∈ k5V RX4 92 yX4_isSeated cX4_isSeated 2 (some .boolean), w ∈ TB := tb_ins (by decide +kernel)
theorem kw_X4_70 : ∀ w ∈ k5V RX4 70 yX2_highOn cX2_highOn 3 (some .int), w ∈ TB := tb_ins (by decide +kernel)
theorem kw_X4_117 : ∀ w ∈ k5V RX4 117 yX4_seatedOn cX4_seatedOn 4 (some .int), w ∈ TB := tb_ins (by decide +kernel)
theorem kw_X3_33 : ∀ w ∈ k5V RX3 33 yX3_fill cX3_fill 4 none, w ∈ TB := tb_ins (by decide +kernel)
set_option maxHeartbeats 4000000 in
set_option maxRecDepth 100000 in
theorem c_X2_isEmpty (G : GT) (l : Launch) (σ : Mem) (o : Nat) (ho : oPl o) : CI G 74 (cX G) l yX2_isEmpty ({ frames := 0, cells := 0, slots := 0, locals := 0 } : Room) cX2_isEmpty 1 (some .boolean) [.ref (G.1 o)] σ (fun (r : Int32) u => r = b2i (decide (σ o 0 = 0)) ∧ u = σ) := by
  intro sz
  refine xbegin (by decide) (Nat.le_of_ble_eq_true rfl) ?_
  intro p e s m below meth c ls hsz ha hP hl
  subst hsz
  have hx := ha.1
  have hb := ha.2.1
  have hS : va_S (xA G 74 s.heap.size) s.heap s.heap [] := va_S.rf
  have hl : lv_has ls 1 [(0, .ref (G.1 o))] := hl
  have k_0 : (0 : Int32).toInt = 0 := by decide
  have k_1 : (1 : Int32).toInt = 1 := by decide
  refine lv_aload_n hx hb dX2_isEmpty_0 rfl (lv_at hl 0 rfl) ?_
  refine g2_27 ha hP o (oPl_lt0 ho) (sPl ho) (v := .int (σ o 0)) rfl dX2_isEmpty_1 ?_
  refine lv_if_ne (tgt := 11) hx hb dX2_isEmpty_4 (by decide) (fun c_1 => ?_) (fun c_1 => ?_)
  · have t_1 := i_ne c_1
    refine lv_iconst (v := 0) hx hb dX2_isEmpty_11 (by decide) ?_
    exact xzret ha hP hS rfl dX2_isEmpty_12 ⟨by simp [b2i, i_leN, c_1, -Int32.not_lt] <;> first | rfl | simp_all, rfl⟩ rfl
  · have t_1 := i_eq c_1
    refine lv_iconst (v := 1) hx hb dX2_isEmpty_7 (by decide) ?_
    refine lv_goto (tgt := 12) hx hb dX2_isEmpty_8 (by decide) ?_
    exact xzret ha hP hS rfl dX2_isEmpty_12 ⟨by simp [b2i, i_leN, c_1, -Int32.not_lt] <;> first | rfl | simp_all, rfl⟩ rfl
set_option maxHeartbeats 4000000 in
set_option maxRecDepth 100000 in
theorem c_X2_isPole (G : GT) (l : Launch) (σ : Mem) (o : Nat) (k : Int32) (ho : oPl o) : CI G 74 (cX G) l yX2_isPole ({ frames := 0, cells := 0, slots := 0, locals := 0 } : Room) cX2_isPole 2 (some .boolean) [.ref (G.1 o), .int k] σ (fun (r : Int32) u => r = b2i (a_isPole (vP σ o) k) ∧ u = σ) := by
  intro sz
  refine xbegin (by decide) (Nat.le_of_ble_eq_true rfl) ?_
  intro p e s m below meth c ls hsz ha hP hl
  subst hsz
  have hx := ha.1
  have hb := ha.2.1
  have hS : va_S (xA G 74 s.heap.size) s.heap s.heap [] := va_S.rf
  have hl : lv_has ls 2 [(0, .ref (G.1 o)), (1, .int k)] := hl
  have k_0 : (0 : Int32).toInt = 0 := by decide
  have k_1 : (1 : Int32).toInt = 1 := by decide
  have k_4 : (4 : Int32).toInt = 4 := by decide
  refine lv_iload_n hx hb dX2_isPole_0 rfl (lv_at hl 1 rfl) ?_
  refine lv_if_lt (tgt := 21) hx hb dX2_isPole_1 (by decide) (fun c_1 => ?_) (fun c_1 => ?_)
  · have t_1 := i_lt c_1
    refine lv_iconst (v := 0) hx hb dX2_isPole_21 (by decide) ?_
    exact xzret ha hP hS rfl dX2_isPole_22 ⟨by simp [b2i, a_isPole, vP, i_leN, c_1, -Int32.not_lt] <;> first | rfl | simp_all, rfl⟩ rfl
  · have t_1 := i_nlt c_1
    refine lv_iload_n hx hb dX2_isPole_4 rfl (lv_at hl 1 rfl) ?_
    refine lv_aload_n hx hb dX2_isPole_5 rfl (lv_at hl 0 rfl) ?_
    refine g2_27 ha hP o (oPl_lt0 ho) (sPl ho) (v := .int (σ o 0)) rfl dX2_isPole_6 ?_
    refine lv_icmp_ge (tgt := 21) hx hb dX2_isPole_9 (by decide) (fun c_2 => ?_) (fun c_2 => ?_)
    · have t_2 := i_le c_2
      have u_2 := u_le c_2
      refine lv_iconst (v := 0) hx hb dX2_isPole_21 (by decide) ?_
      exact xzret ha hP hS rfl dX2_isPole_22 ⟨by simp [b2i, a_isPole, vP, i_leN, c_1, u_2, -Int32.not_lt] <;> first | rfl | simp_all, rfl⟩ rfl
    · have t_2 := i_nle c_2
      have u_2 := u_nle c_2
      refine lv_iload_n hx hb dX2_isPole_12 rfl (lv_at hl 1 rfl) ?_
      refine lv_iconst (v := 4) hx hb dX2_isPole_13 (by decide) ?_
      refine lv_icmp_ge (tgt := 21) hx hb dX2_isPole_14 (by decide) (fun c_3 => ?_) (fun c_3 => ?_)
      · have t_3 := i_le c_3
        have u_3 := u_le c_3
        refine lv_iconst (v := 0) hx hb dX2_isPole_21 (by decide) ?_
        exact xzret ha hP hS rfl dX2_isPole_22 ⟨by simp [b2i, a_isPole, vP, i_leN, c_1, u_2, u_3, -Int32.not_lt] <;> first | rfl | simp_all, rfl⟩ rfl
      · have t_3 := i_nle c_3
        have u_3 := u_nle c_3
        refine lv_iconst (v := 1) hx hb dX2_isPole_17 (by decide) ?_
        refine lv_goto (tgt := 22) hx hb dX2_isPole_18 (by decide) ?_
        exact xzret ha hP hS rfl dX2_isPole_22 ⟨by simp [b2i, a_isPole, vP, i_leN, c_1, u_2, u_3, -Int32.not_lt] <;> first | rfl | simp_all, rfl⟩ rfl
set_option maxHeartbeats 4000000 in
set_option maxRecDepth 100000 in
theorem c_X2_isOne (G : GT) (l : Launch) (σ : Mem) (o : Nat) (i : Int32) (ho : oPl o) : CI G 74 (cX G) l yX2_isOne ({ frames := 0, cells := 0, slots := 0, locals := 0 } : Room) cX2_isOne 2 (some .boolean) [.ref (G.1 o), .int i] σ (fun (r : Int32) u => r = b2i (a_isOne (vP σ o) i) ∧ u = σ) := by
  intro sz
  refine xbegin (by decide) (Nat.le_of_ble_eq_true rfl) ?_
  intro p e s m below meth c ls hsz ha hP hl
  subst hsz
  have hx := ha.1
  have hb := ha.2.1
  have hS : va_S (xA G 74 s.heap.size) s.heap s.heap [] := va_S.rf
  have hl : lv_has ls 2 [(0, .ref (G.1 o)), (1, .int i)] := hl
  have k_0 : (0 : Int32).toInt = 0 := by decide
  have k_1 : (1 : Int32).toInt = 1 := by decide
  have k_5 : (5 : Int32).toInt = 5 := by decide
  refine lv_iload_n hx hb dX2_isOne_0 rfl (lv_at hl 1 rfl) ?_
  refine lv_if_lt (tgt := 21) hx hb dX2_isOne_1 (by decide) (fun c_1 => ?_) (fun c_1 => ?_)
  · have t_1 := i_lt c_1
    refine lv_iconst (v := 0) hx hb dX2_isOne_21 (by decide) ?_
    exact xzret ha hP hS rfl dX2_isOne_22 ⟨by simp [b2i, a_isOne, vP, i_leN, c_1, -Int32.not_lt] <;> first | rfl | simp_all, rfl⟩ rfl
  · have t_1 := i_nlt c_1
    refine lv_iload_n hx hb dX2_isOne_4 rfl (lv_at hl 1 rfl) ?_
    refine lv_aload_n hx hb dX2_isOne_5 rfl (lv_at hl 0 rfl) ?_
    refine g2_31 ha hP o (oPl_lt0 ho) (sPl ho) (v := .int (σ o 1)) rfl dX2_isOne_6 ?_
    refine lv_icmp_ge (tgt := 21) hx hb dX2_isOne_9 (by decide) (fun c_2 => ?_) (fun c_2 => ?_)
    · have t_2 := i_le c_2
      have u_2 := u_le c_2
      refine lv_iconst (v := 0) hx hb dX2_isOne_21 (by decide) ?_
      exact xzret ha hP hS rfl dX2_isOne_22 ⟨by simp [b2i, a_isOne, vP, i_leN, c_1, u_2, -Int32.not_lt] <;> first | rfl | simp_all, rfl⟩ rfl
    · have t_2 := i_nle c_2
      have u_2 := u_nle c_2
      refine lv_iload_n hx hb dX2_isOne_12 rfl (lv_at hl 1 rfl) ?_
      refine lv_iconst (v := 5) hx hb dX2_isOne_13 (by decide) ?_
      refine lv_icmp_ge (tgt := 21) hx hb dX2_isOne_14 (by decide) (fun c_3 => ?_) (fun c_3 => ?_)
      · have t_3 := i_le c_3
        have u_3 := u_le c_3
        refine lv_iconst (v := 0) hx hb dX2_isOne_21 (by decide) ?_
        exact xzret ha hP hS rfl dX2_isOne_22 ⟨by simp [b2i, a_isOne, vP, i_leN, c_1, u_2, u_3, -Int32.not_lt] <;> first | rfl | simp_all, rfl⟩ rfl
      · have t_3 := i_nle c_3
        have u_3 := u_nle c_3
        refine lv_iconst (v := 1) hx hb dX2_isOne_17 (by decide) ?_
        refine lv_goto (tgt := 22) hx hb dX2_isOne_18 (by decide) ?_
        exact xzret ha hP hS rfl dX2_isOne_22 ⟨by simp [b2i, a_isOne, vP, i_leN, c_1, u_2, u_3, -Int32.not_lt] <;> first | rfl | simp_all, rfl⟩ rfl
set_option maxHeartbeats 4000000 in
set_option maxRecDepth 100000 in
theorem c_X2_highOn (G : GT) (l : Launch) (σ : Mem) (o : Nat) (i : Int32) (k : Int32) (ho : oPl o) (hp : PO o σ) : CI G 74 (cX G) l yX2_highOn ({ frames := 0, cells := 0, slots := 0, locals := 0 } : Room) cX2_highOn 3 (some .int) [.ref (G.1 o), .int i, .int k] σ (fun (r : Int32) u => r = a_high (vP σ o) i k ∧ u = σ) := by
  intro sz
  refine xbegin (by decide) (Nat.le_of_ble_eq_true rfl) ?_
  intro p e s m below meth c ls hsz ha hP hl
  subst hsz
  have hx := ha.1
  have hb := ha.2.1
  have hS : va_S (xA G 74 s.heap.size) s.heap s.heap [] := va_S.rf
  have hl : lv_has ls 3 [(0, .ref (G.1 o)), (1, .int i), (2, .int k)] := hl
  have k_0 : (0 : Int32).toInt = 0 := by decide
  have hp1 := hp.2.1
  have hp2 := hp.2.2.2
  refine lv_iload_n hx hb dX2_highOn_0 rfl (lv_at hl 1 rfl) ?_
  refine lv_if_lt (tgt := 24) hx hb dX2_highOn_1 (by decide) (fun c_1 => ?_) (fun c_1 => ?_)
  · have t_1 := i_lt c_1
    refine lv_iconst (v := 0) hx hb dX2_highOn_24 (by decide) ?_
    exact xiret ha hP hS dX2_highOn_25 ⟨by simp [a_high, vP, i_leN, c_1, -Int32.not_lt] <;> first | rfl | simp_all, rfl⟩ rfl
  · have t_1 := i_nlt c_1
    refine lv_iload_n hx hb dX2_highOn_4 rfl (lv_at hl 1 rfl) ?_
    refine lv_aload_n hx hb dX2_highOn_5 rfl (lv_at hl 0 rfl) ?_
    refine g2_31 ha hP o (oPl_lt0 ho) (sPl ho) (v := .int (σ o 1)) rfl dX2_highOn_6 ?_
    refine lv_icmp_ge (tgt := 24) hx hb dX2_highOn_9 (by decide) (fun c_2 => ?_) (fun c_2 => ?_)
    · have t_2 := i_le c_2
      have u_2 := u_le c_2
      refine lv_iconst (v := 0) hx hb dX2_highOn_24 (by decide) ?_
      exact xiret ha hP hS dX2_highOn_25 ⟨by simp [a_high, vP, i_leN, c_1, u_2, -Int32.not_lt] <;> first | rfl | simp_all, rfl⟩ rfl
    · have t_2 := i_nle c_2
      have u_2 := u_nle c_2
      refine lv_iload_n hx hb dX2_highOn_12 rfl (lv_at hl 2 rfl) ?_
      refine lv_if_lt (tgt := 24) hx hb dX2_highOn_13 (by decide) (fun c_3 => ?_) (fun c_3 => ?_)
      · have t_3 := i_lt c_3
        refine lv_iconst (v := 0) hx hb dX2_highOn_24 (by decide) ?_
        exact xiret ha hP hS dX2_highOn_25 ⟨by simp [a_high, vP, i_leN, c_1, u_2, c_3, -Int32.not_lt] <;> first | rfl | simp_all, rfl⟩ rfl
      · have t_3 := i_nlt c_3
        refine lv_iload_n hx hb dX2_highOn_16 rfl (lv_at hl 2 rfl) ?_
        refine lv_aload_n hx hb dX2_highOn_17 rfl (lv_at hl 0 rfl) ?_
        refine g2_27 ha hP o (oPl_lt0 ho) (sPl ho) (v := .int (σ o 0)) rfl dX2_highOn_18 ?_
        refine lv_icmp_lt (tgt := 26) hx hb dX2_highOn_21 (by decide) (fun c_4 => ?_) (fun c_4 => ?_)
        · have t_4 := i_lt c_4
          refine lv_aload_n hx hb dX2_highOn_26 rfl (lv_at hl 0 rfl) ?_
          refine g2_24 ha hP o (oPl_lt0 ho) (sPl ho) (v := .ref (G.1 (o + 5))) rfl dX2_highOn_27 ?_
          refine lv_iload_n hx hb dX2_highOn_30 rfl (lv_at hl 1 rfl) ?_
          refine xialdN ha hP (o + 5) (oPl_lt5 ho) (sPl5 ho) (ix i) (ix_nI (by omega)) (ix_lt (by omega) (by omega)) (by decide) dX2_highOn_31 ?_
          refine lv_aload_n hx hb dX2_highOn_32 rfl (lv_at hl 0 rfl) ?_
          refine g2_15 ha hP o (oPl_lt0 ho) (sPl ho) (v := .ref (G.1 (o + 2))) rfl dX2_highOn_33 ?_
          refine lv_iload_n hx hb dX2_highOn_36 rfl (lv_at hl 2 rfl) ?_
          refine xialdN ha hP (o + 2) (oPl_lt2 ho) (sPl2 ho) (ix k) (ix_nI (by omega)) (ix_lt (by omega) (by omega)) (by decide) dX2_highOn_37 ?_
          have jn_5 : ∀ x_5 : Int32, x_5 = (if (σ (o + 5) (ix i)) < (σ (o + 2) (ix k)) then (σ (o + 5) (ix i)) else (σ (o + 2) (ix k))) → W p l e ({ frames := 0, cells := 0, slots := 0, locals := 0 } : Room) s m ([.ref (G.1 o), .int i, .int k] : List Value).toArray below meth c s.heap [] 0 0 (MQ below (va_Qi (fun (r : Int32) u => r = a_high (vP σ o) i k ∧ u = σ) (xB G 74 (cX G)) (xA G 74 s.heap.size)) ([.ref (G.1 o), .int i, .int k] : List Value).toArray s 0 0 (xA G 74 s.heap.size)) (F0 m 56 ls [.int x_5]) := by
            intro x_5 ex_5
            exact xiret ha hP hS dX2_highOn_56 ⟨by simp [a_high, vP, i_leN, c_1, u_2, c_3, c_4, ex_5, -Int32.not_lt] <;> first | rfl | simp_all, rfl⟩ rfl
          refine lv_icmp_ge (tgt := 50) hx hb dX2_highOn_38 (by decide) (fun c_5 => ?_) (fun c_5 => ?_)
          · have t_5 := i_le c_5
            refine lv_aload_n hx hb dX2_highOn_50 rfl (lv_at hl 0 rfl) ?_
            refine g2_15 ha hP o (oPl_lt0 ho) (sPl ho) (v := .ref (G.1 (o + 2))) rfl dX2_highOn_51 ?_
            refine lv_iload_n hx hb dX2_highOn_54 rfl (lv_at hl 2 rfl) ?_
            refine xialdN ha hP (o + 2) (oPl_lt2 ho) (sPl2 ho) (ix k) (ix_nI (by omega)) (ix_lt (by omega) (by omega)) (by decide) dX2_highOn_55 ?_
            exact jn_5 _ (if_neg (u_le c_5)).symm
          · have t_5 := i_nle c_5
            refine lv_aload_n hx hb dX2_highOn_41 rfl (lv_at hl 0 rfl) ?_
            refine g2_24 ha hP o (oPl_lt0 ho) (sPl ho) (v := .ref (G.1 (o + 5))) rfl dX2_highOn_42 ?_
            refine lv_iload_n hx hb dX2_highOn_45 rfl (lv_at hl 1 rfl) ?_
            refine xialdN ha hP (o + 5) (oPl_lt5 ho) (sPl5 ho) (ix i) (ix_nI (by omega)) (ix_lt (by omega) (by omega)) (by decide) dX2_highOn_46 ?_
            refine lv_goto (tgt := 56) hx hb dX2_highOn_47 (by decide) ?_
            exact jn_5 _ (if_pos (u_nle c_5)).symm
        · have t_4 := i_nlt c_4
          refine lv_iconst (v := 0) hx hb dX2_highOn_24 (by decide) ?_
          exact xiret ha hP hS dX2_highOn_25 ⟨by simp [a_high, vP, i_leN, c_1, u_2, c_3, c_4, -Int32.not_lt] <;> first | rfl | simp_all, rfl⟩ rfl
set_option maxHeartbeats 4000000 in
set_option maxRecDepth 100000 in
theorem c_X2_loadBy (G : GT) (l : Launch) (σ : Mem) (o : Nat) (i : Int32) (k : Int32) (ho : oPl o) (hp : PO o σ) : CI G 74 (cX G) l yX2_loadBy ({ frames := 1, cells := 0, slots := 0, locals := 22 } : Room) cX2_loadBy 3 (some .int) [.ref (G.1 o), .int i, .int k] σ (fun (r : Int32) u => r = a_loadBy (vP σ o) i k ∧ u = σ) := by
  intro sz
  refine xbegin (by decide) (Nat.le_of_ble_eq_true rfl) ?_
  intro p e s m below meth c ls hsz ha hP hl
  subst hsz
  have hx := ha.1
  have hb := ha.2.1
  have hS : va_S (xA G 74 s.heap.size) s.heap s.heap [] := va_S.rf
  have hl : lv_has ls 3 [(0, .ref (G.1 o)), (1, .int i), (2, .int k)] := hl
  have k_0 : (0 : Int32).toInt = 0 := by decide
  have k_2 : (2 : Int32).toInt = 2 := by decide
  refine lv_aload_n hx hb dX2_loadBy_0 rfl (lv_at hl 0 rfl) ?_
  refine lv_iload_n hx hb dX2_loadBy_1 rfl (lv_at hl 1 rfl) ?_
  refine xVi ha hP hS (As := [.int i]) (rest := []) o (oPl_lt0 ho) (sPl ho) rfl rfl (c_X2_isOne G l σ o i ho) kw_X2_60 hd_X2_isOne rfl ⟨rfl, rfl⟩ ⟨Nat.le_of_ble_eq_true rfl, Nat.le_of_ble_eq_true rfl⟩ ⟨Nat.zero_le _, Nat.zero_le _⟩ hl.1 (Nat.le_of_ble_eq_true rfl) rfl dX2_loadBy_2 (fun r u H locs hpq hP hS => ?_)
  obtain ⟨hr_, hu_⟩ := hpq
  have hr_ := hr_.symm
  have hu_ := hu_.symm
  subst hr_
  subst hu_
  refine lv_if_eq (tgt := 26) hx hb dX2_loadBy_5 (by decide) (fun c_1 => ?_) (fun c_1 => ?_)
  · have t_1 := b2i_f c_1
    refine lv_iconst (v := 0) hx hb dX2_loadBy_26 (by decide) ?_
    exact xiret ha hP hS dX2_loadBy_27 ⟨by simp [a_loadBy, vP, i_leN, t_1, -Int32.not_lt] <;> first | rfl | simp_all, rfl⟩ rfl
  · have t_1 := b2i_t c_1
    have f_1 := isOne_t t_1
    refine lv_aload_n hx hb dX2_loadBy_8 rfl (lv_at hl 0 rfl) ?_
    refine g2_21 ha hP o (oPl_lt0 ho) (sPl ho) (v := .ref (G.1 (o + 4))) rfl dX2_loadBy_9 ?_
    refine lv_iload_n hx hb dX2_loadBy_12 rfl (lv_at hl 1 rfl) ?_
    refine xialdN ha hP (o + 4) (oPl_lt4 ho) (sPl4 ho) (ix i) (ix_nI (by omega)) (ix_lt (by omega) (by omega)) (by decide) dX2_loadBy_13 ?_
    refine lv_aload_n hx hb dX2_loadBy_14 rfl (lv_at hl 0 rfl) ?_
    refine lv_iload_n hx hb dX2_loadBy_15 rfl (lv_at hl 1 rfl) ?_
    refine lv_iload_n hx hb dX2_loadBy_16 rfl (lv_at hl 2 rfl) ?_
    refine xVi ha hP hS (As := [.int i, .int k]) (rest := [.int (σ (o + 4) (ix i))]) o (oPl_lt0 ho) (sPl ho) rfl rfl (c_X2_highOn G l σ o i k ho hp) kw_X2_64 hd_X2_highOn rfl ⟨rfl, rfl⟩ ⟨Nat.le_of_ble_eq_true rfl, Nat.le_of_ble_eq_true rfl⟩ ⟨Nat.zero_le _, Nat.zero_le _⟩ hl.1 (Nat.le_of_ble_eq_true rfl) rfl dX2_loadBy_17 (fun r u H locs hpq hP hS => ?_)
    obtain ⟨hr_, hu_⟩ := hpq
    have hr_ := hr_.symm
    have hu_ := hu_.symm
    subst hr_
    subst hu_
    refine lv_iconst (v := 2) hx hb dX2_loadBy_20 (by decide) ?_
    refine lv_idiv hx hb dX2_loadBy_21 (by decide) ?_
    refine lv_iadd hx hb dX2_loadBy_22 ?_
    refine lv_goto (tgt := 27) hx hb dX2_loadBy_23 (by decide) ?_
    exact xiret ha hP hS dX2_loadBy_27 ⟨by simp [a_loadBy, vP, i_leN, t_1, -Int32.not_lt] <;> first | rfl | simp_all, rfl⟩ rfl
set_option maxHeartbeats 4000000 in
set_option maxRecDepth 100000 in
theorem c_X7_bearing (G : GT) (l : Launch) (σ : Mem) (kind : Int32) (tall : Int32) (strong : Int32) (wear : Int32)  : CI G 74 (cX G) l yX7_bearing ({ frames := 1, cells := 0, slots := 0, locals := 21 } : Room) cX7_bearing 7 (some .int) [.int kind, .int tall, .int strong, .int wear] σ (fun (r : Int32) u => r = a_bearing kind tall strong wear ∧ u = σ) := by
  intro sz
  refine xbegin (by decide) (Nat.le_of_ble_eq_true rfl) ?_
  intro p e s m below meth c ls hsz ha hP hl
  subst hsz
  have hx := ha.1
  have hb := ha.2.1
  have hS : va_S (xA G 74 s.heap.size) s.heap s.heap [] := va_S.rf
  have hl : lv_has ls 7 [(0, .int kind), (1, .int tall), (2, .int strong), (3, .int wear)] := hl
  have k_0 : (0 : Int32).toInt = 0 := by decide
  have k_2 : (2 : Int32).toInt = 2 := by decide
  have k_3 : (3 : Int32).toInt = 3 := by decide
  have k_5 : (5 : Int32).toInt = 5 := by decide
  refine lv_iconst (v := 0) hx hb dX7_bearing_0 (by decide) ?_
  refine lv_iload_n hx hb dX7_bearing_1 rfl (lv_at hl 2 rfl) ?_
  refine lv_iconst (v := 2) hx hb dX7_bearing_2 (by decide) ?_
  refine lv_iload_n hx hb dX7_bearing_3 rfl (lv_at hl 3 rfl) ?_
  refine lv_imul hx hb dX7_bearing_4 ?_
  refine lv_isub hx hb dX7_bearing_5 ?_
  refine xmmax ha (tb_in (w := .methodLink RX7 199 Lib.Math.max.name) (by decide +kernel)) hl.1 (by decide) (Nat.le_of_ble_eq_true rfl) ⟨Nat.zero_le _, Nat.zero_le _⟩ dX7_bearing_6 ?_
  refine lv_istore (lv' := [(4, .int (imax 0 (strong - (2 * wear)))), (0, .int kind), (1, .int tall), (2, .int strong), (3, .int wear)]) hx hb dX7_bearing_9 hl (by decide) rfl (fun ls hl => ?_)
  refine lv_iload_n hx hb dX7_bearing_11 rfl (lv_at hl 4 rfl) ?_
  refine lv_iconst (v := 3) hx hb dX7_bearing_12 (by decide) ?_
  have jn_1 : ∀ x_1 : Int32, x_1 = (if wear < 3 then (imax 0 (strong - (2 * wear))) else ((imax 0 (strong - (2 * wear))) - ((imax 0 (strong - (2 * wear))) / 3))) → W p l e ({ frames := 1, cells := 0, slots := 0, locals := 21 } : Room) s m ([.int kind, .int tall, .int strong, .int wear] : List Value).toArray below meth c s.heap [] 0 0 (MQ below (va_Qi (fun (r : Int32) u => r = a_bearing kind tall strong wear ∧ u = σ) (xB G 74 (cX G)) (xA G 74 s.heap.size)) ([.int kind, .int tall, .int strong, .int wear] : List Value).toArray s 0 0 (xA G 74 s.heap.size)) (F0 m 28 ls [.int x_1]) := by
    intro x_1 ex_1
    refine lv_istore (lv' := [(5, .int x_1), (4, .int (imax 0 (strong - (2 * wear)))), (0, .int kind), (1, .int tall), (2, .int strong), (3, .int wear)]) hx hb dX7_bearing_28 hl (by decide) rfl (fun ls hl => ?_)
    refine lv_iconst (v := 0) hx hb dX7_bearing_30 (by decide) ?_
    refine lv_iload_n hx hb dX7_bearing_31 rfl (lv_at hl 4 rfl) ?_
    refine lv_iload_n hx hb dX7_bearing_32 rfl (lv_at hl 5 rfl) ?_
    refine lv_isub hx hb dX7_bearing_33 ?_
    refine xmmax ha (tb_in (w := .methodLink RX7 199 Lib.Math.max.name) (by decide +kernel)) hl.1 (by decide) (Nat.le_of_ble_eq_true rfl) ⟨Nat.zero_le _, Nat.zero_le _⟩ dX7_bearing_34 ?_
    refine lv_istore (lv' := [(6, .int (imax 0 (strong - wear))), (5, .int x_1), (4, .int (imax 0 (strong - (2 * wear)))), (0, .int kind), (1, .int tall), (2, .int strong), (3, .int wear)]) hx hb dX7_bearing_37 hl (by decide) rfl (fun ls hl => ?_)
    refine lv_iload_n hx hb dX7_bearing_39 rfl (lv_at hl 3 rfl) ?_
    by_cases c_2 : kind = 1
    · refine lv_tableIn (tgt := 76) hx hb dX7_bearing_40 (by rw [c_2]; decide) (by rw [c_2]; decide) (off := 36) (by rw [c_2]; rfl) (by decide) ?_
      refine lv_iload hx hb dX7_bearing_76 (lv_at hl 1 rfl) ?_
      exact xiret ha hP hS dX7_bearing_78 ⟨by simp [a_bearing, i_leN, ex_1, c_2, -Int32.not_lt] <;> first | rfl | simp_all, rfl⟩ rfl
    by_cases c_3 : kind = 2
    · refine lv_tableIn (tgt := 79) hx hb dX7_bearing_40 (by rw [c_3]; decide) (by rw [c_3]; decide) (off := 39) (by rw [c_3]; rfl) (by decide) ?_
      refine lv_iload hx hb dX7_bearing_79 (lv_at hl 0 rfl) ?_
      exact xiret ha hP hS dX7_bearing_81 ⟨by simp [a_bearing, i_leN, ex_1, c_2, c_3, -Int32.not_lt] <;> first | rfl | simp_all, rfl⟩ rfl
    by_cases c_4 : kind = 3
    · refine lv_tableIn (tgt := 82) hx hb dX7_bearing_40 (by rw [c_4]; decide) (by rw [c_4]; decide) (off := 42) (by rw [c_4]; rfl) (by decide) ?_
      refine lv_iconst (v := 0) hx hb dX7_bearing_82 (by decide) ?_
      refine lv_iload hx hb dX7_bearing_83 (lv_at hl 0 rfl) ?_
      refine lv_iconst (v := 5) hx hb dX7_bearing_85 (by decide) ?_
      refine lv_isub hx hb dX7_bearing_86 ?_
      refine xmmax ha (tb_in (w := .methodLink RX7 199 Lib.Math.max.name) (by decide +kernel)) hl.1 (by decide) (Nat.le_of_ble_eq_true rfl) ⟨Nat.zero_le _, Nat.zero_le _⟩ dX7_bearing_87 ?_
      exact xiret ha hP hS dX7_bearing_90 ⟨by simp [a_bearing, i_leN, ex_1, c_2, c_3, c_4, -Int32.not_lt] <;> first | rfl | simp_all, rfl⟩ rfl
    by_cases c_5 : kind = 4
    · refine lv_tableIn (tgt := 91) hx hb dX7_bearing_40 (by rw [c_5]; decide) (by rw [c_5]; decide) (off := 51) (by rw [c_5]; rfl) (by decide) ?_
      refine lv_iload hx hb dX7_bearing_91 (lv_at hl 0 rfl) ?_
      refine lv_iconst (v := 2) hx hb dX7_bearing_93 (by decide) ?_
      refine lv_iload_n hx hb dX7_bearing_94 rfl (lv_at hl 4 rfl) ?_
      refine lv_imul hx hb dX7_bearing_95 ?_
      refine lv_iadd hx hb dX7_bearing_96 ?_
      exact xiret ha hP hS dX7_bearing_97 ⟨by simp [a_bearing, i_leN, ex_1, c_2, c_3, c_4, c_5, -Int32.not_lt] <;> first | rfl | simp_all, rfl⟩ rfl
    by_cases c_6 : kind = 5
    · refine lv_tableIn (tgt := 98) hx hb dX7_bearing_40 (by rw [c_6]; decide) (by rw [c_6]; decide) (off := 58) (by rw [c_6]; rfl) (by decide) ?_
      refine lv_iload_n hx hb dX7_bearing_98 rfl (lv_at hl 4 rfl) ?_
      refine lv_iconst (v := 5) hx hb dX7_bearing_99 (by decide) ?_
      have jn_7 : ∀ x_7 : Int32, x_7 = (if 5 < tall then x_1 else (imax 0 (strong - (2 * wear)))) → W p l e ({ frames := 1, cells := 0, slots := 0, locals := 21 } : Room) s m ([.int kind, .int tall, .int strong, .int wear] : List Value).toArray below meth c s.heap [] 0 0 (MQ below (va_Qi (fun (r : Int32) u => r = a_bearing kind tall strong wear ∧ u = σ) (xB G 74 (cX G)) (xA G 74 s.heap.size)) ([.int kind, .int tall, .int strong, .int wear] : List Value).toArray s 0 0 (xA G 74 s.heap.size)) (F0 m 110 ls [.int x_7]) := by
        intro x_7 ex_7
        exact xiret ha hP hS dX7_bearing_110 ⟨by simp [a_bearing, i_leN, ex_1, c_2, c_3, c_4, c_5, c_6, ex_7, -Int32.not_lt] <;> first | rfl | simp_all, rfl⟩ rfl
      refine lv_icmp_gt (tgt := 108) hx hb dX7_bearing_100 (by decide) (fun c_7 => ?_) (fun c_7 => ?_)
      · have t_7 := i_lt c_7
        refine lv_iload hx hb dX7_bearing_108 (lv_at hl 1 rfl) ?_
        exact jn_7 _ (if_pos c_7).symm
      · have t_7 := i_nlt c_7
        refine lv_iload hx hb dX7_bearing_103 (lv_at hl 2 rfl) ?_
        refine lv_goto (tgt := 110) hx hb dX7_bearing_105 (by decide) ?_
        exact jn_7 _ (if_neg c_7).symm
    have t_2 := i_ne c_2
    have t_3 := i_ne c_3
    have t_4 := i_ne c_4
    have t_5 := i_ne c_5
    have t_6 := i_ne c_6
    have kk_2 : (1 : Int32).toInt = 1 := by decide
    have kk_3 : (2 : Int32).toInt = 2 := by decide
    have kk_4 : (3 : Int32).toInt = 3 := by decide
    have kk_5 : (4 : Int32).toInt = 4 := by decide
    have kk_6 : (5 : Int32).toInt = 5 := by decide
    refine lv_tableOut (tgt := 111) hx hb dX7_bearing_40 (by omega) (by decide) ?_
    refine lv_iload hx hb dX7_bearing_111 (lv_at hl 2 rfl) ?_
    exact xiret ha hP hS dX7_bearing_113 ⟨by simp [a_bearing, i_leN, ex_1, c_2, c_3, c_4, c_5, c_6, -Int32.not_lt] <;> first | rfl | simp_all, rfl⟩ rfl
  refine lv_icmp_lt (tgt := 26) hx hb dX7_bearing_13 (by decide) (fun c_1 => ?_) (fun c_1 => ?_)
  · have t_1 := i_lt c_1
    refine lv_iload hx hb dX7_bearing_26 (lv_at hl 0 rfl) ?_
    exact jn_1 _ (if_pos c_1).symm
  · have t_1 := i_nlt c_1
    refine lv_iload hx hb dX7_bearing_16 (lv_at hl 0 rfl) ?_
    refine lv_iload hx hb dX7_bearing_18 (lv_at hl 0 rfl) ?_
    refine lv_iconst (v := 3) hx hb dX7_bearing_20 (by decide) ?_
    refine lv_idiv hx hb dX7_bearing_21 (by decide) ?_
    refine lv_isub hx hb dX7_bearing_22 ?_
    refine lv_goto (tgt := 28) hx hb dX7_bearing_23 (by decide) ?_
    exact jn_1 _ (if_neg c_1).symm
set_option maxHeartbeats 4000000 in
set_option maxRecDepth 100000 in
theorem c_X7_worn (G : GT) (l : Launch) (σ : Mem) (wear : Int32) (laden : Int32)  : CI G 74 (cX G) l yX7_worn ({ frames := 1, cells := 0, slots := 0, locals := 21 } : Room) cX7_worn 2 (some .int) [.int wear, .int laden] σ (fun (r : Int32) u => r = a_worn wear laden ∧ u = σ) := by
  intro sz
  refine xbegin (by decide) (Nat.le_of_ble_eq_true rfl) ?_
  intro p e s m below meth c ls hsz ha hP hl
  subst hsz
  have hx := ha.1
  have hb := ha.2.1
  have hS : va_S (xA G 74 s.heap.size) s.heap s.heap [] := va_S.rf
  have hl : lv_has ls 2 [(0, .int wear), (1, .int laden)] := hl
  have k_0 : (0 : Int32).toInt = 0 := by decide
  have k_1 : (1 : Int32).toInt = 1 := by decide
  have k_2 : (2 : Int32).toInt = 2 := by decide
  have k_20 : (20 : Int32).toInt = 20 := by decide
  refine lv_bipush (v := 20) hx hb dX7_worn_0 (by decide) ?_
  refine lv_iload_n hx hb dX7_worn_2 rfl (lv_at hl 0 rfl) ?_
  refine lv_iload_n hx hb dX7_worn_3 rfl (lv_at hl 1 rfl) ?_
  have jn_1 : ∀ x_1 : Int32, x_1 = (if laden = 0 then 1 else 2) → W p l e ({ frames := 1, cells := 0, slots := 0, locals := 21 } : Room) s m ([.int wear, .int laden] : List Value).toArray below meth c s.heap [] 0 0 (MQ below (va_Qi (fun (r : Int32) u => r = a_worn wear laden ∧ u = σ) (xB G 74 (cX G)) (xA G 74 s.heap.size)) ([.int wear, .int laden] : List Value).toArray s 0 0 (xA G 74 s.heap.size)) (F0 m 12 ls [.int x_1, .int wear, .int 20]) := by
    intro x_1 ex_1
    refine lv_iadd hx hb dX7_worn_12 ?_
    refine xmmin ha (tb_in (w := .methodLink RX7 361 Lib.Math.min.name) (by decide +kernel)) hl.1 (by decide) (Nat.le_of_ble_eq_true rfl) ⟨Nat.zero_le _, Nat.zero_le _⟩ dX7_worn_13 ?_
    exact xiret ha hP hS dX7_worn_16 ⟨by simp [a_worn, i_leN, ex_1, -Int32.not_lt] <;> first | rfl | simp_all, rfl⟩ rfl
  refine lv_if_eq (tgt := 11) hx hb dX7_worn_4 (by decide) (fun c_1 => ?_) (fun c_1 => ?_)
  · have t_1 := i_eq c_1
    refine lv_iconst (v := 1) hx hb dX7_worn_11 (by decide) ?_
    exact jn_1 _ (if_pos c_1).symm
  · have t_1 := i_ne c_1
    refine lv_iconst (v := 2) hx hb dX7_worn_7 (by decide) ?_
    refine lv_goto (tgt := 12) hx hb dX7_worn_8 (by decide) ?_
    exact jn_1 _ (if_neg c_1).symm
set_option maxHeartbeats 4000000 in
set_option maxRecDepth 100000 in
theorem c_X7_isOfKind (G : GT) (l : Launch) (σ : Mem) (kind : Int32) (wanted : Int32)  : CI G 74 (cX G) l yX7_isOfKind ({ frames := 0, cells := 0, slots := 0, locals := 0 } : Room) cX7_isOfKind 2 (some .boolean) [.int kind, .int wanted] σ (fun (r : Int32) u => r = b2i (a_isOf kind wanted) ∧ u = σ) := by
  intro sz
  refine xbegin (by decide) (Nat.le_of_ble_eq_true rfl) ?_
  intro p e s m below meth c ls hsz ha hP hl
  subst hsz
  have hx := ha.1
  have hb := ha.2.1
  have hS : va_S (xA G 74 s.heap.size) s.heap s.heap [] := va_S.rf
  have hl : lv_has ls 2 [(0, .int kind), (1, .int wanted)] := hl
  have k_0 : (0 : Int32).toInt = 0 := by decide
  have k_1 : (1 : Int32).toInt = 1 := by decide
  have k_2 : (2 : Int32).toInt = 2 := by decide
  have k_3 : (3 : Int32).toInt = 3 := by decide
  have k_4 : (4 : Int32).toInt = 4 := by decide
  have k_5 : (5 : Int32).toInt = 5 := by decide
  refine lv_iload_n hx hb dX7_isOfKind_0 rfl (lv_at hl 0 rfl) ?_
  refine lv_iload_n hx hb dX7_isOfKind_1 rfl (lv_at hl 1 rfl) ?_
  refine lv_icmp_eq (tgt := 30) hx hb dX7_isOfKind_2 (by decide) (fun c_1 => ?_) (fun c_1 => ?_)
  · have t_1 := i_eq c_1
    refine lv_iconst (v := 1) hx hb dX7_isOfKind_30 (by decide) ?_
    refine lv_goto (tgt := 35) hx hb dX7_isOfKind_31 (by decide) ?_
    exact xzret ha hP hS rfl dX7_isOfKind_35 ⟨by simp [b2i, a_isOf, i_leN, c_1, -Int32.not_lt] <;> first | rfl | simp_all, rfl⟩ rfl
  · have t_1 := i_ne c_1
    refine lv_iload_n hx hb dX7_isOfKind_5 rfl (lv_at hl 1 rfl) ?_
    refine lv_iconst (v := 1) hx hb dX7_isOfKind_6 (by decide) ?_
    refine lv_icmp_ne (tgt := 15) hx hb dX7_isOfKind_7 (by decide) (fun c_2 => ?_) (fun c_2 => ?_)
    · have t_2 := i_ne c_2
      refine lv_iload_n hx hb dX7_isOfKind_15 rfl (lv_at hl 1 rfl) ?_
      refine lv_iconst (v := 2) hx hb dX7_isOfKind_16 (by decide) ?_
      refine lv_icmp_ne (tgt := 34) hx hb dX7_isOfKind_17 (by decide) (fun c_3 => ?_) (fun c_3 => ?_)
      · have t_3 := i_ne c_3
        refine lv_iconst (v := 0) hx hb dX7_isOfKind_34 (by decide) ?_
        exact xzret ha hP hS rfl dX7_isOfKind_35 ⟨by simp [b2i, a_isOf, i_leN, c_1, c_2, c_3, -Int32.not_lt] <;> first | rfl | simp_all, rfl⟩ rfl
      · have t_3 := i_eq c_3
        refine lv_iload_n hx hb dX7_isOfKind_20 rfl (lv_at hl 0 rfl) ?_
        refine lv_iconst (v := 3) hx hb dX7_isOfKind_21 (by decide) ?_
        refine lv_icmp_eq (tgt := 30) hx hb dX7_isOfKind_22 (by decide) (fun c_4 => ?_) (fun c_4 => ?_)
        · have t_4 := i_eq c_4
          refine lv_iconst (v := 1) hx hb dX7_isOfKind_30 (by decide) ?_
          refine lv_goto (tgt := 35) hx hb dX7_isOfKind_31 (by decide) ?_
          exact xzret ha hP hS rfl dX7_isOfKind_35 ⟨by simp [b2i, a_isOf, i_leN, c_1, c_2, c_3, c_4, -Int32.not_lt] <;> first | rfl | simp_all, rfl⟩ rfl
        · have t_4 := i_ne c_4
          refine lv_iload_n hx hb dX7_isOfKind_25 rfl (lv_at hl 0 rfl) ?_
          refine lv_iconst (v := 4) hx hb dX7_isOfKind_26 (by decide) ?_
          refine lv_icmp_ne (tgt := 34) hx hb dX7_isOfKind_27 (by decide) (fun c_5 => ?_) (fun c_5 => ?_)
          · have t_5 := i_ne c_5
            refine lv_iconst (v := 0) hx hb dX7_isOfKind_34 (by decide) ?_
            exact xzret ha hP hS rfl dX7_isOfKind_35 ⟨by simp [b2i, a_isOf, i_leN, c_1, c_2, c_3, c_4, c_5, -Int32.not_lt] <;> first | rfl | simp_all, rfl⟩ rfl
          · have t_5 := i_eq c_5
            refine lv_iconst (v := 1) hx hb dX7_isOfKind_30 (by decide) ?_
            refine lv_goto (tgt := 35) hx hb dX7_isOfKind_31 (by decide) ?_
            exact xzret ha hP hS rfl dX7_isOfKind_35 ⟨by simp [b2i, a_isOf, i_leN, c_1, c_2, c_3, c_4, c_5, -Int32.not_lt] <;> first | rfl | simp_all, rfl⟩ rfl
    · have t_2 := i_eq c_2
      refine lv_iload_n hx hb dX7_isOfKind_10 rfl (lv_at hl 0 rfl) ?_
      refine lv_iconst (v := 5) hx hb dX7_isOfKind_11 (by decide) ?_
      refine lv_icmp_eq (tgt := 30) hx hb dX7_isOfKind_12 (by decide) (fun c_6 => ?_) (fun c_6 => ?_)
      · have t_6 := i_eq c_6
        refine lv_iconst (v := 1) hx hb dX7_isOfKind_30 (by decide) ?_
        refine lv_goto (tgt := 35) hx hb dX7_isOfKind_31 (by decide) ?_
        exact xzret ha hP hS rfl dX7_isOfKind_35 ⟨by simp [b2i, a_isOf, i_leN, c_1, c_2, c_6, -Int32.not_lt] <;> first | rfl | simp_all, rfl⟩ rfl
      · have t_6 := i_ne c_6
        refine lv_iload_n hx hb dX7_isOfKind_15 rfl (lv_at hl 1 rfl) ?_
        refine lv_iconst (v := 2) hx hb dX7_isOfKind_16 (by decide) ?_
        refine lv_icmp_ne (tgt := 34) hx hb dX7_isOfKind_17 (by decide) (fun c_7 => ?_) (fun c_7 => ?_)
        · have t_7 := i_ne c_7
          refine lv_iconst (v := 0) hx hb dX7_isOfKind_34 (by decide) ?_
          exact xzret ha hP hS rfl dX7_isOfKind_35 ⟨by simp [b2i, a_isOf, i_leN, c_1, c_2, c_6, c_7, -Int32.not_lt] <;> first | rfl | simp_all, rfl⟩ rfl
        · have t_7 := i_eq c_7
          refine lv_iload_n hx hb dX7_isOfKind_20 rfl (lv_at hl 0 rfl) ?_
          refine lv_iconst (v := 3) hx hb dX7_isOfKind_21 (by decide) ?_
          refine lv_icmp_eq (tgt := 30) hx hb dX7_isOfKind_22 (by decide) (fun c_8 => ?_) (fun c_8 => ?_)
          · have t_8 := i_eq c_8
            refine lv_iconst (v := 1) hx hb dX7_isOfKind_30 (by decide) ?_
            refine lv_goto (tgt := 35) hx hb dX7_isOfKind_31 (by decide) ?_
            exact xzret ha hP hS rfl dX7_isOfKind_35 ⟨by simp [b2i, a_isOf, i_leN, c_1, c_2, c_6, c_7, c_8, -Int32.not_lt] <;> first | rfl | simp_all, rfl⟩ rfl
          · have t_8 := i_ne c_8
            refine lv_iload_n hx hb dX7_isOfKind_25 rfl (lv_at hl 0 rfl) ?_
            refine lv_iconst (v := 4) hx hb dX7_isOfKind_26 (by decide) ?_
            refine lv_icmp_ne (tgt := 34) hx hb dX7_isOfKind_27 (by decide) (fun c_9 => ?_) (fun c_9 => ?_)
            · have t_9 := i_ne c_9
              refine lv_iconst (v := 0) hx hb dX7_isOfKind_34 (by decide) ?_
              exact xzret ha hP hS rfl dX7_isOfKind_35 ⟨by simp [b2i, a_isOf, i_leN, c_1, c_2, c_6, c_7, c_8, c_9, -Int32.not_lt] <;> first | rfl | simp_all, rfl⟩ rfl
            · have t_9 := i_eq c_9
              refine lv_iconst (v := 1) hx hb dX7_isOfKind_30 (by decide) ?_
              refine lv_goto (tgt := 35) hx hb dX7_isOfKind_31 (by decide) ?_
              exact xzret ha hP hS rfl dX7_isOfKind_35 ⟨by simp [b2i, a_isOf, i_leN, c_1, c_2, c_6, c_7, c_8, c_9, -Int32.not_lt] <;> first | rfl | simp_all, rfl⟩ rfl
set_option maxHeartbeats 4000000 in
set_option maxRecDepth 100000 in
theorem c_X2_bearsWith (G : GT) (l : Launch) (σ : Mem) (o : Nat) (k : Int32) (wear : Int32) (ho : oPl o) : CI G 74 (cX G) l yX2_bearsWith ({ frames := 2, cells := 0, slots := 0, locals := 47 } : Room) cX2_bearsWith 3 (some .int) [.ref (G.1 o), .int k, .int wear] σ (fun (r : Int32) u => r = a_bears (vP σ o) k wear ∧ u = σ) := by
  intro sz
  refine xbegin (by decide) (Nat.le_of_ble_eq_true rfl) ?_
  intro p e s m below meth c ls hsz ha hP hl
  subst hsz
  have hx := ha.1
  have hb := ha.2.1
  have hS : va_S (xA G 74 s.heap.size) s.heap s.heap [] := va_S.rf
  have hl : lv_has ls 3 [(0, .ref (G.1 o)), (1, .int k), (2, .int wear)] := hl
  have k_0 : (0 : Int32).toInt = 0 := by decide
  refine lv_aload_n hx hb dX2_bearsWith_0 rfl (lv_at hl 0 rfl) ?_
  refine lv_iload_n hx hb dX2_bearsWith_1 rfl (lv_at hl 1 rfl) ?_
  refine xVi ha hP hS (As := [.int k]) (rest := []) o (oPl_lt0 ho) (sPl ho) rfl rfl (c_X2_isPole G l σ o k ho) kw_X2_68 hd_X2_isPole rfl ⟨rfl, rfl⟩ ⟨Nat.le_of_ble_eq_true rfl, Nat.le_of_ble_eq_true rfl⟩ ⟨Nat.zero_le _, Nat.zero_le _⟩ hl.1 (Nat.le_of_ble_eq_true rfl) rfl dX2_bearsWith_2 (fun r u H locs hpq hP hS => ?_)
  obtain ⟨hr_, hu_⟩ := hpq
  have hr_ := hr_.symm
  have hu_ := hu_.symm
  subst hr_
  subst hu_
  refine lv_if_eq (tgt := 33) hx hb dX2_bearsWith_5 (by decide) (fun c_1 => ?_) (fun c_1 => ?_)
  · have t_1 := b2i_f c_1
    refine lv_iconst (v := 0) hx hb dX2_bearsWith_33 (by decide) ?_
    exact xiret ha hP hS dX2_bearsWith_34 ⟨by simp [a_bears, vP, i_leN, t_1, -Int32.not_lt] <;> first | rfl | simp_all, rfl⟩ rfl
  · have t_1 := b2i_t c_1
    have f_1 := isPole_t t_1
    refine lv_aload_n hx hb dX2_bearsWith_8 rfl (lv_at hl 0 rfl) ?_
    refine g2_9 ha hP o (oPl_lt0 ho) (sPl ho) (v := .ref (G.1 (o + 1))) rfl dX2_bearsWith_9 ?_
    refine lv_iload_n hx hb dX2_bearsWith_12 rfl (lv_at hl 1 rfl) ?_
    refine xialdN ha hP (o + 1) (oPl_lt1 ho) (sPl1 ho) (ix k) (ix_nI (by omega)) (ix_lt (by omega) (by omega)) (by decide) dX2_bearsWith_13 ?_
    refine lv_aload_n hx hb dX2_bearsWith_14 rfl (lv_at hl 0 rfl) ?_
    refine g2_15 ha hP o (oPl_lt0 ho) (sPl ho) (v := .ref (G.1 (o + 2))) rfl dX2_bearsWith_15 ?_
    refine lv_iload_n hx hb dX2_bearsWith_18 rfl (lv_at hl 1 rfl) ?_
    refine xialdN ha hP (o + 2) (oPl_lt2 ho) (sPl2 ho) (ix k) (ix_nI (by omega)) (ix_lt (by omega) (by omega)) (by decide) dX2_bearsWith_19 ?_
    refine lv_aload_n hx hb dX2_bearsWith_20 rfl (lv_at hl 0 rfl) ?_
    refine g2_18 ha hP o (oPl_lt0 ho) (sPl ho) (v := .ref (G.1 (o + 3))) rfl dX2_bearsWith_21 ?_
    refine lv_iload_n hx hb dX2_bearsWith_24 rfl (lv_at hl 1 rfl) ?_
    refine xialdN ha hP (o + 3) (oPl_lt3 ho) (sPl3 ho) (ix k) (ix_nI (by omega)) (ix_lt (by omega) (by omega)) (by decide) dX2_bearsWith_25 ?_
    refine lv_iload_n hx hb dX2_bearsWith_26 rfl (lv_at hl 2 rfl) ?_
    refine xNi ha hP hS (As := [.int (σ (o + 1) (ix k)), .int (σ (o + 2) (ix k)), .int (σ (o + 3) (ix k)), .int wear]) (rest := []) "PoleNave" (nb_in (by decide +kernel)) (c_X7_bearing G l σ (σ (o + 1) (ix k)) (σ (o + 2) (ix k)) (σ (o + 3) (ix k)) wear ) kw_X2_71 hd_X7_bearing rfl ⟨rfl, rfl⟩ ⟨Nat.le_of_ble_eq_true rfl, Nat.le_of_ble_eq_true rfl⟩ ⟨Nat.zero_le _, Nat.zero_le _⟩ hl.1 (Nat.le_of_ble_eq_true rfl) rfl dX2_bearsWith_27 (fun r u H locs hpq hP hS => ?_)
    obtain ⟨hr_, hu_⟩ := hpq
    have hr_ := hr_.symm
    have hu_ := hu_.symm
    subst hr_
    subst hu_
    refine lv_goto (tgt := 34) hx hb dX2_bearsWith_30 (by decide) ?_
    exact xiret ha hP hS dX2_bearsWith_34 ⟨by simp [a_bears, vP, i_leN, t_1, -Int32.not_lt] <;> first | rfl | simp_all, rfl⟩ rfl
set_option maxHeartbeats 4000000 in
set_option maxRecDepth 100000 in
theorem c_X2_howManyLaced (G : GT) (l : Launch) (σ : Mem) (o : Nat) (ho : oPl o) (hp : PO o σ) : CI G 74 (cX G) l yX2_howManyLaced ({ frames := 1, cells := 0, slots := 0, locals := 21 } : Room) cX2_howManyLaced 3 (some .int) [.ref (G.1 o)] σ (fun (r : Int32) u => r = a_manyLaced (vP σ o) ∧ u = σ) := by
  intro sz
  refine xbegin (by decide) (Nat.le_of_ble_eq_true rfl) ?_
  intro p e s m below meth c ls hsz ha hP hl
  subst hsz
  have hx := ha.1
  have hb := ha.2.1
  have hS : va_S (xA G 74 s.heap.size) s.heap s.heap [] := va_S.rf
  have hl : lv_has ls 3 [(0, .ref (G.1 o))] := hl
  have k_0 : (0 : Int32).toInt = 0 := by decide
  have k_1 : (1 : Int32).toInt = 1 := by decide
  have k_2 : (2 : Int32).toInt = 2 := by decide
  obtain ⟨hn, hn4, hnt⟩ := PO_pl hp
  refine lv_iconst (v := 0) hx hb dX2_howManyLaced_0 (by decide) ?_
  refine lv_istore_n (lv' := [(1, .int 0), (0, .ref (G.1 o))]) hx hb dX2_howManyLaced_1 rfl hl (by decide) rfl (fun ls hl => ?_)
  refine lv_iconst (v := 0) hx hb dX2_howManyLaced_2 (by decide) ?_
  refine lv_istore_n (lv' := [(2, .int 0), (1, .int 0), (0, .ref (G.1 o))]) hx hb dX2_howManyLaced_3 rfl hl (by decide) rfl (fun ls hl => ?_)
  have lp_4 : ∀ (d j : Nat) (x1 : Int32) (H : Heap) (locs : List Loc) (ls : Array Slot), j ≤ (ix (σ o 0)) → (ix (σ o 0)) - j < d → x1 = a_sum (fun k => b2i (a_isOf (vP σ o 1 k) 2)) j → va_P G.2.1 vwCl (wl G 74 (cX G σ)) H → va_S (xA G 74 s.heap.size) s.heap H locs → lv_has ls 3 [(2, .int (nI j)), (1, .int x1), (0, .ref (G.1 o))] → W p l e ({ frames := 1, cells := 0, slots := 0, locals := 21 } : Room) s m ([.ref (G.1 o)] : List Value).toArray below meth c H locs 0 0 (MQ below (va_Qi (fun (r : Int32) u => r = a_manyLaced (vP σ o) ∧ u = σ) (xB G 74 (cX G)) (xA G 74 s.heap.size)) ([.ref (G.1 o)] : List Value).toArray s 0 0 (xA G 74 s.heap.size)) (F0 m 4 ls []) := by
    intro d
    induction d with
    | zero => intro j x1 H locs ls hj hd; exact absurd hd (Nat.not_lt_zero _)
    | succ d ih_4 =>
      intro j x1 H locs ls hj_j hd_j e_x1 hP hS hl
      have h31_j : (nI j).toInt = (j : Int) := nI_toInt (by omega)
      refine lv_iload_n hx hb dX2_howManyLaced_4 rfl (lv_at hl 0 rfl) ?_
      refine lv_aload_n hx hb dX2_howManyLaced_5 rfl (lv_at hl 2 rfl) ?_
      refine g2_27 ha hP o (oPl_lt0 ho) (sPl ho) (v := .int (σ o 0)) rfl dX2_howManyLaced_6 ?_
      refine lv_icmp_ge (tgt := 39) hx hb dX2_howManyLaced_9 (by decide) (fun c_1 => ?_) (fun c_1 => ?_)
      · have t_1 := i_le c_1
        have u_1 := u_le c_1
        obtain rfl : j = (ix (σ o 0)) := by omega
        refine lv_iload_n hx hb dX2_howManyLaced_39 rfl (lv_at hl 1 rfl) ?_
        exact xiret ha hP hS dX2_howManyLaced_40 ⟨by simp [a_manyLaced, nPl, vP, i_leN, e_x1, u_1, -Int32.not_lt] <;> first | rfl | simp_all, rfl⟩ rfl
      · have t_1 := i_nle c_1
        have u_1 := u_nle c_1
        have hlt_j : j < (ix (σ o 0)) := by omega
        refine lv_iload_n hx hb dX2_howManyLaced_12 rfl (lv_at hl 1 rfl) ?_
        refine lv_aload_n hx hb dX2_howManyLaced_13 rfl (lv_at hl 2 rfl) ?_
        refine g2_9 ha hP o (oPl_lt0 ho) (sPl ho) (v := .ref (G.1 (o + 1))) rfl dX2_howManyLaced_14 ?_
        refine lv_iload_n hx hb dX2_howManyLaced_17 rfl (lv_at hl 0 rfl) ?_
        refine xialdN ha hP (o + 1) (oPl_lt1 ho) (sPl1 ho) j rfl (by omega) (by decide) dX2_howManyLaced_18 ?_
        refine lv_iconst (v := 2) hx hb dX2_howManyLaced_19 (by decide) ?_
        refine xNi ha hP hS (As := [.int (σ (o + 1) j), .int 2]) (rest := [.int x1]) "PoleNave" (nb_in (by decide +kernel)) (c_X7_isOfKind G l σ (σ (o + 1) j) 2 ) kw_X2_75 hd_X7_isOfKind rfl ⟨rfl, rfl⟩ ⟨Nat.le_of_ble_eq_true rfl, Nat.le_of_ble_eq_true rfl⟩ ⟨Nat.zero_le _, Nat.zero_le _⟩ hl.1 (Nat.le_of_ble_eq_true rfl) rfl dX2_howManyLaced_20 (fun r u H locs hpq hP hS => ?_)
        obtain ⟨hr_, hu_⟩ := hpq
        have hr_ := hr_.symm
        have hu_ := hu_.symm
        subst hr_
        subst hu_
        have jn_2 : ∀ x_2 : Int32, x_2 = (if (a_isOf (σ (o + 1) j) 2) = true then 1 else 0) → W p l e ({ frames := 1, cells := 0, slots := 0, locals := 21 } : Room) s m ([.ref (G.1 o)] : List Value).toArray below meth c H locs 0 0 (MQ below (va_Qi (fun (r : Int32) u => r = a_manyLaced (vP σ o) ∧ u = σ) (xB G 74 (cX G)) (xA G 74 s.heap.size)) ([.ref (G.1 o)] : List Value).toArray s 0 0 (xA G 74 s.heap.size)) (F0 m 31 ls [.int x_2, .int x1]) := by
          intro x_2 ex_2
          refine lv_iadd hx hb dX2_howManyLaced_31 ?_
          refine lv_istore_n (lv' := [(1, .int (x1 + x_2)), (2, .int (nI j)), (0, .ref (G.1 o))]) hx hb dX2_howManyLaced_32 rfl hl (by decide) rfl (fun ls hl => ?_)
          refine lv_iinc (v := (nI (j + 1))) (lv' := [(2, .int (nI (j + 1))), (1, .int (x1 + x_2)), (0, .ref (G.1 o))]) hx hb dX2_howManyLaced_33 hl (k := 1) rfl (nI_1 j) (by decide) rfl (fun ls hl => ?_)
          refine lv_goto (tgt := 4) hx hb dX2_howManyLaced_36 (by decide) ?_
          exact ih_4 (j + 1) (x1 + x_2) _ _ _ (by omega) (by omega) (by simp [a_sum, vP, b2i, i_leN, e_x1, u_1, ex_2, -Int32.not_lt] <;> first | rfl | simp_all) hP hS (lv_sub hl [0, 1, 2] rfl)
        refine lv_if_eq (tgt := 30) hx hb dX2_howManyLaced_23 (by decide) (fun c_2 => ?_) (fun c_2 => ?_)
        · have t_2 := b2i_f c_2
          refine lv_iconst (v := 0) hx hb dX2_howManyLaced_30 (by decide) ?_
          exact jn_2 _ (if_neg (Bool.eq_false_iff.mp t_2)).symm
        · have t_2 := b2i_t c_2
          refine lv_iconst (v := 1) hx hb dX2_howManyLaced_26 (by decide) ?_
          refine lv_goto (tgt := 31) hx hb dX2_howManyLaced_27 (by decide) ?_
          exact jn_2 _ (if_pos t_2).symm
  exact lp_4 ((ix (σ o 0)) - 0 + 1) 0 0 _ _ _ (by omega) (by omega) (by first | rfl | simp [a_sum, vP, b2i, i_leN, -Int32.not_lt] <;> first | rfl | simp_all) hP hS (lv_sub hl [0, 1, 2] rfl)
set_option maxHeartbeats 4000000 in
set_option maxRecDepth 100000 in
theorem c_X3_isMissing (G : GT) (l : Launch) (σ : Mem) (o : Nat) (ho : oRow o) : CI G 74 (cX G) l yX3_isMissing ({ frames := 0, cells := 0, slots := 0, locals := 0 } : Room) cX3_isMissing 1 (some .boolean) [.ref (G.1 o)] σ (fun (r : Int32) u => r = b2i (decide (σ o 0 < 0)) ∧ u = σ) := by
  intro sz
  refine xbegin (by decide) (Nat.le_of_ble_eq_true rfl) ?_
  intro p e s m below meth c ls hsz ha hP hl
  subst hsz
  have hx := ha.1
  have hb := ha.2.1
  have hS : va_S (xA G 74 s.heap.size) s.heap s.heap [] := va_S.rf
  have hl : lv_has ls 1 [(0, .ref (G.1 o))] := hl
  have k_0 : (0 : Int32).toInt = 0 := by decide
  have k_1 : (1 : Int32).toInt = 1 := by decide
  refine lv_aload_n hx hb dX3_isMissing_0 rfl (lv_at hl 0 rfl) ?_
  refine g3_15 ha hP o (oRow_lt0 ho) (sRow ho) (v := .int (σ o 0)) rfl dX3_isMissing_1 ?_
  refine lv_if_ge (tgt := 11) hx hb dX3_isMissing_4 (by decide) (fun c_1 => ?_) (fun c_1 => ?_)
  · have t_1 := i_le c_1
    have u_1 := u_le c_1
    refine lv_iconst (v := 0) hx hb dX3_isMissing_11 (by decide) ?_
    exact xzret ha hP hS rfl dX3_isMissing_12 ⟨by simp [b2i, i_leN, u_1, -Int32.not_lt] <;> first | rfl | simp_all, rfl⟩ rfl
  · have t_1 := i_nle c_1
    have u_1 := u_nle c_1
    refine lv_iconst (v := 1) hx hb dX3_isMissing_7 (by decide) ?_
    refine lv_goto (tgt := 12) hx hb dX3_isMissing_8 (by decide) ?_
    exact xzret ha hP hS rfl dX3_isMissing_12 ⟨by simp [b2i, i_leN, u_1, -Int32.not_lt] <;> first | rfl | simp_all, rfl⟩ rfl
set_option maxHeartbeats 4000000 in
set_option maxRecDepth 100000 in
theorem c_X3_has (G : GT) (l : Launch) (σ : Mem) (o : Nat) (i : Int32) (ho : oRow o) : CI G 74 (cX G) l yX3_has ({ frames := 0, cells := 0, slots := 0, locals := 0 } : Room) cX3_has 2 (some .boolean) [.ref (G.1 o), .int i] σ (fun (r : Int32) u => r = b2i (a_has σ o i) ∧ u = σ) := by
  intro sz
  refine xbegin (by decide) (Nat.le_of_ble_eq_true rfl) ?_
  intro p e s m below meth c ls hsz ha hP hl
  subst hsz
  have hx := ha.1
  have hb := ha.2.1
  have hS : va_S (xA G 74 s.heap.size) s.heap s.heap [] := va_S.rf
  have hl : lv_has ls 2 [(0, .ref (G.1 o)), (1, .int i)] := hl
  have k_0 : (0 : Int32).toInt = 0 := by decide
  have k_1 : (1 : Int32).toInt = 1 := by decide
  have k_3 : (3 : Int32).toInt = 3 := by decide
  have k_4 : (4 : Int32).toInt = 4 := by decide
  have k_5 : (5 : Int32).toInt = 5 := by decide
  have k_6 : (6 : Int32).toInt = 6 := by decide
  have k_40 : (40 : Int32).toInt = 40 := by decide
  have k_60 : (60 : Int32).toInt = 60 := by decide
  refine lv_iload_n hx hb dX3_has_0 rfl (lv_at hl 1 rfl) ?_
  refine lv_if_lt (tgt := 25) hx hb dX3_has_1 (by decide) (fun c_1 => ?_) (fun c_1 => ?_)
  · have t_1 := i_lt c_1
    refine lv_iconst (v := 0) hx hb dX3_has_25 (by decide) ?_
    exact xzret ha hP hS rfl dX3_has_26 ⟨by simp [b2i, a_has, i_leN, c_1, -Int32.not_lt] <;> first | rfl | simp_all, rfl⟩ rfl
  · have t_1 := i_nlt c_1
    refine lv_iload_n hx hb dX3_has_4 rfl (lv_at hl 1 rfl) ?_
    refine lv_aload_n hx hb dX3_has_5 rfl (lv_at hl 0 rfl) ?_
    refine g3_15 ha hP o (oRow_lt0 ho) (sRow ho) (v := .int (σ o 0)) rfl dX3_has_6 ?_
    refine lv_icmp_ge (tgt := 25) hx hb dX3_has_9 (by decide) (fun c_2 => ?_) (fun c_2 => ?_)
    · have t_2 := i_le c_2
      have u_2 := u_le c_2
      refine lv_iconst (v := 0) hx hb dX3_has_25 (by decide) ?_
      exact xzret ha hP hS rfl dX3_has_26 ⟨by simp [b2i, a_has, i_leN, c_1, u_2, -Int32.not_lt] <;> first | rfl | simp_all, rfl⟩ rfl
    · have t_2 := i_nle c_2
      have u_2 := u_nle c_2
      refine lv_iload_n hx hb dX3_has_12 rfl (lv_at hl 1 rfl) ?_
      refine lv_aload_n hx hb dX3_has_13 rfl (lv_at hl 0 rfl) ?_
      refine g3_9 ha hP o (oRow_lt0 ho) (sRow ho) (v := .ref (G.1 (o + 1))) rfl dX3_has_14 ?_
      refine xalen ha hP (o + 1) (oRow_lt1 ho) 0 (sRow1 ho) rfl (v := 60) rfl dX3_has_17 ?_
      refine lv_icmp_ge (tgt := 25) hx hb dX3_has_18 (by decide) (fun c_3 => ?_) (fun c_3 => ?_)
      · have t_3 := i_le c_3
        have u_3 := u_le c_3
        refine lv_iconst (v := 0) hx hb dX3_has_25 (by decide) ?_
        exact xzret ha hP hS rfl dX3_has_26 ⟨by simp [b2i, a_has, i_leN, c_1, u_2, u_3, -Int32.not_lt] <;> first | rfl | simp_all, rfl⟩ rfl
      · have t_3 := i_nle c_3
        have u_3 := u_nle c_3
        refine lv_iconst (v := 1) hx hb dX3_has_21 (by decide) ?_
        refine lv_goto (tgt := 26) hx hb dX3_has_22 (by decide) ?_
        exact xzret ha hP hS rfl dX3_has_26 ⟨by simp [b2i, a_has, i_leN, c_1, u_2, u_3, -Int32.not_lt] <;> first | rfl | simp_all, rfl⟩ rfl
set_option maxHeartbeats 4000000 in
set_option maxRecDepth 100000 in
theorem c_X3_findingAt (G : GT) (l : Launch) (σ : Mem) (o : Nat) (i : Int32) (ho : oRow o) : CI G 74 (cX G) l yX3_findingAt ({ frames := 1, cells := 0, slots := 0, locals := 21 } : Room) cX3_findingAt 2 (some .int) [.ref (G.1 o), .int i] σ (fun (r : Int32) u => r = a_findAt σ o i ∧ u = σ) := by
  intro sz
  refine xbegin (by decide) (Nat.le_of_ble_eq_true rfl) ?_
  intro p e s m below meth c ls hsz ha hP hl
  subst hsz
  have hx := ha.1
  have hb := ha.2.1
  have hS : va_S (xA G 74 s.heap.size) s.heap s.heap [] := va_S.rf
  have hl : lv_has ls 2 [(0, .ref (G.1 o)), (1, .int i)] := hl
  have k_0 : (0 : Int32).toInt = 0 := by decide
  have k_1 : (1 : Int32).toInt = 1 := by decide
  have k_2 : (2 : Int32).toInt = 2 := by decide
  refine lv_aload_n hx hb dX3_findingAt_0 rfl (lv_at hl 0 rfl) ?_
  refine xVi ha hP hS (As := []) (rest := []) o (oRow_lt0 ho) (sRow ho) rfl rfl (c_X3_isMissing G l σ o ho) kw_X3_19 hd_X3_isMissing rfl ⟨rfl, rfl⟩ ⟨Nat.le_of_ble_eq_true rfl, Nat.le_of_ble_eq_true rfl⟩ ⟨Nat.zero_le _, Nat.zero_le _⟩ hl.1 (Nat.le_of_ble_eq_true rfl) rfl dX3_findingAt_1 (fun r u H locs hpq hP hS => ?_)
  obtain ⟨hr_, hu_⟩ := hpq
  have hr_ := hr_.symm
  have hu_ := hu_.symm
  subst hr_
  subst hu_
  refine lv_if_eq (tgt := 9) hx hb dX3_findingAt_4 (by decide) (fun c_1 => ?_) (fun c_1 => ?_)
  · have t_1 := b2i_f c_1
    have f_1 := of_decide_eq_false t_1
    refine lv_aload_n hx hb dX3_findingAt_9 rfl (lv_at hl 0 rfl) ?_
    refine lv_iload_n hx hb dX3_findingAt_10 rfl (lv_at hl 1 rfl) ?_
    refine xVi ha hP hS (As := [.int i]) (rest := []) o (oRow_lt0 ho) (sRow ho) rfl rfl (c_X3_has G l σ o i ho) kw_X3_23 hd_X3_has rfl ⟨rfl, rfl⟩ ⟨Nat.le_of_ble_eq_true rfl, Nat.le_of_ble_eq_true rfl⟩ ⟨Nat.zero_le _, Nat.zero_le _⟩ hl.1 (Nat.le_of_ble_eq_true rfl) rfl dX3_findingAt_11 (fun r u H locs hpq hP hS => ?_)
    obtain ⟨hr_, hu_⟩ := hpq
    have hr_ := hr_.symm
    have hu_ := hu_.symm
    subst hr_
    subst hu_
    have jn_2 : ∀ x_2 : Int32, x_2 = (if (a_has σ o i) = true then 0 else 2) → W p l e ({ frames := 1, cells := 0, slots := 0, locals := 21 } : Room) s m ([.ref (G.1 o), .int i] : List Value).toArray below meth c H locs 0 0 (MQ below (va_Qi (fun (r : Int32) u => r = a_findAt σ o i ∧ u = σ) (xB G 74 (cX G)) (xA G 74 s.heap.size)) ([.ref (G.1 o), .int i] : List Value).toArray s 0 0 (xA G 74 s.heap.size)) (F0 m 22 ls [.int x_2]) := by
      intro x_2 ex_2
      exact xiret ha hP hS dX3_findingAt_22 ⟨by simp [a_findAt, i_leN, t_1, f_1, ex_2, -Int32.not_lt] <;> first | rfl | simp_all, rfl⟩ rfl
    refine lv_if_eq (tgt := 21) hx hb dX3_findingAt_14 (by decide) (fun c_2 => ?_) (fun c_2 => ?_)
    · have t_2 := b2i_f c_2
      refine lv_iconst (v := 2) hx hb dX3_findingAt_21 (by decide) ?_
      exact jn_2 _ (if_neg (Bool.eq_false_iff.mp t_2)).symm
    · have t_2 := b2i_t c_2
      have f_2 := has_t t_2
      refine lv_iconst (v := 0) hx hb dX3_findingAt_17 (by decide) ?_
      refine lv_goto (tgt := 22) hx hb dX3_findingAt_18 (by decide) ?_
      exact jn_2 _ (if_pos t_2).symm
  · have t_1 := b2i_t c_1
    have f_1 := of_decide_eq_true t_1
    refine lv_iconst (v := 1) hx hb dX3_findingAt_7 (by decide) ?_
    exact xiret ha hP hS dX3_findingAt_8 ⟨by simp [a_findAt, i_leN, t_1, f_1, -Int32.not_lt] <;> first | rfl | simp_all, rfl⟩ rfl
set_option maxHeartbeats 4000000 in
set_option maxRecDepth 100000 in
theorem c_X3_get (G : GT) (l : Launch) (σ : Mem) (o : Nat) (i : Int32) (ho : oRow o) : CI G 74 (cX G) l yX3_get ({ frames := 1, cells := 0, slots := 0, locals := 21 } : Room) cX3_get 2 (some .int) [.ref (G.1 o), .int i] σ (fun (r : Int32) u => r = a_get σ o i ∧ u = σ) := by
  intro sz
  refine xbegin (by decide) (Nat.le_of_ble_eq_true rfl) ?_
  intro p e s m below meth c ls hsz ha hP hl
  subst hsz
  have hx := ha.1
  have hb := ha.2.1
  have hS : va_S (xA G 74 s.heap.size) s.heap s.heap [] := va_S.rf
  have hl : lv_has ls 2 [(0, .ref (G.1 o)), (1, .int i)] := hl
  have k_0 : (0 : Int32).toInt = 0 := by decide
  refine lv_aload_n hx hb dX3_get_0 rfl (lv_at hl 0 rfl) ?_
  refine lv_iload_n hx hb dX3_get_1 rfl (lv_at hl 1 rfl) ?_
  refine xVi ha hP hS (As := [.int i]) (rest := []) o (oRow_lt0 ho) (sRow ho) rfl rfl (c_X3_has G l σ o i ho) kw_X3_23 hd_X3_has rfl ⟨rfl, rfl⟩ ⟨Nat.le_of_ble_eq_true rfl, Nat.le_of_ble_eq_true rfl⟩ ⟨Nat.zero_le _, Nat.zero_le _⟩ hl.1 (Nat.le_of_ble_eq_true rfl) rfl dX3_get_2 (fun r u H locs hpq hP hS => ?_)
  obtain ⟨hr_, hu_⟩ := hpq
  have hr_ := hr_.symm
  have hu_ := hu_.symm
  subst hr_
  subst hu_
  have jn_1 : ∀ x_1 : Int32, x_1 = (if (a_has σ o i) = true then (σ (o + 1) (ix i)) else 0) → W p l e ({ frames := 1, cells := 0, slots := 0, locals := 21 } : Room) s m ([.ref (G.1 o), .int i] : List Value).toArray below meth c H locs 0 0 (MQ below (va_Qi (fun (r : Int32) u => r = a_get σ o i ∧ u = σ) (xB G 74 (cX G)) (xA G 74 s.heap.size)) ([.ref (G.1 o), .int i] : List Value).toArray s 0 0 (xA G 74 s.heap.size)) (F0 m 18 ls [.int x_1]) := by
    intro x_1 ex_1
    exact xiret ha hP hS dX3_get_18 ⟨by simp [a_get, i_leN, ex_1, -Int32.not_lt] <;> first | rfl | simp_all, rfl⟩ rfl
  refine lv_if_eq (tgt := 17) hx hb dX3_get_5 (by decide) (fun c_1 => ?_) (fun c_1 => ?_)
  · have t_1 := b2i_f c_1
    refine lv_iconst (v := 0) hx hb dX3_get_17 (by decide) ?_
    exact jn_1 _ (if_neg (Bool.eq_false_iff.mp t_1)).symm
  · have t_1 := b2i_t c_1
    have f_1 := has_t t_1
    refine lv_aload_n hx hb dX3_get_8 rfl (lv_at hl 0 rfl) ?_
    refine g3_9 ha hP o (oRow_lt0 ho) (sRow ho) (v := .ref (G.1 (o + 1))) rfl dX3_get_9 ?_
    refine lv_iload_n hx hb dX3_get_12 rfl (lv_at hl 1 rfl) ?_
    refine xialdN ha hP (o + 1) (oRow_lt1 ho) (sRow1 ho) (ix i) (ix_nI (by omega)) (ix_lt (by omega) (by omega)) (by decide) dX3_get_13 ?_
    refine lv_goto (tgt := 18) hx hb dX3_get_14 (by decide) ?_
    exact jn_1 _ (if_pos t_1).symm
set_option maxHeartbeats 4000000 in
set_option maxRecDepth 100000 in
theorem c_X3_set (G : GT) (l : Launch) (σ : Mem) (o : Nat) (i : Int32) (v : Int32) (ho : oRow o) : CV G 74 (cX G) l yX3_set ({ frames := 1, cells := 0, slots := 0, locals := 21 } : Room) cX3_set 3 none [.ref (G.1 o), .int i, .int v] σ (fun u => u = m_set σ o i v) := by
  intro sz
  refine xbegin (by decide) (Nat.le_of_ble_eq_true rfl) ?_
  intro p e s m below meth c ls hsz ha hP hl
  subst hsz
  have hx := ha.1
  have hb := ha.2.1
  have hS : va_S (xA G 74 s.heap.size) s.heap s.heap [] := va_S.rf
  have hl : lv_has ls 3 [(0, .ref (G.1 o)), (1, .int i), (2, .int v)] := hl
  have k_0 : (0 : Int32).toInt = 0 := by decide
  refine lv_aload_n hx hb dX3_set_0 rfl (lv_at hl 0 rfl) ?_
  refine lv_iload_n hx hb dX3_set_1 rfl (lv_at hl 1 rfl) ?_
  refine xVi ha hP hS (As := [.int i]) (rest := []) o (oRow_lt0 ho) (sRow ho) rfl rfl (c_X3_has G l σ o i ho) kw_X3_23 hd_X3_has rfl ⟨rfl, rfl⟩ ⟨Nat.le_of_ble_eq_true rfl, Nat.le_of_ble_eq_true rfl⟩ ⟨Nat.zero_le _, Nat.zero_le _⟩ hl.1 (Nat.le_of_ble_eq_true rfl) rfl dX3_set_2 (fun r u H locs hpq hP hS => ?_)
  obtain ⟨hr_, hu_⟩ := hpq
  have hr_ := hr_.symm
  have hu_ := hu_.symm
  subst hr_
  subst hu_
  refine lv_if_eq (tgt := 15) hx hb dX3_set_5 (by decide) (fun c_1 => ?_) (fun c_1 => ?_)
  · have t_1 := b2i_f c_1
    exact xvret ha hP hS dX3_set_15 (by simp [m_set, i_leN, t_1, -Int32.not_lt] <;> first | rfl | simp_all)
  · have t_1 := b2i_t c_1
    have f_1 := has_t t_1
    refine lv_aload_n hx hb dX3_set_8 rfl (lv_at hl 0 rfl) ?_
    refine g3_9 ha hP o (oRow_lt0 ho) (sRow ho) (v := .ref (G.1 (o + 1))) rfl dX3_set_9 ?_
    refine lv_iload_n hx hb dX3_set_12 rfl (lv_at hl 1 rfl) ?_
    refine lv_iload_n hx hb dX3_set_13 rfl (lv_at hl 2 rfl) ?_
    refine xiastN ha hP hS (cX_loc G) (o + 1) (oRow_lt1 ho) (fun τ => sRow1 ho) (ix i) (ix_nI (by omega)) (ix_lt (by omega) (by omega)) (by decide) dX3_set_14 (fun H locs hP hS => ?_)
    exact xvret ha hP hS dX3_set_15 (by simp [m_set, i_leN, t_1, -Int32.not_lt] <;> first | rfl | simp_all)
set_option maxHeartbeats 4000000 in
set_option maxRecDepth 100000 in
theorem c_X3_fill (G : GT) (l : Launch) (σ : Mem) (o : Nat) (n : Int32) (v : Int32) (ho : oRow o) : CV G 74 (cX G) l yX3_fill ({ frames := 1, cells := 0, slots := 0, locals := 21 } : Room) cX3_fill 4 none [.ref (G.1 o), .int n, .int v] σ (fun u => u = m_fill σ o n v) := by
  intro sz
  refine xbegin (by decide) (Nat.le_of_ble_eq_true rfl) ?_
  intro p e s m below meth c ls hsz ha hP hl
  subst hsz
  have hx := ha.1
  have hb := ha.2.1
  have hS : va_S (xA G 74 s.heap.size) s.heap s.heap [] := va_S.rf
  have hl : lv_has ls 4 [(0, .ref (G.1 o)), (1, .int n), (2, .int v)] := hl
  have k_0 : (0 : Int32).toInt = 0 := by decide
  have k_3 : (3 : Int32).toInt = 3 := by decide
  have k_4 : (4 : Int32).toInt = 4 := by decide
  have k_5 : (5 : Int32).toInt = 5 := by decide
  have k_6 : (6 : Int32).toInt = 6 := by decide
  have k_40 : (40 : Int32).toInt = 40 := by decide
  have k_60 : (60 : Int32).toInt = 60 := by decide
  have hi := imin_i n 60
  have hc := ix_cases (imin n 60)
  have hn60 : ix (imin n 60) ≤ 60 := by omega
  refine lv_aload_n hx hb dX3_fill_0 rfl (lv_at hl 0 rfl) ?_
  refine lv_iload_n hx hb dX3_fill_1 rfl (lv_at hl 1 rfl) ?_
  refine lv_aload_n hx hb dX3_fill_2 rfl (lv_at hl 0 rfl) ?_
  refine g3_9 ha hP o (oRow_lt0 ho) (sRow ho) (v := .ref (G.1 (o + 1))) rfl dX3_fill_3 ?_
  refine xalen ha hP (o + 1) (oRow_lt1 ho) 0 (sRow1 ho) rfl (v := 60) rfl dX3_fill_6 ?_
  refine xmmin ha (tb_in (w := .methodLink RX3 27 Lib.Math.min.name) (by decide +kernel)) hl.1 (by decide) (Nat.le_of_ble_eq_true rfl) ⟨Nat.zero_le _, Nat.zero_le _⟩ dX3_fill_7 ?_
  refine p3_15 ha hP hS (cX_loc G) o (oRow_lt0 ho) (sRow ho) (x := (imin n 60)) (Nat.le_of_ble_eq_true rfl) (mU σ o 0 (imin n 60)) (fun q hq => mU_n _ _ _ hq) (sRow_p0 ho) dX3_fill_10 (fun H locs hP hS => ?_)
  refine lv_iconst (v := 0) hx hb dX3_fill_13 (by decide) ?_
  refine lv_istore_n (lv' := [(3, .int 0), (0, .ref (G.1 o)), (1, .int n), (2, .int v)]) hx hb dX3_fill_14 rfl hl (by decide) rfl (fun ls hl => ?_)
  have lp_15 : ∀ (d j : Nat) (σj : Mem) (H : Heap) (locs : List Loc) (ls : Array Slot), j ≤ (ix (imin n 60)) → (ix (imin n 60)) - j < d → σj = mF (mU σ o 0 (imin n 60)) (o + 1) j (fun _ => v) → va_P G.2.1 vwCl (wl G 74 (cX G σj)) H → va_S (xA G 74 s.heap.size) s.heap H locs → lv_has ls 4 [(3, .int (nI j)), (0, .ref (G.1 o)), (1, .int n), (2, .int v)] → W p l e ({ frames := 1, cells := 0, slots := 0, locals := 21 } : Room) s m ([.ref (G.1 o), .int n, .int v] : List Value).toArray below meth c H locs 0 0 (MQ below (va_Qv (fun u => u = m_fill σ o n v) (xB G 74 (cX G)) (xA G 74 s.heap.size)) ([.ref (G.1 o), .int n, .int v] : List Value).toArray s 0 0 (xA G 74 s.heap.size)) (F0 m 15 ls []) := by
    intro d
    induction d with
    | zero => intro j σj H locs ls hj hd; exact absurd hd (Nat.not_lt_zero _)
    | succ d ih_15 =>
      intro j σj H locs ls hj_j hd_j e_σj hP hS hl
      have h31_j : (nI j).toInt = (j : Int) := nI_toInt (by omega)
      have hz : σj o 0 = imin n 60 := by rw [e_σj]; simp [mF_e, mU_e]
      have hz2 := i_eq hz
      refine lv_iload_n hx hb dX3_fill_15 rfl (lv_at hl 0 rfl) ?_
      refine lv_aload_n hx hb dX3_fill_16 rfl (lv_at hl 1 rfl) ?_
      refine g3_15 ha hP o (oRow_lt0 ho) (sRow ho) (v := .int (σj o 0)) rfl dX3_fill_17 ?_
      refine lv_icmp_ge (tgt := 36) hx hb dX3_fill_20 (by decide) (fun c_1 => ?_) (fun c_1 => ?_)
      · have t_1 := i_le c_1
        have u_1 := u_le c_1
        obtain rfl : j = (ix (imin n 60)) := by omega
        exact xvret ha hP hS dX3_fill_36 (by exact e_σj)
      · have t_1 := i_nle c_1
        have u_1 := u_nle c_1
        have hlt_j : j < (ix (imin n 60)) := by omega
        refine lv_aload_n hx hb dX3_fill_23 rfl (lv_at hl 1 rfl) ?_
        refine g3_9 ha hP o (oRow_lt0 ho) (sRow ho) (v := .ref (G.1 (o + 1))) rfl dX3_fill_24 ?_
        refine lv_iload_n hx hb dX3_fill_27 rfl (lv_at hl 0 rfl) ?_
        refine lv_iload_n hx hb dX3_fill_28 rfl (lv_at hl 3 rfl) ?_
        refine xiastN ha hP hS (cX_loc G) (o + 1) (oRow_lt1 ho) (fun τ => sRow1 ho) j rfl (by omega) (by decide) dX3_fill_29 (fun H locs hP hS => ?_)
        refine lv_iinc (v := (nI (j + 1))) (lv' := [(3, .int (nI (j + 1))), (0, .ref (G.1 o)), (1, .int n), (2, .int v)]) hx hb dX3_fill_30 hl (k := 0) rfl (nI_1 j) (by decide) rfl (fun ls hl => ?_)
        refine lv_goto (tgt := 15) hx hb dX3_fill_33 (by decide) ?_
        exact ih_15 (j + 1) (mU σj (o + 1) j v) _ _ _ (by omega) (by omega) (by rw [e_σj]; exact mF_s _ _ _ _ rfl) hP hS (lv_sub hl [0, 1, 2, 3] rfl)
  exact lp_15 ((ix (imin n 60)) - 0 + 1) 0 (mU σ o 0 (imin n 60)) _ _ _ (by omega) (by omega) (mF_0 _ _ _) hP hS (lv_sub hl [0, 1, 2, 3] rfl)
set_option maxHeartbeats 4000000 in
set_option maxRecDepth 100000 in
theorem c_X4_loadOn (G : GT) (l : Launch) (σ : Mem) (o : Nat) (k : Int32) (ho : oSc o) (hp : PO 33 σ) : CI G 74 (cX G) l yX4_loadOn ({ frames := 2, cells := 0, slots := 0, locals := 44 } : Room) cX4_loadOn 4 (some .int) [.ref (G.1 o), .int k] σ (fun (r : Int32) u => r = a_load (vP σ 33) (vS σ o) k ∧ u = σ) := by
  intro sz
  refine xbegin (by decide) (Nat.le_of_ble_eq_true rfl) ?_
  intro p e s m below meth c ls hsz ha hP hl
  subst hsz
  have hx := ha.1
  have hb := ha.2.1
  have hS : va_S (xA G 74 s.heap.size) s.heap s.heap [] := va_S.rf
  have hl : lv_has ls 4 [(0, .ref (G.1 o)), (1, .int k)] := hl
  have k_0 : (0 : Int32).toInt = 0 := by decide
  obtain ⟨hn, hn4, hnt⟩ := PO_pe hp
  refine lv_iconst (v := 0) hx hb dX4_loadOn_0 (by decide) ?_
  refine lv_istore_n (lv' := [(2, .int 0), (0, .ref (G.1 o)), (1, .int k)]) hx hb dX4_loadOn_1 rfl hl (by decide) rfl (fun ls hl => ?_)
  refine lv_iconst (v := 0) hx hb dX4_loadOn_2 (by decide) ?_
  refine lv_istore_n (lv' := [(3, .int 0), (2, .int 0), (0, .ref (G.1 o)), (1, .int k)]) hx hb dX4_loadOn_3 rfl hl (by decide) rfl (fun ls hl => ?_)
  have lp_4 : ∀ (d j : Nat) (x2 : Int32) (H : Heap) (locs : List Loc) (ls : Array Slot), j ≤ (ix (σ 33 1)) → (ix (σ 33 1)) - j < d → x2 = a_sum (fun i => if (vS σ o) 2 i = k then a_loadBy (vP σ 33) (nI i) k else 0) j → va_P G.2.1 vwCl (wl G 74 (cX G σ)) H → va_S (xA G 74 s.heap.size) s.heap H locs → lv_has ls 4 [(3, .int (nI j)), (2, .int x2), (0, .ref (G.1 o)), (1, .int k)] → W p l e ({ frames := 2, cells := 0, slots := 0, locals := 44 } : Room) s m ([.ref (G.1 o), .int k] : List Value).toArray below meth c H locs 0 0 (MQ below (va_Qi (fun (r : Int32) u => r = a_load (vP σ 33) (vS σ o) k ∧ u = σ) (xB G 74 (cX G)) (xA G 74 s.heap.size)) ([.ref (G.1 o), .int k] : List Value).toArray s 0 0 (xA G 74 s.heap.size)) (F0 m 4 ls []) := by
    intro d
    induction d with
    | zero => intro j x2 H locs ls hj hd; exact absurd hd (Nat.not_lt_zero _)
    | succ d ih_4 =>
      intro j x2 H locs ls hj_j hd_j e_x2 hP hS hl
      have h31_j : (nI j).toInt = (j : Int) := nI_toInt (by omega)
      refine lv_iload_n hx hb dX4_loadOn_4 rfl (lv_at hl 0 rfl) ?_
      refine lv_aload_n hx hb dX4_loadOn_5 rfl (lv_at hl 2 rfl) ?_
      refine g4_18 ha hP o (oSc_lt0 ho) (sSc ho) (v := .ref (G.1 33)) rfl dX4_loadOn_6 ?_
      refine g4_89 ha hP 33 (by decide) (cX_33 G _) (v := .int (σ 33 1)) rfl dX4_loadOn_9 ?_
      refine lv_icmp_ge (tgt := 43) hx hb dX4_loadOn_12 (by decide) (fun c_1 => ?_) (fun c_1 => ?_)
      · have t_1 := i_le c_1
        have u_1 := u_le c_1
        obtain rfl : j = (ix (σ 33 1)) := by omega
        refine lv_iload_n hx hb dX4_loadOn_43 rfl (lv_at hl 1 rfl) ?_
        exact xiret ha hP hS dX4_loadOn_44 ⟨by simp [a_load, nPe, vP, vS, i_leN, e_x2, u_1, -Int32.not_lt] <;> first | rfl | simp_all, rfl⟩ rfl
      · have t_1 := i_nle c_1
        have u_1 := u_nle c_1
        have hlt_j : j < (ix (σ 33 1)) := by omega
        refine lv_aload_n hx hb dX4_loadOn_15 rfl (lv_at hl 2 rfl) ?_
        refine g4_15 ha hP o (oSc_lt0 ho) (sSc ho) (v := .ref (G.1 (o + 2))) rfl dX4_loadOn_16 ?_
        refine lv_iload_n hx hb dX4_loadOn_19 rfl (lv_at hl 0 rfl) ?_
        refine xialdN ha hP (o + 2) (oSc_lt2 ho) (sSc2 ho) j rfl (by omega) (by decide) dX4_loadOn_20 ?_
        refine lv_iload_n hx hb dX4_loadOn_21 rfl (lv_at hl 3 rfl) ?_
        refine lv_icmp_ne (tgt := 37) hx hb dX4_loadOn_22 (by decide) (fun c_2 => ?_) (fun c_2 => ?_)
        · have t_2 := i_ne c_2
          refine lv_iinc (v := (nI (j + 1))) (lv' := [(3, .int (nI (j + 1))), (2, .int x2), (0, .ref (G.1 o)), (1, .int k)]) hx hb dX4_loadOn_37 hl (k := 0) rfl (nI_1 j) (by decide) rfl (fun ls hl => ?_)
          refine lv_goto (tgt := 4) hx hb dX4_loadOn_40 (by decide) ?_
          exact ih_4 (j + 1) x2 _ _ _ (by omega) (by omega) (by simp [a_sum, vP, vS, i_leN, e_x2, u_1, c_2, -Int32.not_lt] <;> first | rfl | simp_all) hP hS (lv_sub hl [0, 1, 2, 3] rfl)
        · have t_2 := i_eq c_2
          refine lv_iload_n hx hb dX4_loadOn_25 rfl (lv_at hl 1 rfl) ?_
          refine lv_aload_n hx hb dX4_loadOn_26 rfl (lv_at hl 2 rfl) ?_
          refine g4_18 ha hP o (oSc_lt0 ho) (sSc ho) (v := .ref (G.1 33)) rfl dX4_loadOn_27 ?_
          refine lv_iload_n hx hb dX4_loadOn_30 rfl (lv_at hl 0 rfl) ?_
          refine lv_iload_n hx hb dX4_loadOn_31 rfl (lv_at hl 3 rfl) ?_
          refine xVi ha hP hS (As := [.int (nI j), .int k]) (rest := [.int x2]) 33 (by decide) (cX_33 G _) rfl rfl (c_X2_loadBy G l σ 33 (nI j) k (by unfold oPl; omega) hp) kw_X4_98 hd_X2_loadBy rfl ⟨rfl, rfl⟩ ⟨Nat.le_of_ble_eq_true rfl, Nat.le_of_ble_eq_true rfl⟩ ⟨Nat.zero_le _, Nat.zero_le _⟩ hl.1 (Nat.le_of_ble_eq_true rfl) rfl dX4_loadOn_32 (fun r u H locs hpq hP hS => ?_)
          obtain ⟨hr_, hu_⟩ := hpq
          have hr_ := hr_.symm
          have hu_ := hu_.symm
          subst hr_
          subst hu_
          refine lv_iadd hx hb dX4_loadOn_35 ?_
          refine lv_istore_n (lv' := [(2, .int (x2 + (a_loadBy (vP σ 33) (nI j) k))), (3, .int (nI j)), (0, .ref (G.1 o)), (1, .int k)]) hx hb dX4_loadOn_36 rfl hl (by decide) rfl (fun ls hl => ?_)
          refine lv_iinc (v := (nI (j + 1))) (lv' := [(3, .int (nI (j + 1))), (2, .int (x2 + (a_loadBy (vP σ 33) (nI j) k))), (0, .ref (G.1 o)), (1, .int k)]) hx hb dX4_loadOn_37 hl (k := 1) rfl (nI_1 j) (by decide) rfl (fun ls hl => ?_)
          refine lv_goto (tgt := 4) hx hb dX4_loadOn_40 (by decide) ?_
          exact ih_4 (j + 1) (x2 + (a_loadBy (vP σ 33) (nI j) k)) _ _ _ (by omega) (by omega) (by simp [a_sum, vP, vS, i_leN, e_x2, u_1, c_2, -Int32.not_lt] <;> first | rfl | simp_all) hP hS (lv_sub hl [0, 1, 2, 3] rfl)
  exact lp_4 ((ix (σ 33 1)) - 0 + 1) 0 0 _ _ _ (by omega) (by omega) (by first | rfl | simp [a_sum, vP, vS, i_leN, -Int32.not_lt] <;> first | rfl | simp_all) hP hS (lv_sub hl [0, 1, 2, 3] rfl)
set_option maxHeartbeats 4000000 in
set_option maxRecDepth 100000 in
theorem c_X4_isUp (G : GT) (l : Launch) (σ : Mem) (o : Nat) (k : Int32) (ho : oSc o) : CI G 74 (cX G) l yX4_isUp ({ frames := 1, cells := 0, slots := 0, locals := 21 } : Room) cX4_isUp 2 (some .boolean) [.ref (G.1 o), .int k] σ (fun (r : Int32) u => r = b2i (a_isUp (vP σ 33) (vS σ o) k) ∧ u = σ) := by
  intro sz
  refine xbegin (by decide) (Nat.le_of_ble_eq_true rfl) ?_
  intro p e s m below meth c ls hsz ha hP hl
  subst hsz
  have hx := ha.1
  have hb := ha.2.1
  have hS : va_S (xA G 74 s.heap.size) s.heap s.heap [] := va_S.rf
  have hl : lv_has ls 2 [(0, .ref (G.1 o)), (1, .int k)] := hl
  have k_0 : (0 : Int32).toInt = 0 := by decide
  have k_1 : (1 : Int32).toInt = 1 := by decide
  refine lv_aload_n hx hb dX4_isUp_0 rfl (lv_at hl 0 rfl) ?_
  refine g4_18 ha hP o (oSc_lt0 ho) (sSc ho) (v := .ref (G.1 33)) rfl dX4_isUp_1 ?_
  refine lv_iload_n hx hb dX4_isUp_4 rfl (lv_at hl 1 rfl) ?_
  refine xVi ha hP hS (As := [.int k]) (rest := []) 33 (by decide) (cX_33 G _) rfl rfl (c_X2_isPole G l σ 33 k (by unfold oPl; omega)) kw_X4_73 hd_X2_isPole rfl ⟨rfl, rfl⟩ ⟨Nat.le_of_ble_eq_true rfl, Nat.le_of_ble_eq_true rfl⟩ ⟨Nat.zero_le _, Nat.zero_le _⟩ hl.1 (Nat.le_of_ble_eq_true rfl) rfl dX4_isUp_5 (fun r u H locs hpq hP hS => ?_)
  obtain ⟨hr_, hu_⟩ := hpq
  have hr_ := hr_.symm
  have hu_ := hu_.symm
  subst hr_
  subst hu_
  refine lv_if_eq (tgt := 26) hx hb dX4_isUp_8 (by decide) (fun c_1 => ?_) (fun c_1 => ?_)
  · have t_1 := b2i_f c_1
    refine lv_iconst (v := 0) hx hb dX4_isUp_26 (by decide) ?_
    exact xzret ha hP hS rfl dX4_isUp_27 ⟨by simp [b2i, a_isUp, vS, i_leN, t_1, -Int32.not_lt] <;> first | rfl | simp_all, rfl⟩ rfl
  · have t_1 := b2i_t c_1
    have f_1 := isPole_t t_1
    refine lv_aload_n hx hb dX4_isUp_11 rfl (lv_at hl 0 rfl) ?_
    refine g4_22 ha hP o (oSc_lt0 ho) (sSc ho) (v := .int (σ o 0)) rfl dX4_isUp_12 ?_
    refine lv_iload_n hx hb dX4_isUp_15 rfl (lv_at hl 1 rfl) ?_
    refine lv_ishr hx hb dX4_isUp_16 ?_
    refine lv_iconst (v := 1) hx hb dX4_isUp_17 (by decide) ?_
    refine lv_iand hx hb dX4_isUp_18 ?_
    refine lv_if_ne (tgt := 26) hx hb dX4_isUp_19 (by decide) (fun c_2 => ?_) (fun c_2 => ?_)
    · have t_2 := i_ne c_2
      refine lv_iconst (v := 0) hx hb dX4_isUp_26 (by decide) ?_
      exact xzret ha hP hS rfl dX4_isUp_27 ⟨by simp [b2i, a_isUp, vS, i_leN, t_1, c_2, -Int32.not_lt] <;> first | rfl | simp_all, rfl⟩ rfl
    · have t_2 := i_eq c_2
      refine lv_iconst (v := 1) hx hb dX4_isUp_22 (by decide) ?_
      refine lv_goto (tgt := 27) hx hb dX4_isUp_23 (by decide) ?_
      exact xzret ha hP hS rfl dX4_isUp_27 ⟨by simp [b2i, a_isUp, vS, i_leN, t_1, c_2, -Int32.not_lt] <;> first | rfl | simp_all, rfl⟩ rfl
set_option maxHeartbeats 4000000 in
set_option maxRecDepth 100000 in
theorem c_X4_isSeated (G : GT) (l : Launch) (σ : Mem) (o : Nat) (i : Int32) (ho : oSc o) : CI G 74 (cX G) l yX4_isSeated ({ frames := 1, cells := 0, slots := 0, locals := 21 } : Room) cX4_isSeated 2 (some .boolean) [.ref (G.1 o), .int i] σ (fun (r : Int32) u => r = b2i (a_isSeated (vP σ 33) (vS σ o) i) ∧ u = σ) := by
  intro sz
  refine xbegin (by decide) (Nat.le_of_ble_eq_true rfl) ?_
  intro p e s m below meth c ls hsz ha hP hl
  subst hsz
  have hx := ha.1
  have hb := ha.2.1
  have hS : va_S (xA G 74 s.heap.size) s.heap s.heap [] := va_S.rf
  have hl : lv_has ls 2 [(0, .ref (G.1 o)), (1, .int i)] := hl
  have k_m9 : (-9 : Int32).toInt = -9 := by decide
  have k_0 : (0 : Int32).toInt = 0 := by decide
  have k_1 : (1 : Int32).toInt = 1 := by decide
  refine lv_aload_n hx hb dX4_isSeated_0 rfl (lv_at hl 0 rfl) ?_
  refine g4_18 ha hP o (oSc_lt0 ho) (sSc ho) (v := .ref (G.1 33)) rfl dX4_isSeated_1 ?_
  refine lv_iload_n hx hb dX4_isSeated_4 rfl (lv_at hl 1 rfl) ?_
  refine xVi ha hP hS (As := [.int i]) (rest := []) 33 (by decide) (cX_33 G _) rfl rfl (c_X2_isOne G l σ 33 i (by unfold oPl; omega)) kw_X4_61 hd_X2_isOne rfl ⟨rfl, rfl⟩ ⟨Nat.le_of_ble_eq_true rfl, Nat.le_of_ble_eq_true rfl⟩ ⟨Nat.zero_le _, Nat.zero_le _⟩ hl.1 (Nat.le_of_ble_eq_true rfl) rfl dX4_isSeated_5 (fun r u H locs hpq hP hS => ?_)
  obtain ⟨hr_, hu_⟩ := hpq
  have hr_ := hr_.symm
  have hu_ := hu_.symm
  subst hr_
  subst hu_
  refine lv_if_eq (tgt := 26) hx hb dX4_isSeated_8 (by decide) (fun c_1 => ?_) (fun c_1 => ?_)
  · have t_1 := b2i_f c_1
    refine lv_iconst (v := 0) hx hb dX4_isSeated_26 (by decide) ?_
    exact xzret ha hP hS rfl dX4_isSeated_27 ⟨by simp [b2i, a_isSeated, vS, i_leN, t_1, -Int32.not_lt] <;> first | rfl | simp_all, rfl⟩ rfl
  · have t_1 := b2i_t c_1
    have f_1 := isOne_t t_1
    refine lv_aload_n hx hb dX4_isSeated_11 rfl (lv_at hl 0 rfl) ?_
    refine g4_15 ha hP o (oSc_lt0 ho) (sSc ho) (v := .ref (G.1 (o + 2))) rfl dX4_isSeated_12 ?_
    refine lv_iload_n hx hb dX4_isSeated_15 rfl (lv_at hl 1 rfl) ?_
    refine xialdN ha hP (o + 2) (oSc_lt2 ho) (sSc2 ho) (ix i) (ix_nI (by omega)) (ix_lt (by omega) (by omega)) (by decide) dX4_isSeated_16 ?_
    refine lv_bipush (v := (-9)) hx hb dX4_isSeated_17 (by decide) ?_
    refine lv_icmp_eq (tgt := 26) hx hb dX4_isSeated_19 (by decide) (fun c_2 => ?_) (fun c_2 => ?_)
    · have t_2 := i_eq c_2
      refine lv_iconst (v := 0) hx hb dX4_isSeated_26 (by decide) ?_
      exact xzret ha hP hS rfl dX4_isSeated_27 ⟨by simp [b2i, a_isSeated, vS, i_leN, t_1, c_2, -Int32.not_lt] <;> first | rfl | simp_all, rfl⟩ rfl
    · have t_2 := i_ne c_2
      refine lv_iconst (v := 1) hx hb dX4_isSeated_22 (by decide) ?_
      refine lv_goto (tgt := 27) hx hb dX4_isSeated_23 (by decide) ?_
      exact xzret ha hP hS rfl dX4_isSeated_27 ⟨by simp [b2i, a_isSeated, vS, i_leN, t_1, c_2, -Int32.not_lt] <;> first | rfl | simp_all, rfl⟩ rfl
set_option maxHeartbeats 4000000 in
set_option maxRecDepth 100000 in
theorem c_X4_bearsNow (G : GT) (l : Launch) (σ : Mem) (o : Nat) (k : Int32) (ho : oSc o) (hp : PO 33 σ) : CI G 74 (cX G) l yX4_bearsNow ({ frames := 2, cells := 0, slots := 0, locals := 47 } : Room) cX4_bearsNow 2 (some .int) [.ref (G.1 o), .int k] σ (fun (r : Int32) u => r = a_bearsNow (vP σ 33) (vS σ o) k ∧ u = σ) := by
  intro sz
  refine xbegin (by decide) (Nat.le_of_ble_eq_true rfl) ?_
  intro p e s m below meth c ls hsz ha hP hl
  subst hsz
  have hx := ha.1
  have hb := ha.2.1
  have hS : va_S (xA G 74 s.heap.size) s.heap s.heap [] := va_S.rf
  have hl : lv_has ls 2 [(0, .ref (G.1 o)), (1, .int k)] := hl
  have k_0 : (0 : Int32).toInt = 0 := by decide
  have hp1 := hp.2.1
  refine lv_aload_n hx hb dX4_bearsNow_0 rfl (lv_at hl 0 rfl) ?_
  refine g4_18 ha hP o (oSc_lt0 ho) (sSc ho) (v := .ref (G.1 33)) rfl dX4_bearsNow_1 ?_
  refine lv_iload_n hx hb dX4_bearsNow_4 rfl (lv_at hl 1 rfl) ?_
  refine xVi ha hP hS (As := [.int k]) (rest := []) 33 (by decide) (cX_33 G _) rfl rfl (c_X2_isPole G l σ 33 k (by unfold oPl; omega)) kw_X4_73 hd_X2_isPole rfl ⟨rfl, rfl⟩ ⟨Nat.le_of_ble_eq_true rfl, Nat.le_of_ble_eq_true rfl⟩ ⟨Nat.zero_le _, Nat.zero_le _⟩ hl.1 (Nat.le_of_ble_eq_true rfl) rfl dX4_bearsNow_5 (fun r u H locs hpq hP hS => ?_)
  obtain ⟨hr_, hu_⟩ := hpq
  have hr_ := hr_.symm
  have hu_ := hu_.symm
  subst hr_
  subst hu_
  refine lv_if_eq (tgt := 50) hx hb dX4_bearsNow_8 (by decide) (fun c_1 => ?_) (fun c_1 => ?_)
  · have t_1 := b2i_f c_1
    refine lv_iconst (v := 0) hx hb dX4_bearsNow_50 (by decide) ?_
    exact xiret ha hP hS dX4_bearsNow_51 ⟨by simp [a_bearsNow, vP, vS, i_leN, t_1, -Int32.not_lt] <;> first | rfl | simp_all, rfl⟩ rfl
  · have t_1 := b2i_t c_1
    have f_1 := isPole_t t_1
    refine lv_aload_n hx hb dX4_bearsNow_11 rfl (lv_at hl 0 rfl) ?_
    refine g4_18 ha hP o (oSc_lt0 ho) (sSc ho) (v := .ref (G.1 33)) rfl dX4_bearsNow_12 ?_
    refine g4_101 ha hP 33 (by decide) (cX_33 G _) (v := .ref (G.1 34)) rfl dX4_bearsNow_15 ?_
    refine lv_iload_n hx hb dX4_bearsNow_18 rfl (lv_at hl 1 rfl) ?_
    refine xialdN ha hP 34 (by decide) (cX_34 G _) (ix k) (ix_nI (by omega)) (ix_lt (by omega) (by omega)) (by decide) dX4_bearsNow_19 ?_
    refine lv_aload_n hx hb dX4_bearsNow_20 rfl (lv_at hl 0 rfl) ?_
    refine g4_18 ha hP o (oSc_lt0 ho) (sSc ho) (v := .ref (G.1 33)) rfl dX4_bearsNow_21 ?_
    refine g4_104 ha hP 33 (by decide) (cX_33 G _) (v := .ref (G.1 35)) rfl dX4_bearsNow_24 ?_
    refine lv_iload_n hx hb dX4_bearsNow_27 rfl (lv_at hl 1 rfl) ?_
    refine xialdN ha hP 35 (by decide) (cX_35 G _) (ix k) (ix_nI (by omega)) (ix_lt (by omega) (by omega)) (by decide) dX4_bearsNow_28 ?_
    refine lv_aload_n hx hb dX4_bearsNow_29 rfl (lv_at hl 0 rfl) ?_
    refine g4_18 ha hP o (oSc_lt0 ho) (sSc ho) (v := .ref (G.1 33)) rfl dX4_bearsNow_30 ?_
    refine g4_107 ha hP 33 (by decide) (cX_33 G _) (v := .ref (G.1 36)) rfl dX4_bearsNow_33 ?_
    refine lv_iload_n hx hb dX4_bearsNow_36 rfl (lv_at hl 1 rfl) ?_
    refine xialdN ha hP 36 (by decide) (cX_36 G _) (ix k) (ix_nI (by omega)) (ix_lt (by omega) (by omega)) (by decide) dX4_bearsNow_37 ?_
    refine lv_aload_n hx hb dX4_bearsNow_38 rfl (lv_at hl 0 rfl) ?_
    refine g4_9 ha hP o (oSc_lt0 ho) (sSc ho) (v := .ref (G.1 (o + 1))) rfl dX4_bearsNow_39 ?_
    refine lv_iload_n hx hb dX4_bearsNow_42 rfl (lv_at hl 1 rfl) ?_
    refine xialdN ha hP (o + 1) (oSc_lt1 ho) (sSc1 ho) (ix k) (ix_nI (by omega)) (ix_lt (by omega) (by omega)) (by decide) dX4_bearsNow_43 ?_
    refine xNi ha hP hS (As := [.int (σ 34 (ix k)), .int (σ 35 (ix k)), .int (σ 36 (ix k)), .int (σ (o + 1) (ix k))]) (rest := []) "PoleNave" (nb_in (by decide +kernel)) (c_X7_bearing G l σ (σ 34 (ix k)) (σ 35 (ix k)) (σ 36 (ix k)) (σ (o + 1) (ix k)) ) kw_X4_110 hd_X7_bearing rfl ⟨rfl, rfl⟩ ⟨Nat.le_of_ble_eq_true rfl, Nat.le_of_ble_eq_true rfl⟩ ⟨Nat.zero_le _, Nat.zero_le _⟩ hl.1 (Nat.le_of_ble_eq_true rfl) rfl dX4_bearsNow_44 (fun r u H locs hpq hP hS => ?_)
    obtain ⟨hr_, hu_⟩ := hpq
    have hr_ := hr_.symm
    have hu_ := hu_.symm
    subst hr_
    subst hu_
    refine lv_goto (tgt := 51) hx hb dX4_bearsNow_47 (by decide) ?_
    exact xiret ha hP hS dX4_bearsNow_51 ⟨by simp [a_bearsNow, vP, vS, i_leN, t_1, -Int32.not_lt] <;> first | rfl | simp_all, rfl⟩ rfl
set_option maxHeartbeats 4000000 in
set_option maxRecDepth 100000 in
theorem c_X4_bearsAs (G : GT) (l : Launch) (σ : Mem) (o : Nat) (k : Int32) (kind : Int32) (ho : oSc o) (hp : PO 33 σ) : CI G 74 (cX G) l yX4_bearsAs ({ frames := 2, cells := 0, slots := 0, locals := 47 } : Room) cX4_bearsAs 3 (some .int) [.ref (G.1 o), .int k, .int kind] σ (fun (r : Int32) u => r = a_bearsAs (vP σ 33) (vS σ o) k kind ∧ u = σ) := by
  intro sz
  refine xbegin (by decide) (Nat.le_of_ble_eq_true rfl) ?_
  intro p e s m below meth c ls hsz ha hP hl
  subst hsz
  have hx := ha.1
  have hb := ha.2.1
  have hS : va_S (xA G 74 s.heap.size) s.heap s.heap [] := va_S.rf
  have hl : lv_has ls 3 [(0, .ref (G.1 o)), (1, .int k), (2, .int kind)] := hl
  have k_0 : (0 : Int32).toInt = 0 := by decide
  have hp1 := hp.2.1
  refine lv_aload_n hx hb dX4_bearsAs_0 rfl (lv_at hl 0 rfl) ?_
  refine g4_18 ha hP o (oSc_lt0 ho) (sSc ho) (v := .ref (G.1 33)) rfl dX4_bearsAs_1 ?_
  refine lv_iload_n hx hb dX4_bearsAs_4 rfl (lv_at hl 1 rfl) ?_
  refine xVi ha hP hS (As := [.int k]) (rest := []) 33 (by decide) (cX_33 G _) rfl rfl (c_X2_isPole G l σ 33 k (by unfold oPl; omega)) kw_X4_73 hd_X2_isPole rfl ⟨rfl, rfl⟩ ⟨Nat.le_of_ble_eq_true rfl, Nat.le_of_ble_eq_true rfl⟩ ⟨Nat.zero_le _, Nat.zero_le _⟩ hl.1 (Nat.le_of_ble_eq_true rfl) rfl dX4_bearsAs_5 (fun r u H locs hpq hP hS => ?_)
  obtain ⟨hr_, hu_⟩ := hpq
  have hr_ := hr_.symm
  have hu_ := hu_.symm
  subst hr_
  subst hu_
  refine lv_if_eq (tgt := 42) hx hb dX4_bearsAs_8 (by decide) (fun c_1 => ?_) (fun c_1 => ?_)
  · have t_1 := b2i_f c_1
    refine lv_iconst (v := 0) hx hb dX4_bearsAs_42 (by decide) ?_
    exact xiret ha hP hS dX4_bearsAs_43 ⟨by simp [a_bearsAs, vP, vS, i_leN, t_1, -Int32.not_lt] <;> first | rfl | simp_all, rfl⟩ rfl
  · have t_1 := b2i_t c_1
    have f_1 := isPole_t t_1
    refine lv_iload_n hx hb dX4_bearsAs_11 rfl (lv_at hl 2 rfl) ?_
    refine lv_aload_n hx hb dX4_bearsAs_12 rfl (lv_at hl 0 rfl) ?_
    refine g4_18 ha hP o (oSc_lt0 ho) (sSc ho) (v := .ref (G.1 33)) rfl dX4_bearsAs_13 ?_
    refine g4_104 ha hP 33 (by decide) (cX_33 G _) (v := .ref (G.1 35)) rfl dX4_bearsAs_16 ?_
    refine lv_iload_n hx hb dX4_bearsAs_19 rfl (lv_at hl 1 rfl) ?_
    refine xialdN ha hP 35 (by decide) (cX_35 G _) (ix k) (ix_nI (by omega)) (ix_lt (by omega) (by omega)) (by decide) dX4_bearsAs_20 ?_
    refine lv_aload_n hx hb dX4_bearsAs_21 rfl (lv_at hl 0 rfl) ?_
    refine g4_18 ha hP o (oSc_lt0 ho) (sSc ho) (v := .ref (G.1 33)) rfl dX4_bearsAs_22 ?_
    refine g4_107 ha hP 33 (by decide) (cX_33 G _) (v := .ref (G.1 36)) rfl dX4_bearsAs_25 ?_
    refine lv_iload_n hx hb dX4_bearsAs_28 rfl (lv_at hl 1 rfl) ?_
    refine xialdN ha hP 36 (by decide) (cX_36 G _) (ix k) (ix_nI (by omega)) (ix_lt (by omega) (by omega)) (by decide) dX4_bearsAs_29 ?_
    refine lv_aload_n hx hb dX4_bearsAs_30 rfl (lv_at hl 0 rfl) ?_
    refine g4_9 ha hP o (oSc_lt0 ho) (sSc ho) (v := .ref (G.1 (o + 1))) rfl dX4_bearsAs_31 ?_
    refine lv_iload_n hx hb dX4_bearsAs_34 rfl (lv_at hl 1 rfl) ?_
    refine xialdN ha hP (o + 1) (oSc_lt1 ho) (sSc1 ho) (ix k) (ix_nI (by omega)) (ix_lt (by omega) (by omega)) (by decide) dX4_bearsAs_35 ?_
    refine xNi ha hP hS (As := [.int kind, .int (σ 35 (ix k)), .int (σ 36 (ix k)), .int (σ (o + 1) (ix k))]) (rest := []) "PoleNave" (nb_in (by decide +kernel)) (c_X7_bearing G l σ kind (σ 35 (ix k)) (σ 36 (ix k)) (σ (o + 1) (ix k)) ) kw_X4_110 hd_X7_bearing rfl ⟨rfl, rfl⟩ ⟨Nat.le_of_ble_eq_true rfl, Nat.le_of_ble_eq_true rfl⟩ ⟨Nat.zero_le _, Nat.zero_le _⟩ hl.1 (Nat.le_of_ble_eq_true rfl) rfl dX4_bearsAs_36 (fun r u H locs hpq hP hS => ?_)
    obtain ⟨hr_, hu_⟩ := hpq
    have hr_ := hr_.symm
    have hu_ := hu_.symm
    subst hr_
    subst hu_
    refine lv_goto (tgt := 43) hx hb dX4_bearsAs_39 (by decide) ?_
    exact xiret ha hP hS dX4_bearsAs_43 ⟨by simp [a_bearsAs, vP, vS, i_leN, t_1, -Int32.not_lt] <;> first | rfl | simp_all, rfl⟩ rfl
set_option maxHeartbeats 4000000 in
set_option maxRecDepth 100000 in
theorem c_X4_stands (G : GT) (l : Launch) (σ : Mem) (o : Nat) (k : Int32) (ho : oSc o) (hp : PO 33 σ) : CI G 74 (cX G) l yX4_stands ({ frames := 3, cells := 0, slots := 0, locals := 68 } : Room) cX4_stands 2 (some .boolean) [.ref (G.1 o), .int k] σ (fun (r : Int32) u => r = b2i (a_stands (vP σ 33) (vS σ o) k) ∧ u = σ) := by
  intro sz
  refine xbegin (by decide) (Nat.le_of_ble_eq_true rfl) ?_
  intro p e s m below meth c ls hsz ha hP hl
  subst hsz
  have hx := ha.1
  have hb := ha.2.1
  have hS : va_S (xA G 74 s.heap.size) s.heap s.heap [] := va_S.rf
  have hl : lv_has ls 2 [(0, .ref (G.1 o)), (1, .int k)] := hl
  have k_0 : (0 : Int32).toInt = 0 := by decide
  have k_1 : (1 : Int32).toInt = 1 := by decide
  refine lv_aload_n hx hb dX4_stands_0 rfl (lv_at hl 0 rfl) ?_
  refine lv_iload_n hx hb dX4_stands_1 rfl (lv_at hl 1 rfl) ?_
  refine xVi ha hP hS (As := [.int k]) (rest := []) o (oSc_lt0 ho) (sSc ho) rfl rfl (c_X4_isUp G l σ o k ho) kw_X4_79 hd_X4_isUp rfl ⟨rfl, rfl⟩ ⟨Nat.le_of_ble_eq_true rfl, Nat.le_of_ble_eq_true rfl⟩ ⟨Nat.zero_le _, Nat.zero_le _⟩ hl.1 (Nat.le_of_ble_eq_true rfl) rfl dX4_stands_2 (fun r u H locs hpq hP hS => ?_)
  obtain ⟨hr_, hu_⟩ := hpq
  have hr_ := hr_.symm
  have hu_ := hu_.symm
  subst hr_
  subst hu_
  refine lv_if_eq (tgt := 25) hx hb dX4_stands_5 (by decide) (fun c_1 => ?_) (fun c_1 => ?_)
  · have t_1 := b2i_f c_1
    refine lv_iconst (v := 0) hx hb dX4_stands_25 (by decide) ?_
    exact xzret ha hP hS rfl dX4_stands_26 ⟨by simp [b2i, a_stands, i_leN, t_1, -Int32.not_lt] <;> first | rfl | simp_all, rfl⟩ rfl
  · have t_1 := b2i_t c_1
    refine lv_aload_n hx hb dX4_stands_8 rfl (lv_at hl 0 rfl) ?_
    refine lv_iload_n hx hb dX4_stands_9 rfl (lv_at hl 1 rfl) ?_
    refine xVi ha hP hS (As := [.int k]) (rest := []) o (oSc_lt0 ho) (sSc ho) rfl rfl (c_X4_loadOn G l σ o k ho hp) kw_X4_67 hd_X4_loadOn rfl ⟨rfl, rfl⟩ ⟨Nat.le_of_ble_eq_true rfl, Nat.le_of_ble_eq_true rfl⟩ ⟨Nat.zero_le _, Nat.zero_le _⟩ hl.1 (Nat.le_of_ble_eq_true rfl) rfl dX4_stands_10 (fun r u H locs hpq hP hS => ?_)
    obtain ⟨hr_, hu_⟩ := hpq
    have hr_ := hr_.symm
    have hu_ := hu_.symm
    subst hr_
    subst hu_
    refine lv_aload_n hx hb dX4_stands_13 rfl (lv_at hl 0 rfl) ?_
    refine lv_iload_n hx hb dX4_stands_14 rfl (lv_at hl 1 rfl) ?_
    refine xVi ha hP hS (As := [.int k]) (rest := [.int (a_load (vP σ 33) (vS σ o) k)]) o (oSc_lt0 ho) (sSc ho) rfl rfl (c_X4_bearsNow G l σ o k ho hp) kw_X4_82 hd_X4_bearsNow rfl ⟨rfl, rfl⟩ ⟨Nat.le_of_ble_eq_true rfl, Nat.le_of_ble_eq_true rfl⟩ ⟨Nat.zero_le _, Nat.zero_le _⟩ hl.1 (Nat.le_of_ble_eq_true rfl) rfl dX4_stands_15 (fun r u H locs hpq hP hS => ?_)
    obtain ⟨hr_, hu_⟩ := hpq
    have hr_ := hr_.symm
    have hu_ := hu_.symm
    subst hr_
    subst hu_
    refine lv_icmp_gt (tgt := 25) hx hb dX4_stands_18 (by decide) (fun c_2 => ?_) (fun c_2 => ?_)
    · have t_2 := i_lt c_2
      refine lv_iconst (v := 0) hx hb dX4_stands_25 (by decide) ?_
      exact xzret ha hP hS rfl dX4_stands_26 ⟨by simp [b2i, a_stands, i_leN, t_1, c_2, -Int32.not_lt] <;> first | rfl | simp_all, rfl⟩ rfl
    · have t_2 := i_nlt c_2
      refine lv_iconst (v := 1) hx hb dX4_stands_21 (by decide) ?_
      refine lv_goto (tgt := 26) hx hb dX4_stands_22 (by decide) ?_
      exact xzret ha hP hS rfl dX4_stands_26 ⟨by simp [b2i, a_stands, i_leN, t_1, c_2, -Int32.not_lt] <;> first | rfl | simp_all, rfl⟩ rfl
set_option maxHeartbeats 4000000 in
set_option maxRecDepth 100000 in
theorem c_X4_up (G : GT) (l : Launch) (σ : Mem) (o : Nat) (ho : oSc o) : CI G 74 (cX G) l yX4_up ({ frames := 0, cells := 0, slots := 0, locals := 0 } : Room) cX4_up 1 (some .int) [.ref (G.1 o)] σ (fun (r : Int32) u => r = a_up (vP σ 33) (vS σ o) ∧ u = σ) := by
  intro sz
  refine xbegin (by decide) (Nat.le_of_ble_eq_true rfl) ?_
  intro p e s m below meth c ls hsz ha hP hl
  subst hsz
  have hx := ha.1
  have hb := ha.2.1
  have hS : va_S (xA G 74 s.heap.size) s.heap s.heap [] := va_S.rf
  have hl : lv_has ls 1 [(0, .ref (G.1 o))] := hl
  have k_m1 : (-1 : Int32).toInt = -1 := by decide
  have k_0 : (0 : Int32).toInt = 0 := by decide
  have k_1 : (1 : Int32).toInt = 1 := by decide
  refine lv_iconst (v := 1) hx hb dX4_up_0 (by decide) ?_
  refine lv_aload_n hx hb dX4_up_1 rfl (lv_at hl 0 rfl) ?_
  refine g4_18 ha hP o (oSc_lt0 ho) (sSc ho) (v := .ref (G.1 33)) rfl dX4_up_2 ?_
  refine g4_76 ha hP 33 (by decide) (cX_33 G _) (v := .int (σ 33 0)) rfl dX4_up_5 ?_
  refine lv_ishl hx hb dX4_up_8 ?_
  refine lv_iconst (v := 1) hx hb dX4_up_9 (by decide) ?_
  refine lv_isub hx hb dX4_up_10 ?_
  refine lv_aload_n hx hb dX4_up_11 rfl (lv_at hl 0 rfl) ?_
  refine g4_22 ha hP o (oSc_lt0 ho) (sSc ho) (v := .int (σ o 0)) rfl dX4_up_12 ?_
  refine lv_iconst (v := (-1)) hx hb dX4_up_15 (by decide) ?_
  refine lv_ixor hx hb dX4_up_16 ?_
  refine lv_iand hx hb dX4_up_17 ?_
  exact xiret ha hP hS dX4_up_18 ⟨by simp [a_up, vP, vS, i_leN, -Int32.not_lt] <;> first | rfl | simp_all, rfl⟩ rfl
set_option maxHeartbeats 4000000 in
set_option maxRecDepth 100000 in
theorem c_X4_standing (G : GT) (l : Launch) (σ : Mem) (o : Nat) (ho : oSc o) (hp : PO 33 σ) : CI G 74 (cX G) l yX4_standing ({ frames := 4, cells := 0, slots := 0, locals := 89 } : Room) cX4_standing 3 (some .int) [.ref (G.1 o)] σ (fun (r : Int32) u => r = a_standing (vP σ 33) (vS σ o) ∧ u = σ) := by
  intro sz
  refine xbegin (by decide) (Nat.le_of_ble_eq_true rfl) ?_
  intro p e s m below meth c ls hsz ha hP hl
  subst hsz
  have hx := ha.1
  have hb := ha.2.1
  have hS : va_S (xA G 74 s.heap.size) s.heap s.heap [] := va_S.rf
  have hl : lv_has ls 3 [(0, .ref (G.1 o))] := hl
  have k_0 : (0 : Int32).toInt = 0 := by decide
  have k_1 : (1 : Int32).toInt = 1 := by decide
  obtain ⟨hn, hn4, hnt⟩ := PO_pl hp
  refine lv_iconst (v := 0) hx hb dX4_standing_0 (by decide) ?_
  refine lv_istore_n (lv' := [(1, .int 0), (0, .ref (G.1 o))]) hx hb dX4_standing_1 rfl hl (by decide) rfl (fun ls hl => ?_)
  refine lv_iconst (v := 0) hx hb dX4_standing_2 (by decide) ?_
  refine lv_istore_n (lv' := [(2, .int 0), (1, .int 0), (0, .ref (G.1 o))]) hx hb dX4_standing_3 rfl hl (by decide) rfl (fun ls hl => ?_)
  have lp_4 : ∀ (d j : Nat) (x1 : Int32) (H : Heap) (locs : List Loc) (ls : Array Slot), j ≤ (ix (σ 33 0)) → (ix (σ 33 0)) - j < d → x1 = a_bits (fun k => a_stands (vP σ 33) (vS σ o) (nI k)) j → va_P G.2.1 vwCl (wl G 74 (cX G σ)) H → va_S (xA G 74 s.heap.size) s.heap H locs → lv_has ls 3 [(2, .int (nI j)), (1, .int x1), (0, .ref (G.1 o))] → W p l e ({ frames := 4, cells := 0, slots := 0, locals := 89 } : Room) s m ([.ref (G.1 o)] : List Value).toArray below meth c H locs 0 0 (MQ below (va_Qi (fun (r : Int32) u => r = a_standing (vP σ 33) (vS σ o) ∧ u = σ) (xB G 74 (cX G)) (xA G 74 s.heap.size)) ([.ref (G.1 o)] : List Value).toArray s 0 0 (xA G 74 s.heap.size)) (F0 m 4 ls []) := by
    intro d
    induction d with
    | zero => intro j x1 H locs ls hj hd; exact absurd hd (Nat.not_lt_zero _)
    | succ d ih_4 =>
      intro j x1 H locs ls hj_j hd_j e_x1 hP hS hl
      have h31_j : (nI j).toInt = (j : Int) := nI_toInt (by omega)
      refine lv_iload_n hx hb dX4_standing_4 rfl (lv_at hl 0 rfl) ?_
      refine lv_aload_n hx hb dX4_standing_5 rfl (lv_at hl 2 rfl) ?_
      refine g4_18 ha hP o (oSc_lt0 ho) (sSc ho) (v := .ref (G.1 33)) rfl dX4_standing_6 ?_
      refine g4_76 ha hP 33 (by decide) (cX_33 G _) (v := .int (σ 33 0)) rfl dX4_standing_9 ?_
      refine lv_icmp_ge (tgt := 35) hx hb dX4_standing_12 (by decide) (fun c_1 => ?_) (fun c_1 => ?_)
      · have t_1 := i_le c_1
        have u_1 := u_le c_1
        obtain rfl : j = (ix (σ 33 0)) := by omega
        refine lv_iload_n hx hb dX4_standing_35 rfl (lv_at hl 1 rfl) ?_
        exact xiret ha hP hS dX4_standing_36 ⟨by simp [a_standing, nPl, vP, vS, i_leN, e_x1, u_1, -Int32.not_lt] <;> first | rfl | simp_all, rfl⟩ rfl
      · have t_1 := i_nle c_1
        have u_1 := u_nle c_1
        have hlt_j : j < (ix (σ 33 0)) := by omega
        refine lv_aload_n hx hb dX4_standing_15 rfl (lv_at hl 2 rfl) ?_
        refine lv_iload_n hx hb dX4_standing_16 rfl (lv_at hl 0 rfl) ?_
        refine xVi ha hP hS (As := [.int (nI j)]) (rest := []) o (oSc_lt0 ho) (sSc ho) rfl rfl (c_X4_stands G l σ o (nI j) ho hp) kw_X4_95 hd_X4_stands rfl ⟨rfl, rfl⟩ ⟨Nat.le_of_ble_eq_true rfl, Nat.le_of_ble_eq_true rfl⟩ ⟨Nat.zero_le _, Nat.zero_le _⟩ hl.1 (Nat.le_of_ble_eq_true rfl) rfl dX4_standing_17 (fun r u H locs hpq hP hS => ?_)
        obtain ⟨hr_, hu_⟩ := hpq
        have hr_ := hr_.symm
        have hu_ := hu_.symm
        subst hr_
        subst hu_
        refine lv_if_eq (tgt := 29) hx hb dX4_standing_20 (by decide) (fun c_2 => ?_) (fun c_2 => ?_)
        · have t_2 := b2i_f c_2
          refine lv_iinc (v := (nI (j + 1))) (lv' := [(2, .int (nI (j + 1))), (1, .int x1), (0, .ref (G.1 o))]) hx hb dX4_standing_29 hl (k := 0) rfl (nI_1 j) (by decide) rfl (fun ls hl => ?_)
          refine lv_goto (tgt := 4) hx hb dX4_standing_32 (by decide) ?_
          exact ih_4 (j + 1) x1 _ _ _ (by omega) (by omega) (by simp [a_bits, i_leN, e_x1, u_1, t_2, -Int32.not_lt] <;> first | rfl | simp_all) hP hS (lv_sub hl [0, 1, 2] rfl)
        · have t_2 := b2i_t c_2
          refine lv_iload_n hx hb dX4_standing_23 rfl (lv_at hl 1 rfl) ?_
          refine lv_iconst (v := 1) hx hb dX4_standing_24 (by decide) ?_
          refine lv_iload_n hx hb dX4_standing_25 rfl (lv_at hl 0 rfl) ?_
          refine lv_ishl hx hb dX4_standing_26 ?_
          refine lv_ior hx hb dX4_standing_27 ?_
          refine lv_istore_n (lv' := [(1, .int (x1 ||| (1 <<< (nI j &&& 31)))), (2, .int (nI j)), (0, .ref (G.1 o))]) hx hb dX4_standing_28 rfl hl (by decide) rfl (fun ls hl => ?_)
          refine lv_iinc (v := (nI (j + 1))) (lv' := [(2, .int (nI (j + 1))), (1, .int (x1 ||| (1 <<< (nI j &&& 31)))), (0, .ref (G.1 o))]) hx hb dX4_standing_29 hl (k := 1) rfl (nI_1 j) (by decide) rfl (fun ls hl => ?_)
          refine lv_goto (tgt := 4) hx hb dX4_standing_32 (by decide) ?_
          exact ih_4 (j + 1) (x1 ||| (1 <<< (nI j &&& 31))) _ _ _ (by omega) (by omega) (by simp [a_bits, i_leN, e_x1, u_1, t_2, -Int32.not_lt] <;> first | rfl | simp_all) hP hS (lv_sub hl [0, 1, 2] rfl)
  exact lp_4 ((ix (σ 33 0)) - 0 + 1) 0 0 _ _ _ (by omega) (by omega) (by first | rfl | simp [a_bits, i_leN, -Int32.not_lt] <;> first | rfl | simp_all) hP hS (lv_sub hl [0, 1, 2] rfl)
set_option maxHeartbeats 4000000 in
set_option maxRecDepth 100000 in
theorem c_X4_howManyHold (G : GT) (l : Launch) (σ : Mem) (o : Nat) (k : Int32) (kinds : Int32) (load : Int32) (ho : oSc o) (hp : PO 33 σ) : CI G 74 (cX G) l yX4_howManyHold ({ frames := 3, cells := 0, slots := 0, locals := 69 } : Room) cX4_howManyHold 6 (some .int) [.ref (G.1 o), .int k, .int kinds, .int load] σ (fun (r : Int32) u => r = a_manyHold (vP σ 33) (vS σ o) k kinds load ∧ u = σ) := by
  intro sz
  refine xbegin (by decide) (Nat.le_of_ble_eq_true rfl) ?_
  intro p e s m below meth c ls hsz ha hP hl
  subst hsz
  have hx := ha.1
  have hb := ha.2.1
  have hS : va_S (xA G 74 s.heap.size) s.heap s.heap [] := va_S.rf
  have hl : lv_has ls 6 [(0, .ref (G.1 o)), (1, .int k), (2, .int kinds), (3, .int load)] := hl
  have k_0 : (0 : Int32).toInt = 0 := by decide
  have k_1 : (1 : Int32).toInt = 1 := by decide
  have k_6 : (6 : Int32).toInt = 6 := by decide
  refine lv_iconst (v := 0) hx hb dX4_howManyHold_0 (by decide) ?_
  refine lv_istore (lv' := [(4, .int 0), (0, .ref (G.1 o)), (1, .int k), (2, .int kinds), (3, .int load)]) hx hb dX4_howManyHold_1 hl (by decide) rfl (fun ls hl => ?_)
  refine lv_iconst (v := 0) hx hb dX4_howManyHold_3 (by decide) ?_
  refine lv_istore (lv' := [(5, .int 0), (4, .int 0), (0, .ref (G.1 o)), (1, .int k), (2, .int kinds), (3, .int load)]) hx hb dX4_howManyHold_4 hl (by decide) rfl (fun ls hl => ?_)
  have lp_6 : ∀ (d j : Nat) (x4 : Int32) (H : Heap) (locs : List Loc) (ls : Array Slot), j ≤ 6 → 6 - j < d → x4 = a_sum (fun d => if (kinds >>> (nI d &&& 31)) &&& 1 = 1 ∧ load ≤ a_bearsAs (vP σ 33) (vS σ o) k (nI d) then 1 else 0) j → va_P G.2.1 vwCl (wl G 74 (cX G σ)) H → va_S (xA G 74 s.heap.size) s.heap H locs → lv_has ls 6 [(5, .int (nI j)), (4, .int x4), (0, .ref (G.1 o)), (1, .int k), (2, .int kinds), (3, .int load)] → W p l e ({ frames := 3, cells := 0, slots := 0, locals := 69 } : Room) s m ([.ref (G.1 o), .int k, .int kinds, .int load] : List Value).toArray below meth c H locs 0 0 (MQ below (va_Qi (fun (r : Int32) u => r = a_manyHold (vP σ 33) (vS σ o) k kinds load ∧ u = σ) (xB G 74 (cX G)) (xA G 74 s.heap.size)) ([.ref (G.1 o), .int k, .int kinds, .int load] : List Value).toArray s 0 0 (xA G 74 s.heap.size)) (F0 m 6 ls []) := by
    intro d
    induction d with
    | zero => intro j x4 H locs ls hj hd; exact absurd hd (Nat.not_lt_zero _)
    | succ d ih_6 =>
      intro j x4 H locs ls hj_j hd_j e_x4 hP hS hl
      have h31_j : (nI j).toInt = (j : Int) := nI_toInt (by omega)
      refine lv_iload hx hb dX4_howManyHold_6 (lv_at hl 0 rfl) ?_
      refine lv_bipush (v := 6) hx hb dX4_howManyHold_8 (by decide) ?_
      refine lv_icmp_ge (tgt := 43) hx hb dX4_howManyHold_10 (by decide) (fun c_1 => ?_) (fun c_1 => ?_)
      · have t_1 := i_le c_1
        have u_1 := u_le c_1
        obtain rfl : j = 6 := by omega
        refine lv_iload hx hb dX4_howManyHold_43 (lv_at hl 1 rfl) ?_
        exact xiret ha hP hS dX4_howManyHold_45 ⟨by simp [a_manyHold, i_leN, e_x4, u_1, -Int32.not_lt] <;> first | rfl | simp_all, rfl⟩ rfl
      · have t_1 := i_nle c_1
        have u_1 := u_nle c_1
        have hlt_j : j < 6 := by omega
        refine lv_iload_n hx hb dX4_howManyHold_13 rfl (lv_at hl 4 rfl) ?_
        refine lv_iload hx hb dX4_howManyHold_14 (lv_at hl 0 rfl) ?_
        refine lv_ishr hx hb dX4_howManyHold_16 ?_
        refine lv_iconst (v := 1) hx hb dX4_howManyHold_17 (by decide) ?_
        refine lv_iand hx hb dX4_howManyHold_18 ?_
        refine lv_iconst (v := 1) hx hb dX4_howManyHold_19 (by decide) ?_
        refine lv_icmp_ne (tgt := 37) hx hb dX4_howManyHold_20 (by decide) (fun c_2 => ?_) (fun c_2 => ?_)
        · have t_2 := i_ne c_2
          refine lv_iinc (v := (nI (j + 1))) (lv' := [(5, .int (nI (j + 1))), (4, .int x4), (0, .ref (G.1 o)), (1, .int k), (2, .int kinds), (3, .int load)]) hx hb dX4_howManyHold_37 hl (k := 0) rfl (nI_1 j) (by decide) rfl (fun ls hl => ?_)
          refine lv_goto (tgt := 6) hx hb dX4_howManyHold_40 (by decide) ?_
          exact ih_6 (j + 1) x4 _ _ _ (by omega) (by omega) (by simp [a_sum, i_leN, e_x4, u_1, c_2, -Int32.not_lt] <;> first | rfl | simp_all) hP hS (lv_sub hl [0, 1, 2, 3, 4, 5] rfl)
        · have t_2 := i_eq c_2
          refine lv_aload_n hx hb dX4_howManyHold_23 rfl (lv_at hl 2 rfl) ?_
          refine lv_iload_n hx hb dX4_howManyHold_24 rfl (lv_at hl 3 rfl) ?_
          refine lv_iload hx hb dX4_howManyHold_25 (lv_at hl 0 rfl) ?_
          refine xVi ha hP hS (As := [.int k, .int (nI j)]) (rest := []) o (oSc_lt0 ho) (sSc ho) rfl rfl (c_X4_bearsAs G l σ o k (nI j) ho hp) kw_X4_114 hd_X4_bearsAs rfl ⟨rfl, rfl⟩ ⟨Nat.le_of_ble_eq_true rfl, Nat.le_of_ble_eq_true rfl⟩ ⟨Nat.zero_le _, Nat.zero_le _⟩ hl.1 (Nat.le_of_ble_eq_true rfl) rfl dX4_howManyHold_27 (fun r u H locs hpq hP hS => ?_)
          obtain ⟨hr_, hu_⟩ := hpq
          have hr_ := hr_.symm
          have hu_ := hu_.symm
          subst hr_
          subst hu_
          refine lv_iload_n hx hb dX4_howManyHold_30 rfl (lv_at hl 5 rfl) ?_
          refine lv_icmp_lt (tgt := 37) hx hb dX4_howManyHold_31 (by decide) (fun c_3 => ?_) (fun c_3 => ?_)
          · have t_3 := i_lt c_3
            refine lv_iinc (v := (nI (j + 1))) (lv' := [(5, .int (nI (j + 1))), (4, .int x4), (0, .ref (G.1 o)), (1, .int k), (2, .int kinds), (3, .int load)]) hx hb dX4_howManyHold_37 hl (k := 0) rfl (nI_1 j) (by decide) rfl (fun ls hl => ?_)
            refine lv_goto (tgt := 6) hx hb dX4_howManyHold_40 (by decide) ?_
            exact ih_6 (j + 1) x4 _ _ _ (by omega) (by omega) (by simp [a_sum, i_leN, e_x4, u_1, c_2, c_3, -Int32.not_lt] <;> first | rfl | simp_all) hP hS (lv_sub hl [0, 1, 2, 3, 4, 5] rfl)
          · have t_3 := i_nlt c_3
            refine lv_iinc (v := (x4 + 1)) (lv' := [(4, .int (x4 + 1)), (5, .int (nI j)), (0, .ref (G.1 o)), (1, .int k), (2, .int kinds), (3, .int load)]) hx hb dX4_howManyHold_34 hl (k := 1) rfl rfl (by decide) rfl (fun ls hl => ?_)
            refine lv_iinc (v := (nI (j + 1))) (lv' := [(5, .int (nI (j + 1))), (4, .int (x4 + 1)), (0, .ref (G.1 o)), (1, .int k), (2, .int kinds), (3, .int load)]) hx hb dX4_howManyHold_37 hl (k := 1) rfl (nI_1 j) (by decide) rfl (fun ls hl => ?_)
            refine lv_goto (tgt := 6) hx hb dX4_howManyHold_40 (by decide) ?_
            exact ih_6 (j + 1) (x4 + 1) _ _ _ (by omega) (by omega) (by simp [a_sum, i_leN, e_x4, u_1, c_2, c_3, -Int32.not_lt] <;> first | rfl | simp_all) hP hS (lv_sub hl [0, 1, 2, 3, 4, 5] rfl)
  exact lp_6 (6 - 0 + 1) 0 0 _ _ _ (by omega) (by omega) (by first | rfl | simp [a_sum, i_leN, -Int32.not_lt] <;> first | rfl | simp_all) hP hS (lv_sub hl [0, 1, 2, 3, 4, 5] rfl)
set_option maxHeartbeats 4000000 in
set_option maxRecDepth 100000 in
theorem c_X4_seatedOn (G : GT) (l : Launch) (σ : Mem) (o : Nat) (k : Int32) (ho : oSc o) (hp : PO 33 σ) : CI G 74 (cX G) l yX4_seatedOn ({ frames := 0, cells := 0, slots := 0, locals := 0 } : Room) cX4_seatedOn 4 (some .int) [.ref (G.1 o), .int k] σ (fun (r : Int32) u => r = a_sitters (vP σ 33) (vS σ o) k ∧ u = σ) := by
  intro sz
  refine xbegin (by decide) (Nat.le_of_ble_eq_true rfl) ?_
  intro p e s m below meth c ls hsz ha hP hl
  subst hsz
  have hx := ha.1
  have hb := ha.2.1
  have hS : va_S (xA G 74 s.heap.size) s.heap s.heap [] := va_S.rf
  have hl : lv_has ls 4 [(0, .ref (G.1 o)), (1, .int k)] := hl
  have k_0 : (0 : Int32).toInt = 0 := by decide
  have k_1 : (1 : Int32).toInt = 1 := by decide
  obtain ⟨hn, hn4, hnt⟩ := PO_pe hp
  refine lv_iconst (v := 0) hx hb dX4_seatedOn_0 (by decide) ?_
  refine lv_istore_n (lv' := [(2, .int 0), (0, .ref (G.1 o)), (1, .int k)]) hx hb dX4_seatedOn_1 rfl hl (by decide) rfl (fun ls hl => ?_)
  refine lv_iconst (v := 0) hx hb dX4_seatedOn_2 (by decide) ?_
  refine lv_istore_n (lv' := [(3, .int 0), (2, .int 0), (0, .ref (G.1 o)), (1, .int k)]) hx hb dX4_seatedOn_3 rfl hl (by decide) rfl (fun ls hl => ?_)
  have lp_4 : ∀ (d j : Nat) (x2 : Int32) (H : Heap) (locs : List Loc) (ls : Array Slot), j ≤ (ix (σ 33 1)) → (ix (σ 33 1)) - j < d → x2 = a_bits (fun i => decide ((vS σ o) 2 i = k)) j → va_P G.2.1 vwCl (wl G 74 (cX G σ)) H → va_S (xA G 74 s.heap.size) s.heap H locs → lv_has ls 4 [(3, .int (nI j)), (2, .int x2), (0, .ref (G.1 o)), (1, .int k)] → W p l e ({ frames := 0, cells := 0, slots := 0, locals := 0 } : Room) s m ([.ref (G.1 o), .int k] : List Value).toArray below meth c H locs 0 0 (MQ below (va_Qi (fun (r : Int32) u => r = a_sitters (vP σ 33) (vS σ o) k ∧ u = σ) (xB G 74 (cX G)) (xA G 74 s.heap.size)) ([.ref (G.1 o), .int k] : List Value).toArray s 0 0 (xA G 74 s.heap.size)) (F0 m 4 ls []) := by
    intro d
    induction d with
    | zero => intro j x2 H locs ls hj hd; exact absurd hd (Nat.not_lt_zero _)
    | succ d ih_4 =>
      intro j x2 H locs ls hj_j hd_j e_x2 hP hS hl
      have h31_j : (nI j).toInt = (j : Int) := nI_toInt (by omega)
      refine lv_iload_n hx hb dX4_seatedOn_4 rfl (lv_at hl 0 rfl) ?_
      refine lv_aload_n hx hb dX4_seatedOn_5 rfl (lv_at hl 2 rfl) ?_
      refine g4_18 ha hP o (oSc_lt0 ho) (sSc ho) (v := .ref (G.1 33)) rfl dX4_seatedOn_6 ?_
      refine g4_89 ha hP 33 (by decide) (cX_33 G _) (v := .int (σ 33 1)) rfl dX4_seatedOn_9 ?_
      refine lv_icmp_ge (tgt := 37) hx hb dX4_seatedOn_12 (by decide) (fun c_1 => ?_) (fun c_1 => ?_)
      · have t_1 := i_le c_1
        have u_1 := u_le c_1
        obtain rfl : j = (ix (σ 33 1)) := by omega
        refine lv_iload_n hx hb dX4_seatedOn_37 rfl (lv_at hl 1 rfl) ?_
        exact xiret ha hP hS dX4_seatedOn_38 ⟨by simp [a_sitters, nPe, vP, vS, i_leN, e_x2, u_1, -Int32.not_lt] <;> first | rfl | simp_all, rfl⟩ rfl
      · have t_1 := i_nle c_1
        have u_1 := u_nle c_1
        have hlt_j : j < (ix (σ 33 1)) := by omega
        refine lv_aload_n hx hb dX4_seatedOn_15 rfl (lv_at hl 2 rfl) ?_
        refine g4_15 ha hP o (oSc_lt0 ho) (sSc ho) (v := .ref (G.1 (o + 2))) rfl dX4_seatedOn_16 ?_
        refine lv_iload_n hx hb dX4_seatedOn_19 rfl (lv_at hl 0 rfl) ?_
        refine xialdN ha hP (o + 2) (oSc_lt2 ho) (sSc2 ho) j rfl (by omega) (by decide) dX4_seatedOn_20 ?_
        refine lv_iload_n hx hb dX4_seatedOn_21 rfl (lv_at hl 3 rfl) ?_
        refine lv_icmp_ne (tgt := 31) hx hb dX4_seatedOn_22 (by decide) (fun c_2 => ?_) (fun c_2 => ?_)
        · have t_2 := i_ne c_2
          refine lv_iinc (v := (nI (j + 1))) (lv' := [(3, .int (nI (j + 1))), (2, .int x2), (0, .ref (G.1 o)), (1, .int k)]) hx hb dX4_seatedOn_31 hl (k := 0) rfl (nI_1 j) (by decide) rfl (fun ls hl => ?_)
          refine lv_goto (tgt := 4) hx hb dX4_seatedOn_34 (by decide) ?_
          exact ih_4 (j + 1) x2 _ _ _ (by omega) (by omega) (by simp [a_bits, vS, i_leN, e_x2, u_1, c_2, -Int32.not_lt] <;> first | rfl | simp_all) hP hS (lv_sub hl [0, 1, 2, 3] rfl)
        · have t_2 := i_eq c_2
          refine lv_iload_n hx hb dX4_seatedOn_25 rfl (lv_at hl 1 rfl) ?_
          refine lv_iconst (v := 1) hx hb dX4_seatedOn_26 (by decide) ?_
          refine lv_iload_n hx hb dX4_seatedOn_27 rfl (lv_at hl 0 rfl) ?_
          refine lv_ishl hx hb dX4_seatedOn_28 ?_
          refine lv_ior hx hb dX4_seatedOn_29 ?_
          refine lv_istore_n (lv' := [(2, .int (x2 ||| (1 <<< (nI j &&& 31)))), (3, .int (nI j)), (0, .ref (G.1 o)), (1, .int k)]) hx hb dX4_seatedOn_30 rfl hl (by decide) rfl (fun ls hl => ?_)
          refine lv_iinc (v := (nI (j + 1))) (lv' := [(3, .int (nI (j + 1))), (2, .int (x2 ||| (1 <<< (nI j &&& 31)))), (0, .ref (G.1 o)), (1, .int k)]) hx hb dX4_seatedOn_31 hl (k := 1) rfl (nI_1 j) (by decide) rfl (fun ls hl => ?_)
          refine lv_goto (tgt := 4) hx hb dX4_seatedOn_34 (by decide) ?_
          exact ih_4 (j + 1) (x2 ||| (1 <<< (nI j &&& 31))) _ _ _ (by omega) (by omega) (by simp [a_bits, vS, i_leN, e_x2, u_1, c_2, -Int32.not_lt] <;> first | rfl | simp_all) hP hS (lv_sub hl [0, 1, 2, 3] rfl)
  exact lp_4 ((ix (σ 33 1)) - 0 + 1) 0 0 _ _ _ (by omega) (by omega) (by first | rfl | simp [a_bits, vS, i_leN, -Int32.not_lt] <;> first | rfl | simp_all) hP hS (lv_sub hl [0, 1, 2, 3] rfl)
set_option maxHeartbeats 4000000 in
set_option maxRecDepth 100000 in
theorem c_X4_seatedPeople (G : GT) (l : Launch) (σ : Mem) (o : Nat) (ho : oSc o) (hp : PO 33 σ) : CI G 74 (cX G) l yX4_seatedPeople ({ frames := 2, cells := 0, slots := 0, locals := 42 } : Room) cX4_seatedPeople 3 (some .int) [.ref (G.1 o)] σ (fun (r : Int32) u => r = a_seatedPeople (vP σ 33) (vS σ o) ∧ u = σ) := by
  intro sz
  refine xbegin (by decide) (Nat.le_of_ble_eq_true rfl) ?_
  intro p e s m below meth c ls hsz ha hP hl
  subst hsz
  have hx := ha.1
  have hb := ha.2.1
  have hS : va_S (xA G 74 s.heap.size) s.heap s.heap [] := va_S.rf
  have hl : lv_has ls 3 [(0, .ref (G.1 o))] := hl
  have k_0 : (0 : Int32).toInt = 0 := by decide
  have k_1 : (1 : Int32).toInt = 1 := by decide
  obtain ⟨hn, hn4, hnt⟩ := PO_pe hp
  refine lv_iconst (v := 0) hx hb dX4_seatedPeople_0 (by decide) ?_
  refine lv_istore_n (lv' := [(1, .int 0), (0, .ref (G.1 o))]) hx hb dX4_seatedPeople_1 rfl hl (by decide) rfl (fun ls hl => ?_)
  refine lv_iconst (v := 0) hx hb dX4_seatedPeople_2 (by decide) ?_
  refine lv_istore_n (lv' := [(2, .int 0), (1, .int 0), (0, .ref (G.1 o))]) hx hb dX4_seatedPeople_3 rfl hl (by decide) rfl (fun ls hl => ?_)
  have lp_4 : ∀ (d j : Nat) (x1 : Int32) (H : Heap) (locs : List Loc) (ls : Array Slot), j ≤ (ix (σ 33 1)) → (ix (σ 33 1)) - j < d → x1 = a_bits (fun i => a_isSeated (vP σ 33) (vS σ o) (nI i)) j → va_P G.2.1 vwCl (wl G 74 (cX G σ)) H → va_S (xA G 74 s.heap.size) s.heap H locs → lv_has ls 3 [(2, .int (nI j)), (1, .int x1), (0, .ref (G.1 o))] → W p l e ({ frames := 2, cells := 0, slots := 0, locals := 42 } : Room) s m ([.ref (G.1 o)] : List Value).toArray below meth c H locs 0 0 (MQ below (va_Qi (fun (r : Int32) u => r = a_seatedPeople (vP σ 33) (vS σ o) ∧ u = σ) (xB G 74 (cX G)) (xA G 74 s.heap.size)) ([.ref (G.1 o)] : List Value).toArray s 0 0 (xA G 74 s.heap.size)) (F0 m 4 ls []) := by
    intro d
    induction d with
    | zero => intro j x1 H locs ls hj hd; exact absurd hd (Nat.not_lt_zero _)
    | succ d ih_4 =>
      intro j x1 H locs ls hj_j hd_j e_x1 hP hS hl
      have h31_j : (nI j).toInt = (j : Int) := nI_toInt (by omega)
      refine lv_iload_n hx hb dX4_seatedPeople_4 rfl (lv_at hl 0 rfl) ?_
      refine lv_aload_n hx hb dX4_seatedPeople_5 rfl (lv_at hl 2 rfl) ?_
      refine g4_18 ha hP o (oSc_lt0 ho) (sSc ho) (v := .ref (G.1 33)) rfl dX4_seatedPeople_6 ?_
      refine g4_89 ha hP 33 (by decide) (cX_33 G _) (v := .int (σ 33 1)) rfl dX4_seatedPeople_9 ?_
      refine lv_icmp_ge (tgt := 35) hx hb dX4_seatedPeople_12 (by decide) (fun c_1 => ?_) (fun c_1 => ?_)
      · have t_1 := i_le c_1
        have u_1 := u_le c_1
        obtain rfl : j = (ix (σ 33 1)) := by omega
        refine lv_iload_n hx hb dX4_seatedPeople_35 rfl (lv_at hl 1 rfl) ?_
        exact xiret ha hP hS dX4_seatedPeople_36 ⟨by simp [a_seatedPeople, nPe, vP, i_leN, e_x1, u_1, -Int32.not_lt] <;> first | rfl | simp_all, rfl⟩ rfl
      · have t_1 := i_nle c_1
        have u_1 := u_nle c_1
        have hlt_j : j < (ix (σ 33 1)) := by omega
        refine lv_aload_n hx hb dX4_seatedPeople_15 rfl (lv_at hl 2 rfl) ?_
        refine lv_iload_n hx hb dX4_seatedPeople_16 rfl (lv_at hl 0 rfl) ?_
        refine xVi ha hP hS (As := [.int (nI j)]) (rest := []) o (oSc_lt0 ho) (sSc ho) rfl rfl (c_X4_isSeated G l σ o (nI j) ho) kw_X4_92 hd_X4_isSeated rfl ⟨rfl, rfl⟩ ⟨Nat.le_of_ble_eq_true rfl, Nat.le_of_ble_eq_true rfl⟩ ⟨Nat.zero_le _, Nat.zero_le _⟩ hl.1 (Nat.le_of_ble_eq_true rfl) rfl dX4_seatedPeople_17 (fun r u H locs hpq hP hS => ?_)
        obtain ⟨hr_, hu_⟩ := hpq
        have hr_ := hr_.symm
        have hu_ := hu_.symm
        subst hr_
        subst hu_
        refine lv_if_eq (tgt := 29) hx hb dX4_seatedPeople_20 (by decide) (fun c_2 => ?_) (fun c_2 => ?_)
        · have t_2 := b2i_f c_2
          refine lv_iinc (v := (nI (j + 1))) (lv' := [(2, .int (nI (j + 1))), (1, .int x1), (0, .ref (G.1 o))]) hx hb dX4_seatedPeople_29 hl (k := 0) rfl (nI_1 j) (by decide) rfl (fun ls hl => ?_)
          refine lv_goto (tgt := 4) hx hb dX4_seatedPeople_32 (by decide) ?_
          exact ih_4 (j + 1) x1 _ _ _ (by omega) (by omega) (by simp [a_bits, i_leN, e_x1, u_1, t_2, -Int32.not_lt] <;> first | rfl | simp_all) hP hS (lv_sub hl [0, 1, 2] rfl)
        · have t_2 := b2i_t c_2
          refine lv_iload_n hx hb dX4_seatedPeople_23 rfl (lv_at hl 1 rfl) ?_
          refine lv_iconst (v := 1) hx hb dX4_seatedPeople_24 (by decide) ?_
          refine lv_iload_n hx hb dX4_seatedPeople_25 rfl (lv_at hl 0 rfl) ?_
          refine lv_ishl hx hb dX4_seatedPeople_26 ?_
          refine lv_ior hx hb dX4_seatedPeople_27 ?_
          refine lv_istore_n (lv' := [(1, .int (x1 ||| (1 <<< (nI j &&& 31)))), (2, .int (nI j)), (0, .ref (G.1 o))]) hx hb dX4_seatedPeople_28 rfl hl (by decide) rfl (fun ls hl => ?_)
          refine lv_iinc (v := (nI (j + 1))) (lv' := [(2, .int (nI (j + 1))), (1, .int (x1 ||| (1 <<< (nI j &&& 31)))), (0, .ref (G.1 o))]) hx hb dX4_seatedPeople_29 hl (k := 1) rfl (nI_1 j) (by decide) rfl (fun ls hl => ?_)
          refine lv_goto (tgt := 4) hx hb dX4_seatedPeople_32 (by decide) ?_
          exact ih_4 (j + 1) (x1 ||| (1 <<< (nI j &&& 31))) _ _ _ (by omega) (by omega) (by simp [a_bits, i_leN, e_x1, u_1, t_2, -Int32.not_lt] <;> first | rfl | simp_all) hP hS (lv_sub hl [0, 1, 2] rfl)
  exact lp_4 ((ix (σ 33 1)) - 0 + 1) 0 0 _ _ _ (by omega) (by omega) (by first | rfl | simp [a_bits, i_leN, -Int32.not_lt] <;> first | rfl | simp_all) hP hS (lv_sub hl [0, 1, 2] rfl)
set_option maxHeartbeats 4000000 in
set_option maxRecDepth 100000 in
theorem c_X4_highOfAll (G : GT) (l : Launch) (σ : Mem) (o : Nat) (ho : oSc o) (hp : PO 33 σ) : CI G 74 (cX G) l yX4_highOfAll ({ frames := 1, cells := 0, slots := 0, locals := 22 } : Room) cX4_highOfAll 3 (some .int) [.ref (G.1 o)] σ (fun (r : Int32) u => r = a_highAll (vP σ 33) (vS σ o) ∧ u = σ) := by
  intro sz
  refine xbegin (by decide) (Nat.le_of_ble_eq_true rfl) ?_
  intro p e s m below meth c ls hsz ha hP hl
  subst hsz
  have hx := ha.1
  have hb := ha.2.1
  have hS : va_S (xA G 74 s.heap.size) s.heap s.heap [] := va_S.rf
  have hl : lv_has ls 3 [(0, .ref (G.1 o))] := hl
  have k_0 : (0 : Int32).toInt = 0 := by decide
  obtain ⟨hn, hn4, hnt⟩ := PO_pe hp
  refine lv_iconst (v := 0) hx hb dX4_highOfAll_0 (by decide) ?_
  refine lv_istore_n (lv' := [(1, .int 0), (0, .ref (G.1 o))]) hx hb dX4_highOfAll_1 rfl hl (by decide) rfl (fun ls hl => ?_)
  refine lv_iconst (v := 0) hx hb dX4_highOfAll_2 (by decide) ?_
  refine lv_istore_n (lv' := [(2, .int 0), (1, .int 0), (0, .ref (G.1 o))]) hx hb dX4_highOfAll_3 rfl hl (by decide) rfl (fun ls hl => ?_)
  have lp_4 : ∀ (d j : Nat) (x1 : Int32) (H : Heap) (locs : List Loc) (ls : Array Slot), j ≤ (ix (σ 33 1)) → (ix (σ 33 1)) - j < d → x1 = a_sum (fun i => a_high (vP σ 33) (nI i) ((vS σ o) 2 i)) j → va_P G.2.1 vwCl (wl G 74 (cX G σ)) H → va_S (xA G 74 s.heap.size) s.heap H locs → lv_has ls 3 [(2, .int (nI j)), (1, .int x1), (0, .ref (G.1 o))] → W p l e ({ frames := 1, cells := 0, slots := 0, locals := 22 } : Room) s m ([.ref (G.1 o)] : List Value).toArray below meth c H locs 0 0 (MQ below (va_Qi (fun (r : Int32) u => r = a_highAll (vP σ 33) (vS σ o) ∧ u = σ) (xB G 74 (cX G)) (xA G 74 s.heap.size)) ([.ref (G.1 o)] : List Value).toArray s 0 0 (xA G 74 s.heap.size)) (F0 m 4 ls []) := by
    intro d
    induction d with
    | zero => intro j x1 H locs ls hj hd; exact absurd hd (Nat.not_lt_zero _)
    | succ d ih_4 =>
      intro j x1 H locs ls hj_j hd_j e_x1 hP hS hl
      have h31_j : (nI j).toInt = (j : Int) := nI_toInt (by omega)
      refine lv_iload_n hx hb dX4_highOfAll_4 rfl (lv_at hl 0 rfl) ?_
      refine lv_aload_n hx hb dX4_highOfAll_5 rfl (lv_at hl 2 rfl) ?_
      refine g4_18 ha hP o (oSc_lt0 ho) (sSc ho) (v := .ref (G.1 33)) rfl dX4_highOfAll_6 ?_
      refine g4_89 ha hP 33 (by decide) (cX_33 G _) (v := .int (σ 33 1)) rfl dX4_highOfAll_9 ?_
      refine lv_icmp_ge (tgt := 38) hx hb dX4_highOfAll_12 (by decide) (fun c_1 => ?_) (fun c_1 => ?_)
      · have t_1 := i_le c_1
        have u_1 := u_le c_1
        obtain rfl : j = (ix (σ 33 1)) := by omega
        refine lv_iload_n hx hb dX4_highOfAll_38 rfl (lv_at hl 1 rfl) ?_
        exact xiret ha hP hS dX4_highOfAll_39 ⟨by simp [a_highAll, nPe, vP, i_leN, e_x1, u_1, -Int32.not_lt] <;> first | rfl | simp_all, rfl⟩ rfl
      · have t_1 := i_nle c_1
        have u_1 := u_nle c_1
        have hlt_j : j < (ix (σ 33 1)) := by omega
        refine lv_iload_n hx hb dX4_highOfAll_15 rfl (lv_at hl 1 rfl) ?_
        refine lv_aload_n hx hb dX4_highOfAll_16 rfl (lv_at hl 2 rfl) ?_
        refine g4_18 ha hP o (oSc_lt0 ho) (sSc ho) (v := .ref (G.1 33)) rfl dX4_highOfAll_17 ?_
        refine lv_iload_n hx hb dX4_highOfAll_20 rfl (lv_at hl 0 rfl) ?_
        refine lv_aload_n hx hb dX4_highOfAll_21 rfl (lv_at hl 2 rfl) ?_
        refine g4_15 ha hP o (oSc_lt0 ho) (sSc ho) (v := .ref (G.1 (o + 2))) rfl dX4_highOfAll_22 ?_
        refine lv_iload_n hx hb dX4_highOfAll_25 rfl (lv_at hl 0 rfl) ?_
        refine xialdN ha hP (o + 2) (oSc_lt2 ho) (sSc2 ho) j rfl (by omega) (by decide) dX4_highOfAll_26 ?_
        refine xVi ha hP hS (As := [.int (nI j), .int (σ (o + 2) j)]) (rest := [.int x1]) 33 (by decide) (cX_33 G _) rfl rfl (c_X2_highOn G l σ 33 (nI j) (σ (o + 2) j) (by unfold oPl; omega) hp) kw_X4_70 hd_X2_highOn rfl ⟨rfl, rfl⟩ ⟨Nat.le_of_ble_eq_true rfl, Nat.le_of_ble_eq_true rfl⟩ ⟨Nat.zero_le _, Nat.zero_le _⟩ hl.1 (Nat.le_of_ble_eq_true rfl) rfl dX4_highOfAll_27 (fun r u H locs hpq hP hS => ?_)
        obtain ⟨hr_, hu_⟩ := hpq
        have hr_ := hr_.symm
        have hu_ := hu_.symm
        subst hr_
        subst hu_
        refine lv_iadd hx hb dX4_highOfAll_30 ?_
        refine lv_istore_n (lv' := [(1, .int (x1 + (a_high (vP σ 33) (nI j) (σ (o + 2) j)))), (2, .int (nI j)), (0, .ref (G.1 o))]) hx hb dX4_highOfAll_31 rfl hl (by decide) rfl (fun ls hl => ?_)
        refine lv_iinc (v := (nI (j + 1))) (lv' := [(2, .int (nI (j + 1))), (1, .int (x1 + (a_high (vP σ 33) (nI j) (σ (o + 2) j)))), (0, .ref (G.1 o))]) hx hb dX4_highOfAll_32 hl (k := 1) rfl (nI_1 j) (by decide) rfl (fun ls hl => ?_)
        refine lv_goto (tgt := 4) hx hb dX4_highOfAll_35 (by decide) ?_
        exact ih_4 (j + 1) (x1 + (a_high (vP σ 33) (nI j) (σ (o + 2) j))) _ _ _ (by omega) (by omega) (by simp [a_sum, vS, i_leN, e_x1, u_1, -Int32.not_lt] <;> first | rfl | simp_all) hP hS (lv_sub hl [0, 1, 2] rfl)
  exact lp_4 ((ix (σ 33 1)) - 0 + 1) 0 0 _ _ _ (by omega) (by omega) (by first | rfl | simp [a_sum, vS, i_leN, -Int32.not_lt] <;> first | rfl | simp_all) hP hS (lv_sub hl [0, 1, 2] rfl)
set_option maxHeartbeats 4000000 in
set_option maxRecDepth 100000 in
theorem c_X4_highOfStanding (G : GT) (l : Launch) (σ : Mem) (o : Nat) (ho : oSc o) (hp : PO 33 σ) : CI G 74 (cX G) l yX4_highOfStanding ({ frames := 4, cells := 0, slots := 0, locals := 89 } : Room) cX4_highOfStanding 3 (some .int) [.ref (G.1 o)] σ (fun (r : Int32) u => r = a_highStanding (vP σ 33) (vS σ o) ∧ u = σ) := by
  intro sz
  refine xbegin (by decide) (Nat.le_of_ble_eq_true rfl) ?_
  intro p e s m below meth c ls hsz ha hP hl
  subst hsz
  have hx := ha.1
  have hb := ha.2.1
  have hS : va_S (xA G 74 s.heap.size) s.heap s.heap [] := va_S.rf
  have hl : lv_has ls 3 [(0, .ref (G.1 o))] := hl
  have k_0 : (0 : Int32).toInt = 0 := by decide
  obtain ⟨hn, hn4, hnt⟩ := PO_pe hp
  refine lv_iconst (v := 0) hx hb dX4_highOfStanding_0 (by decide) ?_
  refine lv_istore_n (lv' := [(1, .int 0), (0, .ref (G.1 o))]) hx hb dX4_highOfStanding_1 rfl hl (by decide) rfl (fun ls hl => ?_)
  refine lv_iconst (v := 0) hx hb dX4_highOfStanding_2 (by decide) ?_
  refine lv_istore_n (lv' := [(2, .int 0), (1, .int 0), (0, .ref (G.1 o))]) hx hb dX4_highOfStanding_3 rfl hl (by decide) rfl (fun ls hl => ?_)
  have lp_4 : ∀ (d j : Nat) (x1 : Int32) (H : Heap) (locs : List Loc) (ls : Array Slot), j ≤ (ix (σ 33 1)) → (ix (σ 33 1)) - j < d → x1 = a_sum (fun i => if a_stands (vP σ 33) (vS σ o) ((vS σ o) 2 i) = true then a_high (vP σ 33) (nI i) ((vS σ o) 2 i) else 0) j → va_P G.2.1 vwCl (wl G 74 (cX G σ)) H → va_S (xA G 74 s.heap.size) s.heap H locs → lv_has ls 3 [(2, .int (nI j)), (1, .int x1), (0, .ref (G.1 o))] → W p l e ({ frames := 4, cells := 0, slots := 0, locals := 89 } : Room) s m ([.ref (G.1 o)] : List Value).toArray below meth c H locs 0 0 (MQ below (va_Qi (fun (r : Int32) u => r = a_highStanding (vP σ 33) (vS σ o) ∧ u = σ) (xB G 74 (cX G)) (xA G 74 s.heap.size)) ([.ref (G.1 o)] : List Value).toArray s 0 0 (xA G 74 s.heap.size)) (F0 m 4 ls []) := by
    intro d
    induction d with
    | zero => intro j x1 H locs ls hj hd; exact absurd hd (Nat.not_lt_zero _)
    | succ d ih_4 =>
      intro j x1 H locs ls hj_j hd_j e_x1 hP hS hl
      have h31_j : (nI j).toInt = (j : Int) := nI_toInt (by omega)
      refine lv_iload_n hx hb dX4_highOfStanding_4 rfl (lv_at hl 0 rfl) ?_
      refine lv_aload_n hx hb dX4_highOfStanding_5 rfl (lv_at hl 2 rfl) ?_
      refine g4_18 ha hP o (oSc_lt0 ho) (sSc ho) (v := .ref (G.1 33)) rfl dX4_highOfStanding_6 ?_
      refine g4_89 ha hP 33 (by decide) (cX_33 G _) (v := .int (σ 33 1)) rfl dX4_highOfStanding_9 ?_
      refine lv_icmp_ge (tgt := 51) hx hb dX4_highOfStanding_12 (by decide) (fun c_1 => ?_) (fun c_1 => ?_)
      · have t_1 := i_le c_1
        have u_1 := u_le c_1
        obtain rfl : j = (ix (σ 33 1)) := by omega
        refine lv_iload_n hx hb dX4_highOfStanding_51 rfl (lv_at hl 1 rfl) ?_
        exact xiret ha hP hS dX4_highOfStanding_52 ⟨by simp [a_highStanding, nPe, vP, i_leN, e_x1, u_1, -Int32.not_lt] <;> first | rfl | simp_all, rfl⟩ rfl
      · have t_1 := i_nle c_1
        have u_1 := u_nle c_1
        have hlt_j : j < (ix (σ 33 1)) := by omega
        refine lv_aload_n hx hb dX4_highOfStanding_15 rfl (lv_at hl 2 rfl) ?_
        refine lv_aload_n hx hb dX4_highOfStanding_16 rfl (lv_at hl 2 rfl) ?_
        refine g4_15 ha hP o (oSc_lt0 ho) (sSc ho) (v := .ref (G.1 (o + 2))) rfl dX4_highOfStanding_17 ?_
        refine lv_iload_n hx hb dX4_highOfStanding_20 rfl (lv_at hl 0 rfl) ?_
        refine xialdN ha hP (o + 2) (oSc_lt2 ho) (sSc2 ho) j rfl (by omega) (by decide) dX4_highOfStanding_21 ?_
        refine xVi ha hP hS (As := [.int (σ (o + 2) j)]) (rest := []) o (oSc_lt0 ho) (sSc ho) rfl rfl (c_X4_stands G l σ o (σ (o + 2) j) ho hp) kw_X4_95 hd_X4_stands rfl ⟨rfl, rfl⟩ ⟨Nat.le_of_ble_eq_true rfl, Nat.le_of_ble_eq_true rfl⟩ ⟨Nat.zero_le _, Nat.zero_le _⟩ hl.1 (Nat.le_of_ble_eq_true rfl) rfl dX4_highOfStanding_22 (fun r u H locs hpq hP hS => ?_)
        obtain ⟨hr_, hu_⟩ := hpq
        have hr_ := hr_.symm
        have hu_ := hu_.symm
        subst hr_
        subst hu_
        refine lv_if_eq (tgt := 45) hx hb dX4_highOfStanding_25 (by decide) (fun c_2 => ?_) (fun c_2 => ?_)
        · have t_2 := b2i_f c_2
          refine lv_iinc (v := (nI (j + 1))) (lv' := [(2, .int (nI (j + 1))), (1, .int x1), (0, .ref (G.1 o))]) hx hb dX4_highOfStanding_45 hl (k := 0) rfl (nI_1 j) (by decide) rfl (fun ls hl => ?_)
          refine lv_goto (tgt := 4) hx hb dX4_highOfStanding_48 (by decide) ?_
          exact ih_4 (j + 1) x1 _ _ _ (by omega) (by omega) (by simp [a_sum, vS, i_leN, e_x1, u_1, t_2, -Int32.not_lt] <;> first | rfl | simp_all) hP hS (lv_sub hl [0, 1, 2] rfl)
        · have t_2 := b2i_t c_2
          refine lv_iload_n hx hb dX4_highOfStanding_28 rfl (lv_at hl 1 rfl) ?_
          refine lv_aload_n hx hb dX4_highOfStanding_29 rfl (lv_at hl 2 rfl) ?_
          refine g4_18 ha hP o (oSc_lt0 ho) (sSc ho) (v := .ref (G.1 33)) rfl dX4_highOfStanding_30 ?_
          refine lv_iload_n hx hb dX4_highOfStanding_33 rfl (lv_at hl 0 rfl) ?_
          refine lv_aload_n hx hb dX4_highOfStanding_34 rfl (lv_at hl 2 rfl) ?_
          refine g4_15 ha hP o (oSc_lt0 ho) (sSc ho) (v := .ref (G.1 (o + 2))) rfl dX4_highOfStanding_35 ?_
          refine lv_iload_n hx hb dX4_highOfStanding_38 rfl (lv_at hl 0 rfl) ?_
          refine xialdN ha hP (o + 2) (oSc_lt2 ho) (sSc2 ho) j rfl (by omega) (by decide) dX4_highOfStanding_39 ?_
          refine xVi ha hP hS (As := [.int (nI j), .int (σ (o + 2) j)]) (rest := [.int x1]) 33 (by decide) (cX_33 G _) rfl rfl (c_X2_highOn G l σ 33 (nI j) (σ (o + 2) j) (by unfold oPl; omega) hp) kw_X4_70 hd_X2_highOn rfl ⟨rfl, rfl⟩ ⟨Nat.le_of_ble_eq_true rfl, Nat.le_of_ble_eq_true rfl⟩ ⟨Nat.zero_le _, Nat.zero_le _⟩ hl.1 (Nat.le_of_ble_eq_true rfl) rfl dX4_highOfStanding_40 (fun r u H locs hpq hP hS => ?_)
          obtain ⟨hr_, hu_⟩ := hpq
          have hr_ := hr_.symm
          have hu_ := hu_.symm
          subst hr_
          subst hu_
          refine lv_iadd hx hb dX4_highOfStanding_43 ?_
          refine lv_istore_n (lv' := [(1, .int (x1 + (a_high (vP σ 33) (nI j) (σ (o + 2) j)))), (2, .int (nI j)), (0, .ref (G.1 o))]) hx hb dX4_highOfStanding_44 rfl hl (by decide) rfl (fun ls hl => ?_)
          refine lv_iinc (v := (nI (j + 1))) (lv' := [(2, .int (nI (j + 1))), (1, .int (x1 + (a_high (vP σ 33) (nI j) (σ (o + 2) j)))), (0, .ref (G.1 o))]) hx hb dX4_highOfStanding_45 hl (k := 1) rfl (nI_1 j) (by decide) rfl (fun ls hl => ?_)
          refine lv_goto (tgt := 4) hx hb dX4_highOfStanding_48 (by decide) ?_
          exact ih_4 (j + 1) (x1 + (a_high (vP σ 33) (nI j) (σ (o + 2) j))) _ _ _ (by omega) (by omega) (by simp [a_sum, vS, i_leN, e_x1, u_1, t_2, -Int32.not_lt] <;> first | rfl | simp_all) hP hS (lv_sub hl [0, 1, 2] rfl)
  exact lp_4 ((ix (σ 33 1)) - 0 + 1) 0 0 _ _ _ (by omega) (by omega) (by first | rfl | simp [a_sum, vS, i_leN, -Int32.not_lt] <;> first | rfl | simp_all) hP hS (lv_sub hl [0, 1, 2] rfl)
set_option maxHeartbeats 4000000 in
set_option maxRecDepth 100000 in
theorem c_X4_ofPole (G : GT) (l : Launch) (σ : Mem) (o : Nat) (k : Int32) (what : Int32) (ho : oSc o) (hp : PO 33 σ) : CI G 74 (cX G) l yX4_ofPole ({ frames := 3, cells := 0, slots := 0, locals := 68 } : Room) cX4_ofPole 3 (some .int) [.ref (G.1 o), .int k, .int what] σ (fun (r : Int32) u => r = a_ofPole (vP σ 33) (vS σ o) k what ∧ u = σ) := by
  intro sz
  refine xbegin (by decide) (Nat.le_of_ble_eq_true rfl) ?_
  intro p e s m below meth c ls hsz ha hP hl
  subst hsz
  have hx := ha.1
  have hb := ha.2.1
  have hS : va_S (xA G 74 s.heap.size) s.heap s.heap [] := va_S.rf
  have hl : lv_has ls 3 [(0, .ref (G.1 o)), (1, .int k), (2, .int what)] := hl
  have k_0 : (0 : Int32).toInt = 0 := by decide
  have k_1 : (1 : Int32).toInt = 1 := by decide
  have hp1 := hp.2.1
  refine lv_aload_n hx hb dX4_ofPole_0 rfl (lv_at hl 0 rfl) ?_
  refine g4_18 ha hP o (oSc_lt0 ho) (sSc ho) (v := .ref (G.1 33)) rfl dX4_ofPole_1 ?_
  refine lv_iload_n hx hb dX4_ofPole_4 rfl (lv_at hl 1 rfl) ?_
  refine xVi ha hP hS (As := [.int k]) (rest := []) 33 (by decide) (cX_33 G _) rfl rfl (c_X2_isPole G l σ 33 k (by unfold oPl; omega)) kw_X4_73 hd_X2_isPole rfl ⟨rfl, rfl⟩ ⟨Nat.le_of_ble_eq_true rfl, Nat.le_of_ble_eq_true rfl⟩ ⟨Nat.zero_le _, Nat.zero_le _⟩ hl.1 (Nat.le_of_ble_eq_true rfl) rfl dX4_ofPole_5 (fun r u H locs hpq hP hS => ?_)
  obtain ⟨hr_, hu_⟩ := hpq
  have hr_ := hr_.symm
  have hu_ := hu_.symm
  subst hr_
  subst hu_
  refine lv_if_ne (tgt := 13) hx hb dX4_ofPole_8 (by decide) (fun c_1 => ?_) (fun c_1 => ?_)
  · have t_1 := b2i_t c_1
    have f_1 := isPole_t t_1
    refine lv_iload_n hx hb dX4_ofPole_13 rfl (lv_at hl 2 rfl) ?_
    by_cases c_2 : what = 0
    · refine lv_tableIn (tgt := 56) hx hb dX4_ofPole_14 (by rw [c_2]; decide) (by rw [c_2]; decide) (off := 42) (by rw [c_2]; rfl) (by decide) ?_
      refine lv_aload_n hx hb dX4_ofPole_56 rfl (lv_at hl 0 rfl) ?_
      refine g4_18 ha hP o (oSc_lt0 ho) (sSc ho) (v := .ref (G.1 33)) rfl dX4_ofPole_57 ?_
      refine g4_101 ha hP 33 (by decide) (cX_33 G _) (v := .ref (G.1 34)) rfl dX4_ofPole_60 ?_
      refine lv_iload_n hx hb dX4_ofPole_63 rfl (lv_at hl 1 rfl) ?_
      refine xialdN ha hP 34 (by decide) (cX_34 G _) (ix k) (ix_nI (by omega)) (ix_lt (by omega) (by omega)) (by decide) dX4_ofPole_64 ?_
      exact xiret ha hP hS dX4_ofPole_65 ⟨by simp [a_ofPole, vP, vS, i_leN, t_1, c_2, -Int32.not_lt] <;> first | rfl | simp_all, rfl⟩ rfl
    by_cases c_3 : what = 1
    · refine lv_tableIn (tgt := 66) hx hb dX4_ofPole_14 (by rw [c_3]; decide) (by rw [c_3]; decide) (off := 52) (by rw [c_3]; rfl) (by decide) ?_
      refine lv_aload_n hx hb dX4_ofPole_66 rfl (lv_at hl 0 rfl) ?_
      refine g4_18 ha hP o (oSc_lt0 ho) (sSc ho) (v := .ref (G.1 33)) rfl dX4_ofPole_67 ?_
      refine g4_104 ha hP 33 (by decide) (cX_33 G _) (v := .ref (G.1 35)) rfl dX4_ofPole_70 ?_
      refine lv_iload_n hx hb dX4_ofPole_73 rfl (lv_at hl 1 rfl) ?_
      refine xialdN ha hP 35 (by decide) (cX_35 G _) (ix k) (ix_nI (by omega)) (ix_lt (by omega) (by omega)) (by decide) dX4_ofPole_74 ?_
      exact xiret ha hP hS dX4_ofPole_75 ⟨by simp [a_ofPole, vP, vS, i_leN, t_1, c_2, c_3, -Int32.not_lt] <;> first | rfl | simp_all, rfl⟩ rfl
    by_cases c_4 : what = 2
    · refine lv_tableIn (tgt := 76) hx hb dX4_ofPole_14 (by rw [c_4]; decide) (by rw [c_4]; decide) (off := 62) (by rw [c_4]; rfl) (by decide) ?_
      refine lv_aload_n hx hb dX4_ofPole_76 rfl (lv_at hl 0 rfl) ?_
      refine g4_18 ha hP o (oSc_lt0 ho) (sSc ho) (v := .ref (G.1 33)) rfl dX4_ofPole_77 ?_
      refine g4_107 ha hP 33 (by decide) (cX_33 G _) (v := .ref (G.1 36)) rfl dX4_ofPole_80 ?_
      refine lv_iload_n hx hb dX4_ofPole_83 rfl (lv_at hl 1 rfl) ?_
      refine xialdN ha hP 36 (by decide) (cX_36 G _) (ix k) (ix_nI (by omega)) (ix_lt (by omega) (by omega)) (by decide) dX4_ofPole_84 ?_
      exact xiret ha hP hS dX4_ofPole_85 ⟨by simp [a_ofPole, vP, vS, i_leN, t_1, c_2, c_3, c_4, -Int32.not_lt] <;> first | rfl | simp_all, rfl⟩ rfl
    by_cases c_5 : what = 3
    · refine lv_tableIn (tgt := 86) hx hb dX4_ofPole_14 (by rw [c_5]; decide) (by rw [c_5]; decide) (off := 72) (by rw [c_5]; rfl) (by decide) ?_
      refine lv_aload_n hx hb dX4_ofPole_86 rfl (lv_at hl 0 rfl) ?_
      refine g4_9 ha hP o (oSc_lt0 ho) (sSc ho) (v := .ref (G.1 (o + 1))) rfl dX4_ofPole_87 ?_
      refine lv_iload_n hx hb dX4_ofPole_90 rfl (lv_at hl 1 rfl) ?_
      refine xialdN ha hP (o + 1) (oSc_lt1 ho) (sSc1 ho) (ix k) (ix_nI (by omega)) (ix_lt (by omega) (by omega)) (by decide) dX4_ofPole_91 ?_
      exact xiret ha hP hS dX4_ofPole_92 ⟨by simp [a_ofPole, vP, vS, i_leN, t_1, c_2, c_3, c_4, c_5, -Int32.not_lt] <;> first | rfl | simp_all, rfl⟩ rfl
    by_cases c_6 : what = 4
    · refine lv_tableIn (tgt := 93) hx hb dX4_ofPole_14 (by rw [c_6]; decide) (by rw [c_6]; decide) (off := 79) (by rw [c_6]; rfl) (by decide) ?_
      refine lv_aload_n hx hb dX4_ofPole_93 rfl (lv_at hl 0 rfl) ?_
      refine lv_iload_n hx hb dX4_ofPole_94 rfl (lv_at hl 1 rfl) ?_
      refine xVi ha hP hS (As := [.int k]) (rest := []) o (oSc_lt0 ho) (sSc ho) rfl rfl (c_X4_bearsNow G l σ o k ho hp) kw_X4_82 hd_X4_bearsNow rfl ⟨rfl, rfl⟩ ⟨Nat.le_of_ble_eq_true rfl, Nat.le_of_ble_eq_true rfl⟩ ⟨Nat.zero_le _, Nat.zero_le _⟩ hl.1 (Nat.le_of_ble_eq_true rfl) rfl dX4_ofPole_95 (fun r u H locs hpq hP hS => ?_)
      obtain ⟨hr_, hu_⟩ := hpq
      have hr_ := hr_.symm
      have hu_ := hu_.symm
      subst hr_
      subst hu_
      exact xiret ha hP hS dX4_ofPole_98 ⟨by simp [a_ofPole, vP, vS, i_leN, t_1, c_2, c_3, c_4, c_5, c_6, -Int32.not_lt] <;> first | rfl | simp_all, rfl⟩ rfl
    by_cases c_7 : what = 5
    · refine lv_tableIn (tgt := 99) hx hb dX4_ofPole_14 (by rw [c_7]; decide) (by rw [c_7]; decide) (off := 85) (by rw [c_7]; rfl) (by decide) ?_
      refine lv_aload_n hx hb dX4_ofPole_99 rfl (lv_at hl 0 rfl) ?_
      refine lv_iload_n hx hb dX4_ofPole_100 rfl (lv_at hl 1 rfl) ?_
      refine xVi ha hP hS (As := [.int k]) (rest := []) o (oSc_lt0 ho) (sSc ho) rfl rfl (c_X4_loadOn G l σ o k ho hp) kw_X4_67 hd_X4_loadOn rfl ⟨rfl, rfl⟩ ⟨Nat.le_of_ble_eq_true rfl, Nat.le_of_ble_eq_true rfl⟩ ⟨Nat.zero_le _, Nat.zero_le _⟩ hl.1 (Nat.le_of_ble_eq_true rfl) rfl dX4_ofPole_101 (fun r u H locs hpq hP hS => ?_)
      obtain ⟨hr_, hu_⟩ := hpq
      have hr_ := hr_.symm
      have hu_ := hu_.symm
      subst hr_
      subst hu_
      exact xiret ha hP hS dX4_ofPole_104 ⟨by simp [a_ofPole, vP, vS, i_leN, t_1, c_2, c_3, c_4, c_5, c_6, c_7, -Int32.not_lt] <;> first | rfl | simp_all, rfl⟩ rfl
    by_cases c_8 : what = 6
    · refine lv_tableIn (tgt := 105) hx hb dX4_ofPole_14 (by rw [c_8]; decide) (by rw [c_8]; decide) (off := 91) (by rw [c_8]; rfl) (by decide) ?_
      refine lv_aload_n hx hb dX4_ofPole_105 rfl (lv_at hl 0 rfl) ?_
      refine lv_iload_n hx hb dX4_ofPole_106 rfl (lv_at hl 1 rfl) ?_
      refine xVi ha hP hS (As := [.int k]) (rest := []) o (oSc_lt0 ho) (sSc ho) rfl rfl (c_X4_seatedOn G l σ o k ho hp) kw_X4_117 hd_X4_seatedOn rfl ⟨rfl, rfl⟩ ⟨Nat.le_of_ble_eq_true rfl, Nat.le_of_ble_eq_true rfl⟩ ⟨Nat.zero_le _, Nat.zero_le _⟩ hl.1 (Nat.le_of_ble_eq_true rfl) rfl dX4_ofPole_107 (fun r u H locs hpq hP hS => ?_)
      obtain ⟨hr_, hu_⟩ := hpq
      have hr_ := hr_.symm
      have hu_ := hu_.symm
      subst hr_
      subst hu_
      exact xiret ha hP hS dX4_ofPole_110 ⟨by simp [a_ofPole, vP, vS, i_leN, t_1, c_2, c_3, c_4, c_5, c_6, c_7, c_8, -Int32.not_lt] <;> first | rfl | simp_all, rfl⟩ rfl
    have t_2 := i_ne c_2
    have t_3 := i_ne c_3
    have t_4 := i_ne c_4
    have t_5 := i_ne c_5
    have t_6 := i_ne c_6
    have t_7 := i_ne c_7
    have t_8 := i_ne c_8
    have kk_2 : (0 : Int32).toInt = 0 := by decide
    have kk_3 : (1 : Int32).toInt = 1 := by decide
    have kk_4 : (2 : Int32).toInt = 2 := by decide
    have kk_5 : (3 : Int32).toInt = 3 := by decide
    have kk_6 : (4 : Int32).toInt = 4 := by decide
    have kk_7 : (5 : Int32).toInt = 5 := by decide
    have kk_8 : (6 : Int32).toInt = 6 := by decide
    refine lv_tableOut (tgt := 111) hx hb dX4_ofPole_14 (by omega) (by decide) ?_
    refine lv_aload_n hx hb dX4_ofPole_111 rfl (lv_at hl 0 rfl) ?_
    refine g4_22 ha hP o (oSc_lt0 ho) (sSc ho) (v := .int (σ o 0)) rfl dX4_ofPole_112 ?_
    refine lv_iload_n hx hb dX4_ofPole_115 rfl (lv_at hl 1 rfl) ?_
    refine lv_ishr hx hb dX4_ofPole_116 ?_
    refine lv_iconst (v := 1) hx hb dX4_ofPole_117 (by decide) ?_
    refine lv_iand hx hb dX4_ofPole_118 ?_
    exact xiret ha hP hS dX4_ofPole_119 ⟨by simp [a_ofPole, vP, vS, i_leN, t_1, c_2, c_3, c_4, c_5, c_6, c_7, c_8, -Int32.not_lt] <;> first | rfl | simp_all, rfl⟩ rfl
  · have t_1 := b2i_f c_1
    refine lv_iconst (v := 0) hx hb dX4_ofPole_11 (by decide) ?_
    exact xiret ha hP hS dX4_ofPole_12 ⟨by simp [a_ofPole, vP, vS, i_leN, t_1, -Int32.not_lt] <;> first | rfl | simp_all, rfl⟩ rfl
set_option maxHeartbeats 4000000 in
set_option maxRecDepth 100000 in
theorem c_X4_ofOne (G : GT) (l : Launch) (σ : Mem) (o : Nat) (i : Int32) (what : Int32) (ho : oSc o) (hp : PO 33 σ) : CI G 74 (cX G) l yX4_ofOne ({ frames := 1, cells := 0, slots := 0, locals := 22 } : Room) cX4_ofOne 3 (some .int) [.ref (G.1 o), .int i, .int what] σ (fun (r : Int32) u => r = a_ofOne (vP σ 33) (vS σ o) i what ∧ u = σ) := by
  intro sz
  refine xbegin (by decide) (Nat.le_of_ble_eq_true rfl) ?_
  intro p e s m below meth c ls hsz ha hP hl
  subst hsz
  have hx := ha.1
  have hb := ha.2.1
  have hS : va_S (xA G 74 s.heap.size) s.heap s.heap [] := va_S.rf
  have hl : lv_has ls 3 [(0, .ref (G.1 o)), (1, .int i), (2, .int what)] := hl
  have k_0 : (0 : Int32).toInt = 0 := by decide
  have hp1 := hp.2.2.2
  refine lv_aload_n hx hb dX4_ofOne_0 rfl (lv_at hl 0 rfl) ?_
  refine g4_18 ha hP o (oSc_lt0 ho) (sSc ho) (v := .ref (G.1 33)) rfl dX4_ofOne_1 ?_
  refine lv_iload_n hx hb dX4_ofOne_4 rfl (lv_at hl 1 rfl) ?_
  refine xVi ha hP hS (As := [.int i]) (rest := []) 33 (by decide) (cX_33 G _) rfl rfl (c_X2_isOne G l σ 33 i (by unfold oPl; omega)) kw_X4_61 hd_X2_isOne rfl ⟨rfl, rfl⟩ ⟨Nat.le_of_ble_eq_true rfl, Nat.le_of_ble_eq_true rfl⟩ ⟨Nat.zero_le _, Nat.zero_le _⟩ hl.1 (Nat.le_of_ble_eq_true rfl) rfl dX4_ofOne_5 (fun r u H locs hpq hP hS => ?_)
  obtain ⟨hr_, hu_⟩ := hpq
  have hr_ := hr_.symm
  have hu_ := hu_.symm
  subst hr_
  subst hu_
  refine lv_if_ne (tgt := 13) hx hb dX4_ofOne_8 (by decide) (fun c_1 => ?_) (fun c_1 => ?_)
  · have t_1 := b2i_t c_1
    have f_1 := isOne_t t_1
    refine lv_iload_n hx hb dX4_ofOne_13 rfl (lv_at hl 2 rfl) ?_
    by_cases c_2 : what = 0
    · refine lv_tableIn (tgt := 40) hx hb dX4_ofOne_14 (by rw [c_2]; decide) (by rw [c_2]; decide) (off := 26) (by rw [c_2]; rfl) (by decide) ?_
      refine lv_aload_n hx hb dX4_ofOne_40 rfl (lv_at hl 0 rfl) ?_
      refine g4_18 ha hP o (oSc_lt0 ho) (sSc ho) (v := .ref (G.1 33)) rfl dX4_ofOne_41 ?_
      refine g4_120 ha hP 33 (by decide) (cX_33 G _) (v := .ref (G.1 37)) rfl dX4_ofOne_44 ?_
      refine lv_iload_n hx hb dX4_ofOne_47 rfl (lv_at hl 1 rfl) ?_
      refine xialdN ha hP 37 (by decide) (cX_37 G _) (ix i) (ix_nI (by omega)) (ix_lt (by omega) (by omega)) (by decide) dX4_ofOne_48 ?_
      exact xiret ha hP hS dX4_ofOne_49 ⟨by simp [a_ofOne, vP, vS, i_leN, t_1, c_2, -Int32.not_lt] <;> first | rfl | simp_all, rfl⟩ rfl
    by_cases c_3 : what = 1
    · refine lv_tableIn (tgt := 50) hx hb dX4_ofOne_14 (by rw [c_3]; decide) (by rw [c_3]; decide) (off := 36) (by rw [c_3]; rfl) (by decide) ?_
      refine lv_aload_n hx hb dX4_ofOne_50 rfl (lv_at hl 0 rfl) ?_
      refine g4_18 ha hP o (oSc_lt0 ho) (sSc ho) (v := .ref (G.1 33)) rfl dX4_ofOne_51 ?_
      refine g4_123 ha hP 33 (by decide) (cX_33 G _) (v := .ref (G.1 38)) rfl dX4_ofOne_54 ?_
      refine lv_iload_n hx hb dX4_ofOne_57 rfl (lv_at hl 1 rfl) ?_
      refine xialdN ha hP 38 (by decide) (cX_38 G _) (ix i) (ix_nI (by omega)) (ix_lt (by omega) (by omega)) (by decide) dX4_ofOne_58 ?_
      exact xiret ha hP hS dX4_ofOne_59 ⟨by simp [a_ofOne, vP, vS, i_leN, t_1, c_2, c_3, -Int32.not_lt] <;> first | rfl | simp_all, rfl⟩ rfl
    by_cases c_4 : what = 2
    · refine lv_tableIn (tgt := 60) hx hb dX4_ofOne_14 (by rw [c_4]; decide) (by rw [c_4]; decide) (off := 46) (by rw [c_4]; rfl) (by decide) ?_
      refine lv_aload_n hx hb dX4_ofOne_60 rfl (lv_at hl 0 rfl) ?_
      refine g4_15 ha hP o (oSc_lt0 ho) (sSc ho) (v := .ref (G.1 (o + 2))) rfl dX4_ofOne_61 ?_
      refine lv_iload_n hx hb dX4_ofOne_64 rfl (lv_at hl 1 rfl) ?_
      refine xialdN ha hP (o + 2) (oSc_lt2 ho) (sSc2 ho) (ix i) (ix_nI (by omega)) (ix_lt (by omega) (by omega)) (by decide) dX4_ofOne_65 ?_
      exact xiret ha hP hS dX4_ofOne_66 ⟨by simp [a_ofOne, vP, vS, i_leN, t_1, c_2, c_3, c_4, -Int32.not_lt] <;> first | rfl | simp_all, rfl⟩ rfl
    have t_2 := i_ne c_2
    have t_3 := i_ne c_3
    have t_4 := i_ne c_4
    have kk_2 : (0 : Int32).toInt = 0 := by decide
    have kk_3 : (1 : Int32).toInt = 1 := by decide
    have kk_4 : (2 : Int32).toInt = 2 := by decide
    refine lv_tableOut (tgt := 67) hx hb dX4_ofOne_14 (by omega) (by decide) ?_
    refine lv_aload_n hx hb dX4_ofOne_67 rfl (lv_at hl 0 rfl) ?_
    refine g4_18 ha hP o (oSc_lt0 ho) (sSc ho) (v := .ref (G.1 33)) rfl dX4_ofOne_68 ?_
    refine lv_iload_n hx hb dX4_ofOne_71 rfl (lv_at hl 1 rfl) ?_
    refine lv_aload_n hx hb dX4_ofOne_72 rfl (lv_at hl 0 rfl) ?_
    refine g4_15 ha hP o (oSc_lt0 ho) (sSc ho) (v := .ref (G.1 (o + 2))) rfl dX4_ofOne_73 ?_
    refine lv_iload_n hx hb dX4_ofOne_76 rfl (lv_at hl 1 rfl) ?_
    refine xialdN ha hP (o + 2) (oSc_lt2 ho) (sSc2 ho) (ix i) (ix_nI (by omega)) (ix_lt (by omega) (by omega)) (by decide) dX4_ofOne_77 ?_
    refine xVi ha hP hS (As := [.int i, .int (σ (o + 2) (ix i))]) (rest := []) 33 (by decide) (cX_33 G _) rfl rfl (c_X2_highOn G l σ 33 i (σ (o + 2) (ix i)) (by unfold oPl; omega) hp) kw_X4_70 hd_X2_highOn rfl ⟨rfl, rfl⟩ ⟨Nat.le_of_ble_eq_true rfl, Nat.le_of_ble_eq_true rfl⟩ ⟨Nat.zero_le _, Nat.zero_le _⟩ hl.1 (Nat.le_of_ble_eq_true rfl) rfl dX4_ofOne_78 (fun r u H locs hpq hP hS => ?_)
    obtain ⟨hr_, hu_⟩ := hpq
    have hr_ := hr_.symm
    have hu_ := hu_.symm
    subst hr_
    subst hu_
    exact xiret ha hP hS dX4_ofOne_81 ⟨by simp [a_ofOne, vP, vS, i_leN, t_1, c_2, c_3, c_4, -Int32.not_lt] <;> first | rfl | simp_all, rfl⟩ rfl
  · have t_1 := b2i_f c_1
    refine lv_iconst (v := 0) hx hb dX4_ofOne_11 (by decide) ?_
    exact xiret ha hP hS dX4_ofOne_12 ⟨by simp [a_ofOne, vP, vS, i_leN, t_1, -Int32.not_lt] <;> first | rfl | simp_all, rfl⟩ rfl
set_option maxHeartbeats 4000000 in
set_option maxRecDepth 100000 in
theorem c_X0_add (G : GT) (l : Launch) (σ : Mem) (o : Nat) (d : Int32) (ho : oDd o) : CV G 74 (cX G) l yX0_add ({ frames := 0, cells := 0, slots := 0, locals := 0 } : Room) cX0_add 2 none [.ref (G.1 o), .int d] σ (fun u => u = m_add σ o d) := by
  intro sz
  refine xbegin (by decide) (Nat.le_of_ble_eq_true rfl) ?_
  intro p e s m below meth c ls hsz ha hP hl
  subst hsz
  have hx := ha.1
  have hb := ha.2.1
  have hS : va_S (xA G 74 s.heap.size) s.heap s.heap [] := va_S.rf
  have hl : lv_has ls 2 [(0, .ref (G.1 o)), (1, .int d)] := hl
  have k_0 : (0 : Int32).toInt = 0 := by decide
  have k_1 : (1 : Int32).toInt = 1 := by decide
  have k_3 : (3 : Int32).toInt = 3 := by decide
  have k_4 : (4 : Int32).toInt = 4 := by decide
  have k_5 : (5 : Int32).toInt = 5 := by decide
  have k_6 : (6 : Int32).toInt = 6 := by decide
  have k_40 : (40 : Int32).toInt = 40 := by decide
  have k_60 : (60 : Int32).toInt = 60 := by decide
  refine lv_aload_n hx hb dX0_add_0 rfl (lv_at hl 0 rfl) ?_
  refine g0_15 ha hP o (oDd_lt0 ho) (sDd ho) (v := .int (σ o 0)) rfl dX0_add_1 ?_
  refine lv_if_lt (tgt := 39) hx hb dX0_add_4 (by decide) (fun c_1 => ?_) (fun c_1 => ?_)
  · have t_1 := i_lt c_1
    exact xvret ha hP hS dX0_add_39 (by simp [m_add, mU_e, i_leN, c_1, -Int32.not_lt] <;> first | rfl | simp_all)
  · have t_1 := i_nlt c_1
    refine lv_aload_n hx hb dX0_add_7 rfl (lv_at hl 0 rfl) ?_
    refine g0_15 ha hP o (oDd_lt0 ho) (sDd ho) (v := .int (σ o 0)) rfl dX0_add_8 ?_
    refine lv_aload_n hx hb dX0_add_11 rfl (lv_at hl 0 rfl) ?_
    refine g0_9 ha hP o (oDd_lt0 ho) (sDd ho) (v := .ref (G.1 (o + 1))) rfl dX0_add_12 ?_
    refine xalen ha hP (o + 1) (oDd_lt1 ho) 0 (sDd1 ho) rfl (v := 40) rfl dX0_add_15 ?_
    refine lv_icmp_ge (tgt := 39) hx hb dX0_add_16 (by decide) (fun c_2 => ?_) (fun c_2 => ?_)
    · have t_2 := i_le c_2
      have u_2 := u_le c_2
      exact xvret ha hP hS dX0_add_39 (by simp [m_add, mU_e, i_leN, c_1, u_2, -Int32.not_lt] <;> first | rfl | simp_all)
    · have t_2 := i_nle c_2
      have u_2 := u_nle c_2
      refine lv_aload_n hx hb dX0_add_19 rfl (lv_at hl 0 rfl) ?_
      refine g0_9 ha hP o (oDd_lt0 ho) (sDd ho) (v := .ref (G.1 (o + 1))) rfl dX0_add_20 ?_
      refine lv_aload_n hx hb dX0_add_23 rfl (lv_at hl 0 rfl) ?_
      refine g0_15 ha hP o (oDd_lt0 ho) (sDd ho) (v := .int (σ o 0)) rfl dX0_add_24 ?_
      refine lv_iload_n hx hb dX0_add_27 rfl (lv_at hl 1 rfl) ?_
      refine xiastN ha hP hS (cX_loc G) (o + 1) (oDd_lt1 ho) (fun τ => sDd1 ho) (ix (σ o 0)) (ix_nI (by omega)) (ix_lt (by omega) (by omega)) (by decide) dX0_add_28 (fun H locs hP hS => ?_)
      refine lv_aload_n hx hb dX0_add_29 rfl (lv_at hl 0 rfl) ?_
      refine lv_dup hx hb dX0_add_30 rfl ?_
      refine g0_15 ha hP o (oDd_lt0 ho) (sDd ho) (v := .int ((mU σ (o + 1) (ix (σ o 0)) d) o 0)) rfl dX0_add_31 ?_
      refine lv_iconst (v := 1) hx hb dX0_add_34 (by decide) ?_
      refine lv_iadd hx hb dX0_add_35 ?_
      refine p0_15 ha hP hS (cX_loc G) o (oDd_lt0 ho) (sDd ho) (x := (((mU σ (o + 1) (ix (σ o 0)) d) o 0) + 1)) (Nat.le_of_ble_eq_true rfl) (mU (mU σ (o + 1) (ix (σ o 0)) d) o 0 (((mU σ (o + 1) (ix (σ o 0)) d) o 0) + 1)) (fun q hq => mU_n _ _ _ hq) (sDd_p0 ho) dX0_add_36 (fun H locs hP hS => ?_)
      exact xvret ha hP hS dX0_add_39 (by simp [m_add, mU_e, i_leN, c_1, u_2, -Int32.not_lt] <;> first | rfl | simp_all)
set_option maxHeartbeats 4000000 in
set_option maxRecDepth 100000 in
theorem c_X0_take (G : GT) (l : Launch) (σ : Mem) (o : Nat) (q : Nat) (ho : oDd o) (hq : oDd q) (hne : o ≠ q) : CV G 74 (cX G) l yX0_take ({ frames := 0, cells := 0, slots := 0, locals := 0 } : Room) cX0_take 3 none [.ref (G.1 o), .ref (G.1 q)] σ (fun u => u = m_takeD σ o q) := by
  intro sz
  refine xbegin (by decide) (Nat.le_of_ble_eq_true rfl) ?_
  intro p e s m below meth c ls hsz ha hP hl
  subst hsz
  have hx := ha.1
  have hb := ha.2.1
  have hS : va_S (xA G 74 s.heap.size) s.heap s.heap [] := va_S.rf
  have hl : lv_has ls 3 [(0, .ref (G.1 o)), (1, .ref (G.1 q))] := hl
  have k_0 : (0 : Int32).toInt = 0 := by decide
  have k_3 : (3 : Int32).toInt = 3 := by decide
  have k_4 : (4 : Int32).toInt = 4 := by decide
  have k_5 : (5 : Int32).toInt = 5 := by decide
  have k_6 : (6 : Int32).toInt = 6 := by decide
  have k_40 : (40 : Int32).toInt = 40 := by decide
  have k_60 : (60 : Int32).toInt = 60 := by decide
  have hc := ix_cases (σ q 0)
  have hoq : o + 1 ≠ q ∧ o ≠ q + 1 := by unfold oDd at ho hq; omega
  refine lv_aload_n hx hb dX0_take_0 rfl (lv_at hl 0 rfl) ?_
  refine lv_aload_n hx hb dX0_take_1 rfl (lv_at hl 1 rfl) ?_
  refine g0_15 ha hP q (oDd_lt0 hq) (sDd hq) (v := .int (σ q 0)) rfl dX0_take_2 ?_
  refine p0_15 ha hP hS (cX_loc G) o (oDd_lt0 ho) (sDd ho) (x := (σ q 0)) (Nat.le_of_ble_eq_true rfl) (mU σ o 0 (σ q 0)) (fun q hq => mU_n _ _ _ hq) (sDd_p0 ho) dX0_take_5 (fun H locs hP hS => ?_)
  refine lv_iconst (v := 0) hx hb dX0_take_8 (by decide) ?_
  refine lv_istore_n (lv' := [(2, .int 0), (0, .ref (G.1 o)), (1, .ref (G.1 q))]) hx hb dX0_take_9 rfl hl (by decide) rfl (fun ls hl => ?_)
  have lp_10 : ∀ (d j : Nat) (σj : Mem) (H : Heap) (locs : List Loc) (ls : Array Slot), j ≤ (min (ix (σ q 0)) 40) → (min (ix (σ q 0)) 40) - j < d → σj = mF (mU σ o 0 (σ q 0)) (o + 1) j (σ (q + 1)) → va_P G.2.1 vwCl (wl G 74 (cX G σj)) H → va_S (xA G 74 s.heap.size) s.heap H locs → lv_has ls 3 [(2, .int (nI j)), (0, .ref (G.1 o)), (1, .ref (G.1 q))] → W p l e ({ frames := 0, cells := 0, slots := 0, locals := 0 } : Room) s m ([.ref (G.1 o), .ref (G.1 q)] : List Value).toArray below meth c H locs 0 0 (MQ below (va_Qv (fun u => u = m_takeD σ o q) (xB G 74 (cX G)) (xA G 74 s.heap.size)) ([.ref (G.1 o), .ref (G.1 q)] : List Value).toArray s 0 0 (xA G 74 s.heap.size)) (F0 m 10 ls []) := by
    intro d
    induction d with
    | zero => intro j σj H locs ls hj hd; exact absurd hd (Nat.not_lt_zero _)
    | succ d ih_10 =>
      intro j σj H locs ls hj_j hd_j e_σj hP hS hl
      have h31_j : (nI j).toInt = (j : Int) := nI_toInt (by omega)
      have hz : σj o 0 = σ q 0 := by rw [e_σj]; simp [mF_e, mU_e]
      have hz2 := i_eq hz
      refine lv_iload_n hx hb dX0_take_10 rfl (lv_at hl 0 rfl) ?_
      refine lv_aload_n hx hb dX0_take_11 rfl (lv_at hl 1 rfl) ?_
      refine g0_15 ha hP o (oDd_lt0 ho) (sDd ho) (v := .int (σj o 0)) rfl dX0_take_12 ?_
      refine lv_icmp_ge (tgt := 45) hx hb dX0_take_15 (by decide) (fun c_1 => ?_) (fun c_1 => ?_)
      · have t_1 := i_le c_1
        have u_1 := u_le c_1
        obtain rfl : j = (min (ix (σ q 0)) 40) := by omega
        exact xvret ha hP hS dX0_take_45 (by exact e_σj)
      · have t_1 := i_nle c_1
        have u_1 := u_nle c_1
        refine lv_iload_n hx hb dX0_take_18 rfl (lv_at hl 0 rfl) ?_
        refine lv_aload_n hx hb dX0_take_19 rfl (lv_at hl 1 rfl) ?_
        refine g0_9 ha hP o (oDd_lt0 ho) (sDd ho) (v := .ref (G.1 (o + 1))) rfl dX0_take_20 ?_
        refine xalen ha hP (o + 1) (oDd_lt1 ho) 0 (sDd1 ho) rfl (v := 40) rfl dX0_take_23 ?_
        refine lv_icmp_ge (tgt := 45) hx hb dX0_take_24 (by decide) (fun c_2 => ?_) (fun c_2 => ?_)
        · have t_2 := i_le c_2
          have u_2 := u_le c_2
          obtain rfl : j = (min (ix (σ q 0)) 40) := by omega
          exact xvret ha hP hS dX0_take_45 (by exact e_σj)
        · have t_2 := i_nle c_2
          have u_2 := u_nle c_2
          refine lv_aload_n hx hb dX0_take_27 rfl (lv_at hl 1 rfl) ?_
          refine g0_9 ha hP o (oDd_lt0 ho) (sDd ho) (v := .ref (G.1 (o + 1))) rfl dX0_take_28 ?_
          refine lv_iload_n hx hb dX0_take_31 rfl (lv_at hl 0 rfl) ?_
          refine lv_aload_n hx hb dX0_take_32 rfl (lv_at hl 2 rfl) ?_
          refine g0_9 ha hP q (oDd_lt0 hq) (sDd hq) (v := .ref (G.1 (q + 1))) rfl dX0_take_33 ?_
          refine lv_iload_n hx hb dX0_take_36 rfl (lv_at hl 0 rfl) ?_
          refine xialdN ha hP (q + 1) (oDd_lt1 hq) (sDd1 hq) j rfl (by omega) (by decide) dX0_take_37 ?_
          refine xiastN ha hP hS (cX_loc G) (o + 1) (oDd_lt1 ho) (fun τ => sDd1 ho) j rfl (by omega) (by decide) dX0_take_38 (fun H locs hP hS => ?_)
          refine lv_iinc (v := (nI (j + 1))) (lv' := [(2, .int (nI (j + 1))), (0, .ref (G.1 o)), (1, .ref (G.1 q))]) hx hb dX0_take_39 hl (k := 0) rfl (nI_1 j) (by decide) rfl (fun ls hl => ?_)
          refine lv_goto (tgt := 10) hx hb dX0_take_42 (by decide) ?_
          exact ih_10 (j + 1) (mU σj (o + 1) j (σj (q + 1) j)) _ _ _ (by omega) (by omega) (by rw [e_σj]; refine mF_s _ _ _ _ ?_; rw [mF_e, if_neg (by omega), mU_e, if_neg (by omega)]) hP hS (lv_sub hl [0, 1, 2] rfl)
  exact lp_10 ((min (ix (σ q 0)) 40) - 0 + 1) 0 (mU σ o 0 (σ q 0)) _ _ _ (by omega) (by omega) (mF_0 _ _ _) hP hS (lv_sub hl [0, 1, 2] rfl)
set_option maxHeartbeats 4000000 in
set_option maxRecDepth 100000 in
theorem c_X3_take (G : GT) (l : Launch) (σ : Mem) (o : Nat) (q : Nat) (n : Int32) (ho : oRow o) (hq : oFr q) : CV G 74 (cX G) l yX3_take ({ frames := 2, cells := 0, slots := 0, locals := 44 } : Room) cX3_take 4 none [.ref (G.1 o), .ref (G.1 q), .int n] σ (fun u => u = m_takeR σ o q n) := by
  intro sz
  refine xbegin (by decide) (Nat.le_of_ble_eq_true rfl) ?_
  intro p e s m below meth c ls hsz ha hP hl
  subst hsz
  have hx := ha.1
  have hb := ha.2.1
  have hS : va_S (xA G 74 s.heap.size) s.heap s.heap [] := va_S.rf
  have hl : lv_has ls 4 [(0, .ref (G.1 o)), (1, .ref (G.1 q)), (2, .int n)] := hl
  have k_0 : (0 : Int32).toInt = 0 := by decide
  have k_3 : (3 : Int32).toInt = 3 := by decide
  have k_4 : (4 : Int32).toInt = 4 := by decide
  have k_5 : (5 : Int32).toInt = 5 := by decide
  have k_6 : (6 : Int32).toInt = 6 := by decide
  have k_40 : (40 : Int32).toInt = 40 := by decide
  have k_60 : (60 : Int32).toInt = 60 := by decide
  have hi := imin_i n 5
  have hi2 := imin_i (imin n 5) 60
  have hc := ix_cases (imin (imin n 5) 60)
  have hoq : q ≠ o + 1 ∧ o ≠ q := by unfold oRow oFr at *; omega
  refine lv_aload_n hx hb dX3_take_0 rfl (lv_at hl 0 rfl) ?_
  refine lv_iload_n hx hb dX3_take_1 rfl (lv_at hl 2 rfl) ?_
  refine lv_aload_n hx hb dX3_take_2 rfl (lv_at hl 1 rfl) ?_
  refine xalen ha hP q (oFr_lt0 hq) 0 (sFr hq) rfl (v := 5) rfl dX3_take_3 ?_
  refine xmmin ha (tb_in (w := .methodLink RX3 27 Lib.Math.min.name) (by decide +kernel)) hl.1 (by decide) (Nat.le_of_ble_eq_true rfl) ⟨Nat.zero_le _, Nat.zero_le _⟩ dX3_take_4 ?_
  refine lv_iconst (v := 0) hx hb dX3_take_7 (by decide) ?_
  refine xVv ha hP hS (As := [.int (imin n 5), .int 0]) (rest := []) o (oRow_lt0 ho) (sRow ho) rfl rfl (c_X3_fill G l σ o (imin n 5) 0 ho) kw_X3_33 hd_X3_fill rfl ⟨rfl, rfl⟩ ⟨Nat.le_of_ble_eq_true rfl, Nat.le_of_ble_eq_true rfl⟩ ⟨Nat.zero_le _, Nat.zero_le _⟩ hl.1 (Nat.le_of_ble_eq_true rfl) rfl dX3_take_8 (fun u H locs hpq hP hS => ?_)
  have hpq := hpq.symm
  subst hpq
  refine lv_iconst (v := 0) hx hb dX3_take_11 (by decide) ?_
  refine lv_istore_n (lv' := [(3, .int 0), (0, .ref (G.1 o)), (1, .ref (G.1 q)), (2, .int n)]) hx hb dX3_take_12 rfl hl (by decide) rfl (fun ls hl => ?_)
  have lp_13 : ∀ (d j : Nat) (σj : Mem) (H : Heap) (locs : List Loc) (ls : Array Slot), j ≤ (ix (imin (imin n 5) 60)) → (ix (imin (imin n 5) 60)) - j < d → σj = mF (m_fill σ o (imin n 5) 0) (o + 1) j (σ q) → va_P G.2.1 vwCl (wl G 74 (cX G σj)) H → va_S (xA G 74 s.heap.size) s.heap H locs → lv_has ls 4 [(3, .int (nI j)), (0, .ref (G.1 o)), (1, .ref (G.1 q)), (2, .int n)] → W p l e ({ frames := 2, cells := 0, slots := 0, locals := 44 } : Room) s m ([.ref (G.1 o), .ref (G.1 q), .int n] : List Value).toArray below meth c H locs 0 0 (MQ below (va_Qv (fun u => u = m_takeR σ o q n) (xB G 74 (cX G)) (xA G 74 s.heap.size)) ([.ref (G.1 o), .ref (G.1 q), .int n] : List Value).toArray s 0 0 (xA G 74 s.heap.size)) (F0 m 13 ls []) := by
    intro d
    induction d with
    | zero => intro j σj H locs ls hj hd; exact absurd hd (Nat.not_lt_zero _)
    | succ d ih_13 =>
      intro j σj H locs ls hj_j hd_j e_σj hP hS hl
      have h31_j : (nI j).toInt = (j : Int) := nI_toInt (by omega)
      have hz : σj o 0 = imin (imin n 5) 60 := by rw [e_σj]; simp [m_fill, mF_e, mU_e]
      have hz2 := i_eq hz
      refine lv_iload_n hx hb dX3_take_13 rfl (lv_at hl 0 rfl) ?_
      refine lv_aload_n hx hb dX3_take_14 rfl (lv_at hl 1 rfl) ?_
      refine g3_15 ha hP o (oRow_lt0 ho) (sRow ho) (v := .int (σj o 0)) rfl dX3_take_15 ?_
      refine lv_icmp_ge (tgt := 36) hx hb dX3_take_18 (by decide) (fun c_1 => ?_) (fun c_1 => ?_)
      · have t_1 := i_le c_1
        have u_1 := u_le c_1
        obtain rfl : j = (ix (imin (imin n 5) 60)) := by omega
        exact xvret ha hP hS dX3_take_36 (by exact e_σj)
      · have t_1 := i_nle c_1
        have u_1 := u_nle c_1
        have hlt_j : j < (ix (imin (imin n 5) 60)) := by omega
        refine lv_aload_n hx hb dX3_take_21 rfl (lv_at hl 1 rfl) ?_
        refine g3_9 ha hP o (oRow_lt0 ho) (sRow ho) (v := .ref (G.1 (o + 1))) rfl dX3_take_22 ?_
        refine lv_iload_n hx hb dX3_take_25 rfl (lv_at hl 0 rfl) ?_
        refine lv_aload_n hx hb dX3_take_26 rfl (lv_at hl 2 rfl) ?_
        refine lv_iload_n hx hb dX3_take_27 rfl (lv_at hl 0 rfl) ?_
        refine xialdN ha hP q (oFr_lt0 hq) (sFr hq) j rfl (by omega) (by decide) dX3_take_28 ?_
        refine xiastN ha hP hS (cX_loc G) (o + 1) (oRow_lt1 ho) (fun τ => sRow1 ho) j rfl (by omega) (by decide) dX3_take_29 (fun H locs hP hS => ?_)
        refine lv_iinc (v := (nI (j + 1))) (lv' := [(3, .int (nI (j + 1))), (0, .ref (G.1 o)), (1, .ref (G.1 q)), (2, .int n)]) hx hb dX3_take_30 hl (k := 0) rfl (nI_1 j) (by decide) rfl (fun ls hl => ?_)
        refine lv_goto (tgt := 13) hx hb dX3_take_33 (by decide) ?_
        exact ih_13 (j + 1) (mU σj (o + 1) j (σj q j)) _ _ _ (by omega) (by omega) (by rw [e_σj]; refine mF_s _ _ _ _ ?_; rw [mF_e, if_neg hoq.1, m_fill, mF_e, if_neg hoq.1, mU_e, if_neg (fun h => hoq.2 h.symm)]) hP hS (lv_sub hl [0, 1, 2, 3] rfl)
  exact lp_13 ((ix (imin (imin n 5) 60)) - 0 + 1) 0 (m_fill σ o (imin n 5) 0) _ _ _ (by omega) (by omega) (mF_0 _ _ _) hP hS (lv_sub hl [0, 1, 2, 3] rfl)
set_option maxHeartbeats 4000000 in
set_option maxRecDepth 100000 in
theorem c_X4_begin (G : GT) (l : Launch) (σ : Mem) (o : Nat) (ho : oSc o) : CV G 74 (cX G) l yX4_begin ({ frames := 0, cells := 0, slots := 0, locals := 0 } : Room) cX4_begin 2 none [.ref (G.1 o)] σ (fun u => u = m_begin σ o) := by
  intro sz
  refine xbegin (by decide) (Nat.le_of_ble_eq_true rfl) ?_
  intro p e s m below meth c ls hsz ha hP hl
  subst hsz
  have hx := ha.1
  have hb := ha.2.1
  have hS : va_S (xA G 74 s.heap.size) s.heap s.heap [] := va_S.rf
  have hl : lv_has ls 2 [(0, .ref (G.1 o))] := hl
  have k_m9 : (-9 : Int32).toInt = -9 := by decide
  have k_0 : (0 : Int32).toInt = 0 := by decide
  have k_3 : (3 : Int32).toInt = 3 := by decide
  have k_4 : (4 : Int32).toInt = 4 := by decide
  have k_5 : (5 : Int32).toInt = 5 := by decide
  have k_6 : (6 : Int32).toInt = 6 := by decide
  have k_40 : (40 : Int32).toInt = 40 := by decide
  have k_60 : (60 : Int32).toInt = 60 := by decide
  refine lv_iconst (v := 0) hx hb dX4_begin_0 (by decide) ?_
  refine lv_istore_n (lv' := [(1, .int 0), (0, .ref (G.1 o))]) hx hb dX4_begin_1 rfl hl (by decide) rfl (fun ls hl => ?_)
  have lp_2 : ∀ (d j : Nat) (σj : Mem) (H : Heap) (locs : List Loc) (ls : Array Slot), j ≤ 4 → 4 - j < d → σj = mF σ (o + 1) j (fun _ => 0) → va_P G.2.1 vwCl (wl G 74 (cX G σj)) H → va_S (xA G 74 s.heap.size) s.heap H locs → lv_has ls 2 [(1, .int (nI j)), (0, .ref (G.1 o))] → W p l e ({ frames := 0, cells := 0, slots := 0, locals := 0 } : Room) s m ([.ref (G.1 o)] : List Value).toArray below meth c H locs 0 0 (MQ below (va_Qv (fun u => u = m_begin σ o) (xB G 74 (cX G)) (xA G 74 s.heap.size)) ([.ref (G.1 o)] : List Value).toArray s 0 0 (xA G 74 s.heap.size)) (F0 m 2 ls []) := by
    intro d
    induction d with
    | zero => intro j σj H locs ls hj hd; exact absurd hd (Nat.not_lt_zero _)
    | succ d ih_2 =>
      intro j σj H locs ls hj_j hd_j e_σj hP hS hl
      have h31_j : (nI j).toInt = (j : Int) := nI_toInt (by omega)
      refine lv_iload_n hx hb dX4_begin_2 rfl (lv_at hl 0 rfl) ?_
      refine lv_aload_n hx hb dX4_begin_3 rfl (lv_at hl 1 rfl) ?_
      refine g4_9 ha hP o (oSc_lt0 ho) (sSc ho) (v := .ref (G.1 (o + 1))) rfl dX4_begin_4 ?_
      refine xalen ha hP (o + 1) (oSc_lt1 ho) 0 (sSc1 ho) rfl (v := 4) rfl dX4_begin_7 ?_
      refine lv_icmp_ge (tgt := 24) hx hb dX4_begin_8 (by decide) (fun c_1 => ?_) (fun c_1 => ?_)
      · have t_1 := i_le c_1
        have u_1 := u_le c_1
        obtain rfl : j = 4 := by omega
        refine lv_iconst (v := 0) hx hb dX4_begin_24 (by decide) ?_
        refine lv_istore_n (lv' := [(1, .int 0), (0, .ref (G.1 o))]) hx hb dX4_begin_25 rfl hl (by decide) rfl (fun ls hl => ?_)
        have lp_26 : ∀ (d j1 : Nat) (τj : Mem) (H : Heap) (locs : List Loc) (ls : Array Slot), j1 ≤ 5 → 5 - j1 < d → τj = mF (mF σ (o + 1) 4 (fun _ => 0)) (o + 2) j1 (fun _ => -9) → va_P G.2.1 vwCl (wl G 74 (cX G τj)) H → va_S (xA G 74 s.heap.size) s.heap H locs → lv_has ls 2 [(1, .int (nI j1)), (0, .ref (G.1 o))] → W p l e ({ frames := 0, cells := 0, slots := 0, locals := 0 } : Room) s m ([.ref (G.1 o)] : List Value).toArray below meth c H locs 0 0 (MQ below (va_Qv (fun u => u = m_begin σ o) (xB G 74 (cX G)) (xA G 74 s.heap.size)) ([.ref (G.1 o)] : List Value).toArray s 0 0 (xA G 74 s.heap.size)) (F0 m 26 ls []) := by
          intro d
          induction d with
          | zero => intro j1 τj H locs ls hj hd; exact absurd hd (Nat.not_lt_zero _)
          | succ d ih_26 =>
            intro j1 τj H locs ls hj_j1 hd_j1 e_τj hP hS hl
            have h31_j1 : (nI j1).toInt = (j1 : Int) := nI_toInt (by omega)
            refine lv_iload_n hx hb dX4_begin_26 rfl (lv_at hl 0 rfl) ?_
            refine lv_aload_n hx hb dX4_begin_27 rfl (lv_at hl 1 rfl) ?_
            refine g4_15 ha hP o (oSc_lt0 ho) (sSc ho) (v := .ref (G.1 (o + 2))) rfl dX4_begin_28 ?_
            refine xalen ha hP (o + 2) (oSc_lt2 ho) 0 (sSc2 ho) rfl (v := 5) rfl dX4_begin_31 ?_
            refine lv_icmp_ge (tgt := 49) hx hb dX4_begin_32 (by decide) (fun c_2 => ?_) (fun c_2 => ?_)
            · have t_2 := i_le c_2
              have u_2 := u_le c_2
              obtain rfl : j1 = 5 := by omega
              refine lv_aload_n hx hb dX4_begin_49 rfl (lv_at hl 1 rfl) ?_
              refine lv_iconst (v := 0) hx hb dX4_begin_50 (by decide) ?_
              refine p4_22 ha hP hS (cX_loc G) o (oSc_lt0 ho) (sSc ho) (x := 0) (Nat.le_of_ble_eq_true rfl) (mU τj o 0 0) (fun q hq => mU_n _ _ _ hq) (sSc_p0 ho) dX4_begin_51 (fun H locs hP hS => ?_)
              refine lv_aload_n hx hb dX4_begin_54 rfl (lv_at hl 1 rfl) ?_
              refine lv_iconst (v := 0) hx hb dX4_begin_55 (by decide) ?_
              refine p4_26 ha hP hS (cX_loc G) o (oSc_lt0 ho) (sSc ho) (x := 0) (Nat.le_of_ble_eq_true rfl) (mU (mU τj o 0 0) o 1 0) (fun q hq => mU_n _ _ _ hq) (sSc_p1 ho) dX4_begin_56 (fun H locs hP hS => ?_)
              refine lv_aload_n hx hb dX4_begin_59 rfl (lv_at hl 1 rfl) ?_
              refine lv_iconst (v := 0) hx hb dX4_begin_60 (by decide) ?_
              refine p4_29 ha hP hS (cX_loc G) o (oSc_lt0 ho) (sSc ho) (x := 0) (Nat.le_of_ble_eq_true rfl) (mU (mU (mU τj o 0 0) o 1 0) o 2 0) (fun q hq => mU_n _ _ _ hq) (sSc_p2 ho) dX4_begin_61 (fun H locs hP hS => ?_)
              exact xvret ha hP hS dX4_begin_64 (by rw [e_τj]; rfl)
            · have t_2 := i_nle c_2
              have u_2 := u_nle c_2
              have hlt_j1 : j1 < 5 := by omega
              refine lv_aload_n hx hb dX4_begin_35 rfl (lv_at hl 1 rfl) ?_
              refine g4_15 ha hP o (oSc_lt0 ho) (sSc ho) (v := .ref (G.1 (o + 2))) rfl dX4_begin_36 ?_
              refine lv_iload_n hx hb dX4_begin_39 rfl (lv_at hl 0 rfl) ?_
              refine lv_bipush (v := (-9)) hx hb dX4_begin_40 (by decide) ?_
              refine xiastN ha hP hS (cX_loc G) (o + 2) (oSc_lt2 ho) (fun τ => sSc2 ho) j1 rfl (by omega) (by decide) dX4_begin_42 (fun H locs hP hS => ?_)
              refine lv_iinc (v := (nI (j1 + 1))) (lv' := [(1, .int (nI (j1 + 1))), (0, .ref (G.1 o))]) hx hb dX4_begin_43 hl (k := 0) rfl (nI_1 j1) (by decide) rfl (fun ls hl => ?_)
              refine lv_goto (tgt := 26) hx hb dX4_begin_46 (by decide) ?_
              exact ih_26 (j1 + 1) (mU τj (o + 2) j1 (-9)) _ _ _ (by omega) (by omega) (by rw [e_τj]; exact mF_s _ _ _ _ rfl) hP hS (lv_sub hl [0, 1] rfl)
        exact lp_26 (5 - 0 + 1) 0 σj _ _ _ (by omega) (by omega) (by rw [e_σj]; exact mF_0 _ _ _) hP hS (lv_sub hl [0, 1] rfl)
      · have t_1 := i_nle c_1
        have u_1 := u_nle c_1
        have hlt_j : j < 4 := by omega
        refine lv_aload_n hx hb dX4_begin_11 rfl (lv_at hl 1 rfl) ?_
        refine g4_9 ha hP o (oSc_lt0 ho) (sSc ho) (v := .ref (G.1 (o + 1))) rfl dX4_begin_12 ?_
        refine lv_iload_n hx hb dX4_begin_15 rfl (lv_at hl 0 rfl) ?_
        refine lv_iconst (v := 0) hx hb dX4_begin_16 (by decide) ?_
        refine xiastN ha hP hS (cX_loc G) (o + 1) (oSc_lt1 ho) (fun τ => sSc1 ho) j rfl (by omega) (by decide) dX4_begin_17 (fun H locs hP hS => ?_)
        refine lv_iinc (v := (nI (j + 1))) (lv' := [(1, .int (nI (j + 1))), (0, .ref (G.1 o))]) hx hb dX4_begin_18 hl (k := 0) rfl (nI_1 j) (by decide) rfl (fun ls hl => ?_)
        refine lv_goto (tgt := 2) hx hb dX4_begin_21 (by decide) ?_
        exact ih_2 (j + 1) (mU σj (o + 1) j 0) _ _ _ (by omega) (by omega) (by rw [e_σj]; exact mF_s _ _ _ _ rfl) hP hS (lv_sub hl [0, 1] rfl)
  exact lp_2 (4 - 0 + 1) 0 σ _ _ _ (by omega) (by omega) (mF_0 _ _ _) hP hS (lv_sub hl [0, 1] rfl)
set_option maxHeartbeats 4000000 in
set_option maxRecDepth 100000 in
theorem c_X4_take (G : GT) (l : Launch) (σ : Mem)   : CV G 74 (cX G) l yX4_take ({ frames := 0, cells := 0, slots := 0, locals := 0 } : Room) cX4_take 3 none [.ref (G.1 48), .ref (G.1 45)] σ (fun u => u = m_takeS σ) := by
  intro sz
  refine xbegin (by decide) (Nat.le_of_ble_eq_true rfl) ?_
  intro p e s m below meth c ls hsz ha hP hl
  subst hsz
  have hx := ha.1
  have hb := ha.2.1
  have hS : va_S (xA G 74 s.heap.size) s.heap s.heap [] := va_S.rf
  have hl : lv_has ls 3 [(0, .ref (G.1 48)), (1, .ref (G.1 45))] := hl
  have k_0 : (0 : Int32).toInt = 0 := by decide
  have k_3 : (3 : Int32).toInt = 3 := by decide
  have k_4 : (4 : Int32).toInt = 4 := by decide
  have k_5 : (5 : Int32).toInt = 5 := by decide
  have k_6 : (6 : Int32).toInt = 6 := by decide
  have k_40 : (40 : Int32).toInt = 40 := by decide
  have k_60 : (60 : Int32).toInt = 60 := by decide
  refine lv_iconst (v := 0) hx hb dX4_take_0 (by decide) ?_
  refine lv_istore_n (lv' := [(2, .int 0), (0, .ref (G.1 48)), (1, .ref (G.1 45))]) hx hb dX4_take_1 rfl hl (by decide) rfl (fun ls hl => ?_)
  have lp_2 : ∀ (d j : Nat) (σj : Mem) (H : Heap) (locs : List Loc) (ls : Array Slot), j ≤ 4 → 4 - j < d → σj = mF σ 49 j (σ 46) → va_P G.2.1 vwCl (wl G 74 (cX G σj)) H → va_S (xA G 74 s.heap.size) s.heap H locs → lv_has ls 3 [(2, .int (nI j)), (0, .ref (G.1 48)), (1, .ref (G.1 45))] → W p l e ({ frames := 0, cells := 0, slots := 0, locals := 0 } : Room) s m ([.ref (G.1 48), .ref (G.1 45)] : List Value).toArray below meth c H locs 0 0 (MQ below (va_Qv (fun u => u = m_takeS σ) (xB G 74 (cX G)) (xA G 74 s.heap.size)) ([.ref (G.1 48), .ref (G.1 45)] : List Value).toArray s 0 0 (xA G 74 s.heap.size)) (F0 m 2 ls []) := by
    intro d
    induction d with
    | zero => intro j σj H locs ls hj hd; exact absurd hd (Nat.not_lt_zero _)
    | succ d ih_2 =>
      intro j σj H locs ls hj_j hd_j e_σj hP hS hl
      have h31_j : (nI j).toInt = (j : Int) := nI_toInt (by omega)
      refine lv_iload_n hx hb dX4_take_2 rfl (lv_at hl 0 rfl) ?_
      refine lv_aload_n hx hb dX4_take_3 rfl (lv_at hl 1 rfl) ?_
      refine g4_9 ha hP 48 (by decide) (cX_48 G _) (v := .ref (G.1 49)) rfl dX4_take_4 ?_
      refine xalen ha hP 49 (by decide) 0 (cX_49 G _) rfl (v := 4) rfl dX4_take_7 ?_
      refine lv_icmp_ge (tgt := 29) hx hb dX4_take_8 (by decide) (fun c_1 => ?_) (fun c_1 => ?_)
      · have t_1 := i_le c_1
        have u_1 := u_le c_1
        obtain rfl : j = 4 := by omega
        refine lv_iconst (v := 0) hx hb dX4_take_29 (by decide) ?_
        refine lv_istore_n (lv' := [(2, .int 0), (0, .ref (G.1 48)), (1, .ref (G.1 45))]) hx hb dX4_take_30 rfl hl (by decide) rfl (fun ls hl => ?_)
        have lp_31 : ∀ (d j1 : Nat) (τj : Mem) (H : Heap) (locs : List Loc) (ls : Array Slot), j1 ≤ 5 → 5 - j1 < d → τj = mF (mF σ 49 4 (σ 46)) 50 j1 (σ 47) → va_P G.2.1 vwCl (wl G 74 (cX G τj)) H → va_S (xA G 74 s.heap.size) s.heap H locs → lv_has ls 3 [(2, .int (nI j1)), (0, .ref (G.1 48)), (1, .ref (G.1 45))] → W p l e ({ frames := 0, cells := 0, slots := 0, locals := 0 } : Room) s m ([.ref (G.1 48), .ref (G.1 45)] : List Value).toArray below meth c H locs 0 0 (MQ below (va_Qv (fun u => u = m_takeS σ) (xB G 74 (cX G)) (xA G 74 s.heap.size)) ([.ref (G.1 48), .ref (G.1 45)] : List Value).toArray s 0 0 (xA G 74 s.heap.size)) (F0 m 31 ls []) := by
          intro d
          induction d with
          | zero => intro j1 τj H locs ls hj hd; exact absurd hd (Nat.not_lt_zero _)
          | succ d ih_31 =>
            intro j1 τj H locs ls hj_j1 hd_j1 e_τj hP hS hl
            have h31_j1 : (nI j1).toInt = (j1 : Int) := nI_toInt (by omega)
            refine lv_iload_n hx hb dX4_take_31 rfl (lv_at hl 0 rfl) ?_
            refine lv_aload_n hx hb dX4_take_32 rfl (lv_at hl 1 rfl) ?_
            refine g4_15 ha hP 48 (by decide) (cX_48 G _) (v := .ref (G.1 50)) rfl dX4_take_33 ?_
            refine xalen ha hP 50 (by decide) 0 (cX_50 G _) rfl (v := 5) rfl dX4_take_36 ?_
            refine lv_icmp_ge (tgt := 58) hx hb dX4_take_37 (by decide) (fun c_2 => ?_) (fun c_2 => ?_)
            · have t_2 := i_le c_2
              have u_2 := u_le c_2
              obtain rfl : j1 = 5 := by omega
              refine lv_aload_n hx hb dX4_take_58 rfl (lv_at hl 1 rfl) ?_
              refine lv_aload_n hx hb dX4_take_59 rfl (lv_at hl 2 rfl) ?_
              refine g4_22 ha hP 45 (by decide) (cX_45 G _) (v := .int (τj 45 0)) rfl dX4_take_60 ?_
              refine p4_22 ha hP hS (cX_loc G) 48 (by decide) (cX_48 G _) (x := (τj 45 0)) (Nat.le_of_ble_eq_true rfl) (mU τj 48 0 (τj 45 0)) (fun q hq => mU_n _ _ _ hq) (sSc_p0 (Or.inr rfl)) dX4_take_63 (fun H locs hP hS => ?_)
              refine lv_aload_n hx hb dX4_take_66 rfl (lv_at hl 1 rfl) ?_
              refine lv_aload_n hx hb dX4_take_67 rfl (lv_at hl 2 rfl) ?_
              refine g4_26 ha hP 45 (by decide) (cX_45 G _) (v := .int ((mU τj 48 0 (τj 45 0)) 45 1)) rfl dX4_take_68 ?_
              refine p4_26 ha hP hS (cX_loc G) 48 (by decide) (cX_48 G _) (x := ((mU τj 48 0 (τj 45 0)) 45 1)) (Nat.le_of_ble_eq_true rfl) (mU (mU τj 48 0 (τj 45 0)) 48 1 ((mU τj 48 0 (τj 45 0)) 45 1)) (fun q hq => mU_n _ _ _ hq) (sSc_p1 (Or.inr rfl)) dX4_take_71 (fun H locs hP hS => ?_)
              refine lv_aload_n hx hb dX4_take_74 rfl (lv_at hl 1 rfl) ?_
              refine lv_aload_n hx hb dX4_take_75 rfl (lv_at hl 2 rfl) ?_
              refine g4_29 ha hP 45 (by decide) (cX_45 G _) (v := .int ((mU (mU τj 48 0 (τj 45 0)) 48 1 ((mU τj 48 0 (τj 45 0)) 45 1)) 45 2)) rfl dX4_take_76 ?_
              refine p4_29 ha hP hS (cX_loc G) 48 (by decide) (cX_48 G _) (x := ((mU (mU τj 48 0 (τj 45 0)) 48 1 ((mU τj 48 0 (τj 45 0)) 45 1)) 45 2)) (Nat.le_of_ble_eq_true rfl) (mU (mU (mU τj 48 0 (τj 45 0)) 48 1 ((mU τj 48 0 (τj 45 0)) 45 1)) 48 2 ((mU (mU τj 48 0 (τj 45 0)) 48 1 ((mU τj 48 0 (τj 45 0)) 45 1)) 45 2)) (fun q hq => mU_n _ _ _ hq) (sSc_p2 (Or.inr rfl)) dX4_take_79 (fun H locs hP hS => ?_)
              exact xvret ha hP hS dX4_take_82 (by rw [e_τj]; simp [m_takeS, mU_e, mF_e])
            · have t_2 := i_nle c_2
              have u_2 := u_nle c_2
              have hlt_j1 : j1 < 5 := by omega
              refine lv_aload_n hx hb dX4_take_40 rfl (lv_at hl 1 rfl) ?_
              refine g4_15 ha hP 48 (by decide) (cX_48 G _) (v := .ref (G.1 50)) rfl dX4_take_41 ?_
              refine lv_iload_n hx hb dX4_take_44 rfl (lv_at hl 0 rfl) ?_
              refine lv_aload_n hx hb dX4_take_45 rfl (lv_at hl 2 rfl) ?_
              refine g4_15 ha hP 45 (by decide) (cX_45 G _) (v := .ref (G.1 47)) rfl dX4_take_46 ?_
              refine lv_iload_n hx hb dX4_take_49 rfl (lv_at hl 0 rfl) ?_
              refine xialdN ha hP 47 (by decide) (cX_47 G _) j1 rfl (by omega) (by decide) dX4_take_50 ?_
              refine xiastN ha hP hS (cX_loc G) 50 (by decide) (fun τ => cX_50 G τ) j1 rfl (by omega) (by decide) dX4_take_51 (fun H locs hP hS => ?_)
              refine lv_iinc (v := (nI (j1 + 1))) (lv' := [(2, .int (nI (j1 + 1))), (0, .ref (G.1 48)), (1, .ref (G.1 45))]) hx hb dX4_take_52 hl (k := 0) rfl (nI_1 j1) (by decide) rfl (fun ls hl => ?_)
              refine lv_goto (tgt := 31) hx hb dX4_take_55 (by decide) ?_
              exact ih_31 (j1 + 1) (mU τj 50 j1 (τj 47 j1)) _ _ _ (by omega) (by omega) (by rw [e_τj]; refine mF_s _ _ _ _ ?_; simp [mF_e]) hP hS (lv_sub hl [0, 1, 2] rfl)
        exact lp_31 (5 - 0 + 1) 0 σj _ _ _ (by omega) (by omega) (by rw [e_σj]; exact mF_0 _ _ _) hP hS (lv_sub hl [0, 1, 2] rfl)
      · have t_1 := i_nle c_1
        have u_1 := u_nle c_1
        have hlt_j : j < 4 := by omega
        refine lv_aload_n hx hb dX4_take_11 rfl (lv_at hl 1 rfl) ?_
        refine g4_9 ha hP 48 (by decide) (cX_48 G _) (v := .ref (G.1 49)) rfl dX4_take_12 ?_
        refine lv_iload_n hx hb dX4_take_15 rfl (lv_at hl 0 rfl) ?_
        refine lv_aload_n hx hb dX4_take_16 rfl (lv_at hl 2 rfl) ?_
        refine g4_9 ha hP 45 (by decide) (cX_45 G _) (v := .ref (G.1 46)) rfl dX4_take_17 ?_
        refine lv_iload_n hx hb dX4_take_20 rfl (lv_at hl 0 rfl) ?_
        refine xialdN ha hP 46 (by decide) (cX_46 G _) j rfl (by omega) (by decide) dX4_take_21 ?_
        refine xiastN ha hP hS (cX_loc G) 49 (by decide) (fun τ => cX_49 G τ) j rfl (by omega) (by decide) dX4_take_22 (fun H locs hP hS => ?_)
        refine lv_iinc (v := (nI (j + 1))) (lv' := [(2, .int (nI (j + 1))), (0, .ref (G.1 48)), (1, .ref (G.1 45))]) hx hb dX4_take_23 hl (k := 0) rfl (nI_1 j) (by decide) rfl (fun ls hl => ?_)
        refine lv_goto (tgt := 2) hx hb dX4_take_26 (by decide) ?_
        exact ih_2 (j + 1) (mU σj 49 j (σj 46 j)) _ _ _ (by omega) (by omega) (by rw [e_σj]; refine mF_s _ _ _ _ ?_; simp [mF_e]) hP hS (lv_sub hl [0, 1, 2] rfl)
  exact lp_2 (4 - 0 + 1) 0 σ _ _ _ (by omega) (by omega) (mF_0 _ _ _) hP hS (lv_sub hl [0, 1, 2] rfl)
set_option maxHeartbeats 4000000 in
set_option maxRecDepth 100000 in
theorem c_X4_goUp (G : GT) (l : Launch) (σ : Mem) (o : Nat) (i : Int32) (k : Int32) (ho : oSc o) (hp : PO 33 σ) : CI G 74 (cX G) l yX4_goUp ({ frames := 3, cells := 0, slots := 0, locals := 67 } : Room) cX4_goUp 3 (some .int) [.ref (G.1 o), .int i, .int k] σ (fun (r : Int32) u => r = a_load (vP (m_goUp σ o i k) 33) (vS (m_goUp σ o i k) o) k ∧ u = m_goUp σ o i k) := by
  intro sz
  refine xbegin (by decide) (Nat.le_of_ble_eq_true rfl) ?_
  intro p e s m below meth c ls hsz ha hP hl
  subst hsz
  have hx := ha.1
  have hb := ha.2.1
  have hS : va_S (xA G 74 s.heap.size) s.heap s.heap [] := va_S.rf
  have hl : lv_has ls 3 [(0, .ref (G.1 o)), (1, .int i), (2, .int k)] := hl
  have k_0 : (0 : Int32).toInt = 0 := by decide
  have hp2 := hp.2.2.2
  refine lv_aload_n hx hb dX4_goUp_0 rfl (lv_at hl 0 rfl) ?_
  refine g4_18 ha hP o (oSc_lt0 ho) (sSc ho) (v := .ref (G.1 33)) rfl dX4_goUp_1 ?_
  refine lv_iload_n hx hb dX4_goUp_4 rfl (lv_at hl 1 rfl) ?_
  refine xVi ha hP hS (As := [.int i]) (rest := []) 33 (by decide) (cX_33 G _) rfl rfl (c_X2_isOne G l σ 33 i (by unfold oPl; omega)) kw_X4_61 hd_X2_isOne rfl ⟨rfl, rfl⟩ ⟨Nat.le_of_ble_eq_true rfl, Nat.le_of_ble_eq_true rfl⟩ ⟨Nat.zero_le _, Nat.zero_le _⟩ hl.1 (Nat.le_of_ble_eq_true rfl) rfl dX4_goUp_5 (fun r u H locs hpq hP hS => ?_)
  obtain ⟨hr_, hu_⟩ := hpq
  have hr_ := hr_.symm
  have hu_ := hu_.symm
  subst hr_
  subst hu_
  refine lv_if_eq (tgt := 18) hx hb dX4_goUp_8 (by decide) (fun c_1 => ?_) (fun c_1 => ?_)
  · have t_1 := b2i_f c_1
    refine lv_aload_n hx hb dX4_goUp_18 rfl (lv_at hl 0 rfl) ?_
    refine lv_iload_n hx hb dX4_goUp_19 rfl (lv_at hl 2 rfl) ?_
    refine xVi ha hP hS (As := [.int k]) (rest := []) o (oSc_lt0 ho) (sSc ho) rfl rfl (c_X4_loadOn G l σ o k ho hp) kw_X4_67 hd_X4_loadOn rfl ⟨rfl, rfl⟩ ⟨Nat.le_of_ble_eq_true rfl, Nat.le_of_ble_eq_true rfl⟩ ⟨Nat.zero_le _, Nat.zero_le _⟩ hl.1 (Nat.le_of_ble_eq_true rfl) rfl dX4_goUp_20 (fun r u H locs hpq hP hS => ?_)
    obtain ⟨hr_, hu_⟩ := hpq
    have hr_ := hr_.symm
    have hu_ := hu_.symm
    subst hr_
    subst hu_
    exact xiret ha hP hS dX4_goUp_23 ⟨by simp [m_goUp, i_leN, t_1, -Int32.not_lt] <;> first | rfl | simp_all, (by simp [m_goUp, i_leN, t_1, -Int32.not_lt] <;> first | rfl | simp_all)⟩ rfl
  · have t_1 := b2i_t c_1
    have f_1 := isOne_t t_1
    refine lv_aload_n hx hb dX4_goUp_11 rfl (lv_at hl 0 rfl) ?_
    refine g4_15 ha hP o (oSc_lt0 ho) (sSc ho) (v := .ref (G.1 (o + 2))) rfl dX4_goUp_12 ?_
    refine lv_iload_n hx hb dX4_goUp_15 rfl (lv_at hl 1 rfl) ?_
    refine lv_iload_n hx hb dX4_goUp_16 rfl (lv_at hl 2 rfl) ?_
    refine xiastN ha hP hS (cX_loc G) (o + 2) (oSc_lt2 ho) (fun τ => sSc2 ho) (ix i) (ix_nI (by omega)) (ix_lt (by omega) (by omega)) (by decide) dX4_goUp_17 (fun H locs hP hS => ?_)
    refine lv_aload_n hx hb dX4_goUp_18 rfl (lv_at hl 0 rfl) ?_
    refine lv_iload_n hx hb dX4_goUp_19 rfl (lv_at hl 2 rfl) ?_
    refine xVi ha hP hS (As := [.int k]) (rest := []) o (oSc_lt0 ho) (sSc ho) rfl rfl (c_X4_loadOn G l (mU σ (o + 2) (ix i) k) o k ho (PO_mU hp (by have := ho; unfold oSc at this; omega))) kw_X4_67 hd_X4_loadOn rfl ⟨rfl, rfl⟩ ⟨Nat.le_of_ble_eq_true rfl, Nat.le_of_ble_eq_true rfl⟩ ⟨Nat.zero_le _, Nat.zero_le _⟩ hl.1 (Nat.le_of_ble_eq_true rfl) rfl dX4_goUp_20 (fun r u H locs hpq hP hS => ?_)
    obtain ⟨hr_, hu_⟩ := hpq
    have hr_ := hr_.symm
    have hu_ := hu_.symm
    subst hr_
    subst hu_
    exact xiret ha hP hS dX4_goUp_23 ⟨by simp [m_goUp, i_leN, t_1, -Int32.not_lt] <;> first | rfl | simp_all, (by simp [m_goUp, i_leN, t_1, -Int32.not_lt] <;> first | rfl | simp_all)⟩ rfl
set_option maxHeartbeats 4000000 in
set_option maxRecDepth 100000 in
theorem c_X4_comeDown (G : GT) (l : Launch) (σ : Mem) (o : Nat) (i : Int32) (ho : oSc o) (hp : PO 33 σ) : CI G 74 (cX G) l yX4_comeDown ({ frames := 1, cells := 0, slots := 0, locals := 22 } : Room) cX4_comeDown 3 (some .int) [.ref (G.1 o), .int i] σ (fun (r : Int32) u => r = a_down (vP σ 33) (vS σ o) i ∧ u = m_down σ o i) := by
  intro sz
  refine xbegin (by decide) (Nat.le_of_ble_eq_true rfl) ?_
  intro p e s m below meth c ls hsz ha hP hl
  subst hsz
  have hx := ha.1
  have hb := ha.2.1
  have hS : va_S (xA G 74 s.heap.size) s.heap s.heap [] := va_S.rf
  have hl : lv_has ls 3 [(0, .ref (G.1 o)), (1, .int i)] := hl
  have k_m9 : (-9 : Int32).toInt = -9 := by decide
  have k_0 : (0 : Int32).toInt = 0 := by decide
  have hp2 := hp.2.2.2
  refine lv_aload_n hx hb dX4_comeDown_0 rfl (lv_at hl 0 rfl) ?_
  refine g4_18 ha hP o (oSc_lt0 ho) (sSc ho) (v := .ref (G.1 33)) rfl dX4_comeDown_1 ?_
  refine lv_iload_n hx hb dX4_comeDown_4 rfl (lv_at hl 1 rfl) ?_
  refine xVi ha hP hS (As := [.int i]) (rest := []) 33 (by decide) (cX_33 G _) rfl rfl (c_X2_isOne G l σ 33 i (by unfold oPl; omega)) kw_X4_61 hd_X2_isOne rfl ⟨rfl, rfl⟩ ⟨Nat.le_of_ble_eq_true rfl, Nat.le_of_ble_eq_true rfl⟩ ⟨Nat.zero_le _, Nat.zero_le _⟩ hl.1 (Nat.le_of_ble_eq_true rfl) rfl dX4_comeDown_5 (fun r u H locs hpq hP hS => ?_)
  obtain ⟨hr_, hu_⟩ := hpq
  have hr_ := hr_.symm
  have hu_ := hu_.symm
  subst hr_
  subst hu_
  refine lv_if_ne (tgt := 13) hx hb dX4_comeDown_8 (by decide) (fun c_1 => ?_) (fun c_1 => ?_)
  · have t_1 := b2i_t c_1
    have f_1 := isOne_t t_1
    refine lv_aload_n hx hb dX4_comeDown_13 rfl (lv_at hl 0 rfl) ?_
    refine g4_18 ha hP o (oSc_lt0 ho) (sSc ho) (v := .ref (G.1 33)) rfl dX4_comeDown_14 ?_
    refine lv_iload_n hx hb dX4_comeDown_17 rfl (lv_at hl 1 rfl) ?_
    refine lv_aload_n hx hb dX4_comeDown_18 rfl (lv_at hl 0 rfl) ?_
    refine g4_15 ha hP o (oSc_lt0 ho) (sSc ho) (v := .ref (G.1 (o + 2))) rfl dX4_comeDown_19 ?_
    refine lv_iload_n hx hb dX4_comeDown_22 rfl (lv_at hl 1 rfl) ?_
    refine xialdN ha hP (o + 2) (oSc_lt2 ho) (sSc2 ho) (ix i) (ix_nI (by omega)) (ix_lt (by omega) (by omega)) (by decide) dX4_comeDown_23 ?_
    refine xVi ha hP hS (As := [.int i, .int (σ (o + 2) (ix i))]) (rest := []) 33 (by decide) (cX_33 G _) rfl rfl (c_X2_highOn G l σ 33 i (σ (o + 2) (ix i)) (by unfold oPl; omega) hp) kw_X4_70 hd_X2_highOn rfl ⟨rfl, rfl⟩ ⟨Nat.le_of_ble_eq_true rfl, Nat.le_of_ble_eq_true rfl⟩ ⟨Nat.zero_le _, Nat.zero_le _⟩ hl.1 (Nat.le_of_ble_eq_true rfl) rfl dX4_comeDown_24 (fun r u H locs hpq hP hS => ?_)
    obtain ⟨hr_, hu_⟩ := hpq
    have hr_ := hr_.symm
    have hu_ := hu_.symm
    subst hr_
    subst hu_
    refine lv_istore_n (lv' := [(2, .int (a_high (vP σ 33) i (σ (o + 2) (ix i)))), (0, .ref (G.1 o)), (1, .int i)]) hx hb dX4_comeDown_27 rfl hl (by decide) rfl (fun ls hl => ?_)
    refine lv_aload_n hx hb dX4_comeDown_28 rfl (lv_at hl 1 rfl) ?_
    refine g4_15 ha hP o (oSc_lt0 ho) (sSc ho) (v := .ref (G.1 (o + 2))) rfl dX4_comeDown_29 ?_
    refine lv_iload_n hx hb dX4_comeDown_32 rfl (lv_at hl 2 rfl) ?_
    refine lv_bipush (v := (-9)) hx hb dX4_comeDown_33 (by decide) ?_
    refine xiastN ha hP hS (cX_loc G) (o + 2) (oSc_lt2 ho) (fun τ => sSc2 ho) (ix i) (ix_nI (by omega)) (ix_lt (by omega) (by omega)) (by decide) dX4_comeDown_35 (fun H locs hP hS => ?_)
    refine lv_iload_n hx hb dX4_comeDown_36 rfl (lv_at hl 0 rfl) ?_
    exact xiret ha hP hS dX4_comeDown_37 ⟨by simp [m_down, a_down, vS, i_leN, t_1, -Int32.not_lt] <;> first | rfl | simp_all, (by simp [m_down, a_down, vS, i_leN, t_1, -Int32.not_lt] <;> first | rfl | simp_all)⟩ rfl
  · have t_1 := b2i_f c_1
    refine lv_iconst (v := 0) hx hb dX4_comeDown_11 (by decide) ?_
    exact xiret ha hP hS dX4_comeDown_12 ⟨by simp [m_down, a_down, vS, i_leN, t_1, -Int32.not_lt] <;> first | rfl | simp_all, (by simp [m_down, a_down, vS, i_leN, t_1, -Int32.not_lt] <;> first | rfl | simp_all)⟩ rfl
set_option maxHeartbeats 4000000 in
set_option maxRecDepth 100000 in
theorem c_X4_renew (G : GT) (l : Launch) (σ : Mem) (o : Nat) (k : Int32) (ho : oSc o) (hp : PO 33 σ) : CI G 74 (cX G) l yX4_renew ({ frames := 1, cells := 0, slots := 0, locals := 21 } : Room) cX4_renew 3 (some .int) [.ref (G.1 o), .int k] σ (fun (r : Int32) u => r = a_renew (vP σ 33) (vS σ o) k ∧ u = m_renew σ o k) := by
  intro sz
  refine xbegin (by decide) (Nat.le_of_ble_eq_true rfl) ?_
  intro p e s m below meth c ls hsz ha hP hl
  subst hsz
  have hx := ha.1
  have hb := ha.2.1
  have hS : va_S (xA G 74 s.heap.size) s.heap s.heap [] := va_S.rf
  have hl : lv_has ls 3 [(0, .ref (G.1 o)), (1, .int k)] := hl
  have k_0 : (0 : Int32).toInt = 0 := by decide
  have hp2 := hp.2.1
  refine lv_aload_n hx hb dX4_renew_0 rfl (lv_at hl 0 rfl) ?_
  refine g4_18 ha hP o (oSc_lt0 ho) (sSc ho) (v := .ref (G.1 33)) rfl dX4_renew_1 ?_
  refine lv_iload_n hx hb dX4_renew_4 rfl (lv_at hl 1 rfl) ?_
  refine xVi ha hP hS (As := [.int k]) (rest := []) 33 (by decide) (cX_33 G _) rfl rfl (c_X2_isPole G l σ 33 k (by unfold oPl; omega)) kw_X4_73 hd_X2_isPole rfl ⟨rfl, rfl⟩ ⟨Nat.le_of_ble_eq_true rfl, Nat.le_of_ble_eq_true rfl⟩ ⟨Nat.zero_le _, Nat.zero_le _⟩ hl.1 (Nat.le_of_ble_eq_true rfl) rfl dX4_renew_5 (fun r u H locs hpq hP hS => ?_)
  obtain ⟨hr_, hu_⟩ := hpq
  have hr_ := hr_.symm
  have hu_ := hu_.symm
  subst hr_
  subst hu_
  refine lv_if_ne (tgt := 13) hx hb dX4_renew_8 (by decide) (fun c_1 => ?_) (fun c_1 => ?_)
  · have t_1 := b2i_t c_1
    have f_1 := isPole_t t_1
    refine lv_aload_n hx hb dX4_renew_13 rfl (lv_at hl 0 rfl) ?_
    refine g4_9 ha hP o (oSc_lt0 ho) (sSc ho) (v := .ref (G.1 (o + 1))) rfl dX4_renew_14 ?_
    refine lv_iload_n hx hb dX4_renew_17 rfl (lv_at hl 1 rfl) ?_
    refine xialdN ha hP (o + 1) (oSc_lt1 ho) (sSc1 ho) (ix k) (ix_nI (by omega)) (ix_lt (by omega) (by omega)) (by decide) dX4_renew_18 ?_
    refine lv_istore_n (lv' := [(2, .int (σ (o + 1) (ix k))), (0, .ref (G.1 o)), (1, .int k)]) hx hb dX4_renew_19 rfl hl (by decide) rfl (fun ls hl => ?_)
    refine lv_aload_n hx hb dX4_renew_20 rfl (lv_at hl 1 rfl) ?_
    refine g4_9 ha hP o (oSc_lt0 ho) (sSc ho) (v := .ref (G.1 (o + 1))) rfl dX4_renew_21 ?_
    refine lv_iload_n hx hb dX4_renew_24 rfl (lv_at hl 2 rfl) ?_
    refine lv_iconst (v := 0) hx hb dX4_renew_25 (by decide) ?_
    refine xiastN ha hP hS (cX_loc G) (o + 1) (oSc_lt1 ho) (fun τ => sSc1 ho) (ix k) (ix_nI (by omega)) (ix_lt (by omega) (by omega)) (by decide) dX4_renew_26 (fun H locs hP hS => ?_)
    refine lv_iload_n hx hb dX4_renew_27 rfl (lv_at hl 0 rfl) ?_
    exact xiret ha hP hS dX4_renew_28 ⟨by simp [m_renew, a_renew, vS, i_leN, t_1, -Int32.not_lt] <;> first | rfl | simp_all, (by simp [m_renew, a_renew, vS, i_leN, t_1, -Int32.not_lt] <;> first | rfl | simp_all)⟩ rfl
  · have t_1 := b2i_f c_1
    refine lv_iconst (v := 0) hx hb dX4_renew_11 (by decide) ?_
    exact xiret ha hP hS dX4_renew_12 ⟨by simp [m_renew, a_renew, vS, i_leN, t_1, -Int32.not_lt] <;> first | rfl | simp_all, (by simp [m_renew, a_renew, vS, i_leN, t_1, -Int32.not_lt] <;> first | rfl | simp_all)⟩ rfl
