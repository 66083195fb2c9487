theorem hd_X2_highOn : kHd yX2_highOn 2 := by decide +kernel
theorem hd_X2_isOne : kHd yX2_isOne 1 := by decide +kernel
theorem hd_X2_loadBy : kHd yX2_loadBy 2 := by decide +kernel
theorem kw_X2_60 : ∀ w ∈ k5V RX2 60 yX2_isOne cX2_isOne 2 (some .boolean), w ∈ TB := tb_ins (by decide +kernel)
theorem kw_X2_64 : ∀ w ∈ k5V RX2 64 yX2_highOn cX2_highOn 3 (some .int), w ∈ TB := tb_ins (by decide +kernel)
theorem kw_X4_98 : ∀ w ∈ k5V RX4 98 yX2_loadBy cX2_loadBy 3 (some .int), w ∈ TB := tb_ins (by decide +kernel)
set_option maxHeartbeats 4000000 in
set_option maxRecDepth 100000 in
theorem c_X2_isEmpty (G : GT) (l : Launch) (σ : Mem) (o : Nat) (ho : oPl o) : CI G 72 (cX G) l yX2_isEmpty ({ frames := 0, cells := 0, slots := 0, locals := 0 } : Room) cX2_isEmpty 1 (some .boolean) [.ref (G.1 o)] σ (fun (r : Int32) u => r = b2i (decide (σ o 0 = 0)) ∧ u = σ) := by
  intro sz
  refine xbegin (by decide) (Nat.le_of_ble_eq_true rfl) ?_
  intro p e s m below meth c ls hsz ha hP hl
  subst hsz
  have hx := ha.1
  have hb := ha.2.1
  have hS : va_S (xA G 72 s.heap.size) s.heap s.heap [] := va_S.rf
  have hl : lv_has ls 1 [(0, .ref (G.1 o))] := hl
  have k_0 : (0 : Int32).toInt = 0 := by decide
  have k_1 : (1 : Int32).toInt = 1 := by decide
  refine lv_aload_n hx hb dX2_isEmpty_0 rfl (lv_at hl 0 rfl) ?_
  refine g2_27 ha hP o (oPl_lt0 ho) (sPl ho) (v := .int (σ o 0)) rfl dX2_isEmpty_1 ?_
  refine lv_if_ne (tgt := 11) hx hb dX2_isEmpty_4 (by decide) (fun c_1 => ?_) (fun c_1 => ?_)
  · have t_1 := i_ne c_1
    refine lv_iconst (v := 0) hx hb dX2_isEmpty_11 (by decide) ?_
    exact xzret ha hP hS rfl dX2_isEmpty_12 ⟨by simp [b2i, i_leN, c_1, -Int32.not_lt] <;> rfl, rfl⟩ rfl
  · have t_1 := i_eq c_1
    refine lv_iconst (v := 1) hx hb dX2_isEmpty_7 (by decide) ?_
    refine lv_goto (tgt := 12) hx hb dX2_isEmpty_8 (by decide) ?_
    exact xzret ha hP hS rfl dX2_isEmpty_12 ⟨by simp [b2i, i_leN, c_1, -Int32.not_lt] <;> rfl, rfl⟩ rfl
set_option maxHeartbeats 4000000 in
set_option maxRecDepth 100000 in
theorem c_X2_isPole (G : GT) (l : Launch) (σ : Mem) (o : Nat) (k : Int32) (ho : oPl o) : CI G 72 (cX G) l yX2_isPole ({ frames := 0, cells := 0, slots := 0, locals := 0 } : Room) cX2_isPole 2 (some .boolean) [.ref (G.1 o), .int k] σ (fun (r : Int32) u => r = b2i (a_isPole (vP σ o) k) ∧ u = σ) := by
  intro sz
  refine xbegin (by decide) (Nat.le_of_ble_eq_true rfl) ?_
  intro p e s m below meth c ls hsz ha hP hl
  subst hsz
  have hx := ha.1
  have hb := ha.2.1
  have hS : va_S (xA G 72 s.heap.size) s.heap s.heap [] := va_S.rf
  have hl : lv_has ls 2 [(0, .ref (G.1 o)), (1, .int k)] := hl
  have k_0 : (0 : Int32).toInt = 0 := by decide
  have k_1 : (1 : Int32).toInt = 1 := by decide
  have k_4 : (4 : Int32).toInt = 4 := by decide
  refine lv_iload_n hx hb dX2_isPole_0 rfl (lv_at hl 1 rfl) ?_
  refine lv_if_lt (tgt := 21) hx hb dX2_isPole_1 (by decide) (fun c_1 => ?_) (fun c_1 => ?_)
  · have t_1 := i_lt c_1
    refine lv_iconst (v := 0) hx hb dX2_isPole_21 (by decide) ?_
    exact xzret ha hP hS rfl dX2_isPole_22 ⟨by simp [b2i, a_isPole, vP, i_leN, c_1, -Int32.not_lt] <;> rfl, rfl⟩ rfl
  · have t_1 := i_nlt c_1
    refine lv_iload_n hx hb dX2_isPole_4 rfl (lv_at hl 1 rfl) ?_
    refine lv_aload_n hx hb dX2_isPole_5 rfl (lv_at hl 0 rfl) ?_
    refine g2_27 ha hP o (oPl_lt0 ho) (sPl ho) (v := .int (σ o 0)) rfl dX2_isPole_6 ?_
    refine lv_icmp_ge (tgt := 21) hx hb dX2_isPole_9 (by decide) (fun c_2 => ?_) (fun c_2 => ?_)
    · have t_2 := i_le c_2
      have u_2 := u_le c_2
      refine lv_iconst (v := 0) hx hb dX2_isPole_21 (by decide) ?_
      exact xzret ha hP hS rfl dX2_isPole_22 ⟨by simp [b2i, a_isPole, vP, i_leN, c_1, u_2, -Int32.not_lt] <;> rfl, rfl⟩ rfl
    · have t_2 := i_nle c_2
      have u_2 := u_nle c_2
      refine lv_iload_n hx hb dX2_isPole_12 rfl (lv_at hl 1 rfl) ?_
      refine lv_iconst (v := 4) hx hb dX2_isPole_13 (by decide) ?_
      refine lv_icmp_ge (tgt := 21) hx hb dX2_isPole_14 (by decide) (fun c_3 => ?_) (fun c_3 => ?_)
      · have t_3 := i_le c_3
        have u_3 := u_le c_3
        refine lv_iconst (v := 0) hx hb dX2_isPole_21 (by decide) ?_
        exact xzret ha hP hS rfl dX2_isPole_22 ⟨by simp [b2i, a_isPole, vP, i_leN, c_1, u_2, u_3, -Int32.not_lt] <;> rfl, rfl⟩ rfl
      · have t_3 := i_nle c_3
        have u_3 := u_nle c_3
        refine lv_iconst (v := 1) hx hb dX2_isPole_17 (by decide) ?_
        refine lv_goto (tgt := 22) hx hb dX2_isPole_18 (by decide) ?_
        exact xzret ha hP hS rfl dX2_isPole_22 ⟨by simp [b2i, a_isPole, vP, i_leN, c_1, u_2, u_3, -Int32.not_lt] <;> rfl, rfl⟩ rfl
set_option maxHeartbeats 4000000 in
set_option maxRecDepth 100000 in
theorem c_X2_isOne (G : GT) (l : Launch) (σ : Mem) (o : Nat) (i : Int32) (ho : oPl o) : CI G 72 (cX G) l yX2_isOne ({ frames := 0, cells := 0, slots := 0, locals := 0 } : Room) cX2_isOne 2 (some .boolean) [.ref (G.1 o), .int i] σ (fun (r : Int32) u => r = b2i (a_isOne (vP σ o) i) ∧ u = σ) := by
  intro sz
  refine xbegin (by decide) (Nat.le_of_ble_eq_true rfl) ?_
  intro p e s m below meth c ls hsz ha hP hl
  subst hsz
  have hx := ha.1
  have hb := ha.2.1
  have hS : va_S (xA G 72 s.heap.size) s.heap s.heap [] := va_S.rf
  have hl : lv_has ls 2 [(0, .ref (G.1 o)), (1, .int i)] := hl
  have k_0 : (0 : Int32).toInt = 0 := by decide
  have k_1 : (1 : Int32).toInt = 1 := by decide
  have k_5 : (5 : Int32).toInt = 5 := by decide
  refine lv_iload_n hx hb dX2_isOne_0 rfl (lv_at hl 1 rfl) ?_
  refine lv_if_lt (tgt := 21) hx hb dX2_isOne_1 (by decide) (fun c_1 => ?_) (fun c_1 => ?_)
  · have t_1 := i_lt c_1
    refine lv_iconst (v := 0) hx hb dX2_isOne_21 (by decide) ?_
    exact xzret ha hP hS rfl dX2_isOne_22 ⟨by simp [b2i, a_isOne, vP, i_leN, c_1, -Int32.not_lt] <;> rfl, rfl⟩ rfl
  · have t_1 := i_nlt c_1
    refine lv_iload_n hx hb dX2_isOne_4 rfl (lv_at hl 1 rfl) ?_
    refine lv_aload_n hx hb dX2_isOne_5 rfl (lv_at hl 0 rfl) ?_
    refine g2_31 ha hP o (oPl_lt0 ho) (sPl ho) (v := .int (σ o 1)) rfl dX2_isOne_6 ?_
    refine lv_icmp_ge (tgt := 21) hx hb dX2_isOne_9 (by decide) (fun c_2 => ?_) (fun c_2 => ?_)
    · have t_2 := i_le c_2
      have u_2 := u_le c_2
      refine lv_iconst (v := 0) hx hb dX2_isOne_21 (by decide) ?_
      exact xzret ha hP hS rfl dX2_isOne_22 ⟨by simp [b2i, a_isOne, vP, i_leN, c_1, u_2, -Int32.not_lt] <;> rfl, rfl⟩ rfl
    · have t_2 := i_nle c_2
      have u_2 := u_nle c_2
      refine lv_iload_n hx hb dX2_isOne_12 rfl (lv_at hl 1 rfl) ?_
      refine lv_iconst (v := 5) hx hb dX2_isOne_13 (by decide) ?_
      refine lv_icmp_ge (tgt := 21) hx hb dX2_isOne_14 (by decide) (fun c_3 => ?_) (fun c_3 => ?_)
      · have t_3 := i_le c_3
        have u_3 := u_le c_3
        refine lv_iconst (v := 0) hx hb dX2_isOne_21 (by decide) ?_
        exact xzret ha hP hS rfl dX2_isOne_22 ⟨by simp [b2i, a_isOne, vP, i_leN, c_1, u_2, u_3, -Int32.not_lt] <;> rfl, rfl⟩ rfl
      · have t_3 := i_nle c_3
        have u_3 := u_nle c_3
        refine lv_iconst (v := 1) hx hb dX2_isOne_17 (by decide) ?_
        refine lv_goto (tgt := 22) hx hb dX2_isOne_18 (by decide) ?_
        exact xzret ha hP hS rfl dX2_isOne_22 ⟨by simp [b2i, a_isOne, vP, i_leN, c_1, u_2, u_3, -Int32.not_lt] <;> rfl, rfl⟩ rfl
set_option maxHeartbeats 4000000 in
set_option maxRecDepth 100000 in
theorem c_X2_highOn (G : GT) (l : Launch) (σ : Mem) (o : Nat) (i : Int32) (k : Int32) (ho : oPl o) (hp : PO o σ) : CI G 72 (cX G) l yX2_highOn ({ frames := 0, cells := 0, slots := 0, locals := 0 } : Room) cX2_highOn 3 (some .int) [.ref (G.1 o), .int i, .int k] σ (fun (r : Int32) u => r = a_high (vP σ o) i k ∧ u = σ) := by
  intro sz
  refine xbegin (by decide) (Nat.le_of_ble_eq_true rfl) ?_
  intro p e s m below meth c ls hsz ha hP hl
  subst hsz
  have hx := ha.1
  have hb := ha.2.1
  have hS : va_S (xA G 72 s.heap.size) s.heap s.heap [] := va_S.rf
  have hl : lv_has ls 3 [(0, .ref (G.1 o)), (1, .int i), (2, .int k)] := hl
  have k_0 : (0 : Int32).toInt = 0 := by decide
  have hp1 := hp.2.1
  have hp2 := hp.2.2.2
  refine lv_iload_n hx hb dX2_highOn_0 rfl (lv_at hl 1 rfl) ?_
  refine lv_if_lt (tgt := 24) hx hb dX2_highOn_1 (by decide) (fun c_1 => ?_) (fun c_1 => ?_)
  · have t_1 := i_lt c_1
    refine lv_iconst (v := 0) hx hb dX2_highOn_24 (by decide) ?_
    exact xiret ha hP hS dX2_highOn_25 ⟨by simp [a_high, vP, i_leN, c_1, -Int32.not_lt] <;> rfl, rfl⟩ rfl
  · have t_1 := i_nlt c_1
    refine lv_iload_n hx hb dX2_highOn_4 rfl (lv_at hl 1 rfl) ?_
    refine lv_aload_n hx hb dX2_highOn_5 rfl (lv_at hl 0 rfl) ?_
    refine g2_31 ha hP o (oPl_lt0 ho) (sPl ho) (v := .int (σ o 1)) rfl dX2_highOn_6 ?_
    refine lv_icmp_ge (tgt := 24) hx hb dX2_highOn_9 (by decide) (fun c_2 => ?_) (fun c_2 => ?_)
    · have t_2 := i_le c_2
      have u_2 := u_le c_2
      refine lv_iconst (v := 0) hx hb dX2_highOn_24 (by decide) ?_
      exact xiret ha hP hS dX2_highOn_25 ⟨by simp [a_high, vP, i_leN, c_1, u_2, -Int32.not_lt] <;> rfl, rfl⟩ rfl
    · have t_2 := i_nle c_2
      have u_2 := u_nle c_2
      refine lv_iload_n hx hb dX2_highOn_12 rfl (lv_at hl 2 rfl) ?_
      refine lv_if_lt (tgt := 24) hx hb dX2_highOn_13 (by decide) (fun c_3 => ?_) (fun c_3 => ?_)
      · have t_3 := i_lt c_3
        refine lv_iconst (v := 0) hx hb dX2_highOn_24 (by decide) ?_
        exact xiret ha hP hS dX2_highOn_25 ⟨by simp [a_high, vP, i_leN, c_1, u_2, c_3, -Int32.not_lt] <;> rfl, rfl⟩ rfl
      · have t_3 := i_nlt c_3
        refine lv_iload_n hx hb dX2_highOn_16 rfl (lv_at hl 2 rfl) ?_
        refine lv_aload_n hx hb dX2_highOn_17 rfl (lv_at hl 0 rfl) ?_
        refine g2_27 ha hP o (oPl_lt0 ho) (sPl ho) (v := .int (σ o 0)) rfl dX2_highOn_18 ?_
        refine lv_icmp_lt (tgt := 26) hx hb dX2_highOn_21 (by decide) (fun c_4 => ?_) (fun c_4 => ?_)
        · have t_4 := i_lt c_4
          refine lv_aload_n hx hb dX2_highOn_26 rfl (lv_at hl 0 rfl) ?_
          refine g2_24 ha hP o (oPl_lt0 ho) (sPl ho) (v := .ref (G.1 (o + 5))) rfl dX2_highOn_27 ?_
          refine lv_iload_n hx hb dX2_highOn_30 rfl (lv_at hl 1 rfl) ?_
          refine xialdN ha hP (o + 5) (oPl_lt5 ho) (sPl5 ho) (ix i) (ix_nI (by omega)) (ix_lt (by omega) (by omega)) (by decide) dX2_highOn_31 ?_
          refine lv_aload_n hx hb dX2_highOn_32 rfl (lv_at hl 0 rfl) ?_
          refine g2_15 ha hP o (oPl_lt0 ho) (sPl ho) (v := .ref (G.1 (o + 2))) rfl dX2_highOn_33 ?_
          refine lv_iload_n hx hb dX2_highOn_36 rfl (lv_at hl 2 rfl) ?_
          refine xialdN ha hP (o + 2) (oPl_lt2 ho) (sPl2 ho) (ix k) (ix_nI (by omega)) (ix_lt (by omega) (by omega)) (by decide) dX2_highOn_37 ?_
          have jn_5 : ∀ x_5 : Int32, x_5 = (if (σ (o + 5) (ix i)) < (σ (o + 2) (ix k)) then (σ (o + 5) (ix i)) else (σ (o + 2) (ix k))) → W p l e ({ frames := 0, cells := 0, slots := 0, locals := 0 } : Room) s m ([.ref (G.1 o), .int i, .int k] : List Value).toArray below meth c s.heap [] 0 0 (MQ below (va_Qi (fun (r : Int32) u => r = a_high (vP σ o) i k ∧ u = σ) (xB G 72 (cX G)) (xA G 72 s.heap.size)) ([.ref (G.1 o), .int i, .int k] : List Value).toArray s 0 0 (xA G 72 s.heap.size)) (F0 m 56 ls [.int x_5]) := by
            intro x_5 ex_5
            exact xiret ha hP hS dX2_highOn_56 ⟨by simp [a_high, vP, i_leN, c_1, u_2, c_3, c_4, ex_5, -Int32.not_lt] <;> rfl, rfl⟩ rfl
          refine lv_icmp_ge (tgt := 50) hx hb dX2_highOn_38 (by decide) (fun c_5 => ?_) (fun c_5 => ?_)
          · have t_5 := i_le c_5
            refine lv_aload_n hx hb dX2_highOn_50 rfl (lv_at hl 0 rfl) ?_
            refine g2_15 ha hP o (oPl_lt0 ho) (sPl ho) (v := .ref (G.1 (o + 2))) rfl dX2_highOn_51 ?_
            refine lv_iload_n hx hb dX2_highOn_54 rfl (lv_at hl 2 rfl) ?_
            refine xialdN ha hP (o + 2) (oPl_lt2 ho) (sPl2 ho) (ix k) (ix_nI (by omega)) (ix_lt (by omega) (by omega)) (by decide) dX2_highOn_55 ?_
            exact jn_5 _ (if_neg (u_le c_5)).symm
          · have t_5 := i_nle c_5
            refine lv_aload_n hx hb dX2_highOn_41 rfl (lv_at hl 0 rfl) ?_
            refine g2_24 ha hP o (oPl_lt0 ho) (sPl ho) (v := .ref (G.1 (o + 5))) rfl dX2_highOn_42 ?_
            refine lv_iload_n hx hb dX2_highOn_45 rfl (lv_at hl 1 rfl) ?_
            refine xialdN ha hP (o + 5) (oPl_lt5 ho) (sPl5 ho) (ix i) (ix_nI (by omega)) (ix_lt (by omega) (by omega)) (by decide) dX2_highOn_46 ?_
            refine lv_goto (tgt := 56) hx hb dX2_highOn_47 (by decide) ?_
            exact jn_5 _ (if_pos (u_nle c_5)).symm
        · have t_4 := i_nlt c_4
          refine lv_iconst (v := 0) hx hb dX2_highOn_24 (by decide) ?_
          exact xiret ha hP hS dX2_highOn_25 ⟨by simp [a_high, vP, i_leN, c_1, u_2, c_3, c_4, -Int32.not_lt] <;> rfl, rfl⟩ rfl
set_option maxHeartbeats 4000000 in
set_option maxRecDepth 100000 in
theorem c_X2_loadBy (G : GT) (l : Launch) (σ : Mem) (o : Nat) (i : Int32) (k : Int32) (ho : oPl o) (hp : PO o σ) : CI G 72 (cX G) l yX2_loadBy ({ frames := 1, cells := 0, slots := 0, locals := 22 } : Room) cX2_loadBy 3 (some .int) [.ref (G.1 o), .int i, .int k] σ (fun (r : Int32) u => r = a_loadBy (vP σ o) i k ∧ u = σ) := by
  intro sz
  refine xbegin (by decide) (Nat.le_of_ble_eq_true rfl) ?_
  intro p e s m below meth c ls hsz ha hP hl
  subst hsz
  have hx := ha.1
  have hb := ha.2.1
  have hS : va_S (xA G 72 s.heap.size) s.heap s.heap [] := va_S.rf
  have hl : lv_has ls 3 [(0, .ref (G.1 o)), (1, .int i), (2, .int k)] := hl
  have k_0 : (0 : Int32).toInt = 0 := by decide
  have k_2 : (2 : Int32).toInt = 2 := by decide
  refine lv_aload_n hx hb dX2_loadBy_0 rfl (lv_at hl 0 rfl) ?_
  refine lv_iload_n hx hb dX2_loadBy_1 rfl (lv_at hl 1 rfl) ?_
  refine xVi ha hP hS (As := [.int i]) (rest := []) o (oPl_lt0 ho) (sPl ho) rfl rfl (c_X2_isOne G l σ o i ho) kw_X2_60 hd_X2_isOne rfl ⟨rfl, rfl⟩ ⟨Nat.le_of_ble_eq_true rfl, Nat.le_of_ble_eq_true rfl⟩ ⟨Nat.zero_le _, Nat.zero_le _⟩ hl.1 (Nat.le_of_ble_eq_true rfl) rfl dX2_loadBy_2 (fun r u H locs hpq hP hS => ?_)
  obtain ⟨hr_, hu_⟩ := hpq
  have hr_ := hr_.symm
  have hu_ := hu_.symm
  subst hr_
  subst hu_
  refine lv_if_eq (tgt := 26) hx hb dX2_loadBy_5 (by decide) (fun c_1 => ?_) (fun c_1 => ?_)
  · have t_1 := b2i_f c_1
    refine lv_iconst (v := 0) hx hb dX2_loadBy_26 (by decide) ?_
    exact xiret ha hP hS dX2_loadBy_27 ⟨by simp [a_loadBy, vP, i_leN, t_1, -Int32.not_lt] <;> rfl, rfl⟩ rfl
  · have t_1 := b2i_t c_1
    have f_1 := isOne_t t_1
    refine lv_aload_n hx hb dX2_loadBy_8 rfl (lv_at hl 0 rfl) ?_
    refine g2_21 ha hP o (oPl_lt0 ho) (sPl ho) (v := .ref (G.1 (o + 4))) rfl dX2_loadBy_9 ?_
    refine lv_iload_n hx hb dX2_loadBy_12 rfl (lv_at hl 1 rfl) ?_
    refine xialdN ha hP (o + 4) (oPl_lt4 ho) (sPl4 ho) (ix i) (ix_nI (by omega)) (ix_lt (by omega) (by omega)) (by decide) dX2_loadBy_13 ?_
    refine lv_aload_n hx hb dX2_loadBy_14 rfl (lv_at hl 0 rfl) ?_
    refine lv_iload_n hx hb dX2_loadBy_15 rfl (lv_at hl 1 rfl) ?_
    refine lv_iload_n hx hb dX2_loadBy_16 rfl (lv_at hl 2 rfl) ?_
    refine xVi ha hP hS (As := [.int i, .int k]) (rest := [.int (σ (o + 4) (ix i))]) o (oPl_lt0 ho) (sPl ho) rfl rfl (c_X2_highOn G l σ o i k ho hp) kw_X2_64 hd_X2_highOn rfl ⟨rfl, rfl⟩ ⟨Nat.le_of_ble_eq_true rfl, Nat.le_of_ble_eq_true rfl⟩ ⟨Nat.zero_le _, Nat.zero_le _⟩ hl.1 (Nat.le_of_ble_eq_true rfl) rfl dX2_loadBy_17 (fun r u H locs hpq hP hS => ?_)
    obtain ⟨hr_, hu_⟩ := hpq
    have hr_ := hr_.symm
    have hu_ := hu_.symm
    subst hr_
    subst hu_
    refine lv_iconst (v := 2) hx hb dX2_loadBy_20 (by decide) ?_
    refine lv_idiv hx hb dX2_loadBy_21 (by decide) ?_
    refine lv_iadd hx hb dX2_loadBy_22 ?_
    refine lv_goto (tgt := 27) hx hb dX2_loadBy_23 (by decide) ?_
    exact xiret ha hP hS dX2_loadBy_27 ⟨by simp [a_loadBy, vP, i_leN, t_1, -Int32.not_lt] <;> rfl, rfl⟩ rfl
set_option maxHeartbeats 4000000 in
set_option maxRecDepth 100000 in
theorem c_X7_bearing (G : GT) (l : Launch) (σ : Mem) (kind : Int32) (tall : Int32) (strong : Int32) (wear : Int32)  : CI G 72 (cX G) l yX7_bearing ({ frames := 1, cells := 0, slots := 0, locals := 21 } : Room) cX7_bearing 7 (some .int) [.int kind, .int tall, .int strong, .int wear] σ (fun (r : Int32) u => r = a_bearing kind tall strong wear ∧ u = σ) := by
  intro sz
  refine xbegin (by decide) (Nat.le_of_ble_eq_true rfl) ?_
  intro p e s m below meth c ls hsz ha hP hl
  subst hsz
  have hx := ha.1
  have hb := ha.2.1
  have hS : va_S (xA G 72 s.heap.size) s.heap s.heap [] := va_S.rf
  have hl : lv_has ls 7 [(0, .int kind), (1, .int tall), (2, .int strong), (3, .int wear)] := hl
  have k_0 : (0 : Int32).toInt = 0 := by decide
  have k_2 : (2 : Int32).toInt = 2 := by decide
  have k_3 : (3 : Int32).toInt = 3 := by decide
  have k_5 : (5 : Int32).toInt = 5 := by decide
  refine lv_iconst (v := 0) hx hb dX7_bearing_0 (by decide) ?_
  refine lv_iload_n hx hb dX7_bearing_1 rfl (lv_at hl 2 rfl) ?_
  refine lv_iconst (v := 2) hx hb dX7_bearing_2 (by decide) ?_
  refine lv_iload_n hx hb dX7_bearing_3 rfl (lv_at hl 3 rfl) ?_
  refine lv_imul hx hb dX7_bearing_4 ?_
  refine lv_isub hx hb dX7_bearing_5 ?_
  refine xmmax ha (tb_in (w := .methodLink RX7 199 Lib.Math.max.name) (by decide +kernel)) hl.1 (by decide) (Nat.le_of_ble_eq_true rfl) ⟨Nat.zero_le _, Nat.zero_le _⟩ dX7_bearing_6 ?_
  refine lv_istore (lv' := [(4, .int (imax 0 (strong - (2 * wear)))), (0, .int kind), (1, .int tall), (2, .int strong), (3, .int wear)]) hx hb dX7_bearing_9 hl (by decide) rfl (fun ls hl => ?_)
  refine lv_iload_n hx hb dX7_bearing_11 rfl (lv_at hl 4 rfl) ?_
  refine lv_iconst (v := 3) hx hb dX7_bearing_12 (by decide) ?_
  have jn_1 : ∀ x_1 : Int32, x_1 = (if wear < 3 then (imax 0 (strong - (2 * wear))) else ((imax 0 (strong - (2 * wear))) - ((imax 0 (strong - (2 * wear))) / 3))) → W p l e ({ frames := 1, cells := 0, slots := 0, locals := 21 } : Room) s m ([.int kind, .int tall, .int strong, .int wear] : List Value).toArray below meth c s.heap [] 0 0 (MQ below (va_Qi (fun (r : Int32) u => r = a_bearing kind tall strong wear ∧ u = σ) (xB G 72 (cX G)) (xA G 72 s.heap.size)) ([.int kind, .int tall, .int strong, .int wear] : List Value).toArray s 0 0 (xA G 72 s.heap.size)) (F0 m 28 ls [.int x_1]) := by
    intro x_1 ex_1
    refine lv_istore (lv' := [(5, .int x_1), (4, .int (imax 0 (strong - (2 * wear)))), (0, .int kind), (1, .int tall), (2, .int strong), (3, .int wear)]) hx hb dX7_bearing_28 hl (by decide) rfl (fun ls hl => ?_)
    refine lv_iconst (v := 0) hx hb dX7_bearing_30 (by decide) ?_
    refine lv_iload_n hx hb dX7_bearing_31 rfl (lv_at hl 4 rfl) ?_
    refine lv_iload_n hx hb dX7_bearing_32 rfl (lv_at hl 5 rfl) ?_
    refine lv_isub hx hb dX7_bearing_33 ?_
    refine xmmax ha (tb_in (w := .methodLink RX7 199 Lib.Math.max.name) (by decide +kernel)) hl.1 (by decide) (Nat.le_of_ble_eq_true rfl) ⟨Nat.zero_le _, Nat.zero_le _⟩ dX7_bearing_34 ?_
    refine lv_istore (lv' := [(6, .int (imax 0 (strong - wear))), (5, .int x_1), (4, .int (imax 0 (strong - (2 * wear)))), (0, .int kind), (1, .int tall), (2, .int strong), (3, .int wear)]) hx hb dX7_bearing_37 hl (by decide) rfl (fun ls hl => ?_)
    refine lv_iload_n hx hb dX7_bearing_39 rfl (lv_at hl 3 rfl) ?_
    by_cases c_2 : kind = 1
    · refine lv_tableIn (tgt := 76) hx hb dX7_bearing_40 (by rw [c_2]; decide) (by rw [c_2]; decide) (off := 36) (by rw [c_2]; rfl) (by decide) ?_
      refine lv_iload hx hb dX7_bearing_76 (lv_at hl 1 rfl) ?_
      exact xiret ha hP hS dX7_bearing_78 ⟨by simp [a_bearing, i_leN, ex_1, c_2, -Int32.not_lt] <;> rfl, rfl⟩ rfl
    by_cases c_3 : kind = 2
    · refine lv_tableIn (tgt := 79) hx hb dX7_bearing_40 (by rw [c_3]; decide) (by rw [c_3]; decide) (off := 39) (by rw [c_3]; rfl) (by decide) ?_
      refine lv_iload hx hb dX7_bearing_79 (lv_at hl 0 rfl) ?_
      exact xiret ha hP hS dX7_bearing_81 ⟨by simp [a_bearing, i_leN, ex_1, c_2, c_3, -Int32.not_lt] <;> rfl, rfl⟩ rfl
    by_cases c_4 : kind = 3
    · refine lv_tableIn (tgt := 82) hx hb dX7_bearing_40 (by rw [c_4]; decide) (by rw [c_4]; decide) (off := 42) (by rw [c_4]; rfl) (by decide) ?_
      refine lv_iconst (v := 0) hx hb dX7_bearing_82 (by decide) ?_
      refine lv_iload hx hb dX7_bearing_83 (lv_at hl 0 rfl) ?_
      refine lv_iconst (v := 5) hx hb dX7_bearing_85 (by decide) ?_
      refine lv_isub hx hb dX7_bearing_86 ?_
      refine xmmax ha (tb_in (w := .methodLink RX7 199 Lib.Math.max.name) (by decide +kernel)) hl.1 (by decide) (Nat.le_of_ble_eq_true rfl) ⟨Nat.zero_le _, Nat.zero_le _⟩ dX7_bearing_87 ?_
      exact xiret ha hP hS dX7_bearing_90 ⟨by simp [a_bearing, i_leN, ex_1, c_2, c_3, c_4, -Int32.not_lt] <;> rfl, rfl⟩ rfl
    by_cases c_5 : kind = 4
    · refine lv_tableIn (tgt := 91) hx hb dX7_bearing_40 (by rw [c_5]; decide) (by rw [c_5]; decide) (off := 51) (by rw [c_5]; rfl) (by decide) ?_
      refine lv_iload hx hb dX7_bearing_91 (lv_at hl 0 rfl) ?_
      refine lv_iconst (v := 2) hx hb dX7_bearing_93 (by decide) ?_
      refine lv_iload_n hx hb dX7_bearing_94 rfl (lv_at hl 4 rfl) ?_
      refine lv_imul hx hb dX7_bearing_95 ?_
      refine lv_iadd hx hb dX7_bearing_96 ?_
      exact xiret ha hP hS dX7_bearing_97 ⟨by simp [a_bearing, i_leN, ex_1, c_2, c_3, c_4, c_5, -Int32.not_lt] <;> rfl, rfl⟩ rfl
    by_cases c_6 : kind = 5
    · refine lv_tableIn (tgt := 98) hx hb dX7_bearing_40 (by rw [c_6]; decide) (by rw [c_6]; decide) (off := 58) (by rw [c_6]; rfl) (by decide) ?_
      refine lv_iload_n hx hb dX7_bearing_98 rfl (lv_at hl 4 rfl) ?_
      refine lv_iconst (v := 5) hx hb dX7_bearing_99 (by decide) ?_
      have jn_7 : ∀ x_7 : Int32, x_7 = (if 5 < tall then x_1 else (imax 0 (strong - (2 * wear)))) → W p l e ({ frames := 1, cells := 0, slots := 0, locals := 21 } : Room) s m ([.int kind, .int tall, .int strong, .int wear] : List Value).toArray below meth c s.heap [] 0 0 (MQ below (va_Qi (fun (r : Int32) u => r = a_bearing kind tall strong wear ∧ u = σ) (xB G 72 (cX G)) (xA G 72 s.heap.size)) ([.int kind, .int tall, .int strong, .int wear] : List Value).toArray s 0 0 (xA G 72 s.heap.size)) (F0 m 110 ls [.int x_7]) := by
        intro x_7 ex_7
        exact xiret ha hP hS dX7_bearing_110 ⟨by simp [a_bearing, i_leN, ex_1, c_2, c_3, c_4, c_5, c_6, ex_7, -Int32.not_lt] <;> rfl, rfl⟩ rfl
      refine lv_icmp_gt (tgt := 108) hx hb dX7_bearing_100 (by decide) (fun c_7 => ?_) (fun c_7 => ?_)
      · have t_7 := i_lt c_7
        refine lv_iload hx hb dX7_bearing_108 (lv_at hl 1 rfl) ?_
        exact jn_7 _ (if_pos c_7).symm
      · have t_7 := i_nlt c_7
        refine lv_iload hx hb dX7_bearing_103 (lv_at hl 2 rfl) ?_
        refine lv_goto (tgt := 110) hx hb dX7_bearing_105 (by decide) ?_
        exact jn_7 _ (if_neg c_7).symm
    have t_2 := i_ne c_2
    have t_3 := i_ne c_3
    have t_4 := i_ne c_4
    have t_5 := i_ne c_5
    have t_6 := i_ne c_6
    have kk_2 : (1 : Int32).toInt = 1 := by decide
    have kk_3 : (2 : Int32).toInt = 2 := by decide
    have kk_4 : (3 : Int32).toInt = 3 := by decide
    have kk_5 : (4 : Int32).toInt = 4 := by decide
    have kk_6 : (5 : Int32).toInt = 5 := by decide
    refine lv_tableOut (tgt := 111) hx hb dX7_bearing_40 (by omega) (by decide) ?_
    refine lv_iload hx hb dX7_bearing_111 (lv_at hl 2 rfl) ?_
    exact xiret ha hP hS dX7_bearing_113 ⟨by simp [a_bearing, i_leN, ex_1, c_2, c_3, c_4, c_5, c_6, -Int32.not_lt] <;> rfl, rfl⟩ rfl
  refine lv_icmp_lt (tgt := 26) hx hb dX7_bearing_13 (by decide) (fun c_1 => ?_) (fun c_1 => ?_)
  · have t_1 := i_lt c_1
    refine lv_iload hx hb dX7_bearing_26 (lv_at hl 0 rfl) ?_
    exact jn_1 _ (if_pos c_1).symm
  · have t_1 := i_nlt c_1
    refine lv_iload hx hb dX7_bearing_16 (lv_at hl 0 rfl) ?_
    refine lv_iload hx hb dX7_bearing_18 (lv_at hl 0 rfl) ?_
    refine lv_iconst (v := 3) hx hb dX7_bearing_20 (by decide) ?_
    refine lv_idiv hx hb dX7_bearing_21 (by decide) ?_
    refine lv_isub hx hb dX7_bearing_22 ?_
    refine lv_goto (tgt := 28) hx hb dX7_bearing_23 (by decide) ?_
    exact jn_1 _ (if_neg c_1).symm
set_option maxHeartbeats 4000000 in
set_option maxRecDepth 100000 in
theorem c_X4_loadOn (G : GT) (l : Launch) (σ : Mem) (o : Nat) (k : Int32) (ho : oSc o) (hp : PO 33 σ) : CI G 72 (cX G) l yX4_loadOn ({ frames := 2, cells := 0, slots := 0, locals := 44 } : Room) cX4_loadOn 4 (some .int) [.ref (G.1 o), .int k] σ (fun (r : Int32) u => r = a_load (vP σ 33) (vP σ o) k ∧ u = σ) := by
  intro sz
  refine xbegin (by decide) (Nat.le_of_ble_eq_true rfl) ?_
  intro p e s m below meth c ls hsz ha hP hl
  subst hsz
  have hx := ha.1
  have hb := ha.2.1
  have hS : va_S (xA G 72 s.heap.size) s.heap s.heap [] := va_S.rf
  have hl : lv_has ls 4 [(0, .ref (G.1 o)), (1, .int k)] := hl
  have k_0 : (0 : Int32).toInt = 0 := by decide
  obtain ⟨hn, hn4, hnt⟩ := PO_pe hp
  refine lv_iconst (v := 0) hx hb dX4_loadOn_0 (by decide) ?_
  refine lv_istore_n (lv' := [(2, .int 0), (0, .ref (G.1 o)), (1, .int k)]) hx hb dX4_loadOn_1 rfl hl (by decide) rfl (fun ls hl => ?_)
  refine lv_iconst (v := 0) hx hb dX4_loadOn_2 (by decide) ?_
  refine lv_istore_n (lv' := [(3, .int 0), (2, .int 0), (0, .ref (G.1 o)), (1, .int k)]) hx hb dX4_loadOn_3 rfl hl (by decide) rfl (fun ls hl => ?_)
  have lp_4 : ∀ (d j : Nat) (x2 : Int32) (H : Heap) (locs : List Loc) (ls : Array Slot), j ≤ (ix (σ 33 1)) → (ix (σ 33 1)) - j < d → x2 = a_sum (fun i => if vP σ o 2 i = k then a_loadBy (vP σ 33) (nI i) k else 0) j → va_P G.2.1 vwCl (wl G 72 (cX G σ)) H → va_S (xA G 72 s.heap.size) s.heap H locs → lv_has ls 4 [(3, .int (nI j)), (2, .int x2), (0, .ref (G.1 o)), (1, .int k)] → W p l e ({ frames := 2, cells := 0, slots := 0, locals := 44 } : Room) s m ([.ref (G.1 o), .int k] : List Value).toArray below meth c H locs 0 0 (MQ below (va_Qi (fun (r : Int32) u => r = a_load (vP σ 33) (vP σ o) k ∧ u = σ) (xB G 72 (cX G)) (xA G 72 s.heap.size)) ([.ref (G.1 o), .int k] : List Value).toArray s 0 0 (xA G 72 s.heap.size)) (F0 m 4 ls []) := by
    intro d
    induction d with
    | zero => intro j x2 H locs ls hj hd; exact absurd hd (Nat.not_lt_zero _)
    | succ d ih_4 =>
      intro j x2 H locs ls hj_j hd_j e_x2 hP hS hl
      have h31_j : (nI j).toInt = (j : Int) := nI_toInt (by omega)
      refine lv_iload_n hx hb dX4_loadOn_4 rfl (lv_at hl 0 rfl) ?_
      refine lv_aload_n hx hb dX4_loadOn_5 rfl (lv_at hl 2 rfl) ?_
      refine g4_18 ha hP o (oSc_lt0 ho) (sSc ho) (v := .ref (G.1 33)) rfl dX4_loadOn_6 ?_
      refine g4_89 ha hP 33 (by decide) (cX_33 G _) (v := .int (σ 33 1)) rfl dX4_loadOn_9 ?_
      refine lv_icmp_ge (tgt := 43) hx hb dX4_loadOn_12 (by decide) (fun c_1 => ?_) (fun c_1 => ?_)
      · have t_1 := i_le c_1
        have u_1 := u_le c_1
        obtain rfl : j = (ix (σ 33 1)) := by omega
        refine lv_iload_n hx hb dX4_loadOn_43 rfl (lv_at hl 1 rfl) ?_
        exact xiret ha hP hS dX4_loadOn_44 ⟨by simp [a_load, nPe, vP, i_leN, e_x2, u_1, -Int32.not_lt] <;> rfl, rfl⟩ rfl
      · have t_1 := i_nle c_1
        have u_1 := u_nle c_1
        have hlt_j : j < (ix (σ 33 1)) := by omega
        refine lv_aload_n hx hb dX4_loadOn_15 rfl (lv_at hl 2 rfl) ?_
        refine g4_15 ha hP o (oSc_lt0 ho) (sSc ho) (v := .ref (G.1 (o + 2))) rfl dX4_loadOn_16 ?_
        refine lv_iload_n hx hb dX4_loadOn_19 rfl (lv_at hl 0 rfl) ?_
        refine xialdN ha hP (o + 2) (oSc_lt2 ho) (sSc2 ho) j rfl (by omega) (by decide) dX4_loadOn_20 ?_
        refine lv_iload_n hx hb dX4_loadOn_21 rfl (lv_at hl 3 rfl) ?_
        refine lv_icmp_ne (tgt := 37) hx hb dX4_loadOn_22 (by decide) (fun c_2 => ?_) (fun c_2 => ?_)
        · have t_2 := i_ne c_2
          refine lv_iinc (v := (nI (j + 1))) (lv' := [(3, .int (nI (j + 1))), (2, .int x2), (0, .ref (G.1 o)), (1, .int k)]) hx hb dX4_loadOn_37 hl (k := 0) rfl (nI_1 j) (by decide) rfl (fun ls hl => ?_)
          refine lv_goto (tgt := 4) hx hb dX4_loadOn_40 (by decide) ?_
          exact ih_4 (j + 1) x2 _ _ _ (by omega) (by omega) (by simp [a_sum, vP, i_leN, e_x2, u_1, c_2, -Int32.not_lt] <;> rfl) hP hS (lv_sub hl [0, 1, 2, 3] rfl)
        · have t_2 := i_eq c_2
          refine lv_iload_n hx hb dX4_loadOn_25 rfl (lv_at hl 1 rfl) ?_
          refine lv_aload_n hx hb dX4_loadOn_26 rfl (lv_at hl 2 rfl) ?_
          refine g4_18 ha hP o (oSc_lt0 ho) (sSc ho) (v := .ref (G.1 33)) rfl dX4_loadOn_27 ?_
          refine lv_iload_n hx hb dX4_loadOn_30 rfl (lv_at hl 0 rfl) ?_
          refine lv_iload_n hx hb dX4_loadOn_31 rfl (lv_at hl 3 rfl) ?_
          refine xVi ha hP hS (As := [.int (nI j), .int k]) (rest := [.int x2]) 33 (by decide) (cX_33 G _) rfl rfl (c_X2_loadBy G l σ 33 (nI j) k (by unfold oPl; omega) hp) kw_X4_98 hd_X2_loadBy rfl ⟨rfl, rfl⟩ ⟨Nat.le_of_ble_eq_true rfl, Nat.le_of_ble_eq_true rfl⟩ ⟨Nat.zero_le _, Nat.zero_le _⟩ hl.1 (Nat.le_of_ble_eq_true rfl) rfl dX4_loadOn_32 (fun r u H locs hpq hP hS => ?_)
          obtain ⟨hr_, hu_⟩ := hpq
          have hr_ := hr_.symm
          have hu_ := hu_.symm
          subst hr_
          subst hu_
          refine lv_iadd hx hb dX4_loadOn_35 ?_
          refine lv_istore_n (lv' := [(2, .int (x2 + (a_loadBy (vP σ 33) (nI j) k))), (3, .int (nI j)), (0, .ref (G.1 o)), (1, .int k)]) hx hb dX4_loadOn_36 rfl hl (by decide) rfl (fun ls hl => ?_)
          refine lv_iinc (v := (nI (j + 1))) (lv' := [(3, .int (nI (j + 1))), (2, .int (x2 + (a_loadBy (vP σ 33) (nI j) k))), (0, .ref (G.1 o)), (1, .int k)]) hx hb dX4_loadOn_37 hl (k := 1) rfl (nI_1 j) (by decide) rfl (fun ls hl => ?_)
          refine lv_goto (tgt := 4) hx hb dX4_loadOn_40 (by decide) ?_
          exact ih_4 (j + 1) (x2 + (a_loadBy (vP σ 33) (nI j) k)) _ _ _ (by omega) (by omega) (by simp [a_sum, vP, i_leN, e_x2, u_1, c_2, -Int32.not_lt] <;> rfl) hP hS (lv_sub hl [0, 1, 2, 3] rfl)
  exact lp_4 ((ix (σ 33 1)) - 0 + 1) 0 0 _ _ _ (by omega) (by omega) (by first | rfl | simp [a_sum, vP, i_leN, -Int32.not_lt] <;> rfl) hP hS (lv_sub hl [0, 1, 2, 3] rfl)
