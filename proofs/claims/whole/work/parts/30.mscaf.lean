theorem hd_X8_bearsAs : kHd yX8_bearsAs 3 := by decide +kernel
theorem hd_X8_bearsBy : kHd yX8_bearsBy 4 := by decide +kernel
theorem hd_X8_bearsOn : kHd yX8_bearsOn 2 := by decide +kernel
theorem hd_X8_copies : kHd yX8_copies 5 := by decide +kernel
theorem hd_X8_has : kHd yX8_has 2 := by decide +kernel
theorem hd_X8_highOn : kHd yX8_highOn 2 := by decide +kernel
theorem hd_X8_holdsOn : kHd yX8_holdsOn 2 := by decide +kernel
theorem hd_X8_isUp : kHd yX8_isUp 2 := by decide +kernel
theorem hd_X8_loadOn : kHd yX8_loadOn 2 := by decide +kernel
theorem hd_X8_sittersOn : kHd yX8_sittersOn 2 := by decide +kernel
theorem kw_X8_169 : ∀ w ∈ k5S RX8 169 yX8_bearsBy cX8_bearsBy 7 (some .int), w ∈ TB := tb_ins (by decide +kernel)
theorem kw_X8_173 : ∀ w ∈ k5V RX8 173 yX8_bearsAs cX8_bearsAs 4 (some .int), w ∈ TB := tb_ins (by decide +kernel)
theorem kw_X8_177 : ∀ w ∈ k5V RX8 177 yX8_highOn cX8_highOn 3 (some .int), w ∈ TB := tb_ins (by decide +kernel)
theorem kw_X8_181 : ∀ w ∈ k5S RX8 181 yX8_has cX8_has 2 (some .boolean), w ∈ TB := tb_ins (by decide +kernel)
theorem kw_X8_185 : ∀ w ∈ k5V RX8 185 yX8_loadOn cX8_loadOn 5 (some .int), w ∈ TB := tb_ins (by decide +kernel)
theorem kw_X8_189 : ∀ w ∈ k5V RX8 189 yX8_bearsOn cX8_bearsOn 3 (some .int), w ∈ TB := tb_ins (by decide +kernel)
theorem kw_X8_192 : ∀ w ∈ k5S RX8 192 yX8_isUp cX8_isUp 2 (some .boolean), w ∈ TB := tb_ins (by decide +kernel)
theorem kw_X8_199 : ∀ w ∈ k5V RX8 199 yX8_sittersOn cX8_sittersOn 5 (some .int), w ∈ TB := tb_ins (by decide +kernel)
theorem kw_X8_196 : ∀ w ∈ k5V RX8 196 yX8_holdsOn cX8_holdsOn 3 (some .boolean), w ∈ TB := tb_ins (by decide +kernel)
theorem kw_X8_202 : ∀ w ∈ k5S RX8 202 yX8_copies cX8_copies 6 none, w ∈ TB := tb_ins (by decide +kernel)
set_option maxHeartbeats 4000000 in
set_option maxRecDepth 100000 in
theorem c_X8_bearsBy (G : GT) (l : Launch) (σ : Mem) (kind : Int32) (tall : Int32) (strong : Int32) (wear : Int32)  : CI G 24 (cM G) l yX8_bearsBy ({ frames := 0, cells := 0, slots := 0, locals := 0 } : Room) cX8_bearsBy 7 (some .int) [.int kind, .int tall, .int strong, .int wear] σ (fun (r : Int32) u => r = a_bearing kind tall strong wear ∧ u = σ) := by
  intro sz
  refine xbegin (by decide) (Nat.le_of_ble_eq_true rfl) ?_
  intro p e s m below meth c ls hsz ha hP hl
  subst hsz
  have hx := ha.1
  have hb := ha.2.1
  have hS : va_S (xA G 24 s.heap.size) s.heap s.heap [] := va_S.rf
  have hl : lv_has ls 7 [(0, .int kind), (1, .int tall), (2, .int strong), (3, .int wear)] := hl
  have k_0 : (0 : Int32).toInt = 0 := by decide
  have k_2 : (2 : Int32).toInt = 2 := by decide
  have k_3 : (3 : Int32).toInt = 3 := by decide
  have k_4 : (4 : Int32).toInt = 4 := by decide
  have k_5 : (5 : Int32).toInt = 5 := by decide
  have k_6 : (6 : Int32).toInt = 6 := by decide
  refine lv_iload_n hx hb dX8_bearsBy_0 rfl (lv_at hl 2 rfl) ?_
  refine lv_iconst (v := 2) hx hb dX8_bearsBy_1 (by decide) ?_
  refine lv_iload_n hx hb dX8_bearsBy_2 rfl (lv_at hl 3 rfl) ?_
  refine lv_imul hx hb dX8_bearsBy_3 ?_
  refine lv_isub hx hb dX8_bearsBy_4 ?_
  have jn_1 : ∀ x_1 : Int32, x_1 = (if (strong - (2 * wear)) < 0 then 0 else (strong - (2 * wear))) → W p l e ({ frames := 0, cells := 0, slots := 0, locals := 0 } : Room) s m ([.int kind, .int tall, .int strong, .int wear] : List Value).toArray below meth c s.heap [] 0 0 (MQ below (va_Qi (fun (r : Int32) u => r = a_bearing kind tall strong wear ∧ u = σ) (xB G 24 (cM G)) (xA G 24 s.heap.size)) ([.int kind, .int tall, .int strong, .int wear] : List Value).toArray s 0 0 (xA G 24 s.heap.size)) (F0 m 17 ls [.int x_1]) := by
    intro x_1 ex_1
    have hx_1 : x_1 = (imax 0 (strong - (2 * wear))) := (by rw [ex_1]; exact imax0 _)
    clear ex_1
    subst hx_1
    refine lv_istore (lv' := [(4, .int (imax 0 (strong - (2 * wear)))), (0, .int kind), (1, .int tall), (2, .int strong), (3, .int wear)]) hx hb dX8_bearsBy_17 hl (by decide) rfl (fun ls hl => ?_)
    refine lv_iload_n hx hb dX8_bearsBy_19 rfl (lv_at hl 3 rfl) ?_
    refine lv_iload_n hx hb dX8_bearsBy_20 rfl (lv_at hl 4 rfl) ?_
    refine lv_isub hx hb dX8_bearsBy_21 ?_
    have jn_2 : ∀ x_2 : Int32, x_2 = (if (strong - wear) < 0 then 0 else (strong - wear)) → W p l e ({ frames := 0, cells := 0, slots := 0, locals := 0 } : Room) s m ([.int kind, .int tall, .int strong, .int wear] : List Value).toArray below meth c s.heap [] 0 0 (MQ below (va_Qi (fun (r : Int32) u => r = a_bearing kind tall strong wear ∧ u = σ) (xB G 24 (cM G)) (xA G 24 s.heap.size)) ([.int kind, .int tall, .int strong, .int wear] : List Value).toArray s 0 0 (xA G 24 s.heap.size)) (F0 m 32 ls [.int x_2]) := by
      intro x_2 ex_2
      have hx_2 : x_2 = (imax 0 (strong - wear)) := (by rw [ex_2]; exact imax0 _)
      clear ex_2
      subst hx_2
      refine lv_istore (lv' := [(5, .int (imax 0 (strong - wear))), (4, .int (imax 0 (strong - (2 * wear)))), (0, .int kind), (1, .int tall), (2, .int strong), (3, .int wear)]) hx hb dX8_bearsBy_32 hl (by decide) rfl (fun ls hl => ?_)
      refine lv_iload_n hx hb dX8_bearsBy_34 rfl (lv_at hl 5 rfl) ?_
      refine lv_iconst (v := 3) hx hb dX8_bearsBy_35 (by decide) ?_
      have jn_3 : ∀ x_3 : Int32, x_3 = (if wear < 3 then (imax 0 (strong - (2 * wear))) else ((imax 0 (strong - (2 * wear))) - ((imax 0 (strong - (2 * wear))) / 3))) → W p l e ({ frames := 0, cells := 0, slots := 0, locals := 0 } : Room) s m ([.int kind, .int tall, .int strong, .int wear] : List Value).toArray below meth c s.heap [] 0 0 (MQ below (va_Qi (fun (r : Int32) u => r = a_bearing kind tall strong wear ∧ u = σ) (xB G 24 (cM G)) (xA G 24 s.heap.size)) ([.int kind, .int tall, .int strong, .int wear] : List Value).toArray s 0 0 (xA G 24 s.heap.size)) (F0 m 51 ls [.int x_3]) := by
        intro x_3 ex_3
        refine lv_istore (lv' := [(6, .int x_3), (5, .int (imax 0 (strong - wear))), (4, .int (imax 0 (strong - (2 * wear)))), (0, .int kind), (1, .int tall), (2, .int strong), (3, .int wear)]) hx hb dX8_bearsBy_51 hl (by decide) rfl (fun ls hl => ?_)
        refine lv_iload_n hx hb dX8_bearsBy_53 rfl (lv_at hl 3 rfl) ?_
        by_cases c_4 : kind = 1
        · refine lv_tableIn (tgt := 88) hx hb dX8_bearsBy_54 (by rw [c_4]; decide) (by rw [c_4]; decide) (off := 34) (by rw [c_4]; rfl) (by decide) ?_
          refine lv_iload hx hb dX8_bearsBy_88 (lv_at hl 0 rfl) ?_
          exact xiret ha hP hS dX8_bearsBy_90 ⟨by simp [a_bearing, i_leN, ex_3, c_4, -Int32.not_lt] <;> first | rfl | simp_all, rfl⟩ rfl
        by_cases c_5 : kind = 2
        · refine lv_tableIn (tgt := 91) hx hb dX8_bearsBy_54 (by rw [c_5]; decide) (by rw [c_5]; decide) (off := 37) (by rw [c_5]; rfl) (by decide) ?_
          refine lv_iload hx hb dX8_bearsBy_91 (lv_at hl 1 rfl) ?_
          exact xiret ha hP hS dX8_bearsBy_93 ⟨by simp [a_bearing, i_leN, ex_3, c_4, c_5, -Int32.not_lt] <;> first | rfl | simp_all, rfl⟩ rfl
        by_cases c_6 : kind = 3
        · refine lv_tableIn (tgt := 94) hx hb dX8_bearsBy_54 (by rw [c_6]; decide) (by rw [c_6]; decide) (off := 40) (by rw [c_6]; rfl) (by decide) ?_
          refine lv_iload hx hb dX8_bearsBy_94 (lv_at hl 1 rfl) ?_
          refine lv_iconst (v := 5) hx hb dX8_bearsBy_96 (by decide) ?_
          have jn_7 : ∀ x_7 : Int32, x_7 = (if (imax 0 (strong - wear)) < 5 then 0 else ((imax 0 (strong - wear)) - 5)) → W p l e ({ frames := 0, cells := 0, slots := 0, locals := 0 } : Room) s m ([.int kind, .int tall, .int strong, .int wear] : List Value).toArray below meth c s.heap [] 0 0 (MQ below (va_Qi (fun (r : Int32) u => r = a_bearing kind tall strong wear ∧ u = σ) (xB G 24 (cM G)) (xA G 24 s.heap.size)) ([.int kind, .int tall, .int strong, .int wear] : List Value).toArray s 0 0 (xA G 24 s.heap.size)) (F0 m 108 ls [.int x_7]) := by
            intro x_7 ex_7
            have hx_7 : x_7 = (imax 0 ((imax 0 (strong - wear)) - 5)) := (by rw [ex_7]; exact imax5 _)
            clear ex_7
            subst hx_7
            exact xiret ha hP hS dX8_bearsBy_108 ⟨by simp [a_bearing, i_leN, ex_3, c_4, c_5, c_6, -Int32.not_lt] <;> first | rfl | simp_all, rfl⟩ rfl
          refine lv_icmp_ge (tgt := 104) hx hb dX8_bearsBy_97 (by decide) (fun c_7 => ?_) (fun c_7 => ?_)
          · have t_7 := i_le c_7
            refine lv_iload hx hb dX8_bearsBy_104 (lv_at hl 1 rfl) ?_
            refine lv_iconst (v := 5) hx hb dX8_bearsBy_106 (by decide) ?_
            refine lv_isub hx hb dX8_bearsBy_107 ?_
            exact jn_7 _ (if_neg (u_le c_7)).symm
          · have t_7 := i_nle c_7
            refine lv_iconst (v := 0) hx hb dX8_bearsBy_100 (by decide) ?_
            refine lv_goto (tgt := 108) hx hb dX8_bearsBy_101 (by decide) ?_
            exact jn_7 _ (if_pos (u_nle c_7)).symm
        by_cases c_8 : kind = 4
        · refine lv_tableIn (tgt := 109) hx hb dX8_bearsBy_54 (by rw [c_8]; decide) (by rw [c_8]; decide) (off := 55) (by rw [c_8]; rfl) (by decide) ?_
          refine lv_iload hx hb dX8_bearsBy_109 (lv_at hl 1 rfl) ?_
          refine lv_iconst (v := 2) hx hb dX8_bearsBy_111 (by decide) ?_
          refine lv_iload_n hx hb dX8_bearsBy_112 rfl (lv_at hl 4 rfl) ?_
          refine lv_imul hx hb dX8_bearsBy_113 ?_
          refine lv_iadd hx hb dX8_bearsBy_114 ?_
          exact xiret ha hP hS dX8_bearsBy_115 ⟨by simp [a_bearing, i_leN, ex_3, c_4, c_5, c_6, c_8, -Int32.not_lt] <;> first | rfl | simp_all, rfl⟩ rfl
        by_cases c_9 : kind = 5
        · refine lv_tableIn (tgt := 116) hx hb dX8_bearsBy_54 (by rw [c_9]; decide) (by rw [c_9]; decide) (off := 62) (by rw [c_9]; rfl) (by decide) ?_
          refine lv_iload_n hx hb dX8_bearsBy_116 rfl (lv_at hl 4 rfl) ?_
          refine lv_iconst (v := 5) hx hb dX8_bearsBy_117 (by decide) ?_
          have jn_10 : ∀ x_10 : Int32, x_10 = (if 5 < tall then x_3 else (imax 0 (strong - (2 * wear)))) → W p l e ({ frames := 0, cells := 0, slots := 0, locals := 0 } : Room) s m ([.int kind, .int tall, .int strong, .int wear] : List Value).toArray below meth c s.heap [] 0 0 (MQ below (va_Qi (fun (r : Int32) u => r = a_bearing kind tall strong wear ∧ u = σ) (xB G 24 (cM G)) (xA G 24 s.heap.size)) ([.int kind, .int tall, .int strong, .int wear] : List Value).toArray s 0 0 (xA G 24 s.heap.size)) (F0 m 128 ls [.int x_10]) := by
            intro x_10 ex_10
            exact xiret ha hP hS dX8_bearsBy_128 ⟨by simp [a_bearing, i_leN, ex_3, c_4, c_5, c_6, c_8, c_9, ex_10, -Int32.not_lt] <;> first | rfl | simp_all, rfl⟩ rfl
          refine lv_icmp_le (tgt := 126) hx hb dX8_bearsBy_118 (by decide) (fun c_10 => ?_) (fun c_10 => ?_)
          · have t_10 := i_le c_10
            refine lv_iload hx hb dX8_bearsBy_126 (lv_at hl 2 rfl) ?_
            exact jn_10 _ (if_neg (u_le c_10)).symm
          · have t_10 := i_nle c_10
            refine lv_iload hx hb dX8_bearsBy_121 (lv_at hl 0 rfl) ?_
            refine lv_goto (tgt := 128) hx hb dX8_bearsBy_123 (by decide) ?_
            exact jn_10 _ (if_pos (u_nle c_10)).symm
        have t_4 := i_ne c_4
        have t_5 := i_ne c_5
        have t_6 := i_ne c_6
        have t_8 := i_ne c_8
        have t_9 := i_ne c_9
        have kk_4 : (1 : Int32).toInt = 1 := by decide
        have kk_5 : (2 : Int32).toInt = 2 := by decide
        have kk_6 : (3 : Int32).toInt = 3 := by decide
        have kk_8 : (4 : Int32).toInt = 4 := by decide
        have kk_9 : (5 : Int32).toInt = 5 := by decide
        refine lv_tableOut (tgt := 129) hx hb dX8_bearsBy_54 (by omega) (by decide) ?_
        refine lv_iload hx hb dX8_bearsBy_129 (lv_at hl 2 rfl) ?_
        exact xiret ha hP hS dX8_bearsBy_131 ⟨by simp [a_bearing, i_leN, ex_3, c_4, c_5, c_6, c_8, c_9, -Int32.not_lt] <;> first | rfl | simp_all, rfl⟩ rfl
      refine lv_icmp_ge (tgt := 44) hx hb dX8_bearsBy_36 (by decide) (fun c_3 => ?_) (fun c_3 => ?_)
      · have t_3 := i_le c_3
        refine lv_iload hx hb dX8_bearsBy_44 (lv_at hl 1 rfl) ?_
        refine lv_iload hx hb dX8_bearsBy_46 (lv_at hl 1 rfl) ?_
        refine lv_iconst (v := 3) hx hb dX8_bearsBy_48 (by decide) ?_
        refine lv_idiv hx hb dX8_bearsBy_49 (by decide) ?_
        refine lv_isub hx hb dX8_bearsBy_50 ?_
        exact jn_3 _ (if_neg (u_le c_3)).symm
      · have t_3 := i_nle c_3
        refine lv_iload hx hb dX8_bearsBy_39 (lv_at hl 1 rfl) ?_
        refine lv_goto (tgt := 51) hx hb dX8_bearsBy_41 (by decide) ?_
        exact jn_3 _ (if_pos (u_nle c_3)).symm
    refine lv_if_ge (tgt := 29) hx hb dX8_bearsBy_22 (by decide) (fun c_2 => ?_) (fun c_2 => ?_)
    · have t_2 := i_le c_2
      refine lv_iload_n hx hb dX8_bearsBy_29 rfl (lv_at hl 3 rfl) ?_
      refine lv_iload_n hx hb dX8_bearsBy_30 rfl (lv_at hl 4 rfl) ?_
      refine lv_isub hx hb dX8_bearsBy_31 ?_
      exact jn_2 _ (if_neg (u_le c_2)).symm
    · have t_2 := i_nle c_2
      refine lv_iconst (v := 0) hx hb dX8_bearsBy_25 (by decide) ?_
      refine lv_goto (tgt := 32) hx hb dX8_bearsBy_26 (by decide) ?_
      exact jn_2 _ (if_pos (u_nle c_2)).symm
  refine lv_if_ge (tgt := 12) hx hb dX8_bearsBy_5 (by decide) (fun c_1 => ?_) (fun c_1 => ?_)
  · have t_1 := i_le c_1
    refine lv_iload_n hx hb dX8_bearsBy_12 rfl (lv_at hl 2 rfl) ?_
    refine lv_iconst (v := 2) hx hb dX8_bearsBy_13 (by decide) ?_
    refine lv_iload_n hx hb dX8_bearsBy_14 rfl (lv_at hl 3 rfl) ?_
    refine lv_imul hx hb dX8_bearsBy_15 ?_
    refine lv_isub hx hb dX8_bearsBy_16 ?_
    exact jn_1 _ (if_neg (u_le c_1)).symm
  · have t_1 := i_nle c_1
    refine lv_iconst (v := 0) hx hb dX8_bearsBy_8 (by decide) ?_
    refine lv_goto (tgt := 17) hx hb dX8_bearsBy_9 (by decide) ?_
    exact jn_1 _ (if_pos (u_nle c_1)).symm
set_option maxHeartbeats 4000000 in
set_option maxRecDepth 100000 in
theorem c_X8_isPole (G : GT) (l : Launch) (σ : Mem) (P : PT) (k : Int32) (hpb : PB P) (hPV : pM σ = P) : CI G 24 (cM G) l yX8_isPole ({ frames := 1, cells := 0, slots := 0, locals := 25 } : Room) cX8_isPole 2 (some .boolean) [.ref (G.1 0), .int k] σ (fun (r : Int32) u => r = b2i (a_isPole P k) ∧ u = σ) := by
  intro sz
  refine xbegin (by decide) (Nat.le_of_ble_eq_true rfl) ?_
  intro p e s m below meth c ls hsz ha hP hl
  subst hsz
  have hx := ha.1
  have hb := ha.2.1
  have hS : va_S (xA G 24 s.heap.size) s.heap s.heap [] := va_S.rf
  have hl : lv_has ls 2 [(0, .ref (G.1 0)), (1, .int k)] := hl
  have k_0 : (0 : Int32).toInt = 0 := by decide
  have k_1 : (1 : Int32).toInt = 1 := by decide
  have k_4 : (4 : Int32).toInt = 4 := by decide
  have k_5 : (5 : Int32).toInt = 5 := by decide
  have k_6 : (6 : Int32).toInt = 6 := by decide
  have hPL := PB_pl hpb
  have hPE := PB_pe hpb
  have hp4 := PV_pl hpb hPV
  have hp5 := PV_pe hpb hPV
  refine lv_iload_n hx hb dX8_isPole_0 rfl (lv_at hl 1 rfl) ?_
  refine lv_i2l (v := k.toInt64) hx hb dX8_isPole_1 rfl ?_
  refine lv_lconst (v := 0) hx hb dX8_isPole_2 (by decide) ?_
  refine lv_aload_n hx hb dX8_isPole_3 rfl (lv_at hl 0 rfl) ?_
  refine g8_163 ha hP 0 (by decide) (cM_0 G _) (v := .int (σ 0 4)) rfl dX8_isPole_4 ?_
  refine lv_iconst (v := 1) hx hb dX8_isPole_7 (by decide) ?_
  refine lv_isub hx hb dX8_isPole_8 ?_
  refine lv_i2l (v := ((σ 0 4) - 1).toInt64) hx hb dX8_isPole_9 rfl ?_
  refine xSi ha hP hS (y := yX8_in) (As := [.long k.toInt64, .long 0, .long (((σ 0 4) - 1).toInt64)]) (rest := []) rfl (c_X8_in G l σ k.toInt64 0 (((σ 0 4) - 1).toInt64) ) kw_X8_95 hd_X8_in rfl ⟨rfl, rfl⟩ ⟨Nat.le_of_ble_eq_true rfl, Nat.le_of_ble_eq_true rfl⟩ ⟨Nat.zero_le _, Nat.zero_le _⟩ hl.1 (Nat.le_of_ble_eq_true rfl) rfl dX8_isPole_10 (fun r u H locs hpq hP hS => ?_)
  obtain ⟨hr_, hu_⟩ := hpq
  have hr_ := hr_.symm
  have hu_ := hu_.symm
  subst hr_
  subst hu_
  exact xzret ha hP hS (b2i_nar _) dX8_isPole_13 ⟨by rw [isPole_M (PB_PM hpb hPV), hPV], rfl⟩ rfl
set_option maxHeartbeats 4000000 in
set_option maxRecDepth 100000 in
theorem c_X8_isOne (G : GT) (l : Launch) (σ : Mem) (P : PT) (i : Int32) (hpb : PB P) (hPV : pM σ = P) : CI G 24 (cM G) l yX8_isOne ({ frames := 1, cells := 0, slots := 0, locals := 25 } : Room) cX8_isOne 2 (some .boolean) [.ref (G.1 0), .int i] σ (fun (r : Int32) u => r = b2i (a_isOne P i) ∧ u = σ) := by
  intro sz
  refine xbegin (by decide) (Nat.le_of_ble_eq_true rfl) ?_
  intro p e s m below meth c ls hsz ha hP hl
  subst hsz
  have hx := ha.1
  have hb := ha.2.1
  have hS : va_S (xA G 24 s.heap.size) s.heap s.heap [] := va_S.rf
  have hl : lv_has ls 2 [(0, .ref (G.1 0)), (1, .int i)] := hl
  have k_0 : (0 : Int32).toInt = 0 := by decide
  have k_1 : (1 : Int32).toInt = 1 := by decide
  have k_4 : (4 : Int32).toInt = 4 := by decide
  have k_5 : (5 : Int32).toInt = 5 := by decide
  have k_6 : (6 : Int32).toInt = 6 := by decide
  have hPL := PB_pl hpb
  have hPE := PB_pe hpb
  have hp4 := PV_pl hpb hPV
  have hp5 := PV_pe hpb hPV
  refine lv_iload_n hx hb dX8_isOne_0 rfl (lv_at hl 1 rfl) ?_
  refine lv_i2l (v := i.toInt64) hx hb dX8_isOne_1 rfl ?_
  refine lv_lconst (v := 0) hx hb dX8_isOne_2 (by decide) ?_
  refine lv_aload_n hx hb dX8_isOne_3 rfl (lv_at hl 0 rfl) ?_
  refine g8_166 ha hP 0 (by decide) (cM_0 G _) (v := .int (σ 0 5)) rfl dX8_isOne_4 ?_
  refine lv_iconst (v := 1) hx hb dX8_isOne_7 (by decide) ?_
  refine lv_isub hx hb dX8_isOne_8 ?_
  refine lv_i2l (v := ((σ 0 5) - 1).toInt64) hx hb dX8_isOne_9 rfl ?_
  refine xSi ha hP hS (y := yX8_in) (As := [.long i.toInt64, .long 0, .long (((σ 0 5) - 1).toInt64)]) (rest := []) rfl (c_X8_in G l σ i.toInt64 0 (((σ 0 5) - 1).toInt64) ) kw_X8_95 hd_X8_in rfl ⟨rfl, rfl⟩ ⟨Nat.le_of_ble_eq_true rfl, Nat.le_of_ble_eq_true rfl⟩ ⟨Nat.zero_le _, Nat.zero_le _⟩ hl.1 (Nat.le_of_ble_eq_true rfl) rfl dX8_isOne_10 (fun r u H locs hpq hP hS => ?_)
  obtain ⟨hr_, hu_⟩ := hpq
  have hr_ := hr_.symm
  have hu_ := hu_.symm
  subst hr_
  subst hu_
  exact xzret ha hP hS (b2i_nar _) dX8_isOne_13 ⟨by rw [isOne_M (PB_PM hpb hPV), hPV], rfl⟩ rfl
set_option maxHeartbeats 4000000 in
set_option maxRecDepth 100000 in
theorem c_X8_bearsAs (G : GT) (l : Launch) (σ : Mem) (P : PT) (kind : Int32) (k : Int32) (wear : Int32) (hpb : PB P) (hPV : pM σ = P) (hk : a_isPole P k = true) : CI G 24 (cM G) l yX8_bearsAs ({ frames := 1, cells := 0, slots := 0, locals := 26 } : Room) cX8_bearsAs 4 (some .int) [.ref (G.1 0), .int kind, .int k, .int wear] σ (fun (r : Int32) u => r = a_bearing kind (P 2 (ix k)) (P 3 (ix k)) wear ∧ u = σ) := by
  intro sz
  refine xbegin (by decide) (Nat.le_of_ble_eq_true rfl) ?_
  intro p e s m below meth c ls hsz ha hP hl
  subst hsz
  have hx := ha.1
  have hb := ha.2.1
  have hS : va_S (xA G 24 s.heap.size) s.heap s.heap [] := va_S.rf
  have hl : lv_has ls 4 [(0, .ref (G.1 0)), (1, .int kind), (2, .int k), (3, .int wear)] := hl
  have k_0 : (0 : Int32).toInt = 0 := by decide
  have k_4 : (4 : Int32).toInt = 4 := by decide
  have k_5 : (5 : Int32).toInt = 5 := by decide
  have k_6 : (6 : Int32).toInt = 6 := by decide
  have hPL := PB_pl hpb
  have hPE := PB_pe hpb
  have hp4 := PV_pl hpb hPV
  have hp5 := PV_pe hpb hPV
  have hk1 := isPole_t hk
  obtain ⟨p6, p7, p8, p9, p10⟩ := pM_c hPV
  refine lv_iload_n hx hb dX8_bearsAs_0 rfl (lv_at hl 1 rfl) ?_
  refine lv_aload_n hx hb dX8_bearsAs_1 rfl (lv_at hl 0 rfl) ?_
  refine g8_32 ha hP 0 (by decide) (cM_0 G _) (v := .ref (G.1 7)) rfl dX8_bearsAs_2 ?_
  refine lv_iload_n hx hb dX8_bearsAs_5 rfl (lv_at hl 2 rfl) ?_
  refine xialdN ha hP 7 (by decide) (cM_7 G _) (ix k) (ix_nI (by omega)) (ix_lt (by omega) (by omega)) (by decide) dX8_bearsAs_6 ?_
  refine lv_aload_n hx hb dX8_bearsAs_7 rfl (lv_at hl 0 rfl) ?_
  refine g8_35 ha hP 0 (by decide) (cM_0 G _) (v := .ref (G.1 8)) rfl dX8_bearsAs_8 ?_
  refine lv_iload_n hx hb dX8_bearsAs_11 rfl (lv_at hl 2 rfl) ?_
  refine xialdN ha hP 8 (by decide) (cM_8 G _) (ix k) (ix_nI (by omega)) (ix_lt (by omega) (by omega)) (by decide) dX8_bearsAs_12 ?_
  refine lv_iload_n hx hb dX8_bearsAs_13 rfl (lv_at hl 3 rfl) ?_
  refine xSi ha hP hS (y := yX8_bearsBy) (As := [.int kind, .int (σ 7 (ix k)), .int (σ 8 (ix k)), .int wear]) (rest := []) rfl (c_X8_bearsBy G l σ kind (σ 7 (ix k)) (σ 8 (ix k)) wear ) kw_X8_169 hd_X8_bearsBy rfl ⟨rfl, rfl⟩ ⟨Nat.le_of_ble_eq_true rfl, Nat.le_of_ble_eq_true rfl⟩ ⟨Nat.zero_le _, Nat.zero_le _⟩ hl.1 (Nat.le_of_ble_eq_true rfl) rfl dX8_bearsAs_14 (fun r u H locs hpq hP hS => ?_)
  obtain ⟨hr_, hu_⟩ := hpq
  have hr_ := hr_.symm
  have hu_ := hu_.symm
  subst hr_
  subst hu_
  exact xiret ha hP hS dX8_bearsAs_17 ⟨by rw [p7, p8], rfl⟩ rfl
set_option maxHeartbeats 4000000 in
set_option maxRecDepth 100000 in
theorem c_X8_bearsOn (G : GT) (l : Launch) (σ : Mem) (P : PT) (t : Nat) (k : Int32) (hpb : PB P) (hPV : pM σ = P) (ht : oT t) (hk : a_isPole P k = true) : CI G 24 (cM G) l yX8_bearsOn ({ frames := 2, cells := 0, slots := 0, locals := 49 } : Room) cX8_bearsOn 3 (some .int) [.ref (G.1 0), .ref (G.1 t), .int k] σ (fun (r : Int32) u => r = a_bearsNow P (sM σ t) k ∧ u = σ) := by
  intro sz
  refine xbegin (by decide) (Nat.le_of_ble_eq_true rfl) ?_
  intro p e s m below meth c ls hsz ha hP hl
  subst hsz
  have hx := ha.1
  have hb := ha.2.1
  have hS : va_S (xA G 24 s.heap.size) s.heap s.heap [] := va_S.rf
  have hl : lv_has ls 3 [(0, .ref (G.1 0)), (1, .ref (G.1 t)), (2, .int k)] := hl
  have k_0 : (0 : Int32).toInt = 0 := by decide
  have k_4 : (4 : Int32).toInt = 4 := by decide
  have k_5 : (5 : Int32).toInt = 5 := by decide
  have k_6 : (6 : Int32).toInt = 6 := by decide
  have hPL := PB_pl hpb
  have hPE := PB_pe hpb
  have hp4 := PV_pl hpb hPV
  have hp5 := PV_pe hpb hPV
  have hk1 := isPole_t hk
  obtain ⟨p6, p7, p8, p9, p10⟩ := pM_c hPV
  refine lv_aload_n hx hb dX8_bearsOn_0 rfl (lv_at hl 0 rfl) ?_
  refine lv_aload_n hx hb dX8_bearsOn_1 rfl (lv_at hl 0 rfl) ?_
  refine g8_29 ha hP 0 (by decide) (cM_0 G _) (v := .ref (G.1 6)) rfl dX8_bearsOn_2 ?_
  refine lv_iload_n hx hb dX8_bearsOn_5 rfl (lv_at hl 2 rfl) ?_
  refine xialdN ha hP 6 (by decide) (cM_6 G _) (ix k) (ix_nI (by omega)) (ix_lt (by omega) (by omega)) (by decide) dX8_bearsOn_6 ?_
  refine lv_iload_n hx hb dX8_bearsOn_7 rfl (lv_at hl 2 rfl) ?_
  refine lv_aload_n hx hb dX8_bearsOn_8 rfl (lv_at hl 1 rfl) ?_
  refine lv_iconst (v := 0) hx hb dX8_bearsOn_9 (by decide) ?_
  refine lv_iload_n hx hb dX8_bearsOn_10 rfl (lv_at hl 2 rfl) ?_
  refine lv_iadd hx hb dX8_bearsOn_11 ?_
  refine xialdN ha hP t (oT_lt0 ht) (sT ht) (0 + (ix k)) (nadd (rfl : (0 : Int32) = nI 0) (ix_nI (by omega))) (by have q_0 := ix_toInt (show (0 : Int) ≤ (k).toInt by omega); omega) (by decide) dX8_bearsOn_12 ?_
  refine xVi ha hP hS (y := yX8_bearsAs) (As := [.int (σ 6 (ix k)), .int k, .int (σ t (0 + (ix k)))]) (rest := []) 0 (by decide) (cM_0 G _) rfl rfl (c_X8_bearsAs G l σ P (σ 6 (ix k)) k (σ t (0 + (ix k))) hpb hPV hk) kw_X8_173 hd_X8_bearsAs rfl ⟨rfl, rfl⟩ ⟨Nat.le_of_ble_eq_true rfl, Nat.le_of_ble_eq_true rfl⟩ ⟨Nat.zero_le _, Nat.zero_le _⟩ hl.1 (Nat.le_of_ble_eq_true rfl) rfl dX8_bearsOn_13 (fun r u H locs hpq hP hS => ?_)
  obtain ⟨hr_, hu_⟩ := hpq
  have hr_ := hr_.symm
  have hu_ := hu_.symm
  subst hr_
  subst hu_
  exact xiret ha hP hS dX8_bearsOn_16 ⟨by simp [a_bearsNow, hk, p6, sM], rfl⟩ rfl
set_option maxHeartbeats 4000000 in
set_option maxRecDepth 100000 in
theorem c_X8_highOn (G : GT) (l : Launch) (σ : Mem) (P : PT) (i : Int32) (k : Int32) (hpb : PB P) (hPV : pM σ = P) (hi : a_isOne P i = true) (hk9 : k = -9 ∨ a_isPole P k = true) : CI G 24 (cM G) l yX8_highOn ({ frames := 0, cells := 0, slots := 0, locals := 0 } : Room) cX8_highOn 3 (some .int) [.ref (G.1 0), .int i, .int k] σ (fun (r : Int32) u => r = a_high P i k ∧ u = σ) := by
  intro sz
  refine xbegin (by decide) (Nat.le_of_ble_eq_true rfl) ?_
  intro p e s m below meth c ls hsz ha hP hl
  subst hsz
  have hx := ha.1
  have hb := ha.2.1
  have hS : va_S (xA G 24 s.heap.size) s.heap s.heap [] := va_S.rf
  have hl : lv_has ls 3 [(0, .ref (G.1 0)), (1, .int i), (2, .int k)] := hl
  have k_m9 : (-9 : Int32).toInt = -9 := by decide
  have k_0 : (0 : Int32).toInt = 0 := by decide
  have k_4 : (4 : Int32).toInt = 4 := by decide
  have k_5 : (5 : Int32).toInt = 5 := by decide
  have k_6 : (6 : Int32).toInt = 6 := by decide
  have hPL := PB_pl hpb
  have hPE := PB_pe hpb
  have hp4 := PV_pl hpb hPV
  have hp5 := PV_pe hpb hPV
  have hi1 := isOne_t hi
  obtain ⟨p6, p7, p8, p9, p10⟩ := pM_c hPV
  refine lv_iload_n hx hb dX8_highOn_0 rfl (lv_at hl 2 rfl) ?_
  refine lv_bipush (v := (-9)) hx hb dX8_highOn_1 (by decide) ?_
  refine lv_icmp_ne (tgt := 10) hx hb dX8_highOn_3 (by decide) (fun c_1 => ?_) (fun c_1 => ?_)
  · have t_1 := i_ne c_1
    have hk := hk9.resolve_left c_1
    have hk1 := isPole_t hk
    refine lv_aload_n hx hb dX8_highOn_10 rfl (lv_at hl 0 rfl) ?_
    refine g8_41 ha hP 0 (by decide) (cM_0 G _) (v := .ref (G.1 10)) rfl dX8_highOn_11 ?_
    refine lv_iload_n hx hb dX8_highOn_14 rfl (lv_at hl 1 rfl) ?_
    refine xialdN ha hP 10 (by decide) (cM_10 G _) (ix i) (ix_nI (by omega)) (ix_lt (by omega) (by omega)) (by decide) dX8_highOn_15 ?_
    refine lv_aload_n hx hb dX8_highOn_16 rfl (lv_at hl 0 rfl) ?_
    refine g8_32 ha hP 0 (by decide) (cM_0 G _) (v := .ref (G.1 7)) rfl dX8_highOn_17 ?_
    refine lv_iload_n hx hb dX8_highOn_20 rfl (lv_at hl 2 rfl) ?_
    refine xialdN ha hP 7 (by decide) (cM_7 G _) (ix k) (ix_nI (by omega)) (ix_lt (by omega) (by omega)) (by decide) dX8_highOn_21 ?_
    have jn_2 : ∀ x_2 : Int32, x_2 = (if (σ 10 (ix i)) < (σ 7 (ix k)) then (σ 10 (ix i)) else (σ 7 (ix k))) → W p l e ({ frames := 0, cells := 0, slots := 0, locals := 0 } : Room) s m ([.ref (G.1 0), .int i, .int k] : List Value).toArray below meth c s.heap [] 0 0 (MQ below (va_Qi (fun (r : Int32) u => r = a_high P i k ∧ u = σ) (xB G 24 (cM G)) (xA G 24 s.heap.size)) ([.ref (G.1 0), .int i, .int k] : List Value).toArray s 0 0 (xA G 24 s.heap.size)) (F0 m 40 ls [.int x_2]) := by
      intro x_2 ex_2
      exact xiret ha hP hS dX8_highOn_40 ⟨by first | (rw [high_t hi hk, ← p7, ← p10]; simp [c_1, ex_2, i_leN, -Int32.not_lt]; done) | (rw [show k = -9 by assumption, high_9]), rfl⟩ rfl
    refine lv_icmp_ge (tgt := 34) hx hb dX8_highOn_22 (by decide) (fun c_2 => ?_) (fun c_2 => ?_)
    · have t_2 := i_le c_2
      refine lv_aload_n hx hb dX8_highOn_34 rfl (lv_at hl 0 rfl) ?_
      refine g8_32 ha hP 0 (by decide) (cM_0 G _) (v := .ref (G.1 7)) rfl dX8_highOn_35 ?_
      refine lv_iload_n hx hb dX8_highOn_38 rfl (lv_at hl 2 rfl) ?_
      refine xialdN ha hP 7 (by decide) (cM_7 G _) (ix k) (ix_nI (by omega)) (ix_lt (by omega) (by omega)) (by decide) dX8_highOn_39 ?_
      exact jn_2 _ (if_neg (u_le c_2)).symm
    · have t_2 := i_nle c_2
      refine lv_aload_n hx hb dX8_highOn_25 rfl (lv_at hl 0 rfl) ?_
      refine g8_41 ha hP 0 (by decide) (cM_0 G _) (v := .ref (G.1 10)) rfl dX8_highOn_26 ?_
      refine lv_iload_n hx hb dX8_highOn_29 rfl (lv_at hl 1 rfl) ?_
      refine xialdN ha hP 10 (by decide) (cM_10 G _) (ix i) (ix_nI (by omega)) (ix_lt (by omega) (by omega)) (by decide) dX8_highOn_30 ?_
      refine lv_goto (tgt := 40) hx hb dX8_highOn_31 (by decide) ?_
      exact jn_2 _ (if_pos (u_nle c_2)).symm
  · have t_1 := i_eq c_1
    refine lv_iconst (v := 0) hx hb dX8_highOn_6 (by decide) ?_
    refine lv_goto (tgt := 40) hx hb dX8_highOn_7 (by decide) ?_
    exact xiret ha hP hS dX8_highOn_40 ⟨by first | (rw [high_t hi hk, ← p7, ← p10]; simp [c_1, i_leN, -Int32.not_lt]; done) | (rw [show k = -9 by assumption, high_9]), rfl⟩ rfl
set_option maxHeartbeats 4000000 in
set_option maxRecDepth 100000 in
theorem c_X8_loadOn (G : GT) (l : Launch) (σ : Mem) (P : PT) (t : Nat) (k : Int32) (hpb : PB P) (hPV : pM σ = P) (ht : oT t) (hk : a_isPole P k = true) : CI G 24 (cM G) l yX8_loadOn ({ frames := 1, cells := 0, slots := 0, locals := 22 } : Room) cX8_loadOn 5 (some .int) [.ref (G.1 0), .ref (G.1 t), .int k] σ (fun (r : Int32) u => r = a_load P (sM σ t) k ∧ u = σ) := by
  intro sz
  refine xbegin (by decide) (Nat.le_of_ble_eq_true rfl) ?_
  intro p e s m below meth c ls hsz ha hP hl
  subst hsz
  have hx := ha.1
  have hb := ha.2.1
  have hS : va_S (xA G 24 s.heap.size) s.heap s.heap [] := va_S.rf
  have hl : lv_has ls 5 [(0, .ref (G.1 0)), (1, .ref (G.1 t)), (2, .int k)] := hl
  have k_0 : (0 : Int32).toInt = 0 := by decide
  have k_2 : (2 : Int32).toInt = 2 := by decide
  have k_4 : (4 : Int32).toInt = 4 := by decide
  have k_5 : (5 : Int32).toInt = 5 := by decide
  have k_6 : (6 : Int32).toInt = 6 := by decide
  have hPL := PB_pl hpb
  have hPE := PB_pe hpb
  have hp4 := PV_pl hpb hPV
  have hp5 := PV_pe hpb hPV
  obtain ⟨p6, p7, p8, p9, p10⟩ := pM_c hPV
  refine lv_iconst (v := 0) hx hb dX8_loadOn_0 (by decide) ?_
  refine lv_istore_n (lv' := [(3, .int 0), (0, .ref (G.1 0)), (1, .ref (G.1 t)), (2, .int k)]) hx hb dX8_loadOn_1 rfl hl (by decide) rfl (fun ls hl => ?_)
  refine lv_iconst (v := 0) hx hb dX8_loadOn_2 (by decide) ?_
  refine lv_istore (lv' := [(4, .int 0), (3, .int 0), (0, .ref (G.1 0)), (1, .ref (G.1 t)), (2, .int k)]) hx hb dX8_loadOn_3 hl (by decide) rfl (fun ls hl => ?_)
  have lp_5 : ∀ (d j : Nat) (x3 : Int32) (H : Heap) (locs : List Loc) (ls : Array Slot), j ≤ (nPe P) → (nPe P) - j < d → x3 = a_sum (fun i => if sM σ t 2 i = k then a_loadBy P (nI i) k else 0) j → va_P G.2.1 vwCl (wl G 24 (cM G σ)) H → va_S (xA G 24 s.heap.size) s.heap H locs → lv_has ls 5 [(4, .int (nI j)), (3, .int x3), (0, .ref (G.1 0)), (1, .ref (G.1 t)), (2, .int k)] → W p l e ({ frames := 1, cells := 0, slots := 0, locals := 22 } : Room) s m ([.ref (G.1 0), .ref (G.1 t), .int k] : List Value).toArray below meth c H locs 0 0 (MQ below (va_Qi (fun (r : Int32) u => r = a_load P (sM σ t) k ∧ u = σ) (xB G 24 (cM G)) (xA G 24 s.heap.size)) ([.ref (G.1 0), .ref (G.1 t), .int k] : List Value).toArray s 0 0 (xA G 24 s.heap.size)) (F0 m 5 ls []) := by
    intro d
    induction d with
    | zero => intro j x3 H locs ls hj hd; exact absurd hd (Nat.not_lt_zero _)
    | succ d ih_5 =>
      intro j x3 H locs ls hj_j hd_j e_x3 hP hS hl
      have h31_j : (nI j).toInt = (j : Int) := nI_toInt (by omega)
      refine lv_iload hx hb dX8_loadOn_5 (lv_at hl 0 rfl) ?_
      refine lv_aload_n hx hb dX8_loadOn_7 rfl (lv_at hl 2 rfl) ?_
      refine g8_166 ha hP 0 (by decide) (cM_0 G _) (v := .int (σ 0 5)) rfl dX8_loadOn_8 ?_
      refine lv_icmp_ge (tgt := 54) hx hb dX8_loadOn_11 (by decide) (fun c_1 => ?_) (fun c_1 => ?_)
      · have t_1 := i_le c_1
        have u_1 := u_le c_1
        obtain rfl : j = (nPe P) := by omega
        refine lv_iload_n hx hb dX8_loadOn_54 rfl (lv_at hl 1 rfl) ?_
        exact xiret ha hP hS dX8_loadOn_55 ⟨by exact e_x3, rfl⟩ rfl
      · have t_1 := i_nle c_1
        have u_1 := u_nle c_1
        have hlt_j : j < (nPe P) := by omega
        have hone := one_nI hpb (show j < nPe P by omega)
        have hlb : a_loadBy P (nI j) k = P 4 j + a_high P (nI j) k / 2 := by unfold a_loadBy; rw [if_pos hone, ix_of (by omega)]
        have hs2 : sM σ t 2 j = σ t (5 + j) := rfl
        rw [← p9] at hlb
        refine lv_iload_n hx hb dX8_loadOn_14 rfl (lv_at hl 1 rfl) ?_
        refine lv_aload_n hx hb dX8_loadOn_15 rfl (lv_at hl 3 rfl) ?_
        refine lv_iconst (v := 5) hx hb dX8_loadOn_16 (by decide) ?_
        refine lv_iload hx hb dX8_loadOn_17 (lv_at hl 0 rfl) ?_
        refine lv_iadd hx hb dX8_loadOn_19 ?_
        refine xialdN ha hP t (oT_lt0 ht) (sT ht) (5 + j) (nadd (rfl : (5 : Int32) = nI 5) rfl) (by omega) (by decide) dX8_loadOn_20 ?_
        refine lv_iload_n hx hb dX8_loadOn_21 rfl (lv_at hl 4 rfl) ?_
        refine lv_icmp_ne (tgt := 45) hx hb dX8_loadOn_22 (by decide) (fun c_2 => ?_) (fun c_2 => ?_)
        · have t_2 := i_ne c_2
          refine lv_iconst (v := 0) hx hb dX8_loadOn_45 (by decide) ?_
          refine lv_iadd hx hb dX8_loadOn_46 ?_
          refine lv_istore_n (lv' := [(3, .int (x3 + 0)), (4, .int (nI j)), (0, .ref (G.1 0)), (1, .ref (G.1 t)), (2, .int k)]) hx hb dX8_loadOn_47 rfl hl (by decide) rfl (fun ls hl => ?_)
          refine lv_iinc (v := (nI (j + 1))) (lv' := [(4, .int (nI (j + 1))), (3, .int (x3 + 0)), (0, .ref (G.1 0)), (1, .ref (G.1 t)), (2, .int k)]) hx hb dX8_loadOn_48 hl (k := 1) rfl (nI_1 j) (by decide) rfl (fun ls hl => ?_)
          refine lv_goto (tgt := 5) hx hb dX8_loadOn_51 (by decide) ?_
          exact ih_5 (j + 1) (x3 + 0) _ _ _ (by omega) (by omega) (by rw [a_sum, ← e_x3]; simp [u_1, c_2, hlb, hs2]) hP hS (lv_sub hl [0, 1, 2, 3, 4] rfl)
        · have t_2 := i_eq c_2
          refine lv_aload_n hx hb dX8_loadOn_25 rfl (lv_at hl 2 rfl) ?_
          refine g8_38 ha hP 0 (by decide) (cM_0 G _) (v := .ref (G.1 9)) rfl dX8_loadOn_26 ?_
          refine lv_iload hx hb dX8_loadOn_29 (lv_at hl 0 rfl) ?_
          refine xialdN ha hP 9 (by decide) (cM_9 G _) j rfl (by omega) (by decide) dX8_loadOn_31 ?_
          refine lv_aload_n hx hb dX8_loadOn_32 rfl (lv_at hl 2 rfl) ?_
          refine lv_iload hx hb dX8_loadOn_33 (lv_at hl 0 rfl) ?_
          refine lv_iload_n hx hb dX8_loadOn_35 rfl (lv_at hl 4 rfl) ?_
          refine xVi ha hP hS (y := yX8_highOn) (As := [.int (nI j), .int k]) (rest := [.int (σ 9 j), .int x3]) 0 (by decide) (cM_0 G _) rfl rfl (c_X8_highOn G l σ P (nI j) k hpb hPV hone (Or.inr hk)) kw_X8_177 hd_X8_highOn rfl ⟨rfl, rfl⟩ ⟨Nat.le_of_ble_eq_true rfl, Nat.le_of_ble_eq_true rfl⟩ ⟨Nat.zero_le _, Nat.zero_le _⟩ hl.1 (Nat.le_of_ble_eq_true rfl) rfl dX8_loadOn_36 (fun r u H locs hpq hP hS => ?_)
          obtain ⟨hr_, hu_⟩ := hpq
          have hr_ := hr_.symm
          have hu_ := hu_.symm
          subst hr_
          subst hu_
          refine lv_iconst (v := 2) hx hb dX8_loadOn_39 (by decide) ?_
          refine lv_idiv hx hb dX8_loadOn_40 (by decide) ?_
          refine lv_iadd hx hb dX8_loadOn_41 ?_
          refine lv_goto (tgt := 46) hx hb dX8_loadOn_42 (by decide) ?_
          refine lv_iadd hx hb dX8_loadOn_46 ?_
          refine lv_istore_n (lv' := [(3, .int (x3 + ((σ 9 j) + ((a_high P (nI j) k) / 2)))), (4, .int (nI j)), (0, .ref (G.1 0)), (1, .ref (G.1 t)), (2, .int k)]) hx hb dX8_loadOn_47 rfl hl (by decide) rfl (fun ls hl => ?_)
          refine lv_iinc (v := (nI (j + 1))) (lv' := [(4, .int (nI (j + 1))), (3, .int (x3 + ((σ 9 j) + ((a_high P (nI j) k) / 2)))), (0, .ref (G.1 0)), (1, .ref (G.1 t)), (2, .int k)]) hx hb dX8_loadOn_48 hl (k := 1) rfl (nI_1 j) (by decide) rfl (fun ls hl => ?_)
          refine lv_goto (tgt := 5) hx hb dX8_loadOn_51 (by decide) ?_
          exact ih_5 (j + 1) (x3 + ((σ 9 j) + ((a_high P (nI j) k) / 2))) _ _ _ (by omega) (by omega) (by rw [a_sum, ← e_x3]; simp [u_1, c_2, hlb, hs2]) hP hS (lv_sub hl [0, 1, 2, 3, 4] rfl)
  exact lp_5 ((nPe P) - 0 + 1) 0 0 _ _ _ (by omega) (by omega) rfl hP hS (lv_sub hl [0, 1, 2, 3, 4] rfl)
set_option maxHeartbeats 4000000 in
set_option maxRecDepth 100000 in
theorem c_X8_isUp (G : GT) (l : Launch) (σ : Mem) (P : PT) (t : Nat) (k : Int32) (hpb : PB P) (hPV : pM σ = P) (ht : oT t) (hk : a_isPole P k = true) : CI G 24 (cM G) l yX8_isUp ({ frames := 1, cells := 0, slots := 0, locals := 21 } : Room) cX8_isUp 2 (some .boolean) [.ref (G.1 t), .int k] σ (fun (r : Int32) u => r = b2i (a_isUp P (sM σ t) k) ∧ u = σ) := by
  intro sz
  refine xbegin (by decide) (Nat.le_of_ble_eq_true rfl) ?_
  intro p e s m below meth c ls hsz ha hP hl
  subst hsz
  have hx := ha.1
  have hb := ha.2.1
  have hS : va_S (xA G 24 s.heap.size) s.heap s.heap [] := va_S.rf
  have hl : lv_has ls 2 [(0, .ref (G.1 t)), (1, .int k)] := hl
  have k_0 : (0 : Int32).toInt = 0 := by decide
  have k_1 : (1 : Int32).toInt = 1 := by decide
  have k_4 : (4 : Int32).toInt = 4 := by decide
  have k_5 : (5 : Int32).toInt = 5 := by decide
  have k_6 : (6 : Int32).toInt = 6 := by decide
  have hPL := PB_pl hpb
  have hPE := PB_pe hpb
  have hp4 := PV_pl hpb hPV
  have hp5 := PV_pe hpb hPV
  have hk1 := isPole_t hk
  refine lv_aload_n hx hb dX8_isUp_0 rfl (lv_at hl 0 rfl) ?_
  refine lv_iconst (v := 4) hx hb dX8_isUp_1 (by decide) ?_
  refine xialdN ha hP t (oT_lt0 ht) (sT ht) 4 (by decide) (by decide) (by decide) dX8_isUp_2 ?_
  refine lv_iload_n hx hb dX8_isUp_3 rfl (lv_at hl 1 rfl) ?_
  refine xSi ha hP hS (y := yX8_has) (As := [.int (σ t 4), .int k]) (rest := []) rfl (c_X8_has G l σ (σ t 4) k ) kw_X8_181 hd_X8_has rfl ⟨rfl, rfl⟩ ⟨Nat.le_of_ble_eq_true rfl, Nat.le_of_ble_eq_true rfl⟩ ⟨Nat.zero_le _, Nat.zero_le _⟩ hl.1 (Nat.le_of_ble_eq_true rfl) rfl dX8_isUp_4 (fun r u H locs hpq hP hS => ?_)
  obtain ⟨hr_, hu_⟩ := hpq
  have hr_ := hr_.symm
  have hu_ := hu_.symm
  subst hr_
  subst hu_
  refine lv_if_ne (tgt := 14) hx hb dX8_isUp_7 (by decide) (fun c_1 => ?_) (fun c_1 => ?_)
  · have t_1 := b2i_t c_1
    refine lv_iconst (v := 0) hx hb dX8_isUp_14 (by decide) ?_
    exact xzret ha hP hS rfl dX8_isUp_15 ⟨by rw [up_has hk]; simp [sM, t_1, b2i], rfl⟩ rfl
  · have t_1 := b2i_f c_1
    refine lv_iconst (v := 1) hx hb dX8_isUp_10 (by decide) ?_
    refine lv_goto (tgt := 15) hx hb dX8_isUp_11 (by decide) ?_
    exact xzret ha hP hS rfl dX8_isUp_15 ⟨by rw [up_has hk]; simp [sM, t_1, b2i], rfl⟩ rfl
set_option maxHeartbeats 4000000 in
set_option maxRecDepth 100000 in
theorem c_X8_holdsOn (G : GT) (l : Launch) (σ : Mem) (P : PT) (t : Nat) (k : Int32) (hpb : PB P) (hPV : pM σ = P) (ht : oT t) (hk : a_isPole P k = true) : CI G 24 (cM G) l yX8_holdsOn ({ frames := 3, cells := 0, slots := 0, locals := 71 } : Room) cX8_holdsOn 3 (some .boolean) [.ref (G.1 0), .ref (G.1 t), .int k] σ (fun (r : Int32) u => r = b2i (decide (a_load P (sM σ t) k ≤ a_bearsNow P (sM σ t) k)) ∧ u = σ) := by
  intro sz
  refine xbegin (by decide) (Nat.le_of_ble_eq_true rfl) ?_
  intro p e s m below meth c ls hsz ha hP hl
  subst hsz
  have hx := ha.1
  have hb := ha.2.1
  have hS : va_S (xA G 24 s.heap.size) s.heap s.heap [] := va_S.rf
  have hl : lv_has ls 3 [(0, .ref (G.1 0)), (1, .ref (G.1 t)), (2, .int k)] := hl
  have k_0 : (0 : Int32).toInt = 0 := by decide
  have k_1 : (1 : Int32).toInt = 1 := by decide
  have k_4 : (4 : Int32).toInt = 4 := by decide
  have k_5 : (5 : Int32).toInt = 5 := by decide
  have k_6 : (6 : Int32).toInt = 6 := by decide
  have hPL := PB_pl hpb
  have hPE := PB_pe hpb
  have hp4 := PV_pl hpb hPV
  have hp5 := PV_pe hpb hPV
  refine lv_aload_n hx hb dX8_holdsOn_0 rfl (lv_at hl 0 rfl) ?_
  refine lv_aload_n hx hb dX8_holdsOn_1 rfl (lv_at hl 1 rfl) ?_
  refine lv_iload_n hx hb dX8_holdsOn_2 rfl (lv_at hl 2 rfl) ?_
  refine xVi ha hP hS (y := yX8_loadOn) (As := [.ref (G.1 t), .int k]) (rest := []) 0 (by decide) (cM_0 G _) rfl rfl (c_X8_loadOn G l σ P t k hpb hPV ht hk) kw_X8_185 hd_X8_loadOn rfl ⟨rfl, rfl⟩ ⟨Nat.le_of_ble_eq_true rfl, Nat.le_of_ble_eq_true rfl⟩ ⟨Nat.zero_le _, Nat.zero_le _⟩ hl.1 (Nat.le_of_ble_eq_true rfl) rfl dX8_holdsOn_3 (fun r u H locs hpq hP hS => ?_)
  obtain ⟨hr_, hu_⟩ := hpq
  have hr_ := hr_.symm
  have hu_ := hu_.symm
  subst hr_
  subst hu_
  refine lv_aload_n hx hb dX8_holdsOn_6 rfl (lv_at hl 0 rfl) ?_
  refine lv_aload_n hx hb dX8_holdsOn_7 rfl (lv_at hl 1 rfl) ?_
  refine lv_iload_n hx hb dX8_holdsOn_8 rfl (lv_at hl 2 rfl) ?_
  refine xVi ha hP hS (y := yX8_bearsOn) (As := [.ref (G.1 t), .int k]) (rest := [.int (a_load P (sM σ t) k)]) 0 (by decide) (cM_0 G _) rfl rfl (c_X8_bearsOn G l σ P t k hpb hPV ht hk) kw_X8_189 hd_X8_bearsOn rfl ⟨rfl, rfl⟩ ⟨Nat.le_of_ble_eq_true rfl, Nat.le_of_ble_eq_true rfl⟩ ⟨Nat.zero_le _, Nat.zero_le _⟩ hl.1 (Nat.le_of_ble_eq_true rfl) rfl dX8_holdsOn_9 (fun r u H locs hpq hP hS => ?_)
  obtain ⟨hr_, hu_⟩ := hpq
  have hr_ := hr_.symm
  have hu_ := hu_.symm
  subst hr_
  subst hu_
  refine lv_icmp_gt (tgt := 19) hx hb dX8_holdsOn_12 (by decide) (fun c_1 => ?_) (fun c_1 => ?_)
  · have t_1 := i_lt c_1
    refine lv_iconst (v := 0) hx hb dX8_holdsOn_19 (by decide) ?_
    exact xzret ha hP hS rfl dX8_holdsOn_20 ⟨by simp [b2i, c_1, i_leN, -Int32.not_lt], rfl⟩ rfl
  · have t_1 := i_nlt c_1
    refine lv_iconst (v := 1) hx hb dX8_holdsOn_15 (by decide) ?_
    refine lv_goto (tgt := 20) hx hb dX8_holdsOn_16 (by decide) ?_
    exact xzret ha hP hS rfl dX8_holdsOn_20 ⟨by simp [b2i, c_1, i_leN, -Int32.not_lt], rfl⟩ rfl
set_option maxHeartbeats 4000000 in
set_option maxRecDepth 100000 in
theorem c_X8_sittersOn (G : GT) (l : Launch) (σ : Mem) (P : PT) (t : Nat) (k : Int32) (hpb : PB P) (hPV : pM σ = P) (ht : oT t) : CI G 24 (cM G) l yX8_sittersOn ({ frames := 0, cells := 0, slots := 0, locals := 0 } : Room) cX8_sittersOn 5 (some .int) [.ref (G.1 0), .ref (G.1 t), .int k] σ (fun (r : Int32) u => r = a_sitters P (sM σ t) k ∧ u = σ) := by
  intro sz
  refine xbegin (by decide) (Nat.le_of_ble_eq_true rfl) ?_
  intro p e s m below meth c ls hsz ha hP hl
  subst hsz
  have hx := ha.1
  have hb := ha.2.1
  have hS : va_S (xA G 24 s.heap.size) s.heap s.heap [] := va_S.rf
  have hl : lv_has ls 5 [(0, .ref (G.1 0)), (1, .ref (G.1 t)), (2, .int k)] := hl
  have k_0 : (0 : Int32).toInt = 0 := by decide
  have k_1 : (1 : Int32).toInt = 1 := by decide
  have k_4 : (4 : Int32).toInt = 4 := by decide
  have k_5 : (5 : Int32).toInt = 5 := by decide
  have k_6 : (6 : Int32).toInt = 6 := by decide
  have hPL := PB_pl hpb
  have hPE := PB_pe hpb
  have hp4 := PV_pl hpb hPV
  have hp5 := PV_pe hpb hPV
  refine lv_iconst (v := 0) hx hb dX8_sittersOn_0 (by decide) ?_
  refine lv_istore_n (lv' := [(3, .int 0), (0, .ref (G.1 0)), (1, .ref (G.1 t)), (2, .int k)]) hx hb dX8_sittersOn_1 rfl hl (by decide) rfl (fun ls hl => ?_)
  refine lv_iconst (v := 0) hx hb dX8_sittersOn_2 (by decide) ?_
  refine lv_istore (lv' := [(4, .int 0), (3, .int 0), (0, .ref (G.1 0)), (1, .ref (G.1 t)), (2, .int k)]) hx hb dX8_sittersOn_3 hl (by decide) rfl (fun ls hl => ?_)
  have lp_5 : ∀ (d j : Nat) (x3 : Int32) (H : Heap) (locs : List Loc) (ls : Array Slot), j ≤ (nPe P) → (nPe P) - j < d → x3 = a_bits (fun i => decide (sM σ t 2 i = k)) j → va_P G.2.1 vwCl (wl G 24 (cM G σ)) H → va_S (xA G 24 s.heap.size) s.heap H locs → lv_has ls 5 [(4, .int (nI j)), (3, .int x3), (0, .ref (G.1 0)), (1, .ref (G.1 t)), (2, .int k)] → W p l e ({ frames := 0, cells := 0, slots := 0, locals := 0 } : Room) s m ([.ref (G.1 0), .ref (G.1 t), .int k] : List Value).toArray below meth c H locs 0 0 (MQ below (va_Qi (fun (r : Int32) u => r = a_sitters P (sM σ t) k ∧ u = σ) (xB G 24 (cM G)) (xA G 24 s.heap.size)) ([.ref (G.1 0), .ref (G.1 t), .int k] : List Value).toArray s 0 0 (xA G 24 s.heap.size)) (F0 m 5 ls []) := by
    intro d
    induction d with
    | zero => intro j x3 H locs ls hj hd; exact absurd hd (Nat.not_lt_zero _)
    | succ d ih_5 =>
      intro j x3 H locs ls hj_j hd_j e_x3 hP hS hl
      have h31_j : (nI j).toInt = (j : Int) := nI_toInt (by omega)
      refine lv_iload hx hb dX8_sittersOn_5 (lv_at hl 0 rfl) ?_
      refine lv_aload_n hx hb dX8_sittersOn_7 rfl (lv_at hl 2 rfl) ?_
      refine g8_166 ha hP 0 (by decide) (cM_0 G _) (v := .int (σ 0 5)) rfl dX8_sittersOn_8 ?_
      refine lv_icmp_ge (tgt := 41) hx hb dX8_sittersOn_11 (by decide) (fun c_1 => ?_) (fun c_1 => ?_)
      · have t_1 := i_le c_1
        have u_1 := u_le c_1
        obtain rfl : j = (nPe P) := by omega
        refine lv_iload_n hx hb dX8_sittersOn_41 rfl (lv_at hl 1 rfl) ?_
        exact xiret ha hP hS dX8_sittersOn_42 ⟨by exact e_x3, rfl⟩ rfl
      · have t_1 := i_nle c_1
        have u_1 := u_nle c_1
        have hlt_j : j < (nPe P) := by omega
        refine lv_iload_n hx hb dX8_sittersOn_14 rfl (lv_at hl 1 rfl) ?_
        refine lv_aload_n hx hb dX8_sittersOn_15 rfl (lv_at hl 3 rfl) ?_
        refine lv_iconst (v := 5) hx hb dX8_sittersOn_16 (by decide) ?_
        refine lv_iload hx hb dX8_sittersOn_17 (lv_at hl 0 rfl) ?_
        refine lv_iadd hx hb dX8_sittersOn_19 ?_
        refine xialdN ha hP t (oT_lt0 ht) (sT ht) (5 + j) (nadd (rfl : (5 : Int32) = nI 5) rfl) (by omega) (by decide) dX8_sittersOn_20 ?_
        refine lv_iload_n hx hb dX8_sittersOn_21 rfl (lv_at hl 4 rfl) ?_
        have jn_2 : ∀ x_2 : Int32, x_2 = (if (σ t (5 + j)) = k then ((1 <<< (nI j &&& 31)) : Int32) else (0 : Int32)) → W p l e ({ frames := 0, cells := 0, slots := 0, locals := 0 } : Room) s m ([.ref (G.1 0), .ref (G.1 t), .int k] : List Value).toArray below meth c H locs 0 0 (MQ below (va_Qi (fun (r : Int32) u => r = a_sitters P (sM σ t) k ∧ u = σ) (xB G 24 (cM G)) (xA G 24 s.heap.size)) ([.ref (G.1 0), .ref (G.1 t), .int k] : List Value).toArray s 0 0 (xA G 24 s.heap.size)) (F0 m 33 ls [.int x_2, .int x3]) := by
          intro x_2 ex_2
          refine lv_ior hx hb dX8_sittersOn_33 ?_
          refine lv_istore_n (lv' := [(3, .int (x3 ||| x_2)), (4, .int (nI j)), (0, .ref (G.1 0)), (1, .ref (G.1 t)), (2, .int k)]) hx hb dX8_sittersOn_34 rfl hl (by decide) rfl (fun ls hl => ?_)
          refine lv_iinc (v := (nI (j + 1))) (lv' := [(4, .int (nI (j + 1))), (3, .int (x3 ||| x_2)), (0, .ref (G.1 0)), (1, .ref (G.1 t)), (2, .int k)]) hx hb dX8_sittersOn_35 hl (k := 1) rfl (nI_1 j) (by decide) rfl (fun ls hl => ?_)
          refine lv_goto (tgt := 5) hx hb dX8_sittersOn_38 (by decide) ?_
          exact ih_5 (j + 1) (x3 ||| x_2) _ _ _ (by omega) (by omega) (by rw [a_bits, ← e_x3]; simp [u_1, ex_2, sM]; try (split <;> simp)) hP hS (lv_sub hl [0, 1, 2, 3, 4] rfl)
        refine lv_icmp_ne (tgt := 32) hx hb dX8_sittersOn_22 (by decide) (fun c_2 => ?_) (fun c_2 => ?_)
        · have t_2 := i_ne c_2
          refine lv_iconst (v := 0) hx hb dX8_sittersOn_32 (by decide) ?_
          exact jn_2 _ (if_neg c_2).symm
        · have t_2 := i_eq c_2
          refine lv_iconst (v := 1) hx hb dX8_sittersOn_25 (by decide) ?_
          refine lv_iload hx hb dX8_sittersOn_26 (lv_at hl 0 rfl) ?_
          refine lv_ishl hx hb dX8_sittersOn_28 ?_
          refine lv_goto (tgt := 33) hx hb dX8_sittersOn_29 (by decide) ?_
          exact jn_2 _ (if_pos c_2).symm
  exact lp_5 ((nPe P) - 0 + 1) 0 0 _ _ _ (by omega) (by omega) rfl hP hS (lv_sub hl [0, 1, 2, 3, 4] rfl)
set_option maxHeartbeats 4000000 in
set_option maxRecDepth 100000 in
theorem c_X8_highAll (G : GT) (l : Launch) (σ : Mem) (P : PT) (t : Nat) (hpb : PB P) (hPV : pM σ = P) (ht : oT t) (hsv : SV P σ t) : CI G 24 (cM G) l yX8_highAll ({ frames := 1, cells := 0, slots := 0, locals := 22 } : Room) cX8_highAll 4 (some .int) [.ref (G.1 0), .ref (G.1 t)] σ (fun (r : Int32) u => r = a_highAll P (sM σ t) ∧ u = σ) := by
  intro sz
  refine xbegin (by decide) (Nat.le_of_ble_eq_true rfl) ?_
  intro p e s m below meth c ls hsz ha hP hl
  subst hsz
  have hx := ha.1
  have hb := ha.2.1
  have hS : va_S (xA G 24 s.heap.size) s.heap s.heap [] := va_S.rf
  have hl : lv_has ls 4 [(0, .ref (G.1 0)), (1, .ref (G.1 t))] := hl
  have k_0 : (0 : Int32).toInt = 0 := by decide
  have k_4 : (4 : Int32).toInt = 4 := by decide
  have k_5 : (5 : Int32).toInt = 5 := by decide
  have k_6 : (6 : Int32).toInt = 6 := by decide
  have hPL := PB_pl hpb
  have hPE := PB_pe hpb
  have hp4 := PV_pl hpb hPV
  have hp5 := PV_pe hpb hPV
  refine lv_iconst (v := 0) hx hb dX8_highAll_0 (by decide) ?_
  refine lv_istore_n (lv' := [(2, .int 0), (0, .ref (G.1 0)), (1, .ref (G.1 t))]) hx hb dX8_highAll_1 rfl hl (by decide) rfl (fun ls hl => ?_)
  refine lv_iconst (v := 0) hx hb dX8_highAll_2 (by decide) ?_
  refine lv_istore_n (lv' := [(3, .int 0), (2, .int 0), (0, .ref (G.1 0)), (1, .ref (G.1 t))]) hx hb dX8_highAll_3 rfl hl (by decide) rfl (fun ls hl => ?_)
  have lp_4 : ∀ (d j : Nat) (x2 : Int32) (H : Heap) (locs : List Loc) (ls : Array Slot), j ≤ (nPe P) → (nPe P) - j < d → x2 = a_sum (fun i => a_high P (nI i) (sM σ t 2 i)) j → va_P G.2.1 vwCl (wl G 24 (cM G σ)) H → va_S (xA G 24 s.heap.size) s.heap H locs → lv_has ls 4 [(3, .int (nI j)), (2, .int x2), (0, .ref (G.1 0)), (1, .ref (G.1 t))] → W p l e ({ frames := 1, cells := 0, slots := 0, locals := 22 } : Room) s m ([.ref (G.1 0), .ref (G.1 t)] : List Value).toArray below meth c H locs 0 0 (MQ below (va_Qi (fun (r : Int32) u => r = a_highAll P (sM σ t) ∧ u = σ) (xB G 24 (cM G)) (xA G 24 s.heap.size)) ([.ref (G.1 0), .ref (G.1 t)] : List Value).toArray s 0 0 (xA G 24 s.heap.size)) (F0 m 4 ls []) := by
    intro d
    induction d with
    | zero => intro j x2 H locs ls hj hd; exact absurd hd (Nat.not_lt_zero _)
    | succ d ih_4 =>
      intro j x2 H locs ls hj_j hd_j e_x2 hP hS hl
      have h31_j : (nI j).toInt = (j : Int) := nI_toInt (by omega)
      refine lv_iload_n hx hb dX8_highAll_4 rfl (lv_at hl 0 rfl) ?_
      refine lv_aload_n hx hb dX8_highAll_5 rfl (lv_at hl 2 rfl) ?_
      refine g8_166 ha hP 0 (by decide) (cM_0 G _) (v := .int (σ 0 5)) rfl dX8_highAll_6 ?_
      refine lv_icmp_ge (tgt := 31) hx hb dX8_highAll_9 (by decide) (fun c_1 => ?_) (fun c_1 => ?_)
      · have t_1 := i_le c_1
        have u_1 := u_le c_1
        obtain rfl : j = (nPe P) := by omega
        refine lv_iload_n hx hb dX8_highAll_31 rfl (lv_at hl 1 rfl) ?_
        exact xiret ha hP hS dX8_highAll_32 ⟨by exact e_x2, rfl⟩ rfl
      · have t_1 := i_nle c_1
        have u_1 := u_nle c_1
        have hlt_j : j < (nPe P) := by omega
        have hone := one_nI hpb (show j < nPe P by omega)
        have hsj := hsv j hlt_j
        refine lv_iload_n hx hb dX8_highAll_12 rfl (lv_at hl 1 rfl) ?_
        refine lv_aload_n hx hb dX8_highAll_13 rfl (lv_at hl 2 rfl) ?_
        refine lv_iload_n hx hb dX8_highAll_14 rfl (lv_at hl 0 rfl) ?_
        refine lv_aload_n hx hb dX8_highAll_15 rfl (lv_at hl 3 rfl) ?_
        refine lv_iconst (v := 5) hx hb dX8_highAll_16 (by decide) ?_
        refine lv_iload_n hx hb dX8_highAll_17 rfl (lv_at hl 0 rfl) ?_
        refine lv_iadd hx hb dX8_highAll_18 ?_
        refine xialdN ha hP t (oT_lt0 ht) (sT ht) (5 + j) (nadd (rfl : (5 : Int32) = nI 5) rfl) (by omega) (by decide) dX8_highAll_19 ?_
        refine xVi ha hP hS (y := yX8_highOn) (As := [.int (nI j), .int (σ t (5 + j))]) (rest := [.int x2]) 0 (by decide) (cM_0 G _) rfl rfl (c_X8_highOn G l σ P (nI j) (σ t (5 + j)) hpb hPV hone hsj) kw_X8_177 hd_X8_highOn rfl ⟨rfl, rfl⟩ ⟨Nat.le_of_ble_eq_true rfl, Nat.le_of_ble_eq_true rfl⟩ ⟨Nat.zero_le _, Nat.zero_le _⟩ hl.1 (Nat.le_of_ble_eq_true rfl) rfl dX8_highAll_20 (fun r u H locs hpq hP hS => ?_)
        obtain ⟨hr_, hu_⟩ := hpq
        have hr_ := hr_.symm
        have hu_ := hu_.symm
        subst hr_
        subst hu_
        refine lv_iadd hx hb dX8_highAll_23 ?_
        refine lv_istore_n (lv' := [(2, .int (x2 + (a_high P (nI j) (σ t (5 + j))))), (3, .int (nI j)), (0, .ref (G.1 0)), (1, .ref (G.1 t))]) hx hb dX8_highAll_24 rfl hl (by decide) rfl (fun ls hl => ?_)
        refine lv_iinc (v := (nI (j + 1))) (lv' := [(3, .int (nI (j + 1))), (2, .int (x2 + (a_high P (nI j) (σ t (5 + j))))), (0, .ref (G.1 0)), (1, .ref (G.1 t))]) hx hb dX8_highAll_25 hl (k := 1) rfl (nI_1 j) (by decide) rfl (fun ls hl => ?_)
        refine lv_goto (tgt := 4) hx hb dX8_highAll_28 (by decide) ?_
        exact ih_4 (j + 1) (x2 + (a_high P (nI j) (σ t (5 + j)))) _ _ _ (by omega) (by omega) (by rw [a_sum, ← e_x2]; rfl) hP hS (lv_sub hl [0, 1, 2, 3] rfl)
  exact lp_4 ((nPe P) - 0 + 1) 0 0 _ _ _ (by omega) (by omega) rfl hP hS (lv_sub hl [0, 1, 2, 3] rfl)
set_option maxHeartbeats 4000000 in
set_option maxRecDepth 100000 in
theorem c_X8_yearGoes (G : GT) (l : Launch) (σ : Mem) (P : PT) (t : Nat) (hpb : PB P) (hPV : pM σ = P) (ht : oT t) : CI G 24 (cM G) l yX8_yearGoes ({ frames := 4, cells := 0, slots := 0, locals := 93 } : Room) cX8_yearGoes 5 (some .int) [.ref (G.1 0), .ref (G.1 t)] σ (fun (r : Int32) u => r = y_gave P (sM σ t) ∧ u = w_year P σ t) := by
  intro sz
  refine xbegin (by decide) (Nat.le_of_ble_eq_true rfl) ?_
  intro p e s m below meth c ls hsz ha hP hl
  subst hsz
  have hx := ha.1
  have hb := ha.2.1
  have hS : va_S (xA G 24 s.heap.size) s.heap s.heap [] := va_S.rf
  have hl : lv_has ls 5 [(0, .ref (G.1 0)), (1, .ref (G.1 t))] := hl
  have k_m9 : (-9 : Int32).toInt = -9 := by decide
  have k_0 : (0 : Int32).toInt = 0 := by decide
  have k_1 : (1 : Int32).toInt = 1 := by decide
  have k_2 : (2 : Int32).toInt = 2 := by decide
  have k_4 : (4 : Int32).toInt = 4 := by decide
  have k_5 : (5 : Int32).toInt = 5 := by decide
  have k_6 : (6 : Int32).toInt = 6 := by decide
  have k_10 : (10 : Int32).toInt = 10 := by decide
  have k_20 : (20 : Int32).toInt = 20 := by decide
  have hPL := PB_pl hpb
  have hPE := PB_pe hpb
  have hp4 := PV_pl hpb hPV
  have hp5 := PV_pe hpb hPV
  refine lv_iconst (v := 0) hx hb dX8_yearGoes_0 (by decide) ?_
  refine lv_istore_n (lv' := [(2, .int 0), (0, .ref (G.1 0)), (1, .ref (G.1 t))]) hx hb dX8_yearGoes_1 rfl hl (by decide) rfl (fun ls hl => ?_)
  refine lv_iconst (v := 0) hx hb dX8_yearGoes_2 (by decide) ?_
  refine lv_istore_n (lv' := [(3, .int 0), (2, .int 0), (0, .ref (G.1 0)), (1, .ref (G.1 t))]) hx hb dX8_yearGoes_3 rfl hl (by decide) rfl (fun ls hl => ?_)
  have lp_4 : ∀ (d j : Nat) (x2 : Int32) (H : Heap) (locs : List Loc) (ls : Array Slot), j ≤ (nPl P) → (nPl P) - j < d → x2 = a_bits (y_gives P (sM σ t)) j → va_P G.2.1 vwCl (wl G 24 (cM G σ)) H → va_S (xA G 24 s.heap.size) s.heap H locs → lv_has ls 5 [(3, .int (nI j)), (2, .int x2), (0, .ref (G.1 0)), (1, .ref (G.1 t))] → W p l e ({ frames := 4, cells := 0, slots := 0, locals := 93 } : Room) s m ([.ref (G.1 0), .ref (G.1 t)] : List Value).toArray below meth c H locs 0 0 (MQ below (va_Qi (fun (r : Int32) u => r = y_gave P (sM σ t) ∧ u = w_year P σ t) (xB G 24 (cM G)) (xA G 24 s.heap.size)) ([.ref (G.1 0), .ref (G.1 t)] : List Value).toArray s 0 0 (xA G 24 s.heap.size)) (F0 m 4 ls []) := by
    intro d
    induction d with
    | zero => intro j x2 H locs ls hj hd; exact absurd hd (Nat.not_lt_zero _)
    | succ d ih_4 =>
      intro j x2 H locs ls hj_j hd_j e_x2 hP hS hl
      have h31_j : (nI j).toInt = (j : Int) := nI_toInt (by omega)
      refine lv_iload_n hx hb dX8_yearGoes_4 rfl (lv_at hl 0 rfl) ?_
      refine lv_aload_n hx hb dX8_yearGoes_5 rfl (lv_at hl 2 rfl) ?_
      refine g8_163 ha hP 0 (by decide) (cM_0 G _) (v := .int (σ 0 4)) rfl dX8_yearGoes_6 ?_
      refine lv_icmp_ge (tgt := 45) hx hb dX8_yearGoes_9 (by decide) (fun c_1 => ?_) (fun c_1 => ?_)
      · have t_1 := i_le c_1
        have u_1 := u_le c_1
        obtain rfl : j = (nPl P) := by omega
        have hg : y_gave P (sM σ t) = x2 := e_x2.symm
        refine lv_iconst (v := 0) hx hb dX8_yearGoes_45 (by decide) ?_
        refine lv_istore_n (lv' := [(3, .int 0), (2, .int x2), (0, .ref (G.1 0)), (1, .ref (G.1 t))]) hx hb dX8_yearGoes_46 rfl hl (by decide) rfl (fun ls hl => ?_)
        have lp_47 : ∀ (d j1 : Nat) (τj : Mem) (H : Heap) (locs : List Loc) (ls : Array Slot), j1 ≤ (nPl P) → (nPl P) - j1 < d → τj = w_wear P σ t j1 → (pM τj = P) → va_P G.2.1 vwCl (wl G 24 (cM G τj)) H → va_S (xA G 24 s.heap.size) s.heap H locs → lv_has ls 5 [(3, .int (nI j1)), (2, .int x2), (0, .ref (G.1 0)), (1, .ref (G.1 t))] → W p l e ({ frames := 4, cells := 0, slots := 0, locals := 93 } : Room) s m ([.ref (G.1 0), .ref (G.1 t)] : List Value).toArray below meth c H locs 0 0 (MQ below (va_Qi (fun (r : Int32) u => r = y_gave P (sM σ t) ∧ u = w_year P σ t) (xB G 24 (cM G)) (xA G 24 s.heap.size)) ([.ref (G.1 0), .ref (G.1 t)] : List Value).toArray s 0 0 (xA G 24 s.heap.size)) (F0 m 47 ls []) := by
          intro d
          induction d with
          | zero => intro j1 τj H locs ls hj hd; exact absurd hd (Nat.not_lt_zero _)
          | succ d ih_47 =>
            intro j1 τj H locs ls hj_j1 hd_j1 e_τj hPj hP hS hl
            have h31_j1 : (nI j1).toInt = (j1 : Int) := nI_toInt (by omega)
            have hw4 := PV_pl hpb hPj
            have hu : ∀ k, a_isUp P (sM τj t) k = a_isUp P (sM σ t) k := fun k => a_isUp_c (by show τj t 4 = σ t 4; rw [e_τj, w_wear, mF_e, if_pos rfl, if_neg (by omega)])
            have hs : ∀ k, a_sitters P (sM τj t) k = a_sitters P (sM σ t) k := fun k => by unfold a_sitters; congr 1; funext i; rw [show sM τj t 2 i = sM σ t 2 i from by show τj t (5 + i) = σ t (5 + i); rw [e_τj, w_wear, mF_e, if_pos rfl, if_neg (by omega)]]
            have hq4 : τj t (0 + j1) = σ t j1 := by rw [Nat.zero_add, e_τj, w_wear, mF_at]
            have hs1 : sM σ t 1 j1 = σ t j1 := rfl
            refine lv_iload_n hx hb dX8_yearGoes_47 rfl (lv_at hl 0 rfl) ?_
            refine lv_aload_n hx hb dX8_yearGoes_48 rfl (lv_at hl 2 rfl) ?_
            refine g8_163 ha hP 0 (by decide) (cM_0 G _) (v := .int (τj 0 4)) rfl dX8_yearGoes_49 ?_
            refine lv_icmp_ge (tgt := 118) hx hb dX8_yearGoes_52 (by decide) (fun c_2 => ?_) (fun c_2 => ?_)
            · have t_2 := i_le c_2
              have u_2 := u_le c_2
              obtain rfl : j1 = (nPl P) := by omega
              refine lv_iconst (v := 0) hx hb dX8_yearGoes_118 (by decide) ?_
              refine lv_istore_n (lv' := [(3, .int 0), (2, .int x2), (0, .ref (G.1 0)), (1, .ref (G.1 t))]) hx hb dX8_yearGoes_119 rfl hl (by decide) rfl (fun ls hl => ?_)
              have lp_120 : ∀ (d j2 : Nat) (μj : Mem) (H : Heap) (locs : List Loc) (ls : Array Slot), j2 ≤ (nPe P) → (nPe P) - j2 < d → μj = w_seat P σ t j2 → (pM μj = P) → va_P G.2.1 vwCl (wl G 24 (cM G μj)) H → va_S (xA G 24 s.heap.size) s.heap H locs → lv_has ls 5 [(3, .int (nI j2)), (2, .int x2), (0, .ref (G.1 0)), (1, .ref (G.1 t))] → W p l e ({ frames := 4, cells := 0, slots := 0, locals := 93 } : Room) s m ([.ref (G.1 0), .ref (G.1 t)] : List Value).toArray below meth c H locs 0 0 (MQ below (va_Qi (fun (r : Int32) u => r = y_gave P (sM σ t) ∧ u = w_year P σ t) (xB G 24 (cM G)) (xA G 24 s.heap.size)) ([.ref (G.1 0), .ref (G.1 t)] : List Value).toArray s 0 0 (xA G 24 s.heap.size)) (F0 m 120 ls []) := by
                intro d
                induction d with
                | zero => intro j2 μj H locs ls hj hd; exact absurd hd (Nat.not_lt_zero _)
                | succ d ih_120 =>
                  intro j2 μj H locs ls hj_j2 hd_j2 e_μj hPk hP hS hl
                  have h31_j2 : (nI j2).toInt = (j2 : Int) := nI_toInt (by omega)
                  have hw5 := PV_pe hpb hPk
                  have hq5 : μj t (5 + j2) = σ t (5 + j2) := by rw [e_μj, w_seat, mG_at, w_wear, mF_e, if_pos rfl, if_neg (by omega)]
                  refine lv_iload_n hx hb dX8_yearGoes_120 rfl (lv_at hl 0 rfl) ?_
                  refine lv_aload_n hx hb dX8_yearGoes_121 rfl (lv_at hl 2 rfl) ?_
                  refine g8_166 ha hP 0 (by decide) (cM_0 G _) (v := .int (μj 0 5)) rfl dX8_yearGoes_122 ?_
                  refine lv_icmp_ge (tgt := 171) hx hb dX8_yearGoes_125 (by decide) (fun c_3 => ?_) (fun c_3 => ?_)
                  · have t_3 := i_le c_3
                    have u_3 := u_le c_3
                    obtain rfl : j2 = (nPe P) := by omega
                    refine lv_aload_n hx hb dX8_yearGoes_171 rfl (lv_at hl 3 rfl) ?_
                    refine lv_iconst (v := 4) hx hb dX8_yearGoes_172 (by decide) ?_
                    refine lv_dup2_11 hx hb dX8_yearGoes_173 rfl rfl ?_
                    refine xialdN ha hP t (oT_lt0 ht) (sT ht) 4 (by decide) (by decide) (by decide) dX8_yearGoes_174 ?_
                    refine lv_iload_n hx hb dX8_yearGoes_175 rfl (lv_at hl 1 rfl) ?_
                    refine lv_ior hx hb dX8_yearGoes_176 ?_
                    refine xiastN ha hP hS (cM_loc G) t (oT_lt0 ht) (fun τ => sT ht) 4 (by decide) (by decide) (by decide) dX8_yearGoes_177 (fun H locs hP hS => ?_)
                    refine lv_aload_n hx hb dX8_yearGoes_178 rfl (lv_at hl 3 rfl) ?_
                    refine lv_bipush (v := 10) hx hb dX8_yearGoes_179 (by decide) ?_
                    refine lv_dup2_11 hx hb dX8_yearGoes_181 rfl rfl ?_
                    refine xialdN ha hP t (oT_lt0 ht) (sT ht) 10 (by decide) (by decide) (by decide) dX8_yearGoes_182 ?_
                    refine lv_iconst (v := 1) hx hb dX8_yearGoes_183 (by decide) ?_
                    refine lv_iadd hx hb dX8_yearGoes_184 ?_
                    refine xiastN ha hP hS (cM_loc G) t (oT_lt0 ht) (fun τ => sT ht) 10 (by decide) (by decide) (by decide) dX8_yearGoes_185 (fun H locs hP hS => ?_)
                    refine lv_iload_n hx hb dX8_yearGoes_186 rfl (lv_at hl 1 rfl) ?_
                    exact xiret ha hP hS dX8_yearGoes_187 ⟨by exact hg.symm, (by rw [w_year, hg, e_μj]; simp [mU_e, w_seat_4 P σ t (nPe P) hPL.2.1, w_seat_10 P σ t (nPe P) hPL.2.1 hPE.2.1])⟩ rfl
                  · have t_3 := i_nle c_3
                    have u_3 := u_nle c_3
                    have hlt_j2 : j2 < (nPe P) := by omega
                    have hone := one_nI hpb hlt_j2
                    have hse : a_isSeated P (sM σ t) (nI j2) = !decide (μj t (5 + j2) = -9) := by unfold a_isSeated; rw [hone, ix_of (by omega), Bool.true_and]; show (!decide (σ t (5 + j2) = -9)) = _; rw [hq5]
                    refine lv_aload_n hx hb dX8_yearGoes_128 rfl (lv_at hl 3 rfl) ?_
                    refine lv_iconst (v := 5) hx hb dX8_yearGoes_129 (by decide) ?_
                    refine lv_iload_n hx hb dX8_yearGoes_130 rfl (lv_at hl 0 rfl) ?_
                    refine lv_iadd hx hb dX8_yearGoes_131 ?_
                    refine lv_aload_n hx hb dX8_yearGoes_132 rfl (lv_at hl 3 rfl) ?_
                    refine lv_iconst (v := 5) hx hb dX8_yearGoes_133 (by decide) ?_
                    refine lv_iload_n hx hb dX8_yearGoes_134 rfl (lv_at hl 0 rfl) ?_
                    refine lv_iadd hx hb dX8_yearGoes_135 ?_
                    refine xialdN ha hP t (oT_lt0 ht) (sT ht) (5 + j2) (nadd (rfl : (5 : Int32) = nI 5) rfl) (by omega) (by decide) dX8_yearGoes_136 ?_
                    refine lv_bipush (v := (-9)) hx hb dX8_yearGoes_137 (by decide) ?_
                    refine lv_icmp_eq (tgt := 159) hx hb dX8_yearGoes_139 (by decide) (fun c_4 => ?_) (fun c_4 => ?_)
                    · have t_4 := i_eq c_4
                      refine lv_aload_n hx hb dX8_yearGoes_159 rfl (lv_at hl 3 rfl) ?_
                      refine lv_iconst (v := 5) hx hb dX8_yearGoes_160 (by decide) ?_
                      refine lv_iload_n hx hb dX8_yearGoes_161 rfl (lv_at hl 0 rfl) ?_
                      refine lv_iadd hx hb dX8_yearGoes_162 ?_
                      refine xialdN ha hP t (oT_lt0 ht) (sT ht) (5 + j2) (nadd (rfl : (5 : Int32) = nI 5) rfl) (by omega) (by decide) dX8_yearGoes_163 ?_
                      refine xiastN ha hP hS (cM_loc G) t (oT_lt0 ht) (fun τ => sT ht) (5 + j2) (nadd (rfl : (5 : Int32) = nI 5) rfl) (by omega) (by decide) dX8_yearGoes_164 (fun H locs hP hS => ?_)
                      refine lv_iinc (v := (nI (j2 + 1))) (lv' := [(3, .int (nI (j2 + 1))), (2, .int x2), (0, .ref (G.1 0)), (1, .ref (G.1 t))]) hx hb dX8_yearGoes_165 hl (k := 0) rfl (nI_1 j2) (by decide) rfl (fun ls hl => ?_)
                      refine lv_goto (tgt := 120) hx hb dX8_yearGoes_168 (by decide) ?_
                      exact ih_120 (j2 + 1) (mU μj t (5 + j2) (μj t (5 + j2))) _ _ _ (by omega) (by omega) (by refine (congrArg (fun z => mU z t (5 + j2) _) e_μj).trans (seat_s ?_); rw [yseat_b, hse, show sM σ t 2 j2 = μj t (5 + j2) from hq5.symm, hg]; simp [u_1, u_2, u_3, c_4]) ((pM_mU _ _ _ (by unfold oT at ht; omega)).trans hPk) hP hS (lv_sub hl [0, 1, 2, 3] rfl)
                    · have t_4 := i_ne c_4
                      refine lv_iload_n hx hb dX8_yearGoes_142 rfl (lv_at hl 1 rfl) ?_
                      refine lv_aload_n hx hb dX8_yearGoes_143 rfl (lv_at hl 3 rfl) ?_
                      refine lv_iconst (v := 5) hx hb dX8_yearGoes_144 (by decide) ?_
                      refine lv_iload_n hx hb dX8_yearGoes_145 rfl (lv_at hl 0 rfl) ?_
                      refine lv_iadd hx hb dX8_yearGoes_146 ?_
                      refine xialdN ha hP t (oT_lt0 ht) (sT ht) (5 + j2) (nadd (rfl : (5 : Int32) = nI 5) rfl) (by omega) (by decide) dX8_yearGoes_147 ?_
                      refine xSi ha hP hS (y := yX8_has) (As := [.int x2, .int (μj t (5 + j2))]) (rest := [.int (5 + nI j2), .ref (G.1 t)]) rfl (c_X8_has G l μj x2 (μj t (5 + j2)) ) kw_X8_181 hd_X8_has rfl ⟨rfl, rfl⟩ ⟨Nat.le_of_ble_eq_true rfl, Nat.le_of_ble_eq_true rfl⟩ ⟨Nat.zero_le _, Nat.zero_le _⟩ hl.1 (Nat.le_of_ble_eq_true rfl) rfl dX8_yearGoes_148 (fun r u H locs hpq hP hS => ?_)
                      obtain ⟨hr_, hu_⟩ := hpq
                      have hr_ := hr_.symm
                      have hu_ := hu_.symm
                      subst hr_
                      subst hu_
                      have jn_5 : ∀ x_5 : Int32, x_5 = (if (b_has x2 (μj t (5 + j2))) = true then (-9) else (μj t (5 + j2))) → W p l e ({ frames := 4, cells := 0, slots := 0, locals := 93 } : Room) s m ([.ref (G.1 0), .ref (G.1 t)] : List Value).toArray below meth c H locs 0 0 (MQ below (va_Qi (fun (r : Int32) u => r = y_gave P (sM σ t) ∧ u = w_year P σ t) (xB G 24 (cM G)) (xA G 24 s.heap.size)) ([.ref (G.1 0), .ref (G.1 t)] : List Value).toArray s 0 0 (xA G 24 s.heap.size)) (F0 m 164 ls [.int x_5, .int (5 + nI j2), .ref (G.1 t)]) := by
                        intro x_5 ex_5
                        refine xiastN ha hP hS (cM_loc G) t (oT_lt0 ht) (fun τ => sT ht) (5 + j2) (nadd (rfl : (5 : Int32) = nI 5) rfl) (by omega) (by decide) dX8_yearGoes_164 (fun H locs hP hS => ?_)
                        refine lv_iinc (v := (nI (j2 + 1))) (lv' := [(3, .int (nI (j2 + 1))), (2, .int x2), (0, .ref (G.1 0)), (1, .ref (G.1 t))]) hx hb dX8_yearGoes_165 hl (k := 0) rfl (nI_1 j2) (by decide) rfl (fun ls hl => ?_)
                        refine lv_goto (tgt := 120) hx hb dX8_yearGoes_168 (by decide) ?_
                        exact ih_120 (j2 + 1) (mU μj t (5 + j2) x_5) _ _ _ (by omega) (by omega) (by refine (congrArg (fun z => mU z t (5 + j2) _) e_μj).trans (seat_s ?_); rw [yseat_b, hse, show sM σ t 2 j2 = μj t (5 + j2) from hq5.symm, hg]; simp [u_1, u_2, u_3, c_4, ex_5]) ((pM_mU _ _ _ (by unfold oT at ht; omega)).trans hPk) hP hS (lv_sub hl [0, 1, 2, 3] rfl)
                      refine lv_if_eq (tgt := 159) hx hb dX8_yearGoes_151 (by decide) (fun c_5 => ?_) (fun c_5 => ?_)
                      · have t_5 := b2i_f c_5
                        refine lv_aload_n hx hb dX8_yearGoes_159 rfl (lv_at hl 3 rfl) ?_
                        refine lv_iconst (v := 5) hx hb dX8_yearGoes_160 (by decide) ?_
                        refine lv_iload_n hx hb dX8_yearGoes_161 rfl (lv_at hl 0 rfl) ?_
                        refine lv_iadd hx hb dX8_yearGoes_162 ?_
                        refine xialdN ha hP t (oT_lt0 ht) (sT ht) (5 + j2) (nadd (rfl : (5 : Int32) = nI 5) rfl) (by omega) (by decide) dX8_yearGoes_163 ?_
                        exact jn_5 _ (if_neg (Bool.eq_false_iff.mp t_5)).symm
                      · have t_5 := b2i_t c_5
                        refine lv_bipush (v := (-9)) hx hb dX8_yearGoes_154 (by decide) ?_
                        refine lv_goto (tgt := 164) hx hb dX8_yearGoes_156 (by decide) ?_
                        exact jn_5 _ (if_pos t_5).symm
              exact lp_120 ((nPe P) - 0 + 1) 0 τj _ _ _ (by omega) (by omega) (by rw [e_τj]; exact mG_0 _ _ _ _) hPj hP hS (lv_sub hl [0, 1, 2, 3] rfl)
            · have t_2 := i_nle c_2
              have u_2 := u_nle c_2
              have hlt_j1 : j1 < (nPl P) := by omega
              have hpo1 := pole_nI hpb hlt_j1
              refine lv_aload_n hx hb dX8_yearGoes_55 rfl (lv_at hl 3 rfl) ?_
              refine lv_iload_n hx hb dX8_yearGoes_56 rfl (lv_at hl 0 rfl) ?_
              refine xSi ha hP hS (y := yX8_isUp) (As := [.ref (G.1 t), .int (nI j1)]) (rest := []) rfl (c_X8_isUp G l τj P t (nI j1) hpb hPj ht (by first | assumption | omega)) kw_X8_192 hd_X8_isUp rfl ⟨rfl, rfl⟩ ⟨Nat.le_of_ble_eq_true rfl, Nat.le_of_ble_eq_true rfl⟩ ⟨Nat.zero_le _, Nat.zero_le _⟩ hl.1 (Nat.le_of_ble_eq_true rfl) rfl dX8_yearGoes_57 (fun r u H locs hpq hP hS => ?_)
              obtain ⟨hr_, hu_⟩ := hpq
              have hr_ := hr_.symm
              have hu_ := hu_.symm
              subst hr_
              subst hu_
              refine lv_if_eq (tgt := 112) hx hb dX8_yearGoes_60 (by decide) (fun c_6 => ?_) (fun c_6 => ?_)
              · have t_6 := b2i_f c_6
                refine lv_iinc (v := (nI (j1 + 1))) (lv' := [(3, .int (nI (j1 + 1))), (2, .int x2), (0, .ref (G.1 0)), (1, .ref (G.1 t))]) hx hb dX8_yearGoes_112 hl (k := 0) rfl (nI_1 j1) (by decide) rfl (fun ls hl => ?_)
                refine lv_goto (tgt := 47) hx hb dX8_yearGoes_115 (by decide) ?_
                exact ih_47 (j1 + 1) τj _ _ _ (by omega) (by omega) (by rw [e_τj]; (try simp only [Nat.zero_add]); first | exact wear_k (by simp [b_wear, hg, ← hu, hs1, u_1, u_2, t_6]) | exact wear_s (by simp [b_wear, b_cap, hg, ← hu, ← hs, hs1, hq4, ← hq4, u_1, u_2, t_6, i_leN, -Int32.not_lt])) hPj hP hS (lv_sub hl [0, 1, 2, 3] rfl)
              · have t_6 := b2i_t c_6
                refine lv_iload_n hx hb dX8_yearGoes_63 rfl (lv_at hl 1 rfl) ?_
                refine lv_iload_n hx hb dX8_yearGoes_64 rfl (lv_at hl 0 rfl) ?_
                refine xSi ha hP hS (y := yX8_has) (As := [.int x2, .int (nI j1)]) (rest := []) rfl (c_X8_has G l τj x2 (nI j1) ) kw_X8_181 hd_X8_has rfl ⟨rfl, rfl⟩ ⟨Nat.le_of_ble_eq_true rfl, Nat.le_of_ble_eq_true rfl⟩ ⟨Nat.zero_le _, Nat.zero_le _⟩ hl.1 (Nat.le_of_ble_eq_true rfl) rfl dX8_yearGoes_65 (fun r u H locs hpq hP hS => ?_)
                obtain ⟨hr_, hu_⟩ := hpq
                have hr_ := hr_.symm
                have hu_ := hu_.symm
                subst hr_
                subst hu_
                refine lv_if_ne (tgt := 112) hx hb dX8_yearGoes_68 (by decide) (fun c_7 => ?_) (fun c_7 => ?_)
                · have t_7 := b2i_t c_7
                  refine lv_iinc (v := (nI (j1 + 1))) (lv' := [(3, .int (nI (j1 + 1))), (2, .int x2), (0, .ref (G.1 0)), (1, .ref (G.1 t))]) hx hb dX8_yearGoes_112 hl (k := 0) rfl (nI_1 j1) (by decide) rfl (fun ls hl => ?_)
                  refine lv_goto (tgt := 47) hx hb dX8_yearGoes_115 (by decide) ?_
                  exact ih_47 (j1 + 1) τj _ _ _ (by omega) (by omega) (by rw [e_τj]; (try simp only [Nat.zero_add]); first | exact wear_k (by simp [b_wear, hg, ← hu, hs1, u_1, u_2, t_6, t_7]) | exact wear_s (by simp [b_wear, b_cap, hg, ← hu, ← hs, hs1, hq4, ← hq4, u_1, u_2, t_6, t_7, i_leN, -Int32.not_lt])) hPj hP hS (lv_sub hl [0, 1, 2, 3] rfl)
                · have t_7 := b2i_f c_7
                  refine lv_aload_n hx hb dX8_yearGoes_71 rfl (lv_at hl 3 rfl) ?_
                  refine lv_iconst (v := 0) hx hb dX8_yearGoes_72 (by decide) ?_
                  refine lv_iload_n hx hb dX8_yearGoes_73 rfl (lv_at hl 0 rfl) ?_
                  refine lv_iadd hx hb dX8_yearGoes_74 ?_
                  refine xialdN ha hP t (oT_lt0 ht) (sT ht) (0 + j1) (nadd (rfl : (0 : Int32) = nI 0) rfl) (by omega) (by decide) dX8_yearGoes_75 ?_
                  refine lv_aload_n hx hb dX8_yearGoes_76 rfl (lv_at hl 2 rfl) ?_
                  refine lv_aload_n hx hb dX8_yearGoes_77 rfl (lv_at hl 3 rfl) ?_
                  refine lv_iload_n hx hb dX8_yearGoes_78 rfl (lv_at hl 0 rfl) ?_
                  refine xVi ha hP hS (y := yX8_sittersOn) (As := [.ref (G.1 t), .int (nI j1)]) (rest := [.int (τj t (0 + j1))]) 0 (by decide) (cM_0 G _) rfl rfl (c_X8_sittersOn G l τj P t (nI j1) hpb hPj ht) kw_X8_199 hd_X8_sittersOn rfl ⟨rfl, rfl⟩ ⟨Nat.le_of_ble_eq_true rfl, Nat.le_of_ble_eq_true rfl⟩ ⟨Nat.zero_le _, Nat.zero_le _⟩ hl.1 (Nat.le_of_ble_eq_true rfl) rfl dX8_yearGoes_79 (fun r u H locs hpq hP hS => ?_)
                  obtain ⟨hr_, hu_⟩ := hpq
                  have hr_ := hr_.symm
                  have hu_ := hu_.symm
                  subst hr_
                  subst hu_
                  have jn_8 : ∀ x_8 : Int32, x_8 = (if (a_sitters P (sM τj t) (nI j1)) = 0 then 1 else 2) → W p l e ({ frames := 4, cells := 0, slots := 0, locals := 93 } : Room) s m ([.ref (G.1 0), .ref (G.1 t)] : List Value).toArray below meth c H locs 0 0 (MQ below (va_Qi (fun (r : Int32) u => r = y_gave P (sM σ t) ∧ u = w_year P σ t) (xB G 24 (cM G)) (xA G 24 s.heap.size)) ([.ref (G.1 0), .ref (G.1 t)] : List Value).toArray s 0 0 (xA G 24 s.heap.size)) (F0 m 90 ls [.int x_8, .int (τj t (0 + j1))]) := by
                    intro x_8 ex_8
                    refine lv_iadd hx hb dX8_yearGoes_90 ?_
                    refine lv_istore (lv' := [(4, .int ((τj t (0 + j1)) + x_8)), (3, .int (nI j1)), (2, .int x2), (0, .ref (G.1 0)), (1, .ref (G.1 t))]) hx hb dX8_yearGoes_91 hl (by decide) rfl (fun ls hl => ?_)
                    refine lv_aload_n hx hb dX8_yearGoes_93 rfl (lv_at hl 4 rfl) ?_
                    refine lv_iconst (v := 0) hx hb dX8_yearGoes_94 (by decide) ?_
                    refine lv_iload_n hx hb dX8_yearGoes_95 rfl (lv_at hl 1 rfl) ?_
                    refine lv_iadd hx hb dX8_yearGoes_96 ?_
                    refine lv_iload hx hb dX8_yearGoes_97 (lv_at hl 0 rfl) ?_
                    refine lv_bipush (v := 20) hx hb dX8_yearGoes_99 (by decide) ?_
                    have jn_9 : ∀ x_9 : Int32, x_9 = (if 20 < ((τj t (0 + j1)) + x_8) then 20 else ((τj t (0 + j1)) + x_8)) → W p l e ({ frames := 4, cells := 0, slots := 0, locals := 93 } : Room) s m ([.ref (G.1 0), .ref (G.1 t)] : List Value).toArray below meth c H locs 0 0 (MQ below (va_Qi (fun (r : Int32) u => r = y_gave P (sM σ t) ∧ u = w_year P σ t) (xB G 24 (cM G)) (xA G 24 s.heap.size)) ([.ref (G.1 0), .ref (G.1 t)] : List Value).toArray s 0 0 (xA G 24 s.heap.size)) (F0 m 111 ls [.int x_9, .int (0 + nI j1), .ref (G.1 t)]) := by
                      intro x_9 ex_9
                      refine xiastN ha hP hS (cM_loc G) t (oT_lt0 ht) (fun τ => sT ht) (0 + j1) (nadd (rfl : (0 : Int32) = nI 0) rfl) (by omega) (by decide) dX8_yearGoes_111 (fun H locs hP hS => ?_)
                      refine lv_iinc (v := (nI (j1 + 1))) (lv' := [(3, .int (nI (j1 + 1))), (4, .int ((τj t (0 + j1)) + x_8)), (2, .int x2), (0, .ref (G.1 0)), (1, .ref (G.1 t))]) hx hb dX8_yearGoes_112 hl (k := 1) rfl (nI_1 j1) (by decide) rfl (fun ls hl => ?_)
                      refine lv_goto (tgt := 47) hx hb dX8_yearGoes_115 (by decide) ?_
                      exact ih_47 (j1 + 1) (mU τj t (0 + j1) x_9) _ _ _ (by omega) (by omega) (by rw [e_τj]; (try simp only [Nat.zero_add]); first | exact wear_k (by simp [b_wear, hg, ← hu, hs1, u_1, u_2, t_6, t_7, ex_8, ex_9]) | exact wear_s (by simp [b_wear, b_cap, hg, ← hu, ← hs, hs1, hq4, ← hq4, u_1, u_2, t_6, t_7, ex_8, ex_9, i_leN, -Int32.not_lt])) ((pM_mU _ _ _ (by unfold oT at ht; omega)).trans hPj) hP hS (lv_sub hl [0, 2, 3, 4] rfl)
                    refine lv_icmp_le (tgt := 109) hx hb dX8_yearGoes_101 (by decide) (fun c_9 => ?_) (fun c_9 => ?_)
                    · have t_9 := i_le c_9
                      refine lv_iload hx hb dX8_yearGoes_109 (lv_at hl 0 rfl) ?_
                      exact jn_9 _ (if_neg (u_le c_9)).symm
                    · have t_9 := i_nle c_9
                      refine lv_bipush (v := 20) hx hb dX8_yearGoes_104 (by decide) ?_
                      refine lv_goto (tgt := 111) hx hb dX8_yearGoes_106 (by decide) ?_
                      exact jn_9 _ (if_pos (u_nle c_9)).symm
                  refine lv_if_ne (tgt := 89) hx hb dX8_yearGoes_82 (by decide) (fun c_8 => ?_) (fun c_8 => ?_)
                  · have t_8 := i_ne c_8
                    refine lv_iconst (v := 2) hx hb dX8_yearGoes_89 (by decide) ?_
                    exact jn_8 _ (if_neg c_8).symm
                  · have t_8 := i_eq c_8
                    refine lv_iconst (v := 1) hx hb dX8_yearGoes_85 (by decide) ?_
                    refine lv_goto (tgt := 90) hx hb dX8_yearGoes_86 (by decide) ?_
                    exact jn_8 _ (if_pos c_8).symm
        exact lp_47 ((nPl P) - 0 + 1) 0 σ _ _ _ (by omega) (by omega) (mF_0 _ _ _) hPV hP hS (lv_sub hl [0, 1, 2, 3] rfl)
      · have t_1 := i_nle c_1
        have u_1 := u_nle c_1
        have hlt_j : j < (nPl P) := by omega
        have hpo := pole_nI hpb hlt_j
        refine lv_iload_n hx hb dX8_yearGoes_12 rfl (lv_at hl 1 rfl) ?_
        refine lv_aload_n hx hb dX8_yearGoes_13 rfl (lv_at hl 3 rfl) ?_
        refine lv_iload_n hx hb dX8_yearGoes_14 rfl (lv_at hl 0 rfl) ?_
        refine xSi ha hP hS (y := yX8_isUp) (As := [.ref (G.1 t), .int (nI j)]) (rest := [.int x2]) rfl (c_X8_isUp G l σ P t (nI j) hpb hPV ht (by first | assumption | omega)) kw_X8_192 hd_X8_isUp rfl ⟨rfl, rfl⟩ ⟨Nat.le_of_ble_eq_true rfl, Nat.le_of_ble_eq_true rfl⟩ ⟨Nat.zero_le _, Nat.zero_le _⟩ hl.1 (Nat.le_of_ble_eq_true rfl) rfl dX8_yearGoes_15 (fun r u H locs hpq hP hS => ?_)
        obtain ⟨hr_, hu_⟩ := hpq
        have hr_ := hr_.symm
        have hu_ := hu_.symm
        subst hr_
        subst hu_
        refine lv_if_eq (tgt := 36) hx hb dX8_yearGoes_18 (by decide) (fun c_10 => ?_) (fun c_10 => ?_)
        · have t_10 := b2i_f c_10
          refine lv_iconst (v := 0) hx hb dX8_yearGoes_36 (by decide) ?_
          refine lv_ior hx hb dX8_yearGoes_37 ?_
          refine lv_istore_n (lv' := [(2, .int (x2 ||| 0)), (3, .int (nI j)), (0, .ref (G.1 0)), (1, .ref (G.1 t))]) hx hb dX8_yearGoes_38 rfl hl (by decide) rfl (fun ls hl => ?_)
          refine lv_iinc (v := (nI (j + 1))) (lv' := [(3, .int (nI (j + 1))), (2, .int (x2 ||| 0)), (0, .ref (G.1 0)), (1, .ref (G.1 t))]) hx hb dX8_yearGoes_39 hl (k := 1) rfl (nI_1 j) (by decide) rfl (fun ls hl => ?_)
          refine lv_goto (tgt := 4) hx hb dX8_yearGoes_42 (by decide) ?_
          exact ih_4 (j + 1) (x2 ||| 0) _ _ _ (by omega) (by omega) (by rw [a_bits, ← e_x2]; simp [y_gives, u_1, t_10, i_leN, -Int32.not_lt]; try (split <;> simp)) hP hS (lv_sub hl [0, 1, 2, 3] rfl)
        · have t_10 := b2i_t c_10
          refine lv_aload_n hx hb dX8_yearGoes_21 rfl (lv_at hl 2 rfl) ?_
          refine lv_aload_n hx hb dX8_yearGoes_22 rfl (lv_at hl 3 rfl) ?_
          refine lv_iload_n hx hb dX8_yearGoes_23 rfl (lv_at hl 0 rfl) ?_
          refine xVi ha hP hS (y := yX8_holdsOn) (As := [.ref (G.1 t), .int (nI j)]) (rest := [.int x2]) 0 (by decide) (cM_0 G _) rfl rfl (c_X8_holdsOn G l σ P t (nI j) hpb hPV ht (by first | assumption | omega)) kw_X8_196 hd_X8_holdsOn rfl ⟨rfl, rfl⟩ ⟨Nat.le_of_ble_eq_true rfl, Nat.le_of_ble_eq_true rfl⟩ ⟨Nat.zero_le _, Nat.zero_le _⟩ hl.1 (Nat.le_of_ble_eq_true rfl) rfl dX8_yearGoes_24 (fun r u H locs hpq hP hS => ?_)
          obtain ⟨hr_, hu_⟩ := hpq
          have hr_ := hr_.symm
          have hu_ := hu_.symm
          subst hr_
          subst hu_
          have jn_11 : ∀ x_11 : Int32, x_11 = (if (decide (a_load P (sM σ t) (nI j) ≤ a_bearsNow P (sM σ t) (nI j))) = true then (0 : Int32) else ((1 <<< (nI j &&& 31)) : Int32)) → W p l e ({ frames := 4, cells := 0, slots := 0, locals := 93 } : Room) s m ([.ref (G.1 0), .ref (G.1 t)] : List Value).toArray below meth c H locs 0 0 (MQ below (va_Qi (fun (r : Int32) u => r = y_gave P (sM σ t) ∧ u = w_year P σ t) (xB G 24 (cM G)) (xA G 24 s.heap.size)) ([.ref (G.1 0), .ref (G.1 t)] : List Value).toArray s 0 0 (xA G 24 s.heap.size)) (F0 m 37 ls [.int x_11, .int x2]) := by
            intro x_11 ex_11
            refine lv_ior hx hb dX8_yearGoes_37 ?_
            refine lv_istore_n (lv' := [(2, .int (x2 ||| x_11)), (3, .int (nI j)), (0, .ref (G.1 0)), (1, .ref (G.1 t))]) hx hb dX8_yearGoes_38 rfl hl (by decide) rfl (fun ls hl => ?_)
            refine lv_iinc (v := (nI (j + 1))) (lv' := [(3, .int (nI (j + 1))), (2, .int (x2 ||| x_11)), (0, .ref (G.1 0)), (1, .ref (G.1 t))]) hx hb dX8_yearGoes_39 hl (k := 1) rfl (nI_1 j) (by decide) rfl (fun ls hl => ?_)
            refine lv_goto (tgt := 4) hx hb dX8_yearGoes_42 (by decide) ?_
            exact ih_4 (j + 1) (x2 ||| x_11) _ _ _ (by omega) (by omega) (by rw [a_bits, ← e_x2]; simp [y_gives, u_1, t_10, ex_11, i_leN, -Int32.not_lt]; try (split <;> simp)) hP hS (lv_sub hl [0, 1, 2, 3] rfl)
          refine lv_if_ne (tgt := 36) hx hb dX8_yearGoes_27 (by decide) (fun c_11 => ?_) (fun c_11 => ?_)
          · have t_11 := b2i_t c_11
            have f_11 := of_decide_eq_true t_11
            refine lv_iconst (v := 0) hx hb dX8_yearGoes_36 (by decide) ?_
            exact jn_11 _ (if_pos t_11).symm
          · have t_11 := b2i_f c_11
            have f_11 := of_decide_eq_false t_11
            refine lv_iconst (v := 1) hx hb dX8_yearGoes_30 (by decide) ?_
            refine lv_iload_n hx hb dX8_yearGoes_31 rfl (lv_at hl 0 rfl) ?_
            refine lv_ishl hx hb dX8_yearGoes_32 ?_
            refine lv_goto (tgt := 37) hx hb dX8_yearGoes_33 (by decide) ?_
            exact jn_11 _ (if_neg (Bool.eq_false_iff.mp t_11)).symm
  exact lp_4 ((nPl P) - 0 + 1) 0 0 _ _ _ (by omega) (by omega) rfl hP hS (lv_sub hl [0, 1, 2, 3] rfl)
set_option maxHeartbeats 4000000 in
set_option maxRecDepth 100000 in
theorem c_X8_copies (G : GT) (l : Launch) (σ : Mem) (q1 : Nat) (q2 : Nat) (n1 : Nat) (n2 : Nat) (i : Nat) (jj : Nat) (many : Nat) (ii : Int32) (jx : Int32) (mx : Int32) (h1 : q1 < 24) (h2 : q2 < 24) (hne : q1 ≠ q2) (hc1 : ∀ τ, cM G τ q1 = .inl (G.2.2 0, n1, .inl (τ q1))) (hc2 : ∀ τ, cM G τ q2 = .inl (G.2.2 0, n2, .inl (τ q2))) (hb1 : n1 < 2000) (hb2 : n2 < 2000) (hi : ii = nI i) (hj : jx = nI jj) (hm : mx = nI many) (hle1 : i + many ≤ n1) (hle2 : jj + many ≤ n2) : CV G 24 (cM G) l yX8_copies ({ frames := 0, cells := 0, slots := 0, locals := 0 } : Room) cX8_copies 6 none [.ref (G.1 q1), .int ii, .ref (G.1 q2), .int jx, .int mx] σ (fun u => u = (mG σ q2 jj many (fun z => σ q1 (i + z)))) := by
  intro sz
  refine xbegin (by decide) (Nat.le_of_ble_eq_true rfl) ?_
  intro p e s m below meth c ls hsz ha hP hl
  subst hsz
  have hx := ha.1
  have hb := ha.2.1
  have hS : va_S (xA G 24 s.heap.size) s.heap s.heap [] := va_S.rf
  have hl : lv_has ls 6 [(0, .ref (G.1 q1)), (1, .int ii), (2, .ref (G.1 q2)), (3, .int jx), (4, .int mx)] := hl
  have k_0 : (0 : Int32).toInt = 0 := by decide
  have k_4 : (4 : Int32).toInt = 4 := by decide
  have k_5 : (5 : Int32).toInt = 5 := by decide
  have k_6 : (6 : Int32).toInt = 6 := by decide
  have hm31 : mx.toInt = (many : Int) := by rw [hm]; exact nI_toInt (by omega)
  refine lv_iconst (v := 0) hx hb dX8_copies_0 (by decide) ?_
  refine lv_istore (lv' := [(5, .int 0), (0, .ref (G.1 q1)), (1, .int ii), (2, .ref (G.1 q2)), (3, .int jx), (4, .int mx)]) hx hb dX8_copies_1 hl (by decide) rfl (fun ls hl => ?_)
  have lp_3 : ∀ (d j : Nat) (τj : Mem) (H : Heap) (locs : List Loc) (ls : Array Slot), j ≤ many → many - j < d → τj = mG σ q2 jj j (fun z => σ q1 (i + z)) → va_P G.2.1 vwCl (wl G 24 (cM G τj)) H → va_S (xA G 24 s.heap.size) s.heap H locs → lv_has ls 6 [(5, .int (nI j)), (0, .ref (G.1 q1)), (1, .int ii), (2, .ref (G.1 q2)), (3, .int jx), (4, .int mx)] → W p l e ({ frames := 0, cells := 0, slots := 0, locals := 0 } : Room) s m ([.ref (G.1 q1), .int ii, .ref (G.1 q2), .int jx, .int mx] : List Value).toArray below meth c H locs 0 0 (MQ below (va_Qv (fun u => u = (mG σ q2 jj many (fun z => σ q1 (i + z)))) (xB G 24 (cM G)) (xA G 24 s.heap.size)) ([.ref (G.1 q1), .int ii, .ref (G.1 q2), .int jx, .int mx] : List Value).toArray s 0 0 (xA G 24 s.heap.size)) (F0 m 3 ls []) := by
    intro d
    induction d with
    | zero => intro j τj H locs ls hj hd; exact absurd hd (Nat.not_lt_zero _)
    | succ d ih_3 =>
      intro j τj H locs ls hj_j hd_j e_τj hP hS hl
      have h31_j : (nI j).toInt = (j : Int) := nI_toInt (by omega)
      refine lv_iload hx hb dX8_copies_3 (lv_at hl 0 rfl) ?_
      refine lv_iload hx hb dX8_copies_5 (lv_at hl 5 rfl) ?_
      refine lv_icmp_ge (tgt := 28) hx hb dX8_copies_7 (by decide) (fun c_1 => ?_) (fun c_1 => ?_)
      · have t_1 := i_le c_1
        have u_1 := u_le c_1
        obtain rfl : j = many := by omega
        exact xvret ha hP hS dX8_copies_28 (by exact e_τj)
      · have t_1 := i_nle c_1
        have u_1 := u_nle c_1
        have hlt_j : j < many := by omega
        refine lv_aload_n hx hb dX8_copies_10 rfl (lv_at hl 3 rfl) ?_
        refine lv_iload_n hx hb dX8_copies_11 rfl (lv_at hl 4 rfl) ?_
        refine lv_iload hx hb dX8_copies_12 (lv_at hl 0 rfl) ?_
        refine lv_iadd hx hb dX8_copies_14 ?_
        refine lv_aload_n hx hb dX8_copies_15 rfl (lv_at hl 1 rfl) ?_
        refine lv_iload_n hx hb dX8_copies_16 rfl (lv_at hl 2 rfl) ?_
        refine lv_iload hx hb dX8_copies_17 (lv_at hl 0 rfl) ?_
        refine lv_iadd hx hb dX8_copies_19 ?_
        refine xialdN ha hP q1 h1 (hc1 _) (i + j) (nadd hi rfl) (by omega) (Nat.blt_eq.mpr (by omega)) dX8_copies_20 ?_
        refine xiastN ha hP hS (cM_loc G) q2 h2 hc2 (jj + j) (nadd hj rfl) (by omega) (Nat.blt_eq.mpr (by omega)) dX8_copies_21 (fun H locs hP hS => ?_)
        refine lv_iinc (v := (nI (j + 1))) (lv' := [(5, .int (nI (j + 1))), (0, .ref (G.1 q1)), (1, .int ii), (2, .ref (G.1 q2)), (3, .int jx), (4, .int mx)]) hx hb dX8_copies_22 hl (k := 0) rfl (nI_1 j) (by decide) rfl (fun ls hl => ?_)
        refine lv_goto (tgt := 3) hx hb dX8_copies_25 (by decide) ?_
        exact ih_3 (j + 1) (mU τj q2 (jj + j) (τj q1 (i + j))) _ _ _ (by omega) (by omega) (by rw [e_τj]; refine mG_s _ _ _ _ _ ?_; rw [mG_n _ _ _ _ hne]) hP hS (lv_sub hl [0, 1, 2, 3, 4, 5] rfl)
  exact lp_3 (many - 0 + 1) 0 σ _ _ _ (by omega) (by omega) (mG_0 _ _ _ _) hP hS (lv_sub hl [0, 1, 2, 3, 4, 5] rfl)
set_option maxHeartbeats 4000000 in
set_option maxRecDepth 100000 in
theorem c_X8_layAside (G : GT) (l : Launch) (σ : Mem)   : CV G 24 (cM G) l yX8_layAside ({ frames := 1, cells := 0, slots := 0, locals := 25 } : Room) cX8_layAside 1 none [.ref (G.1 0)] σ (fun u => u = w_aside σ) := by
  intro sz
  refine xbegin (by decide) (Nat.le_of_ble_eq_true rfl) ?_
  intro p e s m below meth c ls hsz ha hP hl
  subst hsz
  have hx := ha.1
  have hb := ha.2.1
  have hS : va_S (xA G 24 s.heap.size) s.heap s.heap [] := va_S.rf
  have hl : lv_has ls 1 [(0, .ref (G.1 0))] := hl
  have k_0 : (0 : Int32).toInt = 0 := by decide
  have k_4 : (4 : Int32).toInt = 4 := by decide
  have k_5 : (5 : Int32).toInt = 5 := by decide
  have k_6 : (6 : Int32).toInt = 6 := by decide
  have k_12 : (12 : Int32).toInt = 12 := by decide
  refine lv_aload_n hx hb dX8_layAside_0 rfl (lv_at hl 0 rfl) ?_
  refine g8_44 ha hP 0 (by decide) (cM_0 G _) (v := .ref (G.1 11)) rfl dX8_layAside_1 ?_
  refine lv_iconst (v := 0) hx hb dX8_layAside_4 (by decide) ?_
  refine lv_aload_n hx hb dX8_layAside_5 rfl (lv_at hl 0 rfl) ?_
  refine g8_47 ha hP 0 (by decide) (cM_0 G _) (v := .ref (G.1 12)) rfl dX8_layAside_6 ?_
  refine lv_iconst (v := 0) hx hb dX8_layAside_9 (by decide) ?_
  refine lv_bipush (v := 12) hx hb dX8_layAside_10 (by decide) ?_
  refine xSv ha hP hS (y := yX8_copies) (As := [.ref (G.1 11), .int 0, .ref (G.1 12), .int 0, .int 12]) (rest := []) rfl (c_X8_copies G l σ 11 12 12 12 0 0 12 0 0 12 (by decide) (by decide) (by decide) (fun τ => cM_11 G τ) (fun τ => cM_12 G τ) (by decide) (by decide) (rfl : (0 : Int32) = nI 0) (rfl : (0 : Int32) = nI 0) (rfl : (12 : Int32) = nI 12) (by omega) (by omega)) kw_X8_202 hd_X8_copies rfl ⟨rfl, rfl⟩ ⟨Nat.le_of_ble_eq_true rfl, Nat.le_of_ble_eq_true rfl⟩ ⟨Nat.zero_le _, Nat.zero_le _⟩ hl.1 (Nat.le_of_ble_eq_true rfl) rfl dX8_layAside_12 (fun u H locs hpq hP hS => ?_)
  have hpq := hpq.symm
  subst hpq
  exact xvret ha hP hS dX8_layAside_15 (by rfl)
