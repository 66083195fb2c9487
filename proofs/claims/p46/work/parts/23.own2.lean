theorem hd_X0_take : kHd yX0_take 1 := by decide +kernel
theorem hd_X1_begin : kHd yX1_begin 2 := by decide +kernel
theorem hd_X2_isEmpty : kHd yX2_isEmpty 0 := by decide +kernel
theorem hd_X3_take : kHd yX3_take 2 := by decide +kernel
theorem hd_X4_highOfAll : kHd yX4_highOfAll 0 := by decide +kernel
theorem hd_X4_howManyHold : kHd yX4_howManyHold 3 := by decide +kernel
theorem hd_X4_replay : kHd yX4_replay 1 := by decide +kernel
theorem hd_X4_standing : kHd yX4_standing 0 := by decide +kernel
theorem hd_X4_take : kHd yX4_take 1 := by decide +kernel
theorem hd_X6_begin : kHd yX6_begin 1 := by decide +kernel
theorem hd_X7_agrees : kHd yX7_agrees 4 := by decide +kernel
theorem hd_X7_deed : kHd yX7_deed 3 := by decide +kernel
theorem hd_X7_findingOfTriples : kHd yX7_findingOfTriples 1 := by decide +kernel
theorem hd_X7_isWithin : kHd yX7_isWithin 2 := by decide +kernel
theorem hd_X7_keptAt : kHd yX7_keptAt 1 := by decide +kernel
theorem hd_X7_kindsBy : kHd yX7_kindsBy 2 := by decide +kernel
theorem hd_X7_perform : kHd yX7_perform 1 := by decide +kernel
theorem kw_X7_169 : ∀ w ∈ k5V RX7 169 yX4_isSeated cX4_isSeated 2 (some .boolean), w ∈ TB := tb_ins (by decide +kernel)
theorem kw_X7_172 : ∀ w ∈ k5V RX7 172 yX4_isUp cX4_isUp 2 (some .boolean), w ∈ TB := tb_ins (by decide +kernel)
theorem kw_X7_175 : ∀ w ∈ k5S RX7 175 yX7_deed cX7_deed 3 (some .int), w ∈ TB := tb_ins (by decide +kernel)
theorem kw_X7_179 : ∀ w ∈ k5V RX7 179 yX7_perform cX7_perform 2 (some .int), w ∈ TB := tb_ins (by decide +kernel)
theorem kw_X7_182 : ∀ w ∈ k5V RX7 182 yX2_isEmpty cX2_isEmpty 1 (some .boolean), w ∈ TB := tb_ins (by decide +kernel)
theorem kw_X7_185 : ∀ w ∈ k5V RX7 185 yX4_replay cX4_replay 3 none, w ∈ TB := tb_ins (by decide +kernel)
theorem kw_X7_189 : ∀ w ∈ k5V RX7 189 yX7_keptAt cX7_keptAt 2 (some (.object "PoleNave$Deeds")), w ∈ TB := tb_ins (by decide +kernel)
theorem kw_X7_193 : ∀ w ∈ k5V RX7 193 yX0_take cX0_take 3 none, w ∈ TB := tb_ins (by decide +kernel)
theorem kw_X7_204 : ∀ w ∈ k5V RX7 204 yX4_standing cX4_standing 3 (some .int), w ∈ TB := tb_ins (by decide +kernel)
theorem kw_X7_196 : ∀ w ∈ k5V RX7 196 yX4_loadOn cX4_loadOn 4 (some .int), w ∈ TB := tb_ins (by decide +kernel)
theorem kw_X7_211 : ∀ w ∈ k5S RX7 211 yX7_worn cX7_worn 2 (some .int), w ∈ TB := tb_ins (by decide +kernel)
theorem kw_X7_215 : ∀ w ∈ k5V RX7 215 yX4_take cX4_take 3 none, w ∈ TB := tb_ins (by decide +kernel)
theorem kw_X7_224 : ∀ w ∈ k5V RX7 224 yX4_highOfAll cX4_highOfAll 3 (some .int), w ∈ TB := tb_ins (by decide +kernel)
theorem kw_X7_218 : ∀ w ∈ k5V RX7 218 yX4_passYear cX4_passYear 4 (some .int), w ∈ TB := tb_ins (by decide +kernel)
theorem kw_X7_227 : ∀ w ∈ k5V RX7 227 yX6_begin cX6_begin 5 none, w ∈ TB := tb_ins (by decide +kernel)
theorem kw_X7_229 : ∀ w ∈ k5N yX6_seatHighest cX6_seatHighest 5 none, w ∈ TB := tb_ins (by decide +kernel)
theorem kw_X7_239 : ∀ w ∈ k5V RX7 239 yX3_take cX3_take 4 none, w ∈ TB := tb_ins (by decide +kernel)
theorem kw_X7_245 : ∀ w ∈ k5N yX6_seatAll cX6_seatAll 5 none, w ∈ TB := tb_ins (by decide +kernel)
theorem kw_X7_251 : ∀ w ∈ k5S RX7 251 yJ6_bitCount_0f7a4 cJ6_bitCount_0f7a4 1 (some .int), w ∈ TB := tb_ins (by decide +kernel)
theorem kw_X7_259 : ∀ w ∈ k5V RX7 259 yX4_up cX4_up 1 (some .int), w ∈ TB := tb_ins (by decide +kernel)
theorem kw_X7_262 : ∀ w ∈ k5V RX7 262 yX1_begin cX1_begin 4 none, w ∈ TB := tb_ins (by decide +kernel)
theorem kw_X7_265 : ∀ w ∈ k5N yX1_laceOn cX1_laceOn 4 none, w ∈ TB := tb_ins (by decide +kernel)
theorem kw_X7_364 : ∀ w ∈ k5S RX7 364 yX7_isWithin cX7_isWithin 2 (some .boolean), w ∈ TB := tb_ins (by decide +kernel)
theorem kw_X7_367 : ∀ w ∈ k5S RX7 367 yX7_bearing cX7_bearing 7 (some .int), w ∈ TB := tb_ins (by decide +kernel)
theorem kw_X7_279 : ∀ w ∈ k5S RX7 279 yX7_agrees cX7_agrees 6 (some .boolean), w ∈ TB := tb_ins (by decide +kernel)
theorem kw_X7_273 : ∀ w ∈ k5S RX7 273 yX7_findingOfTriples cX7_findingOfTriples 2 (some .int), w ∈ TB := tb_ins (by decide +kernel)
theorem kw_X7_283 : ∀ w ∈ k5V RX7 283 yX7_kindsBy cX7_kindsBy 5 (some .int), w ∈ TB := tb_ins (by decide +kernel)
theorem kw_X7_287 : ∀ w ∈ k5V RX7 287 yX4_howManyHold cX4_howManyHold 6 (some .int), w ∈ TB := tb_ins (by decide +kernel)
set_option maxHeartbeats 4000000 in
set_option maxRecDepth 100000 in
theorem c_X7_sit (G : GT) (l : Launch) (σ : Mem) (i : Int32) (k : Int32) (hp : PO 33 σ) : CI G 74 (cX G) l yX7_sit ({ frames := 6, cells := 0, slots := 0, locals := 135 } : Room) cX7_sit 3 (some .int) [.ref (G.1 0), .int i, .int k] σ (fun (r : Int32) u => r = (k_sit σ i k).1 ∧ u = (k_sit σ i k).2) := by
  intro sz
  refine xbegin (by decide) (Nat.le_of_ble_eq_true rfl) ?_
  intro p e s m below meth c ls hsz ha hP hl
  subst hsz
  have hx := ha.1
  have hb := ha.2.1
  have hS : va_S (xA G 74 s.heap.size) s.heap s.heap [] := va_S.rf
  have hl : lv_has ls 3 [(0, .ref (G.1 0)), (1, .int i), (2, .int k)] := hl
  have k_m4 : (-4 : Int32).toInt = -4 := by decide
  have k_m1 : (-1 : Int32).toInt = -1 := by decide
  have k_0 : (0 : Int32).toInt = 0 := by decide
  refine lv_aload_n hx hb dX7_sit_0 rfl (lv_at hl 0 rfl) ?_
  refine g7_21 ha hP 0 (by decide) (cX_0 G _) (v := .ref (G.1 33)) rfl dX7_sit_1 ?_
  refine lv_iload_n hx hb dX7_sit_4 rfl (lv_at hl 1 rfl) ?_
  refine xVi ha hP hS (y := yX2_isOne) (As := [.int i]) (rest := []) 33 (by decide) (cX_33 G _) rfl rfl (c_X2_isOne G l σ 33 i (by unfold oPl; omega)) kw_X7_148 hd_X2_isOne rfl ⟨rfl, rfl⟩ ⟨Nat.le_of_ble_eq_true rfl, Nat.le_of_ble_eq_true rfl⟩ ⟨Nat.zero_le _, Nat.zero_le _⟩ hl.1 (Nat.le_of_ble_eq_true rfl) rfl dX7_sit_5 (fun r u H locs hpq hP hS => ?_)
  obtain ⟨hr_, hu_⟩ := hpq
  have hr_ := hr_.symm
  have hu_ := hu_.symm
  subst hr_
  subst hu_
  refine lv_if_eq (tgt := 22) hx hb dX7_sit_8 (by decide) (fun c_1 => ?_) (fun c_1 => ?_)
  · have t_1 := b2i_f c_1
    refine lv_iconst (v := (-1)) hx hb dX7_sit_22 (by decide) ?_
    exact xiret ha hP hS dX7_sit_23 ⟨by (try subst eo); (try subst eo2); simp [k_sit, t_1, i_leN, -Int32.not_lt], (by (try subst eo); (try subst eo2); simp [k_sit, t_1, i_leN, -Int32.not_lt])⟩ rfl
  · have t_1 := b2i_t c_1
    have f_1 := isOne_t t_1
    refine lv_aload_n hx hb dX7_sit_11 rfl (lv_at hl 0 rfl) ?_
    refine g7_21 ha hP 0 (by decide) (cX_0 G _) (v := .ref (G.1 33)) rfl dX7_sit_12 ?_
    refine lv_iload_n hx hb dX7_sit_15 rfl (lv_at hl 2 rfl) ?_
    refine xVi ha hP hS (y := yX2_isPole) (As := [.int k]) (rest := []) 33 (by decide) (cX_33 G _) rfl rfl (c_X2_isPole G l σ 33 k (by unfold oPl; omega)) kw_X7_140 hd_X2_isPole rfl ⟨rfl, rfl⟩ ⟨Nat.le_of_ble_eq_true rfl, Nat.le_of_ble_eq_true rfl⟩ ⟨Nat.zero_le _, Nat.zero_le _⟩ hl.1 (Nat.le_of_ble_eq_true rfl) rfl dX7_sit_16 (fun r u H locs hpq hP hS => ?_)
    obtain ⟨hr_, hu_⟩ := hpq
    have hr_ := hr_.symm
    have hu_ := hu_.symm
    subst hr_
    subst hu_
    refine lv_if_ne (tgt := 24) hx hb dX7_sit_19 (by decide) (fun c_2 => ?_) (fun c_2 => ?_)
    · have t_2 := b2i_t c_2
      have f_2 := isPole_t t_2
      refine lv_aload_n hx hb dX7_sit_24 rfl (lv_at hl 0 rfl) ?_
      refine g7_33 ha hP 0 (by decide) (cX_0 G _) (v := .ref (G.1 45)) rfl dX7_sit_25 ?_
      refine lv_iload_n hx hb dX7_sit_28 rfl (lv_at hl 1 rfl) ?_
      refine xVi ha hP hS (y := yX4_isSeated) (As := [.int i]) (rest := []) 45 (by decide) (cX_45 G _) rfl rfl (c_X4_isSeated G l σ 45 i (by unfold oSc; omega)) kw_X7_169 hd_X4_isSeated rfl ⟨rfl, rfl⟩ ⟨Nat.le_of_ble_eq_true rfl, Nat.le_of_ble_eq_true rfl⟩ ⟨Nat.zero_le _, Nat.zero_le _⟩ hl.1 (Nat.le_of_ble_eq_true rfl) rfl dX7_sit_29 (fun r u H locs hpq hP hS => ?_)
      obtain ⟨hr_, hu_⟩ := hpq
      have hr_ := hr_.symm
      have hu_ := hu_.symm
      subst hr_
      subst hu_
      refine lv_if_ne (tgt := 46) hx hb dX7_sit_32 (by decide) (fun c_3 => ?_) (fun c_3 => ?_)
      · have t_3 := b2i_t c_3
        refine lv_bipush (v := (-4)) hx hb dX7_sit_46 (by decide) ?_
        exact xiret ha hP hS dX7_sit_48 ⟨by (try subst eo); (try subst eo2); simp [k_sit, t_1, t_2, t_3, i_leN, -Int32.not_lt], (by (try subst eo); (try subst eo2); simp [k_sit, t_1, t_2, t_3, i_leN, -Int32.not_lt])⟩ rfl
      · have t_3 := b2i_f c_3
        refine lv_aload_n hx hb dX7_sit_35 rfl (lv_at hl 0 rfl) ?_
        refine g7_33 ha hP 0 (by decide) (cX_0 G _) (v := .ref (G.1 45)) rfl dX7_sit_36 ?_
        refine lv_iload_n hx hb dX7_sit_39 rfl (lv_at hl 2 rfl) ?_
        refine xVi ha hP hS (y := yX4_isUp) (As := [.int k]) (rest := []) 45 (by decide) (cX_45 G _) rfl rfl (c_X4_isUp G l σ 45 k (by unfold oSc; omega)) kw_X7_172 hd_X4_isUp rfl ⟨rfl, rfl⟩ ⟨Nat.le_of_ble_eq_true rfl, Nat.le_of_ble_eq_true rfl⟩ ⟨Nat.zero_le _, Nat.zero_le _⟩ hl.1 (Nat.le_of_ble_eq_true rfl) rfl dX7_sit_40 (fun r u H locs hpq hP hS => ?_)
        obtain ⟨hr_, hu_⟩ := hpq
        have hr_ := hr_.symm
        have hu_ := hu_.symm
        subst hr_
        subst hu_
        refine lv_if_ne (tgt := 49) hx hb dX7_sit_43 (by decide) (fun c_4 => ?_) (fun c_4 => ?_)
        · have t_4 := b2i_t c_4
          refine lv_aload_n hx hb dX7_sit_49 rfl (lv_at hl 0 rfl) ?_
          refine lv_iconst (v := 0) hx hb dX7_sit_50 (by decide) ?_
          refine lv_iload_n hx hb dX7_sit_51 rfl (lv_at hl 1 rfl) ?_
          refine lv_iload_n hx hb dX7_sit_52 rfl (lv_at hl 2 rfl) ?_
          refine xSi ha hP hS (y := yX7_deed) (As := [.int 0, .int i, .int k]) (rest := [.ref (G.1 0)]) rfl (c_X7_deed G l σ 0 i k ) kw_X7_175 hd_X7_deed rfl ⟨rfl, rfl⟩ ⟨Nat.le_of_ble_eq_true rfl, Nat.le_of_ble_eq_true rfl⟩ ⟨Nat.zero_le _, Nat.zero_le _⟩ hl.1 (Nat.le_of_ble_eq_true rfl) rfl dX7_sit_53 (fun r u H locs hpq hP hS => ?_)
          obtain ⟨hr_, hu_⟩ := hpq
          have hr_ := hr_.symm
          have hu_ := hu_.symm
          subst hr_
          subst hu_
          refine xVi ha hP hS (y := yX7_perform) (As := [.int (dCode 0 i k)]) (rest := []) 0 (by decide) (cX_0 G _) rfl rfl (c_X7_perform G l σ (dCode 0 i k) hp) kw_X7_179 hd_X7_perform rfl ⟨rfl, rfl⟩ ⟨Nat.le_of_ble_eq_true rfl, Nat.le_of_ble_eq_true rfl⟩ ⟨Nat.zero_le _, Nat.zero_le _⟩ hl.1 (Nat.le_of_ble_eq_true rfl) rfl dX7_sit_56 (fun r u H locs hpq hP hS => ?_)
          obtain ⟨hr_, hu_⟩ := hpq
          have hr_ := hr_.symm
          have hu_ := hu_.symm
          subst hr_
          subst hu_
          exact xiret ha hP hS dX7_sit_59 ⟨by (try subst eo); (try subst eo2); simp [k_sit, t_1, t_2, t_3, t_4, i_leN, -Int32.not_lt], (by (try subst eo); (try subst eo2); simp [k_sit, t_1, t_2, t_3, t_4, i_leN, -Int32.not_lt])⟩ rfl
        · have t_4 := b2i_f c_4
          refine lv_bipush (v := (-4)) hx hb dX7_sit_46 (by decide) ?_
          exact xiret ha hP hS dX7_sit_48 ⟨by (try subst eo); (try subst eo2); simp [k_sit, t_1, t_2, t_3, t_4, i_leN, -Int32.not_lt], (by (try subst eo); (try subst eo2); simp [k_sit, t_1, t_2, t_3, t_4, i_leN, -Int32.not_lt])⟩ rfl
    · have t_2 := b2i_f c_2
      refine lv_iconst (v := (-1)) hx hb dX7_sit_22 (by decide) ?_
      exact xiret ha hP hS dX7_sit_23 ⟨by (try subst eo); (try subst eo2); simp [k_sit, t_1, t_2, i_leN, -Int32.not_lt], (by (try subst eo); (try subst eo2); simp [k_sit, t_1, t_2, i_leN, -Int32.not_lt])⟩ rfl
set_option maxHeartbeats 4000000 in
set_option maxRecDepth 100000 in
theorem c_X7_down (G : GT) (l : Launch) (σ : Mem) (i : Int32) (hp : PO 33 σ) : CI G 74 (cX G) l yX7_down ({ frames := 6, cells := 0, slots := 0, locals := 135 } : Room) cX7_down 2 (some .int) [.ref (G.1 0), .int i] σ (fun (r : Int32) u => r = (k_down σ i).1 ∧ u = (k_down σ i).2) := by
  intro sz
  refine xbegin (by decide) (Nat.le_of_ble_eq_true rfl) ?_
  intro p e s m below meth c ls hsz ha hP hl
  subst hsz
  have hx := ha.1
  have hb := ha.2.1
  have hS : va_S (xA G 74 s.heap.size) s.heap s.heap [] := va_S.rf
  have hl : lv_has ls 2 [(0, .ref (G.1 0)), (1, .int i)] := hl
  have k_m4 : (-4 : Int32).toInt = -4 := by decide
  have k_m1 : (-1 : Int32).toInt = -1 := by decide
  have k_0 : (0 : Int32).toInt = 0 := by decide
  have k_1 : (1 : Int32).toInt = 1 := by decide
  refine lv_aload_n hx hb dX7_down_0 rfl (lv_at hl 0 rfl) ?_
  refine g7_21 ha hP 0 (by decide) (cX_0 G _) (v := .ref (G.1 33)) rfl dX7_down_1 ?_
  refine lv_iload_n hx hb dX7_down_4 rfl (lv_at hl 1 rfl) ?_
  refine xVi ha hP hS (y := yX2_isOne) (As := [.int i]) (rest := []) 33 (by decide) (cX_33 G _) rfl rfl (c_X2_isOne G l σ 33 i (by unfold oPl; omega)) kw_X7_148 hd_X2_isOne rfl ⟨rfl, rfl⟩ ⟨Nat.le_of_ble_eq_true rfl, Nat.le_of_ble_eq_true rfl⟩ ⟨Nat.zero_le _, Nat.zero_le _⟩ hl.1 (Nat.le_of_ble_eq_true rfl) rfl dX7_down_5 (fun r u H locs hpq hP hS => ?_)
  obtain ⟨hr_, hu_⟩ := hpq
  have hr_ := hr_.symm
  have hu_ := hu_.symm
  subst hr_
  subst hu_
  refine lv_if_ne (tgt := 13) hx hb dX7_down_8 (by decide) (fun c_1 => ?_) (fun c_1 => ?_)
  · have t_1 := b2i_t c_1
    have f_1 := isOne_t t_1
    refine lv_aload_n hx hb dX7_down_13 rfl (lv_at hl 0 rfl) ?_
    refine g7_33 ha hP 0 (by decide) (cX_0 G _) (v := .ref (G.1 45)) rfl dX7_down_14 ?_
    refine lv_iload_n hx hb dX7_down_17 rfl (lv_at hl 1 rfl) ?_
    refine xVi ha hP hS (y := yX4_isSeated) (As := [.int i]) (rest := []) 45 (by decide) (cX_45 G _) rfl rfl (c_X4_isSeated G l σ 45 i (by unfold oSc; omega)) kw_X7_169 hd_X4_isSeated rfl ⟨rfl, rfl⟩ ⟨Nat.le_of_ble_eq_true rfl, Nat.le_of_ble_eq_true rfl⟩ ⟨Nat.zero_le _, Nat.zero_le _⟩ hl.1 (Nat.le_of_ble_eq_true rfl) rfl dX7_down_18 (fun r u H locs hpq hP hS => ?_)
    obtain ⟨hr_, hu_⟩ := hpq
    have hr_ := hr_.symm
    have hu_ := hu_.symm
    subst hr_
    subst hu_
    refine lv_if_eq (tgt := 37) hx hb dX7_down_21 (by decide) (fun c_2 => ?_) (fun c_2 => ?_)
    · have t_2 := b2i_f c_2
      refine lv_bipush (v := (-4)) hx hb dX7_down_37 (by decide) ?_
      exact xiret ha hP hS dX7_down_39 ⟨by (try subst eo); (try subst eo2); simp [k_down, t_1, t_2, i_leN, -Int32.not_lt], (by (try subst eo); (try subst eo2); simp [k_down, t_1, t_2, i_leN, -Int32.not_lt])⟩ rfl
    · have t_2 := b2i_t c_2
      refine lv_aload_n hx hb dX7_down_24 rfl (lv_at hl 0 rfl) ?_
      refine lv_iconst (v := 1) hx hb dX7_down_25 (by decide) ?_
      refine lv_iload_n hx hb dX7_down_26 rfl (lv_at hl 1 rfl) ?_
      refine lv_iconst (v := 0) hx hb dX7_down_27 (by decide) ?_
      refine xSi ha hP hS (y := yX7_deed) (As := [.int 1, .int i, .int 0]) (rest := [.ref (G.1 0)]) rfl (c_X7_deed G l σ 1 i 0 ) kw_X7_175 hd_X7_deed rfl ⟨rfl, rfl⟩ ⟨Nat.le_of_ble_eq_true rfl, Nat.le_of_ble_eq_true rfl⟩ ⟨Nat.zero_le _, Nat.zero_le _⟩ hl.1 (Nat.le_of_ble_eq_true rfl) rfl dX7_down_28 (fun r u H locs hpq hP hS => ?_)
      obtain ⟨hr_, hu_⟩ := hpq
      have hr_ := hr_.symm
      have hu_ := hu_.symm
      subst hr_
      subst hu_
      refine xVi ha hP hS (y := yX7_perform) (As := [.int (dCode 1 i 0)]) (rest := []) 0 (by decide) (cX_0 G _) rfl rfl (c_X7_perform G l σ (dCode 1 i 0) hp) kw_X7_179 hd_X7_perform rfl ⟨rfl, rfl⟩ ⟨Nat.le_of_ble_eq_true rfl, Nat.le_of_ble_eq_true rfl⟩ ⟨Nat.zero_le _, Nat.zero_le _⟩ hl.1 (Nat.le_of_ble_eq_true rfl) rfl dX7_down_31 (fun r u H locs hpq hP hS => ?_)
      obtain ⟨hr_, hu_⟩ := hpq
      have hr_ := hr_.symm
      have hu_ := hu_.symm
      subst hr_
      subst hu_
      refine lv_goto (tgt := 39) hx hb dX7_down_34 (by decide) ?_
      exact xiret ha hP hS dX7_down_39 ⟨by (try subst eo); (try subst eo2); simp [k_down, t_1, t_2, i_leN, -Int32.not_lt], (by (try subst eo); (try subst eo2); simp [k_down, t_1, t_2, i_leN, -Int32.not_lt])⟩ rfl
  · have t_1 := b2i_f c_1
    refine lv_iconst (v := (-1)) hx hb dX7_down_11 (by decide) ?_
    exact xiret ha hP hS dX7_down_12 ⟨by (try subst eo); (try subst eo2); simp [k_down, t_1, i_leN, -Int32.not_lt], (by (try subst eo); (try subst eo2); simp [k_down, t_1, i_leN, -Int32.not_lt])⟩ rfl
set_option maxHeartbeats 4000000 in
set_option maxRecDepth 100000 in
theorem c_X7_lace (G : GT) (l : Launch) (σ : Mem) (k : Int32) (hp : PO 33 σ) : CI G 74 (cX G) l yX7_lace ({ frames := 6, cells := 0, slots := 0, locals := 135 } : Room) cX7_lace 2 (some .int) [.ref (G.1 0), .int k] σ (fun (r : Int32) u => r = (k_lace σ k).1 ∧ u = (k_lace σ k).2) := by
  intro sz
  refine xbegin (by decide) (Nat.le_of_ble_eq_true rfl) ?_
  intro p e s m below meth c ls hsz ha hP hl
  subst hsz
  have hx := ha.1
  have hb := ha.2.1
  have hS : va_S (xA G 74 s.heap.size) s.heap s.heap [] := va_S.rf
  have hl : lv_has ls 2 [(0, .ref (G.1 0)), (1, .int k)] := hl
  have k_m4 : (-4 : Int32).toInt = -4 := by decide
  have k_m1 : (-1 : Int32).toInt = -1 := by decide
  have k_0 : (0 : Int32).toInt = 0 := by decide
  have k_2 : (2 : Int32).toInt = 2 := by decide
  refine lv_aload_n hx hb dX7_lace_0 rfl (lv_at hl 0 rfl) ?_
  refine g7_21 ha hP 0 (by decide) (cX_0 G _) (v := .ref (G.1 33)) rfl dX7_lace_1 ?_
  refine lv_iload_n hx hb dX7_lace_4 rfl (lv_at hl 1 rfl) ?_
  refine xVi ha hP hS (y := yX2_isPole) (As := [.int k]) (rest := []) 33 (by decide) (cX_33 G _) rfl rfl (c_X2_isPole G l σ 33 k (by unfold oPl; omega)) kw_X7_140 hd_X2_isPole rfl ⟨rfl, rfl⟩ ⟨Nat.le_of_ble_eq_true rfl, Nat.le_of_ble_eq_true rfl⟩ ⟨Nat.zero_le _, Nat.zero_le _⟩ hl.1 (Nat.le_of_ble_eq_true rfl) rfl dX7_lace_5 (fun r u H locs hpq hP hS => ?_)
  obtain ⟨hr_, hu_⟩ := hpq
  have hr_ := hr_.symm
  have hu_ := hu_.symm
  subst hr_
  subst hu_
  refine lv_if_ne (tgt := 13) hx hb dX7_lace_8 (by decide) (fun c_1 => ?_) (fun c_1 => ?_)
  · have t_1 := b2i_t c_1
    have f_1 := isPole_t t_1
    refine lv_aload_n hx hb dX7_lace_13 rfl (lv_at hl 0 rfl) ?_
    refine g7_33 ha hP 0 (by decide) (cX_0 G _) (v := .ref (G.1 45)) rfl dX7_lace_14 ?_
    refine lv_iload_n hx hb dX7_lace_17 rfl (lv_at hl 1 rfl) ?_
    refine xVi ha hP hS (y := yX4_isUp) (As := [.int k]) (rest := []) 45 (by decide) (cX_45 G _) rfl rfl (c_X4_isUp G l σ 45 k (by unfold oSc; omega)) kw_X7_172 hd_X4_isUp rfl ⟨rfl, rfl⟩ ⟨Nat.le_of_ble_eq_true rfl, Nat.le_of_ble_eq_true rfl⟩ ⟨Nat.zero_le _, Nat.zero_le _⟩ hl.1 (Nat.le_of_ble_eq_true rfl) rfl dX7_lace_18 (fun r u H locs hpq hP hS => ?_)
    obtain ⟨hr_, hu_⟩ := hpq
    have hr_ := hr_.symm
    have hu_ := hu_.symm
    subst hr_
    subst hu_
    refine lv_if_eq (tgt := 37) hx hb dX7_lace_21 (by decide) (fun c_2 => ?_) (fun c_2 => ?_)
    · have t_2 := b2i_f c_2
      refine lv_bipush (v := (-4)) hx hb dX7_lace_37 (by decide) ?_
      exact xiret ha hP hS dX7_lace_39 ⟨by (try subst eo); (try subst eo2); simp [k_lace, t_1, t_2, i_leN, -Int32.not_lt], (by (try subst eo); (try subst eo2); simp [k_lace, t_1, t_2, i_leN, -Int32.not_lt])⟩ rfl
    · have t_2 := b2i_t c_2
      refine lv_aload_n hx hb dX7_lace_24 rfl (lv_at hl 0 rfl) ?_
      refine lv_iconst (v := 2) hx hb dX7_lace_25 (by decide) ?_
      refine lv_iconst (v := 0) hx hb dX7_lace_26 (by decide) ?_
      refine lv_iload_n hx hb dX7_lace_27 rfl (lv_at hl 1 rfl) ?_
      refine xSi ha hP hS (y := yX7_deed) (As := [.int 2, .int 0, .int k]) (rest := [.ref (G.1 0)]) rfl (c_X7_deed G l σ 2 0 k ) kw_X7_175 hd_X7_deed rfl ⟨rfl, rfl⟩ ⟨Nat.le_of_ble_eq_true rfl, Nat.le_of_ble_eq_true rfl⟩ ⟨Nat.zero_le _, Nat.zero_le _⟩ hl.1 (Nat.le_of_ble_eq_true rfl) rfl dX7_lace_28 (fun r u H locs hpq hP hS => ?_)
      obtain ⟨hr_, hu_⟩ := hpq
      have hr_ := hr_.symm
      have hu_ := hu_.symm
      subst hr_
      subst hu_
      refine xVi ha hP hS (y := yX7_perform) (As := [.int (dCode 2 0 k)]) (rest := []) 0 (by decide) (cX_0 G _) rfl rfl (c_X7_perform G l σ (dCode 2 0 k) hp) kw_X7_179 hd_X7_perform rfl ⟨rfl, rfl⟩ ⟨Nat.le_of_ble_eq_true rfl, Nat.le_of_ble_eq_true rfl⟩ ⟨Nat.zero_le _, Nat.zero_le _⟩ hl.1 (Nat.le_of_ble_eq_true rfl) rfl dX7_lace_31 (fun r u H locs hpq hP hS => ?_)
      obtain ⟨hr_, hu_⟩ := hpq
      have hr_ := hr_.symm
      have hu_ := hu_.symm
      subst hr_
      subst hu_
      refine lv_goto (tgt := 39) hx hb dX7_lace_34 (by decide) ?_
      exact xiret ha hP hS dX7_lace_39 ⟨by (try subst eo); (try subst eo2); simp [k_lace, t_1, t_2, i_leN, -Int32.not_lt], (by (try subst eo); (try subst eo2); simp [k_lace, t_1, t_2, i_leN, -Int32.not_lt])⟩ rfl
  · have t_1 := b2i_f c_1
    refine lv_iconst (v := (-1)) hx hb dX7_lace_11 (by decide) ?_
    exact xiret ha hP hS dX7_lace_12 ⟨by (try subst eo); (try subst eo2); simp [k_lace, t_1, i_leN, -Int32.not_lt], (by (try subst eo); (try subst eo2); simp [k_lace, t_1, i_leN, -Int32.not_lt])⟩ rfl
set_option maxHeartbeats 4000000 in
set_option maxRecDepth 100000 in
theorem c_X7_stone (G : GT) (l : Launch) (σ : Mem)  (hp : PO 33 σ) : CI G 74 (cX G) l yX7_stone ({ frames := 6, cells := 0, slots := 0, locals := 135 } : Room) cX7_stone 1 (some .int) [.ref (G.1 0)] σ (fun (r : Int32) u => r = (k_stone σ ).1 ∧ u = (k_stone σ ).2) := by
  intro sz
  refine xbegin (by decide) (Nat.le_of_ble_eq_true rfl) ?_
  intro p e s m below meth c ls hsz ha hP hl
  subst hsz
  have hx := ha.1
  have hb := ha.2.1
  have hS : va_S (xA G 74 s.heap.size) s.heap s.heap [] := va_S.rf
  have hl : lv_has ls 1 [(0, .ref (G.1 0))] := hl
  have k_m4 : (-4 : Int32).toInt = -4 := by decide
  have k_0 : (0 : Int32).toInt = 0 := by decide
  have k_3 : (3 : Int32).toInt = 3 := by decide
  refine lv_aload_n hx hb dX7_stone_0 rfl (lv_at hl 0 rfl) ?_
  refine g7_21 ha hP 0 (by decide) (cX_0 G _) (v := .ref (G.1 33)) rfl dX7_stone_1 ?_
  refine xVi ha hP hS (y := yX2_isEmpty) (As := []) (rest := []) 33 (by decide) (cX_33 G _) rfl rfl (c_X2_isEmpty G l σ 33 (by unfold oPl; omega)) kw_X7_182 hd_X2_isEmpty rfl ⟨rfl, rfl⟩ ⟨Nat.le_of_ble_eq_true rfl, Nat.le_of_ble_eq_true rfl⟩ ⟨Nat.zero_le _, Nat.zero_le _⟩ hl.1 (Nat.le_of_ble_eq_true rfl) rfl dX7_stone_4 (fun r u H locs hpq hP hS => ?_)
  obtain ⟨hr_, hu_⟩ := hpq
  have hr_ := hr_.symm
  have hu_ := hu_.symm
  subst hr_
  subst hu_
  refine lv_if_eq (tgt := 15) hx hb dX7_stone_7 (by decide) (fun c_1 => ?_) (fun c_1 => ?_)
  · have t_1 := b2i_f c_1
    have f_1 := of_decide_eq_false t_1
    refine lv_aload_n hx hb dX7_stone_15 rfl (lv_at hl 0 rfl) ?_
    refine lv_iconst (v := 3) hx hb dX7_stone_16 (by decide) ?_
    refine lv_iconst (v := 0) hx hb dX7_stone_17 (by decide) ?_
    refine lv_iconst (v := 0) hx hb dX7_stone_18 (by decide) ?_
    refine xSi ha hP hS (y := yX7_deed) (As := [.int 3, .int 0, .int 0]) (rest := [.ref (G.1 0)]) rfl (c_X7_deed G l σ 3 0 0 ) kw_X7_175 hd_X7_deed rfl ⟨rfl, rfl⟩ ⟨Nat.le_of_ble_eq_true rfl, Nat.le_of_ble_eq_true rfl⟩ ⟨Nat.zero_le _, Nat.zero_le _⟩ hl.1 (Nat.le_of_ble_eq_true rfl) rfl dX7_stone_19 (fun r u H locs hpq hP hS => ?_)
    obtain ⟨hr_, hu_⟩ := hpq
    have hr_ := hr_.symm
    have hu_ := hu_.symm
    subst hr_
    subst hu_
    refine xVi ha hP hS (y := yX7_perform) (As := [.int (dCode 3 0 0)]) (rest := []) 0 (by decide) (cX_0 G _) rfl rfl (c_X7_perform G l σ (dCode 3 0 0) hp) kw_X7_179 hd_X7_perform rfl ⟨rfl, rfl⟩ ⟨Nat.le_of_ble_eq_true rfl, Nat.le_of_ble_eq_true rfl⟩ ⟨Nat.zero_le _, Nat.zero_le _⟩ hl.1 (Nat.le_of_ble_eq_true rfl) rfl dX7_stone_22 (fun r u H locs hpq hP hS => ?_)
    obtain ⟨hr_, hu_⟩ := hpq
    have hr_ := hr_.symm
    have hu_ := hu_.symm
    subst hr_
    subst hu_
    exact xiret ha hP hS dX7_stone_25 ⟨by (try subst eo); (try subst eo2); simp [k_stone, t_1, f_1, i_leN, -Int32.not_lt], (by (try subst eo); (try subst eo2); simp [k_stone, t_1, f_1, i_leN, -Int32.not_lt])⟩ rfl
  · have t_1 := b2i_t c_1
    have f_1 := of_decide_eq_true t_1
    refine lv_bipush (v := (-4)) hx hb dX7_stone_10 (by decide) ?_
    refine lv_goto (tgt := 25) hx hb dX7_stone_12 (by decide) ?_
    exact xiret ha hP hS dX7_stone_25 ⟨by (try subst eo); (try subst eo2); simp [k_stone, t_1, f_1, i_leN, -Int32.not_lt], (by (try subst eo); (try subst eo2); simp [k_stone, t_1, f_1, i_leN, -Int32.not_lt])⟩ rfl
set_option maxHeartbeats 4000000 in
set_option maxRecDepth 100000 in
theorem c_X7_year (G : GT) (l : Launch) (σ : Mem)  (hp : PO 33 σ) : CI G 74 (cX G) l yX7_year ({ frames := 6, cells := 0, slots := 0, locals := 135 } : Room) cX7_year 1 (some .int) [.ref (G.1 0)] σ (fun (r : Int32) u => r = (k_year σ ).1 ∧ u = (k_year σ ).2) := by
  intro sz
  refine xbegin (by decide) (Nat.le_of_ble_eq_true rfl) ?_
  intro p e s m below meth c ls hsz ha hP hl
  subst hsz
  have hx := ha.1
  have hb := ha.2.1
  have hS : va_S (xA G 74 s.heap.size) s.heap s.heap [] := va_S.rf
  have hl : lv_has ls 1 [(0, .ref (G.1 0))] := hl
  have k_m4 : (-4 : Int32).toInt = -4 := by decide
  have k_0 : (0 : Int32).toInt = 0 := by decide
  have k_4 : (4 : Int32).toInt = 4 := by decide
  refine lv_aload_n hx hb dX7_year_0 rfl (lv_at hl 0 rfl) ?_
  refine g7_21 ha hP 0 (by decide) (cX_0 G _) (v := .ref (G.1 33)) rfl dX7_year_1 ?_
  refine xVi ha hP hS (y := yX2_isEmpty) (As := []) (rest := []) 33 (by decide) (cX_33 G _) rfl rfl (c_X2_isEmpty G l σ 33 (by unfold oPl; omega)) kw_X7_182 hd_X2_isEmpty rfl ⟨rfl, rfl⟩ ⟨Nat.le_of_ble_eq_true rfl, Nat.le_of_ble_eq_true rfl⟩ ⟨Nat.zero_le _, Nat.zero_le _⟩ hl.1 (Nat.le_of_ble_eq_true rfl) rfl dX7_year_4 (fun r u H locs hpq hP hS => ?_)
  obtain ⟨hr_, hu_⟩ := hpq
  have hr_ := hr_.symm
  have hu_ := hu_.symm
  subst hr_
  subst hu_
  refine lv_if_eq (tgt := 15) hx hb dX7_year_7 (by decide) (fun c_1 => ?_) (fun c_1 => ?_)
  · have t_1 := b2i_f c_1
    have f_1 := of_decide_eq_false t_1
    refine lv_aload_n hx hb dX7_year_15 rfl (lv_at hl 0 rfl) ?_
    refine lv_iconst (v := 4) hx hb dX7_year_16 (by decide) ?_
    refine lv_iconst (v := 0) hx hb dX7_year_17 (by decide) ?_
    refine lv_iconst (v := 0) hx hb dX7_year_18 (by decide) ?_
    refine xSi ha hP hS (y := yX7_deed) (As := [.int 4, .int 0, .int 0]) (rest := [.ref (G.1 0)]) rfl (c_X7_deed G l σ 4 0 0 ) kw_X7_175 hd_X7_deed rfl ⟨rfl, rfl⟩ ⟨Nat.le_of_ble_eq_true rfl, Nat.le_of_ble_eq_true rfl⟩ ⟨Nat.zero_le _, Nat.zero_le _⟩ hl.1 (Nat.le_of_ble_eq_true rfl) rfl dX7_year_19 (fun r u H locs hpq hP hS => ?_)
    obtain ⟨hr_, hu_⟩ := hpq
    have hr_ := hr_.symm
    have hu_ := hu_.symm
    subst hr_
    subst hu_
    refine xVi ha hP hS (y := yX7_perform) (As := [.int (dCode 4 0 0)]) (rest := []) 0 (by decide) (cX_0 G _) rfl rfl (c_X7_perform G l σ (dCode 4 0 0) hp) kw_X7_179 hd_X7_perform rfl ⟨rfl, rfl⟩ ⟨Nat.le_of_ble_eq_true rfl, Nat.le_of_ble_eq_true rfl⟩ ⟨Nat.zero_le _, Nat.zero_le _⟩ hl.1 (Nat.le_of_ble_eq_true rfl) rfl dX7_year_22 (fun r u H locs hpq hP hS => ?_)
    obtain ⟨hr_, hu_⟩ := hpq
    have hr_ := hr_.symm
    have hu_ := hu_.symm
    subst hr_
    subst hu_
    exact xiret ha hP hS dX7_year_25 ⟨by (try subst eo); (try subst eo2); simp [k_year, t_1, f_1, i_leN, -Int32.not_lt], (by (try subst eo); (try subst eo2); simp [k_year, t_1, f_1, i_leN, -Int32.not_lt])⟩ rfl
  · have t_1 := b2i_t c_1
    have f_1 := of_decide_eq_true t_1
    refine lv_bipush (v := (-4)) hx hb dX7_year_10 (by decide) ?_
    refine lv_goto (tgt := 25) hx hb dX7_year_12 (by decide) ?_
    exact xiret ha hP hS dX7_year_25 ⟨by (try subst eo); (try subst eo2); simp [k_year, t_1, f_1, i_leN, -Int32.not_lt], (by (try subst eo); (try subst eo2); simp [k_year, t_1, f_1, i_leN, -Int32.not_lt])⟩ rfl
set_option maxHeartbeats 4000000 in
set_option maxRecDepth 100000 in
theorem c_X7_undo (G : GT) (l : Launch) (σ : Mem) (n : Int32) (hp : PO 33 σ) : CI G 74 (cX G) l yX7_undo ({ frames := 6, cells := 0, slots := 0, locals := 136 } : Room) cX7_undo 3 (some .int) [.ref (G.1 0), .int n] σ (fun (r : Int32) u => r = (k_undo σ n).1 ∧ u = (k_undo σ n).2) := by
  intro sz
  refine xbegin (by decide) (Nat.le_of_ble_eq_true rfl) ?_
  intro p e s m below meth c ls hsz ha hP hl
  subst hsz
  have hx := ha.1
  have hb := ha.2.1
  have hS : va_S (xA G 74 s.heap.size) s.heap s.heap [] := va_S.rf
  have hl : lv_has ls 3 [(0, .ref (G.1 0)), (1, .int n)] := hl
  have k_m1 : (-1 : Int32).toInt = -1 := by decide
  have k_0 : (0 : Int32).toInt = 0 := by decide
  refine lv_iload_n hx hb dX7_undo_0 rfl (lv_at hl 1 rfl) ?_
  refine lv_if_lt (tgt := 15) hx hb dX7_undo_1 (by decide) (fun c_1 => ?_) (fun c_1 => ?_)
  · have t_1 := i_lt c_1
    refine lv_iconst (v := (-1)) hx hb dX7_undo_15 (by decide) ?_
    exact xiret ha hP hS dX7_undo_16 ⟨by (try subst eo); (try subst eo2); simp [k_undo, c_1, i_leN, -Int32.not_lt], (by (try subst eo); (try subst eo2); simp [k_undo, c_1, i_leN, -Int32.not_lt])⟩ rfl
  · have t_1 := i_nlt c_1
    refine lv_iload_n hx hb dX7_undo_4 rfl (lv_at hl 1 rfl) ?_
    refine lv_aload_n hx hb dX7_undo_5 rfl (lv_at hl 0 rfl) ?_
    refine g7_43 ha hP 0 (by decide) (cX_0 G _) (v := .ref (G.1 25)) rfl dX7_undo_6 ?_
    refine g7_81 ha hP 25 (by decide) (cX_25 G _) (v := .int (σ 25 0)) rfl dX7_undo_9 ?_
    refine lv_icmp_le (tgt := 17) hx hb dX7_undo_12 (by decide) (fun c_2 => ?_) (fun c_2 => ?_)
    · have t_2 := i_le c_2
      have u_2 := u_le c_2
      refine lv_aload_n hx hb dX7_undo_17 rfl (lv_at hl 0 rfl) ?_
      refine g7_43 ha hP 0 (by decide) (cX_0 G _) (v := .ref (G.1 25)) rfl dX7_undo_18 ?_
      refine g7_81 ha hP 25 (by decide) (cX_25 G _) (v := .int (σ 25 0)) rfl dX7_undo_21 ?_
      refine lv_iload_n hx hb dX7_undo_24 rfl (lv_at hl 1 rfl) ?_
      refine lv_isub hx hb dX7_undo_25 ?_
      refine lv_istore_n (lv' := [(2, .int ((σ 25 0) - n)), (0, .ref (G.1 0)), (1, .int n)]) hx hb dX7_undo_26 rfl hl (by decide) rfl (fun ls hl => ?_)
      refine lv_aload_n hx hb dX7_undo_27 rfl (lv_at hl 1 rfl) ?_
      refine g7_43 ha hP 0 (by decide) (cX_0 G _) (v := .ref (G.1 25)) rfl dX7_undo_28 ?_
      refine lv_iload_n hx hb dX7_undo_31 rfl (lv_at hl 2 rfl) ?_
      refine p7_81 ha hP hS (cX_loc G) 25 (by decide) (cX_25 G _) (x := n) (Nat.le_of_ble_eq_true rfl) (mU σ 25 0 n) (fun q hq => mU_n _ _ _ hq) (sDd_p0 (by unfold oDd; omega)) dX7_undo_32 (fun H locs hP hS => ?_)
      refine lv_aload_n hx hb dX7_undo_35 rfl (lv_at hl 1 rfl) ?_
      refine g7_33 ha hP 0 (by decide) (cX_0 G _) (v := .ref (G.1 45)) rfl dX7_undo_36 ?_
      refine lv_aload_n hx hb dX7_undo_39 rfl (lv_at hl 1 rfl) ?_
      refine g7_43 ha hP 0 (by decide) (cX_0 G _) (v := .ref (G.1 25)) rfl dX7_undo_40 ?_
      refine xVv ha hP hS (y := yX4_replay) (As := [.ref (G.1 25)]) (rest := []) 45 (by decide) (cX_45 G _) rfl rfl (c_X4_replay G l (mU σ 25 0 n)  (PO_mU hp (by decide))) kw_X7_185 hd_X4_replay rfl ⟨rfl, rfl⟩ ⟨Nat.le_of_ble_eq_true rfl, Nat.le_of_ble_eq_true rfl⟩ ⟨Nat.zero_le _, Nat.zero_le _⟩ hl.1 (Nat.le_of_ble_eq_true rfl) rfl dX7_undo_43 (fun u H locs hpq hP hS => ?_)
      have hpq := hpq.symm
      subst hpq
      refine lv_iload_n hx hb dX7_undo_46 rfl (lv_at hl 0 rfl) ?_
      exact xiret ha hP hS dX7_undo_47 ⟨by (try subst eo); (try subst eo2); simp [k_undo, c_1, u_2, i_leN, -Int32.not_lt], (by (try subst eo); (try subst eo2); simp [k_undo, c_1, u_2, i_leN, -Int32.not_lt])⟩ rfl
    · have t_2 := i_nle c_2
      have u_2 := u_nle c_2
      refine lv_iconst (v := (-1)) hx hb dX7_undo_15 (by decide) ?_
      exact xiret ha hP hS dX7_undo_16 ⟨by (try subst eo); (try subst eo2); simp [k_undo, c_1, u_2, i_leN, -Int32.not_lt], (by (try subst eo); (try subst eo2); simp [k_undo, c_1, u_2, i_leN, -Int32.not_lt])⟩ rfl
set_option maxHeartbeats 4000000 in
set_option maxRecDepth 100000 in
theorem c_X7_keep (G : GT) (l : Launch) (σ : Mem) (ro : Int32)  : CI G 74 (cX G) l yX7_keep ({ frames := 1, cells := 0, slots := 0, locals := 22 } : Room) cX7_keep 3 (some .int) [.ref (G.1 0), .int ro] σ (fun (r : Int32) u => r = (k_keep σ ro).1 ∧ u = (k_keep σ ro).2) := by
  intro sz
  refine xbegin (by decide) (Nat.le_of_ble_eq_true rfl) ?_
  intro p e s m below meth c ls hsz ha hP hl
  subst hsz
  have hx := ha.1
  have hb := ha.2.1
  have hS : va_S (xA G 74 s.heap.size) s.heap s.heap [] := va_S.rf
  have hl : lv_has ls 3 [(0, .ref (G.1 0)), (1, .int ro)] := hl
  have k_m4 : (-4 : Int32).toInt = -4 := by decide
  have k_m1 : (-1 : Int32).toInt = -1 := by decide
  have k_0 : (0 : Int32).toInt = 0 := by decide
  refine lv_aload_n hx hb dX7_keep_0 rfl (lv_at hl 0 rfl) ?_
  refine lv_iload_n hx hb dX7_keep_1 rfl (lv_at hl 1 rfl) ?_
  refine xVq ha hP hS (y := yX7_keptAt) (As := [.int ro]) (rest := []) 0 (by decide) (cX_0 G _) rfl rfl (c_X7_keptAt G l σ ro ) kw_X7_189 hd_X7_keptAt rfl ⟨rfl, rfl⟩ ⟨Nat.le_of_ble_eq_true rfl, Nat.le_of_ble_eq_true rfl⟩ ⟨Nat.zero_le _, Nat.zero_le _⟩ hl.1 (Nat.le_of_ble_eq_true rfl) rfl dX7_keep_2 (fun r u H locs hpq hP hS => ?_)
  obtain ⟨hr_, hu_⟩ := hpq
  have hr_ := hr_.symm
  have hu_ := hu_.symm
  subst hr_
  subst hu_
  by_cases t_1 : a_in ro 3 = true
  · have f_1 := in_t t_1
    have g_1 := ix_toInt f_1.1
    rw [show (3 : Int32).toInt = 3 by decide] at f_1
    obtain ⟨o, eo⟩ : ∃ q, q = 27 + 2 * ix ro := ⟨_, rfl⟩
    have ho : oDd o := by unfold oDd; omega
    rw [show va_rf (if a_in ro 3 = true then some (G.1 (27 + 2 * ix ro)) else none) = .ref (G.1 o) from by rw [if_pos t_1, eo]; rfl]
    refine lv_astore_n (lv' := [(2, .ref (G.1 o)), (0, .ref (G.1 0)), (1, .int ro)]) hx hb dX7_keep_5 rfl hl (by decide) rfl (fun ls hl => ?_)
    refine lv_aload_n hx hb dX7_keep_6 rfl (lv_at hl 0 rfl) ?_
    refine lv_ifnonnull (tgt := 12) hx hb dX7_keep_7 (by decide) ?_
    refine lv_aload_n hx hb dX7_keep_12 rfl (lv_at hl 1 rfl) ?_
    refine g7_21 ha hP 0 (by decide) (cX_0 G _) (v := .ref (G.1 33)) rfl dX7_keep_13 ?_
    refine xVi ha hP hS (y := yX2_isEmpty) (As := []) (rest := []) 33 (by decide) (cX_33 G _) rfl rfl (c_X2_isEmpty G l σ 33 (by unfold oPl; omega)) kw_X7_182 hd_X2_isEmpty rfl ⟨rfl, rfl⟩ ⟨Nat.le_of_ble_eq_true rfl, Nat.le_of_ble_eq_true rfl⟩ ⟨Nat.zero_le _, Nat.zero_le _⟩ hl.1 (Nat.le_of_ble_eq_true rfl) rfl dX7_keep_16 (fun r u H locs hpq hP hS => ?_)
    obtain ⟨hr_, hu_⟩ := hpq
    have hr_ := hr_.symm
    have hu_ := hu_.symm
    subst hr_
    subst hu_
    refine lv_if_eq (tgt := 25) hx hb dX7_keep_19 (by decide) (fun c_2 => ?_) (fun c_2 => ?_)
    · have t_2 := b2i_f c_2
      have f_2 := of_decide_eq_false t_2
      refine lv_aload_n hx hb dX7_keep_25 rfl (lv_at hl 0 rfl) ?_
      refine lv_aload_n hx hb dX7_keep_26 rfl (lv_at hl 1 rfl) ?_
      refine g7_43 ha hP 0 (by decide) (cX_0 G _) (v := .ref (G.1 25)) rfl dX7_keep_27 ?_
      refine xVv ha hP hS (y := yX0_take) (As := [.ref (G.1 25)]) (rest := []) o (oDd_lt0 ho) (sDd ho) rfl rfl (c_X0_take G l σ o 25 ho (by unfold oDd; omega) (by first | assumption | omega)) kw_X7_193 hd_X0_take rfl ⟨rfl, rfl⟩ ⟨Nat.le_of_ble_eq_true rfl, Nat.le_of_ble_eq_true rfl⟩ ⟨Nat.zero_le _, Nat.zero_le _⟩ hl.1 (Nat.le_of_ble_eq_true rfl) rfl dX7_keep_30 (fun u H locs hpq hP hS => ?_)
      have hpq := hpq.symm
      subst hpq
      refine lv_aload_n hx hb dX7_keep_33 rfl (lv_at hl 1 rfl) ?_
      refine g7_43 ha hP 0 (by decide) (cX_0 G _) (v := .ref (G.1 25)) rfl dX7_keep_34 ?_
      refine g7_81 ha hP 25 (by decide) (cX_25 G _) (v := .int ((m_takeD σ o 25) 25 0)) rfl dX7_keep_37 ?_
      exact xiret ha hP hS dX7_keep_40 ⟨by (try subst eo); (try subst eo2); simp [k_keep, t_1, t_2, f_2, i_leN, -Int32.not_lt], (by (try subst eo); (try subst eo2); simp [k_keep, t_1, t_2, f_2, i_leN, -Int32.not_lt])⟩ rfl
    · have t_2 := b2i_t c_2
      have f_2 := of_decide_eq_true t_2
      refine lv_bipush (v := (-4)) hx hb dX7_keep_22 (by decide) ?_
      exact xiret ha hP hS dX7_keep_24 ⟨by (try subst eo); (try subst eo2); simp [k_keep, t_1, t_2, f_2, i_leN, -Int32.not_lt], (by (try subst eo); (try subst eo2); simp [k_keep, t_1, t_2, f_2, i_leN, -Int32.not_lt])⟩ rfl
  · rw [show va_rf (if a_in ro 3 = true then some (G.1 (27 + 2 * ix ro)) else none) = .null from by rw [if_neg t_1]; rfl]
    refine lv_astore_nN (lv' := [(2, .null), (0, .ref (G.1 0)), (1, .int ro)]) hx hb dX7_keep_5 rfl hl (by decide) rfl (fun ls hl => ?_)
    refine lv_aload_nN hx hb dX7_keep_6 rfl (lv_at hl 0 rfl) ?_
    refine lv_ifnonnullN hx hb dX7_keep_7 ?_
    refine lv_iconst (v := (-1)) hx hb dX7_keep_10 (by decide) ?_
    exact xiret ha hP hS dX7_keep_11 ⟨by (try subst eo); (try subst eo2); simp [k_keep, t_1, i_leN, -Int32.not_lt], (by (try subst eo); (try subst eo2); simp [k_keep, t_1, i_leN, -Int32.not_lt])⟩ rfl
set_option maxHeartbeats 4000000 in
set_option maxRecDepth 100000 in
theorem c_X7_on (G : GT) (l : Launch) (σ : Mem) (ro : Int32) (hp : PO 33 σ) : CI G 74 (cX G) l yX7_on ({ frames := 6, cells := 0, slots := 0, locals := 136 } : Room) cX7_on 3 (some .int) [.ref (G.1 0), .int ro] σ (fun (r : Int32) u => r = (k_on σ ro).1 ∧ u = (k_on σ ro).2) := by
  intro sz
  refine xbegin (by decide) (Nat.le_of_ble_eq_true rfl) ?_
  intro p e s m below meth c ls hsz ha hP hl
  subst hsz
  have hx := ha.1
  have hb := ha.2.1
  have hS : va_S (xA G 74 s.heap.size) s.heap s.heap [] := va_S.rf
  have hl : lv_has ls 3 [(0, .ref (G.1 0)), (1, .int ro)] := hl
  have k_m1 : (-1 : Int32).toInt = -1 := by decide
  have k_0 : (0 : Int32).toInt = 0 := by decide
  have k_1 : (1 : Int32).toInt = 1 := by decide
  refine lv_aload_n hx hb dX7_on_0 rfl (lv_at hl 0 rfl) ?_
  refine lv_iload_n hx hb dX7_on_1 rfl (lv_at hl 1 rfl) ?_
  refine xVq ha hP hS (y := yX7_keptAt) (As := [.int ro]) (rest := []) 0 (by decide) (cX_0 G _) rfl rfl (c_X7_keptAt G l σ ro ) kw_X7_189 hd_X7_keptAt rfl ⟨rfl, rfl⟩ ⟨Nat.le_of_ble_eq_true rfl, Nat.le_of_ble_eq_true rfl⟩ ⟨Nat.zero_le _, Nat.zero_le _⟩ hl.1 (Nat.le_of_ble_eq_true rfl) rfl dX7_on_2 (fun r u H locs hpq hP hS => ?_)
  obtain ⟨hr_, hu_⟩ := hpq
  have hr_ := hr_.symm
  have hu_ := hu_.symm
  subst hr_
  subst hu_
  by_cases t_1 : a_in ro 3 = true
  · have f_1 := in_t t_1
    have g_1 := ix_toInt f_1.1
    rw [show (3 : Int32).toInt = 3 by decide] at f_1
    obtain ⟨o, eo⟩ : ∃ q, q = 27 + 2 * ix ro := ⟨_, rfl⟩
    have ho : oDd o := by unfold oDd; omega
    rw [show va_rf (if a_in ro 3 = true then some (G.1 (27 + 2 * ix ro)) else none) = .ref (G.1 o) from by rw [if_pos t_1, eo]; rfl]
    refine lv_astore_n (lv' := [(2, .ref (G.1 o)), (0, .ref (G.1 0)), (1, .int ro)]) hx hb dX7_on_5 rfl hl (by decide) rfl (fun ls hl => ?_)
    refine lv_aload_n hx hb dX7_on_6 rfl (lv_at hl 0 rfl) ?_
    refine lv_ifnonnull (tgt := 12) hx hb dX7_on_7 (by decide) ?_
    refine lv_aload_n hx hb dX7_on_12 rfl (lv_at hl 0 rfl) ?_
    refine g7_81 ha hP o (oDd_lt0 ho) (sDd ho) (v := .int (σ o 0)) rfl dX7_on_13 ?_
    refine lv_iconst (v := (-1)) hx hb dX7_on_16 (by decide) ?_
    refine lv_icmp_ne (tgt := 26) hx hb dX7_on_17 (by decide) (fun c_2 => ?_) (fun c_2 => ?_)
    · have t_2 := i_ne c_2
      refine lv_aload_n hx hb dX7_on_26 rfl (lv_at hl 1 rfl) ?_
      refine g7_43 ha hP 0 (by decide) (cX_0 G _) (v := .ref (G.1 25)) rfl dX7_on_27 ?_
      refine lv_aload_n hx hb dX7_on_30 rfl (lv_at hl 0 rfl) ?_
      refine xVv ha hP hS (y := yX0_take) (As := [.ref (G.1 o)]) (rest := []) 25 (by decide) (cX_25 G _) rfl rfl (c_X0_take G l σ 25 o (by unfold oDd; omega) ho (by first | assumption | omega)) kw_X7_193 hd_X0_take rfl ⟨rfl, rfl⟩ ⟨Nat.le_of_ble_eq_true rfl, Nat.le_of_ble_eq_true rfl⟩ ⟨Nat.zero_le _, Nat.zero_le _⟩ hl.1 (Nat.le_of_ble_eq_true rfl) rfl dX7_on_31 (fun u H locs hpq hP hS => ?_)
      have hpq := hpq.symm
      subst hpq
      refine lv_aload_n hx hb dX7_on_34 rfl (lv_at hl 1 rfl) ?_
      refine g7_33 ha hP 0 (by decide) (cX_0 G _) (v := .ref (G.1 45)) rfl dX7_on_35 ?_
      refine lv_aload_n hx hb dX7_on_38 rfl (lv_at hl 1 rfl) ?_
      refine g7_43 ha hP 0 (by decide) (cX_0 G _) (v := .ref (G.1 25)) rfl dX7_on_39 ?_
      refine xVv ha hP hS (y := yX4_replay) (As := [.ref (G.1 25)]) (rest := []) 45 (by decide) (cX_45 G _) rfl rfl (c_X4_replay G l (m_takeD σ 25 o)  (PO_eq hp (m_takeD_n _ _ _ (by first | omega | (unfold oDd at *; omega) | (unfold oRow at *; omega)) (by first | omega | (unfold oDd at *; omega) | (unfold oRow at *; omega))))) kw_X7_185 hd_X4_replay rfl ⟨rfl, rfl⟩ ⟨Nat.le_of_ble_eq_true rfl, Nat.le_of_ble_eq_true rfl⟩ ⟨Nat.zero_le _, Nat.zero_le _⟩ hl.1 (Nat.le_of_ble_eq_true rfl) rfl dX7_on_42 (fun u H locs hpq hP hS => ?_)
      have hpq := hpq.symm
      subst hpq
      refine lv_aload_n hx hb dX7_on_45 rfl (lv_at hl 1 rfl) ?_
      refine g7_43 ha hP 0 (by decide) (cX_0 G _) (v := .ref (G.1 25)) rfl dX7_on_46 ?_
      refine g7_81 ha hP 25 (by decide) (cX_25 G _) (v := .int ((m_replay (m_takeD σ 25 o)) 25 0)) rfl dX7_on_49 ?_
      exact xiret ha hP hS dX7_on_52 ⟨by (try subst eo); (try subst eo2); simp [k_on, t_1, c_2, i_leN, -Int32.not_lt], (by (try subst eo); (try subst eo2); simp [k_on, t_1, c_2, i_leN, -Int32.not_lt])⟩ rfl
    · have t_2 := i_eq c_2
      refine lv_aload_n hx hb dX7_on_20 rfl (lv_at hl 1 rfl) ?_
      refine lv_iconst (v := 1) hx hb dX7_on_21 (by decide) ?_
      refine xVi ha hP hS (y := yX7_found) (As := [.int 1]) (rest := []) 0 (by decide) (cX_0 G _) rfl rfl (c_X7_found G l σ 1 ) kw_X7_97 hd_X7_found rfl ⟨rfl, rfl⟩ ⟨Nat.le_of_ble_eq_true rfl, Nat.le_of_ble_eq_true rfl⟩ ⟨Nat.zero_le _, Nat.zero_le _⟩ hl.1 (Nat.le_of_ble_eq_true rfl) rfl dX7_on_22 (fun r u H locs hpq hP hS => ?_)
      obtain ⟨hr_, hu_⟩ := hpq
      have hr_ := hr_.symm
      have hu_ := hu_.symm
      subst hr_
      subst hu_
      exact xiret ha hP hS dX7_on_25 ⟨by (try subst eo); (try subst eo2); simp [k_on, t_1, c_2, i_leN, -Int32.not_lt], (by (try subst eo); (try subst eo2); simp [k_on, t_1, c_2, i_leN, -Int32.not_lt])⟩ rfl
  · rw [show va_rf (if a_in ro 3 = true then some (G.1 (27 + 2 * ix ro)) else none) = .null from by rw [if_neg t_1]; rfl]
    refine lv_astore_nN (lv' := [(2, .null), (0, .ref (G.1 0)), (1, .int ro)]) hx hb dX7_on_5 rfl hl (by decide) rfl (fun ls hl => ?_)
    refine lv_aload_nN hx hb dX7_on_6 rfl (lv_at hl 0 rfl) ?_
    refine lv_ifnonnullN hx hb dX7_on_7 ?_
    refine lv_iconst (v := (-1)) hx hb dX7_on_10 (by decide) ?_
    exact xiret ha hP hS dX7_on_11 ⟨by (try subst eo); (try subst eo2); simp [k_on, t_1, i_leN, -Int32.not_lt], (by (try subst eo); (try subst eo2); simp [k_on, t_1, i_leN, -Int32.not_lt])⟩ rfl
set_option maxHeartbeats 4000000 in
set_option maxRecDepth 100000 in
theorem c_X7_holds (G : GT) (l : Launch) (σ : Mem)  (hp : PO 33 σ) : CI G 74 (cX G) l yX7_holds ({ frames := 5, cells := 0, slots := 0, locals := 111 } : Room) cX7_holds 3 (some .int) [.ref (G.1 0)] σ (fun (r : Int32) u => r = (k_holds σ ).1 ∧ u = (k_holds σ ).2) := by
  intro sz
  refine xbegin (by decide) (Nat.le_of_ble_eq_true rfl) ?_
  intro p e s m below meth c ls hsz ha hP hl
  subst hsz
  have hx := ha.1
  have hb := ha.2.1
  have hS : va_S (xA G 74 s.heap.size) s.heap s.heap [] := va_S.rf
  have hl : lv_has ls 3 [(0, .ref (G.1 0))] := hl
  have k_m4 : (-4 : Int32).toInt = -4 := by decide
  have k_0 : (0 : Int32).toInt = 0 := by decide
  obtain ⟨hn, hn4, hnt⟩ := PO_pl hp
  refine lv_aload_n hx hb dX7_holds_0 rfl (lv_at hl 0 rfl) ?_
  refine g7_21 ha hP 0 (by decide) (cX_0 G _) (v := .ref (G.1 33)) rfl dX7_holds_1 ?_
  refine xVi ha hP hS (y := yX2_isEmpty) (As := []) (rest := []) 33 (by decide) (cX_33 G _) rfl rfl (c_X2_isEmpty G l σ 33 (by unfold oPl; omega)) kw_X7_182 hd_X2_isEmpty rfl ⟨rfl, rfl⟩ ⟨Nat.le_of_ble_eq_true rfl, Nat.le_of_ble_eq_true rfl⟩ ⟨Nat.zero_le _, Nat.zero_le _⟩ hl.1 (Nat.le_of_ble_eq_true rfl) rfl dX7_holds_4 (fun r u H locs hpq hP hS => ?_)
  obtain ⟨hr_, hu_⟩ := hpq
  have hr_ := hr_.symm
  have hu_ := hu_.symm
  subst hr_
  subst hu_
  refine lv_if_eq (tgt := 13) hx hb dX7_holds_7 (by decide) (fun c_1 => ?_) (fun c_1 => ?_)
  · have t_1 := b2i_f c_1
    have f_1 := of_decide_eq_false t_1
    refine lv_iconst (v := 0) hx hb dX7_holds_13 (by decide) ?_
    refine lv_istore_n (lv' := [(1, .int 0), (0, .ref (G.1 0))]) hx hb dX7_holds_14 rfl hl (by decide) rfl (fun ls hl => ?_)
    refine lv_iconst (v := 0) hx hb dX7_holds_15 (by decide) ?_
    refine lv_istore_n (lv' := [(2, .int 0), (1, .int 0), (0, .ref (G.1 0))]) hx hb dX7_holds_16 rfl hl (by decide) rfl (fun ls hl => ?_)
    have lp_17 : ∀ (d j : Nat) (x1 : Int32) (H : Heap) (locs : List Loc) (ls : Array Slot), j ≤ (ix (σ 33 0)) → (ix (σ 33 0)) - j < d → x1 = a_sum (fun k => if a_isUp (vP σ 33) (vS σ 45) (nI k) = true then imax 0 (a_load (vP σ 33) (vS σ 45) (nI k) - a_bearsNow (vP σ 33) (vS σ 45) (nI k)) else 0) j → va_P G.2.1 vwCl (wl G 74 (cX G σ)) H → va_S (xA G 74 s.heap.size) s.heap H locs → lv_has ls 3 [(2, .int (nI j)), (1, .int x1), (0, .ref (G.1 0))] → W p l e ({ frames := 5, cells := 0, slots := 0, locals := 111 } : Room) s m ([.ref (G.1 0)] : List Value).toArray below meth c H locs 0 0 (MQ below (va_Qi (fun (r : Int32) u => r = (k_holds σ ).1 ∧ u = (k_holds σ ).2) (xB G 74 (cX G)) (xA G 74 s.heap.size)) ([.ref (G.1 0)] : List Value).toArray s 0 0 (xA G 74 s.heap.size)) (F0 m 17 ls []) := by
      intro d
      induction d with
      | zero => intro j x1 H locs ls hj hd; exact absurd hd (Nat.not_lt_zero _)
      | succ d ih_17 =>
        intro j x1 H locs ls hj_j hd_j e_x1 hP hS hl
        have h31_j : (nI j).toInt = (j : Int) := nI_toInt (by omega)
        refine lv_iload_n hx hb dX7_holds_17 rfl (lv_at hl 0 rfl) ?_
        refine lv_aload_n hx hb dX7_holds_18 rfl (lv_at hl 2 rfl) ?_
        refine g7_21 ha hP 0 (by decide) (cX_0 G _) (v := .ref (G.1 33)) rfl dX7_holds_19 ?_
        refine g7_137 ha hP 33 (by decide) (cX_33 G _) (v := .int (σ 33 0)) rfl dX7_holds_22 ?_
        refine lv_icmp_ge (tgt := 69) hx hb dX7_holds_25 (by decide) (fun c_2 => ?_) (fun c_2 => ?_)
        · have t_2 := i_le c_2
          have u_2 := u_le c_2
          obtain rfl : j = (ix (σ 33 0)) := by omega
          refine lv_aload_n hx hb dX7_holds_69 rfl (lv_at hl 2 rfl) ?_
          refine lv_iload_n hx hb dX7_holds_70 rfl (lv_at hl 1 rfl) ?_
          refine xVi ha hP hS (y := yX7_tell) (As := [.int x1]) (rest := []) 0 (by decide) (cX_0 G _) rfl rfl (c_X7_tell G l σ x1 ) kw_X7_107 hd_X7_tell rfl ⟨rfl, rfl⟩ ⟨Nat.le_of_ble_eq_true rfl, Nat.le_of_ble_eq_true rfl⟩ ⟨Nat.zero_le _, Nat.zero_le _⟩ hl.1 (Nat.le_of_ble_eq_true rfl) rfl dX7_holds_71 (fun r u H locs hpq hP hS => ?_)
          obtain ⟨hr_, hu_⟩ := hpq
          have hr_ := hr_.symm
          have hu_ := hu_.symm
          subst hr_
          subst hu_
          refine lv_pop hx hb dX7_holds_74 rfl ?_
          refine lv_aload_n hx hb dX7_holds_75 rfl (lv_at hl 2 rfl) ?_
          refine g7_33 ha hP 0 (by decide) (cX_0 G _) (v := .ref (G.1 45)) rfl dX7_holds_76 ?_
          refine xVi ha hP hS (y := yX4_standing) (As := []) (rest := []) 45 (by decide) (cX_45 G _) rfl rfl (c_X4_standing G l (mU σ 0 1 x1) 45 (by unfold oSc; omega) (PO_mU hp (by decide))) kw_X7_204 hd_X4_standing rfl ⟨rfl, rfl⟩ ⟨Nat.le_of_ble_eq_true rfl, Nat.le_of_ble_eq_true rfl⟩ ⟨Nat.zero_le _, Nat.zero_le _⟩ hl.1 (Nat.le_of_ble_eq_true rfl) rfl dX7_holds_79 (fun r u H locs hpq hP hS => ?_)
          obtain ⟨hr_, hu_⟩ := hpq
          have hr_ := hr_.symm
          have hu_ := hu_.symm
          subst hr_
          subst hu_
          rw [((vP_mU _ _ _ (by decide)).trans rfl)]
          rw [((vS_mU _ _ _ (by decide)).trans rfl)]
          exact xiret ha hP hS dX7_holds_82 ⟨by (try subst eo); (try subst eo2); simp [k_holds, t_1, f_1, e_x1, u_2, i_leN, -Int32.not_lt], (by simp [k_holds, a_excess, nPl, vP_0, t_1, f_1, e_x1, u_2])⟩ rfl
        · have t_2 := i_nle c_2
          have u_2 := u_nle c_2
          have hlt_j : j < (ix (σ 33 0)) := by omega
          refine lv_aload_n hx hb dX7_holds_28 rfl (lv_at hl 2 rfl) ?_
          refine g7_33 ha hP 0 (by decide) (cX_0 G _) (v := .ref (G.1 45)) rfl dX7_holds_29 ?_
          refine lv_iload_n hx hb dX7_holds_32 rfl (lv_at hl 0 rfl) ?_
          refine xVi ha hP hS (y := yX4_isUp) (As := [.int (nI j)]) (rest := []) 45 (by decide) (cX_45 G _) rfl rfl (c_X4_isUp G l σ 45 (nI j) (by unfold oSc; omega)) kw_X7_172 hd_X4_isUp rfl ⟨rfl, rfl⟩ ⟨Nat.le_of_ble_eq_true rfl, Nat.le_of_ble_eq_true rfl⟩ ⟨Nat.zero_le _, Nat.zero_le _⟩ hl.1 (Nat.le_of_ble_eq_true rfl) rfl dX7_holds_33 (fun r u H locs hpq hP hS => ?_)
          obtain ⟨hr_, hu_⟩ := hpq
          have hr_ := hr_.symm
          have hu_ := hu_.symm
          subst hr_
          subst hu_
          refine lv_if_eq (tgt := 63) hx hb dX7_holds_36 (by decide) (fun c_3 => ?_) (fun c_3 => ?_)
          · have t_3 := b2i_f c_3
            refine lv_iinc (v := (nI (j + 1))) (lv' := [(2, .int (nI (j + 1))), (1, .int x1), (0, .ref (G.1 0))]) hx hb dX7_holds_63 hl (k := 0) rfl (nI_1 j) (by decide) rfl (fun ls hl => ?_)
            refine lv_goto (tgt := 17) hx hb dX7_holds_66 (by decide) ?_
            exact ih_17 (j + 1) x1 _ _ _ (by omega) (by omega) (by simp [a_sum, i_leN, t_1, f_1, e_x1, u_2, t_3, -Int32.not_lt] <;> first | rfl | simp_all) hP hS (lv_sub hl [0, 1, 2] rfl)
          · have t_3 := b2i_t c_3
            refine lv_iload_n hx hb dX7_holds_39 rfl (lv_at hl 1 rfl) ?_
            refine lv_iconst (v := 0) hx hb dX7_holds_40 (by decide) ?_
            refine lv_aload_n hx hb dX7_holds_41 rfl (lv_at hl 2 rfl) ?_
            refine g7_33 ha hP 0 (by decide) (cX_0 G _) (v := .ref (G.1 45)) rfl dX7_holds_42 ?_
            refine lv_iload_n hx hb dX7_holds_45 rfl (lv_at hl 0 rfl) ?_
            refine xVi ha hP hS (y := yX4_loadOn) (As := [.int (nI j)]) (rest := [.int 0, .int x1]) 45 (by decide) (cX_45 G _) rfl rfl (c_X4_loadOn G l σ 45 (nI j) (by unfold oSc; omega) hp) kw_X7_196 hd_X4_loadOn rfl ⟨rfl, rfl⟩ ⟨Nat.le_of_ble_eq_true rfl, Nat.le_of_ble_eq_true rfl⟩ ⟨Nat.zero_le _, Nat.zero_le _⟩ hl.1 (Nat.le_of_ble_eq_true rfl) rfl dX7_holds_46 (fun r u H locs hpq hP hS => ?_)
            obtain ⟨hr_, hu_⟩ := hpq
            have hr_ := hr_.symm
            have hu_ := hu_.symm
            subst hr_
            subst hu_
            refine lv_aload_n hx hb dX7_holds_49 rfl (lv_at hl 2 rfl) ?_
            refine g7_33 ha hP 0 (by decide) (cX_0 G _) (v := .ref (G.1 45)) rfl dX7_holds_50 ?_
            refine lv_iload_n hx hb dX7_holds_53 rfl (lv_at hl 0 rfl) ?_
            refine xVi ha hP hS (y := yX4_bearsNow) (As := [.int (nI j)]) (rest := [.int (a_load (vP σ 33) (vS σ 45) (nI j)), .int 0, .int x1]) 45 (by decide) (cX_45 G _) rfl rfl (c_X4_bearsNow G l σ 45 (nI j) (by unfold oSc; omega) hp) kw_X7_160 hd_X4_bearsNow rfl ⟨rfl, rfl⟩ ⟨Nat.le_of_ble_eq_true rfl, Nat.le_of_ble_eq_true rfl⟩ ⟨Nat.zero_le _, Nat.zero_le _⟩ hl.1 (Nat.le_of_ble_eq_true rfl) rfl dX7_holds_54 (fun r u H locs hpq hP hS => ?_)
            obtain ⟨hr_, hu_⟩ := hpq
            have hr_ := hr_.symm
            have hu_ := hu_.symm
            subst hr_
            subst hu_
            refine lv_isub hx hb dX7_holds_57 ?_
            refine xmmax ha (tb_in (w := .methodLink RX7 199 Lib.Math.max.name) (by decide +kernel)) hl.1 (by decide) (Nat.le_of_ble_eq_true rfl) ⟨Nat.zero_le _, Nat.zero_le _⟩ dX7_holds_58 ?_
            refine lv_iadd hx hb dX7_holds_61 ?_
            refine lv_istore_n (lv' := [(1, .int (x1 + (imax 0 ((a_load (vP σ 33) (vS σ 45) (nI j)) - (a_bearsNow (vP σ 33) (vS σ 45) (nI j)))))), (2, .int (nI j)), (0, .ref (G.1 0))]) hx hb dX7_holds_62 rfl hl (by decide) rfl (fun ls hl => ?_)
            refine lv_iinc (v := (nI (j + 1))) (lv' := [(2, .int (nI (j + 1))), (1, .int (x1 + (imax 0 ((a_load (vP σ 33) (vS σ 45) (nI j)) - (a_bearsNow (vP σ 33) (vS σ 45) (nI j)))))), (0, .ref (G.1 0))]) hx hb dX7_holds_63 hl (k := 1) rfl (nI_1 j) (by decide) rfl (fun ls hl => ?_)
            refine lv_goto (tgt := 17) hx hb dX7_holds_66 (by decide) ?_
            exact ih_17 (j + 1) (x1 + (imax 0 ((a_load (vP σ 33) (vS σ 45) (nI j)) - (a_bearsNow (vP σ 33) (vS σ 45) (nI j))))) _ _ _ (by omega) (by omega) (by simp [a_sum, i_leN, t_1, f_1, e_x1, u_2, t_3, -Int32.not_lt] <;> first | rfl | simp_all) hP hS (lv_sub hl [0, 1, 2] rfl)
    exact lp_17 ((ix (σ 33 0)) - 0 + 1) 0 0 _ _ _ (by omega) (by omega) (by first | rfl | simp [a_sum, i_leN, t_1, f_1, -Int32.not_lt] <;> first | rfl | simp_all) hP hS (lv_sub hl [0, 1, 2] rfl)
  · have t_1 := b2i_t c_1
    have f_1 := of_decide_eq_true t_1
    refine lv_bipush (v := (-4)) hx hb dX7_holds_10 (by decide) ?_
    exact xiret ha hP hS dX7_holds_12 ⟨by (try subst eo); (try subst eo2); simp [k_holds, t_1, f_1, i_leN, -Int32.not_lt], (by (try subst eo); (try subst eo2); simp [k_holds, t_1, f_1, i_leN, -Int32.not_lt])⟩ rfl
set_option maxHeartbeats 4000000 in
set_option maxRecDepth 100000 in
theorem c_X7_gives (G : GT) (l : Launch) (σ : Mem) (k : Int32) (hp : PO 33 σ) : CI G 74 (cX G) l yX7_gives ({ frames := 3, cells := 0, slots := 0, locals := 69 } : Room) cX7_gives 5 (some .int) [.ref (G.1 0), .int k] σ (fun (r : Int32) u => r = k_gives σ k ∧ u = σ) := by
  intro sz
  refine xbegin (by decide) (Nat.le_of_ble_eq_true rfl) ?_
  intro p e s m below meth c ls hsz ha hP hl
  subst hsz
  have hx := ha.1
  have hb := ha.2.1
  have hS : va_S (xA G 74 s.heap.size) s.heap s.heap [] := va_S.rf
  have hl : lv_has ls 5 [(0, .ref (G.1 0)), (1, .int k)] := hl
  have k_m9 : (-9 : Int32).toInt = -9 := by decide
  have k_m1 : (-1 : Int32).toInt = -1 := by decide
  have k_0 : (0 : Int32).toInt = 0 := by decide
  have k_1 : (1 : Int32).toInt = 1 := by decide
  have k_40 : (40 : Int32).toInt = 40 := by decide
  have hp1 := hp.2.1
  refine lv_aload_n hx hb dX7_gives_0 rfl (lv_at hl 0 rfl) ?_
  refine g7_21 ha hP 0 (by decide) (cX_0 G _) (v := .ref (G.1 33)) rfl dX7_gives_1 ?_
  refine lv_iload_n hx hb dX7_gives_4 rfl (lv_at hl 1 rfl) ?_
  refine xVi ha hP hS (y := yX2_isPole) (As := [.int k]) (rest := []) 33 (by decide) (cX_33 G _) rfl rfl (c_X2_isPole G l σ 33 k (by unfold oPl; omega)) kw_X7_140 hd_X2_isPole rfl ⟨rfl, rfl⟩ ⟨Nat.le_of_ble_eq_true rfl, Nat.le_of_ble_eq_true rfl⟩ ⟨Nat.zero_le _, Nat.zero_le _⟩ hl.1 (Nat.le_of_ble_eq_true rfl) rfl dX7_gives_5 (fun r u H locs hpq hP hS => ?_)
  obtain ⟨hr_, hu_⟩ := hpq
  have hr_ := hr_.symm
  have hu_ := hu_.symm
  subst hr_
  subst hu_
  refine lv_if_ne (tgt := 13) hx hb dX7_gives_8 (by decide) (fun c_1 => ?_) (fun c_1 => ?_)
  · have t_1 := b2i_t c_1
    have f_1 := isPole_t t_1
    refine lv_aload_n hx hb dX7_gives_13 rfl (lv_at hl 0 rfl) ?_
    refine g7_33 ha hP 0 (by decide) (cX_0 G _) (v := .ref (G.1 45)) rfl dX7_gives_14 ?_
    refine lv_iload_n hx hb dX7_gives_17 rfl (lv_at hl 1 rfl) ?_
    refine xVi ha hP hS (y := yX4_isUp) (As := [.int k]) (rest := []) 45 (by decide) (cX_45 G _) rfl rfl (c_X4_isUp G l σ 45 k (by unfold oSc; omega)) kw_X7_172 hd_X4_isUp rfl ⟨rfl, rfl⟩ ⟨Nat.le_of_ble_eq_true rfl, Nat.le_of_ble_eq_true rfl⟩ ⟨Nat.zero_le _, Nat.zero_le _⟩ hl.1 (Nat.le_of_ble_eq_true rfl) rfl dX7_gives_18 (fun r u H locs hpq hP hS => ?_)
    obtain ⟨hr_, hu_⟩ := hpq
    have hr_ := hr_.symm
    have hu_ := hu_.symm
    subst hr_
    subst hu_
    refine lv_if_ne (tgt := 27) hx hb dX7_gives_21 (by decide) (fun c_2 => ?_) (fun c_2 => ?_)
    · have t_2 := b2i_t c_2
      refine lv_aload_n hx hb dX7_gives_27 rfl (lv_at hl 0 rfl) ?_
      refine g7_33 ha hP 0 (by decide) (cX_0 G _) (v := .ref (G.1 45)) rfl dX7_gives_28 ?_
      refine lv_iload_n hx hb dX7_gives_31 rfl (lv_at hl 1 rfl) ?_
      refine xVi ha hP hS (y := yX4_loadOn) (As := [.int k]) (rest := []) 45 (by decide) (cX_45 G _) rfl rfl (c_X4_loadOn G l σ 45 k (by unfold oSc; omega) hp) kw_X7_196 hd_X4_loadOn rfl ⟨rfl, rfl⟩ ⟨Nat.le_of_ble_eq_true rfl, Nat.le_of_ble_eq_true rfl⟩ ⟨Nat.zero_le _, Nat.zero_le _⟩ hl.1 (Nat.le_of_ble_eq_true rfl) rfl dX7_gives_32 (fun r u H locs hpq hP hS => ?_)
      obtain ⟨hr_, hu_⟩ := hpq
      have hr_ := hr_.symm
      have hu_ := hu_.symm
      subst hr_
      subst hu_
      refine lv_istore_n (lv' := [(2, .int (a_load (vP σ 33) (vS σ 45) k)), (0, .ref (G.1 0)), (1, .int k)]) hx hb dX7_gives_35 rfl hl (by decide) rfl (fun ls hl => ?_)
      refine lv_aload_n hx hb dX7_gives_36 rfl (lv_at hl 1 rfl) ?_
      refine g7_33 ha hP 0 (by decide) (cX_0 G _) (v := .ref (G.1 45)) rfl dX7_gives_37 ?_
      refine g7_208 ha hP 45 (by decide) (cX_45 G _) (v := .ref (G.1 46)) rfl dX7_gives_40 ?_
      refine lv_iload_n hx hb dX7_gives_43 rfl (lv_at hl 2 rfl) ?_
      refine xialdN ha hP 46 (by decide) (cX_46 G _) (ix k) (ix_nI (by omega)) (ix_lt (by omega) (by omega)) (by decide) dX7_gives_44 ?_
      refine lv_istore_n (lv' := [(3, .int (σ 46 (ix k))), (2, .int (a_load (vP σ 33) (vS σ 45) k)), (0, .ref (G.1 0)), (1, .int k)]) hx hb dX7_gives_45 rfl hl (by decide) rfl (fun ls hl => ?_)
      refine lv_iconst (v := 1) hx hb dX7_gives_46 (by decide) ?_
      refine lv_istore (lv' := [(4, .int 1), (3, .int (σ 46 (ix k))), (2, .int (a_load (vP σ 33) (vS σ 45) k)), (0, .ref (G.1 0)), (1, .int k)]) hx hb dX7_gives_47 hl (by decide) rfl (fun ls hl => ?_)
      have lp_49 : ∀ (d j : Nat) (x3 : Int32) (H : Heap) (locs : List Loc) (ls : Array Slot), j ≤ 40 → 40 - j < d → x3 = wornN (if 0 < a_load (vP σ 33) (vS σ 45) k then 1 else 0) (σ 46 (ix k)) j → (fstN (gv_at (vP σ 33) k (a_load (vP σ 33) (vS σ 45) k) (σ 46 (ix k))) j = j) → va_P G.2.1 vwCl (wl G 74 (cX G σ)) H → va_S (xA G 74 s.heap.size) s.heap H locs → lv_has ls 5 [(4, .int (nI (j + 1))), (3, .int x3), (2, .int (a_load (vP σ 33) (vS σ 45) k)), (0, .ref (G.1 0)), (1, .int k)] → W p l e ({ frames := 3, cells := 0, slots := 0, locals := 69 } : Room) s m ([.ref (G.1 0), .int k] : List Value).toArray below meth c H locs 0 0 (MQ below (va_Qi (fun (r : Int32) u => r = k_gives σ k ∧ u = σ) (xB G 74 (cX G)) (xA G 74 s.heap.size)) ([.ref (G.1 0), .int k] : List Value).toArray s 0 0 (xA G 74 s.heap.size)) (F0 m 49 ls []) := by
        intro d
        induction d with
        | zero => intro j x3 H locs ls hj hd; exact absurd hd (Nat.not_lt_zero _)
        | succ d ih_49 =>
          intro j x3 H locs ls hj_j hd_j e_x3 hst hP hS hl
          have h31_j : (nI j).toInt = (j : Int) := nI_toInt (by omega)
          have h32_j : (nI (j + 1)).toInt = ((j + 1 : Nat) : Int) := nI_toInt (by omega)
          refine lv_iload hx hb dX7_gives_49 (lv_at hl 0 rfl) ?_
          refine lv_bipush (v := 40) hx hb dX7_gives_51 (by decide) ?_
          refine lv_icmp_gt (tgt := 92) hx hb dX7_gives_53 (by decide) (fun c_3 => ?_) (fun c_3 => ?_)
          · have t_3 := i_lt c_3
            obtain rfl : j = 40 := by omega
            refine lv_bipush (v := (-9)) hx hb dX7_gives_92 (by decide) ?_
            exact xiret ha hP hS dX7_gives_94 ⟨by simp [k_gives, a_gives, t_1, t_2, c_3, vS_1, hst, i_leN, -Int32.not_lt], rfl⟩ rfl
          · have t_3 := i_nlt c_3
            have hlt_j : j < 40 := by omega
            refine lv_iload_n hx hb dX7_gives_56 rfl (lv_at hl 2 rfl) ?_
            refine lv_aload_n hx hb dX7_gives_57 rfl (lv_at hl 3 rfl) ?_
            refine g7_21 ha hP 0 (by decide) (cX_0 G _) (v := .ref (G.1 33)) rfl dX7_gives_58 ?_
            refine lv_iload_n hx hb dX7_gives_61 rfl (lv_at hl 4 rfl) ?_
            refine lv_iload_n hx hb dX7_gives_62 rfl (lv_at hl 1 rfl) ?_
            refine xVi ha hP hS (y := yX2_bearsWith) (As := [.int k, .int x3]) (rest := [.int (a_load (vP σ 33) (vS σ 45) k)]) 33 (by decide) (cX_33 G _) rfl rfl (c_X2_bearsWith G l σ 33 k x3 (by unfold oPl; omega)) kw_X7_166 hd_X2_bearsWith rfl ⟨rfl, rfl⟩ ⟨Nat.le_of_ble_eq_true rfl, Nat.le_of_ble_eq_true rfl⟩ ⟨Nat.zero_le _, Nat.zero_le _⟩ hl.1 (Nat.le_of_ble_eq_true rfl) rfl dX7_gives_63 (fun r u H locs hpq hP hS => ?_)
            obtain ⟨hr_, hu_⟩ := hpq
            have hr_ := hr_.symm
            have hu_ := hu_.symm
            subst hr_
            subst hu_
            refine lv_icmp_le (tgt := 72) hx hb dX7_gives_66 (by decide) (fun c_4 => ?_) (fun c_4 => ?_)
            · have t_4 := i_le c_4
              have u_4 := u_le c_4
              refine lv_iload_n hx hb dX7_gives_72 rfl (lv_at hl 1 rfl) ?_
              refine lv_iload_n hx hb dX7_gives_73 rfl (lv_at hl 2 rfl) ?_
              have jn_5 : ∀ x_5 : Int32, x_5 = (if 0 < (a_load (vP σ 33) (vS σ 45) k) then 1 else 0) → W p l e ({ frames := 3, cells := 0, slots := 0, locals := 69 } : Room) s m ([.ref (G.1 0), .int k] : List Value).toArray below meth c H locs 0 0 (MQ below (va_Qi (fun (r : Int32) u => r = k_gives σ k ∧ u = σ) (xB G 74 (cX G)) (xA G 74 s.heap.size)) ([.ref (G.1 0), .int k] : List Value).toArray s 0 0 (xA G 74 s.heap.size)) (F0 m 82 ls [.int x_5, .int x3]) := by
                intro x_5 ex_5
                refine xSi ha hP hS (y := yX7_worn) (As := [.int x3, .int x_5]) (rest := []) rfl (c_X7_worn G l σ x3 x_5 ) kw_X7_211 hd_X7_worn rfl ⟨rfl, rfl⟩ ⟨Nat.le_of_ble_eq_true rfl, Nat.le_of_ble_eq_true rfl⟩ ⟨Nat.zero_le _, Nat.zero_le _⟩ hl.1 (Nat.le_of_ble_eq_true rfl) rfl dX7_gives_82 (fun r u H locs hpq hP hS => ?_)
                obtain ⟨hr_, hu_⟩ := hpq
                have hr_ := hr_.symm
                have hu_ := hu_.symm
                subst hr_
                subst hu_
                refine lv_istore_n (lv' := [(3, .int (a_worn x3 x_5)), (4, .int (nI (j + 1))), (2, .int (a_load (vP σ 33) (vS σ 45) k)), (0, .ref (G.1 0)), (1, .int k)]) hx hb dX7_gives_85 rfl hl (by decide) rfl (fun ls hl => ?_)
                refine lv_iinc (v := (nI ((j + 1) + 1))) (lv' := [(4, .int (nI ((j + 1) + 1))), (3, .int (a_worn x3 x_5)), (2, .int (a_load (vP σ 33) (vS σ 45) k)), (0, .ref (G.1 0)), (1, .int k)]) hx hb dX7_gives_86 hl (k := 1) rfl (nI_1 (j + 1)) (by decide) rfl (fun ls hl => ?_)
                refine lv_goto (tgt := 49) hx hb dX7_gives_89 (by decide) ?_
                exact ih_49 (j + 1) (a_worn x3 x_5) _ _ _ (by omega) (by omega) (by rw [e_x3]; simp [wornN, t_1, t_2, c_3, u_4, ex_5, e_x3]) (fstN_s hst (by rw [gv_at, ← e_x3]; simp [t_1, t_2, c_3, u_4, ex_5])) hP hS (lv_sub hl [0, 1, 2, 3, 4] rfl)
              refine lv_if_le (tgt := 81) hx hb dX7_gives_74 (by decide) (fun c_5 => ?_) (fun c_5 => ?_)
              · have t_5 := i_le c_5
                refine lv_iconst (v := 0) hx hb dX7_gives_81 (by decide) ?_
                exact jn_5 _ (if_neg (u_le c_5)).symm
              · have t_5 := i_nle c_5
                refine lv_iconst (v := 1) hx hb dX7_gives_77 (by decide) ?_
                refine lv_goto (tgt := 82) hx hb dX7_gives_78 (by decide) ?_
                exact jn_5 _ (if_pos (u_nle c_5)).symm
            · have t_4 := i_nle c_4
              have u_4 := u_nle c_4
              have HB : (gv_at (vP σ 33) k (a_load (vP σ 33) (vS σ 45) k) (σ 46 (ix k))) j = true := by rw [gv_at, ← e_x3]; simp [t_1, t_2, c_3, u_4]
              have HS := fstN_b hst HB 40 (by omega)
              refine lv_iload hx hb dX7_gives_69 (lv_at hl 0 rfl) ?_
              exact xiret ha hP hS dX7_gives_71 ⟨by simp [k_gives, a_gives, t_1, t_2, c_3, u_4, vS_1, HS, i_leN, -Int32.not_lt]; try omega, rfl⟩ rfl
      exact lp_49 (40 - 0 + 1) 0 (σ 46 (ix k)) _ _ _ (by omega) (by omega) rfl rfl hP hS (lv_sub hl [0, 1, 2, 3, 4] rfl)
    · have t_2 := b2i_f c_2
      refine lv_bipush (v := (-9)) hx hb dX7_gives_24 (by decide) ?_
      exact xiret ha hP hS dX7_gives_26 ⟨by simp [k_gives, t_1, t_2, i_leN, -Int32.not_lt], rfl⟩ rfl
  · have t_1 := b2i_f c_1
    refine lv_iconst (v := (-1)) hx hb dX7_gives_11 (by decide) ?_
    exact xiret ha hP hS dX7_gives_12 ⟨by simp [k_gives, t_1, i_leN, -Int32.not_lt], rfl⟩ rfl
set_option maxHeartbeats 4000000 in
set_option maxRecDepth 100000 in
theorem c_X7_later (G : GT) (l : Launch) (σ : Mem) (n : Int32) (hp : PO 33 σ) : CI G 74 (cX G) l yX7_later ({ frames := 4, cells := 0, slots := 0, locals := 91 } : Room) cX7_later 3 (some .int) [.ref (G.1 0), .int n] σ (fun (r : Int32) u => r = (k_later σ n).1 ∧ u = (k_later σ n).2) := by
  intro sz
  refine xbegin (by decide) (Nat.le_of_ble_eq_true rfl) ?_
  intro p e s m below meth c ls hsz ha hP hl
  subst hsz
  have hx := ha.1
  have hb := ha.2.1
  have hS : va_S (xA G 74 s.heap.size) s.heap s.heap [] := va_S.rf
  have hl : lv_has ls 3 [(0, .ref (G.1 0)), (1, .int n)] := hl
  have k_m4 : (-4 : Int32).toInt = -4 := by decide
  have k_m1 : (-1 : Int32).toInt = -1 := by decide
  have k_0 : (0 : Int32).toInt = 0 := by decide
  have k_40 : (40 : Int32).toInt = 40 := by decide
  refine lv_iload_n hx hb dX7_later_0 rfl (lv_at hl 1 rfl) ?_
  refine lv_if_lt (tgt := 10) hx hb dX7_later_1 (by decide) (fun c_1 => ?_) (fun c_1 => ?_)
  · have t_1 := i_lt c_1
    refine lv_iconst (v := (-1)) hx hb dX7_later_10 (by decide) ?_
    exact xiret ha hP hS dX7_later_11 ⟨by (try subst eo); (try subst eo2); simp [k_later, c_1, i_leN, -Int32.not_lt], (by (try subst eo); (try subst eo2); simp [k_later, c_1, i_leN, -Int32.not_lt])⟩ rfl
  · have t_1 := i_nlt c_1
    refine lv_iload_n hx hb dX7_later_4 rfl (lv_at hl 1 rfl) ?_
    refine lv_bipush (v := 40) hx hb dX7_later_5 (by decide) ?_
    refine lv_icmp_le (tgt := 12) hx hb dX7_later_7 (by decide) (fun c_2 => ?_) (fun c_2 => ?_)
    · have t_2 := i_le c_2
      have u_2 := u_le c_2
      refine lv_aload_n hx hb dX7_later_12 rfl (lv_at hl 0 rfl) ?_
      refine g7_21 ha hP 0 (by decide) (cX_0 G _) (v := .ref (G.1 33)) rfl dX7_later_13 ?_
      refine xVi ha hP hS (y := yX2_isEmpty) (As := []) (rest := []) 33 (by decide) (cX_33 G _) rfl rfl (c_X2_isEmpty G l σ 33 (by unfold oPl; omega)) kw_X7_182 hd_X2_isEmpty rfl ⟨rfl, rfl⟩ ⟨Nat.le_of_ble_eq_true rfl, Nat.le_of_ble_eq_true rfl⟩ ⟨Nat.zero_le _, Nat.zero_le _⟩ hl.1 (Nat.le_of_ble_eq_true rfl) rfl dX7_later_16 (fun r u H locs hpq hP hS => ?_)
      obtain ⟨hr_, hu_⟩ := hpq
      have hr_ := hr_.symm
      have hu_ := hu_.symm
      subst hr_
      subst hu_
      refine lv_if_eq (tgt := 25) hx hb dX7_later_19 (by decide) (fun c_3 => ?_) (fun c_3 => ?_)
      · have t_3 := b2i_f c_3
        have f_3 := of_decide_eq_false t_3
        refine lv_aload_n hx hb dX7_later_25 rfl (lv_at hl 0 rfl) ?_
        refine g7_37 ha hP 0 (by decide) (cX_0 G _) (v := .ref (G.1 48)) rfl dX7_later_26 ?_
        refine lv_aload_n hx hb dX7_later_29 rfl (lv_at hl 0 rfl) ?_
        refine g7_33 ha hP 0 (by decide) (cX_0 G _) (v := .ref (G.1 45)) rfl dX7_later_30 ?_
        refine xVv ha hP hS (y := yX4_take) (As := [.ref (G.1 45)]) (rest := []) 48 (by decide) (cX_48 G _) rfl rfl (c_X4_take G l σ  ) kw_X7_215 hd_X4_take rfl ⟨rfl, rfl⟩ ⟨Nat.le_of_ble_eq_true rfl, Nat.le_of_ble_eq_true rfl⟩ ⟨Nat.zero_le _, Nat.zero_le _⟩ hl.1 (Nat.le_of_ble_eq_true rfl) rfl dX7_later_33 (fun u H locs hpq hP hS => ?_)
        have hpq := hpq.symm
        subst hpq
        have hni := ix_toInt (show 0 ≤ n.toInt by omega)
        refine lv_iconst (v := 0) hx hb dX7_later_36 (by decide) ?_
        refine lv_istore_n (lv' := [(2, .int 0), (0, .ref (G.1 0)), (1, .int n)]) hx hb dX7_later_37 rfl hl (by decide) rfl (fun ls hl => ?_)
        have lp_38 : ∀ (d j : Nat) (τj : Mem) (H : Heap) (locs : List Loc) (ls : Array Slot), j ≤ (ix n) → (ix n) - j < d → τj = m_yearsN (m_takeS σ) j → (PO 33 τj) → va_P G.2.1 vwCl (wl G 74 (cX G τj)) H → va_S (xA G 74 s.heap.size) s.heap H locs → lv_has ls 3 [(2, .int (nI j)), (0, .ref (G.1 0)), (1, .int n)] → W p l e ({ frames := 4, cells := 0, slots := 0, locals := 91 } : Room) s m ([.ref (G.1 0), .int n] : List Value).toArray below meth c H locs 0 0 (MQ below (va_Qi (fun (r : Int32) u => r = (k_later σ n).1 ∧ u = (k_later σ n).2) (xB G 74 (cX G)) (xA G 74 s.heap.size)) ([.ref (G.1 0), .int n] : List Value).toArray s 0 0 (xA G 74 s.heap.size)) (F0 m 38 ls []) := by
          intro d
          induction d with
          | zero => intro j τj H locs ls hj hd; exact absurd hd (Nat.not_lt_zero _)
          | succ d ih_38 =>
            intro j τj H locs ls hj_j hd_j e_τj hpj hP hS hl
            have h31_j : (nI j).toInt = (j : Int) := nI_toInt (by omega)
            have hni := ix_toInt (show 0 ≤ n.toInt by omega)
            refine lv_iload_n hx hb dX7_later_38 rfl (lv_at hl 0 rfl) ?_
            refine lv_iload_n hx hb dX7_later_39 rfl (lv_at hl 2 rfl) ?_
            refine lv_icmp_ge (tgt := 57) hx hb dX7_later_40 (by decide) (fun c_4 => ?_) (fun c_4 => ?_)
            · have t_4 := i_le c_4
              have u_4 := u_le c_4
              obtain rfl : j = (ix n) := by omega
              refine lv_aload_n hx hb dX7_later_57 rfl (lv_at hl 1 rfl) ?_
              refine lv_aload_n hx hb dX7_later_58 rfl (lv_at hl 1 rfl) ?_
              refine g7_37 ha hP 0 (by decide) (cX_0 G _) (v := .ref (G.1 48)) rfl dX7_later_59 ?_
              refine g7_221 ha hP 48 (by decide) (cX_48 G _) (v := .int (τj 48 0)) rfl dX7_later_62 ?_
              refine xVi ha hP hS (y := yX7_tell) (As := [.int (τj 48 0)]) (rest := []) 0 (by decide) (cX_0 G _) rfl rfl (c_X7_tell G l τj (τj 48 0) ) kw_X7_107 hd_X7_tell rfl ⟨rfl, rfl⟩ ⟨Nat.le_of_ble_eq_true rfl, Nat.le_of_ble_eq_true rfl⟩ ⟨Nat.zero_le _, Nat.zero_le _⟩ hl.1 (Nat.le_of_ble_eq_true rfl) rfl dX7_later_65 (fun r u H locs hpq hP hS => ?_)
              obtain ⟨hr_, hu_⟩ := hpq
              have hr_ := hr_.symm
              have hu_ := hu_.symm
              subst hr_
              subst hu_
              refine lv_pop hx hb dX7_later_68 rfl ?_
              refine lv_aload_n hx hb dX7_later_69 rfl (lv_at hl 1 rfl) ?_
              refine g7_37 ha hP 0 (by decide) (cX_0 G _) (v := .ref (G.1 48)) rfl dX7_later_70 ?_
              refine xVi ha hP hS (y := yX4_highOfAll) (As := []) (rest := []) 48 (by decide) (cX_48 G _) rfl rfl (c_X4_highOfAll G l (mU τj 0 1 (τj 48 0)) 48 (by unfold oSc; omega) (PO_mU hpj (by decide))) kw_X7_224 hd_X4_highOfAll rfl ⟨rfl, rfl⟩ ⟨Nat.le_of_ble_eq_true rfl, Nat.le_of_ble_eq_true rfl⟩ ⟨Nat.zero_le _, Nat.zero_le _⟩ hl.1 (Nat.le_of_ble_eq_true rfl) rfl dX7_later_73 (fun r u H locs hpq hP hS => ?_)
              obtain ⟨hr_, hu_⟩ := hpq
              have hr_ := hr_.symm
              have hu_ := hu_.symm
              subst hr_
              subst hu_
              exact xiret ha hP hS dX7_later_76 ⟨by rw [vP_mU _ _ _ (by decide), vS_mU _ _ _ (by decide), e_τj, show vP (m_yearsN (m_takeS σ) (ix n)) 33 = vP σ 33 from vP_eq fun q hq => (m_yearsN_n _ (by omega) _).trans (m_takeS_n _ (by omega) (by omega) (by omega))]; simp [k_later, c_1, u_2, t_3, f_3, u_4, i_leN, -Int32.not_lt], (by rw [e_τj]; simp [k_later, c_1, u_2, t_3, f_3, u_4, i_leN, -Int32.not_lt])⟩ rfl
            · have t_4 := i_nle c_4
              have u_4 := u_nle c_4
              have hlt_j : j < (ix n) := by omega
              refine lv_aload_n hx hb dX7_later_43 rfl (lv_at hl 1 rfl) ?_
              refine g7_37 ha hP 0 (by decide) (cX_0 G _) (v := .ref (G.1 48)) rfl dX7_later_44 ?_
              refine xVi ha hP hS (y := yX4_passYear) (As := []) (rest := []) 48 (by decide) (cX_48 G _) rfl rfl (c_X4_passYear G l τj 48 (by unfold oSc; omega) hpj) kw_X7_218 hd_X4_passYear rfl ⟨rfl, rfl⟩ ⟨Nat.le_of_ble_eq_true rfl, Nat.le_of_ble_eq_true rfl⟩ ⟨Nat.zero_le _, Nat.zero_le _⟩ hl.1 (Nat.le_of_ble_eq_true rfl) rfl dX7_later_47 (fun r u H locs hpq hP hS => ?_)
              obtain ⟨hr_, hu_⟩ := hpq
              have hr_ := hr_.symm
              have hu_ := hu_.symm
              subst hr_
              subst hu_
              refine lv_pop hx hb dX7_later_50 rfl ?_
              refine lv_iinc (v := (nI (j + 1))) (lv' := [(2, .int (nI (j + 1))), (0, .ref (G.1 0)), (1, .int n)]) hx hb dX7_later_51 hl (k := 0) rfl (nI_1 j) (by decide) rfl (fun ls hl => ?_)
              refine lv_goto (tgt := 38) hx hb dX7_later_54 (by decide) ?_
              exact ih_38 (j + 1) (m_year τj 48) _ _ _ (by omega) (by omega) (by rw [e_τj]; rfl) (PO_eq hpj (m_year_n _ _ (by omega) (by omega) (by omega))) hP hS (lv_sub hl [0, 1, 2] rfl)
        exact lp_38 ((ix n) - 0 + 1) 0 (m_takeS σ) _ _ _ (by omega) (by omega) rfl (PO_eq hp (m_takeS_n _ (by omega) (by omega) (by omega))) hP hS (lv_sub hl [0, 1, 2] rfl)
      · have t_3 := b2i_t c_3
        have f_3 := of_decide_eq_true t_3
        refine lv_bipush (v := (-4)) hx hb dX7_later_22 (by decide) ?_
        exact xiret ha hP hS dX7_later_24 ⟨by (try subst eo); (try subst eo2); simp [k_later, c_1, u_2, t_3, f_3, i_leN, -Int32.not_lt], (by (try subst eo); (try subst eo2); simp [k_later, c_1, u_2, t_3, f_3, i_leN, -Int32.not_lt])⟩ rfl
    · have t_2 := i_nle c_2
      have u_2 := u_nle c_2
      refine lv_iconst (v := (-1)) hx hb dX7_later_10 (by decide) ?_
      exact xiret ha hP hS dX7_later_11 ⟨by (try subst eo); (try subst eo2); simp [k_later, c_1, u_2, i_leN, -Int32.not_lt], (by (try subst eo); (try subst eo2); simp [k_later, c_1, u_2, i_leN, -Int32.not_lt])⟩ rfl
set_option maxHeartbeats 4000000 in
set_option maxRecDepth 100000 in
theorem c_X7_best (G : GT) (l : Launch) (σ : Mem) (ro : Int32) (hp : PO 33 σ) : CI G 74 (cX G) l yX7_best ({ frames := 8, cells := 0, slots := 0, locals := 188 } : Room) cX7_best 3 (some .int) [.ref (G.1 0), .int ro] σ (fun (r : Int32) u => r = (k_best σ ro).1 ∧ u = (k_best σ ro).2) := by
  intro sz
  refine xbegin (by decide) (Nat.le_of_ble_eq_true rfl) ?_
  intro p e s m below meth c ls hsz ha hP hl
  subst hsz
  have hx := ha.1
  have hb := ha.2.1
  have hS : va_S (xA G 74 s.heap.size) s.heap s.heap [] := va_S.rf
  have hl : lv_has ls 3 [(0, .ref (G.1 0)), (1, .int ro)] := hl
  have k_m4 : (-4 : Int32).toInt = -4 := by decide
  have k_m1 : (-1 : Int32).toInt = -1 := by decide
  have k_0 : (0 : Int32).toInt = 0 := by decide
  have hn5 : nPe (vP σ 33) ≤ 5 := (PO_pe hp).2.1
  refine lv_aload_n hx hb dX7_best_0 rfl (lv_at hl 0 rfl) ?_
  refine lv_iload_n hx hb dX7_best_1 rfl (lv_at hl 1 rfl) ?_
  refine xVq ha hP hS (y := yX7_rowAt) (As := [.int ro]) (rest := []) 0 (by decide) (cX_0 G _) rfl rfl (c_X7_rowAt G l σ ro ) kw_X7_85 hd_X7_rowAt rfl ⟨rfl, rfl⟩ ⟨Nat.le_of_ble_eq_true rfl, Nat.le_of_ble_eq_true rfl⟩ ⟨Nat.zero_le _, Nat.zero_le _⟩ hl.1 (Nat.le_of_ble_eq_true rfl) rfl dX7_best_2 (fun r u H locs hpq hP hS => ?_)
  obtain ⟨hr_, hu_⟩ := hpq
  have hr_ := hr_.symm
  have hu_ := hu_.symm
  subst hr_
  subst hu_
  by_cases t_1 : a_in ro 6 = true
  · have f_1 := in_t t_1
    have g_1 := ix_toInt f_1.1
    rw [show (6 : Int32).toInt = 6 by decide] at f_1
    obtain ⟨o, eo⟩ : ∃ q, q = 5 + 2 * ix ro := ⟨_, rfl⟩
    have ho : oRow o := by unfold oRow; omega
    rw [show va_rf (if a_in ro 6 = true then some (G.1 (5 + 2 * ix ro)) else none) = .ref (G.1 o) from by rw [if_pos t_1, eo]; rfl]
    refine lv_astore_n (lv' := [(2, .ref (G.1 o)), (0, .ref (G.1 0)), (1, .int ro)]) hx hb dX7_best_5 rfl hl (by decide) rfl (fun ls hl => ?_)
    refine lv_aload_n hx hb dX7_best_6 rfl (lv_at hl 0 rfl) ?_
    refine lv_ifnonnull (tgt := 12) hx hb dX7_best_7 (by decide) ?_
    refine lv_aload_n hx hb dX7_best_12 rfl (lv_at hl 1 rfl) ?_
    refine g7_21 ha hP 0 (by decide) (cX_0 G _) (v := .ref (G.1 33)) rfl dX7_best_13 ?_
    refine xVi ha hP hS (y := yX2_isEmpty) (As := []) (rest := []) 33 (by decide) (cX_33 G _) rfl rfl (c_X2_isEmpty G l σ 33 (by unfold oPl; omega)) kw_X7_182 hd_X2_isEmpty rfl ⟨rfl, rfl⟩ ⟨Nat.le_of_ble_eq_true rfl, Nat.le_of_ble_eq_true rfl⟩ ⟨Nat.zero_le _, Nat.zero_le _⟩ hl.1 (Nat.le_of_ble_eq_true rfl) rfl dX7_best_16 (fun r u H locs hpq hP hS => ?_)
    obtain ⟨hr_, hu_⟩ := hpq
    have hr_ := hr_.symm
    have hu_ := hu_.symm
    subst hr_
    subst hu_
    refine lv_if_eq (tgt := 25) hx hb dX7_best_19 (by decide) (fun c_2 => ?_) (fun c_2 => ?_)
    · have t_2 := b2i_f c_2
      have f_2 := of_decide_eq_false t_2
      refine lv_aload_n hx hb dX7_best_25 rfl (lv_at hl 1 rfl) ?_
      refine g7_54 ha hP 0 (by decide) (cX_0 G _) (v := .ref (G.1 51)) rfl dX7_best_26 ?_
      refine lv_aload_n hx hb dX7_best_29 rfl (lv_at hl 1 rfl) ?_
      refine g7_33 ha hP 0 (by decide) (cX_0 G _) (v := .ref (G.1 45)) rfl dX7_best_30 ?_
      refine xVv ha hP hS (y := yX6_begin) (As := [.ref (G.1 45)]) (rest := []) 51 (by decide) (cX_51 G _) rfl rfl (c_X6_begin G l σ  hp) kw_X7_227 hd_X6_begin rfl ⟨rfl, rfl⟩ ⟨Nat.le_of_ble_eq_true rfl, Nat.le_of_ble_eq_true rfl⟩ ⟨Nat.zero_le _, Nat.zero_le _⟩ hl.1 (Nat.le_of_ble_eq_true rfl) rfl dX7_best_33 (fun u H locs hpq hP hS => ?_)
      have hpq := hpq.symm
      subst hpq
      refine lv_aload_n hx hb dX7_best_36 rfl (lv_at hl 1 rfl) ?_
      refine g7_54 ha hP 0 (by decide) (cX_0 G _) (v := .ref (G.1 51)) rfl dX7_best_37 ?_
      refine lv_iconst (v := 0) hx hb dX7_best_40 (by decide) ?_
      refine lv_iconst (v := 0) hx hb dX7_best_41 (by decide) ?_
      refine xNv ha hP hS (y := yX6_seatHighest) (As := [.ref (G.1 51), .int 0, .int 0]) (rest := []) "PoleNave" (nb_in (by decide +kernel)) (c_X6_seatHighest G l (vP σ 33) (nPe (vP σ 33)) (m_sBegin σ) 0 0 (PO_eq hp (m_sBegin_n _ (by omega) (by omega) (by omega))) ((vP_eq fun q hq => (m_sBegin_n _ (by omega) (by omega) (by omega))).trans rfl) (by omega)) kw_X7_229 hd_X6_seatHighest rfl ⟨rfl, rfl⟩ ⟨by dsimp only; omega, by dsimp only; omega⟩ ⟨Nat.zero_le _, Nat.zero_le _⟩ hl.1 (Nat.le_of_ble_eq_true rfl) rfl dX7_best_42 (fun u H locs hpq hP hS => ?_)
      have hpq := hpq.symm
      subst hpq
      refine lv_aload_n hx hb dX7_best_45 rfl (lv_at hl 0 rfl) ?_
      refine lv_aload_n hx hb dX7_best_46 rfl (lv_at hl 1 rfl) ?_
      refine g7_54 ha hP 0 (by decide) (cX_0 G _) (v := .ref (G.1 51)) rfl dX7_best_47 ?_
      refine g7_233 ha hP 51 (by decide) (cX_51 G _) (v := .ref (G.1 55)) rfl dX7_best_50 ?_
      refine lv_aload_n hx hb dX7_best_53 rfl (lv_at hl 1 rfl) ?_
      refine g7_21 ha hP 0 (by decide) (cX_0 G _) (v := .ref (G.1 33)) rfl dX7_best_54 ?_
      refine g7_236 ha hP 33 (by decide) (cX_33 G _) (v := .int ((s_high (vP σ 33) (nPe (vP σ 33)) (m_sBegin σ) 0 0) 33 1)) rfl dX7_best_57 ?_
      refine xVv ha hP hS (y := yX3_take) (As := [.ref (G.1 55), .int ((s_high (vP σ 33) (nPe (vP σ 33)) (m_sBegin σ) 0 0) 33 1)]) (rest := []) o (oRow_lt0 ho) (sRow ho) rfl rfl (c_X3_take G l (s_high (vP σ 33) (nPe (vP σ 33)) (m_sBegin σ) 0 0) o 55 ((s_high (vP σ 33) (nPe (vP σ 33)) (m_sBegin σ) 0 0) 33 1) ho (by unfold oFr; omega)) kw_X7_239 hd_X3_take rfl ⟨rfl, rfl⟩ ⟨Nat.le_of_ble_eq_true rfl, Nat.le_of_ble_eq_true rfl⟩ ⟨Nat.zero_le _, Nat.zero_le _⟩ hl.1 (Nat.le_of_ble_eq_true rfl) rfl dX7_best_60 (fun u H locs hpq hP hS => ?_)
      have hpq := hpq.symm
      subst hpq
      refine lv_aload_n hx hb dX7_best_63 rfl (lv_at hl 1 rfl) ?_
      refine g7_54 ha hP 0 (by decide) (cX_0 G _) (v := .ref (G.1 51)) rfl dX7_best_64 ?_
      refine g7_242 ha hP 51 (by decide) (cX_51 G _) (v := .int ((m_takeR (s_high (vP σ 33) (nPe (vP σ 33)) (m_sBegin σ) 0 0) o 55 ((s_high (vP σ 33) (nPe (vP σ 33)) (m_sBegin σ) 0 0) 33 1)) 51 0)) rfl dX7_best_67 ?_
      exact xiret ha hP hS dX7_best_70 ⟨by (try subst eo); (try subst eo2); simp [k_best, t_1, t_2, f_2, i_leN, -Int32.not_lt], (by (try subst eo); (try subst eo2); simp [k_best, t_1, t_2, f_2, i_leN, -Int32.not_lt])⟩ rfl
    · have t_2 := b2i_t c_2
      have f_2 := of_decide_eq_true t_2
      refine lv_bipush (v := (-4)) hx hb dX7_best_22 (by decide) ?_
      exact xiret ha hP hS dX7_best_24 ⟨by (try subst eo); (try subst eo2); simp [k_best, t_1, t_2, f_2, i_leN, -Int32.not_lt], (by (try subst eo); (try subst eo2); simp [k_best, t_1, t_2, f_2, i_leN, -Int32.not_lt])⟩ rfl
  · rw [show va_rf (if a_in ro 6 = true then some (G.1 (5 + 2 * ix ro)) else none) = .null from by rw [if_neg t_1]; rfl]
    refine lv_astore_nN (lv' := [(2, .null), (0, .ref (G.1 0)), (1, .int ro)]) hx hb dX7_best_5 rfl hl (by decide) rfl (fun ls hl => ?_)
    refine lv_aload_nN hx hb dX7_best_6 rfl (lv_at hl 0 rfl) ?_
    refine lv_ifnonnullN hx hb dX7_best_7 ?_
    refine lv_iconst (v := (-1)) hx hb dX7_best_10 (by decide) ?_
    exact xiret ha hP hS dX7_best_11 ⟨by (try subst eo); (try subst eo2); simp [k_best, t_1, i_leN, -Int32.not_lt], (by (try subst eo); (try subst eo2); simp [k_best, t_1, i_leN, -Int32.not_lt])⟩ rfl
set_option maxHeartbeats 4000000 in
set_option maxRecDepth 100000 in
theorem c_X7_fewest (G : GT) (l : Launch) (σ : Mem)  (hp : PO 33 σ) : CI G 74 (cX G) l yX7_fewest ({ frames := 8, cells := 0, slots := 0, locals := 188 } : Room) cX7_fewest 1 (some .int) [.ref (G.1 0)] σ (fun (r : Int32) u => r = (k_fewest σ ).1 ∧ u = (k_fewest σ ).2) := by
  intro sz
  refine xbegin (by decide) (Nat.le_of_ble_eq_true rfl) ?_
  intro p e s m below meth c ls hsz ha hP hl
  subst hsz
  have hx := ha.1
  have hb := ha.2.1
  have hS : va_S (xA G 74 s.heap.size) s.heap s.heap [] := va_S.rf
  have hl : lv_has ls 1 [(0, .ref (G.1 0))] := hl
  have k_m9 : (-9 : Int32).toInt = -9 := by decide
  have k_m4 : (-4 : Int32).toInt = -4 := by decide
  have k_0 : (0 : Int32).toInt = 0 := by decide
  have hn5 : nPe (vP σ 33) ≤ 5 := (PO_pe hp).2.1
  refine lv_aload_n hx hb dX7_fewest_0 rfl (lv_at hl 0 rfl) ?_
  refine g7_21 ha hP 0 (by decide) (cX_0 G _) (v := .ref (G.1 33)) rfl dX7_fewest_1 ?_
  refine xVi ha hP hS (y := yX2_isEmpty) (As := []) (rest := []) 33 (by decide) (cX_33 G _) rfl rfl (c_X2_isEmpty G l σ 33 (by unfold oPl; omega)) kw_X7_182 hd_X2_isEmpty rfl ⟨rfl, rfl⟩ ⟨Nat.le_of_ble_eq_true rfl, Nat.le_of_ble_eq_true rfl⟩ ⟨Nat.zero_le _, Nat.zero_le _⟩ hl.1 (Nat.le_of_ble_eq_true rfl) rfl dX7_fewest_4 (fun r u H locs hpq hP hS => ?_)
  obtain ⟨hr_, hu_⟩ := hpq
  have hr_ := hr_.symm
  have hu_ := hu_.symm
  subst hr_
  subst hu_
  refine lv_if_eq (tgt := 13) hx hb dX7_fewest_7 (by decide) (fun c_1 => ?_) (fun c_1 => ?_)
  · have t_1 := b2i_f c_1
    have f_1 := of_decide_eq_false t_1
    refine lv_aload_n hx hb dX7_fewest_13 rfl (lv_at hl 0 rfl) ?_
    refine g7_54 ha hP 0 (by decide) (cX_0 G _) (v := .ref (G.1 51)) rfl dX7_fewest_14 ?_
    refine lv_aload_n hx hb dX7_fewest_17 rfl (lv_at hl 0 rfl) ?_
    refine g7_33 ha hP 0 (by decide) (cX_0 G _) (v := .ref (G.1 45)) rfl dX7_fewest_18 ?_
    refine xVv ha hP hS (y := yX6_begin) (As := [.ref (G.1 45)]) (rest := []) 51 (by decide) (cX_51 G _) rfl rfl (c_X6_begin G l σ  hp) kw_X7_227 hd_X6_begin rfl ⟨rfl, rfl⟩ ⟨Nat.le_of_ble_eq_true rfl, Nat.le_of_ble_eq_true rfl⟩ ⟨Nat.zero_le _, Nat.zero_le _⟩ hl.1 (Nat.le_of_ble_eq_true rfl) rfl dX7_fewest_21 (fun u H locs hpq hP hS => ?_)
    have hpq := hpq.symm
    subst hpq
    refine lv_aload_n hx hb dX7_fewest_24 rfl (lv_at hl 0 rfl) ?_
    refine g7_54 ha hP 0 (by decide) (cX_0 G _) (v := .ref (G.1 51)) rfl dX7_fewest_25 ?_
    refine lv_iconst (v := 0) hx hb dX7_fewest_28 (by decide) ?_
    refine lv_iconst (v := 0) hx hb dX7_fewest_29 (by decide) ?_
    refine xNv ha hP hS (y := yX6_seatAll) (As := [.ref (G.1 51), .int 0, .int 0]) (rest := []) "PoleNave" (nb_in (by decide +kernel)) (c_X6_seatAll G l (vP σ 33) (nPe (vP σ 33)) (m_sBegin σ) 0 0 (PO_eq hp (m_sBegin_n _ (by omega) (by omega) (by omega))) ((vP_eq fun q hq => (m_sBegin_n _ (by omega) (by omega) (by omega))).trans rfl) (by omega)) kw_X7_245 hd_X6_seatAll rfl ⟨rfl, rfl⟩ ⟨by dsimp only; omega, by dsimp only; omega⟩ ⟨Nat.zero_le _, Nat.zero_le _⟩ hl.1 (Nat.le_of_ble_eq_true rfl) rfl dX7_fewest_30 (fun u H locs hpq hP hS => ?_)
    have hpq := hpq.symm
    subst hpq
    refine lv_aload_n hx hb dX7_fewest_33 rfl (lv_at hl 0 rfl) ?_
    refine g7_54 ha hP 0 (by decide) (cX_0 G _) (v := .ref (G.1 51)) rfl dX7_fewest_34 ?_
    refine g7_248 ha hP 51 (by decide) (cX_51 G _) (v := .int ((s_all (vP σ 33) (nPe (vP σ 33)) (m_sBegin σ) 0 0) 51 1)) rfl dX7_fewest_37 ?_
    refine lv_bipush (v := (-9)) hx hb dX7_fewest_40 (by decide) ?_
    refine lv_icmp_ne (tgt := 48) hx hb dX7_fewest_42 (by decide) (fun c_2 => ?_) (fun c_2 => ?_)
    · have t_2 := i_ne c_2
      refine lv_aload_n hx hb dX7_fewest_48 rfl (lv_at hl 0 rfl) ?_
      refine lv_aload_n hx hb dX7_fewest_49 rfl (lv_at hl 0 rfl) ?_
      refine g7_54 ha hP 0 (by decide) (cX_0 G _) (v := .ref (G.1 51)) rfl dX7_fewest_50 ?_
      refine g7_248 ha hP 51 (by decide) (cX_51 G _) (v := .int ((s_all (vP σ 33) (nPe (vP σ 33)) (m_sBegin σ) 0 0) 51 1)) rfl dX7_fewest_53 ?_
      refine xVi ha hP hS (y := yX7_tell) (As := [.int ((s_all (vP σ 33) (nPe (vP σ 33)) (m_sBegin σ) 0 0) 51 1)]) (rest := []) 0 (by decide) (cX_0 G _) rfl rfl (c_X7_tell G l (s_all (vP σ 33) (nPe (vP σ 33)) (m_sBegin σ) 0 0) ((s_all (vP σ 33) (nPe (vP σ 33)) (m_sBegin σ) 0 0) 51 1) ) kw_X7_107 hd_X7_tell rfl ⟨rfl, rfl⟩ ⟨Nat.le_of_ble_eq_true rfl, Nat.le_of_ble_eq_true rfl⟩ ⟨Nat.zero_le _, Nat.zero_le _⟩ hl.1 (Nat.le_of_ble_eq_true rfl) rfl dX7_fewest_56 (fun r u H locs hpq hP hS => ?_)
      obtain ⟨hr_, hu_⟩ := hpq
      have hr_ := hr_.symm
      have hu_ := hu_.symm
      subst hr_
      subst hu_
      refine lv_pop hx hb dX7_fewest_59 rfl ?_
      refine lv_aload_n hx hb dX7_fewest_60 rfl (lv_at hl 0 rfl) ?_
      refine g7_54 ha hP 0 (by decide) (cX_0 G _) (v := .ref (G.1 51)) rfl dX7_fewest_61 ?_
      refine g7_248 ha hP 51 (by decide) (cX_51 G _) (v := .int ((mU (s_all (vP σ 33) (nPe (vP σ 33)) (m_sBegin σ) 0 0) 0 1 ((s_all (vP σ 33) (nPe (vP σ 33)) (m_sBegin σ) 0 0) 51 1)) 51 1)) rfl dX7_fewest_64 ?_
      refine xJi ha hP hS (y := yJ6_bitCount_0f7a4) (As := [.int ((mU (s_all (vP σ 33) (nPe (vP σ 33)) (m_sBegin σ) 0 0) 0 1 ((s_all (vP σ 33) (nPe (vP σ 33)) (m_sBegin σ) 0 0) 51 1)) 51 1)]) (rest := []) (c_J6_bitCount_0f7a4 G l (mU (s_all (vP σ 33) (nPe (vP σ 33)) (m_sBegin σ) 0 0) 0 1 ((s_all (vP σ 33) (nPe (vP σ 33)) (m_sBegin σ) 0 0) 51 1)) ((mU (s_all (vP σ 33) (nPe (vP σ 33)) (m_sBegin σ) 0 0) 0 1 ((s_all (vP σ 33) (nPe (vP σ 33)) (m_sBegin σ) 0 0) 51 1)) 51 1) ) kw_X7_251 hd_J6_bitCount_0f7a4 rfl ⟨rfl, rfl⟩ ⟨Nat.le_of_ble_eq_true rfl, Nat.le_of_ble_eq_true rfl⟩ ⟨Nat.zero_le _, Nat.zero_le _⟩ hl.1 (Nat.le_of_ble_eq_true rfl) rfl dX7_fewest_67 (fun r u H locs hpq hP hS => ?_)
      obtain ⟨hr_, hu_⟩ := hpq
      have hr_ := hr_.symm
      have hu_ := hu_.symm
      subst hr_
      subst hu_
      exact xiret ha hP hS dX7_fewest_70 ⟨by (try subst eo); (try subst eo2); simp [k_fewest, mU_e, t_1, f_1, c_2, i_leN, -Int32.not_lt], (by (try subst eo); (try subst eo2); simp [k_fewest, mU_e, t_1, f_1, c_2, i_leN, -Int32.not_lt])⟩ rfl
    · have t_2 := i_eq c_2
      refine lv_bipush (v := (-9)) hx hb dX7_fewest_45 (by decide) ?_
      exact xiret ha hP hS dX7_fewest_47 ⟨by (try subst eo); (try subst eo2); simp [k_fewest, mU_e, t_1, f_1, c_2, i_leN, -Int32.not_lt], (by (try subst eo); (try subst eo2); simp [k_fewest, mU_e, t_1, f_1, c_2, i_leN, -Int32.not_lt])⟩ rfl
  · have t_1 := b2i_t c_1
    have f_1 := of_decide_eq_true t_1
    refine lv_bipush (v := (-4)) hx hb dX7_fewest_10 (by decide) ?_
    exact xiret ha hP hS dX7_fewest_12 ⟨by (try subst eo); (try subst eo2); simp [k_fewest, mU_e, t_1, f_1, i_leN, -Int32.not_lt], (by (try subst eo); (try subst eo2); simp [k_fewest, mU_e, t_1, f_1, i_leN, -Int32.not_lt])⟩ rfl
set_option maxHeartbeats 4000000 in
set_option maxRecDepth 100000 in
theorem c_X7_seated (G : GT) (l : Launch) (σ : Mem) (ro : Int32) (hp : PO 33 σ) : CI G 74 (cX G) l yX7_seated ({ frames := 5, cells := 0, slots := 0, locals := 111 } : Room) cX7_seated 5 (some .int) [.ref (G.1 0), .int ro] σ (fun (r : Int32) u => r = (k_seated σ ro).1 ∧ u = (k_seated σ ro).2) := by
  intro sz
  refine xbegin (by decide) (Nat.le_of_ble_eq_true rfl) ?_
  intro p e s m below meth c ls hsz ha hP hl
  subst hsz
  have hx := ha.1
  have hb := ha.2.1
  have hS : va_S (xA G 74 s.heap.size) s.heap s.heap [] := va_S.rf
  have hl : lv_has ls 5 [(0, .ref (G.1 0)), (1, .int ro)] := hl
  have k_m9 : (-9 : Int32).toInt = -9 := by decide
  have k_m4 : (-4 : Int32).toInt = -4 := by decide
  have k_m1 : (-1 : Int32).toInt = -1 := by decide
  have k_0 : (0 : Int32).toInt = 0 := by decide
  have k_1 : (1 : Int32).toInt = 1 := by decide
  have k_3 : (3 : Int32).toInt = 3 := by decide
  have k_5 : (5 : Int32).toInt = 5 := by decide
  obtain ⟨hn, hn4, hnt⟩ := PO_pe hp
  refine lv_aload_n hx hb dX7_seated_0 rfl (lv_at hl 0 rfl) ?_
  refine lv_iload_n hx hb dX7_seated_1 rfl (lv_at hl 1 rfl) ?_
  refine xVq ha hP hS (y := yX7_rowAt) (As := [.int ro]) (rest := []) 0 (by decide) (cX_0 G _) rfl rfl (c_X7_rowAt G l σ ro ) kw_X7_85 hd_X7_rowAt rfl ⟨rfl, rfl⟩ ⟨Nat.le_of_ble_eq_true rfl, Nat.le_of_ble_eq_true rfl⟩ ⟨Nat.zero_le _, Nat.zero_le _⟩ hl.1 (Nat.le_of_ble_eq_true rfl) rfl dX7_seated_2 (fun r u H locs hpq hP hS => ?_)
  obtain ⟨hr_, hu_⟩ := hpq
  have hr_ := hr_.symm
  have hu_ := hu_.symm
  subst hr_
  subst hu_
  by_cases t_1 : a_in ro 6 = true
  · have f_1 := in_t t_1
    have g_1 := ix_toInt f_1.1
    rw [show (6 : Int32).toInt = 6 by decide] at f_1
    obtain ⟨o, eo⟩ : ∃ q, q = 5 + 2 * ix ro := ⟨_, rfl⟩
    have ho : oRow o := by unfold oRow; omega
    rw [show va_rf (if a_in ro 6 = true then some (G.1 (5 + 2 * ix ro)) else none) = .ref (G.1 o) from by rw [if_pos t_1, eo]; rfl]
    refine lv_astore_n (lv' := [(2, .ref (G.1 o)), (0, .ref (G.1 0)), (1, .int ro)]) hx hb dX7_seated_5 rfl hl (by decide) rfl (fun ls hl => ?_)
    refine lv_aload_n hx hb dX7_seated_6 rfl (lv_at hl 0 rfl) ?_
    refine lv_ifnonnull (tgt := 12) hx hb dX7_seated_7 (by decide) ?_
    refine lv_aload_n hx hb dX7_seated_12 rfl (lv_at hl 1 rfl) ?_
    refine g7_21 ha hP 0 (by decide) (cX_0 G _) (v := .ref (G.1 33)) rfl dX7_seated_13 ?_
    refine xVi ha hP hS (y := yX2_isEmpty) (As := []) (rest := []) 33 (by decide) (cX_33 G _) rfl rfl (c_X2_isEmpty G l σ 33 (by unfold oPl; omega)) kw_X7_182 hd_X2_isEmpty rfl ⟨rfl, rfl⟩ ⟨Nat.le_of_ble_eq_true rfl, Nat.le_of_ble_eq_true rfl⟩ ⟨Nat.zero_le _, Nat.zero_le _⟩ hl.1 (Nat.le_of_ble_eq_true rfl) rfl dX7_seated_16 (fun r u H locs hpq hP hS => ?_)
    obtain ⟨hr_, hu_⟩ := hpq
    have hr_ := hr_.symm
    have hu_ := hu_.symm
    subst hr_
    subst hu_
    refine lv_if_eq (tgt := 25) hx hb dX7_seated_19 (by decide) (fun c_2 => ?_) (fun c_2 => ?_)
    · have t_2 := b2i_f c_2
      have f_2 := of_decide_eq_false t_2
      refine lv_aload_n hx hb dX7_seated_25 rfl (lv_at hl 0 rfl) ?_
      refine xVi ha hP hS (y := yX3_isMissing) (As := []) (rest := []) o (oRow_lt0 ho) (sRow ho) rfl rfl (c_X3_isMissing G l σ o ho) kw_X7_110 hd_X3_isMissing rfl ⟨rfl, rfl⟩ ⟨Nat.le_of_ble_eq_true rfl, Nat.le_of_ble_eq_true rfl⟩ ⟨Nat.zero_le _, Nat.zero_le _⟩ hl.1 (Nat.le_of_ble_eq_true rfl) rfl dX7_seated_26 (fun r u H locs hpq hP hS => ?_)
      obtain ⟨hr_, hu_⟩ := hpq
      have hr_ := hr_.symm
      have hu_ := hu_.symm
      subst hr_
      subst hu_
      refine lv_if_eq (tgt := 38) hx hb dX7_seated_29 (by decide) (fun c_3 => ?_) (fun c_3 => ?_)
      · have t_3 := b2i_f c_3
        have f_3 := of_decide_eq_false t_3
        refine lv_aload_n hx hb dX7_seated_38 rfl (lv_at hl 0 rfl) ?_
        refine g7_114 ha hP o (oRow_lt0 ho) (sRow ho) (v := .int (σ o 0)) rfl dX7_seated_39 ?_
        refine lv_aload_n hx hb dX7_seated_42 rfl (lv_at hl 1 rfl) ?_
        refine g7_21 ha hP 0 (by decide) (cX_0 G _) (v := .ref (G.1 33)) rfl dX7_seated_43 ?_
        refine g7_236 ha hP 33 (by decide) (cX_33 G _) (v := .int (σ 33 1)) rfl dX7_seated_46 ?_
        refine lv_icmp_eq (tgt := 58) hx hb dX7_seated_49 (by decide) (fun c_4 => ?_) (fun c_4 => ?_)
        · have t_4 := i_eq c_4
          refine lv_aload_n hx hb dX7_seated_58 rfl (lv_at hl 1 rfl) ?_
          refine g7_37 ha hP 0 (by decide) (cX_0 G _) (v := .ref (G.1 48)) rfl dX7_seated_59 ?_
          refine lv_aload_n hx hb dX7_seated_62 rfl (lv_at hl 1 rfl) ?_
          refine g7_33 ha hP 0 (by decide) (cX_0 G _) (v := .ref (G.1 45)) rfl dX7_seated_63 ?_
          refine xVv ha hP hS (y := yX4_take) (As := [.ref (G.1 45)]) (rest := []) 48 (by decide) (cX_48 G _) rfl rfl (c_X4_take G l σ  ) kw_X7_215 hd_X4_take rfl ⟨rfl, rfl⟩ ⟨Nat.le_of_ble_eq_true rfl, Nat.le_of_ble_eq_true rfl⟩ ⟨Nat.zero_le _, Nat.zero_le _⟩ hl.1 (Nat.le_of_ble_eq_true rfl) rfl dX7_seated_66 (fun u H locs hpq hP hS => ?_)
          have hpq := hpq.symm
          subst hpq
          refine lv_iconst (v := 0) hx hb dX7_seated_69 (by decide) ?_
          refine lv_istore_n (lv' := [(3, .int 0), (2, .ref (G.1 o)), (0, .ref (G.1 0)), (1, .int ro)]) hx hb dX7_seated_70 rfl hl (by decide) rfl (fun ls hl => ?_)
          have lp_71 : ∀ (d j : Nat) (τj : Mem) (H : Heap) (locs : List Loc) (ls : Array Slot), j ≤ (ix (σ 33 1)) → (ix (σ 33 1)) - j < d → τj = m_seated σ o j → (PO 33 τj) → (vP τj 33 = vP σ 33) → (vS τj 45 = vS σ 45) → (fstN (sd_bad σ o) j = j) → va_P G.2.1 vwCl (wl G 74 (cX G τj)) H → va_S (xA G 74 s.heap.size) s.heap H locs → lv_has ls 5 [(3, .int (nI j)), (2, .ref (G.1 o)), (0, .ref (G.1 0)), (1, .int ro)] → W p l e ({ frames := 5, cells := 0, slots := 0, locals := 111 } : Room) s m ([.ref (G.1 0), .int ro] : List Value).toArray below meth c H locs 0 0 (MQ below (va_Qi (fun (r : Int32) u => r = (k_seated σ ro).1 ∧ u = (k_seated σ ro).2) (xB G 74 (cX G)) (xA G 74 s.heap.size)) ([.ref (G.1 0), .int ro] : List Value).toArray s 0 0 (xA G 74 s.heap.size)) (F0 m 71 ls []) := by
            intro d
            induction d with
            | zero => intro j τj H locs ls hj hd; exact absurd hd (Nat.not_lt_zero _)
            | succ d ih_71 =>
              intro j τj H locs ls hj_j hd_j e_τj hpj hPj hSj hst hP hS hl
              have h31_j : (nI j).toInt = (j : Int) := nI_toInt (by omega)
              have hto : τj o = σ o := by rw [e_τj]; exact m_seated_n _ _ _ (by unfold oRow at ho; omega)
              have hto1 : τj (o + 1) = σ (o + 1) := by rw [e_τj]; exact m_seated_n _ _ _ (by unfold oRow at ho; omega)
              have hgj : a_get τj o (nI j) = a_get σ o (nI j) := by unfold a_get a_has; rw [hto, hto1]
              have hz : τj 33 = σ 33 := by rw [e_τj]; exact m_seated_n _ _ _ (by omega)
              have hz2 : (τj 33 1).toInt = (ix (σ 33 1) : Int) := by rw [hz]; exact hnt
              refine lv_iload_n hx hb dX7_seated_71 rfl (lv_at hl 0 rfl) ?_
              refine lv_aload_n hx hb dX7_seated_72 rfl (lv_at hl 2 rfl) ?_
              refine g7_21 ha hP 0 (by decide) (cX_0 G _) (v := .ref (G.1 33)) rfl dX7_seated_73 ?_
              refine g7_236 ha hP 33 (by decide) (cX_33 G _) (v := .int (τj 33 1)) rfl dX7_seated_76 ?_
              refine lv_icmp_ge (tgt := 131) hx hb dX7_seated_79 (by decide) (fun c_5 => ?_) (fun c_5 => ?_)
              · have t_5 := i_le c_5
                have u_5 := u_le c_5
                obtain rfl : j = (ix (σ 33 1)) := by omega
                refine lv_aload_n hx hb dX7_seated_131 rfl (lv_at hl 2 rfl) ?_
                refine lv_aload_n hx hb dX7_seated_132 rfl (lv_at hl 2 rfl) ?_
                refine g7_37 ha hP 0 (by decide) (cX_0 G _) (v := .ref (G.1 48)) rfl dX7_seated_133 ?_
                refine xVi ha hP hS (y := yX4_highOfAll) (As := []) (rest := [.ref (G.1 0)]) 48 (by decide) (cX_48 G _) rfl rfl (c_X4_highOfAll G l τj 48 (by unfold oSc; omega) hpj) kw_X7_224 hd_X4_highOfAll rfl ⟨rfl, rfl⟩ ⟨Nat.le_of_ble_eq_true rfl, Nat.le_of_ble_eq_true rfl⟩ ⟨Nat.zero_le _, Nat.zero_le _⟩ hl.1 (Nat.le_of_ble_eq_true rfl) rfl dX7_seated_136 (fun r u H locs hpq hP hS => ?_)
                obtain ⟨hr_, hu_⟩ := hpq
                have hr_ := hr_.symm
                have hu_ := hu_.symm
                subst hr_
                subst hu_
                rw [hPj]
                refine xVi ha hP hS (y := yX7_tell) (As := [.int (a_highAll (vP σ 33) (vS τj 48))]) (rest := []) 0 (by decide) (cX_0 G _) rfl rfl (c_X7_tell G l τj (a_highAll (vP σ 33) (vS τj 48)) ) kw_X7_107 hd_X7_tell rfl ⟨rfl, rfl⟩ ⟨Nat.le_of_ble_eq_true rfl, Nat.le_of_ble_eq_true rfl⟩ ⟨Nat.zero_le _, Nat.zero_le _⟩ hl.1 (Nat.le_of_ble_eq_true rfl) rfl dX7_seated_139 (fun r u H locs hpq hP hS => ?_)
                obtain ⟨hr_, hu_⟩ := hpq
                have hr_ := hr_.symm
                have hu_ := hu_.symm
                subst hr_
                subst hu_
                refine lv_pop hx hb dX7_seated_142 rfl ?_
                refine lv_aload_n hx hb dX7_seated_143 rfl (lv_at hl 2 rfl) ?_
                refine g7_37 ha hP 0 (by decide) (cX_0 G _) (v := .ref (G.1 48)) rfl dX7_seated_144 ?_
                refine xVi ha hP hS (y := yX4_up) (As := []) (rest := []) 48 (by decide) (cX_48 G _) rfl rfl (c_X4_up G l (mU τj 0 1 (a_highAll (vP σ 33) (vS τj 48))) 48 (by unfold oSc; omega)) kw_X7_259 hd_X4_up rfl ⟨rfl, rfl⟩ ⟨Nat.le_of_ble_eq_true rfl, Nat.le_of_ble_eq_true rfl⟩ ⟨Nat.zero_le _, Nat.zero_le _⟩ hl.1 (Nat.le_of_ble_eq_true rfl) rfl dX7_seated_147 (fun r u H locs hpq hP hS => ?_)
                obtain ⟨hr_, hu_⟩ := hpq
                have hr_ := hr_.symm
                have hu_ := hu_.symm
                subst hr_
                subst hu_
                rw [((vP_mU _ _ _ (by decide)).trans hPj)]
                refine lv_aload_n hx hb dX7_seated_150 rfl (lv_at hl 2 rfl) ?_
                refine g7_37 ha hP 0 (by decide) (cX_0 G _) (v := .ref (G.1 48)) rfl dX7_seated_151 ?_
                refine xVi ha hP hS (y := yX4_standing) (As := []) (rest := [.int (a_up (vP σ 33) (vS (mU τj 0 1 (a_highAll (vP σ 33) (vS τj 48))) 48))]) 48 (by decide) (cX_48 G _) rfl rfl (c_X4_standing G l (mU τj 0 1 (a_highAll (vP σ 33) (vS τj 48))) 48 (by unfold oSc; omega) (PO_mU hpj (by decide))) kw_X7_204 hd_X4_standing rfl ⟨rfl, rfl⟩ ⟨Nat.le_of_ble_eq_true rfl, Nat.le_of_ble_eq_true rfl⟩ ⟨Nat.zero_le _, Nat.zero_le _⟩ hl.1 (Nat.le_of_ble_eq_true rfl) rfl dX7_seated_154 (fun r u H locs hpq hP hS => ?_)
                obtain ⟨hr_, hu_⟩ := hpq
                have hr_ := hr_.symm
                have hu_ := hu_.symm
                subst hr_
                subst hu_
                rw [((vP_mU _ _ _ (by decide)).trans hPj)]
                refine lv_iconst (v := (-1)) hx hb dX7_seated_157 (by decide) ?_
                refine lv_ixor hx hb dX7_seated_158 ?_
                refine lv_iand hx hb dX7_seated_159 ?_
                refine xJi ha hP hS (y := yJ6_bitCount_0f7a4) (As := [.int ((a_up (vP σ 33) (vS (mU τj 0 1 (a_highAll (vP σ 33) (vS τj 48))) 48)) &&& ((a_standing (vP σ 33) (vS (mU τj 0 1 (a_highAll (vP σ 33) (vS τj 48))) 48)) ^^^ (-1)))]) (rest := []) (c_J6_bitCount_0f7a4 G l (mU τj 0 1 (a_highAll (vP σ 33) (vS τj 48))) ((a_up (vP σ 33) (vS (mU τj 0 1 (a_highAll (vP σ 33) (vS τj 48))) 48)) &&& ((a_standing (vP σ 33) (vS (mU τj 0 1 (a_highAll (vP σ 33) (vS τj 48))) 48)) ^^^ (-1))) ) kw_X7_251 hd_J6_bitCount_0f7a4 rfl ⟨rfl, rfl⟩ ⟨Nat.le_of_ble_eq_true rfl, Nat.le_of_ble_eq_true rfl⟩ ⟨Nat.zero_le _, Nat.zero_le _⟩ hl.1 (Nat.le_of_ble_eq_true rfl) rfl dX7_seated_160 (fun r u H locs hpq hP hS => ?_)
                obtain ⟨hr_, hu_⟩ := hpq
                have hr_ := hr_.symm
                have hu_ := hu_.symm
                subst hr_
                subst hu_
                exact xiret ha hP hS dX7_seated_163 ⟨by (try subst eo); (try subst eo2); (rw [e_τj, vS_mU _ _ _ (by decide), k_seated, if_pos (by assumption), if_neg (by assumption), if_neg (by assumption), if_pos (by assumption), if_pos (by exact hst)]) <;> rfl, (by (try subst eo); (try subst eo2); (rw [e_τj, k_seated, if_pos (by assumption), if_neg (by assumption), if_neg (by assumption), if_pos (by assumption), if_pos (by exact hst)]) <;> rfl)⟩ rfl
              · have t_5 := i_nle c_5
                have u_5 := u_nle c_5
                have hlt_j : j < (ix (σ 33 1)) := by omega
                refine lv_aload_n hx hb dX7_seated_82 rfl (lv_at hl 1 rfl) ?_
                refine lv_iload_n hx hb dX7_seated_83 rfl (lv_at hl 0 rfl) ?_
                refine xVi ha hP hS (y := yX3_get) (As := [.int (nI j)]) (rest := []) o (oRow_lt0 ho) (sRow ho) rfl rfl (c_X3_get G l τj o (nI j) ho) kw_X7_100 hd_X3_get rfl ⟨rfl, rfl⟩ ⟨Nat.le_of_ble_eq_true rfl, Nat.le_of_ble_eq_true rfl⟩ ⟨Nat.zero_le _, Nat.zero_le _⟩ hl.1 (Nat.le_of_ble_eq_true rfl) rfl dX7_seated_84 (fun r u H locs hpq hP hS => ?_)
                obtain ⟨hr_, hu_⟩ := hpq
                have hr_ := hr_.symm
                have hu_ := hu_.symm
                subst hr_
                subst hu_
                refine lv_istore (lv' := [(4, .int (a_get τj o (nI j))), (3, .int (nI j)), (2, .ref (G.1 o)), (0, .ref (G.1 0)), (1, .int ro)]) hx hb dX7_seated_87 hl (by decide) rfl (fun ls hl => ?_)
                refine lv_iload hx hb dX7_seated_89 (lv_at hl 0 rfl) ?_
                refine lv_bipush (v := (-9)) hx hb dX7_seated_91 (by decide) ?_
                refine lv_icmp_eq (tgt := 114) hx hb dX7_seated_93 (by decide) (fun c_6 => ?_) (fun c_6 => ?_)
                · have t_6 := i_eq c_6
                  refine lv_aload_n hx hb dX7_seated_114 rfl (lv_at hl 3 rfl) ?_
                  refine g7_37 ha hP 0 (by decide) (cX_0 G _) (v := .ref (G.1 48)) rfl dX7_seated_115 ?_
                  refine g7_256 ha hP 48 (by decide) (cX_48 G _) (v := .ref (G.1 50)) rfl dX7_seated_118 ?_
                  refine lv_iload_n hx hb dX7_seated_121 rfl (lv_at hl 1 rfl) ?_
                  refine lv_iload hx hb dX7_seated_122 (lv_at hl 0 rfl) ?_
                  refine xiastN ha hP hS (cX_loc G) 50 (by decide) (fun τ => cX_50 G τ) j rfl (by omega) (by decide) dX7_seated_124 (fun H locs hP hS => ?_)
                  refine lv_iinc (v := (nI (j + 1))) (lv' := [(3, .int (nI (j + 1))), (4, .int (a_get τj o (nI j))), (2, .ref (G.1 o)), (0, .ref (G.1 0)), (1, .int ro)]) hx hb dX7_seated_125 hl (k := 1) rfl (nI_1 j) (by decide) rfl (fun ls hl => ?_)
                  refine lv_goto (tgt := 71) hx hb dX7_seated_128 (by decide) ?_
                  exact ih_71 (j + 1) (mU τj 50 j (a_get τj o (nI j))) _ _ _ (by omega) (by omega) (by rw [e_τj]; exact mF_s _ _ _ _ (by rw [← e_τj]; exact hgj)) (PO_mU hpj (by decide)) ((vP_mU _ _ _ (by decide)).trans hPj) ((vS_mU _ _ _ (by decide)).trans hSj) (fstN_s hst (by simp [sd_bad, ← hgj, t_1, t_2, f_2, t_3, f_3, c_4, u_5, c_6])) hP hS (lv_sub hl [0, 2, 3, 4] rfl)
                · have t_6 := i_ne c_6
                  refine lv_aload_n hx hb dX7_seated_96 rfl (lv_at hl 3 rfl) ?_
                  refine g7_33 ha hP 0 (by decide) (cX_0 G _) (v := .ref (G.1 45)) rfl dX7_seated_97 ?_
                  refine lv_iload hx hb dX7_seated_100 (lv_at hl 0 rfl) ?_
                  refine xVi ha hP hS (y := yX4_isUp) (As := [.int (a_get τj o (nI j))]) (rest := []) 45 (by decide) (cX_45 G _) rfl rfl (c_X4_isUp G l τj 45 (a_get τj o (nI j)) (by unfold oSc; omega)) kw_X7_172 hd_X4_isUp rfl ⟨rfl, rfl⟩ ⟨Nat.le_of_ble_eq_true rfl, Nat.le_of_ble_eq_true rfl⟩ ⟨Nat.zero_le _, Nat.zero_le _⟩ hl.1 (Nat.le_of_ble_eq_true rfl) rfl dX7_seated_102 (fun r u H locs hpq hP hS => ?_)
                  obtain ⟨hr_, hu_⟩ := hpq
                  have hr_ := hr_.symm
                  have hu_ := hu_.symm
                  subst hr_
                  subst hu_
                  rw [hPj]
                  rw [hSj]
                  refine lv_if_ne (tgt := 114) hx hb dX7_seated_105 (by decide) (fun c_7 => ?_) (fun c_7 => ?_)
                  · have t_7 := b2i_t c_7
                    refine lv_aload_n hx hb dX7_seated_114 rfl (lv_at hl 3 rfl) ?_
                    refine g7_37 ha hP 0 (by decide) (cX_0 G _) (v := .ref (G.1 48)) rfl dX7_seated_115 ?_
                    refine g7_256 ha hP 48 (by decide) (cX_48 G _) (v := .ref (G.1 50)) rfl dX7_seated_118 ?_
                    refine lv_iload_n hx hb dX7_seated_121 rfl (lv_at hl 1 rfl) ?_
                    refine lv_iload hx hb dX7_seated_122 (lv_at hl 0 rfl) ?_
                    refine xiastN ha hP hS (cX_loc G) 50 (by decide) (fun τ => cX_50 G τ) j rfl (by omega) (by decide) dX7_seated_124 (fun H locs hP hS => ?_)
                    refine lv_iinc (v := (nI (j + 1))) (lv' := [(3, .int (nI (j + 1))), (4, .int (a_get τj o (nI j))), (2, .ref (G.1 o)), (0, .ref (G.1 0)), (1, .int ro)]) hx hb dX7_seated_125 hl (k := 1) rfl (nI_1 j) (by decide) rfl (fun ls hl => ?_)
                    refine lv_goto (tgt := 71) hx hb dX7_seated_128 (by decide) ?_
                    exact ih_71 (j + 1) (mU τj 50 j (a_get τj o (nI j))) _ _ _ (by omega) (by omega) (by rw [e_τj]; exact mF_s _ _ _ _ (by rw [← e_τj]; exact hgj)) (PO_mU hpj (by decide)) ((vP_mU _ _ _ (by decide)).trans hPj) ((vS_mU _ _ _ (by decide)).trans hSj) (fstN_s hst (by simp [sd_bad, ← hgj, t_1, t_2, f_2, t_3, f_3, c_4, u_5, c_6, t_7])) hP hS (lv_sub hl [0, 2, 3, 4] rfl)
                  · have t_7 := b2i_f c_7
                    have HB : (sd_bad σ o) j = true := by simp [sd_bad, ← hgj, t_1, t_2, f_2, t_3, f_3, c_4, u_5, c_6, t_7]
                    have HS := fstN_b hst HB (nPe (vP σ 33)) (by show j < ix (σ 33 1); omega)
                    refine lv_aload_n hx hb dX7_seated_108 rfl (lv_at hl 3 rfl) ?_
                    refine lv_iconst (v := 3) hx hb dX7_seated_109 (by decide) ?_
                    refine xVi ha hP hS (y := yX7_found) (As := [.int 3]) (rest := []) 0 (by decide) (cX_0 G _) rfl rfl (c_X7_found G l τj 3 ) kw_X7_97 hd_X7_found rfl ⟨rfl, rfl⟩ ⟨Nat.le_of_ble_eq_true rfl, Nat.le_of_ble_eq_true rfl⟩ ⟨Nat.zero_le _, Nat.zero_le _⟩ hl.1 (Nat.le_of_ble_eq_true rfl) rfl dX7_seated_110 (fun r u H locs hpq hP hS => ?_)
                    obtain ⟨hr_, hu_⟩ := hpq
                    have hr_ := hr_.symm
                    have hu_ := hu_.symm
                    subst hr_
                    subst hu_
                    exact xiret ha hP hS dX7_seated_113 ⟨by (try subst eo); (try subst eo2); rw [k_seated, if_pos (by assumption), if_neg (by assumption), if_neg (by assumption), if_pos (by assumption), if_neg (by rw [HS]; show ¬ j = ix (σ 33 1); omega)], (by (try subst eo); (try subst eo2); rw [e_τj, k_seated, if_pos (by assumption), if_neg (by assumption), if_neg (by assumption), if_pos (by assumption), if_neg (by rw [HS]; show ¬ j = ix (σ 33 1); omega), HS])⟩ rfl
          exact lp_71 ((ix (σ 33 1)) - 0 + 1) 0 (m_takeS σ) _ _ _ (by omega) (by omega) (mF_0 _ _ _) (PO_eq hp (m_takeS_n _ (by omega) (by omega) (by omega))) ((vP_eq fun q hq => (m_takeS_n _ (by omega) (by omega) (by omega))).trans rfl) ((vS_eq fun q hq => (m_takeS_n _ (by omega) (by omega) (by omega))).trans rfl) rfl hP hS (lv_sub hl [0, 1, 2, 3] rfl)
        · have t_4 := i_ne c_4
          refine lv_aload_n hx hb dX7_seated_52 rfl (lv_at hl 1 rfl) ?_
          refine lv_iconst (v := 5) hx hb dX7_seated_53 (by decide) ?_
          refine xVi ha hP hS (y := yX7_found) (As := [.int 5]) (rest := []) 0 (by decide) (cX_0 G _) rfl rfl (c_X7_found G l σ 5 ) kw_X7_97 hd_X7_found rfl ⟨rfl, rfl⟩ ⟨Nat.le_of_ble_eq_true rfl, Nat.le_of_ble_eq_true rfl⟩ ⟨Nat.zero_le _, Nat.zero_le _⟩ hl.1 (Nat.le_of_ble_eq_true rfl) rfl dX7_seated_54 (fun r u H locs hpq hP hS => ?_)
          obtain ⟨hr_, hu_⟩ := hpq
          have hr_ := hr_.symm
          have hu_ := hu_.symm
          subst hr_
          subst hu_
          exact xiret ha hP hS dX7_seated_57 ⟨by (try subst eo); (try subst eo2); simp [k_seated, t_1, t_2, f_2, t_3, f_3, c_4, i_leN, -Int32.not_lt], (by (try subst eo); (try subst eo2); simp [k_seated, t_1, t_2, f_2, t_3, f_3, c_4, i_leN, -Int32.not_lt])⟩ rfl
      · have t_3 := b2i_t c_3
        have f_3 := of_decide_eq_true t_3
        refine lv_aload_n hx hb dX7_seated_32 rfl (lv_at hl 1 rfl) ?_
        refine lv_iconst (v := 1) hx hb dX7_seated_33 (by decide) ?_
        refine xVi ha hP hS (y := yX7_found) (As := [.int 1]) (rest := []) 0 (by decide) (cX_0 G _) rfl rfl (c_X7_found G l σ 1 ) kw_X7_97 hd_X7_found rfl ⟨rfl, rfl⟩ ⟨Nat.le_of_ble_eq_true rfl, Nat.le_of_ble_eq_true rfl⟩ ⟨Nat.zero_le _, Nat.zero_le _⟩ hl.1 (Nat.le_of_ble_eq_true rfl) rfl dX7_seated_34 (fun r u H locs hpq hP hS => ?_)
        obtain ⟨hr_, hu_⟩ := hpq
        have hr_ := hr_.symm
        have hu_ := hu_.symm
        subst hr_
        subst hu_
        exact xiret ha hP hS dX7_seated_37 ⟨by (try subst eo); (try subst eo2); simp [k_seated, t_1, t_2, f_2, t_3, f_3, i_leN, -Int32.not_lt], (by (try subst eo); (try subst eo2); simp [k_seated, t_1, t_2, f_2, t_3, f_3, i_leN, -Int32.not_lt])⟩ rfl
    · have t_2 := b2i_t c_2
      have f_2 := of_decide_eq_true t_2
      refine lv_bipush (v := (-4)) hx hb dX7_seated_22 (by decide) ?_
      exact xiret ha hP hS dX7_seated_24 ⟨by (try subst eo); (try subst eo2); simp [k_seated, t_1, t_2, f_2, i_leN, -Int32.not_lt], (by (try subst eo); (try subst eo2); simp [k_seated, t_1, t_2, f_2, i_leN, -Int32.not_lt])⟩ rfl
  · rw [show va_rf (if a_in ro 6 = true then some (G.1 (5 + 2 * ix ro)) else none) = .null from by rw [if_neg t_1]; rfl]
    refine lv_astore_nN (lv' := [(2, .null), (0, .ref (G.1 0)), (1, .int ro)]) hx hb dX7_seated_5 rfl hl (by decide) rfl (fun ls hl => ?_)
    refine lv_aload_nN hx hb dX7_seated_6 rfl (lv_at hl 0 rfl) ?_
    refine lv_ifnonnullN hx hb dX7_seated_7 ?_
    refine lv_iconst (v := (-1)) hx hb dX7_seated_10 (by decide) ?_
    exact xiret ha hP hS dX7_seated_11 ⟨by (try subst eo); (try subst eo2); simp [k_seated, t_1, i_leN, -Int32.not_lt], (by (try subst eo); (try subst eo2); simp [k_seated, t_1, i_leN, -Int32.not_lt])⟩ rfl
set_option maxHeartbeats 4000000 in
set_option maxRecDepth 100000 in
theorem c_X7_laces (G : GT) (l : Launch) (σ : Mem) (n : Int32) (ro : Int32) (hp : PO 33 σ) : CI G 74 (cX G) l yX7_laces ({ frames := 10, cells := 0, slots := 0, locals := 231 } : Room) cX7_laces 4 (some .int) [.ref (G.1 0), .int n, .int ro] σ (fun (r : Int32) u => r = (k_laces σ n ro).1 ∧ u = (k_laces σ n ro).2) := by
  intro sz
  refine xbegin (by decide) (Nat.le_of_ble_eq_true rfl) ?_
  intro p e s m below meth c ls hsz ha hP hl
  subst hsz
  have hx := ha.1
  have hb := ha.2.1
  have hS : va_S (xA G 74 s.heap.size) s.heap s.heap [] := va_S.rf
  have hl : lv_has ls 4 [(0, .ref (G.1 0)), (1, .int n), (2, .int ro)] := hl
  have k_m9 : (-9 : Int32).toInt = -9 := by decide
  have k_m4 : (-4 : Int32).toInt = -4 := by decide
  have k_m1 : (-1 : Int32).toInt = -1 := by decide
  have k_0 : (0 : Int32).toInt = 0 := by decide
  have k_5 : (5 : Int32).toInt = 5 := by decide
  refine lv_aload_n hx hb dX7_laces_0 rfl (lv_at hl 0 rfl) ?_
  refine lv_iload_n hx hb dX7_laces_1 rfl (lv_at hl 2 rfl) ?_
  refine xVq ha hP hS (y := yX7_rowAt) (As := [.int ro]) (rest := []) 0 (by decide) (cX_0 G _) rfl rfl (c_X7_rowAt G l σ ro ) kw_X7_85 hd_X7_rowAt rfl ⟨rfl, rfl⟩ ⟨Nat.le_of_ble_eq_true rfl, Nat.le_of_ble_eq_true rfl⟩ ⟨Nat.zero_le _, Nat.zero_le _⟩ hl.1 (Nat.le_of_ble_eq_true rfl) rfl dX7_laces_2 (fun r u H locs hpq hP hS => ?_)
  obtain ⟨hr_, hu_⟩ := hpq
  have hr_ := hr_.symm
  have hu_ := hu_.symm
  subst hr_
  subst hu_
  by_cases t_1 : a_in ro 6 = true
  · have f_1 := in_t t_1
    have g_1 := ix_toInt f_1.1
    rw [show (6 : Int32).toInt = 6 by decide] at f_1
    obtain ⟨o, eo⟩ : ∃ q, q = 5 + 2 * ix ro := ⟨_, rfl⟩
    have ho : oRow o := by unfold oRow; omega
    rw [show va_rf (if a_in ro 6 = true then some (G.1 (5 + 2 * ix ro)) else none) = .ref (G.1 o) from by rw [if_pos t_1, eo]; rfl]
    refine lv_astore_n (lv' := [(3, .ref (G.1 o)), (0, .ref (G.1 0)), (1, .int n), (2, .int ro)]) hx hb dX7_laces_5 rfl hl (by decide) rfl (fun ls hl => ?_)
    refine lv_aload_n hx hb dX7_laces_6 rfl (lv_at hl 0 rfl) ?_
    refine lv_ifnull hx hb dX7_laces_7 ?_
    refine lv_iload_n hx hb dX7_laces_10 rfl (lv_at hl 2 rfl) ?_
    refine lv_if_lt (tgt := 19) hx hb dX7_laces_11 (by decide) (fun c_2 => ?_) (fun c_2 => ?_)
    · have t_2 := i_lt c_2
      refine lv_iconst (v := (-1)) hx hb dX7_laces_19 (by decide) ?_
      exact xiret ha hP hS dX7_laces_20 ⟨by (try subst eo); (try subst eo2); simp [k_laces, t_1, c_2, i_leN, -Int32.not_lt], (by (try subst eo); (try subst eo2); simp [k_laces, t_1, c_2, i_leN, -Int32.not_lt])⟩ rfl
    · have t_2 := i_nlt c_2
      refine lv_iload_n hx hb dX7_laces_14 rfl (lv_at hl 2 rfl) ?_
      refine lv_iconst (v := 5) hx hb dX7_laces_15 (by decide) ?_
      refine lv_icmp_le (tgt := 21) hx hb dX7_laces_16 (by decide) (fun c_3 => ?_) (fun c_3 => ?_)
      · have t_3 := i_le c_3
        have u_3 := u_le c_3
        refine lv_aload_n hx hb dX7_laces_21 rfl (lv_at hl 1 rfl) ?_
        refine g7_21 ha hP 0 (by decide) (cX_0 G _) (v := .ref (G.1 33)) rfl dX7_laces_22 ?_
        refine xVi ha hP hS (y := yX2_isEmpty) (As := []) (rest := []) 33 (by decide) (cX_33 G _) rfl rfl (c_X2_isEmpty G l σ 33 (by unfold oPl; omega)) kw_X7_182 hd_X2_isEmpty rfl ⟨rfl, rfl⟩ ⟨Nat.le_of_ble_eq_true rfl, Nat.le_of_ble_eq_true rfl⟩ ⟨Nat.zero_le _, Nat.zero_le _⟩ hl.1 (Nat.le_of_ble_eq_true rfl) rfl dX7_laces_25 (fun r u H locs hpq hP hS => ?_)
        obtain ⟨hr_, hu_⟩ := hpq
        have hr_ := hr_.symm
        have hu_ := hu_.symm
        subst hr_
        subst hu_
        refine lv_if_eq (tgt := 34) hx hb dX7_laces_28 (by decide) (fun c_4 => ?_) (fun c_4 => ?_)
        · have t_4 := b2i_f c_4
          have f_4 := of_decide_eq_false t_4
          refine lv_aload_n hx hb dX7_laces_34 rfl (lv_at hl 1 rfl) ?_
          refine g7_61 ha hP 0 (by decide) (cX_0 G _) (v := .ref (G.1 56)) rfl dX7_laces_35 ?_
          refine lv_aload_n hx hb dX7_laces_38 rfl (lv_at hl 1 rfl) ?_
          refine g7_33 ha hP 0 (by decide) (cX_0 G _) (v := .ref (G.1 45)) rfl dX7_laces_39 ?_
          refine lv_iload_n hx hb dX7_laces_42 rfl (lv_at hl 2 rfl) ?_
          refine xVv ha hP hS (y := yX1_begin) (As := [.ref (G.1 45), .int n]) (rest := []) 56 (by decide) (cX_56 G _) rfl rfl (c_X1_begin G l σ n hp) kw_X7_262 hd_X1_begin rfl ⟨rfl, rfl⟩ ⟨Nat.le_of_ble_eq_true rfl, Nat.le_of_ble_eq_true rfl⟩ ⟨Nat.zero_le _, Nat.zero_le _⟩ hl.1 (Nat.le_of_ble_eq_true rfl) rfl dX7_laces_43 (fun u H locs hpq hP hS => ?_)
          have hpq := hpq.symm
          subst hpq
          have hni := ix_toInt (show 0 ≤ n.toInt by omega)
          have hi5 := imin_i n 5
          refine lv_aload_n hx hb dX7_laces_46 rfl (lv_at hl 1 rfl) ?_
          refine g7_61 ha hP 0 (by decide) (cX_0 G _) (v := .ref (G.1 56)) rfl dX7_laces_47 ?_
          refine lv_iconst (v := 0) hx hb dX7_laces_50 (by decide) ?_
          refine lv_iconst (v := 0) hx hb dX7_laces_51 (by decide) ?_
          refine xNv ha hP hS (y := yX1_laceOn) (As := [.ref (G.1 56), .int 0, .int 0]) (rest := []) "PoleNave" (nb_in (by decide +kernel)) (c_X1_laceOn G l (vP σ 33) (imin n 5) (ix n) (m_lBegin (vP σ 33) (vS σ 45) σ n) 0 0 (PO_eq hp (m_lBegin_n _ _ _ _ (by omega) (by omega) (by omega))) ((vP_eq fun q hq => (m_lBegin_n _ _ _ _ (by omega) (by omega) (by omega))).trans rfl) rfl (by omega) (by omega)) kw_X7_265 hd_X1_laceOn rfl ⟨rfl, rfl⟩ ⟨by dsimp only; omega, by dsimp only; omega⟩ ⟨Nat.zero_le _, Nat.zero_le _⟩ hl.1 (Nat.le_of_ble_eq_true rfl) rfl dX7_laces_52 (fun u H locs hpq hP hS => ?_)
          have hpq := hpq.symm
          subst hpq
          refine lv_aload_n hx hb dX7_laces_55 rfl (lv_at hl 1 rfl) ?_
          refine g7_61 ha hP 0 (by decide) (cX_0 G _) (v := .ref (G.1 56)) rfl dX7_laces_56 ?_
          refine g7_269 ha hP 56 (by decide) (cX_56 G _) (v := .int ((s_lace (vP σ 33) (ix n) (m_lBegin (vP σ 33) (vS σ 45) σ n) 0 0) 56 2)) rfl dX7_laces_59 ?_
          refine lv_iload_n hx hb dX7_laces_62 rfl (lv_at hl 2 rfl) ?_
          refine lv_icmp_le (tgt := 69) hx hb dX7_laces_63 (by decide) (fun c_5 => ?_) (fun c_5 => ?_)
          · have t_5 := i_le c_5
            have u_5 := u_le c_5
            refine lv_aload_n hx hb dX7_laces_69 rfl (lv_at hl 0 rfl) ?_
            refine lv_aload_n hx hb dX7_laces_70 rfl (lv_at hl 1 rfl) ?_
            refine g7_61 ha hP 0 (by decide) (cX_0 G _) (v := .ref (G.1 56)) rfl dX7_laces_71 ?_
            refine g7_272 ha hP 56 (by decide) (cX_56 G _) (v := .ref (G.1 66)) rfl dX7_laces_74 ?_
            refine lv_iload_n hx hb dX7_laces_77 rfl (lv_at hl 2 rfl) ?_
            refine xVv ha hP hS (y := yX3_take) (As := [.ref (G.1 66), .int n]) (rest := []) o (oRow_lt0 ho) (sRow ho) rfl rfl (c_X3_take G l (s_lace (vP σ 33) (ix n) (m_lBegin (vP σ 33) (vS σ 45) σ n) 0 0) o 66 n ho (by unfold oFr; omega)) kw_X7_239 hd_X3_take rfl ⟨rfl, rfl⟩ ⟨Nat.le_of_ble_eq_true rfl, Nat.le_of_ble_eq_true rfl⟩ ⟨Nat.zero_le _, Nat.zero_le _⟩ hl.1 (Nat.le_of_ble_eq_true rfl) rfl dX7_laces_78 (fun u H locs hpq hP hS => ?_)
            have hpq := hpq.symm
            subst hpq
            refine lv_aload_n hx hb dX7_laces_81 rfl (lv_at hl 1 rfl) ?_
            refine g7_61 ha hP 0 (by decide) (cX_0 G _) (v := .ref (G.1 56)) rfl dX7_laces_82 ?_
            refine g7_269 ha hP 56 (by decide) (cX_56 G _) (v := .int ((m_takeR (s_lace (vP σ 33) (ix n) (m_lBegin (vP σ 33) (vS σ 45) σ n) 0 0) o 66 n) 56 2)) rfl dX7_laces_85 ?_
            exact xiret ha hP hS dX7_laces_88 ⟨by (try subst eo); (try subst eo2); simp [k_laces, t_1, c_2, u_3, t_4, f_4, u_5, i_leN, -Int32.not_lt], (by (try subst eo); (try subst eo2); simp [k_laces, t_1, c_2, u_3, t_4, f_4, u_5, i_leN, -Int32.not_lt])⟩ rfl
          · have t_5 := i_nle c_5
            have u_5 := u_nle c_5
            refine lv_bipush (v := (-9)) hx hb dX7_laces_66 (by decide) ?_
            exact xiret ha hP hS dX7_laces_68 ⟨by (try subst eo); (try subst eo2); simp [k_laces, t_1, c_2, u_3, t_4, f_4, u_5, i_leN, -Int32.not_lt], (by (try subst eo); (try subst eo2); simp [k_laces, t_1, c_2, u_3, t_4, f_4, u_5, i_leN, -Int32.not_lt])⟩ rfl
        · have t_4 := b2i_t c_4
          have f_4 := of_decide_eq_true t_4
          refine lv_bipush (v := (-4)) hx hb dX7_laces_31 (by decide) ?_
          exact xiret ha hP hS dX7_laces_33 ⟨by (try subst eo); (try subst eo2); simp [k_laces, t_1, c_2, u_3, t_4, f_4, i_leN, -Int32.not_lt], (by (try subst eo); (try subst eo2); simp [k_laces, t_1, c_2, u_3, t_4, f_4, i_leN, -Int32.not_lt])⟩ rfl
      · have t_3 := i_nle c_3
        have u_3 := u_nle c_3
        refine lv_iconst (v := (-1)) hx hb dX7_laces_19 (by decide) ?_
        exact xiret ha hP hS dX7_laces_20 ⟨by (try subst eo); (try subst eo2); simp [k_laces, t_1, c_2, u_3, i_leN, -Int32.not_lt], (by (try subst eo); (try subst eo2); simp [k_laces, t_1, c_2, u_3, i_leN, -Int32.not_lt])⟩ rfl
  · rw [show va_rf (if a_in ro 6 = true then some (G.1 (5 + 2 * ix ro)) else none) = .null from by rw [if_neg t_1]; rfl]
    refine lv_astore_nN (lv' := [(3, .null), (0, .ref (G.1 0)), (1, .int n), (2, .int ro)]) hx hb dX7_laces_5 rfl hl (by decide) rfl (fun ls hl => ?_)
    refine lv_aload_nN hx hb dX7_laces_6 rfl (lv_at hl 0 rfl) ?_
    refine lv_ifnullN (tgt := 19) hx hb dX7_laces_7 (by decide) ?_
    refine lv_iconst (v := (-1)) hx hb dX7_laces_19 (by decide) ?_
    exact xiret ha hP hS dX7_laces_20 ⟨by (try subst eo); (try subst eo2); simp [k_laces, t_1, i_leN, -Int32.not_lt], (by (try subst eo); (try subst eo2); simp [k_laces, t_1, i_leN, -Int32.not_lt])⟩ rfl
set_option maxHeartbeats 4000000 in
set_option maxRecDepth 100000 in
theorem c_X7_isWithin (G : GT) (l : Launch) (σ : Mem) (v : Int32) (most : Int32)  : CI G 74 (cX G) l yX7_isWithin ({ frames := 0, cells := 0, slots := 0, locals := 0 } : Room) cX7_isWithin 2 (some .boolean) [.int v, .int most] σ (fun (r : Int32) u => r = b2i (a_within v most) ∧ u = σ) := by
  intro sz
  refine xbegin (by decide) (Nat.le_of_ble_eq_true rfl) ?_
  intro p e s m below meth c ls hsz ha hP hl
  subst hsz
  have hx := ha.1
  have hb := ha.2.1
  have hS : va_S (xA G 74 s.heap.size) s.heap s.heap [] := va_S.rf
  have hl : lv_has ls 2 [(0, .int v), (1, .int most)] := hl
  have k_0 : (0 : Int32).toInt = 0 := by decide
  have k_1 : (1 : Int32).toInt = 1 := by decide
  refine lv_iload_n hx hb dX7_isWithin_0 rfl (lv_at hl 0 rfl) ?_
  refine lv_if_lt (tgt := 13) hx hb dX7_isWithin_1 (by decide) (fun c_1 => ?_) (fun c_1 => ?_)
  · have t_1 := i_lt c_1
    refine lv_iconst (v := 0) hx hb dX7_isWithin_13 (by decide) ?_
    exact xzret ha hP hS rfl dX7_isWithin_14 ⟨by simp [b2i, a_within, i_leN, c_1, -Int32.not_lt] <;> first | rfl | simp_all, rfl⟩ rfl
  · have t_1 := i_nlt c_1
    refine lv_iload_n hx hb dX7_isWithin_4 rfl (lv_at hl 0 rfl) ?_
    refine lv_iload_n hx hb dX7_isWithin_5 rfl (lv_at hl 1 rfl) ?_
    refine lv_icmp_gt (tgt := 13) hx hb dX7_isWithin_6 (by decide) (fun c_2 => ?_) (fun c_2 => ?_)
    · have t_2 := i_lt c_2
      refine lv_iconst (v := 0) hx hb dX7_isWithin_13 (by decide) ?_
      exact xzret ha hP hS rfl dX7_isWithin_14 ⟨by simp [b2i, a_within, i_leN, c_1, c_2, -Int32.not_lt] <;> first | rfl | simp_all, rfl⟩ rfl
    · have t_2 := i_nlt c_2
      refine lv_iconst (v := 1) hx hb dX7_isWithin_9 (by decide) ?_
      refine lv_goto (tgt := 14) hx hb dX7_isWithin_10 (by decide) ?_
      exact xzret ha hP hS rfl dX7_isWithin_14 ⟨by simp [b2i, a_within, i_leN, c_1, c_2, -Int32.not_lt] <;> first | rfl | simp_all, rfl⟩ rfl
set_option maxHeartbeats 4000000 in
set_option maxRecDepth 100000 in
theorem c_X7_findingOfTriples (G : GT) (l : Launch) (σ : Mem) (o : Nat) (ho : oRow o) (hz : RZ σ) : CI G 74 (cX G) l yX7_findingOfTriples ({ frames := 2, cells := 0, slots := 0, locals := 42 } : Room) cX7_findingOfTriples 2 (some .int) [.ref (G.1 o)] σ (fun (r : Int32) u => r = a_triF σ o ∧ u = σ) := by
  intro sz
  refine xbegin (by decide) (Nat.le_of_ble_eq_true rfl) ?_
  intro p e s m below meth c ls hsz ha hP hl
  subst hsz
  have hx := ha.1
  have hb := ha.2.1
  have hS : va_S (xA G 74 s.heap.size) s.heap s.heap [] := va_S.rf
  have hl : lv_has ls 2 [(0, .ref (G.1 o))] := hl
  have k_0 : (0 : Int32).toInt = 0 := by decide
  have k_1 : (1 : Int32).toInt = 1 := by decide
  have k_2 : (2 : Int32).toInt = 2 := by decide
  have k_3 : (3 : Int32).toInt = 3 := by decide
  have k_5 : (5 : Int32).toInt = 5 := by decide
  have k_20 : (20 : Int32).toInt = 20 := by decide
  have k_99 : (99 : Int32).toInt = 99 := by decide
  refine lv_aload_n hx hb dX7_findingOfTriples_0 rfl (lv_at hl 0 rfl) ?_
  refine xVi ha hP hS (y := yX3_isMissing) (As := []) (rest := []) o (oRow_lt0 ho) (sRow ho) rfl rfl (c_X3_isMissing G l σ o ho) kw_X7_110 hd_X3_isMissing rfl ⟨rfl, rfl⟩ ⟨Nat.le_of_ble_eq_true rfl, Nat.le_of_ble_eq_true rfl⟩ ⟨Nat.zero_le _, Nat.zero_le _⟩ hl.1 (Nat.le_of_ble_eq_true rfl) rfl dX7_findingOfTriples_1 (fun r u H locs hpq hP hS => ?_)
  obtain ⟨hr_, hu_⟩ := hpq
  have hr_ := hr_.symm
  have hu_ := hu_.symm
  subst hr_
  subst hu_
  refine lv_if_eq (tgt := 9) hx hb dX7_findingOfTriples_4 (by decide) (fun c_1 => ?_) (fun c_1 => ?_)
  · have t_1 := b2i_f c_1
    have f_1 := of_decide_eq_false t_1
    refine lv_aload_n hx hb dX7_findingOfTriples_9 rfl (lv_at hl 0 rfl) ?_
    refine g7_114 ha hP o (oRow_lt0 ho) (sRow ho) (v := .int (σ o 0)) rfl dX7_findingOfTriples_10 ?_
    refine lv_iconst (v := 3) hx hb dX7_findingOfTriples_13 (by decide) ?_
    refine lv_irem hx hb dX7_findingOfTriples_14 (by decide) ?_
    refine lv_if_eq (tgt := 20) hx hb dX7_findingOfTriples_15 (by decide) (fun c_2 => ?_) (fun c_2 => ?_)
    · have t_2 := i_eq c_2
      have hc0 := ix_cases (σ o 0)
      have hz0 := hz _ ho
      have htn : triN σ o ≤ 20 := by unfold triN; omega
      have htd : 3 * triN σ o < ix (σ o 0) + 3 ∧ ix (σ o 0) ≤ 3 * triN σ o := by unfold triN; omega
      refine lv_iconst (v := 0) hx hb dX7_findingOfTriples_20 (by decide) ?_
      refine lv_istore_n (lv' := [(1, .int 0), (0, .ref (G.1 o))]) hx hb dX7_findingOfTriples_21 rfl hl (by decide) rfl (fun ls hl => ?_)
      have lp_22 : ∀ (d j : Nat)  (H : Heap) (locs : List Loc) (ls : Array Slot), j ≤ (triN σ o) → (triN σ o) - j < d → (fstN (tri_bad σ o) j = j) → va_P G.2.1 vwCl (wl G 74 (cX G σ)) H → va_S (xA G 74 s.heap.size) s.heap H locs → lv_has ls 2 [(1, .int (nI (3 * j))), (0, .ref (G.1 o))] → W p l e ({ frames := 2, cells := 0, slots := 0, locals := 42 } : Room) s m ([.ref (G.1 o)] : List Value).toArray below meth c H locs 0 0 (MQ below (va_Qi (fun (r : Int32) u => r = a_triF σ o ∧ u = σ) (xB G 74 (cX G)) (xA G 74 s.heap.size)) ([.ref (G.1 o)] : List Value).toArray s 0 0 (xA G 74 s.heap.size)) (F0 m 22 ls []) := by
        intro d
        induction d with
        | zero => intro j  H locs ls hj hd; exact absurd hd (Nat.not_lt_zero _)
        | succ d ih_22 =>
          intro j  H locs ls hj_j hd_j hst hP hS hl
          have h31_j : (nI j).toInt = (j : Int) := nI_toInt (by omega)
          have h3_j : (nI (3 * j)).toInt = ((3 * j : Nat) : Int) := nI_toInt (by omega)
          refine lv_iload_n hx hb dX7_findingOfTriples_22 rfl (lv_at hl 0 rfl) ?_
          refine lv_aload_n hx hb dX7_findingOfTriples_23 rfl (lv_at hl 1 rfl) ?_
          refine g7_114 ha hP o (oRow_lt0 ho) (sRow ho) (v := .int (σ o 0)) rfl dX7_findingOfTriples_24 ?_
          refine lv_icmp_ge (tgt := 80) hx hb dX7_findingOfTriples_27 (by decide) (fun c_3 => ?_) (fun c_3 => ?_)
          · have t_3 := i_le c_3
            have u_3 := u_le c_3
            obtain rfl : j = triN σ o := by omega
            refine lv_iconst (v := 0) hx hb dX7_findingOfTriples_80 (by decide) ?_
            exact xiret ha hP hS dX7_findingOfTriples_81 ⟨by simp [a_triF, t_1, f_1, c_2, u_3, hst], rfl⟩ rfl
          · have t_3 := i_nle c_3
            have u_3 := u_nle c_3
            have hlt_j : j < (triN σ o) := by omega
            refine lv_aload_n hx hb dX7_findingOfTriples_30 rfl (lv_at hl 1 rfl) ?_
            refine lv_iload_n hx hb dX7_findingOfTriples_31 rfl (lv_at hl 0 rfl) ?_
            refine xVi ha hP hS (y := yX3_get) (As := [.int (nI (3 * j))]) (rest := []) o (oRow_lt0 ho) (sRow ho) rfl rfl (c_X3_get G l σ o (nI (3 * j)) ho) kw_X7_100 hd_X3_get rfl ⟨rfl, rfl⟩ ⟨Nat.le_of_ble_eq_true rfl, Nat.le_of_ble_eq_true rfl⟩ ⟨Nat.zero_le _, Nat.zero_le _⟩ hl.1 (Nat.le_of_ble_eq_true rfl) rfl dX7_findingOfTriples_32 (fun r u H locs hpq hP hS => ?_)
            obtain ⟨hr_, hu_⟩ := hpq
            have hr_ := hr_.symm
            have hu_ := hu_.symm
            subst hr_
            subst hu_
            refine lv_bipush (v := 20) hx hb dX7_findingOfTriples_35 (by decide) ?_
            refine xSi ha hP hS (y := yX7_isWithin) (As := [.int (a_get σ o (nI (3 * j))), .int 20]) (rest := []) rfl (c_X7_isWithin G l σ (a_get σ o (nI (3 * j))) 20 ) kw_X7_364 hd_X7_isWithin rfl ⟨rfl, rfl⟩ ⟨Nat.le_of_ble_eq_true rfl, Nat.le_of_ble_eq_true rfl⟩ ⟨Nat.zero_le _, Nat.zero_le _⟩ hl.1 (Nat.le_of_ble_eq_true rfl) rfl dX7_findingOfTriples_37 (fun r u H locs hpq hP hS => ?_)
            obtain ⟨hr_, hu_⟩ := hpq
            have hr_ := hr_.symm
            have hu_ := hu_.symm
            subst hr_
            subst hu_
            refine lv_if_eq (tgt := 72) hx hb dX7_findingOfTriples_40 (by decide) (fun c_4 => ?_) (fun c_4 => ?_)
            · have t_4 := b2i_f c_4
              have HB : tri_bad σ o j = true := by simp [tri_bad, t_1, f_1, c_2, u_3, t_4]
              have HS := fstN_b hst HB (triN σ o) (by omega)
              refine lv_iconst (v := 3) hx hb dX7_findingOfTriples_72 (by decide) ?_
              exact xiret ha hP hS dX7_findingOfTriples_73 ⟨by simp [a_triF, t_1, f_1, c_2, u_3, t_4, HS]; omega, rfl⟩ rfl
            · have t_4 := b2i_t c_4
              refine lv_aload_n hx hb dX7_findingOfTriples_43 rfl (lv_at hl 1 rfl) ?_
              refine lv_iload_n hx hb dX7_findingOfTriples_44 rfl (lv_at hl 0 rfl) ?_
              refine lv_iconst (v := 1) hx hb dX7_findingOfTriples_45 (by decide) ?_
              refine lv_iaddE (z := (nI ((3 * j) + 1))) hx hb dX7_findingOfTriples_46 (nI_1 (3 * j)) ?_
              refine xVi ha hP hS (y := yX3_get) (As := [.int (nI ((3 * j) + 1))]) (rest := []) o (oRow_lt0 ho) (sRow ho) rfl rfl (c_X3_get G l σ o (nI ((3 * j) + 1)) ho) kw_X7_100 hd_X3_get rfl ⟨rfl, rfl⟩ ⟨Nat.le_of_ble_eq_true rfl, Nat.le_of_ble_eq_true rfl⟩ ⟨Nat.zero_le _, Nat.zero_le _⟩ hl.1 (Nat.le_of_ble_eq_true rfl) rfl dX7_findingOfTriples_47 (fun r u H locs hpq hP hS => ?_)
              obtain ⟨hr_, hu_⟩ := hpq
              have hr_ := hr_.symm
              have hu_ := hu_.symm
              subst hr_
              subst hu_
              refine lv_bipush (v := 99) hx hb dX7_findingOfTriples_50 (by decide) ?_
              refine xSi ha hP hS (y := yX7_isWithin) (As := [.int (a_get σ o (nI ((3 * j) + 1))), .int 99]) (rest := []) rfl (c_X7_isWithin G l σ (a_get σ o (nI ((3 * j) + 1))) 99 ) kw_X7_364 hd_X7_isWithin rfl ⟨rfl, rfl⟩ ⟨Nat.le_of_ble_eq_true rfl, Nat.le_of_ble_eq_true rfl⟩ ⟨Nat.zero_le _, Nat.zero_le _⟩ hl.1 (Nat.le_of_ble_eq_true rfl) rfl dX7_findingOfTriples_52 (fun r u H locs hpq hP hS => ?_)
              obtain ⟨hr_, hu_⟩ := hpq
              have hr_ := hr_.symm
              have hu_ := hu_.symm
              subst hr_
              subst hu_
              refine lv_if_eq (tgt := 72) hx hb dX7_findingOfTriples_55 (by decide) (fun c_5 => ?_) (fun c_5 => ?_)
              · have t_5 := b2i_f c_5
                have HB : tri_bad σ o j = true := by simp [tri_bad, t_1, f_1, c_2, u_3, t_4, t_5]
                have HS := fstN_b hst HB (triN σ o) (by omega)
                refine lv_iconst (v := 3) hx hb dX7_findingOfTriples_72 (by decide) ?_
                exact xiret ha hP hS dX7_findingOfTriples_73 ⟨by simp [a_triF, t_1, f_1, c_2, u_3, t_4, t_5, HS]; omega, rfl⟩ rfl
              · have t_5 := b2i_t c_5
                refine lv_aload_n hx hb dX7_findingOfTriples_58 rfl (lv_at hl 1 rfl) ?_
                refine lv_iload_n hx hb dX7_findingOfTriples_59 rfl (lv_at hl 0 rfl) ?_
                refine lv_iconst (v := 2) hx hb dX7_findingOfTriples_60 (by decide) ?_
                refine lv_iaddE (z := (nI ((3 * j) + 2))) hx hb dX7_findingOfTriples_61 (nI_add (3 * j) 2) ?_
                refine xVi ha hP hS (y := yX3_get) (As := [.int (nI ((3 * j) + 2))]) (rest := []) o (oRow_lt0 ho) (sRow ho) rfl rfl (c_X3_get G l σ o (nI ((3 * j) + 2)) ho) kw_X7_100 hd_X3_get rfl ⟨rfl, rfl⟩ ⟨Nat.le_of_ble_eq_true rfl, Nat.le_of_ble_eq_true rfl⟩ ⟨Nat.zero_le _, Nat.zero_le _⟩ hl.1 (Nat.le_of_ble_eq_true rfl) rfl dX7_findingOfTriples_62 (fun r u H locs hpq hP hS => ?_)
                obtain ⟨hr_, hu_⟩ := hpq
                have hr_ := hr_.symm
                have hu_ := hu_.symm
                subst hr_
                subst hu_
                refine lv_iconst (v := 1) hx hb dX7_findingOfTriples_65 (by decide) ?_
                refine xSi ha hP hS (y := yX7_isWithin) (As := [.int (a_get σ o (nI ((3 * j) + 2))), .int 1]) (rest := []) rfl (c_X7_isWithin G l σ (a_get σ o (nI ((3 * j) + 2))) 1 ) kw_X7_364 hd_X7_isWithin rfl ⟨rfl, rfl⟩ ⟨Nat.le_of_ble_eq_true rfl, Nat.le_of_ble_eq_true rfl⟩ ⟨Nat.zero_le _, Nat.zero_le _⟩ hl.1 (Nat.le_of_ble_eq_true rfl) rfl dX7_findingOfTriples_66 (fun r u H locs hpq hP hS => ?_)
                obtain ⟨hr_, hu_⟩ := hpq
                have hr_ := hr_.symm
                have hu_ := hu_.symm
                subst hr_
                subst hu_
                refine lv_if_ne (tgt := 74) hx hb dX7_findingOfTriples_69 (by decide) (fun c_6 => ?_) (fun c_6 => ?_)
                · have t_6 := b2i_t c_6
                  refine lv_iinc (v := (nI (3 * (j + 1)))) (lv' := [(1, .int (nI (3 * (j + 1)))), (0, .ref (G.1 o))]) hx hb dX7_findingOfTriples_74 hl (k := 0) rfl (by rw [show 3 * (j + 1) = 3 * j + 3 by omega]; exact nI_add (3 * j) 3) (by decide) rfl (fun ls hl => ?_)
                  refine lv_goto (tgt := 22) hx hb dX7_findingOfTriples_77 (by decide) ?_
                  exact ih_22 (j + 1)  _ _ _ (by omega) (by omega) (fstN_s hst (by simp [tri_bad, t_1, f_1, c_2, u_3, t_4, t_5, t_6])) hP hS (lv_sub hl [0, 1] rfl)
                · have t_6 := b2i_f c_6
                  have HB : tri_bad σ o j = true := by simp [tri_bad, t_1, f_1, c_2, u_3, t_4, t_5, t_6]
                  have HS := fstN_b hst HB (triN σ o) (by omega)
                  refine lv_iconst (v := 3) hx hb dX7_findingOfTriples_72 (by decide) ?_
                  exact xiret ha hP hS dX7_findingOfTriples_73 ⟨by simp [a_triF, t_1, f_1, c_2, u_3, t_4, t_5, t_6, HS]; omega, rfl⟩ rfl
      exact lp_22 ((triN σ o) - 0 + 1) 0  _ _ _ (by omega) (by omega) rfl hP hS (lv_sub hl [0, 1] rfl)
    · have t_2 := i_ne c_2
      refine lv_iconst (v := 5) hx hb dX7_findingOfTriples_18 (by decide) ?_
      exact xiret ha hP hS dX7_findingOfTriples_19 ⟨by simp [a_triF, i_leN, t_1, f_1, c_2, -Int32.not_lt] <;> first | rfl | simp_all, rfl⟩ rfl
  · have t_1 := b2i_t c_1
    have f_1 := of_decide_eq_true t_1
    refine lv_iconst (v := 1) hx hb dX7_findingOfTriples_7 (by decide) ?_
    exact xiret ha hP hS dX7_findingOfTriples_8 ⟨by simp [a_triF, i_leN, t_1, f_1, -Int32.not_lt] <;> first | rfl | simp_all, rfl⟩ rfl
set_option maxHeartbeats 4000000 in
set_option maxRecDepth 100000 in
theorem c_X7_agrees (G : GT) (l : Launch) (σ : Mem) (o : Nat) (kind : Int32) (tall : Int32) (strong : Int32) (ho : oRow o) (hz : RZ σ) : CI G 74 (cX G) l yX7_agrees ({ frames := 2, cells := 0, slots := 0, locals := 47 } : Room) cX7_agrees 6 (some .boolean) [.ref (G.1 o), .int kind, .int tall, .int strong] σ (fun (r : Int32) u => r = b2i (a_agrees σ o kind tall strong) ∧ u = σ) := by
  intro sz
  refine xbegin (by decide) (Nat.le_of_ble_eq_true rfl) ?_
  intro p e s m below meth c ls hsz ha hP hl
  subst hsz
  have hx := ha.1
  have hb := ha.2.1
  have hS : va_S (xA G 74 s.heap.size) s.heap s.heap [] := va_S.rf
  have hl : lv_has ls 6 [(0, .ref (G.1 o)), (1, .int kind), (2, .int tall), (3, .int strong)] := hl
  have k_0 : (0 : Int32).toInt = 0 := by decide
  have k_1 : (1 : Int32).toInt = 1 := by decide
  have k_2 : (2 : Int32).toInt = 2 := by decide
  have hc0 := ix_cases (σ o 0)
  have hz0 := hz _ ho
  have htn : triN σ o ≤ 20 := by unfold triN; omega
  have htd : 3 * triN σ o < ix (σ o 0) + 3 ∧ ix (σ o 0) ≤ 3 * triN σ o := by unfold triN; omega
  refine lv_iconst (v := 0) hx hb dX7_agrees_0 (by decide) ?_
  refine lv_istore (lv' := [(4, .int 0), (0, .ref (G.1 o)), (1, .int kind), (2, .int tall), (3, .int strong)]) hx hb dX7_agrees_1 hl (by decide) rfl (fun ls hl => ?_)
  have lp_3 : ∀ (d j : Nat)  (H : Heap) (locs : List Loc) (ls : Array Slot), j ≤ (triN σ o) → (triN σ o) - j < d → (fstN (ag_bad σ o kind tall strong) j = j) → va_P G.2.1 vwCl (wl G 74 (cX G σ)) H → va_S (xA G 74 s.heap.size) s.heap H locs → lv_has ls 6 [(4, .int (nI (3 * j))), (0, .ref (G.1 o)), (1, .int kind), (2, .int tall), (3, .int strong)] → W p l e ({ frames := 2, cells := 0, slots := 0, locals := 47 } : Room) s m ([.ref (G.1 o), .int kind, .int tall, .int strong] : List Value).toArray below meth c H locs 0 0 (MQ below (va_Qi (fun (r : Int32) u => r = b2i (a_agrees σ o kind tall strong) ∧ u = σ) (xB G 74 (cX G)) (xA G 74 s.heap.size)) ([.ref (G.1 o), .int kind, .int tall, .int strong] : List Value).toArray s 0 0 (xA G 74 s.heap.size)) (F0 m 3 ls []) := by
    intro d
    induction d with
    | zero => intro j  H locs ls hj hd; exact absurd hd (Nat.not_lt_zero _)
    | succ d ih_3 =>
      intro j  H locs ls hj_j hd_j hst hP hS hl
      have h31_j : (nI j).toInt = (j : Int) := nI_toInt (by omega)
      have h3_j : (nI (3 * j)).toInt = ((3 * j : Nat) : Int) := nI_toInt (by omega)
      refine lv_iload hx hb dX7_agrees_3 (lv_at hl 0 rfl) ?_
      refine lv_aload_n hx hb dX7_agrees_5 rfl (lv_at hl 1 rfl) ?_
      refine g7_114 ha hP o (oRow_lt0 ho) (sRow ho) (v := .int (σ o 0)) rfl dX7_agrees_6 ?_
      refine lv_icmp_ge (tgt := 72) hx hb dX7_agrees_9 (by decide) (fun c_1 => ?_) (fun c_1 => ?_)
      · have t_1 := i_le c_1
        have u_1 := u_le c_1
        obtain rfl : j = triN σ o := by omega
        refine lv_iconst (v := 1) hx hb dX7_agrees_72 (by decide) ?_
        exact xzret ha hP hS rfl dX7_agrees_73 ⟨by rw [a_agrees, decide_eq_true hst]; rfl, rfl⟩ rfl
      · have t_1 := i_nle c_1
        have u_1 := u_nle c_1
        have hlt_j : j < (triN σ o) := by omega
        refine lv_iload_n hx hb dX7_agrees_12 rfl (lv_at hl 2 rfl) ?_
        refine lv_iload_n hx hb dX7_agrees_13 rfl (lv_at hl 3 rfl) ?_
        refine lv_iload_n hx hb dX7_agrees_14 rfl (lv_at hl 4 rfl) ?_
        refine lv_aload_n hx hb dX7_agrees_15 rfl (lv_at hl 1 rfl) ?_
        refine lv_iload hx hb dX7_agrees_16 (lv_at hl 0 rfl) ?_
        refine xVi ha hP hS (y := yX3_get) (As := [.int (nI (3 * j))]) (rest := [.int strong, .int tall, .int kind]) o (oRow_lt0 ho) (sRow ho) rfl rfl (c_X3_get G l σ o (nI (3 * j)) ho) kw_X7_100 hd_X3_get rfl ⟨rfl, rfl⟩ ⟨Nat.le_of_ble_eq_true rfl, Nat.le_of_ble_eq_true rfl⟩ ⟨Nat.zero_le _, Nat.zero_le _⟩ hl.1 (Nat.le_of_ble_eq_true rfl) rfl dX7_agrees_18 (fun r u H locs hpq hP hS => ?_)
        obtain ⟨hr_, hu_⟩ := hpq
        have hr_ := hr_.symm
        have hu_ := hu_.symm
        subst hr_
        subst hu_
        refine xSi ha hP hS (y := yX7_bearing) (As := [.int kind, .int tall, .int strong, .int (a_get σ o (nI (3 * j)))]) (rest := []) rfl (c_X7_bearing G l σ kind tall strong (a_get σ o (nI (3 * j))) ) kw_X7_367 hd_X7_bearing rfl ⟨rfl, rfl⟩ ⟨Nat.le_of_ble_eq_true rfl, Nat.le_of_ble_eq_true rfl⟩ ⟨Nat.zero_le _, Nat.zero_le _⟩ hl.1 (Nat.le_of_ble_eq_true rfl) rfl dX7_agrees_21 (fun r u H locs hpq hP hS => ?_)
        obtain ⟨hr_, hu_⟩ := hpq
        have hr_ := hr_.symm
        have hu_ := hu_.symm
        subst hr_
        subst hu_
        refine lv_aload_n hx hb dX7_agrees_24 rfl (lv_at hl 1 rfl) ?_
        refine lv_iload hx hb dX7_agrees_25 (lv_at hl 0 rfl) ?_
        refine lv_iconst (v := 1) hx hb dX7_agrees_27 (by decide) ?_
        refine lv_iaddE (z := (nI ((3 * j) + 1))) hx hb dX7_agrees_28 (nI_1 (3 * j)) ?_
        refine xVi ha hP hS (y := yX3_get) (As := [.int (nI ((3 * j) + 1))]) (rest := [.int (a_bearing kind tall strong (a_get σ o (nI (3 * j))))]) o (oRow_lt0 ho) (sRow ho) rfl rfl (c_X3_get G l σ o (nI ((3 * j) + 1)) ho) kw_X7_100 hd_X3_get rfl ⟨rfl, rfl⟩ ⟨Nat.le_of_ble_eq_true rfl, Nat.le_of_ble_eq_true rfl⟩ ⟨Nat.zero_le _, Nat.zero_le _⟩ hl.1 (Nat.le_of_ble_eq_true rfl) rfl dX7_agrees_29 (fun r u H locs hpq hP hS => ?_)
        obtain ⟨hr_, hu_⟩ := hpq
        have hr_ := hr_.symm
        have hu_ := hu_.symm
        subst hr_
        subst hu_
        have jn_2 : ∀ x_2 : Int32, x_2 = (if (a_bearing kind tall strong (a_get σ o (nI (3 * j)))) < (a_get σ o (nI ((3 * j) + 1))) then 0 else 1) → W p l e ({ frames := 2, cells := 0, slots := 0, locals := 47 } : Room) s m ([.ref (G.1 o), .int kind, .int tall, .int strong] : List Value).toArray below meth c H locs 0 0 (MQ below (va_Qi (fun (r : Int32) u => r = b2i (a_agrees σ o kind tall strong) ∧ u = σ) (xB G 74 (cX G)) (xA G 74 s.heap.size)) ([.ref (G.1 o), .int kind, .int tall, .int strong] : List Value).toArray s 0 0 (xA G 74 s.heap.size)) (F0 m 40 ls [.int x_2]) := by
          intro x_2 ex_2
          refine lv_istore (lv' := [(5, .int x_2), (4, .int (nI (3 * j))), (0, .ref (G.1 o)), (1, .int kind), (2, .int tall), (3, .int strong)]) hx hb dX7_agrees_40 hl (by decide) rfl (fun ls hl => ?_)
          refine lv_iload hx hb dX7_agrees_42 (lv_at hl 0 rfl) ?_
          refine lv_aload_n hx hb dX7_agrees_44 rfl (lv_at hl 2 rfl) ?_
          refine lv_iload hx hb dX7_agrees_45 (lv_at hl 1 rfl) ?_
          refine lv_iconst (v := 2) hx hb dX7_agrees_47 (by decide) ?_
          refine lv_iaddE (z := (nI ((3 * j) + 2))) hx hb dX7_agrees_48 (nI_add (3 * j) 2) ?_
          refine xVi ha hP hS (y := yX3_get) (As := [.int (nI ((3 * j) + 2))]) (rest := [.int x_2]) o (oRow_lt0 ho) (sRow ho) rfl rfl (c_X3_get G l σ o (nI ((3 * j) + 2)) ho) kw_X7_100 hd_X3_get rfl ⟨rfl, rfl⟩ ⟨Nat.le_of_ble_eq_true rfl, Nat.le_of_ble_eq_true rfl⟩ ⟨Nat.zero_le _, Nat.zero_le _⟩ hl.1 (Nat.le_of_ble_eq_true rfl) rfl dX7_agrees_49 (fun r u H locs hpq hP hS => ?_)
          obtain ⟨hr_, hu_⟩ := hpq
          have hr_ := hr_.symm
          have hu_ := hu_.symm
          subst hr_
          subst hu_
          refine lv_iconst (v := 1) hx hb dX7_agrees_52 (by decide) ?_
          have jn_3 : ∀ x_3 : Int32, x_3 = (if (a_get σ o (nI ((3 * j) + 2))) = 1 then 1 else 0) → W p l e ({ frames := 2, cells := 0, slots := 0, locals := 47 } : Room) s m ([.ref (G.1 o), .int kind, .int tall, .int strong] : List Value).toArray below meth c H locs 0 0 (MQ below (va_Qi (fun (r : Int32) u => r = b2i (a_agrees σ o kind tall strong) ∧ u = σ) (xB G 74 (cX G)) (xA G 74 s.heap.size)) ([.ref (G.1 o), .int kind, .int tall, .int strong] : List Value).toArray s 0 0 (xA G 74 s.heap.size)) (F0 m 61 ls [.int x_3, .int x_2]) := by
            intro x_3 ex_3
            refine lv_icmp_eq (tgt := 66) hx hb dX7_agrees_61 (by decide) (fun c_4 => ?_) (fun c_4 => ?_)
            · have t_4 := i_eq c_4
              refine lv_iinc (v := (nI (3 * (j + 1)))) (lv' := [(4, .int (nI (3 * (j + 1)))), (5, .int x_2), (0, .ref (G.1 o)), (1, .int kind), (2, .int tall), (3, .int strong)]) hx hb dX7_agrees_66 hl (k := 1) rfl (by rw [show 3 * (j + 1) = 3 * j + 3 by omega]; exact nI_add (3 * j) 3) (by decide) rfl (fun ls hl => ?_)
              refine lv_goto (tgt := 3) hx hb dX7_agrees_69 (by decide) ?_
              exact ih_3 (j + 1)  _ _ _ (by omega) (by omega) (fstN_s hst (by simp [ag_bad, u_1, ex_2, ex_3, c_4]; try simp_all)) hP hS (lv_sub hl [0, 2, 3, 4, 5] rfl)
            · have t_4 := i_ne c_4
              have HB : ag_bad σ o kind tall strong j = true := by simp [ag_bad, u_1, ex_2, ex_3, c_4]; try simp_all
              have HS := fstN_b hst HB (triN σ o) (by omega)
              refine lv_iconst (v := 0) hx hb dX7_agrees_64 (by decide) ?_
              exact xzret ha hP hS rfl dX7_agrees_65 ⟨by rw [a_agrees, decide_eq_false (by omega)]; rfl, rfl⟩ rfl
          refine lv_icmp_ne (tgt := 60) hx hb dX7_agrees_53 (by decide) (fun c_3 => ?_) (fun c_3 => ?_)
          · have t_3 := i_ne c_3
            refine lv_iconst (v := 0) hx hb dX7_agrees_60 (by decide) ?_
            exact jn_3 _ (if_neg c_3).symm
          · have t_3 := i_eq c_3
            refine lv_iconst (v := 1) hx hb dX7_agrees_56 (by decide) ?_
            refine lv_goto (tgt := 61) hx hb dX7_agrees_57 (by decide) ?_
            exact jn_3 _ (if_pos c_3).symm
        refine lv_icmp_lt (tgt := 39) hx hb dX7_agrees_32 (by decide) (fun c_2 => ?_) (fun c_2 => ?_)
        · have t_2 := i_lt c_2
          refine lv_iconst (v := 0) hx hb dX7_agrees_39 (by decide) ?_
          exact jn_2 _ (if_pos c_2).symm
        · have t_2 := i_nlt c_2
          refine lv_iconst (v := 1) hx hb dX7_agrees_35 (by decide) ?_
          refine lv_goto (tgt := 40) hx hb dX7_agrees_36 (by decide) ?_
          exact jn_2 _ (if_neg c_2).symm
  exact lp_3 ((triN σ o) - 0 + 1) 0  _ _ _ (by omega) (by omega) rfl hP hS (lv_sub hl [0, 1, 2, 3, 4] rfl)
set_option maxHeartbeats 4000000 in
set_option maxRecDepth 100000 in
theorem c_X7_kindsBy (G : GT) (l : Launch) (σ : Mem) (o : Nat) (k : Int32) (ho : oRow o) (hz : RZ σ) (hk : a_isPole (vP σ 33) k = true) : CI G 74 (cX G) l yX7_kindsBy ({ frames := 3, cells := 0, slots := 0, locals := 72 } : Room) cX7_kindsBy 5 (some .int) [.ref (G.1 0), .ref (G.1 o), .int k] σ (fun (r : Int32) u => r = a_kindsBy σ o k ∧ u = σ) := by
  intro sz
  refine xbegin (by decide) (Nat.le_of_ble_eq_true rfl) ?_
  intro p e s m below meth c ls hsz ha hP hl
  subst hsz
  have hx := ha.1
  have hb := ha.2.1
  have hS : va_S (xA G 74 s.heap.size) s.heap s.heap [] := va_S.rf
  have hl : lv_has ls 5 [(0, .ref (G.1 0)), (1, .ref (G.1 o)), (2, .int k)] := hl
  have k_0 : (0 : Int32).toInt = 0 := by decide
  have k_1 : (1 : Int32).toInt = 1 := by decide
  have k_6 : (6 : Int32).toInt = 6 := by decide
  have hk1 := isPole_t hk
  refine lv_iconst (v := 0) hx hb dX7_kindsBy_0 (by decide) ?_
  refine lv_istore_n (lv' := [(3, .int 0), (0, .ref (G.1 0)), (1, .ref (G.1 o)), (2, .int k)]) hx hb dX7_kindsBy_1 rfl hl (by decide) rfl (fun ls hl => ?_)
  refine lv_iconst (v := 0) hx hb dX7_kindsBy_2 (by decide) ?_
  refine lv_istore (lv' := [(4, .int 0), (3, .int 0), (0, .ref (G.1 0)), (1, .ref (G.1 o)), (2, .int k)]) hx hb dX7_kindsBy_3 hl (by decide) rfl (fun ls hl => ?_)
  have lp_5 : ∀ (d j : Nat) (x3 : Int32) (H : Heap) (locs : List Loc) (ls : Array Slot), j ≤ 6 → 6 - j < d → x3 = a_bits (fun d => a_agrees σ o (nI d) (σ 35 (ix k)) (σ 36 (ix k))) j → va_P G.2.1 vwCl (wl G 74 (cX G σ)) H → va_S (xA G 74 s.heap.size) s.heap H locs → lv_has ls 5 [(4, .int (nI j)), (3, .int x3), (0, .ref (G.1 0)), (1, .ref (G.1 o)), (2, .int k)] → W p l e ({ frames := 3, cells := 0, slots := 0, locals := 72 } : Room) s m ([.ref (G.1 0), .ref (G.1 o), .int k] : List Value).toArray below meth c H locs 0 0 (MQ below (va_Qi (fun (r : Int32) u => r = a_kindsBy σ o k ∧ u = σ) (xB G 74 (cX G)) (xA G 74 s.heap.size)) ([.ref (G.1 0), .ref (G.1 o), .int k] : List Value).toArray s 0 0 (xA G 74 s.heap.size)) (F0 m 5 ls []) := by
    intro d
    induction d with
    | zero => intro j x3 H locs ls hj hd; exact absurd hd (Nat.not_lt_zero _)
    | succ d ih_5 =>
      intro j x3 H locs ls hj_j hd_j e_x3 hP hS hl
      have h31_j : (nI j).toInt = (j : Int) := nI_toInt (by omega)
      refine lv_iload hx hb dX7_kindsBy_5 (lv_at hl 0 rfl) ?_
      refine lv_bipush (v := 6) hx hb dX7_kindsBy_7 (by decide) ?_
      refine lv_icmp_ge (tgt := 52) hx hb dX7_kindsBy_9 (by decide) (fun c_1 => ?_) (fun c_1 => ?_)
      · have t_1 := i_le c_1
        have u_1 := u_le c_1
        obtain rfl : j = 6 := by omega
        refine lv_iload_n hx hb dX7_kindsBy_52 rfl (lv_at hl 1 rfl) ?_
        exact xiret ha hP hS dX7_kindsBy_53 ⟨by simp [a_kindsBy, i_leN, e_x3, u_1, -Int32.not_lt] <;> first | rfl | simp_all, rfl⟩ rfl
      · have t_1 := i_nle c_1
        have u_1 := u_nle c_1
        have hlt_j : j < 6 := by omega
        refine lv_aload_n hx hb dX7_kindsBy_12 rfl (lv_at hl 3 rfl) ?_
        refine lv_iload hx hb dX7_kindsBy_13 (lv_at hl 0 rfl) ?_
        refine lv_aload_n hx hb dX7_kindsBy_15 rfl (lv_at hl 2 rfl) ?_
        refine g7_21 ha hP 0 (by decide) (cX_0 G _) (v := .ref (G.1 33)) rfl dX7_kindsBy_16 ?_
        refine g7_276 ha hP 33 (by decide) (cX_33 G _) (v := .ref (G.1 35)) rfl dX7_kindsBy_19 ?_
        refine lv_iload_n hx hb dX7_kindsBy_22 rfl (lv_at hl 4 rfl) ?_
        refine xialdN ha hP 35 (by decide) (cX_35 G _) (ix k) (ix_nI (by omega)) (ix_lt (by omega) (by omega)) (by decide) dX7_kindsBy_23 ?_
        refine lv_aload_n hx hb dX7_kindsBy_24 rfl (lv_at hl 2 rfl) ?_
        refine g7_21 ha hP 0 (by decide) (cX_0 G _) (v := .ref (G.1 33)) rfl dX7_kindsBy_25 ?_
        refine g7_371 ha hP 33 (by decide) (cX_33 G _) (v := .ref (G.1 36)) rfl dX7_kindsBy_28 ?_
        refine lv_iload_n hx hb dX7_kindsBy_31 rfl (lv_at hl 4 rfl) ?_
        refine xialdN ha hP 36 (by decide) (cX_36 G _) (ix k) (ix_nI (by omega)) (ix_lt (by omega) (by omega)) (by decide) dX7_kindsBy_32 ?_
        refine xSi ha hP hS (y := yX7_agrees) (As := [.ref (G.1 o), .int (nI j), .int (σ 35 (ix k)), .int (σ 36 (ix k))]) (rest := []) rfl (c_X7_agrees G l σ o (nI j) (σ 35 (ix k)) (σ 36 (ix k)) ho hz) kw_X7_279 hd_X7_agrees rfl ⟨rfl, rfl⟩ ⟨Nat.le_of_ble_eq_true rfl, Nat.le_of_ble_eq_true rfl⟩ ⟨Nat.zero_le _, Nat.zero_le _⟩ hl.1 (Nat.le_of_ble_eq_true rfl) rfl dX7_kindsBy_33 (fun r u H locs hpq hP hS => ?_)
        obtain ⟨hr_, hu_⟩ := hpq
        have hr_ := hr_.symm
        have hu_ := hu_.symm
        subst hr_
        subst hu_
        refine lv_if_eq (tgt := 46) hx hb dX7_kindsBy_36 (by decide) (fun c_2 => ?_) (fun c_2 => ?_)
        · have t_2 := b2i_f c_2
          refine lv_iinc (v := (nI (j + 1))) (lv' := [(4, .int (nI (j + 1))), (3, .int x3), (0, .ref (G.1 0)), (1, .ref (G.1 o)), (2, .int k)]) hx hb dX7_kindsBy_46 hl (k := 0) rfl (nI_1 j) (by decide) rfl (fun ls hl => ?_)
          refine lv_goto (tgt := 5) hx hb dX7_kindsBy_49 (by decide) ?_
          exact ih_5 (j + 1) x3 _ _ _ (by omega) (by omega) (by simp [a_bits, i_leN, e_x3, u_1, t_2, -Int32.not_lt] <;> first | rfl | simp_all) hP hS (lv_sub hl [0, 1, 2, 3, 4] rfl)
        · have t_2 := b2i_t c_2
          refine lv_iload_n hx hb dX7_kindsBy_39 rfl (lv_at hl 1 rfl) ?_
          refine lv_iconst (v := 1) hx hb dX7_kindsBy_40 (by decide) ?_
          refine lv_iload hx hb dX7_kindsBy_41 (lv_at hl 0 rfl) ?_
          refine lv_ishl hx hb dX7_kindsBy_43 ?_
          refine lv_ior hx hb dX7_kindsBy_44 ?_
          refine lv_istore_n (lv' := [(3, .int (x3 ||| (1 <<< (nI j &&& 31)))), (4, .int (nI j)), (0, .ref (G.1 0)), (1, .ref (G.1 o)), (2, .int k)]) hx hb dX7_kindsBy_45 rfl hl (by decide) rfl (fun ls hl => ?_)
          refine lv_iinc (v := (nI (j + 1))) (lv' := [(4, .int (nI (j + 1))), (3, .int (x3 ||| (1 <<< (nI j &&& 31)))), (0, .ref (G.1 0)), (1, .ref (G.1 o)), (2, .int k)]) hx hb dX7_kindsBy_46 hl (k := 1) rfl (nI_1 j) (by decide) rfl (fun ls hl => ?_)
          refine lv_goto (tgt := 5) hx hb dX7_kindsBy_49 (by decide) ?_
          exact ih_5 (j + 1) (x3 ||| (1 <<< (nI j &&& 31))) _ _ _ (by omega) (by omega) (by simp [a_bits, i_leN, e_x3, u_1, t_2, -Int32.not_lt] <;> first | rfl | simp_all) hP hS (lv_sub hl [0, 1, 2, 3, 4] rfl)
  exact lp_5 (6 - 0 + 1) 0 0 _ _ _ (by omega) (by omega) (by first | rfl | simp [a_bits, i_leN, -Int32.not_lt] <;> first | rfl | simp_all) hP hS (lv_sub hl [0, 1, 2, 3, 4] rfl)
set_option maxHeartbeats 4000000 in
set_option maxRecDepth 100000 in
theorem c_X7_kinds (G : GT) (l : Launch) (σ : Mem) (k : Int32) (ro : Int32) (hz : RZ σ) : CI G 74 (cX G) l yX7_kinds ({ frames := 4, cells := 0, slots := 0, locals := 96 } : Room) cX7_kinds 5 (some .int) [.ref (G.1 0), .int k, .int ro] σ (fun (r : Int32) u => r = (k_kinds σ k ro).1 ∧ u = (k_kinds σ k ro).2) := by
  intro sz
  refine xbegin (by decide) (Nat.le_of_ble_eq_true rfl) ?_
  intro p e s m below meth c ls hsz ha hP hl
  subst hsz
  have hx := ha.1
  have hb := ha.2.1
  have hS : va_S (xA G 74 s.heap.size) s.heap s.heap [] := va_S.rf
  have hl : lv_has ls 5 [(0, .ref (G.1 0)), (1, .int k), (2, .int ro)] := hl
  have k_m1 : (-1 : Int32).toInt = -1 := by decide
  have k_0 : (0 : Int32).toInt = 0 := by decide
  refine lv_aload_n hx hb dX7_kinds_0 rfl (lv_at hl 0 rfl) ?_
  refine lv_iload_n hx hb dX7_kinds_1 rfl (lv_at hl 2 rfl) ?_
  refine xVq ha hP hS (y := yX7_rowAt) (As := [.int ro]) (rest := []) 0 (by decide) (cX_0 G _) rfl rfl (c_X7_rowAt G l σ ro ) kw_X7_85 hd_X7_rowAt rfl ⟨rfl, rfl⟩ ⟨Nat.le_of_ble_eq_true rfl, Nat.le_of_ble_eq_true rfl⟩ ⟨Nat.zero_le _, Nat.zero_le _⟩ hl.1 (Nat.le_of_ble_eq_true rfl) rfl dX7_kinds_2 (fun r u H locs hpq hP hS => ?_)
  obtain ⟨hr_, hu_⟩ := hpq
  have hr_ := hr_.symm
  have hu_ := hu_.symm
  subst hr_
  subst hu_
  by_cases t_1 : a_in ro 6 = true
  · have f_1 := in_t t_1
    have g_1 := ix_toInt f_1.1
    rw [show (6 : Int32).toInt = 6 by decide] at f_1
    obtain ⟨o, eo⟩ : ∃ q, q = 5 + 2 * ix ro := ⟨_, rfl⟩
    have ho : oRow o := by unfold oRow; omega
    rw [show va_rf (if a_in ro 6 = true then some (G.1 (5 + 2 * ix ro)) else none) = .ref (G.1 o) from by rw [if_pos t_1, eo]; rfl]
    refine lv_astore_n (lv' := [(3, .ref (G.1 o)), (0, .ref (G.1 0)), (1, .int k), (2, .int ro)]) hx hb dX7_kinds_5 rfl hl (by decide) rfl (fun ls hl => ?_)
    refine lv_aload_n hx hb dX7_kinds_6 rfl (lv_at hl 0 rfl) ?_
    refine lv_ifnull hx hb dX7_kinds_7 ?_
    refine lv_aload_n hx hb dX7_kinds_10 rfl (lv_at hl 1 rfl) ?_
    refine g7_21 ha hP 0 (by decide) (cX_0 G _) (v := .ref (G.1 33)) rfl dX7_kinds_11 ?_
    refine lv_iload_n hx hb dX7_kinds_14 rfl (lv_at hl 2 rfl) ?_
    refine xVi ha hP hS (y := yX2_isPole) (As := [.int k]) (rest := []) 33 (by decide) (cX_33 G _) rfl rfl (c_X2_isPole G l σ 33 k (by unfold oPl; omega)) kw_X7_140 hd_X2_isPole rfl ⟨rfl, rfl⟩ ⟨Nat.le_of_ble_eq_true rfl, Nat.le_of_ble_eq_true rfl⟩ ⟨Nat.zero_le _, Nat.zero_le _⟩ hl.1 (Nat.le_of_ble_eq_true rfl) rfl dX7_kinds_15 (fun r u H locs hpq hP hS => ?_)
    obtain ⟨hr_, hu_⟩ := hpq
    have hr_ := hr_.symm
    have hu_ := hu_.symm
    subst hr_
    subst hu_
    refine lv_if_ne (tgt := 23) hx hb dX7_kinds_18 (by decide) (fun c_2 => ?_) (fun c_2 => ?_)
    · have t_2 := b2i_t c_2
      have f_2 := isPole_t t_2
      refine lv_aload_n hx hb dX7_kinds_23 rfl (lv_at hl 0 rfl) ?_
      refine xSi ha hP hS (y := yX7_findingOfTriples) (As := [.ref (G.1 o)]) (rest := []) rfl (c_X7_findingOfTriples G l σ o ho hz) kw_X7_273 hd_X7_findingOfTriples rfl ⟨rfl, rfl⟩ ⟨Nat.le_of_ble_eq_true rfl, Nat.le_of_ble_eq_true rfl⟩ ⟨Nat.zero_le _, Nat.zero_le _⟩ hl.1 (Nat.le_of_ble_eq_true rfl) rfl dX7_kinds_24 (fun r u H locs hpq hP hS => ?_)
      obtain ⟨hr_, hu_⟩ := hpq
      have hr_ := hr_.symm
      have hu_ := hu_.symm
      subst hr_
      subst hu_
      refine lv_istore (lv' := [(4, .int (a_triF σ o)), (3, .ref (G.1 o)), (0, .ref (G.1 0)), (1, .int k), (2, .int ro)]) hx hb dX7_kinds_27 hl (by decide) rfl (fun ls hl => ?_)
      refine lv_iload hx hb dX7_kinds_29 (lv_at hl 0 rfl) ?_
      refine lv_if_eq (tgt := 43) hx hb dX7_kinds_31 (by decide) (fun c_3 => ?_) (fun c_3 => ?_)
      · have t_3 := i_eq c_3
        refine lv_aload_n hx hb dX7_kinds_43 rfl (lv_at hl 2 rfl) ?_
        refine lv_aload_n hx hb dX7_kinds_44 rfl (lv_at hl 1 rfl) ?_
        refine lv_iload_n hx hb dX7_kinds_45 rfl (lv_at hl 3 rfl) ?_
        refine xVi ha hP hS (y := yX7_kindsBy) (As := [.ref (G.1 o), .int k]) (rest := []) 0 (by decide) (cX_0 G _) rfl rfl (c_X7_kindsBy G l σ o k ho hz (by first | assumption | omega)) kw_X7_283 hd_X7_kindsBy rfl ⟨rfl, rfl⟩ ⟨Nat.le_of_ble_eq_true rfl, Nat.le_of_ble_eq_true rfl⟩ ⟨Nat.zero_le _, Nat.zero_le _⟩ hl.1 (Nat.le_of_ble_eq_true rfl) rfl dX7_kinds_46 (fun r u H locs hpq hP hS => ?_)
        obtain ⟨hr_, hu_⟩ := hpq
        have hr_ := hr_.symm
        have hu_ := hu_.symm
        subst hr_
        subst hu_
        exact xiret ha hP hS dX7_kinds_49 ⟨by (try subst eo); (try subst eo2); simp [k_kinds, t_1, t_2, c_3, i_leN, -Int32.not_lt], (by (try subst eo); (try subst eo2); simp [k_kinds, t_1, t_2, c_3, i_leN, -Int32.not_lt])⟩ rfl
      · have t_3 := i_ne c_3
        refine lv_aload_n hx hb dX7_kinds_34 rfl (lv_at hl 2 rfl) ?_
        refine lv_iload hx hb dX7_kinds_35 (lv_at hl 0 rfl) ?_
        refine xVi ha hP hS (y := yX7_found) (As := [.int (a_triF σ o)]) (rest := []) 0 (by decide) (cX_0 G _) rfl rfl (c_X7_found G l σ (a_triF σ o) ) kw_X7_97 hd_X7_found rfl ⟨rfl, rfl⟩ ⟨Nat.le_of_ble_eq_true rfl, Nat.le_of_ble_eq_true rfl⟩ ⟨Nat.zero_le _, Nat.zero_le _⟩ hl.1 (Nat.le_of_ble_eq_true rfl) rfl dX7_kinds_37 (fun r u H locs hpq hP hS => ?_)
        obtain ⟨hr_, hu_⟩ := hpq
        have hr_ := hr_.symm
        have hu_ := hu_.symm
        subst hr_
        subst hu_
        refine lv_goto (tgt := 49) hx hb dX7_kinds_40 (by decide) ?_
        exact xiret ha hP hS dX7_kinds_49 ⟨by (try subst eo); (try subst eo2); simp [k_kinds, t_1, t_2, c_3, i_leN, -Int32.not_lt], (by (try subst eo); (try subst eo2); simp [k_kinds, t_1, t_2, c_3, i_leN, -Int32.not_lt])⟩ rfl
    · have t_2 := b2i_f c_2
      refine lv_iconst (v := (-1)) hx hb dX7_kinds_21 (by decide) ?_
      exact xiret ha hP hS dX7_kinds_22 ⟨by (try subst eo); (try subst eo2); simp [k_kinds, t_1, t_2, i_leN, -Int32.not_lt], (by (try subst eo); (try subst eo2); simp [k_kinds, t_1, t_2, i_leN, -Int32.not_lt])⟩ rfl
  · rw [show va_rf (if a_in ro 6 = true then some (G.1 (5 + 2 * ix ro)) else none) = .null from by rw [if_neg t_1]; rfl]
    refine lv_astore_nN (lv' := [(3, .null), (0, .ref (G.1 0)), (1, .int k), (2, .int ro)]) hx hb dX7_kinds_5 rfl hl (by decide) rfl (fun ls hl => ?_)
    refine lv_aload_nN hx hb dX7_kinds_6 rfl (lv_at hl 0 rfl) ?_
    refine lv_ifnullN (tgt := 21) hx hb dX7_kinds_7 (by decide) ?_
    refine lv_iconst (v := (-1)) hx hb dX7_kinds_21 (by decide) ?_
    exact xiret ha hP hS dX7_kinds_22 ⟨by (try subst eo); (try subst eo2); simp [k_kinds, t_1, i_leN, -Int32.not_lt], (by (try subst eo); (try subst eo2); simp [k_kinds, t_1, i_leN, -Int32.not_lt])⟩ rfl
set_option maxHeartbeats 4000000 in
set_option maxRecDepth 100000 in
theorem c_X7_strengths (G : GT) (l : Launch) (σ : Mem) (k : Int32) (ro : Int32) (hz : RZ σ) : CI G 74 (cX G) l yX7_strengths ({ frames := 3, cells := 0, slots := 0, locals := 72 } : Room) cX7_strengths 8 (some .int) [.ref (G.1 0), .int k, .int ro] σ (fun (r : Int32) u => r = (k_strengths σ k ro).1 ∧ u = (k_strengths σ k ro).2) := by
  intro sz
  refine xbegin (by decide) (Nat.le_of_ble_eq_true rfl) ?_
  intro p e s m below meth c ls hsz ha hP hl
  subst hsz
  have hx := ha.1
  have hb := ha.2.1
  have hS : va_S (xA G 74 s.heap.size) s.heap s.heap [] := va_S.rf
  have hl : lv_has ls 8 [(0, .ref (G.1 0)), (1, .int k), (2, .int ro)] := hl
  have k_m9 : (-9 : Int32).toInt = -9 := by decide
  have k_m1 : (-1 : Int32).toInt = -1 := by decide
  have k_0 : (0 : Int32).toInt = 0 := by decide
  have k_60 : (60 : Int32).toInt = 60 := by decide
  refine lv_aload_n hx hb dX7_strengths_0 rfl (lv_at hl 0 rfl) ?_
  refine lv_iload_n hx hb dX7_strengths_1 rfl (lv_at hl 2 rfl) ?_
  refine xVq ha hP hS (y := yX7_rowAt) (As := [.int ro]) (rest := []) 0 (by decide) (cX_0 G _) rfl rfl (c_X7_rowAt G l σ ro ) kw_X7_85 hd_X7_rowAt rfl ⟨rfl, rfl⟩ ⟨Nat.le_of_ble_eq_true rfl, Nat.le_of_ble_eq_true rfl⟩ ⟨Nat.zero_le _, Nat.zero_le _⟩ hl.1 (Nat.le_of_ble_eq_true rfl) rfl dX7_strengths_2 (fun r u H locs hpq hP hS => ?_)
  obtain ⟨hr_, hu_⟩ := hpq
  have hr_ := hr_.symm
  have hu_ := hu_.symm
  subst hr_
  subst hu_
  by_cases t_1 : a_in ro 6 = true
  · have f_1 := in_t t_1
    have g_1 := ix_toInt f_1.1
    rw [show (6 : Int32).toInt = 6 by decide] at f_1
    obtain ⟨o, eo⟩ : ∃ q, q = 5 + 2 * ix ro := ⟨_, rfl⟩
    have ho : oRow o := by unfold oRow; omega
    rw [show va_rf (if a_in ro 6 = true then some (G.1 (5 + 2 * ix ro)) else none) = .ref (G.1 o) from by rw [if_pos t_1, eo]; rfl]
    refine lv_astore_n (lv' := [(3, .ref (G.1 o)), (0, .ref (G.1 0)), (1, .int k), (2, .int ro)]) hx hb dX7_strengths_5 rfl hl (by decide) rfl (fun ls hl => ?_)
    refine lv_aload_n hx hb dX7_strengths_6 rfl (lv_at hl 0 rfl) ?_
    refine lv_ifnull hx hb dX7_strengths_7 ?_
    refine lv_aload_n hx hb dX7_strengths_10 rfl (lv_at hl 1 rfl) ?_
    refine g7_21 ha hP 0 (by decide) (cX_0 G _) (v := .ref (G.1 33)) rfl dX7_strengths_11 ?_
    refine lv_iload_n hx hb dX7_strengths_14 rfl (lv_at hl 2 rfl) ?_
    refine xVi ha hP hS (y := yX2_isPole) (As := [.int k]) (rest := []) 33 (by decide) (cX_33 G _) rfl rfl (c_X2_isPole G l σ 33 k (by unfold oPl; omega)) kw_X7_140 hd_X2_isPole rfl ⟨rfl, rfl⟩ ⟨Nat.le_of_ble_eq_true rfl, Nat.le_of_ble_eq_true rfl⟩ ⟨Nat.zero_le _, Nat.zero_le _⟩ hl.1 (Nat.le_of_ble_eq_true rfl) rfl dX7_strengths_15 (fun r u H locs hpq hP hS => ?_)
    obtain ⟨hr_, hu_⟩ := hpq
    have hr_ := hr_.symm
    have hu_ := hu_.symm
    subst hr_
    subst hu_
    refine lv_if_ne (tgt := 23) hx hb dX7_strengths_18 (by decide) (fun c_2 => ?_) (fun c_2 => ?_)
    · have t_2 := b2i_t c_2
      have f_2 := isPole_t t_2
      refine lv_aload_n hx hb dX7_strengths_23 rfl (lv_at hl 0 rfl) ?_
      refine xSi ha hP hS (y := yX7_findingOfTriples) (As := [.ref (G.1 o)]) (rest := []) rfl (c_X7_findingOfTriples G l σ o ho hz) kw_X7_273 hd_X7_findingOfTriples rfl ⟨rfl, rfl⟩ ⟨Nat.le_of_ble_eq_true rfl, Nat.le_of_ble_eq_true rfl⟩ ⟨Nat.zero_le _, Nat.zero_le _⟩ hl.1 (Nat.le_of_ble_eq_true rfl) rfl dX7_strengths_24 (fun r u H locs hpq hP hS => ?_)
      obtain ⟨hr_, hu_⟩ := hpq
      have hr_ := hr_.symm
      have hu_ := hu_.symm
      subst hr_
      subst hu_
      refine lv_istore (lv' := [(4, .int (a_triF σ o)), (3, .ref (G.1 o)), (0, .ref (G.1 0)), (1, .int k), (2, .int ro)]) hx hb dX7_strengths_27 hl (by decide) rfl (fun ls hl => ?_)
      refine lv_iload hx hb dX7_strengths_29 (lv_at hl 0 rfl) ?_
      refine lv_if_eq (tgt := 41) hx hb dX7_strengths_31 (by decide) (fun c_3 => ?_) (fun c_3 => ?_)
      · have t_3 := i_eq c_3
        refine lv_iconst (v := 0) hx hb dX7_strengths_41 (by decide) ?_
        refine lv_istore (lv' := [(5, .int 0), (4, .int (a_triF σ o)), (3, .ref (G.1 o)), (0, .ref (G.1 0)), (1, .int k), (2, .int ro)]) hx hb dX7_strengths_42 hl (by decide) rfl (fun ls hl => ?_)
        refine lv_bipush (v := (-9)) hx hb dX7_strengths_44 (by decide) ?_
        refine lv_istore (lv' := [(6, .int (-9)), (5, .int 0), (4, .int (a_triF σ o)), (3, .ref (G.1 o)), (0, .ref (G.1 0)), (1, .int k), (2, .int ro)]) hx hb dX7_strengths_46 hl (by decide) rfl (fun ls hl => ?_)
        refine lv_iconst (v := 0) hx hb dX7_strengths_48 (by decide) ?_
        refine lv_istore (lv' := [(7, .int 0), (6, .int (-9)), (5, .int 0), (4, .int (a_triF σ o)), (3, .ref (G.1 o)), (0, .ref (G.1 0)), (1, .int k), (2, .int ro)]) hx hb dX7_strengths_49 hl (by decide) rfl (fun ls hl => ?_)
        have lp_51 : ∀ (d j : Nat) (x5 : Int32) (x6 : Int32) (H : Heap) (locs : List Loc) (ls : Array Slot), j ≤ 61 → 61 - j < d → x5 = a_count (st_f σ o k) j → x6 = st_least (st_f σ o k) j → va_P G.2.1 vwCl (wl G 74 (cX G σ)) H → va_S (xA G 74 s.heap.size) s.heap H locs → lv_has ls 8 [(7, .int (nI j)), (6, .int x6), (5, .int x5), (4, .int (a_triF σ o)), (3, .ref (G.1 o)), (0, .ref (G.1 0)), (1, .int k), (2, .int ro)] → W p l e ({ frames := 3, cells := 0, slots := 0, locals := 72 } : Room) s m ([.ref (G.1 0), .int k, .int ro] : List Value).toArray below meth c H locs 0 0 (MQ below (va_Qi (fun (r : Int32) u => r = (k_strengths σ k ro).1 ∧ u = (k_strengths σ k ro).2) (xB G 74 (cX G)) (xA G 74 s.heap.size)) ([.ref (G.1 0), .int k, .int ro] : List Value).toArray s 0 0 (xA G 74 s.heap.size)) (F0 m 51 ls []) := by
          intro d
          induction d with
          | zero => intro j x5 x6 H locs ls hj hd; exact absurd hd (Nat.not_lt_zero _)
          | succ d ih_51 =>
            intro j x5 x6 H locs ls hj_j hd_j e_x5 e_x6 hP hS hl
            have h31_j : (nI j).toInt = (j : Int) := nI_toInt (by omega)
            have hfj : st_f σ o k j = a_agrees σ o (σ 34 (ix k)) (σ 35 (ix k)) (nI j) := rfl
            refine lv_iload hx hb dX7_strengths_51 (lv_at hl 0 rfl) ?_
            refine lv_bipush (v := 60) hx hb dX7_strengths_53 (by decide) ?_
            refine lv_icmp_gt (tgt := 110) hx hb dX7_strengths_55 (by decide) (fun c_4 => ?_) (fun c_4 => ?_)
            · have t_4 := i_lt c_4
              obtain rfl : j = 61 := by omega
              refine lv_iload hx hb dX7_strengths_110 (lv_at hl 2 rfl) ?_
              refine lv_if_ne (tgt := 118) hx hb dX7_strengths_112 (by decide) (fun c_5 => ?_) (fun c_5 => ?_)
              · have t_5 := i_ne c_5
                refine lv_aload_n hx hb dX7_strengths_118 rfl (lv_at hl 5 rfl) ?_
                refine lv_iload hx hb dX7_strengths_119 (lv_at hl 1 rfl) ?_
                refine xVi ha hP hS (y := yX7_tell) (As := [.int x6]) (rest := []) 0 (by decide) (cX_0 G _) rfl rfl (c_X7_tell G l σ x6 ) kw_X7_107 hd_X7_tell rfl ⟨rfl, rfl⟩ ⟨Nat.le_of_ble_eq_true rfl, Nat.le_of_ble_eq_true rfl⟩ ⟨Nat.zero_le _, Nat.zero_le _⟩ hl.1 (Nat.le_of_ble_eq_true rfl) rfl dX7_strengths_121 (fun r u H locs hpq hP hS => ?_)
                obtain ⟨hr_, hu_⟩ := hpq
                have hr_ := hr_.symm
                have hu_ := hu_.symm
                subst hr_
                subst hu_
                refine lv_pop hx hb dX7_strengths_124 rfl ?_
                refine lv_iload hx hb dX7_strengths_125 (lv_at hl 2 rfl) ?_
                exact xiret ha hP hS dX7_strengths_127 ⟨by (try subst eo); (try subst eo2); simp [k_strengths, ← e_x5, ← e_x6, t_1, t_2, c_3, c_4, c_5, i_leN, -Int32.not_lt], (by (try subst eo); (try subst eo2); simp [k_strengths, ← e_x5, ← e_x6, t_1, t_2, c_3, c_4, c_5, i_leN, -Int32.not_lt])⟩ rfl
              · have t_5 := i_eq c_5
                refine lv_bipush (v := (-9)) hx hb dX7_strengths_115 (by decide) ?_
                exact xiret ha hP hS dX7_strengths_117 ⟨by (try subst eo); (try subst eo2); simp [k_strengths, ← e_x5, t_1, t_2, c_3, c_4, c_5, i_leN, -Int32.not_lt], (by (try subst eo); (try subst eo2); simp [k_strengths, ← e_x5, t_1, t_2, c_3, c_4, c_5, i_leN, -Int32.not_lt])⟩ rfl
            · have t_4 := i_nlt c_4
              have hlt_j : j < 61 := by omega
              refine lv_aload_n hx hb dX7_strengths_58 rfl (lv_at hl 4 rfl) ?_
              refine lv_aload_n hx hb dX7_strengths_59 rfl (lv_at hl 5 rfl) ?_
              refine g7_21 ha hP 0 (by decide) (cX_0 G _) (v := .ref (G.1 33)) rfl dX7_strengths_60 ?_
              refine g7_154 ha hP 33 (by decide) (cX_33 G _) (v := .ref (G.1 34)) rfl dX7_strengths_63 ?_
              refine lv_iload_n hx hb dX7_strengths_66 rfl (lv_at hl 6 rfl) ?_
              refine xialdN ha hP 34 (by decide) (cX_34 G _) (ix k) (ix_nI (by omega)) (ix_lt (by omega) (by omega)) (by decide) dX7_strengths_67 ?_
              refine lv_aload_n hx hb dX7_strengths_68 rfl (lv_at hl 5 rfl) ?_
              refine g7_21 ha hP 0 (by decide) (cX_0 G _) (v := .ref (G.1 33)) rfl dX7_strengths_69 ?_
              refine g7_276 ha hP 33 (by decide) (cX_33 G _) (v := .ref (G.1 35)) rfl dX7_strengths_72 ?_
              refine lv_iload_n hx hb dX7_strengths_75 rfl (lv_at hl 6 rfl) ?_
              refine xialdN ha hP 35 (by decide) (cX_35 G _) (ix k) (ix_nI (by omega)) (ix_lt (by omega) (by omega)) (by decide) dX7_strengths_76 ?_
              refine lv_iload hx hb dX7_strengths_77 (lv_at hl 0 rfl) ?_
              refine xSi ha hP hS (y := yX7_agrees) (As := [.ref (G.1 o), .int (σ 34 (ix k)), .int (σ 35 (ix k)), .int (nI j)]) (rest := []) rfl (c_X7_agrees G l σ o (σ 34 (ix k)) (σ 35 (ix k)) (nI j) ho hz) kw_X7_279 hd_X7_agrees rfl ⟨rfl, rfl⟩ ⟨Nat.le_of_ble_eq_true rfl, Nat.le_of_ble_eq_true rfl⟩ ⟨Nat.zero_le _, Nat.zero_le _⟩ hl.1 (Nat.le_of_ble_eq_true rfl) rfl dX7_strengths_79 (fun r u H locs hpq hP hS => ?_)
              obtain ⟨hr_, hu_⟩ := hpq
              have hr_ := hr_.symm
              have hu_ := hu_.symm
              subst hr_
              subst hu_
              refine lv_if_eq (tgt := 104) hx hb dX7_strengths_82 (by decide) (fun c_6 => ?_) (fun c_6 => ?_)
              · have t_6 := b2i_f c_6
                refine lv_iinc (v := (nI (j + 1))) (lv' := [(7, .int (nI (j + 1))), (6, .int x6), (5, .int x5), (4, .int (a_triF σ o)), (3, .ref (G.1 o)), (0, .ref (G.1 0)), (1, .int k), (2, .int ro)]) hx hb dX7_strengths_104 hl (k := 0) rfl (nI_1 j) (by decide) rfl (fun ls hl => ?_)
                refine lv_goto (tgt := 51) hx hb dX7_strengths_107 (by decide) ?_
                exact ih_51 (j + 1) x5 x6 _ _ _ (by omega) (by omega) (by simp [a_count, ← e_x5, hfj, t_1, t_2, c_3, c_4, t_6]) (by simp [st_least, ← e_x6, hfj, t_1, t_2, c_3, c_4, t_6]) hP hS (lv_sub hl [0, 1, 2, 3, 4, 5, 6, 7] rfl)
              · have t_6 := b2i_t c_6
                refine lv_iinc (v := (x5 + 1)) (lv' := [(5, .int (x5 + 1)), (7, .int (nI j)), (6, .int x6), (4, .int (a_triF σ o)), (3, .ref (G.1 o)), (0, .ref (G.1 0)), (1, .int k), (2, .int ro)]) hx hb dX7_strengths_85 hl (k := 2) rfl rfl (by decide) rfl (fun ls hl => ?_)
                refine lv_iload hx hb dX7_strengths_88 (lv_at hl 2 rfl) ?_
                refine lv_bipush (v := (-9)) hx hb dX7_strengths_90 (by decide) ?_
                have jn_7 : ∀ x_7 : Int32, x_7 = (if x6 = (-9) then nI j else x6) → W p l e ({ frames := 3, cells := 0, slots := 0, locals := 72 } : Room) s m ([.ref (G.1 0), .int k, .int ro] : List Value).toArray below meth c H locs 0 0 (MQ below (va_Qi (fun (r : Int32) u => r = (k_strengths σ k ro).1 ∧ u = (k_strengths σ k ro).2) (xB G 74 (cX G)) (xA G 74 s.heap.size)) ([.ref (G.1 0), .int k, .int ro] : List Value).toArray s 0 0 (xA G 74 s.heap.size)) (F0 m 102 ls [.int x_7]) := by
                  intro x_7 ex_7
                  refine lv_istore (lv' := [(6, .int x_7), (5, .int (x5 + 1)), (7, .int (nI j)), (4, .int (a_triF σ o)), (3, .ref (G.1 o)), (0, .ref (G.1 0)), (1, .int k), (2, .int ro)]) hx hb dX7_strengths_102 hl (by decide) rfl (fun ls hl => ?_)
                  refine lv_iinc (v := (nI (j + 1))) (lv' := [(7, .int (nI (j + 1))), (6, .int x_7), (5, .int (x5 + 1)), (4, .int (a_triF σ o)), (3, .ref (G.1 o)), (0, .ref (G.1 0)), (1, .int k), (2, .int ro)]) hx hb dX7_strengths_104 hl (k := 2) rfl (nI_1 j) (by decide) rfl (fun ls hl => ?_)
                  refine lv_goto (tgt := 51) hx hb dX7_strengths_107 (by decide) ?_
                  exact ih_51 (j + 1) (x5 + 1) x_7 _ _ _ (by omega) (by omega) (by simp [a_count, ← e_x5, hfj, t_1, t_2, c_3, c_4, t_6, ex_7]) (by simp [st_least, ← e_x6, hfj, t_1, t_2, c_3, c_4, t_6, ex_7]) hP hS (lv_sub hl [0, 1, 2, 3, 4, 5, 6, 7] rfl)
                refine lv_icmp_ne (tgt := 100) hx hb dX7_strengths_92 (by decide) (fun c_7 => ?_) (fun c_7 => ?_)
                · have t_7 := i_ne c_7
                  refine lv_iload hx hb dX7_strengths_100 (lv_at hl 2 rfl) ?_
                  exact jn_7 _ (if_neg c_7).symm
                · have t_7 := i_eq c_7
                  refine lv_iload hx hb dX7_strengths_95 (lv_at hl 1 rfl) ?_
                  refine lv_goto (tgt := 102) hx hb dX7_strengths_97 (by decide) ?_
                  exact jn_7 _ (if_pos c_7).symm
        exact lp_51 (61 - 0 + 1) 0 0 (-9) _ _ _ (by omega) (by omega) rfl rfl hP hS (lv_sub hl [0, 1, 2, 3, 4, 5, 6, 7] rfl)
      · have t_3 := i_ne c_3
        refine lv_aload_n hx hb dX7_strengths_34 rfl (lv_at hl 2 rfl) ?_
        refine lv_iload hx hb dX7_strengths_35 (lv_at hl 0 rfl) ?_
        refine xVi ha hP hS (y := yX7_found) (As := [.int (a_triF σ o)]) (rest := []) 0 (by decide) (cX_0 G _) rfl rfl (c_X7_found G l σ (a_triF σ o) ) kw_X7_97 hd_X7_found rfl ⟨rfl, rfl⟩ ⟨Nat.le_of_ble_eq_true rfl, Nat.le_of_ble_eq_true rfl⟩ ⟨Nat.zero_le _, Nat.zero_le _⟩ hl.1 (Nat.le_of_ble_eq_true rfl) rfl dX7_strengths_37 (fun r u H locs hpq hP hS => ?_)
        obtain ⟨hr_, hu_⟩ := hpq
        have hr_ := hr_.symm
        have hu_ := hu_.symm
        subst hr_
        subst hu_
        exact xiret ha hP hS dX7_strengths_40 ⟨by (try subst eo); (try subst eo2); simp [k_strengths, t_1, t_2, c_3, i_leN, -Int32.not_lt], (by (try subst eo); (try subst eo2); simp [k_strengths, t_1, t_2, c_3, i_leN, -Int32.not_lt])⟩ rfl
    · have t_2 := b2i_f c_2
      refine lv_iconst (v := (-1)) hx hb dX7_strengths_21 (by decide) ?_
      exact xiret ha hP hS dX7_strengths_22 ⟨by (try subst eo); (try subst eo2); simp [k_strengths, t_1, t_2, i_leN, -Int32.not_lt], (by (try subst eo); (try subst eo2); simp [k_strengths, t_1, t_2, i_leN, -Int32.not_lt])⟩ rfl
  · rw [show va_rf (if a_in ro 6 = true then some (G.1 (5 + 2 * ix ro)) else none) = .null from by rw [if_neg t_1]; rfl]
    refine lv_astore_nN (lv' := [(3, .null), (0, .ref (G.1 0)), (1, .int k), (2, .int ro)]) hx hb dX7_strengths_5 rfl hl (by decide) rfl (fun ls hl => ?_)
    refine lv_aload_nN hx hb dX7_strengths_6 rfl (lv_at hl 0 rfl) ?_
    refine lv_ifnullN (tgt := 21) hx hb dX7_strengths_7 (by decide) ?_
    refine lv_iconst (v := (-1)) hx hb dX7_strengths_21 (by decide) ?_
    exact xiret ha hP hS dX7_strengths_22 ⟨by (try subst eo); (try subst eo2); simp [k_strengths, t_1, i_leN, -Int32.not_lt], (by (try subst eo); (try subst eo2); simp [k_strengths, t_1, i_leN, -Int32.not_lt])⟩ rfl
set_option maxHeartbeats 4000000 in
set_option maxRecDepth 100000 in
theorem c_X7_test (G : GT) (l : Launch) (σ : Mem) (k : Int32) (ro : Int32) (hp : PO 33 σ) (hz : RZ σ) : CI G 74 (cX G) l yX7_test ({ frames := 4, cells := 0, slots := 0, locals := 96 } : Room) cX7_test 11 (some .int) [.ref (G.1 0), .int k, .int ro] σ (fun (r : Int32) u => r = (k_test σ k ro).1 ∧ u = (k_test σ k ro).2) := by
  intro sz
  refine xbegin (by decide) (Nat.le_of_ble_eq_true rfl) ?_
  intro p e s m below meth c ls hsz ha hP hl
  subst hsz
  have hx := ha.1
  have hb := ha.2.1
  have hS : va_S (xA G 74 s.heap.size) s.heap s.heap [] := va_S.rf
  have hl : lv_has ls 11 [(0, .ref (G.1 0)), (1, .int k), (2, .int ro)] := hl
  have k_m9 : (-9 : Int32).toInt = -9 := by decide
  have k_m1 : (-1 : Int32).toInt = -1 := by decide
  have k_0 : (0 : Int32).toInt = 0 := by decide
  have k_7 : (7 : Int32).toInt = 7 := by decide
  have k_99 : (99 : Int32).toInt = 99 := by decide
  refine lv_aload_n hx hb dX7_test_0 rfl (lv_at hl 0 rfl) ?_
  refine lv_iload_n hx hb dX7_test_1 rfl (lv_at hl 2 rfl) ?_
  refine xVq ha hP hS (y := yX7_rowAt) (As := [.int ro]) (rest := []) 0 (by decide) (cX_0 G _) rfl rfl (c_X7_rowAt G l σ ro ) kw_X7_85 hd_X7_rowAt rfl ⟨rfl, rfl⟩ ⟨Nat.le_of_ble_eq_true rfl, Nat.le_of_ble_eq_true rfl⟩ ⟨Nat.zero_le _, Nat.zero_le _⟩ hl.1 (Nat.le_of_ble_eq_true rfl) rfl dX7_test_2 (fun r u H locs hpq hP hS => ?_)
  obtain ⟨hr_, hu_⟩ := hpq
  have hr_ := hr_.symm
  have hu_ := hu_.symm
  subst hr_
  subst hu_
  by_cases t_1 : a_in ro 6 = true
  · have f_1 := in_t t_1
    have g_1 := ix_toInt f_1.1
    rw [show (6 : Int32).toInt = 6 by decide] at f_1
    obtain ⟨o, eo⟩ : ∃ q, q = 5 + 2 * ix ro := ⟨_, rfl⟩
    have ho : oRow o := by unfold oRow; omega
    rw [show va_rf (if a_in ro 6 = true then some (G.1 (5 + 2 * ix ro)) else none) = .ref (G.1 o) from by rw [if_pos t_1, eo]; rfl]
    refine lv_astore_n (lv' := [(3, .ref (G.1 o)), (0, .ref (G.1 0)), (1, .int k), (2, .int ro)]) hx hb dX7_test_5 rfl hl (by decide) rfl (fun ls hl => ?_)
    refine lv_aload_n hx hb dX7_test_6 rfl (lv_at hl 0 rfl) ?_
    refine lv_ifnull hx hb dX7_test_7 ?_
    refine lv_aload_n hx hb dX7_test_10 rfl (lv_at hl 1 rfl) ?_
    refine g7_21 ha hP 0 (by decide) (cX_0 G _) (v := .ref (G.1 33)) rfl dX7_test_11 ?_
    refine lv_iload_n hx hb dX7_test_14 rfl (lv_at hl 2 rfl) ?_
    refine xVi ha hP hS (y := yX2_isPole) (As := [.int k]) (rest := []) 33 (by decide) (cX_33 G _) rfl rfl (c_X2_isPole G l σ 33 k (by unfold oPl; omega)) kw_X7_140 hd_X2_isPole rfl ⟨rfl, rfl⟩ ⟨Nat.le_of_ble_eq_true rfl, Nat.le_of_ble_eq_true rfl⟩ ⟨Nat.zero_le _, Nat.zero_le _⟩ hl.1 (Nat.le_of_ble_eq_true rfl) rfl dX7_test_15 (fun r u H locs hpq hP hS => ?_)
    obtain ⟨hr_, hu_⟩ := hpq
    have hr_ := hr_.symm
    have hu_ := hu_.symm
    subst hr_
    subst hu_
    refine lv_if_ne (tgt := 23) hx hb dX7_test_18 (by decide) (fun c_2 => ?_) (fun c_2 => ?_)
    · have t_2 := b2i_t c_2
      have f_2 := isPole_t t_2
      refine lv_aload_n hx hb dX7_test_23 rfl (lv_at hl 0 rfl) ?_
      refine xSi ha hP hS (y := yX7_findingOfTriples) (As := [.ref (G.1 o)]) (rest := []) rfl (c_X7_findingOfTriples G l σ o ho hz) kw_X7_273 hd_X7_findingOfTriples rfl ⟨rfl, rfl⟩ ⟨Nat.le_of_ble_eq_true rfl, Nat.le_of_ble_eq_true rfl⟩ ⟨Nat.zero_le _, Nat.zero_le _⟩ hl.1 (Nat.le_of_ble_eq_true rfl) rfl dX7_test_24 (fun r u H locs hpq hP hS => ?_)
      obtain ⟨hr_, hu_⟩ := hpq
      have hr_ := hr_.symm
      have hu_ := hu_.symm
      subst hr_
      subst hu_
      refine lv_istore (lv' := [(4, .int (a_triF σ o)), (3, .ref (G.1 o)), (0, .ref (G.1 0)), (1, .int k), (2, .int ro)]) hx hb dX7_test_27 hl (by decide) rfl (fun ls hl => ?_)
      refine lv_iload hx hb dX7_test_29 (lv_at hl 0 rfl) ?_
      refine lv_if_eq (tgt := 41) hx hb dX7_test_31 (by decide) (fun c_3 => ?_) (fun c_3 => ?_)
      · have t_3 := i_eq c_3
        refine lv_aload_n hx hb dX7_test_41 rfl (lv_at hl 2 rfl) ?_
        refine lv_aload_n hx hb dX7_test_42 rfl (lv_at hl 1 rfl) ?_
        refine lv_iload_n hx hb dX7_test_43 rfl (lv_at hl 3 rfl) ?_
        refine xVi ha hP hS (y := yX7_kindsBy) (As := [.ref (G.1 o), .int k]) (rest := []) 0 (by decide) (cX_0 G _) rfl rfl (c_X7_kindsBy G l σ o k ho hz (by first | assumption | omega)) kw_X7_283 hd_X7_kindsBy rfl ⟨rfl, rfl⟩ ⟨Nat.le_of_ble_eq_true rfl, Nat.le_of_ble_eq_true rfl⟩ ⟨Nat.zero_le _, Nat.zero_le _⟩ hl.1 (Nat.le_of_ble_eq_true rfl) rfl dX7_test_44 (fun r u H locs hpq hP hS => ?_)
        obtain ⟨hr_, hu_⟩ := hpq
        have hr_ := hr_.symm
        have hu_ := hu_.symm
        subst hr_
        subst hu_
        refine lv_istore (lv' := [(5, .int (a_kindsBy σ o k)), (4, .int (a_triF σ o)), (3, .ref (G.1 o)), (0, .ref (G.1 0)), (1, .int k), (2, .int ro)]) hx hb dX7_test_47 hl (by decide) rfl (fun ls hl => ?_)
        refine lv_iload hx hb dX7_test_49 (lv_at hl 0 rfl) ?_
        refine lv_if_ne (tgt := 57) hx hb dX7_test_51 (by decide) (fun c_4 => ?_) (fun c_4 => ?_)
        · have t_4 := i_ne c_4
          refine lv_iconst (v := 0) hx hb dX7_test_57 (by decide) ?_
          refine lv_istore (lv' := [(6, .int 0), (5, .int (a_kindsBy σ o k)), (4, .int (a_triF σ o)), (3, .ref (G.1 o)), (0, .ref (G.1 0)), (1, .int k), (2, .int ro)]) hx hb dX7_test_58 hl (by decide) rfl (fun ls hl => ?_)
          refine lv_bipush (v := 7) hx hb dX7_test_60 (by decide) ?_
          refine lv_istore (lv' := [(7, .int 7), (6, .int 0), (5, .int (a_kindsBy σ o k)), (4, .int (a_triF σ o)), (3, .ref (G.1 o)), (0, .ref (G.1 0)), (1, .int k), (2, .int ro)]) hx hb dX7_test_62 hl (by decide) rfl (fun ls hl => ?_)
          refine lv_iconst (v := 0) hx hb dX7_test_64 (by decide) ?_
          refine lv_istore (lv' := [(8, .int 0), (7, .int 7), (6, .int 0), (5, .int (a_kindsBy σ o k)), (4, .int (a_triF σ o)), (3, .ref (G.1 o)), (0, .ref (G.1 0)), (1, .int k), (2, .int ro)]) hx hb dX7_test_65 hl (by decide) rfl (fun ls hl => ?_)
          have lp_67 : ∀ (d j : Nat) (x6 : Int32) (x7 : Int32) (H : Heap) (locs : List Loc) (ls : Array Slot), j ≤ 100 → 100 - j < d → x6 = te_first (te_part (vP σ 33) (vS σ 45) k (a_kindsBy σ o k)) j → x7 = te_least (te_part (vP σ 33) (vS σ 45) k (a_kindsBy σ o k)) j → va_P G.2.1 vwCl (wl G 74 (cX G σ)) H → va_S (xA G 74 s.heap.size) s.heap H locs → lv_has ls 11 [(8, .int (nI j)), (7, .int x7), (6, .int x6), (5, .int (a_kindsBy σ o k)), (4, .int (a_triF σ o)), (3, .ref (G.1 o)), (0, .ref (G.1 0)), (1, .int k), (2, .int ro)] → W p l e ({ frames := 4, cells := 0, slots := 0, locals := 96 } : Room) s m ([.ref (G.1 0), .int k, .int ro] : List Value).toArray below meth c H locs 0 0 (MQ below (va_Qi (fun (r : Int32) u => r = (k_test σ k ro).1 ∧ u = (k_test σ k ro).2) (xB G 74 (cX G)) (xA G 74 s.heap.size)) ([.ref (G.1 0), .int k, .int ro] : List Value).toArray s 0 0 (xA G 74 s.heap.size)) (F0 m 67 ls []) := by
            intro d
            induction d with
            | zero => intro j x6 x7 H locs ls hj hd; exact absurd hd (Nat.not_lt_zero _)
            | succ d ih_67 =>
              intro j x6 x7 H locs ls hj_j hd_j e_x6 e_x7 hP hS hl
              have h31_j : (nI j).toInt = (j : Int) := nI_toInt (by omega)
              refine lv_iload hx hb dX7_test_67 (lv_at hl 0 rfl) ?_
              refine lv_bipush (v := 99) hx hb dX7_test_69 (by decide) ?_
              refine lv_icmp_gt (tgt := 124) hx hb dX7_test_71 (by decide) (fun c_5 => ?_) (fun c_5 => ?_)
              · have t_5 := i_lt c_5
                obtain rfl : j = 100 := by omega
                refine lv_aload_n hx hb dX7_test_124 rfl (lv_at hl 6 rfl) ?_
                refine lv_iload hx hb dX7_test_125 (lv_at hl 1 rfl) ?_
                refine xVi ha hP hS (y := yX7_tell) (As := [.int x7]) (rest := []) 0 (by decide) (cX_0 G _) rfl rfl (c_X7_tell G l σ x7 ) kw_X7_107 hd_X7_tell rfl ⟨rfl, rfl⟩ ⟨Nat.le_of_ble_eq_true rfl, Nat.le_of_ble_eq_true rfl⟩ ⟨Nat.zero_le _, Nat.zero_le _⟩ hl.1 (Nat.le_of_ble_eq_true rfl) rfl dX7_test_127 (fun r u H locs hpq hP hS => ?_)
                obtain ⟨hr_, hu_⟩ := hpq
                have hr_ := hr_.symm
                have hu_ := hu_.symm
                subst hr_
                subst hu_
                refine lv_pop hx hb dX7_test_130 rfl ?_
                refine lv_iload hx hb dX7_test_131 (lv_at hl 2 rfl) ?_
                exact xiret ha hP hS dX7_test_133 ⟨by (try subst eo); (try subst eo2); simp [k_test, ← e_x6, t_1, t_2, c_3, c_4, c_5, i_leN, -Int32.not_lt], (by (try subst eo); (try subst eo2); simp [k_test, ← e_x7, t_1, t_2, c_3, c_4, c_5, i_leN, -Int32.not_lt])⟩ rfl
              · have t_5 := i_nlt c_5
                have hlt_j : j < 100 := by omega
                refine lv_aload_n hx hb dX7_test_74 rfl (lv_at hl 6 rfl) ?_
                refine g7_33 ha hP 0 (by decide) (cX_0 G _) (v := .ref (G.1 45)) rfl dX7_test_75 ?_
                refine lv_iload_n hx hb dX7_test_78 rfl (lv_at hl 7 rfl) ?_
                refine lv_iload hx hb dX7_test_79 (lv_at hl 3 rfl) ?_
                refine lv_iload hx hb dX7_test_81 (lv_at hl 0 rfl) ?_
                refine xVi ha hP hS (y := yX4_howManyHold) (As := [.int k, .int (a_kindsBy σ o k), .int (nI j)]) (rest := []) 45 (by decide) (cX_45 G _) rfl rfl (c_X4_howManyHold G l σ 45 k (a_kindsBy σ o k) (nI j) (by unfold oSc; omega) hp) kw_X7_287 hd_X4_howManyHold rfl ⟨rfl, rfl⟩ ⟨Nat.le_of_ble_eq_true rfl, Nat.le_of_ble_eq_true rfl⟩ ⟨Nat.zero_le _, Nat.zero_le _⟩ hl.1 (Nat.le_of_ble_eq_true rfl) rfl dX7_test_83 (fun r u H locs hpq hP hS => ?_)
                obtain ⟨hr_, hu_⟩ := hpq
                have hr_ := hr_.symm
                have hu_ := hu_.symm
                subst hr_
                subst hu_
                refine lv_istore (lv' := [(9, .int (a_manyHold (vP σ 33) (vS σ 45) k (a_kindsBy σ o k) (nI j))), (8, .int (nI j)), (7, .int x7), (6, .int x6), (5, .int (a_kindsBy σ o k)), (4, .int (a_triF σ o)), (3, .ref (G.1 o)), (0, .ref (G.1 0)), (1, .int k), (2, .int ro)]) hx hb dX7_test_86 hl (by decide) rfl (fun ls hl => ?_)
                refine lv_iload hx hb dX7_test_88 (lv_at hl 0 rfl) ?_
                refine lv_iload hx hb dX7_test_90 (lv_at hl 4 rfl) ?_
                refine xJi ha hP hS (y := yJ6_bitCount_0f7a4) (As := [.int (a_kindsBy σ o k)]) (rest := [.int (a_manyHold (vP σ 33) (vS σ 45) k (a_kindsBy σ o k) (nI j))]) (c_J6_bitCount_0f7a4 G l σ (a_kindsBy σ o k) ) kw_X7_251 hd_J6_bitCount_0f7a4 rfl ⟨rfl, rfl⟩ ⟨Nat.le_of_ble_eq_true rfl, Nat.le_of_ble_eq_true rfl⟩ ⟨Nat.zero_le _, Nat.zero_le _⟩ hl.1 (Nat.le_of_ble_eq_true rfl) rfl dX7_test_92 (fun r u H locs hpq hP hS => ?_)
                obtain ⟨hr_, hu_⟩ := hpq
                have hr_ := hr_.symm
                have hu_ := hu_.symm
                subst hr_
                subst hu_
                refine lv_iload hx hb dX7_test_95 (lv_at hl 0 rfl) ?_
                refine lv_isub hx hb dX7_test_97 ?_
                refine xmmax ha (tb_in (w := .methodLink RX7 199 Lib.Math.max.name) (by decide +kernel)) hl.1 (by decide) (Nat.le_of_ble_eq_true rfl) ⟨Nat.zero_le _, Nat.zero_le _⟩ dX7_test_98 ?_
                refine lv_istore (lv' := [(10, .int (imax (a_manyHold (vP σ 33) (vS σ 45) k (a_kindsBy σ o k) (nI j)) ((a_pop (a_kindsBy σ o k)) - (a_manyHold (vP σ 33) (vS σ 45) k (a_kindsBy σ o k) (nI j))))), (9, .int (a_manyHold (vP σ 33) (vS σ 45) k (a_kindsBy σ o k) (nI j))), (8, .int (nI j)), (7, .int x7), (6, .int x6), (5, .int (a_kindsBy σ o k)), (4, .int (a_triF σ o)), (3, .ref (G.1 o)), (0, .ref (G.1 0)), (1, .int k), (2, .int ro)]) hx hb dX7_test_101 hl (by decide) rfl (fun ls hl => ?_)
                refine lv_iload hx hb dX7_test_103 (lv_at hl 0 rfl) ?_
                refine lv_iload hx hb dX7_test_105 (lv_at hl 3 rfl) ?_
                refine lv_icmp_ge (tgt := 118) hx hb dX7_test_107 (by decide) (fun c_6 => ?_) (fun c_6 => ?_)
                · have t_6 := i_le c_6
                  have u_6 := u_le c_6
                  refine lv_iinc (v := (nI (j + 1))) (lv' := [(8, .int (nI (j + 1))), (10, .int (imax (a_manyHold (vP σ 33) (vS σ 45) k (a_kindsBy σ o k) (nI j)) ((a_pop (a_kindsBy σ o k)) - (a_manyHold (vP σ 33) (vS σ 45) k (a_kindsBy σ o k) (nI j))))), (9, .int (a_manyHold (vP σ 33) (vS σ 45) k (a_kindsBy σ o k) (nI j))), (7, .int x7), (6, .int x6), (5, .int (a_kindsBy σ o k)), (4, .int (a_triF σ o)), (3, .ref (G.1 o)), (0, .ref (G.1 0)), (1, .int k), (2, .int ro)]) hx hb dX7_test_118 hl (k := 2) rfl (nI_1 j) (by decide) rfl (fun ls hl => ?_)
                  refine lv_goto (tgt := 67) hx hb dX7_test_121 (by decide) ?_
                  exact ih_67 (j + 1) x6 x7 _ _ _ (by omega) (by omega) (by rw [te_first, ← e_x6, ← e_x7]; simp [te_part, t_1, t_2, c_3, c_4, c_5, u_6]; try simp_all) (by rw [te_least, ← e_x7]; simp [te_part, t_1, t_2, c_3, c_4, c_5, u_6]; try simp_all) hP hS (lv_sub hl [0, 3, 4, 5, 6, 7, 8, 9, 10] rfl)
                · have t_6 := i_nle c_6
                  have u_6 := u_nle c_6
                  refine lv_iload hx hb dX7_test_110 (lv_at hl 0 rfl) ?_
                  refine lv_istore (lv' := [(7, .int (imax (a_manyHold (vP σ 33) (vS σ 45) k (a_kindsBy σ o k) (nI j)) ((a_pop (a_kindsBy σ o k)) - (a_manyHold (vP σ 33) (vS σ 45) k (a_kindsBy σ o k) (nI j))))), (10, .int (imax (a_manyHold (vP σ 33) (vS σ 45) k (a_kindsBy σ o k) (nI j)) ((a_pop (a_kindsBy σ o k)) - (a_manyHold (vP σ 33) (vS σ 45) k (a_kindsBy σ o k) (nI j))))), (9, .int (a_manyHold (vP σ 33) (vS σ 45) k (a_kindsBy σ o k) (nI j))), (8, .int (nI j)), (6, .int x6), (5, .int (a_kindsBy σ o k)), (4, .int (a_triF σ o)), (3, .ref (G.1 o)), (0, .ref (G.1 0)), (1, .int k), (2, .int ro)]) hx hb dX7_test_112 hl (by decide) rfl (fun ls hl => ?_)
                  refine lv_iload hx hb dX7_test_114 (lv_at hl 3 rfl) ?_
                  refine lv_istore (lv' := [(6, .int (nI j)), (7, .int (imax (a_manyHold (vP σ 33) (vS σ 45) k (a_kindsBy σ o k) (nI j)) ((a_pop (a_kindsBy σ o k)) - (a_manyHold (vP σ 33) (vS σ 45) k (a_kindsBy σ o k) (nI j))))), (10, .int (imax (a_manyHold (vP σ 33) (vS σ 45) k (a_kindsBy σ o k) (nI j)) ((a_pop (a_kindsBy σ o k)) - (a_manyHold (vP σ 33) (vS σ 45) k (a_kindsBy σ o k) (nI j))))), (9, .int (a_manyHold (vP σ 33) (vS σ 45) k (a_kindsBy σ o k) (nI j))), (8, .int (nI j)), (5, .int (a_kindsBy σ o k)), (4, .int (a_triF σ o)), (3, .ref (G.1 o)), (0, .ref (G.1 0)), (1, .int k), (2, .int ro)]) hx hb dX7_test_116 hl (by decide) rfl (fun ls hl => ?_)
                  refine lv_iinc (v := (nI (j + 1))) (lv' := [(8, .int (nI (j + 1))), (6, .int (nI j)), (7, .int (imax (a_manyHold (vP σ 33) (vS σ 45) k (a_kindsBy σ o k) (nI j)) ((a_pop (a_kindsBy σ o k)) - (a_manyHold (vP σ 33) (vS σ 45) k (a_kindsBy σ o k) (nI j))))), (10, .int (imax (a_manyHold (vP σ 33) (vS σ 45) k (a_kindsBy σ o k) (nI j)) ((a_pop (a_kindsBy σ o k)) - (a_manyHold (vP σ 33) (vS σ 45) k (a_kindsBy σ o k) (nI j))))), (9, .int (a_manyHold (vP σ 33) (vS σ 45) k (a_kindsBy σ o k) (nI j))), (5, .int (a_kindsBy σ o k)), (4, .int (a_triF σ o)), (3, .ref (G.1 o)), (0, .ref (G.1 0)), (1, .int k), (2, .int ro)]) hx hb dX7_test_118 hl (k := 4) rfl (nI_1 j) (by decide) rfl (fun ls hl => ?_)
                  refine lv_goto (tgt := 67) hx hb dX7_test_121 (by decide) ?_
                  exact ih_67 (j + 1) (nI j) (imax (a_manyHold (vP σ 33) (vS σ 45) k (a_kindsBy σ o k) (nI j)) ((a_pop (a_kindsBy σ o k)) - (a_manyHold (vP σ 33) (vS σ 45) k (a_kindsBy σ o k) (nI j)))) _ _ _ (by omega) (by omega) (by rw [te_first, ← e_x6, ← e_x7]; simp [te_part, t_1, t_2, c_3, c_4, c_5, u_6]; try simp_all) (by rw [te_least, ← e_x7]; simp [te_part, t_1, t_2, c_3, c_4, c_5, u_6]; try simp_all) hP hS (lv_sub hl [0, 2, 1, 5, 6, 7, 8, 9, 10] rfl)
          exact lp_67 (100 - 0 + 1) 0 0 7 _ _ _ (by omega) (by omega) rfl rfl hP hS (lv_sub hl [0, 1, 2, 3, 4, 5, 6, 7, 8] rfl)
        · have t_4 := i_eq c_4
          refine lv_bipush (v := (-9)) hx hb dX7_test_54 (by decide) ?_
          exact xiret ha hP hS dX7_test_56 ⟨by (try subst eo); (try subst eo2); simp [k_test, t_1, t_2, c_3, c_4, i_leN, -Int32.not_lt], (by (try subst eo); (try subst eo2); simp [k_test, t_1, t_2, c_3, c_4, i_leN, -Int32.not_lt])⟩ rfl
      · have t_3 := i_ne c_3
        refine lv_aload_n hx hb dX7_test_34 rfl (lv_at hl 2 rfl) ?_
        refine lv_iload hx hb dX7_test_35 (lv_at hl 0 rfl) ?_
        refine xVi ha hP hS (y := yX7_found) (As := [.int (a_triF σ o)]) (rest := []) 0 (by decide) (cX_0 G _) rfl rfl (c_X7_found G l σ (a_triF σ o) ) kw_X7_97 hd_X7_found rfl ⟨rfl, rfl⟩ ⟨Nat.le_of_ble_eq_true rfl, Nat.le_of_ble_eq_true rfl⟩ ⟨Nat.zero_le _, Nat.zero_le _⟩ hl.1 (Nat.le_of_ble_eq_true rfl) rfl dX7_test_37 (fun r u H locs hpq hP hS => ?_)
        obtain ⟨hr_, hu_⟩ := hpq
        have hr_ := hr_.symm
        have hu_ := hu_.symm
        subst hr_
        subst hu_
        exact xiret ha hP hS dX7_test_40 ⟨by (try subst eo); (try subst eo2); simp [k_test, t_1, t_2, c_3, i_leN, -Int32.not_lt], (by (try subst eo); (try subst eo2); simp [k_test, t_1, t_2, c_3, i_leN, -Int32.not_lt])⟩ rfl
    · have t_2 := b2i_f c_2
      refine lv_iconst (v := (-1)) hx hb dX7_test_21 (by decide) ?_
      exact xiret ha hP hS dX7_test_22 ⟨by (try subst eo); (try subst eo2); simp [k_test, t_1, t_2, i_leN, -Int32.not_lt], (by (try subst eo); (try subst eo2); simp [k_test, t_1, t_2, i_leN, -Int32.not_lt])⟩ rfl
  · rw [show va_rf (if a_in ro 6 = true then some (G.1 (5 + 2 * ix ro)) else none) = .null from by rw [if_neg t_1]; rfl]
    refine lv_astore_nN (lv' := [(3, .null), (0, .ref (G.1 0)), (1, .int k), (2, .int ro)]) hx hb dX7_test_5 rfl hl (by decide) rfl (fun ls hl => ?_)
    refine lv_aload_nN hx hb dX7_test_6 rfl (lv_at hl 0 rfl) ?_
    refine lv_ifnullN (tgt := 21) hx hb dX7_test_7 (by decide) ?_
    refine lv_iconst (v := (-1)) hx hb dX7_test_21 (by decide) ?_
    exact xiret ha hP hS dX7_test_22 ⟨by (try subst eo); (try subst eo2); simp [k_test, t_1, i_leN, -Int32.not_lt], (by (try subst eo); (try subst eo2); simp [k_test, t_1, i_leN, -Int32.not_lt])⟩ rfl
