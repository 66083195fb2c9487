theorem hd_X8_isOf : kHd yX8_isOf 2 := by decide +kernel
theorem hd_X8_isOne : kHd yX8_isOne 1 := by decide +kernel
theorem hd_X8_isPole : kHd yX8_isPole 1 := by decide +kernel
theorem hd_X8_refuses : kHd yX8_refuses 1 := by decide +kernel
theorem hd_X8_remember : kHd yX8_remember 0 := by decide +kernel
theorem hd_X8_yearGoes : kHd yX8_yearGoes 1 := by decide +kernel
theorem kw_X8_206 : ∀ w ∈ k5V RX8 206 yX8_isPole cX8_isPole 2 (some .boolean), w ∈ TB := tb_ins (by decide +kernel)
theorem kw_X8_209 : ∀ w ∈ k5V RX8 209 yX8_isOne cX8_isOne 2 (some .boolean), w ∈ TB := tb_ins (by decide +kernel)
theorem kw_X8_212 : ∀ w ∈ k5S RX8 212 yX8_isOf cX8_isOf 2 (some .boolean), w ∈ TB := tb_ins (by decide +kernel)
theorem kw_X8_217 : ∀ w ∈ k5V RX8 217 yX8_remember cX8_remember 1 none, w ∈ TB := tb_ins (by decide +kernel)
theorem kw_X8_220 : ∀ w ∈ k5V RX8 220 yX8_refuses cX8_refuses 2 (some .int), w ∈ TB := tb_ins (by decide +kernel)
theorem kw_X8_223 : ∀ w ∈ k5V RX8 223 yX8_yearGoes cX8_yearGoes 5 (some .int), w ∈ TB := tb_ins (by decide +kernel)
set_option maxHeartbeats 4000000 in
set_option maxRecDepth 100000 in
theorem c_X8_pole (G : GT) (l : Launch) (σ : Mem) (k : Int32) (what : Int32) (hpb : PB (pM σ)) : CI G 24 (cM G) l yX8_pole ({ frames := 3, cells := 0, slots := 0, locals := 71 } : Room) cX8_pole 3 (some .int) [.ref (G.1 0), .int k, .int what] σ (fun (r : Int32) u => r = (n_pole σ k what).1 ∧ u = (n_pole σ k what).2) := by
  intro sz
  refine xbegin (by decide) (Nat.le_of_ble_eq_true rfl) ?_
  intro p e s m below meth c ls hsz ha hP hl
  subst hsz
  have hx := ha.1
  have hb := ha.2.1
  have hS : va_S (xA G 24 s.heap.size) s.heap s.heap [] := va_S.rf
  have hl : lv_has ls 3 [(0, .ref (G.1 0)), (1, .int k), (2, .int what)] := hl
  have k_m1 : (-1 : Int32).toInt = -1 := by decide
  have k_0 : (0 : Int32).toInt = 0 := by decide
  have k_1 : (1 : Int32).toInt = 1 := by decide
  have k_4 : (4 : Int32).toInt = 4 := by decide
  have k_5 : (5 : Int32).toInt = 5 := by decide
  have k_6 : (6 : Int32).toInt = 6 := by decide
  have k_7 : (7 : Int32).toInt = 7 := by decide
  have k_8 : (8 : Int32).toInt = 8 := by decide
  have hPL := PB_pl hpb
  have hPE := PB_pe hpb
  have hp4 := PV_pl hpb (rfl : pM σ = pM σ)
  have hp5 := PV_pe hpb (rfl : pM σ = pM σ)
  refine lv_aload_n hx hb dX8_pole_0 rfl (lv_at hl 0 rfl) ?_
  refine lv_iload_n hx hb dX8_pole_1 rfl (lv_at hl 1 rfl) ?_
  refine xVi ha hP hS (y := yX8_isPole) (As := [.int k]) (rest := []) 0 (by decide) (cM_0 G _) rfl rfl (c_X8_isPole G l σ (pM σ) k hpb rfl) kw_X8_206 hd_X8_isPole rfl ⟨rfl, rfl⟩ ⟨Nat.le_of_ble_eq_true rfl, Nat.le_of_ble_eq_true rfl⟩ ⟨Nat.zero_le _, Nat.zero_le _⟩ hl.1 (Nat.le_of_ble_eq_true rfl) rfl dX8_pole_2 (fun r u H locs hpq hP hS => ?_)
  obtain ⟨hr_, hu_⟩ := hpq
  have hr_ := hr_.symm
  have hu_ := hu_.symm
  subst hr_
  subst hu_
  refine lv_if_ne (tgt := 10) hx hb dX8_pole_5 (by decide) (fun c_1 => ?_) (fun c_1 => ?_)
  · have t_1 := b2i_t c_1
    have f_1 := isPole_t t_1
    refine lv_iload_n hx hb dX8_pole_10 rfl (lv_at hl 2 rfl) ?_
    by_cases c_2 : what = 0
    · refine lv_tableIn (tgt := 56) hx hb dX8_pole_11 (by rw [c_2]; decide) (by rw [c_2]; decide) (off := 45) (by rw [c_2]; rfl) (by decide) ?_
      refine lv_aload_n hx hb dX8_pole_56 rfl (lv_at hl 0 rfl) ?_
      refine lv_aload_n hx hb dX8_pole_57 rfl (lv_at hl 0 rfl) ?_
      refine g8_29 ha hP 0 (by decide) (cM_0 G _) (v := .ref (G.1 6)) rfl dX8_pole_58 ?_
      refine lv_iload_n hx hb dX8_pole_61 rfl (lv_at hl 1 rfl) ?_
      refine xialdN ha hP 6 (by decide) (cM_6 G _) (ix k) (ix_nI (by omega)) (ix_lt (by omega) (by omega)) (by decide) dX8_pole_62 ?_
      refine xVi ha hP hS (y := yX8_tell) (As := [.int (σ 6 (ix k))]) (rest := []) 0 (by decide) (cM_0 G _) rfl rfl (c_X8_tell G l σ (σ 6 (ix k)) ) kw_X8_109 hd_X8_tell rfl ⟨rfl, rfl⟩ ⟨Nat.le_of_ble_eq_true rfl, Nat.le_of_ble_eq_true rfl⟩ ⟨Nat.zero_le _, Nat.zero_le _⟩ hl.1 (Nat.le_of_ble_eq_true rfl) rfl dX8_pole_63 (fun r u H locs hpq hP hS => ?_)
      obtain ⟨hr_, hu_⟩ := hpq
      have hr_ := hr_.symm
      have hu_ := hu_.symm
      subst hr_
      subst hu_
      exact xiret ha hP hS dX8_pole_66 ⟨by simp [n_pole, a_ofPole, pM, sM, t_1, c_2, i_leN, -Int32.not_lt], (by simp [n_pole, a_ofPole, pM, sM, t_1, c_2, i_leN, -Int32.not_lt])⟩ rfl
    by_cases c_3 : what = 1
    · refine lv_tableIn (tgt := 67) hx hb dX8_pole_11 (by rw [c_3]; decide) (by rw [c_3]; decide) (off := 56) (by rw [c_3]; rfl) (by decide) ?_
      refine lv_aload_n hx hb dX8_pole_67 rfl (lv_at hl 0 rfl) ?_
      refine lv_aload_n hx hb dX8_pole_68 rfl (lv_at hl 0 rfl) ?_
      refine g8_32 ha hP 0 (by decide) (cM_0 G _) (v := .ref (G.1 7)) rfl dX8_pole_69 ?_
      refine lv_iload_n hx hb dX8_pole_72 rfl (lv_at hl 1 rfl) ?_
      refine xialdN ha hP 7 (by decide) (cM_7 G _) (ix k) (ix_nI (by omega)) (ix_lt (by omega) (by omega)) (by decide) dX8_pole_73 ?_
      refine xVi ha hP hS (y := yX8_tell) (As := [.int (σ 7 (ix k))]) (rest := []) 0 (by decide) (cM_0 G _) rfl rfl (c_X8_tell G l σ (σ 7 (ix k)) ) kw_X8_109 hd_X8_tell rfl ⟨rfl, rfl⟩ ⟨Nat.le_of_ble_eq_true rfl, Nat.le_of_ble_eq_true rfl⟩ ⟨Nat.zero_le _, Nat.zero_le _⟩ hl.1 (Nat.le_of_ble_eq_true rfl) rfl dX8_pole_74 (fun r u H locs hpq hP hS => ?_)
      obtain ⟨hr_, hu_⟩ := hpq
      have hr_ := hr_.symm
      have hu_ := hu_.symm
      subst hr_
      subst hu_
      exact xiret ha hP hS dX8_pole_77 ⟨by simp [n_pole, a_ofPole, pM, sM, t_1, c_2, c_3, i_leN, -Int32.not_lt], (by simp [n_pole, a_ofPole, pM, sM, t_1, c_2, c_3, i_leN, -Int32.not_lt])⟩ rfl
    by_cases c_4 : what = 2
    · refine lv_tableIn (tgt := 78) hx hb dX8_pole_11 (by rw [c_4]; decide) (by rw [c_4]; decide) (off := 67) (by rw [c_4]; rfl) (by decide) ?_
      refine lv_aload_n hx hb dX8_pole_78 rfl (lv_at hl 0 rfl) ?_
      refine lv_aload_n hx hb dX8_pole_79 rfl (lv_at hl 0 rfl) ?_
      refine g8_35 ha hP 0 (by decide) (cM_0 G _) (v := .ref (G.1 8)) rfl dX8_pole_80 ?_
      refine lv_iload_n hx hb dX8_pole_83 rfl (lv_at hl 1 rfl) ?_
      refine xialdN ha hP 8 (by decide) (cM_8 G _) (ix k) (ix_nI (by omega)) (ix_lt (by omega) (by omega)) (by decide) dX8_pole_84 ?_
      refine xVi ha hP hS (y := yX8_tell) (As := [.int (σ 8 (ix k))]) (rest := []) 0 (by decide) (cM_0 G _) rfl rfl (c_X8_tell G l σ (σ 8 (ix k)) ) kw_X8_109 hd_X8_tell rfl ⟨rfl, rfl⟩ ⟨Nat.le_of_ble_eq_true rfl, Nat.le_of_ble_eq_true rfl⟩ ⟨Nat.zero_le _, Nat.zero_le _⟩ hl.1 (Nat.le_of_ble_eq_true rfl) rfl dX8_pole_85 (fun r u H locs hpq hP hS => ?_)
      obtain ⟨hr_, hu_⟩ := hpq
      have hr_ := hr_.symm
      have hu_ := hu_.symm
      subst hr_
      subst hu_
      exact xiret ha hP hS dX8_pole_88 ⟨by simp [n_pole, a_ofPole, pM, sM, t_1, c_2, c_3, c_4, i_leN, -Int32.not_lt], (by simp [n_pole, a_ofPole, pM, sM, t_1, c_2, c_3, c_4, i_leN, -Int32.not_lt])⟩ rfl
    by_cases c_5 : what = 3
    · refine lv_tableIn (tgt := 89) hx hb dX8_pole_11 (by rw [c_5]; decide) (by rw [c_5]; decide) (off := 78) (by rw [c_5]; rfl) (by decide) ?_
      refine lv_aload_n hx hb dX8_pole_89 rfl (lv_at hl 0 rfl) ?_
      refine lv_aload_n hx hb dX8_pole_90 rfl (lv_at hl 0 rfl) ?_
      refine g8_44 ha hP 0 (by decide) (cM_0 G _) (v := .ref (G.1 11)) rfl dX8_pole_91 ?_
      refine lv_iconst (v := 0) hx hb dX8_pole_94 (by decide) ?_
      refine lv_iload_n hx hb dX8_pole_95 rfl (lv_at hl 1 rfl) ?_
      refine lv_iadd hx hb dX8_pole_96 ?_
      refine xialdN ha hP 11 (by decide) (cM_11 G _) (0 + (ix k)) (nadd (rfl : (0 : Int32) = nI 0) (ix_nI (by omega))) (by have q_0 := ix_toInt (show (0 : Int) ≤ (k).toInt by omega); omega) (by decide) dX8_pole_97 ?_
      refine xVi ha hP hS (y := yX8_tell) (As := [.int (σ 11 (0 + (ix k)))]) (rest := []) 0 (by decide) (cM_0 G _) rfl rfl (c_X8_tell G l σ (σ 11 (0 + (ix k))) ) kw_X8_109 hd_X8_tell rfl ⟨rfl, rfl⟩ ⟨Nat.le_of_ble_eq_true rfl, Nat.le_of_ble_eq_true rfl⟩ ⟨Nat.zero_le _, Nat.zero_le _⟩ hl.1 (Nat.le_of_ble_eq_true rfl) rfl dX8_pole_98 (fun r u H locs hpq hP hS => ?_)
      obtain ⟨hr_, hu_⟩ := hpq
      have hr_ := hr_.symm
      have hu_ := hu_.symm
      subst hr_
      subst hu_
      exact xiret ha hP hS dX8_pole_101 ⟨by simp [n_pole, a_ofPole, pM, sM, t_1, c_2, c_3, c_4, c_5, i_leN, -Int32.not_lt], (by simp [n_pole, a_ofPole, pM, sM, t_1, c_2, c_3, c_4, c_5, i_leN, -Int32.not_lt])⟩ rfl
    by_cases c_6 : what = 4
    · refine lv_tableIn (tgt := 102) hx hb dX8_pole_11 (by rw [c_6]; decide) (by rw [c_6]; decide) (off := 91) (by rw [c_6]; rfl) (by decide) ?_
      refine lv_aload_n hx hb dX8_pole_102 rfl (lv_at hl 0 rfl) ?_
      refine lv_aload_n hx hb dX8_pole_103 rfl (lv_at hl 0 rfl) ?_
      refine lv_aload_n hx hb dX8_pole_104 rfl (lv_at hl 0 rfl) ?_
      refine g8_44 ha hP 0 (by decide) (cM_0 G _) (v := .ref (G.1 11)) rfl dX8_pole_105 ?_
      refine lv_iload_n hx hb dX8_pole_108 rfl (lv_at hl 1 rfl) ?_
      refine xVi ha hP hS (y := yX8_bearsOn) (As := [.ref (G.1 11), .int k]) (rest := [.ref (G.1 0)]) 0 (by decide) (cM_0 G _) rfl rfl (c_X8_bearsOn G l σ (pM σ) 11 k hpb rfl (by unfold oT; omega) (by first | assumption | omega)) kw_X8_189 hd_X8_bearsOn rfl ⟨rfl, rfl⟩ ⟨Nat.le_of_ble_eq_true rfl, Nat.le_of_ble_eq_true rfl⟩ ⟨Nat.zero_le _, Nat.zero_le _⟩ hl.1 (Nat.le_of_ble_eq_true rfl) rfl dX8_pole_109 (fun r u H locs hpq hP hS => ?_)
      obtain ⟨hr_, hu_⟩ := hpq
      have hr_ := hr_.symm
      have hu_ := hu_.symm
      subst hr_
      subst hu_
      refine xVi ha hP hS (y := yX8_tell) (As := [.int (a_bearsNow (pM σ) (sM σ 11) k)]) (rest := []) 0 (by decide) (cM_0 G _) rfl rfl (c_X8_tell G l σ (a_bearsNow (pM σ) (sM σ 11) k) ) kw_X8_109 hd_X8_tell rfl ⟨rfl, rfl⟩ ⟨Nat.le_of_ble_eq_true rfl, Nat.le_of_ble_eq_true rfl⟩ ⟨Nat.zero_le _, Nat.zero_le _⟩ hl.1 (Nat.le_of_ble_eq_true rfl) rfl dX8_pole_112 (fun r u H locs hpq hP hS => ?_)
      obtain ⟨hr_, hu_⟩ := hpq
      have hr_ := hr_.symm
      have hu_ := hu_.symm
      subst hr_
      subst hu_
      exact xiret ha hP hS dX8_pole_115 ⟨by simp [n_pole, a_ofPole, pM, sM, t_1, c_2, c_3, c_4, c_5, c_6, i_leN, -Int32.not_lt], (by simp [n_pole, a_ofPole, pM, sM, t_1, c_2, c_3, c_4, c_5, c_6, i_leN, -Int32.not_lt])⟩ rfl
    by_cases c_7 : what = 5
    · refine lv_tableIn (tgt := 116) hx hb dX8_pole_11 (by rw [c_7]; decide) (by rw [c_7]; decide) (off := 105) (by rw [c_7]; rfl) (by decide) ?_
      refine lv_aload_n hx hb dX8_pole_116 rfl (lv_at hl 0 rfl) ?_
      refine lv_aload_n hx hb dX8_pole_117 rfl (lv_at hl 0 rfl) ?_
      refine lv_aload_n hx hb dX8_pole_118 rfl (lv_at hl 0 rfl) ?_
      refine g8_44 ha hP 0 (by decide) (cM_0 G _) (v := .ref (G.1 11)) rfl dX8_pole_119 ?_
      refine lv_iload_n hx hb dX8_pole_122 rfl (lv_at hl 1 rfl) ?_
      refine xVi ha hP hS (y := yX8_loadOn) (As := [.ref (G.1 11), .int k]) (rest := [.ref (G.1 0)]) 0 (by decide) (cM_0 G _) rfl rfl (c_X8_loadOn G l σ (pM σ) 11 k hpb rfl (by unfold oT; omega) (by first | assumption | omega)) kw_X8_185 hd_X8_loadOn rfl ⟨rfl, rfl⟩ ⟨Nat.le_of_ble_eq_true rfl, Nat.le_of_ble_eq_true rfl⟩ ⟨Nat.zero_le _, Nat.zero_le _⟩ hl.1 (Nat.le_of_ble_eq_true rfl) rfl dX8_pole_123 (fun r u H locs hpq hP hS => ?_)
      obtain ⟨hr_, hu_⟩ := hpq
      have hr_ := hr_.symm
      have hu_ := hu_.symm
      subst hr_
      subst hu_
      refine xVi ha hP hS (y := yX8_tell) (As := [.int (a_load (pM σ) (sM σ 11) k)]) (rest := []) 0 (by decide) (cM_0 G _) rfl rfl (c_X8_tell G l σ (a_load (pM σ) (sM σ 11) k) ) kw_X8_109 hd_X8_tell rfl ⟨rfl, rfl⟩ ⟨Nat.le_of_ble_eq_true rfl, Nat.le_of_ble_eq_true rfl⟩ ⟨Nat.zero_le _, Nat.zero_le _⟩ hl.1 (Nat.le_of_ble_eq_true rfl) rfl dX8_pole_126 (fun r u H locs hpq hP hS => ?_)
      obtain ⟨hr_, hu_⟩ := hpq
      have hr_ := hr_.symm
      have hu_ := hu_.symm
      subst hr_
      subst hu_
      exact xiret ha hP hS dX8_pole_129 ⟨by simp [n_pole, a_ofPole, pM, sM, t_1, c_2, c_3, c_4, c_5, c_6, c_7, i_leN, -Int32.not_lt], (by simp [n_pole, a_ofPole, pM, sM, t_1, c_2, c_3, c_4, c_5, c_6, c_7, i_leN, -Int32.not_lt])⟩ rfl
    by_cases c_8 : what = 6
    · refine lv_tableIn (tgt := 130) hx hb dX8_pole_11 (by rw [c_8]; decide) (by rw [c_8]; decide) (off := 119) (by rw [c_8]; rfl) (by decide) ?_
      refine lv_aload_n hx hb dX8_pole_130 rfl (lv_at hl 0 rfl) ?_
      refine lv_aload_n hx hb dX8_pole_131 rfl (lv_at hl 0 rfl) ?_
      refine lv_aload_n hx hb dX8_pole_132 rfl (lv_at hl 0 rfl) ?_
      refine g8_44 ha hP 0 (by decide) (cM_0 G _) (v := .ref (G.1 11)) rfl dX8_pole_133 ?_
      refine lv_iload_n hx hb dX8_pole_136 rfl (lv_at hl 1 rfl) ?_
      refine xVi ha hP hS (y := yX8_sittersOn) (As := [.ref (G.1 11), .int k]) (rest := [.ref (G.1 0)]) 0 (by decide) (cM_0 G _) rfl rfl (c_X8_sittersOn G l σ (pM σ) 11 k hpb rfl (by unfold oT; omega)) kw_X8_199 hd_X8_sittersOn rfl ⟨rfl, rfl⟩ ⟨Nat.le_of_ble_eq_true rfl, Nat.le_of_ble_eq_true rfl⟩ ⟨Nat.zero_le _, Nat.zero_le _⟩ hl.1 (Nat.le_of_ble_eq_true rfl) rfl dX8_pole_137 (fun r u H locs hpq hP hS => ?_)
      obtain ⟨hr_, hu_⟩ := hpq
      have hr_ := hr_.symm
      have hu_ := hu_.symm
      subst hr_
      subst hu_
      refine xVi ha hP hS (y := yX8_tell) (As := [.int (a_sitters (pM σ) (sM σ 11) k)]) (rest := []) 0 (by decide) (cM_0 G _) rfl rfl (c_X8_tell G l σ (a_sitters (pM σ) (sM σ 11) k) ) kw_X8_109 hd_X8_tell rfl ⟨rfl, rfl⟩ ⟨Nat.le_of_ble_eq_true rfl, Nat.le_of_ble_eq_true rfl⟩ ⟨Nat.zero_le _, Nat.zero_le _⟩ hl.1 (Nat.le_of_ble_eq_true rfl) rfl dX8_pole_140 (fun r u H locs hpq hP hS => ?_)
      obtain ⟨hr_, hu_⟩ := hpq
      have hr_ := hr_.symm
      have hu_ := hu_.symm
      subst hr_
      subst hu_
      exact xiret ha hP hS dX8_pole_143 ⟨by simp [n_pole, a_ofPole, pM, sM, t_1, c_2, c_3, c_4, c_5, c_6, c_7, c_8, i_leN, -Int32.not_lt], (by simp [n_pole, a_ofPole, pM, sM, t_1, c_2, c_3, c_4, c_5, c_6, c_7, c_8, i_leN, -Int32.not_lt])⟩ rfl
    by_cases c_9 : what = 7
    · refine lv_tableIn (tgt := 144) hx hb dX8_pole_11 (by rw [c_9]; decide) (by rw [c_9]; decide) (off := 133) (by rw [c_9]; rfl) (by decide) ?_
      refine lv_aload_n hx hb dX8_pole_144 rfl (lv_at hl 0 rfl) ?_
      refine lv_aload_n hx hb dX8_pole_145 rfl (lv_at hl 0 rfl) ?_
      refine g8_44 ha hP 0 (by decide) (cM_0 G _) (v := .ref (G.1 11)) rfl dX8_pole_146 ?_
      refine lv_iconst (v := 4) hx hb dX8_pole_149 (by decide) ?_
      refine xialdN ha hP 11 (by decide) (cM_11 G _) 4 (by decide) (by decide) (by decide) dX8_pole_150 ?_
      refine lv_iload_n hx hb dX8_pole_151 rfl (lv_at hl 1 rfl) ?_
      refine lv_ishr hx hb dX8_pole_152 ?_
      refine lv_iconst (v := 1) hx hb dX8_pole_153 (by decide) ?_
      refine lv_iand hx hb dX8_pole_154 ?_
      refine xVi ha hP hS (y := yX8_tell) (As := [.int (((σ 11 4) >>> (k &&& 31)) &&& 1)]) (rest := []) 0 (by decide) (cM_0 G _) rfl rfl (c_X8_tell G l σ (((σ 11 4) >>> (k &&& 31)) &&& 1) ) kw_X8_109 hd_X8_tell rfl ⟨rfl, rfl⟩ ⟨Nat.le_of_ble_eq_true rfl, Nat.le_of_ble_eq_true rfl⟩ ⟨Nat.zero_le _, Nat.zero_le _⟩ hl.1 (Nat.le_of_ble_eq_true rfl) rfl dX8_pole_155 (fun r u H locs hpq hP hS => ?_)
      obtain ⟨hr_, hu_⟩ := hpq
      have hr_ := hr_.symm
      have hu_ := hu_.symm
      subst hr_
      subst hu_
      exact xiret ha hP hS dX8_pole_158 ⟨by simp [n_pole, a_ofPole, pM, sM, t_1, c_2, c_3, c_4, c_5, c_6, c_7, c_8, c_9, i_leN, -Int32.not_lt], (by simp [n_pole, a_ofPole, pM, sM, t_1, c_2, c_3, c_4, c_5, c_6, c_7, c_8, c_9, i_leN, -Int32.not_lt])⟩ rfl
    have t_2 := i_ne c_2
    have t_3 := i_ne c_3
    have t_4 := i_ne c_4
    have t_5 := i_ne c_5
    have t_6 := i_ne c_6
    have t_7 := i_ne c_7
    have t_8 := i_ne c_8
    have t_9 := i_ne c_9
    have kk_2 : (0 : Int32).toInt = 0 := by decide
    have kk_3 : (1 : Int32).toInt = 1 := by decide
    have kk_4 : (2 : Int32).toInt = 2 := by decide
    have kk_5 : (3 : Int32).toInt = 3 := by decide
    have kk_6 : (4 : Int32).toInt = 4 := by decide
    have kk_7 : (5 : Int32).toInt = 5 := by decide
    have kk_8 : (6 : Int32).toInt = 6 := by decide
    have kk_9 : (7 : Int32).toInt = 7 := by decide
    refine lv_tableOut (tgt := 159) hx hb dX8_pole_11 (by omega) (by decide) ?_
    refine lv_iconst (v := (-1)) hx hb dX8_pole_159 (by decide) ?_
    exact xiret ha hP hS dX8_pole_160 ⟨by (rw [n_pole, if_pos (by assumption)]; by_cases h0 : what < 0; (rw [if_pos h0]); (rw [if_neg h0, if_neg (by intro h8; have := i_lt h8; have := i_nlt h0; omega)])), (by (rw [n_pole, if_pos (by assumption)]; by_cases h0 : what < 0; (rw [if_pos h0]); (rw [if_neg h0, if_neg (by intro h8; have := i_lt h8; have := i_nlt h0; omega)])))⟩ rfl
  · have t_1 := b2i_f c_1
    refine lv_iconst (v := (-1)) hx hb dX8_pole_8 (by decide) ?_
    exact xiret ha hP hS dX8_pole_9 ⟨by simp [n_pole, a_ofPole, pM, sM, t_1, i_leN, -Int32.not_lt], (by simp [n_pole, a_ofPole, pM, sM, t_1, i_leN, -Int32.not_lt])⟩ rfl
set_option maxHeartbeats 4000000 in
set_option maxRecDepth 100000 in
theorem c_X8_one (G : GT) (l : Launch) (σ : Mem) (i : Int32) (what : Int32) (hpb : PB (pM σ)) (hsv : SV (pM σ) σ 11) : CI G 24 (cM G) l yX8_one ({ frames := 2, cells := 0, slots := 0, locals := 46 } : Room) cX8_one 3 (some .int) [.ref (G.1 0), .int i, .int what] σ (fun (r : Int32) u => r = (n_one σ i what).1 ∧ u = (n_one σ i what).2) := by
  intro sz
  refine xbegin (by decide) (Nat.le_of_ble_eq_true rfl) ?_
  intro p e s m below meth c ls hsz ha hP hl
  subst hsz
  have hx := ha.1
  have hb := ha.2.1
  have hS : va_S (xA G 24 s.heap.size) s.heap s.heap [] := va_S.rf
  have hl : lv_has ls 3 [(0, .ref (G.1 0)), (1, .int i), (2, .int what)] := hl
  have k_m1 : (-1 : Int32).toInt = -1 := by decide
  have k_0 : (0 : Int32).toInt = 0 := by decide
  have k_4 : (4 : Int32).toInt = 4 := by decide
  have k_5 : (5 : Int32).toInt = 5 := by decide
  have k_6 : (6 : Int32).toInt = 6 := by decide
  have hPL := PB_pl hpb
  have hPE := PB_pe hpb
  have hp4 := PV_pl hpb (rfl : pM σ = pM σ)
  have hp5 := PV_pe hpb (rfl : pM σ = pM σ)
  refine lv_aload_n hx hb dX8_one_0 rfl (lv_at hl 0 rfl) ?_
  refine lv_iload_n hx hb dX8_one_1 rfl (lv_at hl 1 rfl) ?_
  refine xVi ha hP hS (y := yX8_isOne) (As := [.int i]) (rest := []) 0 (by decide) (cM_0 G _) rfl rfl (c_X8_isOne G l σ (pM σ) i hpb rfl) kw_X8_209 hd_X8_isOne rfl ⟨rfl, rfl⟩ ⟨Nat.le_of_ble_eq_true rfl, Nat.le_of_ble_eq_true rfl⟩ ⟨Nat.zero_le _, Nat.zero_le _⟩ hl.1 (Nat.le_of_ble_eq_true rfl) rfl dX8_one_2 (fun r u H locs hpq hP hS => ?_)
  obtain ⟨hr_, hu_⟩ := hpq
  have hr_ := hr_.symm
  have hu_ := hu_.symm
  subst hr_
  subst hu_
  refine lv_if_ne (tgt := 10) hx hb dX8_one_5 (by decide) (fun c_1 => ?_) (fun c_1 => ?_)
  · have t_1 := b2i_t c_1
    have f_1 := isOne_t t_1
    refine lv_iload_n hx hb dX8_one_10 rfl (lv_at hl 2 rfl) ?_
    by_cases c_2 : what = 0
    · refine lv_tableIn (tgt := 40) hx hb dX8_one_11 (by rw [c_2]; decide) (by rw [c_2]; decide) (off := 29) (by rw [c_2]; rfl) (by decide) ?_
      refine lv_aload_n hx hb dX8_one_40 rfl (lv_at hl 0 rfl) ?_
      refine lv_aload_n hx hb dX8_one_41 rfl (lv_at hl 0 rfl) ?_
      refine g8_38 ha hP 0 (by decide) (cM_0 G _) (v := .ref (G.1 9)) rfl dX8_one_42 ?_
      refine lv_iload_n hx hb dX8_one_45 rfl (lv_at hl 1 rfl) ?_
      refine xialdN ha hP 9 (by decide) (cM_9 G _) (ix i) (ix_nI (by omega)) (ix_lt (by omega) (by omega)) (by decide) dX8_one_46 ?_
      refine xVi ha hP hS (y := yX8_tell) (As := [.int (σ 9 (ix i))]) (rest := []) 0 (by decide) (cM_0 G _) rfl rfl (c_X8_tell G l σ (σ 9 (ix i)) ) kw_X8_109 hd_X8_tell rfl ⟨rfl, rfl⟩ ⟨Nat.le_of_ble_eq_true rfl, Nat.le_of_ble_eq_true rfl⟩ ⟨Nat.zero_le _, Nat.zero_le _⟩ hl.1 (Nat.le_of_ble_eq_true rfl) rfl dX8_one_47 (fun r u H locs hpq hP hS => ?_)
      obtain ⟨hr_, hu_⟩ := hpq
      have hr_ := hr_.symm
      have hu_ := hu_.symm
      subst hr_
      subst hu_
      exact xiret ha hP hS dX8_one_50 ⟨by simp [n_one, a_ofOne, pM, sM, t_1, c_2, i_leN, -Int32.not_lt], (by simp [n_one, a_ofOne, pM, sM, t_1, c_2, i_leN, -Int32.not_lt])⟩ rfl
    by_cases c_3 : what = 1
    · refine lv_tableIn (tgt := 51) hx hb dX8_one_11 (by rw [c_3]; decide) (by rw [c_3]; decide) (off := 40) (by rw [c_3]; rfl) (by decide) ?_
      refine lv_aload_n hx hb dX8_one_51 rfl (lv_at hl 0 rfl) ?_
      refine lv_aload_n hx hb dX8_one_52 rfl (lv_at hl 0 rfl) ?_
      refine g8_41 ha hP 0 (by decide) (cM_0 G _) (v := .ref (G.1 10)) rfl dX8_one_53 ?_
      refine lv_iload_n hx hb dX8_one_56 rfl (lv_at hl 1 rfl) ?_
      refine xialdN ha hP 10 (by decide) (cM_10 G _) (ix i) (ix_nI (by omega)) (ix_lt (by omega) (by omega)) (by decide) dX8_one_57 ?_
      refine xVi ha hP hS (y := yX8_tell) (As := [.int (σ 10 (ix i))]) (rest := []) 0 (by decide) (cM_0 G _) rfl rfl (c_X8_tell G l σ (σ 10 (ix i)) ) kw_X8_109 hd_X8_tell rfl ⟨rfl, rfl⟩ ⟨Nat.le_of_ble_eq_true rfl, Nat.le_of_ble_eq_true rfl⟩ ⟨Nat.zero_le _, Nat.zero_le _⟩ hl.1 (Nat.le_of_ble_eq_true rfl) rfl dX8_one_58 (fun r u H locs hpq hP hS => ?_)
      obtain ⟨hr_, hu_⟩ := hpq
      have hr_ := hr_.symm
      have hu_ := hu_.symm
      subst hr_
      subst hu_
      exact xiret ha hP hS dX8_one_61 ⟨by simp [n_one, a_ofOne, pM, sM, t_1, c_2, c_3, i_leN, -Int32.not_lt], (by simp [n_one, a_ofOne, pM, sM, t_1, c_2, c_3, i_leN, -Int32.not_lt])⟩ rfl
    by_cases c_4 : what = 2
    · refine lv_tableIn (tgt := 62) hx hb dX8_one_11 (by rw [c_4]; decide) (by rw [c_4]; decide) (off := 51) (by rw [c_4]; rfl) (by decide) ?_
      refine lv_aload_n hx hb dX8_one_62 rfl (lv_at hl 0 rfl) ?_
      refine lv_aload_n hx hb dX8_one_63 rfl (lv_at hl 0 rfl) ?_
      refine g8_44 ha hP 0 (by decide) (cM_0 G _) (v := .ref (G.1 11)) rfl dX8_one_64 ?_
      refine lv_iconst (v := 5) hx hb dX8_one_67 (by decide) ?_
      refine lv_iload_n hx hb dX8_one_68 rfl (lv_at hl 1 rfl) ?_
      refine lv_iadd hx hb dX8_one_69 ?_
      refine xialdN ha hP 11 (by decide) (cM_11 G _) (5 + (ix i)) (nadd (rfl : (5 : Int32) = nI 5) (ix_nI (by omega))) (by have q_0 := ix_toInt (show (0 : Int) ≤ (i).toInt by omega); omega) (by decide) dX8_one_70 ?_
      refine xVi ha hP hS (y := yX8_tell) (As := [.int (σ 11 (5 + (ix i)))]) (rest := []) 0 (by decide) (cM_0 G _) rfl rfl (c_X8_tell G l σ (σ 11 (5 + (ix i))) ) kw_X8_109 hd_X8_tell rfl ⟨rfl, rfl⟩ ⟨Nat.le_of_ble_eq_true rfl, Nat.le_of_ble_eq_true rfl⟩ ⟨Nat.zero_le _, Nat.zero_le _⟩ hl.1 (Nat.le_of_ble_eq_true rfl) rfl dX8_one_71 (fun r u H locs hpq hP hS => ?_)
      obtain ⟨hr_, hu_⟩ := hpq
      have hr_ := hr_.symm
      have hu_ := hu_.symm
      subst hr_
      subst hu_
      exact xiret ha hP hS dX8_one_74 ⟨by simp [n_one, a_ofOne, pM, sM, t_1, c_2, c_3, c_4, i_leN, -Int32.not_lt], (by simp [n_one, a_ofOne, pM, sM, t_1, c_2, c_3, c_4, i_leN, -Int32.not_lt])⟩ rfl
    by_cases c_5 : what = 3
    · refine lv_tableIn (tgt := 75) hx hb dX8_one_11 (by rw [c_5]; decide) (by rw [c_5]; decide) (off := 64) (by rw [c_5]; rfl) (by decide) ?_
      refine lv_aload_n hx hb dX8_one_75 rfl (lv_at hl 0 rfl) ?_
      refine lv_aload_n hx hb dX8_one_76 rfl (lv_at hl 0 rfl) ?_
      refine lv_iload_n hx hb dX8_one_77 rfl (lv_at hl 1 rfl) ?_
      refine lv_aload_n hx hb dX8_one_78 rfl (lv_at hl 0 rfl) ?_
      refine g8_44 ha hP 0 (by decide) (cM_0 G _) (v := .ref (G.1 11)) rfl dX8_one_79 ?_
      refine lv_iconst (v := 5) hx hb dX8_one_82 (by decide) ?_
      refine lv_iload_n hx hb dX8_one_83 rfl (lv_at hl 1 rfl) ?_
      refine lv_iadd hx hb dX8_one_84 ?_
      refine xialdN ha hP 11 (by decide) (cM_11 G _) (5 + (ix i)) (nadd (rfl : (5 : Int32) = nI 5) (ix_nI (by omega))) (by have q_0 := ix_toInt (show (0 : Int) ≤ (i).toInt by omega); omega) (by decide) dX8_one_85 ?_
      refine xVi ha hP hS (y := yX8_highOn) (As := [.int i, .int (σ 11 (5 + (ix i)))]) (rest := [.ref (G.1 0)]) 0 (by decide) (cM_0 G _) rfl rfl (c_X8_highOn G l σ (pM σ) i (σ 11 (5 + (ix i))) hpb rfl (by assumption) (hsv (ix i) (ix_lt (by omega) (by omega)))) kw_X8_177 hd_X8_highOn rfl ⟨rfl, rfl⟩ ⟨Nat.le_of_ble_eq_true rfl, Nat.le_of_ble_eq_true rfl⟩ ⟨Nat.zero_le _, Nat.zero_le _⟩ hl.1 (Nat.le_of_ble_eq_true rfl) rfl dX8_one_86 (fun r u H locs hpq hP hS => ?_)
      obtain ⟨hr_, hu_⟩ := hpq
      have hr_ := hr_.symm
      have hu_ := hu_.symm
      subst hr_
      subst hu_
      refine xVi ha hP hS (y := yX8_tell) (As := [.int (a_high (pM σ) i (σ 11 (5 + (ix i))))]) (rest := []) 0 (by decide) (cM_0 G _) rfl rfl (c_X8_tell G l σ (a_high (pM σ) i (σ 11 (5 + (ix i)))) ) kw_X8_109 hd_X8_tell rfl ⟨rfl, rfl⟩ ⟨Nat.le_of_ble_eq_true rfl, Nat.le_of_ble_eq_true rfl⟩ ⟨Nat.zero_le _, Nat.zero_le _⟩ hl.1 (Nat.le_of_ble_eq_true rfl) rfl dX8_one_89 (fun r u H locs hpq hP hS => ?_)
      obtain ⟨hr_, hu_⟩ := hpq
      have hr_ := hr_.symm
      have hu_ := hu_.symm
      subst hr_
      subst hu_
      exact xiret ha hP hS dX8_one_92 ⟨by simp [n_one, a_ofOne, pM, sM, t_1, c_2, c_3, c_4, c_5, i_leN, -Int32.not_lt], (by simp [n_one, a_ofOne, pM, sM, t_1, c_2, c_3, c_4, c_5, i_leN, -Int32.not_lt])⟩ rfl
    have t_2 := i_ne c_2
    have t_3 := i_ne c_3
    have t_4 := i_ne c_4
    have t_5 := i_ne c_5
    have kk_2 : (0 : Int32).toInt = 0 := by decide
    have kk_3 : (1 : Int32).toInt = 1 := by decide
    have kk_4 : (2 : Int32).toInt = 2 := by decide
    have kk_5 : (3 : Int32).toInt = 3 := by decide
    refine lv_tableOut (tgt := 93) hx hb dX8_one_11 (by omega) (by decide) ?_
    refine lv_iconst (v := (-1)) hx hb dX8_one_93 (by decide) ?_
    exact xiret ha hP hS dX8_one_94 ⟨by (rw [n_one, if_pos (by assumption)]; by_cases h0 : what < 0; (rw [if_pos h0]); (rw [if_neg h0, if_neg (by intro h8; have := i_lt h8; have := i_nlt h0; omega)])), (by (rw [n_one, if_pos (by assumption)]; by_cases h0 : what < 0; (rw [if_pos h0]); (rw [if_neg h0, if_neg (by intro h8; have := i_lt h8; have := i_nlt h0; omega)])))⟩ rfl
  · have t_1 := b2i_f c_1
    refine lv_iconst (v := (-1)) hx hb dX8_one_8 (by decide) ?_
    exact xiret ha hP hS dX8_one_9 ⟨by simp [n_one, a_ofOne, pM, sM, t_1, i_leN, -Int32.not_lt], (by simp [n_one, a_ofOne, pM, sM, t_1, i_leN, -Int32.not_lt])⟩ rfl
set_option maxHeartbeats 4000000 in
set_option maxRecDepth 100000 in
theorem c_X8_isOf (G : GT) (l : Launch) (σ : Mem) (kind : Int32) (wanted : Int32)  : CI G 24 (cM G) l yX8_isOf ({ frames := 0, cells := 0, slots := 0, locals := 0 } : Room) cX8_isOf 2 (some .boolean) [.int kind, .int wanted] σ (fun (r : Int32) u => r = b2i (a_isOf kind wanted) ∧ u = σ) := by
  intro sz
  refine xbegin (by decide) (Nat.le_of_ble_eq_true rfl) ?_
  intro p e s m below meth c ls hsz ha hP hl
  subst hsz
  have hx := ha.1
  have hb := ha.2.1
  have hS : va_S (xA G 24 s.heap.size) s.heap s.heap [] := va_S.rf
  have hl : lv_has ls 2 [(0, .int kind), (1, .int wanted)] := hl
  have k_0 : (0 : Int32).toInt = 0 := by decide
  have k_1 : (1 : Int32).toInt = 1 := by decide
  have k_2 : (2 : Int32).toInt = 2 := by decide
  have k_3 : (3 : Int32).toInt = 3 := by decide
  have k_4 : (4 : Int32).toInt = 4 := by decide
  have k_5 : (5 : Int32).toInt = 5 := by decide
  have k_6 : (6 : Int32).toInt = 6 := by decide
  refine lv_iload_n hx hb dX8_isOf_0 rfl (lv_at hl 0 rfl) ?_
  refine lv_iload_n hx hb dX8_isOf_1 rfl (lv_at hl 1 rfl) ?_
  refine lv_icmp_eq (tgt := 30) hx hb dX8_isOf_2 (by decide) (fun c_1 => ?_) (fun c_1 => ?_)
  · have t_1 := i_eq c_1
    refine lv_iconst (v := 1) hx hb dX8_isOf_30 (by decide) ?_
    refine lv_goto (tgt := 35) hx hb dX8_isOf_31 (by decide) ?_
    exact xzret ha hP hS rfl dX8_isOf_35 ⟨by simp [b2i, a_isOf, i_leN, c_1, -Int32.not_lt] <;> first | rfl | simp_all, rfl⟩ rfl
  · have t_1 := i_ne c_1
    refine lv_iload_n hx hb dX8_isOf_5 rfl (lv_at hl 1 rfl) ?_
    refine lv_iconst (v := 1) hx hb dX8_isOf_6 (by decide) ?_
    refine lv_icmp_ne (tgt := 15) hx hb dX8_isOf_7 (by decide) (fun c_2 => ?_) (fun c_2 => ?_)
    · have t_2 := i_ne c_2
      refine lv_iload_n hx hb dX8_isOf_15 rfl (lv_at hl 1 rfl) ?_
      refine lv_iconst (v := 2) hx hb dX8_isOf_16 (by decide) ?_
      refine lv_icmp_ne (tgt := 34) hx hb dX8_isOf_17 (by decide) (fun c_3 => ?_) (fun c_3 => ?_)
      · have t_3 := i_ne c_3
        refine lv_iconst (v := 0) hx hb dX8_isOf_34 (by decide) ?_
        exact xzret ha hP hS rfl dX8_isOf_35 ⟨by simp [b2i, a_isOf, i_leN, c_1, c_2, c_3, -Int32.not_lt] <;> first | rfl | simp_all, rfl⟩ rfl
      · have t_3 := i_eq c_3
        refine lv_iload_n hx hb dX8_isOf_20 rfl (lv_at hl 0 rfl) ?_
        refine lv_iconst (v := 3) hx hb dX8_isOf_21 (by decide) ?_
        refine lv_icmp_eq (tgt := 30) hx hb dX8_isOf_22 (by decide) (fun c_4 => ?_) (fun c_4 => ?_)
        · have t_4 := i_eq c_4
          refine lv_iconst (v := 1) hx hb dX8_isOf_30 (by decide) ?_
          refine lv_goto (tgt := 35) hx hb dX8_isOf_31 (by decide) ?_
          exact xzret ha hP hS rfl dX8_isOf_35 ⟨by simp [b2i, a_isOf, i_leN, c_1, c_2, c_3, c_4, -Int32.not_lt] <;> first | rfl | simp_all, rfl⟩ rfl
        · have t_4 := i_ne c_4
          refine lv_iload_n hx hb dX8_isOf_25 rfl (lv_at hl 0 rfl) ?_
          refine lv_iconst (v := 4) hx hb dX8_isOf_26 (by decide) ?_
          refine lv_icmp_ne (tgt := 34) hx hb dX8_isOf_27 (by decide) (fun c_5 => ?_) (fun c_5 => ?_)
          · have t_5 := i_ne c_5
            refine lv_iconst (v := 0) hx hb dX8_isOf_34 (by decide) ?_
            exact xzret ha hP hS rfl dX8_isOf_35 ⟨by simp [b2i, a_isOf, i_leN, c_1, c_2, c_3, c_4, c_5, -Int32.not_lt] <;> first | rfl | simp_all, rfl⟩ rfl
          · have t_5 := i_eq c_5
            refine lv_iconst (v := 1) hx hb dX8_isOf_30 (by decide) ?_
            refine lv_goto (tgt := 35) hx hb dX8_isOf_31 (by decide) ?_
            exact xzret ha hP hS rfl dX8_isOf_35 ⟨by simp [b2i, a_isOf, i_leN, c_1, c_2, c_3, c_4, c_5, -Int32.not_lt] <;> first | rfl | simp_all, rfl⟩ rfl
    · have t_2 := i_eq c_2
      refine lv_iload_n hx hb dX8_isOf_10 rfl (lv_at hl 0 rfl) ?_
      refine lv_iconst (v := 5) hx hb dX8_isOf_11 (by decide) ?_
      refine lv_icmp_eq (tgt := 30) hx hb dX8_isOf_12 (by decide) (fun c_6 => ?_) (fun c_6 => ?_)
      · have t_6 := i_eq c_6
        refine lv_iconst (v := 1) hx hb dX8_isOf_30 (by decide) ?_
        refine lv_goto (tgt := 35) hx hb dX8_isOf_31 (by decide) ?_
        exact xzret ha hP hS rfl dX8_isOf_35 ⟨by simp [b2i, a_isOf, i_leN, c_1, c_2, c_6, -Int32.not_lt] <;> first | rfl | simp_all, rfl⟩ rfl
      · have t_6 := i_ne c_6
        refine lv_iload_n hx hb dX8_isOf_15 rfl (lv_at hl 1 rfl) ?_
        refine lv_iconst (v := 2) hx hb dX8_isOf_16 (by decide) ?_
        refine lv_icmp_ne (tgt := 34) hx hb dX8_isOf_17 (by decide) (fun c_7 => ?_) (fun c_7 => ?_)
        · have t_7 := i_ne c_7
          refine lv_iconst (v := 0) hx hb dX8_isOf_34 (by decide) ?_
          exact xzret ha hP hS rfl dX8_isOf_35 ⟨by simp [b2i, a_isOf, i_leN, c_1, c_2, c_6, c_7, -Int32.not_lt] <;> first | rfl | simp_all, rfl⟩ rfl
        · have t_7 := i_eq c_7
          refine lv_iload_n hx hb dX8_isOf_20 rfl (lv_at hl 0 rfl) ?_
          refine lv_iconst (v := 3) hx hb dX8_isOf_21 (by decide) ?_
          refine lv_icmp_eq (tgt := 30) hx hb dX8_isOf_22 (by decide) (fun c_8 => ?_) (fun c_8 => ?_)
          · have t_8 := i_eq c_8
            refine lv_iconst (v := 1) hx hb dX8_isOf_30 (by decide) ?_
            refine lv_goto (tgt := 35) hx hb dX8_isOf_31 (by decide) ?_
            exact xzret ha hP hS rfl dX8_isOf_35 ⟨by simp [b2i, a_isOf, i_leN, c_1, c_2, c_6, c_7, c_8, -Int32.not_lt] <;> first | rfl | simp_all, rfl⟩ rfl
          · have t_8 := i_ne c_8
            refine lv_iload_n hx hb dX8_isOf_25 rfl (lv_at hl 0 rfl) ?_
            refine lv_iconst (v := 4) hx hb dX8_isOf_26 (by decide) ?_
            refine lv_icmp_ne (tgt := 34) hx hb dX8_isOf_27 (by decide) (fun c_9 => ?_) (fun c_9 => ?_)
            · have t_9 := i_ne c_9
              refine lv_iconst (v := 0) hx hb dX8_isOf_34 (by decide) ?_
              exact xzret ha hP hS rfl dX8_isOf_35 ⟨by simp [b2i, a_isOf, i_leN, c_1, c_2, c_6, c_7, c_8, c_9, -Int32.not_lt] <;> first | rfl | simp_all, rfl⟩ rfl
            · have t_9 := i_eq c_9
              refine lv_iconst (v := 1) hx hb dX8_isOf_30 (by decide) ?_
              refine lv_goto (tgt := 35) hx hb dX8_isOf_31 (by decide) ?_
              exact xzret ha hP hS rfl dX8_isOf_35 ⟨by simp [b2i, a_isOf, i_leN, c_1, c_2, c_6, c_7, c_8, c_9, -Int32.not_lt] <;> first | rfl | simp_all, rfl⟩ rfl
set_option maxHeartbeats 4000000 in
set_option maxRecDepth 100000 in
theorem c_X8_mark (G : GT) (l : Launch) (σ : Mem) (k : Int32) (kind : Int32) (hpb : PB (pM σ)) : CI G 24 (cM G) l yX8_mark ({ frames := 3, cells := 0, slots := 0, locals := 71 } : Room) cX8_mark 5 (some .int) [.ref (G.1 0), .int k, .int kind] σ (fun (r : Int32) u => r = (n_mark σ k kind).1 ∧ u = (n_mark σ k kind).2) := by
  intro sz
  refine xbegin (by decide) (Nat.le_of_ble_eq_true rfl) ?_
  intro p e s m below meth c ls hsz ha hP hl
  subst hsz
  have hx := ha.1
  have hb := ha.2.1
  have hS : va_S (xA G 24 s.heap.size) s.heap s.heap [] := va_S.rf
  have hl : lv_has ls 5 [(0, .ref (G.1 0)), (1, .int k), (2, .int kind)] := hl
  have k_m1 : (-1 : Int32).toInt = -1 := by decide
  have k_0 : (0 : Int32).toInt = 0 := by decide
  have k_1 : (1 : Int32).toInt = 1 := by decide
  have k_2 : (2 : Int32).toInt = 2 := by decide
  have k_3 : (3 : Int32).toInt = 3 := by decide
  have k_4 : (4 : Int32).toInt = 4 := by decide
  have k_5 : (5 : Int32).toInt = 5 := by decide
  have k_6 : (6 : Int32).toInt = 6 := by decide
  have k_100 : (100 : Int32).toInt = 100 := by decide
  have hPL := PB_pl hpb
  have hPE := PB_pe hpb
  have hp4 := PV_pl hpb (rfl : pM σ = pM σ)
  have hp5 := PV_pe hpb (rfl : pM σ = pM σ)
  refine lv_aload_n hx hb dX8_mark_0 rfl (lv_at hl 0 rfl) ?_
  refine lv_iload_n hx hb dX8_mark_1 rfl (lv_at hl 1 rfl) ?_
  refine xVi ha hP hS (y := yX8_isPole) (As := [.int k]) (rest := []) 0 (by decide) (cM_0 G _) rfl rfl (c_X8_isPole G l σ (pM σ) k hpb rfl) kw_X8_206 hd_X8_isPole rfl ⟨rfl, rfl⟩ ⟨Nat.le_of_ble_eq_true rfl, Nat.le_of_ble_eq_true rfl⟩ ⟨Nat.zero_le _, Nat.zero_le _⟩ hl.1 (Nat.le_of_ble_eq_true rfl) rfl dX8_mark_2 (fun r u H locs hpq hP hS => ?_)
  obtain ⟨hr_, hu_⟩ := hpq
  have hr_ := hr_.symm
  have hu_ := hu_.symm
  subst hr_
  subst hu_
  refine lv_if_eq (tgt := 20) hx hb dX8_mark_5 (by decide) (fun c_1 => ?_) (fun c_1 => ?_)
  · have t_1 := b2i_f c_1
    refine lv_iconst (v := (-1)) hx hb dX8_mark_20 (by decide) ?_
    exact xiret ha hP hS dX8_mark_21 ⟨by simp [n_mark, b_mark, b_as, pM, t_1, i_leN, -Int32.not_lt], (by simp [n_mark, b_mark, b_as, pM, t_1, i_leN, -Int32.not_lt])⟩ rfl
  · have t_1 := b2i_t c_1
    have f_1 := isPole_t t_1
    refine lv_iload_n hx hb dX8_mark_8 rfl (lv_at hl 2 rfl) ?_
    refine lv_i2l (v := kind.toInt64) hx hb dX8_mark_9 rfl ?_
    refine lv_lconst (v := 1) hx hb dX8_mark_10 (by decide) ?_
    refine lv_ldc2 (v := 5) hx hb ha.2.2.2.1 (ha.2.2.2.2.1 _ (tb_in (w := .constantLong RX8 93 5) (by decide +kernel))) dX8_mark_11 ?_
    refine xSi ha hP hS (y := yX8_in) (As := [.long kind.toInt64, .long 1, .long 5]) (rest := []) rfl (c_X8_in G l σ kind.toInt64 1 5 ) kw_X8_95 hd_X8_in rfl ⟨rfl, rfl⟩ ⟨Nat.le_of_ble_eq_true rfl, Nat.le_of_ble_eq_true rfl⟩ ⟨Nat.zero_le _, Nat.zero_le _⟩ hl.1 (Nat.le_of_ble_eq_true rfl) rfl dX8_mark_14 (fun r u H locs hpq hP hS => ?_)
    obtain ⟨hr_, hu_⟩ := hpq
    have hr_ := hr_.symm
    have hu_ := hu_.symm
    subst hr_
    subst hu_
    refine lv_if_ne (tgt := 22) hx hb dX8_mark_17 (by decide) (fun c_2 => ?_) (fun c_2 => ?_)
    · have t_2 := b2i_t c_2
      have f_2 := bin_t t_2
      try simp only [Int32.toInt_toInt64, ll_0, ll_1, ll_2, ll_3, ll_4, ll_5, ll_9, ll_12, ll_20, ll_40, ll_57, ll_99, ll_2147483646] at f_2
      refine lv_aload_n hx hb dX8_mark_22 rfl (lv_at hl 0 rfl) ?_
      refine g8_29 ha hP 0 (by decide) (cM_0 G _) (v := .ref (G.1 6)) rfl dX8_mark_23 ?_
      refine lv_iload_n hx hb dX8_mark_26 rfl (lv_at hl 1 rfl) ?_
      refine xialdN ha hP 6 (by decide) (cM_6 G _) (ix k) (ix_nI (by omega)) (ix_lt (by omega) (by omega)) (by decide) dX8_mark_27 ?_
      refine lv_iload_n hx hb dX8_mark_28 rfl (lv_at hl 2 rfl) ?_
      refine xSi ha hP hS (y := yX8_isOf) (As := [.int (σ 6 (ix k)), .int kind]) (rest := []) rfl (c_X8_isOf G l σ (σ 6 (ix k)) kind ) kw_X8_212 hd_X8_isOf rfl ⟨rfl, rfl⟩ ⟨Nat.le_of_ble_eq_true rfl, Nat.le_of_ble_eq_true rfl⟩ ⟨Nat.zero_le _, Nat.zero_le _⟩ hl.1 (Nat.le_of_ble_eq_true rfl) rfl dX8_mark_29 (fun r u H locs hpq hP hS => ?_)
      obtain ⟨hr_, hu_⟩ := hpq
      have hr_ := hr_.symm
      have hu_ := hu_.symm
      subst hr_
      subst hu_
      refine lv_if_ne (tgt := 41) hx hb dX8_mark_32 (by decide) (fun c_3 => ?_) (fun c_3 => ?_)
      · have t_3 := b2i_t c_3
        refine lv_aload_n hx hb dX8_mark_41 rfl (lv_at hl 0 rfl) ?_
        refine lv_aload_n hx hb dX8_mark_42 rfl (lv_at hl 0 rfl) ?_
        refine g8_44 ha hP 0 (by decide) (cM_0 G _) (v := .ref (G.1 11)) rfl dX8_mark_43 ?_
        refine lv_iload_n hx hb dX8_mark_46 rfl (lv_at hl 1 rfl) ?_
        refine xVi ha hP hS (y := yX8_bearsOn) (As := [.ref (G.1 11), .int k]) (rest := []) 0 (by decide) (cM_0 G _) rfl rfl (c_X8_bearsOn G l σ (pM σ) 11 k hpb rfl (by unfold oT; omega) (by first | assumption | omega)) kw_X8_189 hd_X8_bearsOn rfl ⟨rfl, rfl⟩ ⟨Nat.le_of_ble_eq_true rfl, Nat.le_of_ble_eq_true rfl⟩ ⟨Nat.zero_le _, Nat.zero_le _⟩ hl.1 (Nat.le_of_ble_eq_true rfl) rfl dX8_mark_47 (fun r u H locs hpq hP hS => ?_)
        obtain ⟨hr_, hu_⟩ := hpq
        have hr_ := hr_.symm
        have hu_ := hu_.symm
        subst hr_
        subst hu_
        refine lv_istore_n (lv' := [(3, .int (a_bearsNow (pM σ) (sM σ 11) k)), (0, .ref (G.1 0)), (1, .int k), (2, .int kind)]) hx hb dX8_mark_50 rfl hl (by decide) rfl (fun ls hl => ?_)
        refine lv_aload_n hx hb dX8_mark_51 rfl (lv_at hl 1 rfl) ?_
        refine g8_44 ha hP 0 (by decide) (cM_0 G _) (v := .ref (G.1 11)) rfl dX8_mark_52 ?_
        refine lv_iconst (v := 0) hx hb dX8_mark_55 (by decide) ?_
        refine lv_iload_n hx hb dX8_mark_56 rfl (lv_at hl 2 rfl) ?_
        refine lv_iadd hx hb dX8_mark_57 ?_
        refine xialdN ha hP 11 (by decide) (cM_11 G _) (0 + (ix k)) (nadd (rfl : (0 : Int32) = nI 0) (ix_nI (by omega))) (by have q_0 := ix_toInt (show (0 : Int) ≤ (k).toInt by omega); omega) (by decide) dX8_mark_58 ?_
        refine lv_istore (lv' := [(4, .int (σ 11 (0 + (ix k)))), (3, .int (a_bearsNow (pM σ) (sM σ 11) k)), (0, .ref (G.1 0)), (1, .int k), (2, .int kind)]) hx hb dX8_mark_59 hl (by decide) rfl (fun ls hl => ?_)
        refine lv_iload_n hx hb dX8_mark_61 rfl (lv_at hl 4 rfl) ?_
        by_cases c_4 : kind = 1
        · refine lv_tableIn (tgt := 92) hx hb dX8_mark_62 (by rw [c_4]; decide) (by rw [c_4]; decide) (off := 30) (by rw [c_4]; rfl) (by decide) ?_
          refine lv_aload_n hx hb dX8_mark_92 rfl (lv_at hl 2 rfl) ?_
          refine lv_iconst (v := 0) hx hb dX8_mark_93 (by decide) ?_
          refine lv_iload_n hx hb dX8_mark_94 rfl (lv_at hl 3 rfl) ?_
          refine lv_iload hx hb dX8_mark_95 (lv_at hl 0 rfl) ?_
          refine xVi ha hP hS (y := yX8_bearsAs) (As := [.int 0, .int k, .int (σ 11 (0 + (ix k)))]) (rest := []) 0 (by decide) (cM_0 G _) rfl rfl (c_X8_bearsAs G l σ (pM σ) 0 k (σ 11 (0 + (ix k))) hpb rfl (by first | assumption | omega)) kw_X8_173 hd_X8_bearsAs rfl ⟨rfl, rfl⟩ ⟨Nat.le_of_ble_eq_true rfl, Nat.le_of_ble_eq_true rfl⟩ ⟨Nat.zero_le _, Nat.zero_le _⟩ hl.1 (Nat.le_of_ble_eq_true rfl) rfl dX8_mark_97 (fun r u H locs hpq hP hS => ?_)
          obtain ⟨hr_, hu_⟩ := hpq
          have hr_ := hr_.symm
          have hu_ := hu_.symm
          subst hr_
          subst hu_
          refine lv_iload_n hx hb dX8_mark_100 rfl (lv_at hl 1 rfl) ?_
          refine lv_isub hx hb dX8_mark_101 ?_
          exact xiret ha hP hS dX8_mark_102 ⟨by rw [n_mark, if_pos (by assumption), if_pos (by assumption), if_pos (by assumption)] <;> simp [b_mark, b_as, pM, t_1, t_2, t_3, c_4], (by rw [n_mark, if_pos (by assumption), if_pos (by assumption), if_pos (by assumption)] <;> simp [b_mark, b_as, pM, t_1, t_2, t_3, c_4])⟩ rfl
        by_cases c_5 : kind = 2
        · refine lv_tableIn (tgt := 103) hx hb dX8_mark_62 (by rw [c_5]; decide) (by rw [c_5]; decide) (off := 41) (by rw [c_5]; rfl) (by decide) ?_
          refine lv_iload_n hx hb dX8_mark_103 rfl (lv_at hl 1 rfl) ?_
          refine lv_aload_n hx hb dX8_mark_104 rfl (lv_at hl 2 rfl) ?_
          refine lv_iconst (v := 0) hx hb dX8_mark_105 (by decide) ?_
          refine lv_iload_n hx hb dX8_mark_106 rfl (lv_at hl 3 rfl) ?_
          refine lv_iload hx hb dX8_mark_107 (lv_at hl 0 rfl) ?_
          refine xVi ha hP hS (y := yX8_bearsAs) (As := [.int 0, .int k, .int (σ 11 (0 + (ix k)))]) (rest := [.int (a_bearsNow (pM σ) (sM σ 11) k)]) 0 (by decide) (cM_0 G _) rfl rfl (c_X8_bearsAs G l σ (pM σ) 0 k (σ 11 (0 + (ix k))) hpb rfl (by first | assumption | omega)) kw_X8_173 hd_X8_bearsAs rfl ⟨rfl, rfl⟩ ⟨Nat.le_of_ble_eq_true rfl, Nat.le_of_ble_eq_true rfl⟩ ⟨Nat.zero_le _, Nat.zero_le _⟩ hl.1 (Nat.le_of_ble_eq_true rfl) rfl dX8_mark_109 (fun r u H locs hpq hP hS => ?_)
          obtain ⟨hr_, hu_⟩ := hpq
          have hr_ := hr_.symm
          have hu_ := hu_.symm
          subst hr_
          subst hu_
          refine lv_isub hx hb dX8_mark_112 ?_
          refine lv_bipush (v := 100) hx hb dX8_mark_113 (by decide) ?_
          refine lv_iadd hx hb dX8_mark_115 ?_
          exact xiret ha hP hS dX8_mark_116 ⟨by rw [n_mark, if_pos (by assumption), if_pos (by assumption), if_pos (by assumption)] <;> simp [b_mark, b_as, pM, t_1, t_2, t_3, c_4, c_5], (by rw [n_mark, if_pos (by assumption), if_pos (by assumption), if_pos (by assumption)] <;> simp [b_mark, b_as, pM, t_1, t_2, t_3, c_4, c_5])⟩ rfl
        by_cases c_6 : kind = 3
        · refine lv_tableIn (tgt := 117) hx hb dX8_mark_62 (by rw [c_6]; decide) (by rw [c_6]; decide) (off := 55) (by rw [c_6]; rfl) (by decide) ?_
          refine lv_aload_n hx hb dX8_mark_117 rfl (lv_at hl 2 rfl) ?_
          refine lv_iconst (v := 2) hx hb dX8_mark_118 (by decide) ?_
          refine lv_iload_n hx hb dX8_mark_119 rfl (lv_at hl 3 rfl) ?_
          refine lv_iload hx hb dX8_mark_120 (lv_at hl 0 rfl) ?_
          refine xVi ha hP hS (y := yX8_bearsAs) (As := [.int 2, .int k, .int (σ 11 (0 + (ix k)))]) (rest := []) 0 (by decide) (cM_0 G _) rfl rfl (c_X8_bearsAs G l σ (pM σ) 2 k (σ 11 (0 + (ix k))) hpb rfl (by first | assumption | omega)) kw_X8_173 hd_X8_bearsAs rfl ⟨rfl, rfl⟩ ⟨Nat.le_of_ble_eq_true rfl, Nat.le_of_ble_eq_true rfl⟩ ⟨Nat.zero_le _, Nat.zero_le _⟩ hl.1 (Nat.le_of_ble_eq_true rfl) rfl dX8_mark_122 (fun r u H locs hpq hP hS => ?_)
          obtain ⟨hr_, hu_⟩ := hpq
          have hr_ := hr_.symm
          have hu_ := hu_.symm
          subst hr_
          subst hu_
          refine lv_iload_n hx hb dX8_mark_125 rfl (lv_at hl 1 rfl) ?_
          refine lv_isub hx hb dX8_mark_126 ?_
          exact xiret ha hP hS dX8_mark_127 ⟨by rw [n_mark, if_pos (by assumption), if_pos (by assumption), if_pos (by assumption)] <;> simp [b_mark, b_as, pM, t_1, t_2, t_3, c_4, c_5, c_6], (by rw [n_mark, if_pos (by assumption), if_pos (by assumption), if_pos (by assumption)] <;> simp [b_mark, b_as, pM, t_1, t_2, t_3, c_4, c_5, c_6])⟩ rfl
        by_cases c_7 : kind = 4
        · refine lv_tableIn (tgt := 128) hx hb dX8_mark_62 (by rw [c_7]; decide) (by rw [c_7]; decide) (off := 66) (by rw [c_7]; rfl) (by decide) ?_
          refine lv_iload_n hx hb dX8_mark_128 rfl (lv_at hl 1 rfl) ?_
          refine lv_aload_n hx hb dX8_mark_129 rfl (lv_at hl 2 rfl) ?_
          refine lv_iconst (v := 2) hx hb dX8_mark_130 (by decide) ?_
          refine lv_iload_n hx hb dX8_mark_131 rfl (lv_at hl 3 rfl) ?_
          refine lv_iload hx hb dX8_mark_132 (lv_at hl 0 rfl) ?_
          refine xVi ha hP hS (y := yX8_bearsAs) (As := [.int 2, .int k, .int (σ 11 (0 + (ix k)))]) (rest := [.int (a_bearsNow (pM σ) (sM σ 11) k)]) 0 (by decide) (cM_0 G _) rfl rfl (c_X8_bearsAs G l σ (pM σ) 2 k (σ 11 (0 + (ix k))) hpb rfl (by first | assumption | omega)) kw_X8_173 hd_X8_bearsAs rfl ⟨rfl, rfl⟩ ⟨Nat.le_of_ble_eq_true rfl, Nat.le_of_ble_eq_true rfl⟩ ⟨Nat.zero_le _, Nat.zero_le _⟩ hl.1 (Nat.le_of_ble_eq_true rfl) rfl dX8_mark_134 (fun r u H locs hpq hP hS => ?_)
          obtain ⟨hr_, hu_⟩ := hpq
          have hr_ := hr_.symm
          have hu_ := hu_.symm
          subst hr_
          subst hu_
          refine lv_isub hx hb dX8_mark_137 ?_
          exact xiret ha hP hS dX8_mark_138 ⟨by rw [n_mark, if_pos (by assumption), if_pos (by assumption), if_pos (by assumption)] <;> simp [b_mark, b_as, pM, t_1, t_2, t_3, c_4, c_5, c_6, c_7], (by rw [n_mark, if_pos (by assumption), if_pos (by assumption), if_pos (by assumption)] <;> simp [b_mark, b_as, pM, t_1, t_2, t_3, c_4, c_5, c_6, c_7])⟩ rfl
        have t_4 := i_ne c_4
        have t_5 := i_ne c_5
        have t_6 := i_ne c_6
        have t_7 := i_ne c_7
        have kk_4 : (1 : Int32).toInt = 1 := by decide
        have kk_5 : (2 : Int32).toInt = 2 := by decide
        have kk_6 : (3 : Int32).toInt = 3 := by decide
        have kk_7 : (4 : Int32).toInt = 4 := by decide
        refine lv_tableOut (tgt := 139) hx hb dX8_mark_62 (by omega) (by decide) ?_
        refine lv_iload_n hx hb dX8_mark_139 rfl (lv_at hl 1 rfl) ?_
        refine lv_aload_n hx hb dX8_mark_140 rfl (lv_at hl 2 rfl) ?_
        refine lv_iconst (v := 1) hx hb dX8_mark_141 (by decide) ?_
        refine lv_iload_n hx hb dX8_mark_142 rfl (lv_at hl 3 rfl) ?_
        refine lv_iload hx hb dX8_mark_143 (lv_at hl 0 rfl) ?_
        refine xVi ha hP hS (y := yX8_bearsAs) (As := [.int 1, .int k, .int (σ 11 (0 + (ix k)))]) (rest := [.int (a_bearsNow (pM σ) (sM σ 11) k)]) 0 (by decide) (cM_0 G _) rfl rfl (c_X8_bearsAs G l σ (pM σ) 1 k (σ 11 (0 + (ix k))) hpb rfl (by first | assumption | omega)) kw_X8_173 hd_X8_bearsAs rfl ⟨rfl, rfl⟩ ⟨Nat.le_of_ble_eq_true rfl, Nat.le_of_ble_eq_true rfl⟩ ⟨Nat.zero_le _, Nat.zero_le _⟩ hl.1 (Nat.le_of_ble_eq_true rfl) rfl dX8_mark_145 (fun r u H locs hpq hP hS => ?_)
        obtain ⟨hr_, hu_⟩ := hpq
        have hr_ := hr_.symm
        have hu_ := hu_.symm
        subst hr_
        subst hu_
        refine lv_isub hx hb dX8_mark_148 ?_
        exact xiret ha hP hS dX8_mark_149 ⟨by rw [n_mark, if_pos (by assumption), if_pos (by assumption), if_pos (by assumption)] <;> simp [b_mark, b_as, pM, t_1, t_2, t_3, c_4, c_5, c_6, c_7], (by rw [n_mark, if_pos (by assumption), if_pos (by assumption), if_pos (by assumption)] <;> simp [b_mark, b_as, pM, t_1, t_2, t_3, c_4, c_5, c_6, c_7])⟩ rfl
      · have t_3 := b2i_f c_3
        refine lv_aload_n hx hb dX8_mark_35 rfl (lv_at hl 0 rfl) ?_
        refine lv_iconst (v := 3) hx hb dX8_mark_36 (by decide) ?_
        refine xVi ha hP hS (y := yX8_found) (As := [.int 3]) (rest := []) 0 (by decide) (cM_0 G _) rfl rfl (c_X8_found G l σ 3 (by decide)) kw_X8_105 hd_X8_found rfl ⟨rfl, rfl⟩ ⟨Nat.le_of_ble_eq_true rfl, Nat.le_of_ble_eq_true rfl⟩ ⟨Nat.zero_le _, Nat.zero_le _⟩ hl.1 (Nat.le_of_ble_eq_true rfl) rfl dX8_mark_37 (fun r u H locs hpq hP hS => ?_)
        obtain ⟨hr_, hu_⟩ := hpq
        have hr_ := hr_.symm
        have hu_ := hu_.symm
        subst hr_
        subst hu_
        exact xiret ha hP hS dX8_mark_40 ⟨by simp [n_mark, b_mark, b_as, pM, t_1, t_2, t_3, i_leN, -Int32.not_lt], (by simp [n_mark, b_mark, b_as, pM, t_1, t_2, t_3, i_leN, -Int32.not_lt])⟩ rfl
    · have t_2 := b2i_f c_2
      have f_2 := bin_f t_2
      try simp only [Int32.toInt_toInt64, ll_0, ll_1, ll_2, ll_3, ll_4, ll_5, ll_9, ll_12, ll_20, ll_40, ll_57, ll_99, ll_2147483646] at f_2
      refine lv_iconst (v := (-1)) hx hb dX8_mark_20 (by decide) ?_
      exact xiret ha hP hS dX8_mark_21 ⟨by simp [n_mark, b_mark, b_as, pM, t_1, t_2, i_leN, -Int32.not_lt], (by simp [n_mark, b_mark, b_as, pM, t_1, t_2, i_leN, -Int32.not_lt])⟩ rfl
set_option maxHeartbeats 4000000 in
set_option maxRecDepth 100000 in
theorem c_X8_bears (G : GT) (l : Launch) (σ : Mem) (k : Int32) (wear : Int32) (hpb : PB (pM σ)) : CI G 24 (cM G) l yX8_bears ({ frames := 2, cells := 0, slots := 0, locals := 49 } : Room) cX8_bears 3 (some .int) [.ref (G.1 0), .int k, .int wear] σ (fun (r : Int32) u => r = n_bears σ k wear ∧ u = σ) := by
  intro sz
  refine xbegin (by decide) (Nat.le_of_ble_eq_true rfl) ?_
  intro p e s m below meth c ls hsz ha hP hl
  subst hsz
  have hx := ha.1
  have hb := ha.2.1
  have hS : va_S (xA G 24 s.heap.size) s.heap s.heap [] := va_S.rf
  have hl : lv_has ls 3 [(0, .ref (G.1 0)), (1, .int k), (2, .int wear)] := hl
  have k_m1 : (-1 : Int32).toInt = -1 := by decide
  have k_0 : (0 : Int32).toInt = 0 := by decide
  have k_4 : (4 : Int32).toInt = 4 := by decide
  have k_5 : (5 : Int32).toInt = 5 := by decide
  have k_6 : (6 : Int32).toInt = 6 := by decide
  have hPL := PB_pl hpb
  have hPE := PB_pe hpb
  have hp4 := PV_pl hpb (rfl : pM σ = pM σ)
  have hp5 := PV_pe hpb (rfl : pM σ = pM σ)
  refine lv_aload_n hx hb dX8_bears_0 rfl (lv_at hl 0 rfl) ?_
  refine lv_iload_n hx hb dX8_bears_1 rfl (lv_at hl 1 rfl) ?_
  refine xVi ha hP hS (y := yX8_isPole) (As := [.int k]) (rest := []) 0 (by decide) (cM_0 G _) rfl rfl (c_X8_isPole G l σ (pM σ) k hpb rfl) kw_X8_206 hd_X8_isPole rfl ⟨rfl, rfl⟩ ⟨Nat.le_of_ble_eq_true rfl, Nat.le_of_ble_eq_true rfl⟩ ⟨Nat.zero_le _, Nat.zero_le _⟩ hl.1 (Nat.le_of_ble_eq_true rfl) rfl dX8_bears_2 (fun r u H locs hpq hP hS => ?_)
  obtain ⟨hr_, hu_⟩ := hpq
  have hr_ := hr_.symm
  have hu_ := hu_.symm
  subst hr_
  subst hu_
  refine lv_if_eq (tgt := 35) hx hb dX8_bears_5 (by decide) (fun c_1 => ?_) (fun c_1 => ?_)
  · have t_1 := b2i_f c_1
    refine lv_iconst (v := (-1)) hx hb dX8_bears_35 (by decide) ?_
    exact xiret ha hP hS dX8_bears_36 ⟨by simp [n_bears, b_as, pM, t_1, i_leN, -Int32.not_lt], rfl⟩ rfl
  · have t_1 := b2i_t c_1
    have f_1 := isPole_t t_1
    refine lv_iload_n hx hb dX8_bears_8 rfl (lv_at hl 2 rfl) ?_
    refine lv_i2l (v := wear.toInt64) hx hb dX8_bears_9 rfl ?_
    refine lv_lconst (v := 0) hx hb dX8_bears_10 (by decide) ?_
    refine lv_ldc2 (v := 20) hx hb ha.2.2.2.1 (ha.2.2.2.2.1 _ (tb_in (w := .constantLong RX8 215 20) (by decide +kernel))) dX8_bears_11 ?_
    refine xSi ha hP hS (y := yX8_in) (As := [.long wear.toInt64, .long 0, .long 20]) (rest := []) rfl (c_X8_in G l σ wear.toInt64 0 20 ) kw_X8_95 hd_X8_in rfl ⟨rfl, rfl⟩ ⟨Nat.le_of_ble_eq_true rfl, Nat.le_of_ble_eq_true rfl⟩ ⟨Nat.zero_le _, Nat.zero_le _⟩ hl.1 (Nat.le_of_ble_eq_true rfl) rfl dX8_bears_14 (fun r u H locs hpq hP hS => ?_)
    obtain ⟨hr_, hu_⟩ := hpq
    have hr_ := hr_.symm
    have hu_ := hu_.symm
    subst hr_
    subst hu_
    refine lv_if_eq (tgt := 35) hx hb dX8_bears_17 (by decide) (fun c_2 => ?_) (fun c_2 => ?_)
    · have t_2 := b2i_f c_2
      have f_2 := bin_f t_2
      try simp only [Int32.toInt_toInt64, ll_0, ll_1, ll_2, ll_3, ll_4, ll_5, ll_9, ll_12, ll_20, ll_40, ll_57, ll_99, ll_2147483646] at f_2
      refine lv_iconst (v := (-1)) hx hb dX8_bears_35 (by decide) ?_
      exact xiret ha hP hS dX8_bears_36 ⟨by simp [n_bears, b_as, pM, t_1, t_2, i_leN, -Int32.not_lt], rfl⟩ rfl
    · have t_2 := b2i_t c_2
      have f_2 := bin_t t_2
      try simp only [Int32.toInt_toInt64, ll_0, ll_1, ll_2, ll_3, ll_4, ll_5, ll_9, ll_12, ll_20, ll_40, ll_57, ll_99, ll_2147483646] at f_2
      refine lv_aload_n hx hb dX8_bears_20 rfl (lv_at hl 0 rfl) ?_
      refine lv_aload_n hx hb dX8_bears_21 rfl (lv_at hl 0 rfl) ?_
      refine g8_29 ha hP 0 (by decide) (cM_0 G _) (v := .ref (G.1 6)) rfl dX8_bears_22 ?_
      refine lv_iload_n hx hb dX8_bears_25 rfl (lv_at hl 1 rfl) ?_
      refine xialdN ha hP 6 (by decide) (cM_6 G _) (ix k) (ix_nI (by omega)) (ix_lt (by omega) (by omega)) (by decide) dX8_bears_26 ?_
      refine lv_iload_n hx hb dX8_bears_27 rfl (lv_at hl 1 rfl) ?_
      refine lv_iload_n hx hb dX8_bears_28 rfl (lv_at hl 2 rfl) ?_
      refine xVi ha hP hS (y := yX8_bearsAs) (As := [.int (σ 6 (ix k)), .int k, .int wear]) (rest := []) 0 (by decide) (cM_0 G _) rfl rfl (c_X8_bearsAs G l σ (pM σ) (σ 6 (ix k)) k wear hpb rfl (by first | assumption | omega)) kw_X8_173 hd_X8_bearsAs rfl ⟨rfl, rfl⟩ ⟨Nat.le_of_ble_eq_true rfl, Nat.le_of_ble_eq_true rfl⟩ ⟨Nat.zero_le _, Nat.zero_le _⟩ hl.1 (Nat.le_of_ble_eq_true rfl) rfl dX8_bears_29 (fun r u H locs hpq hP hS => ?_)
      obtain ⟨hr_, hu_⟩ := hpq
      have hr_ := hr_.symm
      have hu_ := hu_.symm
      subst hr_
      subst hu_
      refine lv_goto (tgt := 36) hx hb dX8_bears_32 (by decide) ?_
      exact xiret ha hP hS dX8_bears_36 ⟨by simp [n_bears, b_as, pM, t_1, t_2, i_leN, -Int32.not_lt], rfl⟩ rfl
set_option maxHeartbeats 4000000 in
set_option maxRecDepth 100000 in
theorem c_X8_remember (G : GT) (l : Launch) (σ : Mem)  (hd4 : 0 ≤ (σ 0 6).toInt ∧ (σ 0 6).toInt < 40) : CV G 24 (cM G) l yX8_remember ({ frames := 1, cells := 0, slots := 0, locals := 25 } : Room) cX8_remember 1 none [.ref (G.1 0)] σ (fun u => u = w_rem σ) := by
  intro sz
  refine xbegin (by decide) (Nat.le_of_ble_eq_true rfl) ?_
  intro p e s m below meth c ls hsz ha hP hl
  subst hsz
  have hx := ha.1
  have hb := ha.2.1
  have hS : va_S (xA G 24 s.heap.size) s.heap s.heap [] := va_S.rf
  have hl : lv_has ls 1 [(0, .ref (G.1 0))] := hl
  have k_0 : (0 : Int32).toInt = 0 := by decide
  have k_1 : (1 : Int32).toInt = 1 := by decide
  have k_4 : (4 : Int32).toInt = 4 := by decide
  have k_5 : (5 : Int32).toInt = 5 := by decide
  have k_6 : (6 : Int32).toInt = 6 := by decide
  have k_12 : (12 : Int32).toInt = 12 := by decide
  refine lv_aload_n hx hb dX8_remember_0 rfl (lv_at hl 0 rfl) ?_
  refine g8_44 ha hP 0 (by decide) (cM_0 G _) (v := .ref (G.1 11)) rfl dX8_remember_1 ?_
  refine lv_iconst (v := 0) hx hb dX8_remember_4 (by decide) ?_
  refine lv_aload_n hx hb dX8_remember_5 rfl (lv_at hl 0 rfl) ?_
  refine g8_50 ha hP 0 (by decide) (cM_0 G _) (v := .ref (G.1 13)) rfl dX8_remember_6 ?_
  refine lv_bipush (v := 12) hx hb dX8_remember_9 (by decide) ?_
  refine lv_aload_n hx hb dX8_remember_11 rfl (lv_at hl 0 rfl) ?_
  refine g8_117 ha hP 0 (by decide) (cM_0 G _) (v := .int (σ 0 6)) rfl dX8_remember_12 ?_
  refine lv_imul hx hb dX8_remember_15 ?_
  refine lv_bipush (v := 12) hx hb dX8_remember_16 (by decide) ?_
  refine xSv ha hP hS (y := yX8_copies) (As := [.ref (G.1 11), .int 0, .ref (G.1 13), .int (12 * (σ 0 6)), .int 12]) (rest := []) rfl (c_X8_copies G l σ 11 13 12 480 0 (12 * (ix (σ 0 6))) 12 0 (12 * (σ 0 6)) 12 (by decide) (by decide) (by decide) (fun τ => cM_11 G τ) (fun τ => cM_13 G τ) (by decide) (by decide) (rfl : (0 : Int32) = nI 0) (nmul (rfl : (12 : Int32) = nI 12) (ix_nI (by omega))) (rfl : (12 : Int32) = nI 12) (by omega) (by have q_0 := ix_toInt (show (0 : Int) ≤ (σ 0 6).toInt by omega); omega)) kw_X8_202 hd_X8_copies rfl ⟨rfl, rfl⟩ ⟨Nat.le_of_ble_eq_true rfl, Nat.le_of_ble_eq_true rfl⟩ ⟨Nat.zero_le _, Nat.zero_le _⟩ hl.1 (Nat.le_of_ble_eq_true rfl) rfl dX8_remember_18 (fun u H locs hpq hP hS => ?_)
  have hpq := hpq.symm
  subst hpq
  refine lv_aload_n hx hb dX8_remember_21 rfl (lv_at hl 0 rfl) ?_
  refine lv_dup hx hb dX8_remember_22 rfl ?_
  refine g8_117 ha hP 0 (by decide) (cM_0 G _) (v := .int (σ 0 6)) rfl dX8_remember_23 ?_
  refine lv_iconst (v := 1) hx hb dX8_remember_26 (by decide) ?_
  refine lv_iadd hx hb dX8_remember_27 ?_
  refine p8_117 ha hP hS (cM_loc G) 0 (by decide) (cM_0 G _) (x := ((σ 0 6) + 1)) (Nat.le_of_ble_eq_true rfl) (mU (mG σ 13 (12 * (ix (σ 0 6))) 12 (fun z => σ 11 (0 + z))) 0 6 ((σ 0 6) + 1)) (fun q hq => mU_n _ _ _ hq) (cM_p0_6 G _ _) dX8_remember_28 (fun H locs hP hS => ?_)
  exact xvret ha hP hS dX8_remember_31 (by rfl)
set_option maxHeartbeats 4000000 in
set_option maxRecDepth 100000 in
theorem c_X8_sit (G : GT) (l : Launch) (σ : Mem) (i : Int32) (k : Int32) (hpb : PB (pM σ)) (hd : DM σ) : CI G 24 (cM G) l yX8_sit ({ frames := 2, cells := 0, slots := 0, locals := 46 } : Room) cX8_sit 3 (some .int) [.ref (G.1 0), .int i, .int k] σ (fun (r : Int32) u => r = (n_sit σ i k).1 ∧ u = (n_sit σ i k).2) := by
  intro sz
  refine xbegin (by decide) (Nat.le_of_ble_eq_true rfl) ?_
  intro p e s m below meth c ls hsz ha hP hl
  subst hsz
  have hx := ha.1
  have hb := ha.2.1
  have hS : va_S (xA G 24 s.heap.size) s.heap s.heap [] := va_S.rf
  have hl : lv_has ls 3 [(0, .ref (G.1 0)), (1, .int i), (2, .int k)] := hl
  have k_m9 : (-9 : Int32).toInt = -9 := by decide
  have k_m4 : (-4 : Int32).toInt = -4 := by decide
  have k_m2 : (-2 : Int32).toInt = -2 := by decide
  have k_m1 : (-1 : Int32).toInt = -1 := by decide
  have k_0 : (0 : Int32).toInt = 0 := by decide
  have k_4 : (4 : Int32).toInt = 4 := by decide
  have k_5 : (5 : Int32).toInt = 5 := by decide
  have k_6 : (6 : Int32).toInt = 6 := by decide
  have k_40 : (40 : Int32).toInt = 40 := by decide
  have hPL := PB_pl hpb
  have hPE := PB_pe hpb
  have hp4 := PV_pl hpb (rfl : pM σ = pM σ)
  have hp5 := PV_pe hpb (rfl : pM σ = pM σ)
  have hdm : 0 ≤ (σ 0 6).toInt ∧ (σ 0 6).toInt ≤ 40 := hd
  refine lv_aload_n hx hb dX8_sit_0 rfl (lv_at hl 0 rfl) ?_
  refine lv_iload_n hx hb dX8_sit_1 rfl (lv_at hl 1 rfl) ?_
  refine xVi ha hP hS (y := yX8_isOne) (As := [.int i]) (rest := []) 0 (by decide) (cM_0 G _) rfl rfl (c_X8_isOne G l σ (pM σ) i hpb rfl) kw_X8_209 hd_X8_isOne rfl ⟨rfl, rfl⟩ ⟨Nat.le_of_ble_eq_true rfl, Nat.le_of_ble_eq_true rfl⟩ ⟨Nat.zero_le _, Nat.zero_le _⟩ hl.1 (Nat.le_of_ble_eq_true rfl) rfl dX8_sit_2 (fun r u H locs hpq hP hS => ?_)
  obtain ⟨hr_, hu_⟩ := hpq
  have hr_ := hr_.symm
  have hu_ := hu_.symm
  subst hr_
  subst hu_
  refine lv_if_eq (tgt := 16) hx hb dX8_sit_5 (by decide) (fun c_1 => ?_) (fun c_1 => ?_)
  · have t_1 := b2i_f c_1
    refine lv_iconst (v := (-1)) hx hb dX8_sit_16 (by decide) ?_
    exact xiret ha hP hS dX8_sit_17 ⟨by simp [n_sit, u_sit, t_1, i_leN, -Int32.not_lt], (by simp [n_sit, u_sit, t_1, i_leN, -Int32.not_lt])⟩ rfl
  · have t_1 := b2i_t c_1
    have f_1 := isOne_t t_1
    refine lv_aload_n hx hb dX8_sit_8 rfl (lv_at hl 0 rfl) ?_
    refine lv_iload_n hx hb dX8_sit_9 rfl (lv_at hl 2 rfl) ?_
    refine xVi ha hP hS (y := yX8_isPole) (As := [.int k]) (rest := []) 0 (by decide) (cM_0 G _) rfl rfl (c_X8_isPole G l σ (pM σ) k hpb rfl) kw_X8_206 hd_X8_isPole rfl ⟨rfl, rfl⟩ ⟨Nat.le_of_ble_eq_true rfl, Nat.le_of_ble_eq_true rfl⟩ ⟨Nat.zero_le _, Nat.zero_le _⟩ hl.1 (Nat.le_of_ble_eq_true rfl) rfl dX8_sit_10 (fun r u H locs hpq hP hS => ?_)
    obtain ⟨hr_, hu_⟩ := hpq
    have hr_ := hr_.symm
    have hu_ := hu_.symm
    subst hr_
    subst hu_
    refine lv_if_ne (tgt := 18) hx hb dX8_sit_13 (by decide) (fun c_2 => ?_) (fun c_2 => ?_)
    · have t_2 := b2i_t c_2
      have f_2 := isPole_t t_2
      refine lv_aload_n hx hb dX8_sit_18 rfl (lv_at hl 0 rfl) ?_
      refine g8_44 ha hP 0 (by decide) (cM_0 G _) (v := .ref (G.1 11)) rfl dX8_sit_19 ?_
      refine lv_iconst (v := 5) hx hb dX8_sit_22 (by decide) ?_
      refine lv_iload_n hx hb dX8_sit_23 rfl (lv_at hl 1 rfl) ?_
      refine lv_iadd hx hb dX8_sit_24 ?_
      refine xialdN ha hP 11 (by decide) (cM_11 G _) (5 + (ix i)) (nadd (rfl : (5 : Int32) = nI 5) (ix_nI (by omega))) (by have q_0 := ix_toInt (show (0 : Int) ≤ (i).toInt by omega); omega) (by decide) dX8_sit_25 ?_
      refine lv_bipush (v := (-9)) hx hb dX8_sit_26 (by decide) ?_
      refine lv_icmp_ne (tgt := 42) hx hb dX8_sit_28 (by decide) (fun c_3 => ?_) (fun c_3 => ?_)
      · have t_3 := i_ne c_3
        refine lv_bipush (v := (-4)) hx hb dX8_sit_42 (by decide) ?_
        exact xiret ha hP hS dX8_sit_44 ⟨by simp [n_sit, u_sit, t_1, t_2, c_3, i_leN, -Int32.not_lt], (by simp [n_sit, u_sit, t_1, t_2, c_3, i_leN, -Int32.not_lt])⟩ rfl
      · have t_3 := i_eq c_3
        refine lv_aload_n hx hb dX8_sit_31 rfl (lv_at hl 0 rfl) ?_
        refine g8_44 ha hP 0 (by decide) (cM_0 G _) (v := .ref (G.1 11)) rfl dX8_sit_32 ?_
        refine lv_iload_n hx hb dX8_sit_35 rfl (lv_at hl 2 rfl) ?_
        refine xSi ha hP hS (y := yX8_isUp) (As := [.ref (G.1 11), .int k]) (rest := []) rfl (c_X8_isUp G l σ (pM σ) 11 k hpb rfl (by unfold oT; omega) (by first | assumption | omega)) kw_X8_192 hd_X8_isUp rfl ⟨rfl, rfl⟩ ⟨Nat.le_of_ble_eq_true rfl, Nat.le_of_ble_eq_true rfl⟩ ⟨Nat.zero_le _, Nat.zero_le _⟩ hl.1 (Nat.le_of_ble_eq_true rfl) rfl dX8_sit_36 (fun r u H locs hpq hP hS => ?_)
        obtain ⟨hr_, hu_⟩ := hpq
        have hr_ := hr_.symm
        have hu_ := hu_.symm
        subst hr_
        subst hu_
        refine lv_if_ne (tgt := 45) hx hb dX8_sit_39 (by decide) (fun c_4 => ?_) (fun c_4 => ?_)
        · have t_4 := b2i_t c_4
          refine lv_aload_n hx hb dX8_sit_45 rfl (lv_at hl 0 rfl) ?_
          refine g8_117 ha hP 0 (by decide) (cM_0 G _) (v := .int (σ 0 6)) rfl dX8_sit_46 ?_
          refine lv_bipush (v := 40) hx hb dX8_sit_49 (by decide) ?_
          refine lv_icmp_ne (tgt := 57) hx hb dX8_sit_51 (by decide) (fun c_5 => ?_) (fun c_5 => ?_)
          · have t_5 := i_ne c_5
            refine lv_aload_n hx hb dX8_sit_57 rfl (lv_at hl 0 rfl) ?_
            refine xVv ha hP hS (y := yX8_remember) (As := []) (rest := []) 0 (by decide) (cM_0 G _) rfl rfl (c_X8_remember G l σ  (by first | assumption | omega)) kw_X8_217 hd_X8_remember rfl ⟨rfl, rfl⟩ ⟨Nat.le_of_ble_eq_true rfl, Nat.le_of_ble_eq_true rfl⟩ ⟨Nat.zero_le _, Nat.zero_le _⟩ hl.1 (Nat.le_of_ble_eq_true rfl) rfl dX8_sit_58 (fun u H locs hpq hP hS => ?_)
            have hpq := hpq.symm
            subst hpq
            refine lv_aload_n hx hb dX8_sit_61 rfl (lv_at hl 0 rfl) ?_
            refine g8_44 ha hP 0 (by decide) (cM_0 G _) (v := .ref (G.1 11)) rfl dX8_sit_62 ?_
            refine lv_iconst (v := 5) hx hb dX8_sit_65 (by decide) ?_
            refine lv_iload_n hx hb dX8_sit_66 rfl (lv_at hl 1 rfl) ?_
            refine lv_iadd hx hb dX8_sit_67 ?_
            refine lv_iload_n hx hb dX8_sit_68 rfl (lv_at hl 2 rfl) ?_
            refine xiastN ha hP hS (cM_loc G) 11 (by decide) (fun τ => cM_11 G τ) (5 + (ix i)) (nadd (rfl : (5 : Int32) = nI 5) (ix_nI (by omega))) (by have q_0 := ix_toInt (show (0 : Int) ≤ (i).toInt by omega); omega) (by decide) dX8_sit_69 (fun H locs hP hS => ?_)
            refine lv_aload_n hx hb dX8_sit_70 rfl (lv_at hl 0 rfl) ?_
            refine lv_aload_n hx hb dX8_sit_71 rfl (lv_at hl 0 rfl) ?_
            refine g8_44 ha hP 0 (by decide) (cM_0 G _) (v := .ref (G.1 11)) rfl dX8_sit_72 ?_
            refine lv_iload_n hx hb dX8_sit_75 rfl (lv_at hl 2 rfl) ?_
            refine xVi ha hP hS (y := yX8_loadOn) (As := [.ref (G.1 11), .int k]) (rest := []) 0 (by decide) (cM_0 G _) rfl rfl (c_X8_loadOn G l (mU (w_rem σ) 11 (5 + (ix i)) k) (pM σ) 11 k hpb ((pM_mU _ _ _ (by decide)).trans ((pM_rem _).trans rfl)) (by unfold oT; omega) (by first | assumption | omega)) kw_X8_185 hd_X8_loadOn rfl ⟨rfl, rfl⟩ ⟨Nat.le_of_ble_eq_true rfl, Nat.le_of_ble_eq_true rfl⟩ ⟨Nat.zero_le _, Nat.zero_le _⟩ hl.1 (Nat.le_of_ble_eq_true rfl) rfl dX8_sit_76 (fun r u H locs hpq hP hS => ?_)
            obtain ⟨hr_, hu_⟩ := hpq
            have hr_ := hr_.symm
            have hu_ := hu_.symm
            subst hr_
            subst hu_
            exact xiret ha hP hS dX8_sit_79 ⟨by simp [n_sit, u_sit, t_1, t_2, c_3, t_4, c_5, i_leN, -Int32.not_lt], (by simp [n_sit, u_sit, t_1, t_2, c_3, t_4, c_5, i_leN, -Int32.not_lt])⟩ rfl
          · have t_5 := i_eq c_5
            refine lv_bipush (v := (-2)) hx hb dX8_sit_54 (by decide) ?_
            exact xiret ha hP hS dX8_sit_56 ⟨by simp [n_sit, u_sit, t_1, t_2, c_3, t_4, c_5, i_leN, -Int32.not_lt], (by simp [n_sit, u_sit, t_1, t_2, c_3, t_4, c_5, i_leN, -Int32.not_lt])⟩ rfl
        · have t_4 := b2i_f c_4
          refine lv_bipush (v := (-4)) hx hb dX8_sit_42 (by decide) ?_
          exact xiret ha hP hS dX8_sit_44 ⟨by simp [n_sit, u_sit, t_1, t_2, c_3, t_4, i_leN, -Int32.not_lt], (by simp [n_sit, u_sit, t_1, t_2, c_3, t_4, i_leN, -Int32.not_lt])⟩ rfl
    · have t_2 := b2i_f c_2
      refine lv_iconst (v := (-1)) hx hb dX8_sit_16 (by decide) ?_
      exact xiret ha hP hS dX8_sit_17 ⟨by simp [n_sit, u_sit, t_1, t_2, i_leN, -Int32.not_lt], (by simp [n_sit, u_sit, t_1, t_2, i_leN, -Int32.not_lt])⟩ rfl
set_option maxHeartbeats 4000000 in
set_option maxRecDepth 100000 in
theorem c_X8_down (G : GT) (l : Launch) (σ : Mem) (i : Int32) (hpb : PB (pM σ)) (hd : DM σ) (hsv : SV (pM σ) σ 11) : CI G 24 (cM G) l yX8_down ({ frames := 2, cells := 0, slots := 0, locals := 46 } : Room) cX8_down 3 (some .int) [.ref (G.1 0), .int i] σ (fun (r : Int32) u => r = (n_down σ i).1 ∧ u = (n_down σ i).2) := by
  intro sz
  refine xbegin (by decide) (Nat.le_of_ble_eq_true rfl) ?_
  intro p e s m below meth c ls hsz ha hP hl
  subst hsz
  have hx := ha.1
  have hb := ha.2.1
  have hS : va_S (xA G 24 s.heap.size) s.heap s.heap [] := va_S.rf
  have hl : lv_has ls 3 [(0, .ref (G.1 0)), (1, .int i)] := hl
  have k_m9 : (-9 : Int32).toInt = -9 := by decide
  have k_m4 : (-4 : Int32).toInt = -4 := by decide
  have k_m2 : (-2 : Int32).toInt = -2 := by decide
  have k_m1 : (-1 : Int32).toInt = -1 := by decide
  have k_0 : (0 : Int32).toInt = 0 := by decide
  have k_4 : (4 : Int32).toInt = 4 := by decide
  have k_5 : (5 : Int32).toInt = 5 := by decide
  have k_6 : (6 : Int32).toInt = 6 := by decide
  have k_40 : (40 : Int32).toInt = 40 := by decide
  have hPL := PB_pl hpb
  have hPE := PB_pe hpb
  have hp4 := PV_pl hpb (rfl : pM σ = pM σ)
  have hp5 := PV_pe hpb (rfl : pM σ = pM σ)
  have hdm : 0 ≤ (σ 0 6).toInt ∧ (σ 0 6).toInt ≤ 40 := hd
  refine lv_aload_n hx hb dX8_down_0 rfl (lv_at hl 0 rfl) ?_
  refine lv_iload_n hx hb dX8_down_1 rfl (lv_at hl 1 rfl) ?_
  refine xVi ha hP hS (y := yX8_isOne) (As := [.int i]) (rest := []) 0 (by decide) (cM_0 G _) rfl rfl (c_X8_isOne G l σ (pM σ) i hpb rfl) kw_X8_209 hd_X8_isOne rfl ⟨rfl, rfl⟩ ⟨Nat.le_of_ble_eq_true rfl, Nat.le_of_ble_eq_true rfl⟩ ⟨Nat.zero_le _, Nat.zero_le _⟩ hl.1 (Nat.le_of_ble_eq_true rfl) rfl dX8_down_2 (fun r u H locs hpq hP hS => ?_)
  obtain ⟨hr_, hu_⟩ := hpq
  have hr_ := hr_.symm
  have hu_ := hu_.symm
  subst hr_
  subst hu_
  refine lv_if_ne (tgt := 10) hx hb dX8_down_5 (by decide) (fun c_1 => ?_) (fun c_1 => ?_)
  · have t_1 := b2i_t c_1
    have f_1 := isOne_t t_1
    refine lv_aload_n hx hb dX8_down_10 rfl (lv_at hl 0 rfl) ?_
    refine g8_44 ha hP 0 (by decide) (cM_0 G _) (v := .ref (G.1 11)) rfl dX8_down_11 ?_
    refine lv_iconst (v := 5) hx hb dX8_down_14 (by decide) ?_
    refine lv_iload_n hx hb dX8_down_15 rfl (lv_at hl 1 rfl) ?_
    refine lv_iadd hx hb dX8_down_16 ?_
    refine xialdN ha hP 11 (by decide) (cM_11 G _) (5 + (ix i)) (nadd (rfl : (5 : Int32) = nI 5) (ix_nI (by omega))) (by have q_0 := ix_toInt (show (0 : Int) ≤ (i).toInt by omega); omega) (by decide) dX8_down_17 ?_
    refine lv_bipush (v := (-9)) hx hb dX8_down_18 (by decide) ?_
    refine lv_icmp_ne (tgt := 26) hx hb dX8_down_20 (by decide) (fun c_2 => ?_) (fun c_2 => ?_)
    · have t_2 := i_ne c_2
      refine lv_aload_n hx hb dX8_down_26 rfl (lv_at hl 0 rfl) ?_
      refine g8_117 ha hP 0 (by decide) (cM_0 G _) (v := .int (σ 0 6)) rfl dX8_down_27 ?_
      refine lv_bipush (v := 40) hx hb dX8_down_30 (by decide) ?_
      refine lv_icmp_ne (tgt := 38) hx hb dX8_down_32 (by decide) (fun c_3 => ?_) (fun c_3 => ?_)
      · have t_3 := i_ne c_3
        refine lv_aload_n hx hb dX8_down_38 rfl (lv_at hl 0 rfl) ?_
        refine xVv ha hP hS (y := yX8_remember) (As := []) (rest := []) 0 (by decide) (cM_0 G _) rfl rfl (c_X8_remember G l σ  (by first | assumption | omega)) kw_X8_217 hd_X8_remember rfl ⟨rfl, rfl⟩ ⟨Nat.le_of_ble_eq_true rfl, Nat.le_of_ble_eq_true rfl⟩ ⟨Nat.zero_le _, Nat.zero_le _⟩ hl.1 (Nat.le_of_ble_eq_true rfl) rfl dX8_down_39 (fun u H locs hpq hP hS => ?_)
        have hpq := hpq.symm
        subst hpq
        refine lv_aload_n hx hb dX8_down_42 rfl (lv_at hl 0 rfl) ?_
        refine lv_iload_n hx hb dX8_down_43 rfl (lv_at hl 1 rfl) ?_
        refine lv_aload_n hx hb dX8_down_44 rfl (lv_at hl 0 rfl) ?_
        refine g8_44 ha hP 0 (by decide) (cM_0 G _) (v := .ref (G.1 11)) rfl dX8_down_45 ?_
        refine lv_iconst (v := 5) hx hb dX8_down_48 (by decide) ?_
        refine lv_iload_n hx hb dX8_down_49 rfl (lv_at hl 1 rfl) ?_
        refine lv_iadd hx hb dX8_down_50 ?_
        refine xialdN ha hP 11 (by decide) (cM_11 G _) (5 + (ix i)) (nadd (rfl : (5 : Int32) = nI 5) (ix_nI (by omega))) (by have q_0 := ix_toInt (show (0 : Int) ≤ (i).toInt by omega); omega) (by decide) dX8_down_51 ?_
        refine xVi ha hP hS (y := yX8_highOn) (As := [.int i, .int ((w_rem σ) 11 (5 + (ix i)))]) (rest := []) 0 (by decide) (cM_0 G _) rfl rfl (c_X8_highOn G l (w_rem σ) (pM σ) i ((w_rem σ) 11 (5 + (ix i))) hpb ((pM_rem _).trans rfl) (by assumption) (by rw [(w_rem_n σ (q := 11) (by decide))]; exact hsv (ix i) (ix_lt (by omega) (by omega)))) kw_X8_177 hd_X8_highOn rfl ⟨rfl, rfl⟩ ⟨Nat.le_of_ble_eq_true rfl, Nat.le_of_ble_eq_true rfl⟩ ⟨Nat.zero_le _, Nat.zero_le _⟩ hl.1 (Nat.le_of_ble_eq_true rfl) rfl dX8_down_52 (fun r u H locs hpq hP hS => ?_)
        obtain ⟨hr_, hu_⟩ := hpq
        have hr_ := hr_.symm
        have hu_ := hu_.symm
        subst hr_
        subst hu_
        refine lv_istore_n (lv' := [(2, .int (a_high (pM σ) i ((w_rem σ) 11 (5 + (ix i))))), (0, .ref (G.1 0)), (1, .int i)]) hx hb dX8_down_55 rfl hl (by decide) rfl (fun ls hl => ?_)
        refine lv_aload_n hx hb dX8_down_56 rfl (lv_at hl 1 rfl) ?_
        refine g8_44 ha hP 0 (by decide) (cM_0 G _) (v := .ref (G.1 11)) rfl dX8_down_57 ?_
        refine lv_iconst (v := 5) hx hb dX8_down_60 (by decide) ?_
        refine lv_iload_n hx hb dX8_down_61 rfl (lv_at hl 2 rfl) ?_
        refine lv_iadd hx hb dX8_down_62 ?_
        refine lv_bipush (v := (-9)) hx hb dX8_down_63 (by decide) ?_
        refine xiastN ha hP hS (cM_loc G) 11 (by decide) (fun τ => cM_11 G τ) (5 + (ix i)) (nadd (rfl : (5 : Int32) = nI 5) (ix_nI (by omega))) (by have q_0 := ix_toInt (show (0 : Int) ≤ (i).toInt by omega); omega) (by decide) dX8_down_65 (fun H locs hP hS => ?_)
        refine lv_iload_n hx hb dX8_down_66 rfl (lv_at hl 0 rfl) ?_
        exact xiret ha hP hS dX8_down_67 ⟨by simp [n_down, (w_rem_n σ (q := 11) (by decide)), t_1, c_2, c_3, i_leN, -Int32.not_lt], (by simp [n_down, (w_rem_n σ (q := 11) (by decide)), t_1, c_2, c_3, i_leN, -Int32.not_lt])⟩ rfl
      · have t_3 := i_eq c_3
        refine lv_bipush (v := (-2)) hx hb dX8_down_35 (by decide) ?_
        exact xiret ha hP hS dX8_down_37 ⟨by simp [n_down, (w_rem_n σ (q := 11) (by decide)), t_1, c_2, c_3, i_leN, -Int32.not_lt], (by simp [n_down, (w_rem_n σ (q := 11) (by decide)), t_1, c_2, c_3, i_leN, -Int32.not_lt])⟩ rfl
    · have t_2 := i_eq c_2
      refine lv_bipush (v := (-4)) hx hb dX8_down_23 (by decide) ?_
      exact xiret ha hP hS dX8_down_25 ⟨by simp [n_down, (w_rem_n σ (q := 11) (by decide)), t_1, c_2, i_leN, -Int32.not_lt], (by simp [n_down, (w_rem_n σ (q := 11) (by decide)), t_1, c_2, i_leN, -Int32.not_lt])⟩ rfl
  · have t_1 := b2i_f c_1
    refine lv_iconst (v := (-1)) hx hb dX8_down_8 (by decide) ?_
    exact xiret ha hP hS dX8_down_9 ⟨by simp [n_down, (w_rem_n σ (q := 11) (by decide)), t_1, i_leN, -Int32.not_lt], (by simp [n_down, (w_rem_n σ (q := 11) (by decide)), t_1, i_leN, -Int32.not_lt])⟩ rfl
set_option maxHeartbeats 4000000 in
set_option maxRecDepth 100000 in
theorem c_X8_lace (G : GT) (l : Launch) (σ : Mem) (k : Int32) (hpb : PB (pM σ)) (hd : DM σ) : CI G 24 (cM G) l yX8_lace ({ frames := 2, cells := 0, slots := 0, locals := 46 } : Room) cX8_lace 3 (some .int) [.ref (G.1 0), .int k] σ (fun (r : Int32) u => r = (n_lace σ k).1 ∧ u = (n_lace σ k).2) := by
  intro sz
  refine xbegin (by decide) (Nat.le_of_ble_eq_true rfl) ?_
  intro p e s m below meth c ls hsz ha hP hl
  subst hsz
  have hx := ha.1
  have hb := ha.2.1
  have hS : va_S (xA G 24 s.heap.size) s.heap s.heap [] := va_S.rf
  have hl : lv_has ls 3 [(0, .ref (G.1 0)), (1, .int k)] := hl
  have k_m4 : (-4 : Int32).toInt = -4 := by decide
  have k_m2 : (-2 : Int32).toInt = -2 := by decide
  have k_m1 : (-1 : Int32).toInt = -1 := by decide
  have k_0 : (0 : Int32).toInt = 0 := by decide
  have k_4 : (4 : Int32).toInt = 4 := by decide
  have k_5 : (5 : Int32).toInt = 5 := by decide
  have k_6 : (6 : Int32).toInt = 6 := by decide
  have k_40 : (40 : Int32).toInt = 40 := by decide
  have hPL := PB_pl hpb
  have hPE := PB_pe hpb
  have hp4 := PV_pl hpb (rfl : pM σ = pM σ)
  have hp5 := PV_pe hpb (rfl : pM σ = pM σ)
  have hdm : 0 ≤ (σ 0 6).toInt ∧ (σ 0 6).toInt ≤ 40 := hd
  refine lv_aload_n hx hb dX8_lace_0 rfl (lv_at hl 0 rfl) ?_
  refine lv_iload_n hx hb dX8_lace_1 rfl (lv_at hl 1 rfl) ?_
  refine xVi ha hP hS (y := yX8_isPole) (As := [.int k]) (rest := []) 0 (by decide) (cM_0 G _) rfl rfl (c_X8_isPole G l σ (pM σ) k hpb rfl) kw_X8_206 hd_X8_isPole rfl ⟨rfl, rfl⟩ ⟨Nat.le_of_ble_eq_true rfl, Nat.le_of_ble_eq_true rfl⟩ ⟨Nat.zero_le _, Nat.zero_le _⟩ hl.1 (Nat.le_of_ble_eq_true rfl) rfl dX8_lace_2 (fun r u H locs hpq hP hS => ?_)
  obtain ⟨hr_, hu_⟩ := hpq
  have hr_ := hr_.symm
  have hu_ := hu_.symm
  subst hr_
  subst hu_
  refine lv_if_ne (tgt := 10) hx hb dX8_lace_5 (by decide) (fun c_1 => ?_) (fun c_1 => ?_)
  · have t_1 := b2i_t c_1
    have f_1 := isPole_t t_1
    refine lv_aload_n hx hb dX8_lace_10 rfl (lv_at hl 0 rfl) ?_
    refine g8_44 ha hP 0 (by decide) (cM_0 G _) (v := .ref (G.1 11)) rfl dX8_lace_11 ?_
    refine lv_iload_n hx hb dX8_lace_14 rfl (lv_at hl 1 rfl) ?_
    refine xSi ha hP hS (y := yX8_isUp) (As := [.ref (G.1 11), .int k]) (rest := []) rfl (c_X8_isUp G l σ (pM σ) 11 k hpb rfl (by unfold oT; omega) (by first | assumption | omega)) kw_X8_192 hd_X8_isUp rfl ⟨rfl, rfl⟩ ⟨Nat.le_of_ble_eq_true rfl, Nat.le_of_ble_eq_true rfl⟩ ⟨Nat.zero_le _, Nat.zero_le _⟩ hl.1 (Nat.le_of_ble_eq_true rfl) rfl dX8_lace_15 (fun r u H locs hpq hP hS => ?_)
    obtain ⟨hr_, hu_⟩ := hpq
    have hr_ := hr_.symm
    have hu_ := hu_.symm
    subst hr_
    subst hu_
    refine lv_if_ne (tgt := 24) hx hb dX8_lace_18 (by decide) (fun c_2 => ?_) (fun c_2 => ?_)
    · have t_2 := b2i_t c_2
      refine lv_aload_n hx hb dX8_lace_24 rfl (lv_at hl 0 rfl) ?_
      refine g8_117 ha hP 0 (by decide) (cM_0 G _) (v := .int (σ 0 6)) rfl dX8_lace_25 ?_
      refine lv_bipush (v := 40) hx hb dX8_lace_28 (by decide) ?_
      refine lv_icmp_ne (tgt := 36) hx hb dX8_lace_30 (by decide) (fun c_3 => ?_) (fun c_3 => ?_)
      · have t_3 := i_ne c_3
        refine lv_aload_n hx hb dX8_lace_36 rfl (lv_at hl 0 rfl) ?_
        refine xVv ha hP hS (y := yX8_remember) (As := []) (rest := []) 0 (by decide) (cM_0 G _) rfl rfl (c_X8_remember G l σ  (by first | assumption | omega)) kw_X8_217 hd_X8_remember rfl ⟨rfl, rfl⟩ ⟨Nat.le_of_ble_eq_true rfl, Nat.le_of_ble_eq_true rfl⟩ ⟨Nat.zero_le _, Nat.zero_le _⟩ hl.1 (Nat.le_of_ble_eq_true rfl) rfl dX8_lace_37 (fun u H locs hpq hP hS => ?_)
        have hpq := hpq.symm
        subst hpq
        refine lv_aload_n hx hb dX8_lace_40 rfl (lv_at hl 0 rfl) ?_
        refine g8_44 ha hP 0 (by decide) (cM_0 G _) (v := .ref (G.1 11)) rfl dX8_lace_41 ?_
        refine lv_iconst (v := 0) hx hb dX8_lace_44 (by decide) ?_
        refine lv_iload_n hx hb dX8_lace_45 rfl (lv_at hl 1 rfl) ?_
        refine lv_iadd hx hb dX8_lace_46 ?_
        refine xialdN ha hP 11 (by decide) (cM_11 G _) (0 + (ix k)) (nadd (rfl : (0 : Int32) = nI 0) (ix_nI (by omega))) (by have q_0 := ix_toInt (show (0 : Int) ≤ (k).toInt by omega); omega) (by decide) dX8_lace_47 ?_
        refine lv_istore_n (lv' := [(2, .int ((w_rem σ) 11 (0 + (ix k)))), (0, .ref (G.1 0)), (1, .int k)]) hx hb dX8_lace_48 rfl hl (by decide) rfl (fun ls hl => ?_)
        refine lv_aload_n hx hb dX8_lace_49 rfl (lv_at hl 1 rfl) ?_
        refine g8_44 ha hP 0 (by decide) (cM_0 G _) (v := .ref (G.1 11)) rfl dX8_lace_50 ?_
        refine lv_iconst (v := 0) hx hb dX8_lace_53 (by decide) ?_
        refine lv_iload_n hx hb dX8_lace_54 rfl (lv_at hl 2 rfl) ?_
        refine lv_iadd hx hb dX8_lace_55 ?_
        refine lv_iconst (v := 0) hx hb dX8_lace_56 (by decide) ?_
        refine xiastN ha hP hS (cM_loc G) 11 (by decide) (fun τ => cM_11 G τ) (0 + (ix k)) (nadd (rfl : (0 : Int32) = nI 0) (ix_nI (by omega))) (by have q_0 := ix_toInt (show (0 : Int) ≤ (k).toInt by omega); omega) (by decide) dX8_lace_57 (fun H locs hP hS => ?_)
        refine lv_iload_n hx hb dX8_lace_58 rfl (lv_at hl 0 rfl) ?_
        exact xiret ha hP hS dX8_lace_59 ⟨by simp [n_lace, (w_rem_n σ (q := 11) (by decide)), t_1, t_2, c_3, i_leN, -Int32.not_lt], (by simp [n_lace, (w_rem_n σ (q := 11) (by decide)), t_1, t_2, c_3, i_leN, -Int32.not_lt])⟩ rfl
      · have t_3 := i_eq c_3
        refine lv_bipush (v := (-2)) hx hb dX8_lace_33 (by decide) ?_
        exact xiret ha hP hS dX8_lace_35 ⟨by simp [n_lace, (w_rem_n σ (q := 11) (by decide)), t_1, t_2, c_3, i_leN, -Int32.not_lt], (by simp [n_lace, (w_rem_n σ (q := 11) (by decide)), t_1, t_2, c_3, i_leN, -Int32.not_lt])⟩ rfl
    · have t_2 := b2i_f c_2
      refine lv_bipush (v := (-4)) hx hb dX8_lace_21 (by decide) ?_
      exact xiret ha hP hS dX8_lace_23 ⟨by simp [n_lace, (w_rem_n σ (q := 11) (by decide)), t_1, t_2, i_leN, -Int32.not_lt], (by simp [n_lace, (w_rem_n σ (q := 11) (by decide)), t_1, t_2, i_leN, -Int32.not_lt])⟩ rfl
  · have t_1 := b2i_f c_1
    refine lv_iconst (v := (-1)) hx hb dX8_lace_8 (by decide) ?_
    exact xiret ha hP hS dX8_lace_9 ⟨by simp [n_lace, (w_rem_n σ (q := 11) (by decide)), t_1, i_leN, -Int32.not_lt], (by simp [n_lace, (w_rem_n σ (q := 11) (by decide)), t_1, i_leN, -Int32.not_lt])⟩ rfl
set_option maxHeartbeats 4000000 in
set_option maxRecDepth 100000 in
theorem c_X8_refuses (G : GT) (l : Launch) (σ : Mem) (many : Int32)  : CI G 24 (cM G) l yX8_refuses ({ frames := 0, cells := 0, slots := 0, locals := 0 } : Room) cX8_refuses 2 (some .int) [.ref (G.1 0), .int many] σ (fun (r : Int32) u => r = b_no σ many ∧ u = σ) := by
  intro sz
  refine xbegin (by decide) (Nat.le_of_ble_eq_true rfl) ?_
  intro p e s m below meth c ls hsz ha hP hl
  subst hsz
  have hx := ha.1
  have hb := ha.2.1
  have hS : va_S (xA G 24 s.heap.size) s.heap s.heap [] := va_S.rf
  have hl : lv_has ls 2 [(0, .ref (G.1 0)), (1, .int many)] := hl
  have k_m4 : (-4 : Int32).toInt = -4 := by decide
  have k_m2 : (-2 : Int32).toInt = -2 := by decide
  have k_0 : (0 : Int32).toInt = 0 := by decide
  have k_4 : (4 : Int32).toInt = 4 := by decide
  have k_5 : (5 : Int32).toInt = 5 := by decide
  have k_6 : (6 : Int32).toInt = 6 := by decide
  have k_40 : (40 : Int32).toInt = 40 := by decide
  refine lv_aload_n hx hb dX8_refuses_0 rfl (lv_at hl 0 rfl) ?_
  refine g8_163 ha hP 0 (by decide) (cM_0 G _) (v := .int (σ 0 4)) rfl dX8_refuses_1 ?_
  refine lv_if_ne (tgt := 12) hx hb dX8_refuses_4 (by decide) (fun c_1 => ?_) (fun c_1 => ?_)
  · have t_1 := i_ne c_1
    refine lv_aload_n hx hb dX8_refuses_12 rfl (lv_at hl 0 rfl) ?_
    refine g8_117 ha hP 0 (by decide) (cM_0 G _) (v := .int (σ 0 6)) rfl dX8_refuses_13 ?_
    refine lv_iload_n hx hb dX8_refuses_16 rfl (lv_at hl 1 rfl) ?_
    refine lv_iadd hx hb dX8_refuses_17 ?_
    refine lv_bipush (v := 40) hx hb dX8_refuses_18 (by decide) ?_
    have jn_2 : ∀ x_2 : Int32, x_2 = (if 40 < ((σ 0 6) + many) then (-2) else 0) → W p l e ({ frames := 0, cells := 0, slots := 0, locals := 0 } : Room) s m ([.ref (G.1 0), .int many] : List Value).toArray below meth c s.heap [] 0 0 (MQ below (va_Qi (fun (r : Int32) u => r = b_no σ many ∧ u = σ) (xB G 24 (cM G)) (xA G 24 s.heap.size)) ([.ref (G.1 0), .int many] : List Value).toArray s 0 0 (xA G 24 s.heap.size)) (F0 m 29 ls [.int x_2]) := by
      intro x_2 ex_2
      exact xiret ha hP hS dX8_refuses_29 ⟨by simp [b_no, i_leN, c_1, ex_2, -Int32.not_lt] <;> first | rfl | simp_all, rfl⟩ rfl
    refine lv_icmp_le (tgt := 28) hx hb dX8_refuses_20 (by decide) (fun c_2 => ?_) (fun c_2 => ?_)
    · have t_2 := i_le c_2
      refine lv_iconst (v := 0) hx hb dX8_refuses_28 (by decide) ?_
      exact jn_2 _ (if_neg (u_le c_2)).symm
    · have t_2 := i_nle c_2
      refine lv_bipush (v := (-2)) hx hb dX8_refuses_23 (by decide) ?_
      refine lv_goto (tgt := 29) hx hb dX8_refuses_25 (by decide) ?_
      exact jn_2 _ (if_pos (u_nle c_2)).symm
  · have t_1 := i_eq c_1
    refine lv_bipush (v := (-4)) hx hb dX8_refuses_7 (by decide) ?_
    refine lv_goto (tgt := 29) hx hb dX8_refuses_9 (by decide) ?_
    exact xiret ha hP hS dX8_refuses_29 ⟨by simp [b_no, i_leN, c_1, -Int32.not_lt] <;> first | rfl | simp_all, rfl⟩ rfl
set_option maxHeartbeats 4000000 in
set_option maxRecDepth 100000 in
theorem c_X8_stone (G : GT) (l : Launch) (σ : Mem)  (hpb : PB (pM σ)) (hd : DM σ) : CI G 24 (cM G) l yX8_stone ({ frames := 2, cells := 0, slots := 0, locals := 45 } : Room) cX8_stone 2 (some .int) [.ref (G.1 0)] σ (fun (r : Int32) u => r = (n_stone σ ).1 ∧ u = (n_stone σ ).2) := by
  intro sz
  refine xbegin (by decide) (Nat.le_of_ble_eq_true rfl) ?_
  intro p e s m below meth c ls hsz ha hP hl
  subst hsz
  have hx := ha.1
  have hb := ha.2.1
  have hS : va_S (xA G 24 s.heap.size) s.heap s.heap [] := va_S.rf
  have hl : lv_has ls 2 [(0, .ref (G.1 0))] := hl
  have k_0 : (0 : Int32).toInt = 0 := by decide
  have k_1 : (1 : Int32).toInt = 1 := by decide
  have k_4 : (4 : Int32).toInt = 4 := by decide
  have k_5 : (5 : Int32).toInt = 5 := by decide
  have k_6 : (6 : Int32).toInt = 6 := by decide
  have k_11 : (11 : Int32).toInt = 11 := by decide
  have hPL := PB_pl hpb
  have hPE := PB_pe hpb
  have hp4 := PV_pl hpb (rfl : pM σ = pM σ)
  have hp5 := PV_pe hpb (rfl : pM σ = pM σ)
  have hdm : 0 ≤ (σ 0 6).toInt ∧ (σ 0 6).toInt ≤ 40 := hd
  refine lv_aload_n hx hb dX8_stone_0 rfl (lv_at hl 0 rfl) ?_
  refine lv_iconst (v := 1) hx hb dX8_stone_1 (by decide) ?_
  refine xVi ha hP hS (y := yX8_refuses) (As := [.int 1]) (rest := []) 0 (by decide) (cM_0 G _) rfl rfl (c_X8_refuses G l σ 1 ) kw_X8_220 hd_X8_refuses rfl ⟨rfl, rfl⟩ ⟨Nat.le_of_ble_eq_true rfl, Nat.le_of_ble_eq_true rfl⟩ ⟨Nat.zero_le _, Nat.zero_le _⟩ hl.1 (Nat.le_of_ble_eq_true rfl) rfl dX8_stone_2 (fun r u H locs hpq hP hS => ?_)
  obtain ⟨hr_, hu_⟩ := hpq
  have hr_ := hr_.symm
  have hu_ := hu_.symm
  subst hr_
  subst hu_
  refine lv_istore_n (lv' := [(1, .int (b_no σ 1)), (0, .ref (G.1 0))]) hx hb dX8_stone_5 rfl hl (by decide) rfl (fun ls hl => ?_)
  refine lv_iload_n hx hb dX8_stone_6 rfl (lv_at hl 0 rfl) ?_
  refine lv_if_eq (tgt := 12) hx hb dX8_stone_7 (by decide) (fun c_1 => ?_) (fun c_1 => ?_)
  · have t_1 := i_eq c_1
    have hno := no_1 hd (by assumption)
    refine lv_aload_n hx hb dX8_stone_12 rfl (lv_at hl 1 rfl) ?_
    refine xVv ha hP hS (y := yX8_remember) (As := []) (rest := []) 0 (by decide) (cM_0 G _) rfl rfl (c_X8_remember G l σ  (by first | assumption | omega)) kw_X8_217 hd_X8_remember rfl ⟨rfl, rfl⟩ ⟨Nat.le_of_ble_eq_true rfl, Nat.le_of_ble_eq_true rfl⟩ ⟨Nat.zero_le _, Nat.zero_le _⟩ hl.1 (Nat.le_of_ble_eq_true rfl) rfl dX8_stone_13 (fun u H locs hpq hP hS => ?_)
    have hpq := hpq.symm
    subst hpq
    refine lv_aload_n hx hb dX8_stone_16 rfl (lv_at hl 1 rfl) ?_
    refine g8_44 ha hP 0 (by decide) (cM_0 G _) (v := .ref (G.1 11)) rfl dX8_stone_17 ?_
    refine lv_bipush (v := 11) hx hb dX8_stone_20 (by decide) ?_
    refine lv_dup2_11 hx hb dX8_stone_22 rfl rfl ?_
    refine xialdN ha hP 11 (by decide) (cM_11 G _) 11 (by decide) (by decide) (by decide) dX8_stone_23 ?_
    refine lv_iconst (v := 1) hx hb dX8_stone_24 (by decide) ?_
    refine lv_iadd hx hb dX8_stone_25 ?_
    refine xiastN ha hP hS (cM_loc G) 11 (by decide) (fun τ => cM_11 G τ) 11 (by decide) (by decide) (by decide) dX8_stone_26 (fun H locs hP hS => ?_)
    refine lv_aload_n hx hb dX8_stone_27 rfl (lv_at hl 1 rfl) ?_
    refine g8_44 ha hP 0 (by decide) (cM_0 G _) (v := .ref (G.1 11)) rfl dX8_stone_28 ?_
    refine lv_bipush (v := 11) hx hb dX8_stone_31 (by decide) ?_
    refine xialdN ha hP 11 (by decide) (cM_11 G _) 11 (by decide) (by decide) (by decide) dX8_stone_33 ?_
    exact xiret ha hP hS dX8_stone_34 ⟨by simp [n_stone, (w_rem_n σ (q := 11) (by decide)), mU_e, c_1, i_leN, -Int32.not_lt], (by simp [n_stone, c_1, (w_rem_n σ (q := 11) (by decide))])⟩ rfl
  · have t_1 := i_ne c_1
    refine lv_iload_n hx hb dX8_stone_10 rfl (lv_at hl 0 rfl) ?_
    exact xiret ha hP hS dX8_stone_11 ⟨by simp [n_stone, (w_rem_n σ (q := 11) (by decide)), mU_e, c_1, i_leN, -Int32.not_lt], (by simp [n_stone, (w_rem_n σ (q := 11) (by decide)), mU_e, c_1, i_leN, -Int32.not_lt])⟩ rfl
set_option maxHeartbeats 4000000 in
set_option maxRecDepth 100000 in
theorem c_X8_year (G : GT) (l : Launch) (σ : Mem)  (hpb : PB (pM σ)) (hd : DM σ) : CI G 24 (cM G) l yX8_year ({ frames := 5, cells := 0, slots := 0, locals := 117 } : Room) cX8_year 2 (some .int) [.ref (G.1 0)] σ (fun (r : Int32) u => r = (n_year σ ).1 ∧ u = (n_year σ ).2) := by
  intro sz
  refine xbegin (by decide) (Nat.le_of_ble_eq_true rfl) ?_
  intro p e s m below meth c ls hsz ha hP hl
  subst hsz
  have hx := ha.1
  have hb := ha.2.1
  have hS : va_S (xA G 24 s.heap.size) s.heap s.heap [] := va_S.rf
  have hl : lv_has ls 2 [(0, .ref (G.1 0))] := hl
  have k_0 : (0 : Int32).toInt = 0 := by decide
  have k_1 : (1 : Int32).toInt = 1 := by decide
  have k_4 : (4 : Int32).toInt = 4 := by decide
  have k_5 : (5 : Int32).toInt = 5 := by decide
  have k_6 : (6 : Int32).toInt = 6 := by decide
  have hPL := PB_pl hpb
  have hPE := PB_pe hpb
  have hp4 := PV_pl hpb (rfl : pM σ = pM σ)
  have hp5 := PV_pe hpb (rfl : pM σ = pM σ)
  have hdm : 0 ≤ (σ 0 6).toInt ∧ (σ 0 6).toInt ≤ 40 := hd
  refine lv_aload_n hx hb dX8_year_0 rfl (lv_at hl 0 rfl) ?_
  refine lv_iconst (v := 1) hx hb dX8_year_1 (by decide) ?_
  refine xVi ha hP hS (y := yX8_refuses) (As := [.int 1]) (rest := []) 0 (by decide) (cM_0 G _) rfl rfl (c_X8_refuses G l σ 1 ) kw_X8_220 hd_X8_refuses rfl ⟨rfl, rfl⟩ ⟨Nat.le_of_ble_eq_true rfl, Nat.le_of_ble_eq_true rfl⟩ ⟨Nat.zero_le _, Nat.zero_le _⟩ hl.1 (Nat.le_of_ble_eq_true rfl) rfl dX8_year_2 (fun r u H locs hpq hP hS => ?_)
  obtain ⟨hr_, hu_⟩ := hpq
  have hr_ := hr_.symm
  have hu_ := hu_.symm
  subst hr_
  subst hu_
  refine lv_istore_n (lv' := [(1, .int (b_no σ 1)), (0, .ref (G.1 0))]) hx hb dX8_year_5 rfl hl (by decide) rfl (fun ls hl => ?_)
  refine lv_iload_n hx hb dX8_year_6 rfl (lv_at hl 0 rfl) ?_
  refine lv_if_eq (tgt := 12) hx hb dX8_year_7 (by decide) (fun c_1 => ?_) (fun c_1 => ?_)
  · have t_1 := i_eq c_1
    have hno := no_1 hd (by assumption)
    refine lv_aload_n hx hb dX8_year_12 rfl (lv_at hl 1 rfl) ?_
    refine xVv ha hP hS (y := yX8_remember) (As := []) (rest := []) 0 (by decide) (cM_0 G _) rfl rfl (c_X8_remember G l σ  (by first | assumption | omega)) kw_X8_217 hd_X8_remember rfl ⟨rfl, rfl⟩ ⟨Nat.le_of_ble_eq_true rfl, Nat.le_of_ble_eq_true rfl⟩ ⟨Nat.zero_le _, Nat.zero_le _⟩ hl.1 (Nat.le_of_ble_eq_true rfl) rfl dX8_year_13 (fun u H locs hpq hP hS => ?_)
    have hpq := hpq.symm
    subst hpq
    refine lv_aload_n hx hb dX8_year_16 rfl (lv_at hl 1 rfl) ?_
    refine lv_aload_n hx hb dX8_year_17 rfl (lv_at hl 1 rfl) ?_
    refine g8_44 ha hP 0 (by decide) (cM_0 G _) (v := .ref (G.1 11)) rfl dX8_year_18 ?_
    refine xVi ha hP hS (y := yX8_yearGoes) (As := [.ref (G.1 11)]) (rest := []) 0 (by decide) (cM_0 G _) rfl rfl (c_X8_yearGoes G l (w_rem σ) (pM σ) 11 hpb ((pM_rem _).trans rfl) (by unfold oT; omega)) kw_X8_223 hd_X8_yearGoes rfl ⟨rfl, rfl⟩ ⟨Nat.le_of_ble_eq_true rfl, Nat.le_of_ble_eq_true rfl⟩ ⟨Nat.zero_le _, Nat.zero_le _⟩ hl.1 (Nat.le_of_ble_eq_true rfl) rfl dX8_year_21 (fun r u H locs hpq hP hS => ?_)
    obtain ⟨hr_, hu_⟩ := hpq
    have hr_ := hr_.symm
    have hu_ := hu_.symm
    subst hr_
    subst hu_
    exact xiret ha hP hS dX8_year_24 ⟨by simp [n_year, sM_rem, c_1, i_leN, -Int32.not_lt], (by simp [n_year, sM_rem, c_1, i_leN, -Int32.not_lt])⟩ rfl
  · have t_1 := i_ne c_1
    refine lv_iload_n hx hb dX8_year_10 rfl (lv_at hl 0 rfl) ?_
    exact xiret ha hP hS dX8_year_11 ⟨by simp [n_year, sM_rem, c_1, i_leN, -Int32.not_lt], (by simp [n_year, sM_rem, c_1, i_leN, -Int32.not_lt])⟩ rfl
set_option maxHeartbeats 4000000 in
set_option maxRecDepth 100000 in
theorem c_X8_undo (G : GT) (l : Launch) (σ : Mem) (n : Int32) (hd : DM σ) : CI G 24 (cM G) l yX8_undo ({ frames := 1, cells := 0, slots := 0, locals := 25 } : Room) cX8_undo 3 (some .int) [.ref (G.1 0), .int n] σ (fun (r : Int32) u => r = (n_undo σ n).1 ∧ u = (n_undo σ n).2) := by
  intro sz
  refine xbegin (by decide) (Nat.le_of_ble_eq_true rfl) ?_
  intro p e s m below meth c ls hsz ha hP hl
  subst hsz
  have hx := ha.1
  have hb := ha.2.1
  have hS : va_S (xA G 24 s.heap.size) s.heap s.heap [] := va_S.rf
  have hl : lv_has ls 3 [(0, .ref (G.1 0)), (1, .int n)] := hl
  have k_m1 : (-1 : Int32).toInt = -1 := by decide
  have k_0 : (0 : Int32).toInt = 0 := by decide
  have k_4 : (4 : Int32).toInt = 4 := by decide
  have k_5 : (5 : Int32).toInt = 5 := by decide
  have k_6 : (6 : Int32).toInt = 6 := by decide
  have k_12 : (12 : Int32).toInt = 12 := by decide
  have hdm : 0 ≤ (σ 0 6).toInt ∧ (σ 0 6).toInt ≤ 40 := hd
  refine lv_iload_n hx hb dX8_undo_0 rfl (lv_at hl 1 rfl) ?_
  refine lv_i2l (v := n.toInt64) hx hb dX8_undo_1 rfl ?_
  refine lv_lconst (v := 0) hx hb dX8_undo_2 (by decide) ?_
  refine lv_aload_n hx hb dX8_undo_3 rfl (lv_at hl 0 rfl) ?_
  refine g8_117 ha hP 0 (by decide) (cM_0 G _) (v := .int (σ 0 6)) rfl dX8_undo_4 ?_
  refine lv_i2l (v := (σ 0 6).toInt64) hx hb dX8_undo_7 rfl ?_
  refine xSi ha hP hS (y := yX8_in) (As := [.long n.toInt64, .long 0, .long ((σ 0 6).toInt64)]) (rest := []) rfl (c_X8_in G l σ n.toInt64 0 ((σ 0 6).toInt64) ) kw_X8_95 hd_X8_in rfl ⟨rfl, rfl⟩ ⟨Nat.le_of_ble_eq_true rfl, Nat.le_of_ble_eq_true rfl⟩ ⟨Nat.zero_le _, Nat.zero_le _⟩ hl.1 (Nat.le_of_ble_eq_true rfl) rfl dX8_undo_8 (fun r u H locs hpq hP hS => ?_)
  obtain ⟨hr_, hu_⟩ := hpq
  have hr_ := hr_.symm
  have hu_ := hu_.symm
  subst hr_
  subst hu_
  refine lv_if_ne (tgt := 16) hx hb dX8_undo_11 (by decide) (fun c_1 => ?_) (fun c_1 => ?_)
  · have t_1 := b2i_t c_1
    have f_1 := bin_t t_1
    try simp only [Int32.toInt_toInt64, ll_0, ll_1, ll_2, ll_3, ll_4, ll_5, ll_9, ll_12, ll_20, ll_40, ll_57, ll_99, ll_2147483646] at f_1
    have hni := ix_toInt (show 0 ≤ n.toInt by omega)
    have hsb := sub_i (a := σ 0 6) (b := n) (by omega) (by omega)
    refine lv_aload_n hx hb dX8_undo_16 rfl (lv_at hl 0 rfl) ?_
    refine g8_117 ha hP 0 (by decide) (cM_0 G _) (v := .int (σ 0 6)) rfl dX8_undo_17 ?_
    refine lv_iload_n hx hb dX8_undo_20 rfl (lv_at hl 1 rfl) ?_
    refine lv_isub hx hb dX8_undo_21 ?_
    refine lv_istore_n (lv' := [(2, .int ((σ 0 6) - n)), (0, .ref (G.1 0)), (1, .int n)]) hx hb dX8_undo_22 rfl hl (by decide) rfl (fun ls hl => ?_)
    refine lv_iload_n hx hb dX8_undo_23 rfl (lv_at hl 0 rfl) ?_
    refine lv_if_le (tgt := 45) hx hb dX8_undo_24 (by decide) (fun c_2 => ?_) (fun c_2 => ?_)
    · have t_2 := i_le c_2
      have u_2 := u_le c_2
      refine lv_aload_n hx hb dX8_undo_45 rfl (lv_at hl 1 rfl) ?_
      refine lv_iload_n hx hb dX8_undo_46 rfl (lv_at hl 2 rfl) ?_
      refine p8_117 ha hP hS (cM_loc G) 0 (by decide) (cM_0 G _) (x := n) (Nat.le_of_ble_eq_true rfl) (mU σ 0 6 n) (fun q hq => mU_n _ _ _ hq) (cM_p0_6 G _ _) dX8_undo_47 (fun H locs hP hS => ?_)
      refine lv_iload_n hx hb dX8_undo_50 rfl (lv_at hl 0 rfl) ?_
      exact xiret ha hP hS dX8_undo_51 ⟨by simp [n_undo, t_1, u_2, i_leN, -Int32.not_lt], (by simp [n_undo, t_1, u_2, i_leN, -Int32.not_lt])⟩ rfl
    · have t_2 := i_nle c_2
      have u_2 := u_nle c_2
      refine lv_aload_n hx hb dX8_undo_27 rfl (lv_at hl 1 rfl) ?_
      refine g8_50 ha hP 0 (by decide) (cM_0 G _) (v := .ref (G.1 13)) rfl dX8_undo_28 ?_
      refine lv_bipush (v := 12) hx hb dX8_undo_31 (by decide) ?_
      refine lv_iload_n hx hb dX8_undo_33 rfl (lv_at hl 2 rfl) ?_
      refine lv_imul hx hb dX8_undo_34 ?_
      refine lv_aload_n hx hb dX8_undo_35 rfl (lv_at hl 1 rfl) ?_
      refine g8_44 ha hP 0 (by decide) (cM_0 G _) (v := .ref (G.1 11)) rfl dX8_undo_36 ?_
      refine lv_iconst (v := 0) hx hb dX8_undo_39 (by decide) ?_
      refine lv_bipush (v := 12) hx hb dX8_undo_40 (by decide) ?_
      refine xSv ha hP hS (y := yX8_copies) (As := [.ref (G.1 13), .int (12 * n), .ref (G.1 11), .int 0, .int 12]) (rest := []) rfl (c_X8_copies G l σ 13 11 480 12 (12 * (ix n)) 0 12 (12 * n) 0 12 (by decide) (by decide) (by decide) (fun τ => cM_13 G τ) (fun τ => cM_11 G τ) (by decide) (by decide) (nmul (rfl : (12 : Int32) = nI 12) (ix_nI (by omega))) (rfl : (0 : Int32) = nI 0) (rfl : (12 : Int32) = nI 12) (by have q_0 := ix_toInt (show (0 : Int) ≤ (n).toInt by omega); omega) (by omega)) kw_X8_202 hd_X8_copies rfl ⟨rfl, rfl⟩ ⟨Nat.le_of_ble_eq_true rfl, Nat.le_of_ble_eq_true rfl⟩ ⟨Nat.zero_le _, Nat.zero_le _⟩ hl.1 (Nat.le_of_ble_eq_true rfl) rfl dX8_undo_42 (fun u H locs hpq hP hS => ?_)
      have hpq := hpq.symm
      subst hpq
      refine lv_aload_n hx hb dX8_undo_45 rfl (lv_at hl 1 rfl) ?_
      refine lv_iload_n hx hb dX8_undo_46 rfl (lv_at hl 2 rfl) ?_
      refine p8_117 ha hP hS (cM_loc G) 0 (by decide) (cM_0 G _) (x := n) (Nat.le_of_ble_eq_true rfl) (mU (mG σ 11 0 12 (fun z => σ 13 ((12 * (ix n)) + z))) 0 6 n) (fun q hq => mU_n _ _ _ hq) (cM_p0_6 G _ _) dX8_undo_47 (fun H locs hP hS => ?_)
      refine lv_iload_n hx hb dX8_undo_50 rfl (lv_at hl 0 rfl) ?_
      exact xiret ha hP hS dX8_undo_51 ⟨by simp [n_undo, t_1, u_2, i_leN, -Int32.not_lt], (by simp [n_undo, t_1, u_2, i_leN, -Int32.not_lt])⟩ rfl
  · have t_1 := b2i_f c_1
    have f_1 := bin_f t_1
    try simp only [Int32.toInt_toInt64, ll_0, ll_1, ll_2, ll_3, ll_4, ll_5, ll_9, ll_12, ll_20, ll_40, ll_57, ll_99, ll_2147483646] at f_1
    refine lv_iconst (v := (-1)) hx hb dX8_undo_14 (by decide) ?_
    exact xiret ha hP hS dX8_undo_15 ⟨by simp [n_undo, t_1, i_leN, -Int32.not_lt], (by simp [n_undo, t_1, i_leN, -Int32.not_lt])⟩ rfl
set_option maxHeartbeats 4000000 in
set_option maxRecDepth 100000 in
theorem c_X8_keep (G : GT) (l : Launch) (σ : Mem) (k : Int32)  : CI G 24 (cM G) l yX8_keep ({ frames := 1, cells := 0, slots := 0, locals := 25 } : Room) cX8_keep 2 (some .int) [.ref (G.1 0), .int k] σ (fun (r : Int32) u => r = (n_keep σ k).1 ∧ u = (n_keep σ k).2) := by
  intro sz
  refine xbegin (by decide) (Nat.le_of_ble_eq_true rfl) ?_
  intro p e s m below meth c ls hsz ha hP hl
  subst hsz
  have hx := ha.1
  have hb := ha.2.1
  have hS : va_S (xA G 24 s.heap.size) s.heap s.heap [] := va_S.rf
  have hl : lv_has ls 2 [(0, .ref (G.1 0)), (1, .int k)] := hl
  have k_m4 : (-4 : Int32).toInt = -4 := by decide
  have k_m1 : (-1 : Int32).toInt = -1 := by decide
  have k_0 : (0 : Int32).toInt = 0 := by decide
  have k_1 : (1 : Int32).toInt = 1 := by decide
  have k_4 : (4 : Int32).toInt = 4 := by decide
  have k_5 : (5 : Int32).toInt = 5 := by decide
  have k_6 : (6 : Int32).toInt = 6 := by decide
  have k_12 : (12 : Int32).toInt = 12 := by decide
  have k_480 : (480 : Int32).toInt = 480 := by decide
  have k_493 : (493 : Int32).toInt = 493 := by decide
  refine lv_iload_n hx hb dX8_keep_0 rfl (lv_at hl 1 rfl) ?_
  refine lv_i2l (v := k.toInt64) hx hb dX8_keep_1 rfl ?_
  refine lv_lconst (v := 0) hx hb dX8_keep_2 (by decide) ?_
  refine lv_ldc2 (v := 2) hx hb ha.2.2.2.1 (ha.2.2.2.2.1 _ (tb_in (w := .constantLong RX8 227 2) (by decide +kernel))) dX8_keep_3 ?_
  refine xSi ha hP hS (y := yX8_in) (As := [.long k.toInt64, .long 0, .long 2]) (rest := []) rfl (c_X8_in G l σ k.toInt64 0 2 ) kw_X8_95 hd_X8_in rfl ⟨rfl, rfl⟩ ⟨Nat.le_of_ble_eq_true rfl, Nat.le_of_ble_eq_true rfl⟩ ⟨Nat.zero_le _, Nat.zero_le _⟩ hl.1 (Nat.le_of_ble_eq_true rfl) rfl dX8_keep_6 (fun r u H locs hpq hP hS => ?_)
  obtain ⟨hr_, hu_⟩ := hpq
  have hr_ := hr_.symm
  have hu_ := hu_.symm
  subst hr_
  subst hu_
  refine lv_if_ne (tgt := 14) hx hb dX8_keep_9 (by decide) (fun c_1 => ?_) (fun c_1 => ?_)
  · have t_1 := b2i_t c_1
    have f_1 := bin_t t_1
    try simp only [Int32.toInt_toInt64, ll_0, ll_1, ll_2, ll_3, ll_4, ll_5, ll_9, ll_12, ll_20, ll_40, ll_57, ll_99, ll_2147483646] at f_1
    refine lv_aload_n hx hb dX8_keep_14 rfl (lv_at hl 0 rfl) ?_
    refine g8_163 ha hP 0 (by decide) (cM_0 G _) (v := .int (σ 0 4)) rfl dX8_keep_15 ?_
    refine lv_if_ne (tgt := 24) hx hb dX8_keep_18 (by decide) (fun c_2 => ?_) (fun c_2 => ?_)
    · have t_2 := i_ne c_2
      refine lv_aload_n hx hb dX8_keep_24 rfl (lv_at hl 0 rfl) ?_
      refine g8_53 ha hP 0 (by decide) (cM_0 G _) (v := .ref (G.1 14)) rfl dX8_keep_25 ?_
      refine lv_sipush (v := 493) hx hb dX8_keep_28 (by decide) ?_
      refine lv_iload_n hx hb dX8_keep_31 rfl (lv_at hl 1 rfl) ?_
      refine lv_imul hx hb dX8_keep_32 ?_
      refine lv_aload_n hx hb dX8_keep_33 rfl (lv_at hl 0 rfl) ?_
      refine g8_117 ha hP 0 (by decide) (cM_0 G _) (v := .int (σ 0 6)) rfl dX8_keep_34 ?_
      refine xiastN ha hP hS (cM_loc G) 14 (by decide) (fun τ => cM_14 G τ) (493 * (ix k)) (nmul (rfl : (493 : Int32) = nI 493) (ix_nI (by omega))) (by have q_0 := ix_toInt (show (0 : Int) ≤ (k).toInt by omega); omega) (by decide) dX8_keep_37 (fun H locs hP hS => ?_)
      refine lv_aload_n hx hb dX8_keep_38 rfl (lv_at hl 0 rfl) ?_
      refine g8_44 ha hP 0 (by decide) (cM_0 G _) (v := .ref (G.1 11)) rfl dX8_keep_39 ?_
      refine lv_iconst (v := 0) hx hb dX8_keep_42 (by decide) ?_
      refine lv_aload_n hx hb dX8_keep_43 rfl (lv_at hl 0 rfl) ?_
      refine g8_53 ha hP 0 (by decide) (cM_0 G _) (v := .ref (G.1 14)) rfl dX8_keep_44 ?_
      refine lv_sipush (v := 493) hx hb dX8_keep_47 (by decide) ?_
      refine lv_iload_n hx hb dX8_keep_50 rfl (lv_at hl 1 rfl) ?_
      refine lv_imul hx hb dX8_keep_51 ?_
      refine lv_iconst (v := 1) hx hb dX8_keep_52 (by decide) ?_
      refine lv_iadd hx hb dX8_keep_53 ?_
      refine lv_bipush (v := 12) hx hb dX8_keep_54 (by decide) ?_
      refine xSv ha hP hS (y := yX8_copies) (As := [.ref (G.1 11), .int 0, .ref (G.1 14), .int ((493 * k) + 1), .int 12]) (rest := []) rfl (c_X8_copies G l (mU σ 14 (493 * (ix k)) (σ 0 6)) 11 14 12 1479 0 ((493 * (ix k)) + 1) 12 0 ((493 * k) + 1) 12 (by decide) (by decide) (by decide) (fun τ => cM_11 G τ) (fun τ => cM_14 G τ) (by decide) (by decide) (rfl : (0 : Int32) = nI 0) (nadd (nmul (rfl : (493 : Int32) = nI 493) (ix_nI (by omega))) (rfl : (1 : Int32) = nI 1)) (rfl : (12 : Int32) = nI 12) (by omega) (by have q_0 := ix_toInt (show (0 : Int) ≤ (k).toInt by omega); omega)) kw_X8_202 hd_X8_copies rfl ⟨rfl, rfl⟩ ⟨Nat.le_of_ble_eq_true rfl, Nat.le_of_ble_eq_true rfl⟩ ⟨Nat.zero_le _, Nat.zero_le _⟩ hl.1 (Nat.le_of_ble_eq_true rfl) rfl dX8_keep_56 (fun u H locs hpq hP hS => ?_)
      have hpq := hpq.symm
      subst hpq
      refine lv_aload_n hx hb dX8_keep_59 rfl (lv_at hl 0 rfl) ?_
      refine g8_50 ha hP 0 (by decide) (cM_0 G _) (v := .ref (G.1 13)) rfl dX8_keep_60 ?_
      refine lv_iconst (v := 0) hx hb dX8_keep_63 (by decide) ?_
      refine lv_aload_n hx hb dX8_keep_64 rfl (lv_at hl 0 rfl) ?_
      refine g8_53 ha hP 0 (by decide) (cM_0 G _) (v := .ref (G.1 14)) rfl dX8_keep_65 ?_
      refine lv_sipush (v := 493) hx hb dX8_keep_68 (by decide) ?_
      refine lv_iload_n hx hb dX8_keep_71 rfl (lv_at hl 1 rfl) ?_
      refine lv_imul hx hb dX8_keep_72 ?_
      refine lv_iconst (v := 1) hx hb dX8_keep_73 (by decide) ?_
      refine lv_iadd hx hb dX8_keep_74 ?_
      refine lv_bipush (v := 12) hx hb dX8_keep_75 (by decide) ?_
      refine lv_iadd hx hb dX8_keep_77 ?_
      refine lv_sipush (v := 480) hx hb dX8_keep_78 (by decide) ?_
      refine xSv ha hP hS (y := yX8_copies) (As := [.ref (G.1 13), .int 0, .ref (G.1 14), .int (((493 * k) + 1) + 12), .int 480]) (rest := []) rfl (c_X8_copies G l (mG (mU σ 14 (493 * (ix k)) (σ 0 6)) 14 ((493 * (ix k)) + 1) 12 (fun z => (mU σ 14 (493 * (ix k)) (σ 0 6)) 11 (0 + z))) 13 14 480 1479 0 (((493 * (ix k)) + 1) + 12) 480 0 (((493 * k) + 1) + 12) 480 (by decide) (by decide) (by decide) (fun τ => cM_13 G τ) (fun τ => cM_14 G τ) (by decide) (by decide) (rfl : (0 : Int32) = nI 0) (nadd (nadd (nmul (rfl : (493 : Int32) = nI 493) (ix_nI (by omega))) (rfl : (1 : Int32) = nI 1)) (rfl : (12 : Int32) = nI 12)) (rfl : (480 : Int32) = nI 480) (by omega) (by have q_0 := ix_toInt (show (0 : Int) ≤ (k).toInt by omega); omega)) kw_X8_202 hd_X8_copies rfl ⟨rfl, rfl⟩ ⟨Nat.le_of_ble_eq_true rfl, Nat.le_of_ble_eq_true rfl⟩ ⟨Nat.zero_le _, Nat.zero_le _⟩ hl.1 (Nat.le_of_ble_eq_true rfl) rfl dX8_keep_81 (fun u H locs hpq hP hS => ?_)
      have hpq := hpq.symm
      subst hpq
      refine lv_aload_n hx hb dX8_keep_84 rfl (lv_at hl 0 rfl) ?_
      refine g8_117 ha hP 0 (by decide) (cM_0 G _) (v := .int (σ 0 6)) rfl dX8_keep_85 ?_
      exact xiret ha hP hS dX8_keep_88 ⟨by simp [n_keep, u_keep, mU_e, mG_e, t_1, c_2, i_leN, -Int32.not_lt], (by simp [n_keep, u_keep, mU_e, mG_e, t_1, c_2, i_leN, -Int32.not_lt])⟩ rfl
    · have t_2 := i_eq c_2
      refine lv_bipush (v := (-4)) hx hb dX8_keep_21 (by decide) ?_
      exact xiret ha hP hS dX8_keep_23 ⟨by simp [n_keep, u_keep, mU_e, mG_e, t_1, c_2, i_leN, -Int32.not_lt], (by simp [n_keep, u_keep, mU_e, mG_e, t_1, c_2, i_leN, -Int32.not_lt])⟩ rfl
  · have t_1 := b2i_f c_1
    have f_1 := bin_f t_1
    try simp only [Int32.toInt_toInt64, ll_0, ll_1, ll_2, ll_3, ll_4, ll_5, ll_9, ll_12, ll_20, ll_40, ll_57, ll_99, ll_2147483646] at f_1
    refine lv_iconst (v := (-1)) hx hb dX8_keep_12 (by decide) ?_
    exact xiret ha hP hS dX8_keep_13 ⟨by simp [n_keep, u_keep, mU_e, mG_e, t_1, i_leN, -Int32.not_lt], (by simp [n_keep, u_keep, mU_e, mG_e, t_1, i_leN, -Int32.not_lt])⟩ rfl
set_option maxHeartbeats 4000000 in
set_option maxRecDepth 100000 in
theorem c_X8_on (G : GT) (l : Launch) (σ : Mem) (k : Int32)  : CI G 24 (cM G) l yX8_on ({ frames := 1, cells := 0, slots := 0, locals := 25 } : Room) cX8_on 2 (some .int) [.ref (G.1 0), .int k] σ (fun (r : Int32) u => r = (n_on σ k).1 ∧ u = (n_on σ k).2) := by
  intro sz
  refine xbegin (by decide) (Nat.le_of_ble_eq_true rfl) ?_
  intro p e s m below meth c ls hsz ha hP hl
  subst hsz
  have hx := ha.1
  have hb := ha.2.1
  have hS : va_S (xA G 24 s.heap.size) s.heap s.heap [] := va_S.rf
  have hl : lv_has ls 2 [(0, .ref (G.1 0)), (1, .int k)] := hl
  have k_m1 : (-1 : Int32).toInt = -1 := by decide
  have k_0 : (0 : Int32).toInt = 0 := by decide
  have k_1 : (1 : Int32).toInt = 1 := by decide
  have k_4 : (4 : Int32).toInt = 4 := by decide
  have k_5 : (5 : Int32).toInt = 5 := by decide
  have k_6 : (6 : Int32).toInt = 6 := by decide
  have k_12 : (12 : Int32).toInt = 12 := by decide
  have k_480 : (480 : Int32).toInt = 480 := by decide
  have k_493 : (493 : Int32).toInt = 493 := by decide
  refine lv_iload_n hx hb dX8_on_0 rfl (lv_at hl 1 rfl) ?_
  refine lv_i2l (v := k.toInt64) hx hb dX8_on_1 rfl ?_
  refine lv_lconst (v := 0) hx hb dX8_on_2 (by decide) ?_
  refine lv_ldc2 (v := 2) hx hb ha.2.2.2.1 (ha.2.2.2.2.1 _ (tb_in (w := .constantLong RX8 227 2) (by decide +kernel))) dX8_on_3 ?_
  refine xSi ha hP hS (y := yX8_in) (As := [.long k.toInt64, .long 0, .long 2]) (rest := []) rfl (c_X8_in G l σ k.toInt64 0 2 ) kw_X8_95 hd_X8_in rfl ⟨rfl, rfl⟩ ⟨Nat.le_of_ble_eq_true rfl, Nat.le_of_ble_eq_true rfl⟩ ⟨Nat.zero_le _, Nat.zero_le _⟩ hl.1 (Nat.le_of_ble_eq_true rfl) rfl dX8_on_6 (fun r u H locs hpq hP hS => ?_)
  obtain ⟨hr_, hu_⟩ := hpq
  have hr_ := hr_.symm
  have hu_ := hu_.symm
  subst hr_
  subst hu_
  refine lv_if_ne (tgt := 14) hx hb dX8_on_9 (by decide) (fun c_1 => ?_) (fun c_1 => ?_)
  · have t_1 := b2i_t c_1
    have f_1 := bin_t t_1
    try simp only [Int32.toInt_toInt64, ll_0, ll_1, ll_2, ll_3, ll_4, ll_5, ll_9, ll_12, ll_20, ll_40, ll_57, ll_99, ll_2147483646] at f_1
    refine lv_aload_n hx hb dX8_on_14 rfl (lv_at hl 0 rfl) ?_
    refine g8_53 ha hP 0 (by decide) (cM_0 G _) (v := .ref (G.1 14)) rfl dX8_on_15 ?_
    refine lv_sipush (v := 493) hx hb dX8_on_18 (by decide) ?_
    refine lv_iload_n hx hb dX8_on_21 rfl (lv_at hl 1 rfl) ?_
    refine lv_imul hx hb dX8_on_22 ?_
    refine xialdN ha hP 14 (by decide) (cM_14 G _) (493 * (ix k)) (nmul (rfl : (493 : Int32) = nI 493) (ix_nI (by omega))) (by have q_0 := ix_toInt (show (0 : Int) ≤ (k).toInt by omega); omega) (by decide) dX8_on_23 ?_
    refine lv_if_ge (tgt := 33) hx hb dX8_on_24 (by decide) (fun c_2 => ?_) (fun c_2 => ?_)
    · have t_2 := i_le c_2
      have u_2 := u_le c_2
      refine lv_aload_n hx hb dX8_on_33 rfl (lv_at hl 0 rfl) ?_
      refine lv_aload_n hx hb dX8_on_34 rfl (lv_at hl 0 rfl) ?_
      refine g8_53 ha hP 0 (by decide) (cM_0 G _) (v := .ref (G.1 14)) rfl dX8_on_35 ?_
      refine lv_sipush (v := 493) hx hb dX8_on_38 (by decide) ?_
      refine lv_iload_n hx hb dX8_on_41 rfl (lv_at hl 1 rfl) ?_
      refine lv_imul hx hb dX8_on_42 ?_
      refine xialdN ha hP 14 (by decide) (cM_14 G _) (493 * (ix k)) (nmul (rfl : (493 : Int32) = nI 493) (ix_nI (by omega))) (by have q_0 := ix_toInt (show (0 : Int) ≤ (k).toInt by omega); omega) (by decide) dX8_on_43 ?_
      refine p8_117 ha hP hS (cM_loc G) 0 (by decide) (cM_0 G _) (x := (σ 14 (493 * (ix k)))) (Nat.le_of_ble_eq_true rfl) (mU σ 0 6 (σ 14 (493 * (ix k)))) (fun q hq => mU_n _ _ _ hq) (cM_p0_6 G _ _) dX8_on_44 (fun H locs hP hS => ?_)
      refine lv_aload_n hx hb dX8_on_47 rfl (lv_at hl 0 rfl) ?_
      refine g8_53 ha hP 0 (by decide) (cM_0 G _) (v := .ref (G.1 14)) rfl dX8_on_48 ?_
      refine lv_sipush (v := 493) hx hb dX8_on_51 (by decide) ?_
      refine lv_iload_n hx hb dX8_on_54 rfl (lv_at hl 1 rfl) ?_
      refine lv_imul hx hb dX8_on_55 ?_
      refine lv_iconst (v := 1) hx hb dX8_on_56 (by decide) ?_
      refine lv_iadd hx hb dX8_on_57 ?_
      refine lv_aload_n hx hb dX8_on_58 rfl (lv_at hl 0 rfl) ?_
      refine g8_44 ha hP 0 (by decide) (cM_0 G _) (v := .ref (G.1 11)) rfl dX8_on_59 ?_
      refine lv_iconst (v := 0) hx hb dX8_on_62 (by decide) ?_
      refine lv_bipush (v := 12) hx hb dX8_on_63 (by decide) ?_
      refine xSv ha hP hS (y := yX8_copies) (As := [.ref (G.1 14), .int ((493 * k) + 1), .ref (G.1 11), .int 0, .int 12]) (rest := []) rfl (c_X8_copies G l (mU σ 0 6 (σ 14 (493 * (ix k)))) 14 11 1479 12 ((493 * (ix k)) + 1) 0 12 ((493 * k) + 1) 0 12 (by decide) (by decide) (by decide) (fun τ => cM_14 G τ) (fun τ => cM_11 G τ) (by decide) (by decide) (nadd (nmul (rfl : (493 : Int32) = nI 493) (ix_nI (by omega))) (rfl : (1 : Int32) = nI 1)) (rfl : (0 : Int32) = nI 0) (rfl : (12 : Int32) = nI 12) (by have q_0 := ix_toInt (show (0 : Int) ≤ (k).toInt by omega); omega) (by omega)) kw_X8_202 hd_X8_copies rfl ⟨rfl, rfl⟩ ⟨Nat.le_of_ble_eq_true rfl, Nat.le_of_ble_eq_true rfl⟩ ⟨Nat.zero_le _, Nat.zero_le _⟩ hl.1 (Nat.le_of_ble_eq_true rfl) rfl dX8_on_65 (fun u H locs hpq hP hS => ?_)
      have hpq := hpq.symm
      subst hpq
      refine lv_aload_n hx hb dX8_on_68 rfl (lv_at hl 0 rfl) ?_
      refine g8_53 ha hP 0 (by decide) (cM_0 G _) (v := .ref (G.1 14)) rfl dX8_on_69 ?_
      refine lv_sipush (v := 493) hx hb dX8_on_72 (by decide) ?_
      refine lv_iload_n hx hb dX8_on_75 rfl (lv_at hl 1 rfl) ?_
      refine lv_imul hx hb dX8_on_76 ?_
      refine lv_iconst (v := 1) hx hb dX8_on_77 (by decide) ?_
      refine lv_iadd hx hb dX8_on_78 ?_
      refine lv_bipush (v := 12) hx hb dX8_on_79 (by decide) ?_
      refine lv_iadd hx hb dX8_on_81 ?_
      refine lv_aload_n hx hb dX8_on_82 rfl (lv_at hl 0 rfl) ?_
      refine g8_50 ha hP 0 (by decide) (cM_0 G _) (v := .ref (G.1 13)) rfl dX8_on_83 ?_
      refine lv_iconst (v := 0) hx hb dX8_on_86 (by decide) ?_
      refine lv_sipush (v := 480) hx hb dX8_on_87 (by decide) ?_
      refine xSv ha hP hS (y := yX8_copies) (As := [.ref (G.1 14), .int (((493 * k) + 1) + 12), .ref (G.1 13), .int 0, .int 480]) (rest := []) rfl (c_X8_copies G l (mG (mU σ 0 6 (σ 14 (493 * (ix k)))) 11 0 12 (fun z => (mU σ 0 6 (σ 14 (493 * (ix k)))) 14 (((493 * (ix k)) + 1) + z))) 14 13 1479 480 (((493 * (ix k)) + 1) + 12) 0 480 (((493 * k) + 1) + 12) 0 480 (by decide) (by decide) (by decide) (fun τ => cM_14 G τ) (fun τ => cM_13 G τ) (by decide) (by decide) (nadd (nadd (nmul (rfl : (493 : Int32) = nI 493) (ix_nI (by omega))) (rfl : (1 : Int32) = nI 1)) (rfl : (12 : Int32) = nI 12)) (rfl : (0 : Int32) = nI 0) (rfl : (480 : Int32) = nI 480) (by have q_0 := ix_toInt (show (0 : Int) ≤ (k).toInt by omega); omega) (by omega)) kw_X8_202 hd_X8_copies rfl ⟨rfl, rfl⟩ ⟨Nat.le_of_ble_eq_true rfl, Nat.le_of_ble_eq_true rfl⟩ ⟨Nat.zero_le _, Nat.zero_le _⟩ hl.1 (Nat.le_of_ble_eq_true rfl) rfl dX8_on_90 (fun u H locs hpq hP hS => ?_)
      have hpq := hpq.symm
      subst hpq
      refine lv_aload_n hx hb dX8_on_93 rfl (lv_at hl 0 rfl) ?_
      refine g8_117 ha hP 0 (by decide) (cM_0 G _) (v := .int (σ 14 (493 * (ix k)))) rfl dX8_on_94 ?_
      exact xiret ha hP hS dX8_on_97 ⟨by simp [n_on, u_on, mU_e, mG_e, t_1, u_2, i_leN, -Int32.not_lt], (by simp [n_on, u_on, mU_e, mG_e, t_1, u_2, i_leN, -Int32.not_lt])⟩ rfl
    · have t_2 := i_nle c_2
      have u_2 := u_nle c_2
      refine lv_aload_n hx hb dX8_on_27 rfl (lv_at hl 0 rfl) ?_
      refine lv_iconst (v := 1) hx hb dX8_on_28 (by decide) ?_
      refine xVi ha hP hS (y := yX8_found) (As := [.int 1]) (rest := []) 0 (by decide) (cM_0 G _) rfl rfl (c_X8_found G l σ 1 (by decide)) kw_X8_105 hd_X8_found rfl ⟨rfl, rfl⟩ ⟨Nat.le_of_ble_eq_true rfl, Nat.le_of_ble_eq_true rfl⟩ ⟨Nat.zero_le _, Nat.zero_le _⟩ hl.1 (Nat.le_of_ble_eq_true rfl) rfl dX8_on_29 (fun r u H locs hpq hP hS => ?_)
      obtain ⟨hr_, hu_⟩ := hpq
      have hr_ := hr_.symm
      have hu_ := hu_.symm
      subst hr_
      subst hu_
      exact xiret ha hP hS dX8_on_32 ⟨by simp [n_on, u_on, mU_e, mG_e, t_1, u_2, i_leN, -Int32.not_lt], (by simp [n_on, u_on, mU_e, mG_e, t_1, u_2, i_leN, -Int32.not_lt])⟩ rfl
  · have t_1 := b2i_f c_1
    have f_1 := bin_f t_1
    try simp only [Int32.toInt_toInt64, ll_0, ll_1, ll_2, ll_3, ll_4, ll_5, ll_9, ll_12, ll_20, ll_40, ll_57, ll_99, ll_2147483646] at f_1
    refine lv_iconst (v := (-1)) hx hb dX8_on_12 (by decide) ?_
    exact xiret ha hP hS dX8_on_13 ⟨by simp [n_on, u_on, mU_e, mG_e, t_1, i_leN, -Int32.not_lt], (by simp [n_on, u_on, mU_e, mG_e, t_1, i_leN, -Int32.not_lt])⟩ rfl
