theorem hd_X8_moves : kHd yX8_moves 1 := by decide +kernel
theorem hd_X8_whoMoves : kHd yX8_whoMoves 1 := by decide +kernel
theorem kw_X8_274 : ∀ w ∈ k5V RX8 274 yX8_whoMoves cX8_whoMoves 2 (some .int), w ∈ TB := tb_ins (by decide +kernel)
theorem kw_X8_277 : ∀ w ∈ k5V RX8 277 yX8_moves cX8_moves 4 (some .boolean), w ∈ TB := tb_ins (by decide +kernel)
set_option maxHeartbeats 800000 in
set_option maxRecDepth 100000 in
theorem c_X8_opens (G : GT) (l : Launch) (σ : Mem) (P : PT) (tt : Int32) (hpb : PB P) (hPV : pM σ = P) (htt : 0 ≤ tt.toInt ∧ tt.toInt ≤ 4) : CV G 24 (cM G) l yX8_opens ({ frames := 0, cells := 0, slots := 0, locals := 0 } : Room) cX8_opens 2 none [.ref (G.1 0), .int tt] σ (fun u => u = w_open σ tt) := by
  intro sz
  refine xbegin (by decide) (Nat.le_of_ble_eq_true rfl) ?_
  intro p e s m below meth c ls hsz ha hP hl
  subst hsz
  have hx := ha.1
  have hb := ha.2.1
  have hS : va_S (xA G 24 s.heap.size) s.heap s.heap [] := va_S.rf
  have hl : lv_has ls 2 [(0, .ref (G.1 0)), (1, .int tt)] := hl
  have k_m1000000 : (-1000000 : Int32).toInt = -1000000 := by decide
  have k_m1 : (-1 : Int32).toInt = -1 := by decide
  have k_0 : (0 : Int32).toInt = 0 := by decide
  have k_2 : (2 : Int32).toInt = 2 := by decide
  have k_4 : (4 : Int32).toInt = 4 := by decide
  have k_5 : (5 : Int32).toInt = 5 := by decide
  have k_6 : (6 : Int32).toInt = 6 := by decide
  have k_1000000 : (1000000 : Int32).toInt = 1000000 := by decide
  have hPL := PB_pl hpb
  have hPE := PB_pe hpb
  have hp4 := PV_pl hpb hPV
  have hp5 := PV_pe hpb hPV
  refine lv_aload_n hx hb dX8_opens_0 rfl (lv_at hl 0 rfl) ?_
  refine g8_74 ha hP 0 (by decide) (cM_0 G _) (v := .ref (G.1 21)) rfl dX8_opens_1 ?_
  refine lv_iload_n hx hb dX8_opens_4 rfl (lv_at hl 1 rfl) ?_
  refine lv_iconst (v := (-1)) hx hb dX8_opens_5 (by decide) ?_
  refine xiastN ha hP hS (cM_loc G) 21 (by decide) (fun τ => cM_21 G τ) (ix tt) (ix_nI (by omega)) (ix_lt (by omega) (by omega)) (by decide) dX8_opens_6 (fun H locs hP hS => ?_)
  refine lv_aload_n hx hb dX8_opens_7 rfl (lv_at hl 0 rfl) ?_
  refine g8_77 ha hP 0 (by decide) (cM_0 G _) (v := .ref (G.1 22)) rfl dX8_opens_8 ?_
  refine lv_iload_n hx hb dX8_opens_11 rfl (lv_at hl 1 rfl) ?_
  refine lv_iload_n hx hb dX8_opens_12 rfl (lv_at hl 1 rfl) ?_
  refine lv_iconst (v := 2) hx hb dX8_opens_13 (by decide) ?_
  refine lv_irem hx hb dX8_opens_14 (by decide) ?_
  have jn_1 : ∀ x_1 : Int32, x_1 = (if (tt - tt / 2 * 2) = 0 then (-1000000) else 1000000) → W p l e ({ frames := 0, cells := 0, slots := 0, locals := 0 } : Room) s m ([.ref (G.1 0), .int tt] : List Value).toArray below meth c H locs 0 0 (MQ below (va_Qv (fun u => u = w_open σ tt) (xB G 24 (cM G)) (xA G 24 s.heap.size)) ([.ref (G.1 0), .int tt] : List Value).toArray s 0 0 (xA G 24 s.heap.size)) (F0 m 26 ls [.int x_1, .int tt, .ref (G.1 22)]) := by
    intro x_1 ex_1
    refine xiastN ha hP hS (cM_loc G) 22 (by decide) (fun τ => cM_22 G τ) (ix tt) (ix_nI (by omega)) (ix_lt (by omega) (by omega)) (by decide) dX8_opens_26 (fun H locs hP hS => ?_)
    exact xvret ha hP hS dX8_opens_27 (by simp [w_open, ex_1])
  refine lv_if_ne (tgt := 24) hx hb dX8_opens_15 (by decide) (fun c_1 => ?_) (fun c_1 => ?_)
  · have t_1 := i_ne c_1
    refine lv_ldc (v := 1000000) hx hb ha.2.2.2.1 (ha.2.2.2.2.1 _ (tb_in (w := .constant RX8 254 1000000) (by decide +kernel))) dX8_opens_24 ?_
    exact jn_1 _ (if_neg c_1).symm
  · have t_1 := i_eq c_1
    refine lv_ldcw (v := (-1000000)) hx hb ha.2.2.2.1 (ha.2.2.2.2.1 _ (tb_in (w := .constant RX8 273 (-1000000)) (by decide +kernel))) dX8_opens_18 ?_
    refine lv_goto (tgt := 26) hx hb dX8_opens_21 (by decide) ?_
    exact jn_1 _ (if_pos c_1).symm
set_option maxHeartbeats 800000 in
set_option maxRecDepth 100000 in
theorem c_X8_whoMoves (G : GT) (l : Launch) (σ : Mem) (P : PT) (tt : Int32) (hpb : PB P) (hPV : pM σ = P) (htt : 0 ≤ tt.toInt ∧ tt.toInt ≤ 4) (hp0 : 0 < nPl P) : CI G 24 (cM G) l yX8_whoMoves ({ frames := 0, cells := 0, slots := 0, locals := 0 } : Room) cX8_whoMoves 2 (some .int) [.ref (G.1 0), .int tt] σ (fun (r : Int32) u => r = b_who P σ tt ∧ u = σ) := by
  intro sz
  refine xbegin (by decide) (Nat.le_of_ble_eq_true rfl) ?_
  intro p e s m below meth c ls hsz ha hP hl
  subst hsz
  have hx := ha.1
  have hb := ha.2.1
  have hS : va_S (xA G 24 s.heap.size) s.heap s.heap [] := va_S.rf
  have hl : lv_has ls 2 [(0, .ref (G.1 0)), (1, .int tt)] := hl
  have k_0 : (0 : Int32).toInt = 0 := by decide
  have k_1 : (1 : Int32).toInt = 1 := by decide
  have k_2 : (2 : Int32).toInt = 2 := by decide
  have k_4 : (4 : Int32).toInt = 4 := by decide
  have k_5 : (5 : Int32).toInt = 5 := by decide
  have k_6 : (6 : Int32).toInt = 6 := by decide
  have hPL := PB_pl hpb
  have hPE := PB_pe hpb
  have hp4 := PV_pl hpb hPV
  have hp5 := PV_pe hpb hPV
  have p4 := PV_4 hPV
  have p5 := PV_5 hPV
  refine lv_iload_n hx hb dX8_whoMoves_0 rfl (lv_at hl 1 rfl) ?_
  refine lv_iconst (v := 2) hx hb dX8_whoMoves_1 (by decide) ?_
  refine lv_irem hx hb dX8_whoMoves_2 (by decide) ?_
  have jn_1 : ∀ x_1 : Int32, x_1 = (if (tt - tt / 2 * 2) = 0 then (((σ 21 (ix tt)) - 1) / (σ 0 4)) else ((σ 21 (ix tt)) - 1)) → W p l e ({ frames := 0, cells := 0, slots := 0, locals := 0 } : Room) s m ([.ref (G.1 0), .int tt] : List Value).toArray below meth c s.heap [] 0 0 (MQ below (va_Qi (fun (r : Int32) u => r = b_who P σ tt ∧ u = σ) (xB G 24 (cM G)) (xA G 24 s.heap.size)) ([.ref (G.1 0), .int tt] : List Value).toArray s 0 0 (xA G 24 s.heap.size)) (F0 m 30 ls [.int x_1]) := by
    intro x_1 ex_1
    exact xiret ha hP hS dX8_whoMoves_30 ⟨by simp [b_who, ← p4, ex_1], rfl⟩ rfl
  refine lv_if_ne (tgt := 22) hx hb dX8_whoMoves_3 (by decide) (fun c_1 => ?_) (fun c_1 => ?_)
  · have t_1 := i_ne c_1
    refine lv_aload_n hx hb dX8_whoMoves_22 rfl (lv_at hl 0 rfl) ?_
    refine g8_74 ha hP 0 (by decide) (cM_0 G _) (v := .ref (G.1 21)) rfl dX8_whoMoves_23 ?_
    refine lv_iload_n hx hb dX8_whoMoves_26 rfl (lv_at hl 1 rfl) ?_
    refine xialdN ha hP 21 (by decide) (cM_21 G _) (ix tt) (ix_nI (by omega)) (ix_lt (by omega) (by omega)) (by decide) dX8_whoMoves_27 ?_
    refine lv_iconst (v := 1) hx hb dX8_whoMoves_28 (by decide) ?_
    refine lv_isub hx hb dX8_whoMoves_29 ?_
    exact jn_1 _ (if_neg c_1).symm
  · have t_1 := i_eq c_1
    refine lv_aload_n hx hb dX8_whoMoves_6 rfl (lv_at hl 0 rfl) ?_
    refine g8_74 ha hP 0 (by decide) (cM_0 G _) (v := .ref (G.1 21)) rfl dX8_whoMoves_7 ?_
    refine lv_iload_n hx hb dX8_whoMoves_10 rfl (lv_at hl 1 rfl) ?_
    refine xialdN ha hP 21 (by decide) (cM_21 G _) (ix tt) (ix_nI (by omega)) (ix_lt (by omega) (by omega)) (by decide) dX8_whoMoves_11 ?_
    refine lv_iconst (v := 1) hx hb dX8_whoMoves_12 (by decide) ?_
    refine lv_isub hx hb dX8_whoMoves_13 ?_
    refine lv_aload_n hx hb dX8_whoMoves_14 rfl (lv_at hl 0 rfl) ?_
    refine g8_163 ha hP 0 (by decide) (cM_0 G _) (v := .int (σ 0 4)) rfl dX8_whoMoves_15 ?_
    refine lv_idiv hx hb dX8_whoMoves_18 (i_nz (by omega)) ?_
    refine lv_goto (tgt := 30) hx hb dX8_whoMoves_19 (by decide) ?_
    exact jn_1 _ (if_pos c_1).symm
set_option maxHeartbeats 800000 in
set_option maxRecDepth 100000 in
theorem c_X8_moves (G : GT) (l : Launch) (σ : Mem) (P : PT) (tt : Int32) (hpb : PB P) (hPV : pM σ = P) (htt : 0 ≤ tt.toInt ∧ tt.toInt ≤ 4) (hp0 : 0 < nPl P) (hm0 : 0 ≤ (σ 21 (ix tt)).toInt) (hm1 : (σ 21 (ix tt)).toInt ≤ (b_most P tt).toInt) : CI G 24 (cM G) l yX8_moves ({ frames := 2, cells := 0, slots := 0, locals := 42 } : Room) cX8_moves 4 (some .boolean) [.ref (G.1 0), .int tt] σ (fun (r : Int32) u => r = b2i (b_mv P σ tt) ∧ u = w_mv P σ tt) := by
  intro sz
  refine xbegin (by decide) (Nat.le_of_ble_eq_true rfl) ?_
  intro p e s m below meth c ls hsz ha hP hl
  subst hsz
  have hx := ha.1
  have hb := ha.2.1
  have hS : va_S (xA G 24 s.heap.size) s.heap s.heap [] := va_S.rf
  have hl : lv_has ls 4 [(0, .ref (G.1 0)), (1, .int tt)] := hl
  have k_m9 : (-9 : Int32).toInt = -9 := by decide
  have k_0 : (0 : Int32).toInt = 0 := by decide
  have k_1 : (1 : Int32).toInt = 1 := by decide
  have k_2 : (2 : Int32).toInt = 2 := by decide
  have k_4 : (4 : Int32).toInt = 4 := by decide
  have k_5 : (5 : Int32).toInt = 5 := by decide
  have k_6 : (6 : Int32).toInt = 6 := by decide
  have hPL := PB_pl hpb
  have hPE := PB_pe hpb
  have hp4 := PV_pl hpb hPV
  have hp5 := PV_pe hpb hPV
  have p4 := PV_4 hPV
  have p5 := PV_5 hPV
  refine lv_aload_n hx hb dX8_moves_0 rfl (lv_at hl 0 rfl) ?_
  refine g8_74 ha hP 0 (by decide) (cM_0 G _) (v := .ref (G.1 21)) rfl dX8_moves_1 ?_
  refine lv_iload_n hx hb dX8_moves_4 rfl (lv_at hl 1 rfl) ?_
  refine xialdN ha hP 21 (by decide) (cM_21 G _) (ix tt) (ix_nI (by omega)) (ix_lt (by omega) (by omega)) (by decide) dX8_moves_5 ?_
  refine lv_if_ne (tgt := 11) hx hb dX8_moves_6 (by decide) (fun c_1 => ?_) (fun c_1 => ?_)
  · have t_1 := i_ne c_1
    have hm2 : 1 ≤ (σ 21 (ix tt)).toInt := by omega
    have hwo := who_ok hpb hp0 hm2 hm1
    have hwi := ix_toInt hwo.1.1
    refine lv_iconst (v := 5) hx hb dX8_moves_11 (by decide) ?_
    refine lv_aload_n hx hb dX8_moves_12 rfl (lv_at hl 0 rfl) ?_
    refine lv_iload_n hx hb dX8_moves_13 rfl (lv_at hl 1 rfl) ?_
    refine xVi ha hP hS (y := yX8_whoMoves) (As := [.int tt]) (rest := [.int 5]) 0 (by decide) (cM_0 G _) rfl rfl (c_X8_whoMoves G l σ P tt hpb hPV htt hp0) kw_X8_274 hd_X8_whoMoves rfl ⟨rfl, rfl⟩ ⟨Nat.le_of_ble_eq_true rfl, Nat.le_of_ble_eq_true rfl⟩ ⟨Nat.zero_le _, Nat.zero_le _⟩ hl.1 (Nat.le_of_ble_eq_true rfl) rfl dX8_moves_14 (fun r u H locs hpq hP hS => ?_)
    obtain ⟨hr_, hu_⟩ := hpq
    have hr_ := hr_.symm
    have hu_ := hu_.symm
    subst hr_
    subst hu_
    refine lv_iadd hx hb dX8_moves_17 ?_
    refine lv_istore_n (lv' := [(2, .int (5 + (b_who P σ tt))), (0, .ref (G.1 0)), (1, .int tt)]) hx hb dX8_moves_18 rfl hl (by decide) rfl (fun ls hl => ?_)
    refine lv_iload_n hx hb dX8_moves_19 rfl (lv_at hl 2 rfl) ?_
    refine lv_iconst (v := 2) hx hb dX8_moves_20 (by decide) ?_
    refine lv_irem hx hb dX8_moves_21 (by decide) ?_
    have jn_2 : ∀ x_2 : Int32, x_2 = (if (tt - tt / 2 * 2) = 0 then (((σ 21 (ix tt)) - 1) - ((σ 21 (ix tt)) - 1) / (σ 0 4) * (σ 0 4)) else (-9)) → W p l e ({ frames := 2, cells := 0, slots := 0, locals := 42 } : Room) s m ([.ref (G.1 0), .int tt] : List Value).toArray below meth c H locs 0 0 (MQ below (va_Qi (fun (r : Int32) u => r = b2i (b_mv P σ tt) ∧ u = w_mv P σ tt) (xB G 24 (cM G)) (xA G 24 s.heap.size)) ([.ref (G.1 0), .int tt] : List Value).toArray s 0 0 (xA G 24 s.heap.size)) (F0 m 43 ls [.int x_2]) := by
      intro x_2 ex_2
      have hx_2 : x_2 = (b_to P σ tt) := (by rw [ex_2, p4]; rfl)
      clear ex_2
      subst hx_2
      refine lv_istore_n (lv' := [(3, .int (b_to P σ tt)), (2, .int (5 + (b_who P σ tt))), (0, .ref (G.1 0)), (1, .int tt)]) hx hb dX8_moves_43 rfl hl (by decide) rfl (fun ls hl => ?_)
      refine lv_aload_n hx hb dX8_moves_44 rfl (lv_at hl 2 rfl) ?_
      refine g8_47 ha hP 0 (by decide) (cM_0 G _) (v := .ref (G.1 12)) rfl dX8_moves_45 ?_
      refine lv_iload_n hx hb dX8_moves_48 rfl (lv_at hl 1 rfl) ?_
      refine xialdN ha hP 12 (by decide) (cM_12 G _) (5 + (ix (b_who P σ tt))) (nadd (rfl : (5 : Int32) = nI 5) (ix_nI (by omega))) (by have q_0 := ix_toInt (show (0 : Int) ≤ (b_who P σ tt).toInt by omega); omega) (by decide) dX8_moves_49 ?_
      refine lv_bipush (v := (-9)) hx hb dX8_moves_50 (by decide) ?_
      have jn_3 : ∀ x_3 : Int32, x_3 = (if (σ 12 (5 + (ix (b_who P σ tt)))) = (-9) then 1 else 0) → W p l e ({ frames := 2, cells := 0, slots := 0, locals := 42 } : Room) s m ([.ref (G.1 0), .int tt] : List Value).toArray below meth c H locs 0 0 (MQ below (va_Qi (fun (r : Int32) u => r = b2i (b_mv P σ tt) ∧ u = w_mv P σ tt) (xB G 24 (cM G)) (xA G 24 s.heap.size)) ([.ref (G.1 0), .int tt] : List Value).toArray s 0 0 (xA G 24 s.heap.size)) (F0 m 60 ls [.int x_3]) := by
        intro x_3 ex_3
        refine lv_iload_n hx hb dX8_moves_60 rfl (lv_at hl 3 rfl) ?_
        refine lv_iconst (v := 2) hx hb dX8_moves_61 (by decide) ?_
        refine lv_irem hx hb dX8_moves_62 (by decide) ?_
        have jn_4 : ∀ x_4 : Int32, x_4 = (if (tt - tt / 2 * 2) = 0 then 1 else 0) → W p l e ({ frames := 2, cells := 0, slots := 0, locals := 42 } : Room) s m ([.ref (G.1 0), .int tt] : List Value).toArray below meth c H locs 0 0 (MQ below (va_Qi (fun (r : Int32) u => r = b2i (b_mv P σ tt) ∧ u = w_mv P σ tt) (xB G 24 (cM G)) (xA G 24 s.heap.size)) ([.ref (G.1 0), .int tt] : List Value).toArray s 0 0 (xA G 24 s.heap.size)) (F0 m 71 ls [.int x_4, .int x_3]) := by
          intro x_4 ex_4
          refine lv_icmp_ne (tgt := 91) hx hb dX8_moves_71 (by decide) (fun c_5 => ?_) (fun c_5 => ?_)
          · have t_5 := i_ne c_5
            have c9 := c_5
            rw [ex_3, ex_4] at c9
            refine lv_iconst (v := 0) hx hb dX8_moves_91 (by decide) ?_
            exact xzret ha hP hS rfl dX8_moves_92 ⟨by unfold b_mv; simp [c_1, ex_3, ex_4, c_5, c9, b2i], (by unfold w_mv; simp [c_1, ex_3, ex_4, c_5, c9, b_mv, w_mv1])⟩ rfl
          · have t_5 := i_eq c_5
            have c9 := c_5
            rw [ex_3, ex_4] at c9
            refine lv_iload_n hx hb dX8_moves_74 rfl (lv_at hl 0 rfl) ?_
            refine lv_bipush (v := (-9)) hx hb dX8_moves_75 (by decide) ?_
            refine lv_icmp_eq (tgt := 93) hx hb dX8_moves_77 (by decide) (fun c_6 => ?_) (fun c_6 => ?_)
            · have t_6 := i_eq c_6
              refine lv_aload_n hx hb dX8_moves_93 rfl (lv_at hl 2 rfl) ?_
              refine g8_80 ha hP 0 (by decide) (cM_0 G _) (v := .ref (G.1 23)) rfl dX8_moves_94 ?_
              refine lv_iload_n hx hb dX8_moves_97 rfl (lv_at hl 3 rfl) ?_
              refine lv_aload_n hx hb dX8_moves_98 rfl (lv_at hl 2 rfl) ?_
              refine g8_47 ha hP 0 (by decide) (cM_0 G _) (v := .ref (G.1 12)) rfl dX8_moves_99 ?_
              refine lv_iload_n hx hb dX8_moves_102 rfl (lv_at hl 1 rfl) ?_
              refine xialdN ha hP 12 (by decide) (cM_12 G _) (5 + (ix (b_who P σ tt))) (nadd (rfl : (5 : Int32) = nI 5) (ix_nI (by omega))) (by have q_0 := ix_toInt (show (0 : Int) ≤ (b_who P σ tt).toInt by omega); omega) (by decide) dX8_moves_103 ?_
              refine xiastN ha hP hS (cM_loc G) 23 (by decide) (fun τ => cM_23 G τ) (ix tt) (ix_nI (by omega)) (ix_lt (by omega) (by omega)) (by decide) dX8_moves_104 (fun H locs hP hS => ?_)
              refine lv_aload_n hx hb dX8_moves_105 rfl (lv_at hl 2 rfl) ?_
              refine g8_47 ha hP 0 (by decide) (cM_0 G _) (v := .ref (G.1 12)) rfl dX8_moves_106 ?_
              refine lv_iload_n hx hb dX8_moves_109 rfl (lv_at hl 1 rfl) ?_
              refine lv_iload_n hx hb dX8_moves_110 rfl (lv_at hl 0 rfl) ?_
              refine xiastN ha hP hS (cM_loc G) 12 (by decide) (fun τ => cM_12 G τ) (5 + (ix (b_who P σ tt))) (nadd (rfl : (5 : Int32) = nI 5) (ix_nI (by omega))) (by have q_0 := ix_toInt (show (0 : Int) ≤ (b_who P σ tt).toInt by omega); omega) (by decide) dX8_moves_111 (fun H locs hP hS => ?_)
              refine lv_iconst (v := 1) hx hb dX8_moves_112 (by decide) ?_
              exact xzret ha hP hS rfl dX8_moves_113 ⟨by unfold b_mv; simp [c_1, ex_3, ex_4, c_5, c9, c_6, b2i], (by unfold w_mv; simp [c_1, ex_3, ex_4, c_5, c9, c_6, b_mv, w_mv1])⟩ rfl
            · have t_6 := i_ne c_6
              have hpk := hwo.2.resolve_left c_6
              refine lv_aload_n hx hb dX8_moves_80 rfl (lv_at hl 2 rfl) ?_
              refine g8_47 ha hP 0 (by decide) (cM_0 G _) (v := .ref (G.1 12)) rfl dX8_moves_81 ?_
              refine lv_iload_n hx hb dX8_moves_84 rfl (lv_at hl 0 rfl) ?_
              refine xSi ha hP hS (y := yX8_isUp) (As := [.ref (G.1 12), .int (b_to P σ tt)]) (rest := []) rfl (c_X8_isUp G l σ P 12 (b_to P σ tt) hpb hPV (by unfold oT; omega) hpk) kw_X8_192 hd_X8_isUp rfl ⟨rfl, rfl⟩ ⟨Nat.le_of_ble_eq_true rfl, Nat.le_of_ble_eq_true rfl⟩ ⟨Nat.zero_le _, Nat.zero_le _⟩ hl.1 (Nat.le_of_ble_eq_true rfl) rfl dX8_moves_85 (fun r u H locs hpq hP hS => ?_)
              obtain ⟨hr_, hu_⟩ := hpq
              have hr_ := hr_.symm
              have hu_ := hu_.symm
              subst hr_
              subst hu_
              refine lv_if_ne (tgt := 93) hx hb dX8_moves_88 (by decide) (fun c_7 => ?_) (fun c_7 => ?_)
              · have t_7 := b2i_t c_7
                refine lv_aload_n hx hb dX8_moves_93 rfl (lv_at hl 2 rfl) ?_
                refine g8_80 ha hP 0 (by decide) (cM_0 G _) (v := .ref (G.1 23)) rfl dX8_moves_94 ?_
                refine lv_iload_n hx hb dX8_moves_97 rfl (lv_at hl 3 rfl) ?_
                refine lv_aload_n hx hb dX8_moves_98 rfl (lv_at hl 2 rfl) ?_
                refine g8_47 ha hP 0 (by decide) (cM_0 G _) (v := .ref (G.1 12)) rfl dX8_moves_99 ?_
                refine lv_iload_n hx hb dX8_moves_102 rfl (lv_at hl 1 rfl) ?_
                refine xialdN ha hP 12 (by decide) (cM_12 G _) (5 + (ix (b_who P σ tt))) (nadd (rfl : (5 : Int32) = nI 5) (ix_nI (by omega))) (by have q_0 := ix_toInt (show (0 : Int) ≤ (b_who P σ tt).toInt by omega); omega) (by decide) dX8_moves_103 ?_
                refine xiastN ha hP hS (cM_loc G) 23 (by decide) (fun τ => cM_23 G τ) (ix tt) (ix_nI (by omega)) (ix_lt (by omega) (by omega)) (by decide) dX8_moves_104 (fun H locs hP hS => ?_)
                refine lv_aload_n hx hb dX8_moves_105 rfl (lv_at hl 2 rfl) ?_
                refine g8_47 ha hP 0 (by decide) (cM_0 G _) (v := .ref (G.1 12)) rfl dX8_moves_106 ?_
                refine lv_iload_n hx hb dX8_moves_109 rfl (lv_at hl 1 rfl) ?_
                refine lv_iload_n hx hb dX8_moves_110 rfl (lv_at hl 0 rfl) ?_
                refine xiastN ha hP hS (cM_loc G) 12 (by decide) (fun τ => cM_12 G τ) (5 + (ix (b_who P σ tt))) (nadd (rfl : (5 : Int32) = nI 5) (ix_nI (by omega))) (by have q_0 := ix_toInt (show (0 : Int) ≤ (b_who P σ tt).toInt by omega); omega) (by decide) dX8_moves_111 (fun H locs hP hS => ?_)
                refine lv_iconst (v := 1) hx hb dX8_moves_112 (by decide) ?_
                exact xzret ha hP hS rfl dX8_moves_113 ⟨by unfold b_mv; simp [c_1, ex_3, ex_4, c_5, c9, c_6, t_7, b2i], (by unfold w_mv; simp [c_1, ex_3, ex_4, c_5, c9, c_6, t_7, b_mv, w_mv1])⟩ rfl
              · have t_7 := b2i_f c_7
                refine lv_iconst (v := 0) hx hb dX8_moves_91 (by decide) ?_
                exact xzret ha hP hS rfl dX8_moves_92 ⟨by unfold b_mv; simp [c_1, ex_3, ex_4, c_5, c9, c_6, t_7, b2i], (by unfold w_mv; simp [c_1, ex_3, ex_4, c_5, c9, c_6, t_7, b_mv, w_mv1])⟩ rfl
        refine lv_if_ne (tgt := 70) hx hb dX8_moves_63 (by decide) (fun c_4 => ?_) (fun c_4 => ?_)
        · have t_4 := i_ne c_4
          refine lv_iconst (v := 0) hx hb dX8_moves_70 (by decide) ?_
          exact jn_4 _ (if_neg c_4).symm
        · have t_4 := i_eq c_4
          refine lv_iconst (v := 1) hx hb dX8_moves_66 (by decide) ?_
          refine lv_goto (tgt := 71) hx hb dX8_moves_67 (by decide) ?_
          exact jn_4 _ (if_pos c_4).symm
      refine lv_icmp_ne (tgt := 59) hx hb dX8_moves_52 (by decide) (fun c_3 => ?_) (fun c_3 => ?_)
      · have t_3 := i_ne c_3
        refine lv_iconst (v := 0) hx hb dX8_moves_59 (by decide) ?_
        exact jn_3 _ (if_neg c_3).symm
      · have t_3 := i_eq c_3
        refine lv_iconst (v := 1) hx hb dX8_moves_55 (by decide) ?_
        refine lv_goto (tgt := 60) hx hb dX8_moves_56 (by decide) ?_
        exact jn_3 _ (if_pos c_3).symm
    refine lv_if_ne (tgt := 41) hx hb dX8_moves_22 (by decide) (fun c_2 => ?_) (fun c_2 => ?_)
    · have t_2 := i_ne c_2
      refine lv_bipush (v := (-9)) hx hb dX8_moves_41 (by decide) ?_
      exact jn_2 _ (if_neg c_2).symm
    · have t_2 := i_eq c_2
      refine lv_aload_n hx hb dX8_moves_25 rfl (lv_at hl 1 rfl) ?_
      refine g8_74 ha hP 0 (by decide) (cM_0 G _) (v := .ref (G.1 21)) rfl dX8_moves_26 ?_
      refine lv_iload_n hx hb dX8_moves_29 rfl (lv_at hl 2 rfl) ?_
      refine xialdN ha hP 21 (by decide) (cM_21 G _) (ix tt) (ix_nI (by omega)) (ix_lt (by omega) (by omega)) (by decide) dX8_moves_30 ?_
      refine lv_iconst (v := 1) hx hb dX8_moves_31 (by decide) ?_
      refine lv_isub hx hb dX8_moves_32 ?_
      refine lv_aload_n hx hb dX8_moves_33 rfl (lv_at hl 1 rfl) ?_
      refine g8_163 ha hP 0 (by decide) (cM_0 G _) (v := .int (σ 0 4)) rfl dX8_moves_34 ?_
      refine lv_irem hx hb dX8_moves_37 (i_nz (by omega)) ?_
      refine lv_goto (tgt := 43) hx hb dX8_moves_38 (by decide) ?_
      exact jn_2 _ (if_pos c_2).symm
  · have t_1 := i_eq c_1
    refine lv_iconst (v := 1) hx hb dX8_moves_9 (by decide) ?_
    exact xzret ha hP hS rfl dX8_moves_10 ⟨by unfold b_mv; simp [c_1, b2i], (by unfold w_mv; simp [c_1, b_mv, w_mv1])⟩ rfl
set_option maxHeartbeats 800000 in
set_option maxRecDepth 100000 in
theorem c_X8_weighs (G : GT) (l : Launch) (σ : Mem) (P : PT) (tt : Int32) (came : Int32) (hpb : PB P) (hPV : pM σ = P) (htt : 0 ≤ tt.toInt ∧ tt.toInt ≤ 4) (hp0 : 0 < nPl P) (hm1 : (σ 21 (ix tt)).toInt ≤ (b_most P tt).toInt) : CV G 24 (cM G) l yX8_weighs ({ frames := 1, cells := 0, slots := 0, locals := 21 } : Room) cX8_weighs 4 none [.ref (G.1 0), .int tt, .int came] σ (fun u => u = w_wg P σ tt came) := by
  intro sz
  refine xbegin (by decide) (Nat.le_of_ble_eq_true rfl) ?_
  intro p e s m below meth c ls hsz ha hP hl
  subst hsz
  have hx := ha.1
  have hb := ha.2.1
  have hS : va_S (xA G 24 s.heap.size) s.heap s.heap [] := va_S.rf
  have hl : lv_has ls 4 [(0, .ref (G.1 0)), (1, .int tt), (2, .int came)] := hl
  have k_0 : (0 : Int32).toInt = 0 := by decide
  have k_1 : (1 : Int32).toInt = 1 := by decide
  have k_2 : (2 : Int32).toInt = 2 := by decide
  have k_4 : (4 : Int32).toInt = 4 := by decide
  have k_5 : (5 : Int32).toInt = 5 := by decide
  have k_6 : (6 : Int32).toInt = 6 := by decide
  have hPL := PB_pl hpb
  have hPE := PB_pe hpb
  have hp4 := PV_pl hpb hPV
  have hp5 := PV_pe hpb hPV
  refine lv_aload_n hx hb dX8_weighs_0 rfl (lv_at hl 0 rfl) ?_
  refine g8_74 ha hP 0 (by decide) (cM_0 G _) (v := .ref (G.1 21)) rfl dX8_weighs_1 ?_
  refine lv_iload_n hx hb dX8_weighs_4 rfl (lv_at hl 1 rfl) ?_
  refine xialdN ha hP 21 (by decide) (cM_21 G _) (ix tt) (ix_nI (by omega)) (ix_lt (by omega) (by omega)) (by decide) dX8_weighs_5 ?_
  refine lv_if_le (tgt := 27) hx hb dX8_weighs_6 (by decide) (fun c_1 => ?_) (fun c_1 => ?_)
  · have t_1 := i_le c_1
    have u_1 := u_le c_1
    refine lv_iload_n hx hb dX8_weighs_27 rfl (lv_at hl 1 rfl) ?_
    refine lv_iconst (v := 2) hx hb dX8_weighs_28 (by decide) ?_
    refine lv_irem hx hb dX8_weighs_29 (by decide) ?_
    refine lv_if_ne (tgt := 51) hx hb dX8_weighs_30 (by decide) (fun c_2 => ?_) (fun c_2 => ?_)
    · have t_2 := i_ne c_2
      refine lv_iload_n hx hb dX8_weighs_51 rfl (lv_at hl 2 rfl) ?_
      refine lv_aload_n hx hb dX8_weighs_52 rfl (lv_at hl 0 rfl) ?_
      refine g8_77 ha hP 0 (by decide) (cM_0 G _) (v := .ref (G.1 22)) rfl dX8_weighs_53 ?_
      refine lv_iload_n hx hb dX8_weighs_56 rfl (lv_at hl 1 rfl) ?_
      refine xialdN ha hP 22 (by decide) (cM_22 G _) (ix tt) (ix_nI (by omega)) (ix_lt (by omega) (by omega)) (by decide) dX8_weighs_57 ?_
      refine lv_icmp_ge (tgt := 65) hx hb dX8_weighs_58 (by decide) (fun c_3 => ?_) (fun c_3 => ?_)
      · have t_3 := i_le c_3
        have u_3 := u_le c_3
        have c9 := u_3
        (try simp [mU_e, -Int32.not_lt] at c9)
        refine lv_iconst (v := 0) hx hb dX8_weighs_65 (by decide) ?_
        refine lv_istore_n (lv' := [(3, .int 0), (0, .ref (G.1 0)), (1, .int tt), (2, .int came)]) hx hb dX8_weighs_66 rfl hl (by decide) rfl (fun ls hl => ?_)
        refine lv_aload_n hx hb dX8_weighs_67 rfl (lv_at hl 1 rfl) ?_
        refine g8_77 ha hP 0 (by decide) (cM_0 G _) (v := .ref (G.1 22)) rfl dX8_weighs_68 ?_
        refine lv_iload_n hx hb dX8_weighs_71 rfl (lv_at hl 2 rfl) ?_
        refine lv_iload_n hx hb dX8_weighs_72 rfl (lv_at hl 0 rfl) ?_
        refine lv_if_eq (tgt := 80) hx hb dX8_weighs_73 (by decide) (fun c_4 => ?_) (fun c_4 => ?_)
        · have t_4 := i_eq c_4
          refine lv_aload_n hx hb dX8_weighs_80 rfl (lv_at hl 1 rfl) ?_
          refine g8_77 ha hP 0 (by decide) (cM_0 G _) (v := .ref (G.1 22)) rfl dX8_weighs_81 ?_
          refine lv_iload_n hx hb dX8_weighs_84 rfl (lv_at hl 2 rfl) ?_
          refine xialdN ha hP 22 (by decide) (cM_22 G _) (ix tt) (ix_nI (by omega)) (ix_lt (by omega) (by omega)) (by decide) dX8_weighs_85 ?_
          refine xiastN ha hP hS (cM_loc G) 22 (by decide) (fun τ => cM_22 G τ) (ix tt) (ix_nI (by omega)) (ix_lt (by omega) (by omega)) (by decide) dX8_weighs_86 (fun H locs hP hS => ?_)
          exact xvret ha hP hS dX8_weighs_87 (by unfold w_wg w_wg1; simp [u_1, c_2, u_3, c9, mU_e, -Int32.not_lt])
        · have t_4 := i_ne c_4
          exact absurd c_4 (by decide)
      · have t_3 := i_nle c_3
        have u_3 := u_nle c_3
        have c9 := u_3
        (try simp [mU_e, -Int32.not_lt] at c9)
        refine lv_iconst (v := 1) hx hb dX8_weighs_61 (by decide) ?_
        refine lv_goto (tgt := 66) hx hb dX8_weighs_62 (by decide) ?_
        refine lv_istore_n (lv' := [(3, .int 1), (0, .ref (G.1 0)), (1, .int tt), (2, .int came)]) hx hb dX8_weighs_66 rfl hl (by decide) rfl (fun ls hl => ?_)
        refine lv_aload_n hx hb dX8_weighs_67 rfl (lv_at hl 1 rfl) ?_
        refine g8_77 ha hP 0 (by decide) (cM_0 G _) (v := .ref (G.1 22)) rfl dX8_weighs_68 ?_
        refine lv_iload_n hx hb dX8_weighs_71 rfl (lv_at hl 2 rfl) ?_
        refine lv_iload_n hx hb dX8_weighs_72 rfl (lv_at hl 0 rfl) ?_
        refine lv_if_eq (tgt := 80) hx hb dX8_weighs_73 (by decide) (fun c_5 => ?_) (fun c_5 => ?_)
        · have t_5 := i_eq c_5
          exact absurd c_5 (by decide)
        · have t_5 := i_ne c_5
          refine lv_iload_n hx hb dX8_weighs_76 rfl (lv_at hl 3 rfl) ?_
          refine lv_goto (tgt := 86) hx hb dX8_weighs_77 (by decide) ?_
          refine xiastN ha hP hS (cM_loc G) 22 (by decide) (fun τ => cM_22 G τ) (ix tt) (ix_nI (by omega)) (ix_lt (by omega) (by omega)) (by decide) dX8_weighs_86 (fun H locs hP hS => ?_)
          exact xvret ha hP hS dX8_weighs_87 (by unfold w_wg w_wg1; simp [u_1, c_2, u_3, c9, mU_e, -Int32.not_lt])
    · have t_2 := i_eq c_2
      refine lv_iload_n hx hb dX8_weighs_33 rfl (lv_at hl 2 rfl) ?_
      refine lv_aload_n hx hb dX8_weighs_34 rfl (lv_at hl 0 rfl) ?_
      refine g8_77 ha hP 0 (by decide) (cM_0 G _) (v := .ref (G.1 22)) rfl dX8_weighs_35 ?_
      refine lv_iload_n hx hb dX8_weighs_38 rfl (lv_at hl 1 rfl) ?_
      refine xialdN ha hP 22 (by decide) (cM_22 G _) (ix tt) (ix_nI (by omega)) (ix_lt (by omega) (by omega)) (by decide) dX8_weighs_39 ?_
      refine lv_icmp_le (tgt := 47) hx hb dX8_weighs_40 (by decide) (fun c_6 => ?_) (fun c_6 => ?_)
      · have t_6 := i_le c_6
        have u_6 := u_le c_6
        have c9 := u_6
        (try simp [mU_e, -Int32.not_lt] at c9)
        refine lv_iconst (v := 0) hx hb dX8_weighs_47 (by decide) ?_
        refine lv_goto (tgt := 66) hx hb dX8_weighs_48 (by decide) ?_
        refine lv_istore_n (lv' := [(3, .int 0), (0, .ref (G.1 0)), (1, .int tt), (2, .int came)]) hx hb dX8_weighs_66 rfl hl (by decide) rfl (fun ls hl => ?_)
        refine lv_aload_n hx hb dX8_weighs_67 rfl (lv_at hl 1 rfl) ?_
        refine g8_77 ha hP 0 (by decide) (cM_0 G _) (v := .ref (G.1 22)) rfl dX8_weighs_68 ?_
        refine lv_iload_n hx hb dX8_weighs_71 rfl (lv_at hl 2 rfl) ?_
        refine lv_iload_n hx hb dX8_weighs_72 rfl (lv_at hl 0 rfl) ?_
        refine lv_if_eq (tgt := 80) hx hb dX8_weighs_73 (by decide) (fun c_7 => ?_) (fun c_7 => ?_)
        · have t_7 := i_eq c_7
          refine lv_aload_n hx hb dX8_weighs_80 rfl (lv_at hl 1 rfl) ?_
          refine g8_77 ha hP 0 (by decide) (cM_0 G _) (v := .ref (G.1 22)) rfl dX8_weighs_81 ?_
          refine lv_iload_n hx hb dX8_weighs_84 rfl (lv_at hl 2 rfl) ?_
          refine xialdN ha hP 22 (by decide) (cM_22 G _) (ix tt) (ix_nI (by omega)) (ix_lt (by omega) (by omega)) (by decide) dX8_weighs_85 ?_
          refine xiastN ha hP hS (cM_loc G) 22 (by decide) (fun τ => cM_22 G τ) (ix tt) (ix_nI (by omega)) (ix_lt (by omega) (by omega)) (by decide) dX8_weighs_86 (fun H locs hP hS => ?_)
          exact xvret ha hP hS dX8_weighs_87 (by unfold w_wg w_wg1; simp [u_1, c_2, u_6, c9, mU_e, -Int32.not_lt])
        · have t_7 := i_ne c_7
          exact absurd c_7 (by decide)
      · have t_6 := i_nle c_6
        have u_6 := u_nle c_6
        have c9 := u_6
        (try simp [mU_e, -Int32.not_lt] at c9)
        refine lv_iconst (v := 1) hx hb dX8_weighs_43 (by decide) ?_
        refine lv_goto (tgt := 66) hx hb dX8_weighs_44 (by decide) ?_
        refine lv_istore_n (lv' := [(3, .int 1), (0, .ref (G.1 0)), (1, .int tt), (2, .int came)]) hx hb dX8_weighs_66 rfl hl (by decide) rfl (fun ls hl => ?_)
        refine lv_aload_n hx hb dX8_weighs_67 rfl (lv_at hl 1 rfl) ?_
        refine g8_77 ha hP 0 (by decide) (cM_0 G _) (v := .ref (G.1 22)) rfl dX8_weighs_68 ?_
        refine lv_iload_n hx hb dX8_weighs_71 rfl (lv_at hl 2 rfl) ?_
        refine lv_iload_n hx hb dX8_weighs_72 rfl (lv_at hl 0 rfl) ?_
        refine lv_if_eq (tgt := 80) hx hb dX8_weighs_73 (by decide) (fun c_8 => ?_) (fun c_8 => ?_)
        · have t_8 := i_eq c_8
          exact absurd c_8 (by decide)
        · have t_8 := i_ne c_8
          refine lv_iload_n hx hb dX8_weighs_76 rfl (lv_at hl 3 rfl) ?_
          refine lv_goto (tgt := 86) hx hb dX8_weighs_77 (by decide) ?_
          refine xiastN ha hP hS (cM_loc G) 22 (by decide) (fun τ => cM_22 G τ) (ix tt) (ix_nI (by omega)) (ix_lt (by omega) (by omega)) (by decide) dX8_weighs_86 (fun H locs hP hS => ?_)
          exact xvret ha hP hS dX8_weighs_87 (by unfold w_wg w_wg1; simp [u_1, c_2, u_6, c9, mU_e, -Int32.not_lt])
  · have t_1 := i_nle c_1
    have u_1 := u_nle c_1
    have hwo := who_ok hpb hp0 (σ := σ) (tt := tt) (by omega) hm1
    have hwi := ix_toInt hwo.1.1
    refine lv_aload_n hx hb dX8_weighs_9 rfl (lv_at hl 0 rfl) ?_
    refine g8_47 ha hP 0 (by decide) (cM_0 G _) (v := .ref (G.1 12)) rfl dX8_weighs_10 ?_
    refine lv_iconst (v := 5) hx hb dX8_weighs_13 (by decide) ?_
    refine lv_aload_n hx hb dX8_weighs_14 rfl (lv_at hl 0 rfl) ?_
    refine lv_iload_n hx hb dX8_weighs_15 rfl (lv_at hl 1 rfl) ?_
    refine xVi ha hP hS (y := yX8_whoMoves) (As := [.int tt]) (rest := [.int 5, .ref (G.1 12)]) 0 (by decide) (cM_0 G _) rfl rfl (c_X8_whoMoves G l σ P tt hpb hPV htt hp0) kw_X8_274 hd_X8_whoMoves rfl ⟨rfl, rfl⟩ ⟨Nat.le_of_ble_eq_true rfl, Nat.le_of_ble_eq_true rfl⟩ ⟨Nat.zero_le _, Nat.zero_le _⟩ hl.1 (Nat.le_of_ble_eq_true rfl) rfl dX8_weighs_16 (fun r u H locs hpq hP hS => ?_)
    obtain ⟨hr_, hu_⟩ := hpq
    have hr_ := hr_.symm
    have hu_ := hu_.symm
    subst hr_
    subst hu_
    refine lv_iadd hx hb dX8_weighs_19 ?_
    refine lv_aload_n hx hb dX8_weighs_20 rfl (lv_at hl 0 rfl) ?_
    refine g8_80 ha hP 0 (by decide) (cM_0 G _) (v := .ref (G.1 23)) rfl dX8_weighs_21 ?_
    refine lv_iload_n hx hb dX8_weighs_24 rfl (lv_at hl 1 rfl) ?_
    refine xialdN ha hP 23 (by decide) (cM_23 G _) (ix tt) (ix_nI (by omega)) (ix_lt (by omega) (by omega)) (by decide) dX8_weighs_25 ?_
    refine xiastN ha hP hS (cM_loc G) 12 (by decide) (fun τ => cM_12 G τ) (5 + (ix (b_who P σ tt))) (nadd (rfl : (5 : Int32) = nI 5) (ix_nI (by omega))) (by have q_0 := ix_toInt (show (0 : Int) ≤ (b_who P σ tt).toInt by omega); omega) (by decide) dX8_weighs_26 (fun H locs hP hS => ?_)
    refine lv_iload_n hx hb dX8_weighs_27 rfl (lv_at hl 1 rfl) ?_
    refine lv_iconst (v := 2) hx hb dX8_weighs_28 (by decide) ?_
    refine lv_irem hx hb dX8_weighs_29 (by decide) ?_
    refine lv_if_ne (tgt := 51) hx hb dX8_weighs_30 (by decide) (fun c_9 => ?_) (fun c_9 => ?_)
    · have t_9 := i_ne c_9
      refine lv_iload_n hx hb dX8_weighs_51 rfl (lv_at hl 2 rfl) ?_
      refine lv_aload_n hx hb dX8_weighs_52 rfl (lv_at hl 0 rfl) ?_
      refine g8_77 ha hP 0 (by decide) (cM_0 G _) (v := .ref (G.1 22)) rfl dX8_weighs_53 ?_
      refine lv_iload_n hx hb dX8_weighs_56 rfl (lv_at hl 1 rfl) ?_
      refine xialdN ha hP 22 (by decide) (cM_22 G _) (ix tt) (ix_nI (by omega)) (ix_lt (by omega) (by omega)) (by decide) dX8_weighs_57 ?_
      refine lv_icmp_ge (tgt := 65) hx hb dX8_weighs_58 (by decide) (fun c_10 => ?_) (fun c_10 => ?_)
      · have t_10 := i_le c_10
        have u_10 := u_le c_10
        have c9 := u_10
        (try simp [mU_e, -Int32.not_lt] at c9)
        refine lv_iconst (v := 0) hx hb dX8_weighs_65 (by decide) ?_
        refine lv_istore_n (lv' := [(3, .int 0), (0, .ref (G.1 0)), (1, .int tt), (2, .int came)]) hx hb dX8_weighs_66 rfl hl (by decide) rfl (fun ls hl => ?_)
        refine lv_aload_n hx hb dX8_weighs_67 rfl (lv_at hl 1 rfl) ?_
        refine g8_77 ha hP 0 (by decide) (cM_0 G _) (v := .ref (G.1 22)) rfl dX8_weighs_68 ?_
        refine lv_iload_n hx hb dX8_weighs_71 rfl (lv_at hl 2 rfl) ?_
        refine lv_iload_n hx hb dX8_weighs_72 rfl (lv_at hl 0 rfl) ?_
        refine lv_if_eq (tgt := 80) hx hb dX8_weighs_73 (by decide) (fun c_11 => ?_) (fun c_11 => ?_)
        · have t_11 := i_eq c_11
          refine lv_aload_n hx hb dX8_weighs_80 rfl (lv_at hl 1 rfl) ?_
          refine g8_77 ha hP 0 (by decide) (cM_0 G _) (v := .ref (G.1 22)) rfl dX8_weighs_81 ?_
          refine lv_iload_n hx hb dX8_weighs_84 rfl (lv_at hl 2 rfl) ?_
          refine xialdN ha hP 22 (by decide) (cM_22 G _) (ix tt) (ix_nI (by omega)) (ix_lt (by omega) (by omega)) (by decide) dX8_weighs_85 ?_
          refine xiastN ha hP hS (cM_loc G) 22 (by decide) (fun τ => cM_22 G τ) (ix tt) (ix_nI (by omega)) (ix_lt (by omega) (by omega)) (by decide) dX8_weighs_86 (fun H locs hP hS => ?_)
          exact xvret ha hP hS dX8_weighs_87 (by unfold w_wg w_wg1; simp [u_1, c_9, u_10, c9, mU_e, -Int32.not_lt])
        · have t_11 := i_ne c_11
          exact absurd c_11 (by decide)
      · have t_10 := i_nle c_10
        have u_10 := u_nle c_10
        have c9 := u_10
        (try simp [mU_e, -Int32.not_lt] at c9)
        refine lv_iconst (v := 1) hx hb dX8_weighs_61 (by decide) ?_
        refine lv_goto (tgt := 66) hx hb dX8_weighs_62 (by decide) ?_
        refine lv_istore_n (lv' := [(3, .int 1), (0, .ref (G.1 0)), (1, .int tt), (2, .int came)]) hx hb dX8_weighs_66 rfl hl (by decide) rfl (fun ls hl => ?_)
        refine lv_aload_n hx hb dX8_weighs_67 rfl (lv_at hl 1 rfl) ?_
        refine g8_77 ha hP 0 (by decide) (cM_0 G _) (v := .ref (G.1 22)) rfl dX8_weighs_68 ?_
        refine lv_iload_n hx hb dX8_weighs_71 rfl (lv_at hl 2 rfl) ?_
        refine lv_iload_n hx hb dX8_weighs_72 rfl (lv_at hl 0 rfl) ?_
        refine lv_if_eq (tgt := 80) hx hb dX8_weighs_73 (by decide) (fun c_12 => ?_) (fun c_12 => ?_)
        · have t_12 := i_eq c_12
          exact absurd c_12 (by decide)
        · have t_12 := i_ne c_12
          refine lv_iload_n hx hb dX8_weighs_76 rfl (lv_at hl 3 rfl) ?_
          refine lv_goto (tgt := 86) hx hb dX8_weighs_77 (by decide) ?_
          refine xiastN ha hP hS (cM_loc G) 22 (by decide) (fun τ => cM_22 G τ) (ix tt) (ix_nI (by omega)) (ix_lt (by omega) (by omega)) (by decide) dX8_weighs_86 (fun H locs hP hS => ?_)
          exact xvret ha hP hS dX8_weighs_87 (by unfold w_wg w_wg1; simp [u_1, c_9, u_10, c9, mU_e, -Int32.not_lt])
    · have t_9 := i_eq c_9
      refine lv_iload_n hx hb dX8_weighs_33 rfl (lv_at hl 2 rfl) ?_
      refine lv_aload_n hx hb dX8_weighs_34 rfl (lv_at hl 0 rfl) ?_
      refine g8_77 ha hP 0 (by decide) (cM_0 G _) (v := .ref (G.1 22)) rfl dX8_weighs_35 ?_
      refine lv_iload_n hx hb dX8_weighs_38 rfl (lv_at hl 1 rfl) ?_
      refine xialdN ha hP 22 (by decide) (cM_22 G _) (ix tt) (ix_nI (by omega)) (ix_lt (by omega) (by omega)) (by decide) dX8_weighs_39 ?_
      refine lv_icmp_le (tgt := 47) hx hb dX8_weighs_40 (by decide) (fun c_13 => ?_) (fun c_13 => ?_)
      · have t_13 := i_le c_13
        have u_13 := u_le c_13
        have c9 := u_13
        (try simp [mU_e, -Int32.not_lt] at c9)
        refine lv_iconst (v := 0) hx hb dX8_weighs_47 (by decide) ?_
        refine lv_goto (tgt := 66) hx hb dX8_weighs_48 (by decide) ?_
        refine lv_istore_n (lv' := [(3, .int 0), (0, .ref (G.1 0)), (1, .int tt), (2, .int came)]) hx hb dX8_weighs_66 rfl hl (by decide) rfl (fun ls hl => ?_)
        refine lv_aload_n hx hb dX8_weighs_67 rfl (lv_at hl 1 rfl) ?_
        refine g8_77 ha hP 0 (by decide) (cM_0 G _) (v := .ref (G.1 22)) rfl dX8_weighs_68 ?_
        refine lv_iload_n hx hb dX8_weighs_71 rfl (lv_at hl 2 rfl) ?_
        refine lv_iload_n hx hb dX8_weighs_72 rfl (lv_at hl 0 rfl) ?_
        refine lv_if_eq (tgt := 80) hx hb dX8_weighs_73 (by decide) (fun c_14 => ?_) (fun c_14 => ?_)
        · have t_14 := i_eq c_14
          refine lv_aload_n hx hb dX8_weighs_80 rfl (lv_at hl 1 rfl) ?_
          refine g8_77 ha hP 0 (by decide) (cM_0 G _) (v := .ref (G.1 22)) rfl dX8_weighs_81 ?_
          refine lv_iload_n hx hb dX8_weighs_84 rfl (lv_at hl 2 rfl) ?_
          refine xialdN ha hP 22 (by decide) (cM_22 G _) (ix tt) (ix_nI (by omega)) (ix_lt (by omega) (by omega)) (by decide) dX8_weighs_85 ?_
          refine xiastN ha hP hS (cM_loc G) 22 (by decide) (fun τ => cM_22 G τ) (ix tt) (ix_nI (by omega)) (ix_lt (by omega) (by omega)) (by decide) dX8_weighs_86 (fun H locs hP hS => ?_)
          exact xvret ha hP hS dX8_weighs_87 (by unfold w_wg w_wg1; simp [u_1, c_9, u_13, c9, mU_e, -Int32.not_lt])
        · have t_14 := i_ne c_14
          exact absurd c_14 (by decide)
      · have t_13 := i_nle c_13
        have u_13 := u_nle c_13
        have c9 := u_13
        (try simp [mU_e, -Int32.not_lt] at c9)
        refine lv_iconst (v := 1) hx hb dX8_weighs_43 (by decide) ?_
        refine lv_goto (tgt := 66) hx hb dX8_weighs_44 (by decide) ?_
        refine lv_istore_n (lv' := [(3, .int 1), (0, .ref (G.1 0)), (1, .int tt), (2, .int came)]) hx hb dX8_weighs_66 rfl hl (by decide) rfl (fun ls hl => ?_)
        refine lv_aload_n hx hb dX8_weighs_67 rfl (lv_at hl 1 rfl) ?_
        refine g8_77 ha hP 0 (by decide) (cM_0 G _) (v := .ref (G.1 22)) rfl dX8_weighs_68 ?_
        refine lv_iload_n hx hb dX8_weighs_71 rfl (lv_at hl 2 rfl) ?_
        refine lv_iload_n hx hb dX8_weighs_72 rfl (lv_at hl 0 rfl) ?_
        refine lv_if_eq (tgt := 80) hx hb dX8_weighs_73 (by decide) (fun c_15 => ?_) (fun c_15 => ?_)
        · have t_15 := i_eq c_15
          exact absurd c_15 (by decide)
        · have t_15 := i_ne c_15
          refine lv_iload_n hx hb dX8_weighs_76 rfl (lv_at hl 3 rfl) ?_
          refine lv_goto (tgt := 86) hx hb dX8_weighs_77 (by decide) ?_
          refine xiastN ha hP hS (cM_loc G) 22 (by decide) (fun τ => cM_22 G τ) (ix tt) (ix_nI (by omega)) (ix_lt (by omega) (by omega)) (by decide) dX8_weighs_86 (fun H locs hP hS => ?_)
          exact xvret ha hP hS dX8_weighs_87 (by unfold w_wg w_wg1; simp [u_1, c_9, u_13, c9, mU_e, -Int32.not_lt])
set_option maxHeartbeats 800000 in
set_option maxRecDepth 100000 in
theorem c_X8_nextMove (G : GT) (l : Launch) (σ : Mem) (P : PT) (tt : Int32) (hpb : PB P) (hPV : pM σ = P) (htt : 0 ≤ tt.toInt ∧ tt.toInt ≤ 4) (hp0 : 0 < nPl P) (hm0 : -1 ≤ (σ 21 (ix tt)).toInt) (hm1 : (σ 21 (ix tt)).toInt ≤ (b_most P tt).toInt) : CI G 24 (cM G) l yX8_nextMove ({ frames := 3, cells := 0, slots := 0, locals := 65 } : Room) cX8_nextMove 3 (some .boolean) [.ref (G.1 0), .int tt] σ (fun (r : Int32) u => r = b2i (nm P σ tt).1 ∧ u = (nm P σ tt).2) := by
  intro sz
  refine xbegin (by decide) (Nat.le_of_ble_eq_true rfl) ?_
  intro p e s m below meth c ls hsz ha hP hl
  subst hsz
  have hx := ha.1
  have hb := ha.2.1
  have hS : va_S (xA G 24 s.heap.size) s.heap s.heap [] := va_S.rf
  have hl : lv_has ls 3 [(0, .ref (G.1 0)), (1, .int tt)] := hl
  have k_0 : (0 : Int32).toInt = 0 := by decide
  have k_1 : (1 : Int32).toInt = 1 := by decide
  have k_2 : (2 : Int32).toInt = 2 := by decide
  have k_4 : (4 : Int32).toInt = 4 := by decide
  have k_5 : (5 : Int32).toInt = 5 := by decide
  have k_6 : (6 : Int32).toInt = 6 := by decide
  have hPL := PB_pl hpb
  have hPE := PB_pe hpb
  have hp4 := PV_pl hpb hPV
  have hp5 := PV_pe hpb hPV
  have p4 := PV_4 hPV
  have p5 := PV_5 hPV
  refine lv_iload_n hx hb dX8_nextMove_0 rfl (lv_at hl 1 rfl) ?_
  refine lv_iconst (v := 2) hx hb dX8_nextMove_1 (by decide) ?_
  refine lv_irem hx hb dX8_nextMove_2 (by decide) ?_
  have jn_1 : ∀ x_1 : Int32, x_1 = (if (tt - tt / 2 * 2) = 0 then ((σ 0 5) * (σ 0 4)) else (σ 0 5)) → W p l e ({ frames := 3, cells := 0, slots := 0, locals := 65 } : Room) s m ([.ref (G.1 0), .int tt] : List Value).toArray below meth c s.heap [] 0 0 (MQ below (va_Qi (fun (r : Int32) u => r = b2i (nm P σ tt).1 ∧ u = (nm P σ tt).2) (xB G 24 (cM G)) (xA G 24 s.heap.size)) ([.ref (G.1 0), .int tt] : List Value).toArray s 0 0 (xA G 24 s.heap.size)) (F0 m 22 ls [.int x_1]) := by
    intro x_1 ex_1
    have hx_1 : x_1 = (b_most P tt) := (by rw [ex_1, p4, p5]; rfl)
    clear ex_1
    subst hx_1
    refine lv_istore_n (lv' := [(2, .int (b_most P tt)), (0, .ref (G.1 0)), (1, .int tt)]) hx hb dX8_nextMove_22 rfl hl (by decide) rfl (fun ls hl => ?_)
    have h20 := most_20 hpb tt
    refine lv_aload_n hx hb dX8_nextMove_23 rfl (lv_at hl 1 rfl) ?_
    refine g8_74 ha hP 0 (by decide) (cM_0 G _) (v := .ref (G.1 21)) rfl dX8_nextMove_24 ?_
    refine lv_iload_n hx hb dX8_nextMove_27 rfl (lv_at hl 2 rfl) ?_
    refine lv_dup2_11 hx hb dX8_nextMove_28 rfl rfl ?_
    refine xialdN ha hP 21 (by decide) (cM_21 G _) (ix tt) (ix_nI (by omega)) (ix_lt (by omega) (by omega)) (by decide) dX8_nextMove_29 ?_
    refine lv_iconst (v := 1) hx hb dX8_nextMove_30 (by decide) ?_
    refine lv_iadd hx hb dX8_nextMove_31 ?_
    refine xiastN ha hP hS (cM_loc G) 21 (by decide) (fun τ => cM_21 G τ) (ix tt) (ix_nI (by omega)) (ix_lt (by omega) (by omega)) (by decide) dX8_nextMove_32 (fun H locs hP hS => ?_)
    have lp_33 : ∀ (d j : Nat) (τj : Mem) (H : Heap) (locs : List Loc) (ls : Array Slot), j ≤ 25 → 25 - j < d → (pM τj = P) → ((τj 21 (ix tt)).toInt = (σ 21 (ix tt)).toInt + 1 + (j : Int)) → (nmF P tt d τj = nm P σ tt) → va_P G.2.1 vwCl (wl G 24 (cM G τj)) H → va_S (xA G 24 s.heap.size) s.heap H locs → lv_has ls 3 [(2, .int (b_most P tt)), (0, .ref (G.1 0)), (1, .int tt)] → W p l e ({ frames := 3, cells := 0, slots := 0, locals := 65 } : Room) s m ([.ref (G.1 0), .int tt] : List Value).toArray below meth c H locs 0 0 (MQ below (va_Qi (fun (r : Int32) u => r = b2i (nm P σ tt).1 ∧ u = (nm P σ tt).2) (xB G 24 (cM G)) (xA G 24 s.heap.size)) ([.ref (G.1 0), .int tt] : List Value).toArray s 0 0 (xA G 24 s.heap.size)) (F0 m 33 ls []) := by
      intro d
      induction d with
      | zero => intro j τj H locs ls hj hd; exact absurd hd (Nat.not_lt_zero _)
      | succ d ih_33 =>
        intro j τj H locs ls hj_j hd_j hPj hmj hR hP hS hl
        refine lv_aload_n hx hb dX8_nextMove_33 rfl (lv_at hl 1 rfl) ?_
        refine g8_74 ha hP 0 (by decide) (cM_0 G _) (v := .ref (G.1 21)) rfl dX8_nextMove_34 ?_
        refine lv_iload_n hx hb dX8_nextMove_37 rfl (lv_at hl 2 rfl) ?_
        refine xialdN ha hP 21 (by decide) (cM_21 G _) (ix tt) (ix_nI (by omega)) (ix_lt (by omega) (by omega)) (by decide) dX8_nextMove_38 ?_
        refine lv_iload_n hx hb dX8_nextMove_39 rfl (lv_at hl 0 rfl) ?_
        refine lv_icmp_gt (tgt := 64) hx hb dX8_nextMove_40 (by decide) (fun c_2 => ?_) (fun c_2 => ?_)
        · have t_2 := i_lt c_2
          refine lv_aload_n hx hb dX8_nextMove_64 rfl (lv_at hl 1 rfl) ?_
          refine g8_74 ha hP 0 (by decide) (cM_0 G _) (v := .ref (G.1 21)) rfl dX8_nextMove_65 ?_
          refine lv_iload_n hx hb dX8_nextMove_68 rfl (lv_at hl 2 rfl) ?_
          refine xialdN ha hP 21 (by decide) (cM_21 G _) (ix tt) (ix_nI (by omega)) (ix_lt (by omega) (by omega)) (by decide) dX8_nextMove_69 ?_
          refine lv_iload_n hx hb dX8_nextMove_70 rfl (lv_at hl 0 rfl) ?_
          refine lv_icmp_gt (tgt := 78) hx hb dX8_nextMove_71 (by decide) (fun c_3 => ?_) (fun c_3 => ?_)
          · have t_3 := i_lt c_3
            refine lv_iconst (v := 0) hx hb dX8_nextMove_78 (by decide) ?_
            exact xzret ha hP hS rfl dX8_nextMove_79 ⟨by first | (exfalso; omega) | (rw [← hR, nmF]; simp [c_2, c_3, b2i, -Int32.not_lt]), (by first | (exfalso; omega) | (rw [← hR, nmF]; simp [c_2, c_3, -Int32.not_lt]))⟩ rfl
          · have t_3 := i_nlt c_3
            refine lv_iconst (v := 1) hx hb dX8_nextMove_74 (by decide) ?_
            refine lv_goto (tgt := 79) hx hb dX8_nextMove_75 (by decide) ?_
            exact xzret ha hP hS rfl dX8_nextMove_79 ⟨by first | (exfalso; omega) | (rw [← hR, nmF]; simp [c_2, c_3, b2i, -Int32.not_lt]), (by first | (exfalso; omega) | (rw [← hR, nmF]; simp [c_2, c_3, -Int32.not_lt]))⟩ rfl
        · have t_2 := i_nlt c_2
          refine lv_aload_n hx hb dX8_nextMove_43 rfl (lv_at hl 1 rfl) ?_
          refine lv_iload_n hx hb dX8_nextMove_44 rfl (lv_at hl 2 rfl) ?_
          refine xVi ha hP hS (y := yX8_moves) (As := [.int tt]) (rest := []) 0 (by decide) (cM_0 G _) rfl rfl (c_X8_moves G l τj P tt hpb hPj htt hp0 (by omega) (by omega)) kw_X8_277 hd_X8_moves rfl ⟨rfl, rfl⟩ ⟨Nat.le_of_ble_eq_true rfl, Nat.le_of_ble_eq_true rfl⟩ ⟨Nat.zero_le _, Nat.zero_le _⟩ hl.1 (Nat.le_of_ble_eq_true rfl) rfl dX8_nextMove_45 (fun r u H locs hpq hP hS => ?_)
          obtain ⟨hr_, hu_⟩ := hpq
          have hr_ := hr_.symm
          have hu_ := hu_.symm
          subst hr_
          subst hu_
          refine lv_if_ne (tgt := 64) hx hb dX8_nextMove_48 (by decide) (fun c_4 => ?_) (fun c_4 => ?_)
          · have t_4 := b2i_t c_4
            have hmv := i_eq (congrFun (w_mv_21 P τj tt) (ix tt))
            refine lv_aload_n hx hb dX8_nextMove_64 rfl (lv_at hl 1 rfl) ?_
            refine g8_74 ha hP 0 (by decide) (cM_0 G _) (v := .ref (G.1 21)) rfl dX8_nextMove_65 ?_
            refine lv_iload_n hx hb dX8_nextMove_68 rfl (lv_at hl 2 rfl) ?_
            refine xialdN ha hP 21 (by decide) (cM_21 G _) (ix tt) (ix_nI (by omega)) (ix_lt (by omega) (by omega)) (by decide) dX8_nextMove_69 ?_
            refine lv_iload_n hx hb dX8_nextMove_70 rfl (lv_at hl 0 rfl) ?_
            refine lv_icmp_gt (tgt := 78) hx hb dX8_nextMove_71 (by decide) (fun c_5 => ?_) (fun c_5 => ?_)
            · have t_5 := i_lt c_5
              refine lv_iconst (v := 0) hx hb dX8_nextMove_78 (by decide) ?_
              exact xzret ha hP hS rfl dX8_nextMove_79 ⟨by first | (exfalso; omega) | (rw [← hR, nmF]; simp [c_2, t_4, c_5, b2i, -Int32.not_lt]), (by first | (exfalso; omega) | (rw [← hR, nmF]; simp [c_2, t_4, c_5, -Int32.not_lt]))⟩ rfl
            · have t_5 := i_nlt c_5
              refine lv_iconst (v := 1) hx hb dX8_nextMove_74 (by decide) ?_
              refine lv_goto (tgt := 79) hx hb dX8_nextMove_75 (by decide) ?_
              exact xzret ha hP hS rfl dX8_nextMove_79 ⟨by first | (exfalso; omega) | (rw [← hR, nmF]; simp [c_2, t_4, c_5, b2i, -Int32.not_lt]), (by first | (exfalso; omega) | (rw [← hR, nmF]; simp [c_2, t_4, c_5, -Int32.not_lt]))⟩ rfl
          · have t_4 := b2i_f c_4
            refine lv_aload_n hx hb dX8_nextMove_51 rfl (lv_at hl 1 rfl) ?_
            refine g8_74 ha hP 0 (by decide) (cM_0 G _) (v := .ref (G.1 21)) rfl dX8_nextMove_52 ?_
            refine lv_iload_n hx hb dX8_nextMove_55 rfl (lv_at hl 2 rfl) ?_
            refine lv_dup2_11 hx hb dX8_nextMove_56 rfl rfl ?_
            refine xialdN ha hP 21 (by decide) (cM_21 G _) (ix tt) (ix_nI (by omega)) (ix_lt (by omega) (by omega)) (by decide) dX8_nextMove_57 ?_
            refine lv_iconst (v := 1) hx hb dX8_nextMove_58 (by decide) ?_
            refine lv_iadd hx hb dX8_nextMove_59 ?_
            refine xiastN ha hP hS (cM_loc G) 21 (by decide) (fun τ => cM_21 G τ) (ix tt) (ix_nI (by omega)) (ix_lt (by omega) (by omega)) (by decide) dX8_nextMove_60 (fun H locs hP hS => ?_)
            refine lv_goto (tgt := 33) hx hb dX8_nextMove_61 (by decide) ?_
            have hj25 : j < 24 := by omega
            exact ih_33 (j + 1) (mU (w_mv P τj tt) 21 (ix tt) (((w_mv P τj tt) 21 (ix tt)) + 1)) _ _ _ (by omega) (by omega) ((pM_mU _ _ _ (by decide)).trans ((pM_mv _ _ _).trans hPj)) (by have e1 := i_inc (x := τj 21 (ix tt)) (by omega); rw [mU_e, if_pos rfl, if_pos rfl, w_mv_21]; omega) (by rw [← hR, nmF]; simp [c_2, t_4, -Int32.not_lt]) hP hS (lv_sub hl [0, 1, 2] rfl)
    exact lp_33 (25 - 0 + 1) 0 (mU σ 21 (ix tt) ((σ 21 (ix tt)) + 1)) _ _ _ (by omega) (by omega) ((pM_mU _ _ _ (by decide)).trans hPV) (by have e1 := i_inc (x := σ 21 (ix tt)) (by omega); rw [mU_e, if_pos rfl, if_pos rfl]; omega) rfl hP hS (lv_sub hl [0, 1, 2] rfl)
  refine lv_if_ne (tgt := 18) hx hb dX8_nextMove_3 (by decide) (fun c_1 => ?_) (fun c_1 => ?_)
  · have t_1 := i_ne c_1
    refine lv_aload_n hx hb dX8_nextMove_18 rfl (lv_at hl 0 rfl) ?_
    refine g8_166 ha hP 0 (by decide) (cM_0 G _) (v := .int (σ 0 5)) rfl dX8_nextMove_19 ?_
    exact jn_1 _ (if_neg c_1).symm
  · have t_1 := i_eq c_1
    refine lv_aload_n hx hb dX8_nextMove_6 rfl (lv_at hl 0 rfl) ?_
    refine g8_166 ha hP 0 (by decide) (cM_0 G _) (v := .int (σ 0 5)) rfl dX8_nextMove_7 ?_
    refine lv_aload_n hx hb dX8_nextMove_10 rfl (lv_at hl 0 rfl) ?_
    refine g8_163 ha hP 0 (by decide) (cM_0 G _) (v := .int (σ 0 4)) rfl dX8_nextMove_11 ?_
    refine lv_imul hx hb dX8_nextMove_14 ?_
    refine lv_goto (tgt := 22) hx hb dX8_nextMove_15 (by decide) ?_
    exact jn_1 _ (if_pos c_1).symm
