
theorem hd_X7_lots : kHd yX7_lots 2 := by decide +kernel
theorem kw_L_180 : ∀ w ∈ k5V RL 180 yX7_lots cX7_lots 6 (some .int), w ∈ TB := tb_ins (by decide +kernel)
section SC10
variable {p : Program} {l : Launch} {e : Env} {s : State} {m : MethodId} {args : Array Value} {below : List Frame} {meth : Method} {c : Code} {H : Heap} {locs : List Loc} {cells slots : Nat} {Q : State → Prop} {ls : Array Slot} {G : GT}
set_option maxHeartbeats 4000000 in
set_option maxRecDepth 100000 in
theorem seg_2718 (ha : Amb p c cL_law 31 s args RL m meth (some .boolean) G 74) (hcs : cells ≤ room_1.cells ∧ slots ≤ room_1.slots) (P : PT) (Z : Nat → Int32) (K : KT) (S : PT) (D : Nat) (C : Nat → Int32) {u : Mem} (hN : NV P Z) (hJ : J P Z K S D C u) (hD : D ≤ 21) (hrp : SEq P (rplP P C D) S) (hK0 : K.1 0 = nI 0) (hK1 : K.1 1 = nI D) (hK2 : K.2 1 = C) (hK3 : K.1 2 = -1) (hP : va_P G.2.1 vwCl (wl G 74 (cX G u)) H) (hS : va_S (xA G 74 s.heap.size) s.heap H locs) (hl : lv_has ls 31 [(0, .ref (G.1 1000)), (1, .ref (G.1 0)), (2, .ref (G.1 72)), (3, .ref (G.1 73)), (4, .int (nI (nPl P))), (5, .int (nI (nPe P))), (7, .int (nI D)), (8, .int (S 0 0)), (9, .int (a_highAll P S)), (10, .int ((1 <<< (nI (nPl P) &&& 31)) - 1)), (11, .int (a_standing P S))])
    (kk : ∀ (v : Mem)  (H : Heap) (locs : List Loc) (ls : Array Slot), va_P G.2.1 vwCl (wl G 74 (cX G v)) H → va_S (xA G 74 s.heap.size) s.heap H locs → lv_has ls 31 [(0, .ref (G.1 1000)), (1, .ref (G.1 0)), (2, .ref (G.1 72)), (3, .ref (G.1 73)), (4, .int (nI (nPl P))), (5, .int (nI (nPe P)))] → W p l e room_1 s m args below meth c H locs cells slots Q (F0 m 2959 ls [.int 1])) : W p l e room_1 s m args below meth c H locs cells slots Q (F0 m 2718 ls []) := by
  have hx := ha.1
  have hb := ha.2.1
  obtain ⟨h4, h5⟩ := NV_45 hJ
  have hp0 := hN.1.1
  have hq0 := hN.1.2
  have hpb := (J_plan hJ).1
  have hpr := (J_plan hJ).2
  have hg := J_gs hJ
  refine lv_iconst (v := 1) hx hb dL_law_2718 (by decide) ?_
  refine lv_aload_n hx hb dL_law_2719 rfl (lv_at hl 0 rfl) ?_
  refine lv_bipush (v := 44) hx hb dL_law_2720 (by decide) ?_
  refine xSi ha hP hS (y := yL_cell) (As := [.ref (G.1 1000), .int 44]) (rest := [.int 1]) rfl (c_L_cell G l u (44) (by omega)) kw_L_15 hd_L_cell rfl ⟨rfl, rfl⟩ ⟨Nat.le_of_ble_eq_true rfl, Nat.le_of_ble_eq_true rfl⟩ hcs hl.1 (Nat.le_of_ble_eq_true rfl) rfl dL_law_2722 (fun r_1 v1 H locs hpq hP hS => ?_)
  obtain ⟨hr_, hu_⟩ := hpq
  have hu_ := hu_.symm
  subst hu_
  refine lv_bipush (v := 18) hx hb dL_law_2725 (by decide) ?_
  refine xSi ha hP hS (y := yL_part) (As := [.int r_1, .int 18]) (rest := [.int 1]) rfl (c_L_part G l u r_1 18 (by decide)) kw_L_21 hd_L_part rfl ⟨rfl, rfl⟩ ⟨Nat.le_of_ble_eq_true rfl, Nat.le_of_ble_eq_true rfl⟩ hcs hl.1 (Nat.le_of_ble_eq_true rfl) rfl dL_law_2727 (fun r_2 v2 H locs hpq hP hS => ?_)
  obtain ⟨hr_, hu_⟩ := hpq
  have hu_ := hu_.symm
  subst hu_
  obtain ⟨n9, hn9, en9⟩ : ∃ j, j < 18 ∧ r_2 = nI j := by rw [hr_]; exact part_N _ (n := 18) (by decide) (by omega)
  clear hr_
  subst en9
  refine lw_iaddE (z := (nI (1 + n9))) hx hb dL_law_2730 (nI_add 1 n9) ?_
  refine lv_istore (lv' := [(19, .int (nI (1 + n9))), (0, .ref (G.1 1000)), (1, .ref (G.1 0)), (2, .ref (G.1 72)), (3, .ref (G.1 73)), (4, .int (nI (nPl P))), (5, .int (nI (nPe P))), (7, .int (nI D)), (8, .int (S 0 0)), (9, .int (a_highAll P S)), (10, .int ((1 <<< (nI (nPl P) &&& 31)) - 1)), (11, .int (a_standing P S))]) hx hb dL_law_2731 hl (by decide) rfl (fun ls hl => ?_)
  refine lv_iconst (v := 1) hx hb dL_law_2733 (by decide) ?_
  refine lv_aload_n hx hb dL_law_2734 rfl (lv_at hl 1 rfl) ?_
  refine lv_bipush (v := 45) hx hb dL_law_2735 (by decide) ?_
  refine xSi ha hP hS (y := yL_cell) (As := [.ref (G.1 1000), .int 45]) (rest := [.int 1]) rfl (c_L_cell G l u (45) (by omega)) kw_L_15 hd_L_cell rfl ⟨rfl, rfl⟩ ⟨Nat.le_of_ble_eq_true rfl, Nat.le_of_ble_eq_true rfl⟩ hcs hl.1 (Nat.le_of_ble_eq_true rfl) rfl dL_law_2737 (fun r_3 v3 H locs hpq hP hS => ?_)
  obtain ⟨hr_, hu_⟩ := hpq
  have hu_ := hu_.symm
  subst hu_
  refine lv_ldc (v := 2147483646) hx hb ha.2.2.2.1 (ha.2.2.2.2.1 _ (tb_in (w := .constant RL 179 2147483646) (by decide +kernel))) dL_law_2740 ?_
  refine xSi ha hP hS (y := yL_part) (As := [.int r_3, .int (nI 2147483646)]) (rest := [.int 1]) rfl (c_L_part G l u r_3 (nI 2147483646) (by decide)) kw_L_21 hd_L_part rfl ⟨rfl, rfl⟩ ⟨Nat.le_of_ble_eq_true rfl, Nat.le_of_ble_eq_true rfl⟩ hcs hl.1 (Nat.le_of_ble_eq_true rfl) rfl dL_law_2742 (fun r_4 v4 H locs hpq hP hS => ?_)
  obtain ⟨hr_, hu_⟩ := hpq
  have hu_ := hu_.symm
  subst hu_
  obtain ⟨s9, hs9, es9⟩ : ∃ j, j < 2147483646 ∧ r_4 = nI j := by rw [hr_]; exact part_N _ (n := 2147483646) (by decide) (by omega)
  clear hr_
  subst es9
  refine lw_iaddE (z := (nI (1 + s9))) hx hb dL_law_2745 (nI_add 1 s9) ?_
  refine lv_istore (lv' := [(20, .int (nI (1 + s9))), (19, .int (nI (1 + n9))), (0, .ref (G.1 1000)), (1, .ref (G.1 0)), (2, .ref (G.1 72)), (3, .ref (G.1 73)), (4, .int (nI (nPl P))), (5, .int (nI (nPe P))), (7, .int (nI D)), (8, .int (S 0 0)), (9, .int (a_highAll P S)), (10, .int ((1 <<< (nI (nPl P) &&& 31)) - 1)), (11, .int (a_standing P S))]) hx hb dL_law_2746 hl (by decide) rfl (fun ls hl => ?_)
  have hsd : 1 ≤ (nI (1 + s9)).toInt ∧ (nI (1 + s9)).toInt ≤ 2147483646 := by rw [nI_toInt (by omega)]; omega
  refine lv_aload_n hx hb dL_law_2748 rfl (lv_at hl 3 rfl) ?_
  refine lv_iconst (v := 2) hx hb dL_law_2749 (by decide) ?_
  refine xVi ha hP hS (y := yX7_count) (As := [.int 2]) (rest := []) 0 (by decide) (cX_0 G _) rfl rfl (c_X7_count G l u 2 (J_PO hJ)) kw_L_42 hd_X7_count rfl ⟨rfl, rfl⟩ ⟨Nat.le_of_ble_eq_true rfl, Nat.le_of_ble_eq_true rfl⟩ hcs hl.1 (Nat.le_of_ble_eq_true rfl) rfl dL_law_2750 (fun r_5 v5 H locs hpq hP hS => ?_)
  obtain ⟨hr_, hu_⟩ := hpq
  have hu_ := hu_.symm
  subst hu_
  have hr_ := hr_.trans (q_c2 hJ)
  have hr_ := hr_.symm
  subst hr_
  refine lv_iload hx hb dL_law_2753 (lv_at hl 8 rfl) ?_
  refine lv_icmp_ne (tgt := 2779) hx hb dL_law_2755 (by decide) (fun c_6 => absurd rfl c_6) (fun c_6 => ?_)
  refine lv_aload_n hx hb dL_law_2758 rfl (lv_at hl 3 rfl) ?_
  refine lv_iconst (v := 4) hx hb dL_law_2759 (by decide) ?_
  refine xVi ha hP hS (y := yX7_count) (As := [.int 4]) (rest := []) 0 (by decide) (cX_0 G _) rfl rfl (c_X7_count G l u 4 (J_PO hJ)) kw_L_42 hd_X7_count rfl ⟨rfl, rfl⟩ ⟨Nat.le_of_ble_eq_true rfl, Nat.le_of_ble_eq_true rfl⟩ hcs hl.1 (Nat.le_of_ble_eq_true rfl) rfl dL_law_2760 (fun r_7 v6 H locs hpq hP hS => ?_)
  obtain ⟨hr_, hu_⟩ := hpq
  have hu_ := hu_.symm
  subst hu_
  have hr_ := hr_.trans (q_c4 hJ)
  have hr_ := hr_.symm
  subst hr_
  refine lv_iload hx hb dL_law_2763 (lv_at hl 9 rfl) ?_
  refine lv_icmp_ne (tgt := 2779) hx hb dL_law_2765 (by decide) (fun c_8 => absurd rfl c_8) (fun c_8 => ?_)
  refine lv_aload_n hx hb dL_law_2768 rfl (lv_at hl 3 rfl) ?_
  refine lv_bipush (v := 6) hx hb dL_law_2769 (by decide) ?_
  refine xVi ha hP hS (y := yX7_count) (As := [.int 6]) (rest := []) 0 (by decide) (cX_0 G _) rfl rfl (c_X7_count G l u 6 (J_PO hJ)) kw_L_42 hd_X7_count rfl ⟨rfl, rfl⟩ ⟨Nat.le_of_ble_eq_true rfl, Nat.le_of_ble_eq_true rfl⟩ hcs hl.1 (Nat.le_of_ble_eq_true rfl) rfl dL_law_2771 (fun r_9 v7 H locs hpq hP hS => ?_)
  obtain ⟨hr_, hu_⟩ := hpq
  have hu_ := hu_.symm
  subst hu_
  have hr_ := hr_.trans (q_c6 hJ)
  have hr_ := hr_.symm
  subst hr_
  refine lv_iload hx hb dL_law_2774 (lv_at hl 10 rfl) ?_
  refine lv_icmp_eq (tgt := 2781) hx hb dL_law_2776 (by decide) (fun c_10 => ?_) (fun c_10 => absurd rfl c_10)
  refine lv_aload_n hx hb dL_law_2781 rfl (lv_at hl 3 rfl) ?_
  refine lv_iload hx hb dL_law_2782 (lv_at hl 1 rfl) ?_
  refine lv_iload hx hb dL_law_2784 (lv_at hl 0 rfl) ?_
  refine xVi ha hP hS (y := yX7_lots) (As := [.int (nI (1 + n9)), .int (nI (1 + s9))]) (rest := []) 0 (by decide) (cX_0 G _) rfl rfl (c_X7_lots G l u (nI (1 + n9)) (nI (1 + s9)) (J_PO hJ)) kw_L_180 hd_X7_lots rfl ⟨rfl, rfl⟩ ⟨Nat.le_of_ble_eq_true rfl, Nat.le_of_ble_eq_true rfl⟩ hcs hl.1 (Nat.le_of_ble_eq_true rfl) rfl dL_law_2786 (fun r_11 v8 H locs hpq hP hS => ?_)
  obtain ⟨hr_, hu_⟩ := hpq
  have hq_ := q_lots hJ hp0 (n := 1 + n9) (by omega) (by omega) (by omega) hsd
  simp only [← hr_, ← hu_] at hq_
  clear hr_ hu_
  obtain ⟨h_r, C9, hC9, hJ⟩ := hq_
  subst h_r
  refine lv_istore (lv' := [(21, .int (a_highAll P (lotsP P S (nI (1 + s9)).toInt64 (1 + n9)))), (20, .int (nI (1 + s9))), (19, .int (nI (1 + n9))), (0, .ref (G.1 1000)), (1, .ref (G.1 0)), (2, .ref (G.1 72)), (3, .ref (G.1 73)), (4, .int (nI (nPl P))), (5, .int (nI (nPe P))), (7, .int (nI D)), (8, .int (S 0 0)), (9, .int (a_highAll P S)), (10, .int ((1 <<< (nI (nPl P) &&& 31)) - 1)), (11, .int (a_standing P S))]) hx hb dL_law_2789 hl (by decide) rfl (fun ls hl => ?_)
  refine lv_iload hx hb dL_law_2791 (lv_at hl 9 rfl) ?_
  refine lv_iload hx hb dL_law_2793 (lv_at hl 2 rfl) ?_
  refine lw_iaddE (z := (nI (D + (1 + n9)))) hx hb dL_law_2795 (nI_add _ _) ?_
  refine lv_bipush (v := 40) hx hb dL_law_2796 (by decide) ?_
  refine lv_icmp_le (tgt := 2811) hx hb dL_law_2798 (by decide) (fun c_12 => ?_) (fun c_12 => absurd (le40_i (by omega)) c_12)
  refine lv_iload hx hb dL_law_2811 (lv_at hl 0 rfl) ?_
  refine lv_aload_n hx hb dL_law_2813 rfl (lv_at hl 4 rfl) ?_
  refine lv_bipush (v := 6) hx hb dL_law_2814 (by decide) ?_
  refine xVi ha hP hS (y := yX7_count) (As := [.int 6]) (rest := [.int (a_highAll P (lotsP P S (nI (1 + s9)).toInt64 (1 + n9)))]) 0 (by decide) (cX_0 G _) rfl rfl (c_X7_count G l v8 6 (J_PO hJ)) kw_L_42 hd_X7_count rfl ⟨rfl, rfl⟩ ⟨Nat.le_of_ble_eq_true rfl, Nat.le_of_ble_eq_true rfl⟩ hcs hl.1 (Nat.le_of_ble_eq_true rfl) rfl dL_law_2816 (fun r_13 v9 H locs hpq hP hS => ?_)
  obtain ⟨hr_, hu_⟩ := hpq
  have hu_ := hu_.symm
  subst hu_
  have hr_ := hr_.trans (q_c6 hJ)
  have hr_ := hr_.symm
  subst hr_
  refine lv_icmp_ne (tgt := 2880) hx hb dL_law_2819 (by decide) (fun c_14 => absurd rfl c_14) (fun c_14 => ?_)
  refine lv_aload_n hx hb dL_law_2822 rfl (lv_at hl 4 rfl) ?_
  refine lv_iconst (v := 2) hx hb dL_law_2823 (by decide) ?_
  refine xVi ha hP hS (y := yX7_count) (As := [.int 2]) (rest := []) 0 (by decide) (cX_0 G _) rfl rfl (c_X7_count G l v8 2 (J_PO hJ)) kw_L_42 hd_X7_count rfl ⟨rfl, rfl⟩ ⟨Nat.le_of_ble_eq_true rfl, Nat.le_of_ble_eq_true rfl⟩ hcs hl.1 (Nat.le_of_ble_eq_true rfl) rfl dL_law_2824 (fun r_15 v10 H locs hpq hP hS => ?_)
  obtain ⟨hr_, hu_⟩ := hpq
  have hu_ := hu_.symm
  subst hu_
  have hr_ := hr_.trans (q_c2 hJ)
  have hr_ := hr_.symm
  subst hr_
  refine lv_iload hx hb dL_law_2827 (lv_at hl 9 rfl) ?_
  refine lv_iload hx hb dL_law_2829 (lv_at hl 2 rfl) ?_
  refine lw_iaddE (z := (nI (D + (1 + n9)))) hx hb dL_law_2831 (nI_add _ _) ?_
  refine lv_icmp_ne (tgt := 2880) hx hb dL_law_2832 (by decide) (fun c_16 => absurd rfl c_16) (fun c_16 => ?_)
  refine lv_aload_n hx hb dL_law_2835 rfl (lv_at hl 4 rfl) ?_
  refine lv_iload hx hb dL_law_2836 (lv_at hl 9 rfl) ?_
  refine xVi ha hP hS (y := yX7_undo) (As := [.int (nI D)]) (rest := []) 0 (by decide) (cX_0 G _) rfl rfl (c_X7_undo G l v8 (nI D) (J_PO hJ)) kw_L_116 hd_X7_undo rfl ⟨rfl, rfl⟩ ⟨Nat.le_of_ble_eq_true rfl, Nat.le_of_ble_eq_true rfl⟩ hcs hl.1 (Nat.le_of_ble_eq_true rfl) rfl dL_law_2838 (fun r_17 v11 H locs hpq hP hS => ?_)
  obtain ⟨hr_, hu_⟩ := hpq
  have hq_ := q_undo_r hrp hJ (by omega) hC9
  simp only [← hr_, ← hu_] at hq_
  clear hr_ hu_
  obtain ⟨h_r, hJ, rs⟩ := hq_
  subst h_r
  refine lv_iload hx hb dL_law_2841 (lv_at hl 2 rfl) ?_
  refine lv_icmp_ne (tgt := 2880) hx hb dL_law_2843 (by decide) (fun c_18 => absurd (by rw [Nat.add_sub_cancel_left]) c_18) (fun c_18 => ?_)
  refine lv_aload_n hx hb dL_law_2846 rfl (lv_at hl 4 rfl) ?_
  refine lv_bipush (v := 6) hx hb dL_law_2847 (by decide) ?_
  refine xVi ha hP hS (y := yX7_count) (As := [.int 6]) (rest := []) 0 (by decide) (cX_0 G _) rfl rfl (c_X7_count G l v11 6 (J_PO hJ)) kw_L_42 hd_X7_count rfl ⟨rfl, rfl⟩ ⟨Nat.le_of_ble_eq_true rfl, Nat.le_of_ble_eq_true rfl⟩ hcs hl.1 (Nat.le_of_ble_eq_true rfl) rfl dL_law_2849 (fun r_19 v12 H locs hpq hP hS => ?_)
  obtain ⟨hr_, hu_⟩ := hpq
  have hu_ := hu_.symm
  subst hu_
  have hr_ := hr_.trans (q_c6 hJ)
  have hr_ := hr_.symm
  subst hr_
  refine lv_iload hx hb dL_law_2852 (lv_at hl 11 rfl) ?_
  refine lv_icmp_ne (tgt := 2880) hx hb dL_law_2854 (by decide) (fun c_20 => absurd rfl c_20) (fun c_20 => ?_)
  refine lv_aload_n hx hb dL_law_2857 rfl (lv_at hl 4 rfl) ?_
  refine lv_iload hx hb dL_law_2858 (lv_at hl 2 rfl) ?_
  refine lv_iload hx hb dL_law_2860 (lv_at hl 1 rfl) ?_
  refine xVi ha hP hS (y := yX7_lots) (As := [.int (nI (1 + n9)), .int (nI (1 + s9))]) (rest := []) 0 (by decide) (cX_0 G _) rfl rfl (c_X7_lots G l v11 (nI (1 + n9)) (nI (1 + s9)) (J_PO hJ)) kw_L_180 hd_X7_lots rfl ⟨rfl, rfl⟩ ⟨Nat.le_of_ble_eq_true rfl, Nat.le_of_ble_eq_true rfl⟩ hcs hl.1 (Nat.le_of_ble_eq_true rfl) rfl dL_law_2862 (fun r_21 v13 H locs hpq hP hS => ?_)
  obtain ⟨hr_, hu_⟩ := hpq
  have hq_ := q_lots hJ hp0 (n := 1 + n9) (by omega) (by omega) (by omega) hsd
  simp only [← hr_, ← hu_] at hq_
  clear hr_ hu_
  obtain ⟨h_r, C9, hC9, hJ⟩ := hq_
  subst h_r
  refine lv_iload hx hb dL_law_2865 (lv_at hl 0 rfl) ?_
  refine lv_icmp_ne (tgt := 2880) hx hb dL_law_2867 (by decide) (fun c_22 => absurd rfl c_22) (fun c_22 => ?_)
  refine lv_aload_n hx hb dL_law_2870 rfl (lv_at hl 4 rfl) ?_
  refine lv_iconst (v := (nI 1)) hx hb dL_law_2871 (by decide) ?_
  refine xVi ha hP hS (y := yX7_on) (As := [.int (nI 1)]) (rest := []) 0 (by decide) (cX_0 G _) rfl rfl (c_X7_on G l v13 (nI 1) (J_PO hJ)) kw_L_149 hd_X7_on rfl ⟨rfl, rfl⟩ ⟨Nat.le_of_ble_eq_true rfl, Nat.le_of_ble_eq_true rfl⟩ hcs hl.1 (Nat.le_of_ble_eq_true rfl) rfl dL_law_2872 (fun r_23 v14 H locs hpq hP hS => ?_)
  obtain ⟨hr_, hu_⟩ := hpq
  have hq_ := q_on_r hrp hJ (k := 1) (by decide) (by omega) hK1 hK2
  simp only [← hr_, ← hu_] at hq_
  clear hr_ hu_
  obtain ⟨h_r, hJ, rs⟩ := hq_
  subst h_r
  refine lv_iload hx hb dL_law_2875 (lv_at hl 9 rfl) ?_
  refine lv_icmp_eq (tgt := 2882) hx hb dL_law_2877 (by decide) (fun c_24 => ?_) (fun c_24 => absurd rfl c_24)
  refine lv_aload_n hx hb dL_law_2882 rfl (lv_at hl 4 rfl) ?_
  refine lv_bipush (v := 6) hx hb dL_law_2883 (by decide) ?_
  refine xVi ha hP hS (y := yX7_count) (As := [.int 6]) (rest := []) 0 (by decide) (cX_0 G _) rfl rfl (c_X7_count G l v14 6 (J_PO hJ)) kw_L_42 hd_X7_count rfl ⟨rfl, rfl⟩ ⟨Nat.le_of_ble_eq_true rfl, Nat.le_of_ble_eq_true rfl⟩ hcs hl.1 (Nat.le_of_ble_eq_true rfl) rfl dL_law_2885 (fun r_25 v15 H locs hpq hP hS => ?_)
  obtain ⟨hr_, hu_⟩ := hpq
  have hu_ := hu_.symm
  subst hu_
  have hr_ := hr_.trans (q_c6 hJ)
  have hr_ := hr_.symm
  subst hr_
  refine lv_iload hx hb dL_law_2888 (lv_at hl 11 rfl) ?_
  refine lv_icmp_ne (tgt := 2958) hx hb dL_law_2890 (by decide) (fun c_26 => absurd rfl c_26) (fun c_26 => ?_)
  refine lv_aload_n hx hb dL_law_2893 rfl (lv_at hl 4 rfl) ?_
  refine lv_iconst (v := (nI 0)) hx hb dL_law_2894 (by decide) ?_
  refine xVi ha hP hS (y := yX7_undo) (As := [.int (nI 0)]) (rest := []) 0 (by decide) (cX_0 G _) rfl rfl (c_X7_undo G l v14 (nI 0) (J_PO hJ)) kw_L_116 hd_X7_undo rfl ⟨rfl, rfl⟩ ⟨Nat.le_of_ble_eq_true rfl, Nat.le_of_ble_eq_true rfl⟩ hcs hl.1 (Nat.le_of_ble_eq_true rfl) rfl dL_law_2895 (fun r_27 v16 H locs hpq hP hS => ?_)
  obtain ⟨hr_, hu_⟩ := hpq
  have hq_ := q_undo hJ (n := 0) (Nat.zero_le _)
  simp only [← hr_, ← hu_] at hq_
  clear hr_ hu_
  obtain ⟨h_r, hJ, rs⟩ := hq_
  subst h_r
  refine lv_iload hx hb dL_law_2898 (lv_at hl 9 rfl) ?_
  refine lv_icmp_ne (tgt := 2958) hx hb dL_law_2900 (by decide) (fun c_28 => absurd rfl c_28) (fun c_28 => ?_)
  refine lv_aload_n hx hb dL_law_2903 rfl (lv_at hl 4 rfl) ?_
  refine lv_iconst (v := (nI 0)) hx hb dL_law_2904 (by decide) ?_
  refine xVi ha hP hS (y := yX7_on) (As := [.int (nI 0)]) (rest := []) 0 (by decide) (cX_0 G _) rfl rfl (c_X7_on G l v16 (nI 0) (J_PO hJ)) kw_L_149 hd_X7_on rfl ⟨rfl, rfl⟩ ⟨Nat.le_of_ble_eq_true rfl, Nat.le_of_ble_eq_true rfl⟩ hcs hl.1 (Nat.le_of_ble_eq_true rfl) rfl dL_law_2905 (fun r_29 v17 H locs hpq hP hS => ?_)
  obtain ⟨hr_, hu_⟩ := hpq
  have hq_ := q_on hJ (k := 0) (n := 0) (by decide) (by decide) hK0
  simp only [← hr_, ← hu_] at hq_
  clear hr_ hu_
  obtain ⟨h_r, hJ, rs⟩ := hq_
  subst h_r
  refine lv_if_ne (tgt := 2958) hx hb dL_law_2908 (by decide) (fun c_30 => absurd rfl c_30) (fun c_30 => ?_)
  refine lv_aload_n hx hb dL_law_2911 rfl (lv_at hl 4 rfl) ?_
  refine lv_iconst (v := 3) hx hb dL_law_2912 (by decide) ?_
  refine xVi ha hP hS (y := yX7_count) (As := [.int 3]) (rest := []) 0 (by decide) (cX_0 G _) rfl rfl (c_X7_count G l v17 3 (J_PO hJ)) kw_L_42 hd_X7_count rfl ⟨rfl, rfl⟩ ⟨Nat.le_of_ble_eq_true rfl, Nat.le_of_ble_eq_true rfl⟩ hcs hl.1 (Nat.le_of_ble_eq_true rfl) rfl dL_law_2913 (fun r_31 v18 H locs hpq hP hS => ?_)
  obtain ⟨hr_, hu_⟩ := hpq
  have hu_ := hu_.symm
  subst hu_
  have hr_ := hr_.trans (q_c3 hJ)
  have hr_ := hr_.symm
  subst hr_
  refine lv_if_ne (tgt := 2958) hx hb dL_law_2916 (by decide) (fun c_32 => absurd rfl c_32) (fun c_32 => ?_)
  refine lv_aload_n hx hb dL_law_2919 rfl (lv_at hl 4 rfl) ?_
  refine lv_iconst (v := 4) hx hb dL_law_2920 (by decide) ?_
  refine xVi ha hP hS (y := yX7_count) (As := [.int 4]) (rest := []) 0 (by decide) (cX_0 G _) rfl rfl (c_X7_count G l v17 4 (J_PO hJ)) kw_L_42 hd_X7_count rfl ⟨rfl, rfl⟩ ⟨Nat.le_of_ble_eq_true rfl, Nat.le_of_ble_eq_true rfl⟩ hcs hl.1 (Nat.le_of_ble_eq_true rfl) rfl dL_law_2921 (fun r_33 v19 H locs hpq hP hS => ?_)
  obtain ⟨hr_, hu_⟩ := hpq
  have hu_ := hu_.symm
  subst hu_
  have hr_ := hr_.trans (q_c4 hJ)
  have hr_ := hr_.symm
  subst hr_
  refine lv_if_ne (tgt := 2958) hx hb dL_law_2924 (by decide) (fun c_34 => absurd rfl c_34) (fun c_34 => ?_)
  refine lv_aload_n hx hb dL_law_2927 rfl (lv_at hl 4 rfl) ?_
  refine lv_iconst (v := 5) hx hb dL_law_2928 (by decide) ?_
  refine xVi ha hP hS (y := yX7_count) (As := [.int 5]) (rest := []) 0 (by decide) (cX_0 G _) rfl rfl (c_X7_count G l v17 5 (J_PO hJ)) kw_L_42 hd_X7_count rfl ⟨rfl, rfl⟩ ⟨Nat.le_of_ble_eq_true rfl, Nat.le_of_ble_eq_true rfl⟩ hcs hl.1 (Nat.le_of_ble_eq_true rfl) rfl dL_law_2929 (fun r_35 v20 H locs hpq hP hS => ?_)
  obtain ⟨hr_, hu_⟩ := hpq
  have hu_ := hu_.symm
  subst hu_
  have hr_ := hr_.trans ((q_c5 hJ).trans (bg_people hpb))
  have hr_ := hr_.symm
  subst hr_
  refine lv_if_ne (tgt := 2958) hx hb dL_law_2932 (by decide) (fun c_36 => absurd rfl c_36) (fun c_36 => ?_)
  refine lv_aload_n hx hb dL_law_2935 rfl (lv_at hl 4 rfl) ?_
  refine lv_bipush (v := 7) hx hb dL_law_2936 (by decide) ?_
  refine xVi ha hP hS (y := yX7_count) (As := [.int 7]) (rest := []) 0 (by decide) (cX_0 G _) rfl rfl (c_X7_count G l v17 7 (J_PO hJ)) kw_L_42 hd_X7_count rfl ⟨rfl, rfl⟩ ⟨Nat.le_of_ble_eq_true rfl, Nat.le_of_ble_eq_true rfl⟩ hcs hl.1 (Nat.le_of_ble_eq_true rfl) rfl dL_law_2938 (fun r_37 v21 H locs hpq hP hS => ?_)
  obtain ⟨hr_, hu_⟩ := hpq
  have hu_ := hu_.symm
  subst hu_
  have hr_ := hr_.trans (q_c7 hJ)
  have hr_ := hr_.symm
  subst hr_
  refine lv_if_ne (tgt := 2958) hx hb dL_law_2941 (by decide) (fun c_38 => absurd rfl c_38) (fun c_38 => ?_)
  refine lv_aload_n hx hb dL_law_2944 rfl (lv_at hl 4 rfl) ?_
  refine lv_bipush (v := 10) hx hb dL_law_2945 (by decide) ?_
  refine xVi ha hP hS (y := yX7_count) (As := [.int 10]) (rest := []) 0 (by decide) (cX_0 G _) rfl rfl (c_X7_count G l v17 10 (J_PO hJ)) kw_L_42 hd_X7_count rfl ⟨rfl, rfl⟩ ⟨Nat.le_of_ble_eq_true rfl, Nat.le_of_ble_eq_true rfl⟩ hcs hl.1 (Nat.le_of_ble_eq_true rfl) rfl dL_law_2947 (fun r_39 v22 H locs hpq hP hS => ?_)
  obtain ⟨hr_, hu_⟩ := hpq
  have hu_ := hu_.symm
  subst hu_
  have hr_ := hr_.trans ((q_c10 hJ).trans (kept_2 (by omega) hK0 hK1 hK3))
  have hr_ := hr_.symm
  subst hr_
  refine lv_iconst (v := 2) hx hb dL_law_2950 (by decide) ?_
  refine lv_icmp_ne (tgt := 2958) hx hb dL_law_2951 (by decide) (fun c_40 => absurd rfl c_40) (fun c_40 => ?_)
  refine lv_iconst (v := 1) hx hb dL_law_2954 (by decide) ?_
  refine lv_goto (tgt := 2959) hx hb dL_law_2955 (by decide) ?_
  exact kk v17  _ _ _  hP hS (lv_sub hl [3, 4, 5, 6, 7, 8] rfl)
end SC10

