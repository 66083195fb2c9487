
theorem hd_L_cell : kHd yL_cell 2 := by decide +kernel
theorem hd_L_part : kHd yL_part 2 := by decide +kernel
theorem hd_L_told : kHd yL_told 2 := by decide +kernel
theorem hd_X7_count : kHd yX7_count 1 := by decide +kernel
theorem hd_X7_holds : kHd yX7_holds 0 := by decide +kernel
theorem hd_X7_one : kHd yX7_one 2 := by decide +kernel
theorem hd_X7_pole : kHd yX7_pole 2 := by decide +kernel
theorem kw_L_15 : ∀ w ∈ k5S RL 15 yL_cell cL_cell 2 (some .int), w ∈ TB := tb_ins (by decide +kernel)
theorem kw_L_42 : ∀ w ∈ k5V RL 42 yX7_count cX7_count 2 (some .int), w ∈ TB := tb_ins (by decide +kernel)
theorem kw_L_21 : ∀ w ∈ k5S RL 21 yL_part cL_part 2 (some .int), w ∈ TB := tb_ins (by decide +kernel)
theorem kw_L_98 : ∀ w ∈ k5V RL 98 yX7_one cX7_one 3 (some .int), w ∈ TB := tb_ins (by decide +kernel)
theorem kw_L_101 : ∀ w ∈ k5S RL 101 yL_told cL_told 2 (some .int), w ∈ TB := tb_ins (by decide +kernel)
theorem kw_L_105 : ∀ w ∈ k5V RL 105 yX7_pole cX7_pole 3 (some .int), w ∈ TB := tb_ins (by decide +kernel)
theorem kw_L_108 : ∀ w ∈ k5V RL 108 yX7_holds cX7_holds 3 (some .int), w ∈ TB := tb_ins (by decide +kernel)
section SC01
variable {p : Program} {l : Launch} {e : Env} {s : State} {m : MethodId} {args : Array Value} {below : List Frame} {meth : Method} {c : Code} {H : Heap} {locs : List Loc} {cells slots : Nat} {Q : State → Prop} {ls : Array Slot} {G : GT}
set_option maxHeartbeats 4000000 in
set_option maxRecDepth 100000 in
theorem seg_73 (ha : Amb p c cL_law 31 s args RL m meth (some .boolean) G 74) (hcs : cells ≤ room_1.cells ∧ slots ≤ room_1.slots) (P : PT) (Z : Nat → Int32) (K : KT) (S : PT) (D : Nat) (C : Nat → Int32) (T6 : Nat) (c7 : Nat) {u : Mem} (hN : NV P Z) (hJ : J P Z K S D C u) (hT6 : T6 < 22) (hc7 : c7 < T6) (hP : va_P G.2.1 vwCl (wl G 74 (cX G u)) H) (hS : va_S (xA G 74 s.heap.size) s.heap H locs) (hl : lv_has ls 31 [(0, .ref (G.1 1000)), (1, .ref (G.1 0)), (2, .ref (G.1 72)), (3, .ref (G.1 73)), (4, .int (nI (nPl P))), (5, .int (nI (nPe P))), (6, .int (nI T6)), (7, .int (nI c7))])
    (kk : ∀ (v : Mem) (x8 : Int32) (i k hw : Nat) (H : Heap) (locs : List Loc) (ls : Array Slot), (i < nPe P) → (k < nPl P) → (hw < 12) → (J P Z K S D C v) → va_P G.2.1 vwCl (wl G 74 (cX G v)) H → va_S (xA G 74 s.heap.size) s.heap H locs → lv_has ls 31 [(0, .ref (G.1 1000)), (1, .ref (G.1 0)), (2, .ref (G.1 72)), (3, .ref (G.1 73)), (4, .int (nI (nPl P))), (5, .int (nI (nPe P))), (6, .int (nI T6)), (7, .int (nI c7)), (8, .int x8), (9, .int (nI D)), (10, .int (S 0 1)), (11, .int (S 0 0)), (12, .int (a_seatedPeople P S)), (13, .int (a_highAll P S)), (14, .int (S 0 2)), (15, .int (nI i)), (16, .int (nI k)), (17, .int (S 2 i)), (18, .int (a_load P S (nI k))), (19, .int (S 1 k)), (20, .int (b2i (!a_isUp P S (nI k)))), (21, .int (a_standing P S)), (22, .int (nI hw)), (23, .int 1)] → W p l e room_1 s m args below meth c H locs cells slots Q (F0 m 226 ls [])) : W p l e room_1 s m args below meth c H locs cells slots Q (F0 m 73 ls []) := by
  have hx := ha.1
  have hb := ha.2.1
  obtain ⟨h4, h5⟩ := NV_45 hJ
  have hp0 := hN.1.1
  have hq0 := hN.1.2
  have hpb := (J_plan hJ).1
  have hpr := (J_plan hJ).2
  have hg := J_gs hJ
  refine lv_aload_n hx hb dL_law_73 rfl (lv_at hl 0 rfl) ?_
  refine lv_bipush (v := 11) hx hb dL_law_74 (by decide) ?_
  refine lv_iload hx hb dL_law_76 (lv_at hl 7 rfl) ?_
  refine lw_iaddE (z := (nI (11 + c7))) hx hb dL_law_78 (nI_add 11 c7) ?_
  refine xSi ha hP hS (y := yL_cell) (As := [.ref (G.1 1000), .int (nI (11 + c7))]) (rest := []) rfl (c_L_cell G l u (11 + c7) (by omega)) kw_L_15 hd_L_cell rfl ⟨rfl, rfl⟩ ⟨Nat.le_of_ble_eq_true rfl, Nat.le_of_ble_eq_true rfl⟩ hcs hl.1 (Nat.le_of_ble_eq_true rfl) rfl dL_law_79 (fun r_1 v1 H locs hpq hP hS => ?_)
  obtain ⟨hr_, hu_⟩ := hpq
  have hu_ := hu_.symm
  subst hu_
  refine lv_istore (lv' := [(8, .int r_1), (0, .ref (G.1 1000)), (1, .ref (G.1 0)), (2, .ref (G.1 72)), (3, .ref (G.1 73)), (4, .int (nI (nPl P))), (5, .int (nI (nPe P))), (6, .int (nI T6)), (7, .int (nI c7))]) hx hb dL_law_82 hl (by decide) rfl (fun ls hl => ?_)
  refine lv_aload_n hx hb dL_law_84 rfl (lv_at hl 2 rfl) ?_
  refine lv_iconst (v := 2) hx hb dL_law_85 (by decide) ?_
  refine xVi ha hP hS (y := yX7_count) (As := [.int 2]) (rest := []) 0 (by decide) (cX_0 G _) rfl rfl (c_X7_count G l u 2 (J_PO hJ)) kw_L_42 hd_X7_count rfl ⟨rfl, rfl⟩ ⟨Nat.le_of_ble_eq_true rfl, Nat.le_of_ble_eq_true rfl⟩ hcs hl.1 (Nat.le_of_ble_eq_true rfl) rfl dL_law_86 (fun r_2 v2 H locs hpq hP hS => ?_)
  obtain ⟨hr_, hu_⟩ := hpq
  have hu_ := hu_.symm
  subst hu_
  have hr_ := hr_.trans (q_c2 hJ)
  have hr_ := hr_.symm
  subst hr_
  refine lv_istore (lv' := [(9, .int (nI D)), (8, .int r_1), (0, .ref (G.1 1000)), (1, .ref (G.1 0)), (2, .ref (G.1 72)), (3, .ref (G.1 73)), (4, .int (nI (nPl P))), (5, .int (nI (nPe P))), (6, .int (nI T6)), (7, .int (nI c7))]) hx hb dL_law_89 hl (by decide) rfl (fun ls hl => ?_)
  refine lv_aload_n hx hb dL_law_91 rfl (lv_at hl 3 rfl) ?_
  refine lv_iconst (v := 3) hx hb dL_law_92 (by decide) ?_
  refine xVi ha hP hS (y := yX7_count) (As := [.int 3]) (rest := []) 0 (by decide) (cX_0 G _) rfl rfl (c_X7_count G l u 3 (J_PO hJ)) kw_L_42 hd_X7_count rfl ⟨rfl, rfl⟩ ⟨Nat.le_of_ble_eq_true rfl, Nat.le_of_ble_eq_true rfl⟩ hcs hl.1 (Nat.le_of_ble_eq_true rfl) rfl dL_law_93 (fun r_3 v3 H locs hpq hP hS => ?_)
  obtain ⟨hr_, hu_⟩ := hpq
  have hu_ := hu_.symm
  subst hu_
  have hr_ := hr_.trans (q_c3 hJ)
  have hr_ := hr_.symm
  subst hr_
  refine lv_istore (lv' := [(10, .int (S 0 1)), (9, .int (nI D)), (8, .int r_1), (0, .ref (G.1 1000)), (1, .ref (G.1 0)), (2, .ref (G.1 72)), (3, .ref (G.1 73)), (4, .int (nI (nPl P))), (5, .int (nI (nPe P))), (6, .int (nI T6)), (7, .int (nI c7))]) hx hb dL_law_96 hl (by decide) rfl (fun ls hl => ?_)
  refine lv_aload_n hx hb dL_law_98 rfl (lv_at hl 4 rfl) ?_
  refine lv_iconst (v := 4) hx hb dL_law_99 (by decide) ?_
  refine xVi ha hP hS (y := yX7_count) (As := [.int 4]) (rest := []) 0 (by decide) (cX_0 G _) rfl rfl (c_X7_count G l u 4 (J_PO hJ)) kw_L_42 hd_X7_count rfl ⟨rfl, rfl⟩ ⟨Nat.le_of_ble_eq_true rfl, Nat.le_of_ble_eq_true rfl⟩ hcs hl.1 (Nat.le_of_ble_eq_true rfl) rfl dL_law_100 (fun r_4 v4 H locs hpq hP hS => ?_)
  obtain ⟨hr_, hu_⟩ := hpq
  have hu_ := hu_.symm
  subst hu_
  have hr_ := hr_.trans (q_c4 hJ)
  have hr_ := hr_.symm
  subst hr_
  refine lv_istore (lv' := [(11, .int (S 0 0)), (10, .int (S 0 1)), (9, .int (nI D)), (8, .int r_1), (0, .ref (G.1 1000)), (1, .ref (G.1 0)), (2, .ref (G.1 72)), (3, .ref (G.1 73)), (4, .int (nI (nPl P))), (5, .int (nI (nPe P))), (6, .int (nI T6)), (7, .int (nI c7))]) hx hb dL_law_103 hl (by decide) rfl (fun ls hl => ?_)
  refine lv_aload_n hx hb dL_law_105 rfl (lv_at hl 5 rfl) ?_
  refine lv_iconst (v := 5) hx hb dL_law_106 (by decide) ?_
  refine xVi ha hP hS (y := yX7_count) (As := [.int 5]) (rest := []) 0 (by decide) (cX_0 G _) rfl rfl (c_X7_count G l u 5 (J_PO hJ)) kw_L_42 hd_X7_count rfl ⟨rfl, rfl⟩ ⟨Nat.le_of_ble_eq_true rfl, Nat.le_of_ble_eq_true rfl⟩ hcs hl.1 (Nat.le_of_ble_eq_true rfl) rfl dL_law_107 (fun r_5 v5 H locs hpq hP hS => ?_)
  obtain ⟨hr_, hu_⟩ := hpq
  have hu_ := hu_.symm
  subst hu_
  have hr_ := hr_.trans (q_c5 hJ)
  have hr_ := hr_.symm
  subst hr_
  refine lv_istore (lv' := [(12, .int (a_seatedPeople P S)), (11, .int (S 0 0)), (10, .int (S 0 1)), (9, .int (nI D)), (8, .int r_1), (0, .ref (G.1 1000)), (1, .ref (G.1 0)), (2, .ref (G.1 72)), (3, .ref (G.1 73)), (4, .int (nI (nPl P))), (5, .int (nI (nPe P))), (6, .int (nI T6)), (7, .int (nI c7))]) hx hb dL_law_110 hl (by decide) rfl (fun ls hl => ?_)
  refine lv_aload_n hx hb dL_law_112 rfl (lv_at hl 6 rfl) ?_
  refine lv_bipush (v := 6) hx hb dL_law_113 (by decide) ?_
  refine xVi ha hP hS (y := yX7_count) (As := [.int 6]) (rest := []) 0 (by decide) (cX_0 G _) rfl rfl (c_X7_count G l u 6 (J_PO hJ)) kw_L_42 hd_X7_count rfl ⟨rfl, rfl⟩ ⟨Nat.le_of_ble_eq_true rfl, Nat.le_of_ble_eq_true rfl⟩ hcs hl.1 (Nat.le_of_ble_eq_true rfl) rfl dL_law_115 (fun r_6 v6 H locs hpq hP hS => ?_)
  obtain ⟨hr_, hu_⟩ := hpq
  have hu_ := hu_.symm
  subst hu_
  have hr_ := hr_.trans (q_c6 hJ)
  have hr_ := hr_.symm
  subst hr_
  refine lv_istore (lv' := [(13, .int (a_highAll P S)), (12, .int (a_seatedPeople P S)), (11, .int (S 0 0)), (10, .int (S 0 1)), (9, .int (nI D)), (8, .int r_1), (0, .ref (G.1 1000)), (1, .ref (G.1 0)), (2, .ref (G.1 72)), (3, .ref (G.1 73)), (4, .int (nI (nPl P))), (5, .int (nI (nPe P))), (6, .int (nI T6)), (7, .int (nI c7))]) hx hb dL_law_118 hl (by decide) rfl (fun ls hl => ?_)
  refine lv_aload_n hx hb dL_law_120 rfl (lv_at hl 7 rfl) ?_
  refine lv_bipush (v := 7) hx hb dL_law_121 (by decide) ?_
  refine xVi ha hP hS (y := yX7_count) (As := [.int 7]) (rest := []) 0 (by decide) (cX_0 G _) rfl rfl (c_X7_count G l u 7 (J_PO hJ)) kw_L_42 hd_X7_count rfl ⟨rfl, rfl⟩ ⟨Nat.le_of_ble_eq_true rfl, Nat.le_of_ble_eq_true rfl⟩ hcs hl.1 (Nat.le_of_ble_eq_true rfl) rfl dL_law_123 (fun r_7 v7 H locs hpq hP hS => ?_)
  obtain ⟨hr_, hu_⟩ := hpq
  have hu_ := hu_.symm
  subst hu_
  have hr_ := hr_.trans (q_c7 hJ)
  have hr_ := hr_.symm
  subst hr_
  refine lv_istore (lv' := [(14, .int (S 0 2)), (13, .int (a_highAll P S)), (12, .int (a_seatedPeople P S)), (11, .int (S 0 0)), (10, .int (S 0 1)), (9, .int (nI D)), (8, .int r_1), (0, .ref (G.1 1000)), (1, .ref (G.1 0)), (2, .ref (G.1 72)), (3, .ref (G.1 73)), (4, .int (nI (nPl P))), (5, .int (nI (nPe P))), (6, .int (nI T6)), (7, .int (nI c7))]) hx hb dL_law_126 hl (by decide) rfl (fun ls hl => ?_)
  refine lv_iload hx hb dL_law_128 (lv_at hl 6 rfl) ?_
  refine lv_iconst (v := 4) hx hb dL_law_130 (by decide) ?_
  refine lv_ishr hx hb dL_law_131 ?_
  refine lv_iload hx hb dL_law_132 (lv_at hl 12 rfl) ?_
  refine xSi ha hP hS (y := yL_part) (As := [.int (r_1 >>> (4 &&& 31)), .int (nI (nPe P))]) (rest := []) rfl (c_L_part G l u (r_1 >>> (4 &&& 31)) (nI (nPe P)) (nI_ne0 hq0 (by omega))) kw_L_21 hd_L_part rfl ⟨rfl, rfl⟩ ⟨Nat.le_of_ble_eq_true rfl, Nat.le_of_ble_eq_true rfl⟩ hcs hl.1 (Nat.le_of_ble_eq_true rfl) rfl dL_law_134 (fun r_8 v8 H locs hpq hP hS => ?_)
  obtain ⟨hr_, hu_⟩ := hpq
  have hu_ := hu_.symm
  subst hu_
  obtain ⟨i, hi, ei⟩ : ∃ j, j < nPe P ∧ r_8 = nI j := by rw [hr_]; exact part_N _ hq0 (by omega)
  clear hr_
  subst ei
  refine lv_istore (lv' := [(15, .int (nI i)), (14, .int (S 0 2)), (13, .int (a_highAll P S)), (12, .int (a_seatedPeople P S)), (11, .int (S 0 0)), (10, .int (S 0 1)), (9, .int (nI D)), (8, .int r_1), (0, .ref (G.1 1000)), (1, .ref (G.1 0)), (2, .ref (G.1 72)), (3, .ref (G.1 73)), (4, .int (nI (nPl P))), (5, .int (nI (nPe P))), (6, .int (nI T6)), (7, .int (nI c7))]) hx hb dL_law_137 hl (by decide) rfl (fun ls hl => ?_)
  refine lv_iload hx hb dL_law_139 (lv_at hl 7 rfl) ?_
  refine lv_bipush (v := 7) hx hb dL_law_141 (by decide) ?_
  refine lv_ishr hx hb dL_law_143 ?_
  refine lv_iload hx hb dL_law_144 (lv_at hl 12 rfl) ?_
  refine xSi ha hP hS (y := yL_part) (As := [.int (r_1 >>> (7 &&& 31)), .int (nI (nPl P))]) (rest := []) rfl (c_L_part G l u (r_1 >>> (7 &&& 31)) (nI (nPl P)) (nI_ne0 hp0 (by omega))) kw_L_21 hd_L_part rfl ⟨rfl, rfl⟩ ⟨Nat.le_of_ble_eq_true rfl, Nat.le_of_ble_eq_true rfl⟩ hcs hl.1 (Nat.le_of_ble_eq_true rfl) rfl dL_law_146 (fun r_9 v9 H locs hpq hP hS => ?_)
  obtain ⟨hr_, hu_⟩ := hpq
  have hu_ := hu_.symm
  subst hu_
  obtain ⟨k, hk, ek⟩ : ∃ j, j < nPl P ∧ r_9 = nI j := by rw [hr_]; exact part_N _ hp0 (by omega)
  clear hr_
  subst ek
  refine lv_istore (lv' := [(16, .int (nI k)), (15, .int (nI i)), (14, .int (S 0 2)), (13, .int (a_highAll P S)), (12, .int (a_seatedPeople P S)), (11, .int (S 0 0)), (10, .int (S 0 1)), (9, .int (nI D)), (8, .int r_1), (0, .ref (G.1 1000)), (1, .ref (G.1 0)), (2, .ref (G.1 72)), (3, .ref (G.1 73)), (4, .int (nI (nPl P))), (5, .int (nI (nPe P))), (6, .int (nI T6)), (7, .int (nI c7))]) hx hb dL_law_149 hl (by decide) rfl (fun ls hl => ?_)
  refine lv_aload_n hx hb dL_law_151 rfl (lv_at hl 10 rfl) ?_
  refine lv_aload_n hx hb dL_law_152 rfl (lv_at hl 10 rfl) ?_
  refine lv_iload hx hb dL_law_153 (lv_at hl 1 rfl) ?_
  refine lv_iconst (v := 2) hx hb dL_law_155 (by decide) ?_
  refine xVi ha hP hS (y := yX7_one) (As := [.int (nI i), .int 2]) (rest := [.ref (G.1 0)]) 0 (by decide) (cX_0 G _) rfl rfl (c_X7_one G l u (nI i) 2 (J_PO hJ)) kw_L_98 hd_X7_one rfl ⟨rfl, rfl⟩ ⟨Nat.le_of_ble_eq_true rfl, Nat.le_of_ble_eq_true rfl⟩ hcs hl.1 (Nat.le_of_ble_eq_true rfl) rfl dL_law_156 (fun r_10 v10 H locs hpq hP hS => ?_)
  obtain ⟨hr_, hu_⟩ := hpq
  have hq_ := q_one hJ (one_nI hpb hi) (w := 2) (by decide)
  simp only [← hr_, ← hu_] at hq_
  clear hr_ hu_
  obtain ⟨h_r, t1, hJ, rs⟩ := hq_
  subst h_r
  refine xSi ha hP hS (y := yL_told) (As := [.ref (G.1 0), .int 1]) (rest := []) rfl (c_L_told1 G l v10  ) kw_L_101 hd_L_told rfl ⟨rfl, rfl⟩ ⟨Nat.le_of_ble_eq_true rfl, Nat.le_of_ble_eq_true rfl⟩ hcs hl.1 (Nat.le_of_ble_eq_true rfl) rfl dL_law_159 (fun r_11 v11 H locs hpq hP hS => ?_)
  obtain ⟨hr_, hu_⟩ := hpq
  have hu_ := hu_.symm
  subst hu_
  have hr_ := hr_.trans (t1.trans (one_2 hpb hi))
  have hr_ := hr_.symm
  subst hr_
  refine lv_istore (lv' := [(17, .int (S 2 i)), (16, .int (nI k)), (15, .int (nI i)), (14, .int (S 0 2)), (13, .int (a_highAll P S)), (12, .int (a_seatedPeople P S)), (11, .int (S 0 0)), (10, .int (S 0 1)), (9, .int (nI D)), (8, .int r_1), (0, .ref (G.1 1000)), (1, .ref (G.1 0)), (2, .ref (G.1 72)), (3, .ref (G.1 73)), (4, .int (nI (nPl P))), (5, .int (nI (nPe P))), (6, .int (nI T6)), (7, .int (nI c7))]) hx hb dL_law_162 hl (by decide) rfl (fun ls hl => ?_)
  refine lv_aload_n hx hb dL_law_164 rfl (lv_at hl 11 rfl) ?_
  refine lv_aload_n hx hb dL_law_165 rfl (lv_at hl 11 rfl) ?_
  refine lv_iload hx hb dL_law_166 (lv_at hl 1 rfl) ?_
  refine lv_iconst (v := 5) hx hb dL_law_168 (by decide) ?_
  refine xVi ha hP hS (y := yX7_pole) (As := [.int (nI k), .int 5]) (rest := [.ref (G.1 0)]) 0 (by decide) (cX_0 G _) rfl rfl (c_X7_pole G l v10 (nI k) 5 (J_PO hJ)) kw_L_105 hd_X7_pole rfl ⟨rfl, rfl⟩ ⟨Nat.le_of_ble_eq_true rfl, Nat.le_of_ble_eq_true rfl⟩ hcs hl.1 (Nat.le_of_ble_eq_true rfl) rfl dL_law_169 (fun r_12 v12 H locs hpq hP hS => ?_)
  obtain ⟨hr_, hu_⟩ := hpq
  have hq_ := q_pole hJ (pole_nI hpb hk) (w := 5) (by decide)
  simp only [← hr_, ← hu_] at hq_
  clear hr_ hu_
  obtain ⟨h_r, t1, hJ, rs⟩ := hq_
  subst h_r
  refine xSi ha hP hS (y := yL_told) (As := [.ref (G.1 0), .int 1]) (rest := []) rfl (c_L_told1 G l v12  ) kw_L_101 hd_L_told rfl ⟨rfl, rfl⟩ ⟨Nat.le_of_ble_eq_true rfl, Nat.le_of_ble_eq_true rfl⟩ hcs hl.1 (Nat.le_of_ble_eq_true rfl) rfl dL_law_172 (fun r_13 v13 H locs hpq hP hS => ?_)
  obtain ⟨hr_, hu_⟩ := hpq
  have hu_ := hu_.symm
  subst hu_
  have hr_ := hr_.trans (t1.trans (pole_5 hpb hk))
  have hr_ := hr_.symm
  subst hr_
  refine lv_istore (lv' := [(18, .int (a_load P S (nI k))), (17, .int (S 2 i)), (16, .int (nI k)), (15, .int (nI i)), (14, .int (S 0 2)), (13, .int (a_highAll P S)), (12, .int (a_seatedPeople P S)), (11, .int (S 0 0)), (10, .int (S 0 1)), (9, .int (nI D)), (8, .int r_1), (0, .ref (G.1 1000)), (1, .ref (G.1 0)), (2, .ref (G.1 72)), (3, .ref (G.1 73)), (4, .int (nI (nPl P))), (5, .int (nI (nPe P))), (6, .int (nI T6)), (7, .int (nI c7))]) hx hb dL_law_175 hl (by decide) rfl (fun ls hl => ?_)
  refine lv_aload_n hx hb dL_law_177 rfl (lv_at hl 12 rfl) ?_
  refine lv_aload_n hx hb dL_law_178 rfl (lv_at hl 12 rfl) ?_
  refine lv_iload hx hb dL_law_179 (lv_at hl 2 rfl) ?_
  refine lv_iconst (v := 3) hx hb dL_law_181 (by decide) ?_
  refine xVi ha hP hS (y := yX7_pole) (As := [.int (nI k), .int 3]) (rest := [.ref (G.1 0)]) 0 (by decide) (cX_0 G _) rfl rfl (c_X7_pole G l v12 (nI k) 3 (J_PO hJ)) kw_L_105 hd_X7_pole rfl ⟨rfl, rfl⟩ ⟨Nat.le_of_ble_eq_true rfl, Nat.le_of_ble_eq_true rfl⟩ hcs hl.1 (Nat.le_of_ble_eq_true rfl) rfl dL_law_182 (fun r_14 v14 H locs hpq hP hS => ?_)
  obtain ⟨hr_, hu_⟩ := hpq
  have hq_ := q_pole hJ (pole_nI hpb hk) (w := 3) (by decide)
  simp only [← hr_, ← hu_] at hq_
  clear hr_ hu_
  obtain ⟨h_r, t1, hJ, rs⟩ := hq_
  subst h_r
  refine xSi ha hP hS (y := yL_told) (As := [.ref (G.1 0), .int 1]) (rest := []) rfl (c_L_told1 G l v14  ) kw_L_101 hd_L_told rfl ⟨rfl, rfl⟩ ⟨Nat.le_of_ble_eq_true rfl, Nat.le_of_ble_eq_true rfl⟩ hcs hl.1 (Nat.le_of_ble_eq_true rfl) rfl dL_law_185 (fun r_15 v15 H locs hpq hP hS => ?_)
  obtain ⟨hr_, hu_⟩ := hpq
  have hu_ := hu_.symm
  subst hu_
  have hr_ := hr_.trans (t1.trans (pole_3 hpb hk))
  have hr_ := hr_.symm
  subst hr_
  refine lv_istore (lv' := [(19, .int (S 1 k)), (18, .int (a_load P S (nI k))), (17, .int (S 2 i)), (16, .int (nI k)), (15, .int (nI i)), (14, .int (S 0 2)), (13, .int (a_highAll P S)), (12, .int (a_seatedPeople P S)), (11, .int (S 0 0)), (10, .int (S 0 1)), (9, .int (nI D)), (8, .int r_1), (0, .ref (G.1 1000)), (1, .ref (G.1 0)), (2, .ref (G.1 72)), (3, .ref (G.1 73)), (4, .int (nI (nPl P))), (5, .int (nI (nPe P))), (6, .int (nI T6)), (7, .int (nI c7))]) hx hb dL_law_188 hl (by decide) rfl (fun ls hl => ?_)
  refine lv_iload hx hb dL_law_190 (lv_at hl 8 rfl) ?_
  refine lv_iload hx hb dL_law_192 (lv_at hl 3 rfl) ?_
  refine lv_ishr hx hb dL_law_194 ?_
  refine lv_iconst (v := 1) hx hb dL_law_195 (by decide) ?_
  refine lv_iand hx hb dL_law_196 ?_
  refine lv_iconst (v := 1) hx hb dL_law_197 (by decide) ?_
  have jn_206_16 : ∀ (x : Int32), (x = b2i (!a_isUp P S (nI k))) → W p l e room_1 s m args below meth c H locs cells slots Q (F0 m 206 ls [.int x]) := by
    intro x ex
    subst ex
    refine lv_istore (lv' := [(20, .int (b2i (!a_isUp P S (nI k)))), (19, .int (S 1 k)), (18, .int (a_load P S (nI k))), (17, .int (S 2 i)), (16, .int (nI k)), (15, .int (nI i)), (14, .int (S 0 2)), (13, .int (a_highAll P S)), (12, .int (a_seatedPeople P S)), (11, .int (S 0 0)), (10, .int (S 0 1)), (9, .int (nI D)), (8, .int r_1), (0, .ref (G.1 1000)), (1, .ref (G.1 0)), (2, .ref (G.1 72)), (3, .ref (G.1 73)), (4, .int (nI (nPl P))), (5, .int (nI (nPe P))), (6, .int (nI T6)), (7, .int (nI c7))]) hx hb dL_law_206 hl (by decide) rfl (fun ls hl => ?_)
    refine lv_aload_n hx hb dL_law_208 rfl (lv_at hl 14 rfl) ?_
    refine xVi ha hP hS (y := yX7_holds) (As := []) (rest := []) 0 (by decide) (cX_0 G _) rfl rfl (c_X7_holds G l v14  (J_PO hJ)) kw_L_108 hd_X7_holds rfl ⟨rfl, rfl⟩ ⟨Nat.le_of_ble_eq_true rfl, Nat.le_of_ble_eq_true rfl⟩ hcs hl.1 (Nat.le_of_ble_eq_true rfl) rfl dL_law_209 (fun r_17 v16 H locs hpq hP hS => ?_)
    obtain ⟨hr_, hu_⟩ := hpq
    have hq_ := q_holds hJ hp0
    simp only [← hr_, ← hu_] at hq_
    clear hr_ hu_
    obtain ⟨h_r, t1, hJ, rs⟩ := hq_
    subst h_r
    refine lv_istore (lv' := [(21, .int (a_standing P S)), (20, .int (b2i (!a_isUp P S (nI k)))), (19, .int (S 1 k)), (18, .int (a_load P S (nI k))), (17, .int (S 2 i)), (16, .int (nI k)), (15, .int (nI i)), (14, .int (S 0 2)), (13, .int (a_highAll P S)), (12, .int (a_seatedPeople P S)), (11, .int (S 0 0)), (10, .int (S 0 1)), (9, .int (nI D)), (8, .int r_1), (0, .ref (G.1 1000)), (1, .ref (G.1 0)), (2, .ref (G.1 72)), (3, .ref (G.1 73)), (4, .int (nI (nPl P))), (5, .int (nI (nPe P))), (6, .int (nI T6)), (7, .int (nI c7))]) hx hb dL_law_212 hl (by decide) rfl (fun ls hl => ?_)
    refine lv_iload hx hb dL_law_214 (lv_at hl 13 rfl) ?_
    refine lv_bipush (v := 12) hx hb dL_law_216 (by decide) ?_
    refine xSi ha hP hS (y := yL_part) (As := [.int r_1, .int 12]) (rest := []) rfl (c_L_part G l v16 r_1 12 (by decide)) kw_L_21 hd_L_part rfl ⟨rfl, rfl⟩ ⟨Nat.le_of_ble_eq_true rfl, Nat.le_of_ble_eq_true rfl⟩ hcs hl.1 (Nat.le_of_ble_eq_true rfl) rfl dL_law_218 (fun r_18 v17 H locs hpq hP hS => ?_)
    obtain ⟨hr_, hu_⟩ := hpq
    have hu_ := hu_.symm
    subst hu_
    obtain ⟨hw, hhw, ehw⟩ : ∃ j, j < 12 ∧ r_18 = nI j := by rw [hr_]; exact part_N _ (n := 12) (by decide) (by omega)
    clear hr_
    subst ehw
    refine lv_istore (lv' := [(22, .int (nI hw)), (21, .int (a_standing P S)), (20, .int (b2i (!a_isUp P S (nI k)))), (19, .int (S 1 k)), (18, .int (a_load P S (nI k))), (17, .int (S 2 i)), (16, .int (nI k)), (15, .int (nI i)), (14, .int (S 0 2)), (13, .int (a_highAll P S)), (12, .int (a_seatedPeople P S)), (11, .int (S 0 0)), (10, .int (S 0 1)), (9, .int (nI D)), (8, .int r_1), (0, .ref (G.1 1000)), (1, .ref (G.1 0)), (2, .ref (G.1 72)), (3, .ref (G.1 73)), (4, .int (nI (nPl P))), (5, .int (nI (nPe P))), (6, .int (nI T6)), (7, .int (nI c7))]) hx hb dL_law_221 hl (by decide) rfl (fun ls hl => ?_)
    refine lv_iconst (v := 1) hx hb dL_law_223 (by decide) ?_
    refine lv_istore (lv' := [(23, .int 1), (22, .int (nI hw)), (21, .int (a_standing P S)), (20, .int (b2i (!a_isUp P S (nI k)))), (19, .int (S 1 k)), (18, .int (a_load P S (nI k))), (17, .int (S 2 i)), (16, .int (nI k)), (15, .int (nI i)), (14, .int (S 0 2)), (13, .int (a_highAll P S)), (12, .int (a_seatedPeople P S)), (11, .int (S 0 0)), (10, .int (S 0 1)), (9, .int (nI D)), (8, .int r_1), (0, .ref (G.1 1000)), (1, .ref (G.1 0)), (2, .ref (G.1 72)), (3, .ref (G.1 73)), (4, .int (nI (nPl P))), (5, .int (nI (nPe P))), (6, .int (nI T6)), (7, .int (nI c7))]) hx hb dL_law_224 hl (by decide) rfl (fun ls hl => ?_)
    exact kk v16 r_1 i k hw _ _ _ hi hk hhw hJ hP hS (lv_sub hl [16, 17, 18, 19, 20, 21, 22, 23, 15, 14, 13, 12, 11, 10, 9, 8, 7, 6, 5, 4, 3, 2, 1, 0] rfl)
  refine lv_icmp_ne (tgt := 205) hx hb dL_law_198 (by decide) (fun c_19 => ?_) (fun c_19 => ?_)
  · have hc_198 := c_19
    refine lv_iconst (v := 0) hx hb dL_law_205 (by decide) ?_
    exact jn_206_16 0 (flag0 (dn_bit hg hk) hc_198)
  · have hc_198 := c_19
    refine lv_iconst (v := 1) hx hb dL_law_201 (by decide) ?_
    refine lv_goto (tgt := 206) hx hb dL_law_202 (by decide) ?_
    exact jn_206_16 1 (flag1 (dn_bit hg hk) hc_198)
end SC01

