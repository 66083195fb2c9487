
theorem hd_X7_duel : kHd yX7_duel 1 := by decide +kernel
theorem hd_X7_lower : kHd yX7_lower 0 := by decide +kernel
theorem hd_X7_mid : kHd yX7_mid 1 := by decide +kernel
theorem hd_X7_odds : kHd yX7_odds 2 := by decide +kernel
theorem hd_X7_upper : kHd yX7_upper 0 := by decide +kernel
theorem kw_L_161 : ∀ w ∈ k5V RL 161 yX7_odds cX7_odds 3 (some .int), w ∈ TB := tb_ins (by decide +kernel)
theorem kw_L_164 : ∀ w ∈ k5V RL 164 yX7_upper cX7_upper 1 (some .long), w ∈ TB := tb_ins (by decide +kernel)
theorem kw_L_168 : ∀ w ∈ k5V RL 168 yX7_lower cX7_lower 1 (some .long), w ∈ TB := tb_ins (by decide +kernel)
theorem kw_L_173 : ∀ w ∈ k5V RL 173 yX7_duel cX7_duel 2 (some .int), w ∈ TB := tb_ins (by decide +kernel)
theorem kw_L_176 : ∀ w ∈ k5V RL 176 yX7_mid cX7_mid 2 (some .int), w ∈ TB := tb_ins (by decide +kernel)
section SC09
variable {p : Program} {l : Launch} {e : Env} {s : State} {m : MethodId} {args : Array Value} {below : List Frame} {meth : Method} {c : Code} {H : Heap} {locs : List Loc} {cells slots : Nat} {Q : State → Prop} {ls : Array Slot} {G : GT}
set_option maxHeartbeats 4000000 in
set_option maxRecDepth 100000 in
theorem seg_2429 (ha : Amb p c cL_law 31 s args RL m meth (some .boolean) G 74) (hcs : cells ≤ room_1.cells ∧ slots ≤ room_1.slots) (P : PT) (Z : Nat → Int32) (K : KT) (S : PT) (D : Nat) (C : Nat → Int32) {u : Mem} (hN : NV P Z) (hJ : J P Z K S D C u) (hP : va_P G.2.1 vwCl (wl G 74 (cX G u)) H) (hS : va_S (xA G 74 s.heap.size) s.heap H locs) (hl : lv_has ls 31 [(0, .ref (G.1 1000)), (1, .ref (G.1 0)), (2, .ref (G.1 72)), (3, .ref (G.1 73)), (4, .int (nI (nPl P))), (5, .int (nI (nPe P))), (7, .int (nI D)), (8, .int (S 0 0)), (9, .int (a_highAll P S)), (10, .int ((1 <<< (nI (nPl P) &&& 31)) - 1)), (11, .int (a_standing P S))])
    (kk : ∀ (v : Mem) (x18 : Int32) (H : Heap) (locs : List Loc) (ls : Array Slot), (v = u) → (x18 = hiSt P S 0) → va_P G.2.1 vwCl (wl G 74 (cX G v)) H → va_S (xA G 74 s.heap.size) s.heap H locs → lv_has ls 31 [(0, .ref (G.1 1000)), (1, .ref (G.1 0)), (2, .ref (G.1 72)), (3, .ref (G.1 73)), (4, .int (nI (nPl P))), (5, .int (nI (nPe P))), (7, .int (nI D)), (8, .int (S 0 0)), (9, .int (a_highAll P S)), (10, .int ((1 <<< (nI (nPl P) &&& 31)) - 1)), (11, .int (a_standing P S)), (18, .int x18), (19, .int (nI 0))] → W p l e room_1 s m args below meth c H locs cells slots Q (F0 m 2435 ls [])) : W p l e room_1 s m args below meth c H locs cells slots Q (F0 m 2429 ls []) := by
  have hx := ha.1
  have hb := ha.2.1
  obtain ⟨h4, h5⟩ := NV_45 hJ
  have hp0 := hN.1.1
  have hq0 := hN.1.2
  have hpb := (J_plan hJ).1
  have hpr := (J_plan hJ).2
  have hg := J_gs hJ
  refine lv_iconst (v := 0) hx hb dL_law_2429 (by decide) ?_
  refine lv_istore (lv' := [(18, .int 0), (0, .ref (G.1 1000)), (1, .ref (G.1 0)), (2, .ref (G.1 72)), (3, .ref (G.1 73)), (4, .int (nI (nPl P))), (5, .int (nI (nPe P))), (7, .int (nI D)), (8, .int (S 0 0)), (9, .int (a_highAll P S)), (10, .int ((1 <<< (nI (nPl P) &&& 31)) - 1)), (11, .int (a_standing P S))]) hx hb dL_law_2430 hl (by decide) rfl (fun ls hl => ?_)
  refine lv_iconst (v := 0) hx hb dL_law_2432 (by decide) ?_
  refine lv_istore (lv' := [(19, .int 0), (18, .int 0), (0, .ref (G.1 1000)), (1, .ref (G.1 0)), (2, .ref (G.1 72)), (3, .ref (G.1 73)), (4, .int (nI (nPl P))), (5, .int (nI (nPe P))), (7, .int (nI D)), (8, .int (S 0 0)), (9, .int (a_highAll P S)), (10, .int ((1 <<< (nI (nPl P) &&& 31)) - 1)), (11, .int (a_standing P S))]) hx hb dL_law_2433 hl (by decide) rfl (fun ls hl => ?_)
  exact kk u 0 _ _ _ rfl rfl hP hS (lv_sub hl [2, 3, 4, 5, 6, 7, 8, 9, 10, 11, 12, 1, 0] rfl)
set_option maxHeartbeats 4000000 in
set_option maxRecDepth 100000 in
theorem seg_2435 (ha : Amb p c cL_law 31 s args RL m meth (some .boolean) G 74) (hcs : cells ≤ room_1.cells ∧ slots ≤ room_1.slots) (P : PT) (Z : Nat → Int32) (K : KT) (S : PT) (D : Nat) (C : Nat → Int32) (i : Nat) {u : Mem} (hN : NV P Z) (hJ : J P Z K S D C u) (hi0 : i ≤ nPe P) (hP : va_P G.2.1 vwCl (wl G 74 (cX G u)) H) (hS : va_S (xA G 74 s.heap.size) s.heap H locs) (hl : lv_has ls 31 [(0, .ref (G.1 1000)), (1, .ref (G.1 0)), (2, .ref (G.1 72)), (3, .ref (G.1 73)), (4, .int (nI (nPl P))), (5, .int (nI (nPe P))), (7, .int (nI D)), (8, .int (S 0 0)), (9, .int (a_highAll P S)), (10, .int ((1 <<< (nI (nPl P) &&& 31)) - 1)), (11, .int (a_standing P S)), (18, .int (hiSt P S i)), (19, .int (nI i))])
    (kout : ∀ (v : Mem)  (H : Heap) (locs : List Loc) (ls : Array Slot), (v = u) → (i = nPe P) → va_P G.2.1 vwCl (wl G 74 (cX G v)) H → va_S (xA G 74 s.heap.size) s.heap H locs → lv_has ls 31 [(0, .ref (G.1 1000)), (1, .ref (G.1 0)), (2, .ref (G.1 72)), (3, .ref (G.1 73)), (4, .int (nI (nPl P))), (5, .int (nI (nPe P))), (7, .int (nI D)), (8, .int (S 0 0)), (9, .int (a_highAll P S)), (10, .int ((1 <<< (nI (nPl P) &&& 31)) - 1)), (11, .int (a_standing P S)), (18, .int (hiSt P S i))] → W p l e room_1 s m args below meth c H locs cells slots Q (F0 m 2635 ls []))
    (kback : ∀ (v : Mem)  (H : Heap) (locs : List Loc) (ls : Array Slot), (J P Z K S D C v) → (i < nPe P) → va_P G.2.1 vwCl (wl G 74 (cX G v)) H → va_S (xA G 74 s.heap.size) s.heap H locs → lv_has ls 31 [(0, .ref (G.1 1000)), (1, .ref (G.1 0)), (2, .ref (G.1 72)), (3, .ref (G.1 73)), (4, .int (nI (nPl P))), (5, .int (nI (nPe P))), (7, .int (nI D)), (8, .int (S 0 0)), (9, .int (a_highAll P S)), (10, .int ((1 <<< (nI (nPl P) &&& 31)) - 1)), (11, .int (a_standing P S)), (18, .int (hiSt P S (i + 1))), (19, .int (nI (i + 1)))] → W p l e room_1 s m args below meth c H locs cells slots Q (F0 m 2435 ls [])) : W p l e room_1 s m args below meth c H locs cells slots Q (F0 m 2435 ls []) := by
  have hx := ha.1
  have hb := ha.2.1
  obtain ⟨h4, h5⟩ := NV_45 hJ
  have hp0 := hN.1.1
  have hq0 := hN.1.2
  have hpb := (J_plan hJ).1
  have hpr := (J_plan hJ).2
  have hg := J_gs hJ
  refine lv_iload hx hb dL_law_2435 (lv_at hl 12 rfl) ?_
  refine lv_iload hx hb dL_law_2437 (lv_at hl 5 rfl) ?_
  refine lv_icmp_ge (tgt := 2635) hx hb dL_law_2439 (by decide) (fun c_1 => ?_) (fun c_1 => ?_)
  · have hc_2439 := c_1
    have hi := eq_of_le hc_2439 hi0 (by omega)
    exact kout u  _ _ _ rfl hi hP hS (lv_sub hl [0, 1, 2, 3, 4, 5, 6, 7, 8, 9, 10, 11] rfl)
  · have hc_2439 := c_1
    have hi : i < nPe P := lt_of_nle hc_2439 (by omega) (by omega)
    refine lv_aload_n hx hb dL_law_2442 rfl (lv_at hl 1 rfl) ?_
    refine lv_aload_n hx hb dL_law_2443 rfl (lv_at hl 1 rfl) ?_
    refine lv_iload hx hb dL_law_2444 (lv_at hl 12 rfl) ?_
    refine lv_iconst (v := 2) hx hb dL_law_2446 (by decide) ?_
    refine xVi ha hP hS (y := yX7_one) (As := [.int (nI i), .int 2]) (rest := [.ref (G.1 0)]) 0 (by decide) (cX_0 G _) rfl rfl (c_X7_one G l u (nI i) 2 (J_PO hJ)) kw_L_98 hd_X7_one rfl ⟨rfl, rfl⟩ ⟨Nat.le_of_ble_eq_true rfl, Nat.le_of_ble_eq_true rfl⟩ hcs hl.1 (Nat.le_of_ble_eq_true rfl) rfl dL_law_2447 (fun r_2 v1 H locs hpq hP hS => ?_)
    obtain ⟨hr_, hu_⟩ := hpq
    have hq_ := q_one hJ (one_nI hpb hi) (w := 2) (by decide)
    simp only [← hr_, ← hu_] at hq_
    clear hr_ hu_
    obtain ⟨h_r, t1, hJ, rs⟩ := hq_
    subst h_r
    refine xSi ha hP hS (y := yL_told) (As := [.ref (G.1 0), .int 1]) (rest := []) rfl (c_L_told1 G l v1  ) kw_L_101 hd_L_told rfl ⟨rfl, rfl⟩ ⟨Nat.le_of_ble_eq_true rfl, Nat.le_of_ble_eq_true rfl⟩ hcs hl.1 (Nat.le_of_ble_eq_true rfl) rfl dL_law_2450 (fun r_3 v2 H locs hpq hP hS => ?_)
    obtain ⟨hr_, hu_⟩ := hpq
    have hu_ := hu_.symm
    subst hu_
    have hr_ := hr_.trans (t1.trans (one_2 hpb hi))
    have hr_ := hr_.symm
    subst hr_
    refine lv_istore (lv' := [(20, .int (S 2 i)), (0, .ref (G.1 1000)), (1, .ref (G.1 0)), (2, .ref (G.1 72)), (3, .ref (G.1 73)), (4, .int (nI (nPl P))), (5, .int (nI (nPe P))), (7, .int (nI D)), (8, .int (S 0 0)), (9, .int (a_highAll P S)), (10, .int ((1 <<< (nI (nPl P) &&& 31)) - 1)), (11, .int (a_standing P S)), (18, .int (hiSt P S i)), (19, .int (nI i))]) hx hb dL_law_2453 hl (by decide) rfl (fun ls hl => ?_)
    refine lv_aload_n hx hb dL_law_2455 rfl (lv_at hl 2 rfl) ?_
    refine lv_aload_n hx hb dL_law_2456 rfl (lv_at hl 2 rfl) ?_
    refine lv_iload hx hb dL_law_2457 (lv_at hl 13 rfl) ?_
    refine lv_iconst (v := 3) hx hb dL_law_2459 (by decide) ?_
    refine xVi ha hP hS (y := yX7_one) (As := [.int (nI i), .int 3]) (rest := [.ref (G.1 0)]) 0 (by decide) (cX_0 G _) rfl rfl (c_X7_one G l v1 (nI i) 3 (J_PO hJ)) kw_L_98 hd_X7_one rfl ⟨rfl, rfl⟩ ⟨Nat.le_of_ble_eq_true rfl, Nat.le_of_ble_eq_true rfl⟩ hcs hl.1 (Nat.le_of_ble_eq_true rfl) rfl dL_law_2460 (fun r_4 v3 H locs hpq hP hS => ?_)
    obtain ⟨hr_, hu_⟩ := hpq
    have hq_ := q_one hJ (one_nI hpb hi) (w := 3) (by decide)
    simp only [← hr_, ← hu_] at hq_
    clear hr_ hu_
    obtain ⟨h_r, t1, hJ, rs⟩ := hq_
    subst h_r
    refine xSi ha hP hS (y := yL_told) (As := [.ref (G.1 0), .int 1]) (rest := []) rfl (c_L_told1 G l v3  ) kw_L_101 hd_L_told rfl ⟨rfl, rfl⟩ ⟨Nat.le_of_ble_eq_true rfl, Nat.le_of_ble_eq_true rfl⟩ hcs hl.1 (Nat.le_of_ble_eq_true rfl) rfl dL_law_2463 (fun r_5 v4 H locs hpq hP hS => ?_)
    obtain ⟨hr_, hu_⟩ := hpq
    have hu_ := hu_.symm
    subst hu_
    have hr_ := hr_.trans t1
    have hr_ := hr_.symm
    subst hr_
    refine lv_istore (lv' := [(21, .int (a_ofOne P S (nI i) 3)), (20, .int (S 2 i)), (0, .ref (G.1 1000)), (1, .ref (G.1 0)), (2, .ref (G.1 72)), (3, .ref (G.1 73)), (4, .int (nI (nPl P))), (5, .int (nI (nPe P))), (7, .int (nI D)), (8, .int (S 0 0)), (9, .int (a_highAll P S)), (10, .int ((1 <<< (nI (nPl P) &&& 31)) - 1)), (11, .int (a_standing P S)), (18, .int (hiSt P S i)), (19, .int (nI i))]) hx hb dL_law_2466 hl (by decide) rfl (fun ls hl => ?_)
    refine lv_iload hx hb dL_law_2468 (lv_at hl 1 rfl) ?_
    have jn_2489_6 : ∀ (x : Int32), (x = (stI P S i)) → W p l e room_1 s m args below meth c H locs cells slots Q (F0 m 2489 ls [.int x]) := by
      intro x ex
      subst ex
      refine lv_istore (lv' := [(22, .int (stI P S i)), (21, .int (a_ofOne P S (nI i) 3)), (20, .int (S 2 i)), (0, .ref (G.1 1000)), (1, .ref (G.1 0)), (2, .ref (G.1 72)), (3, .ref (G.1 73)), (4, .int (nI (nPl P))), (5, .int (nI (nPe P))), (7, .int (nI D)), (8, .int (S 0 0)), (9, .int (a_highAll P S)), (10, .int ((1 <<< (nI (nPl P) &&& 31)) - 1)), (11, .int (a_standing P S)), (18, .int (hiSt P S i)), (19, .int (nI i))]) hx hb dL_law_2489 hl (by decide) rfl (fun ls hl => ?_)
      refine lv_iload hx hb dL_law_2491 (lv_at hl 14 rfl) ?_
      refine lv_iload hx hb dL_law_2493 (lv_at hl 0 rfl) ?_
      have jn_2504_7 : ∀ (x : Int32), (x = (if stI P S i = 0 then 0 else a_ofOne P S (nI i) 3)) → W p l e room_1 s m args below meth c H locs cells slots Q (F0 m 2504 ls [.int x, .int (hiSt P S i)]) := by
        intro x ex
        subst ex
        refine lw_iaddE (z := (hiSt P S (i + 1))) hx hb dL_law_2504 (hiSt_s hg hi).symm ?_
        refine lv_istore (lv' := [(18, .int (hiSt P S (i + 1))), (22, .int (stI P S i)), (21, .int (a_ofOne P S (nI i) 3)), (20, .int (S 2 i)), (0, .ref (G.1 1000)), (1, .ref (G.1 0)), (2, .ref (G.1 72)), (3, .ref (G.1 73)), (4, .int (nI (nPl P))), (5, .int (nI (nPe P))), (7, .int (nI D)), (8, .int (S 0 0)), (9, .int (a_highAll P S)), (10, .int ((1 <<< (nI (nPl P) &&& 31)) - 1)), (11, .int (a_standing P S)), (19, .int (nI i))]) hx hb dL_law_2505 hl (by decide) rfl (fun ls hl => ?_)
        refine lv_aload_n hx hb dL_law_2507 rfl (lv_at hl 4 rfl) ?_
        refine lv_bipush (v := 39) hx hb dL_law_2508 (by decide) ?_
        refine lv_iload hx hb dL_law_2510 (lv_at hl 15 rfl) ?_
        refine lw_iaddE (z := (nI (39 + i))) hx hb dL_law_2512 (nI_add 39 i) ?_
        refine xSi ha hP hS (y := yL_cell) (As := [.ref (G.1 1000), .int (nI (39 + i))]) (rest := []) rfl (c_L_cell G l v3 (39 + i) (by omega)) kw_L_15 hd_L_cell rfl ⟨rfl, rfl⟩ ⟨Nat.le_of_ble_eq_true rfl, Nat.le_of_ble_eq_true rfl⟩ hcs hl.1 (Nat.le_of_ble_eq_true rfl) rfl dL_law_2513 (fun r_8 v5 H locs hpq hP hS => ?_)
        obtain ⟨hr_, hu_⟩ := hpq
        have hu_ := hu_.symm
        subst hu_
        have hr_ := hr_.symm
        subst hr_
        refine lv_bipush (v := 13) hx hb dL_law_2516 (by decide) ?_
        refine xSi ha hP hS (y := yL_part) (As := [.int (a_cell (sL G) (sF G) (39 + i)), .int 13]) (rest := []) rfl (c_L_part G l v3 (a_cell (sL G) (sF G) (39 + i)) 13 (by decide)) kw_L_21 hd_L_part rfl ⟨rfl, rfl⟩ ⟨Nat.le_of_ble_eq_true rfl, Nat.le_of_ble_eq_true rfl⟩ hcs hl.1 (Nat.le_of_ble_eq_true rfl) rfl dL_law_2518 (fun r_9 v6 H locs hpq hP hS => ?_)
        obtain ⟨hr_, hu_⟩ := hpq
        have hu_ := hu_.symm
        subst hu_
        obtain ⟨pp, hpp, epp⟩ : ∃ j, j < 13 ∧ r_9 = nI j := by rw [hr_]; exact part_N _ (n := 13) (by decide) (by omega)
        clear hr_
        subst epp
        refine lv_istore (lv' := [(23, .int (nI pp)), (18, .int (hiSt P S (i + 1))), (22, .int (stI P S i)), (21, .int (a_ofOne P S (nI i) 3)), (20, .int (S 2 i)), (0, .ref (G.1 1000)), (1, .ref (G.1 0)), (2, .ref (G.1 72)), (3, .ref (G.1 73)), (4, .int (nI (nPl P))), (5, .int (nI (nPe P))), (7, .int (nI D)), (8, .int (S 0 0)), (9, .int (a_highAll P S)), (10, .int ((1 <<< (nI (nPl P) &&& 31)) - 1)), (11, .int (a_standing P S)), (19, .int (nI i))]) hx hb dL_law_2521 hl (by decide) rfl (fun ls hl => ?_)
        refine lv_aload_n hx hb dL_law_2523 rfl (lv_at hl 6 rfl) ?_
        refine lv_iload hx hb dL_law_2524 (lv_at hl 16 rfl) ?_
        refine lv_iconst (v := (nI 0)) hx hb dL_law_2526 (by decide) ?_
        refine xVi ha hP hS (y := yX7_odds) (As := [.int (nI i), .int (nI 0)]) (rest := []) 0 (by decide) (cX_0 G _) rfl rfl (c_X7_odds G l v3 (nI i) (nI 0) (J_PO hJ)) kw_L_161 hd_X7_odds rfl ⟨rfl, rfl⟩ ⟨Nat.le_of_ble_eq_true rfl, Nat.le_of_ble_eq_true rfl⟩ hcs hl.1 (Nat.le_of_ble_eq_true rfl) rfl dL_law_2527 (fun r_10 v7 H locs hpq hP hS => ?_)
        obtain ⟨hr_, hu_⟩ := hpq
        have hq_ := q_odds hJ hi (p := 0) (by decide)
        simp only [← hr_, ← hu_] at hq_
        clear hr_ hu_
        obtain ⟨h_r, t2, t3, hJ, rs⟩ := hq_
        subst h_r
        refine lv_iconst (v := 1) hx hb dL_law_2530 (by decide) ?_
        refine lv_icmp_ne (tgt := 2627) hx hb dL_law_2531 (by decide) (fun c_11 => absurd rfl c_11) (fun c_11 => ?_)
        refine lv_aload_n hx hb dL_law_2534 rfl (lv_at hl 6 rfl) ?_
        refine xVl ha hP hS (y := yX7_upper) (As := []) (rest := []) 0 (by decide) (cX_0 G _) rfl rfl (c_X7_upper G l v7  ) kw_L_164 hd_X7_upper rfl ⟨rfl, rfl⟩ ⟨Nat.le_of_ble_eq_true rfl, Nat.le_of_ble_eq_true rfl⟩ hcs hl.1 (Nat.le_of_ble_eq_true rfl) rfl dL_law_2535 (fun r_12 v8 H locs hpq hP hS => ?_)
        obtain ⟨hr_, hu_⟩ := hpq
        have hu_ := hu_.symm
        subst hu_
        have hr_ := hr_.trans ((congrArg Int32.toInt64 t2).trans (odds_0 P S i).1)
        have hr_ := hr_.symm
        subst hr_
        refine lv_iload hx hb dL_law_2538 (lv_at hl 2 rfl) ?_
        have jn_2548_13 : ∀ (x : Int64), (x = (if stI P S i = 0 then (0 : Int64) else 1)) → W p l e room_1 s m args below meth c H locs cells slots Q (F0 m 2548 ls [.long x, .long (if stI P S i = 0 then (0 : Int64) else 1)]) := by
          intro x ex
          subst ex
          refine W.lcmp hx hb dL_law_2548 ?_
          refine lw_lneF (tgt := 2627) hx hb rfl dL_law_2549 (by decide) ?_
          refine lv_aload_n hx hb dL_law_2552 rfl (lv_at hl 6 rfl) ?_
          refine xVl ha hP hS (y := yX7_lower) (As := []) (rest := []) 0 (by decide) (cX_0 G _) rfl rfl (c_X7_lower G l v7  ) kw_L_168 hd_X7_lower rfl ⟨rfl, rfl⟩ ⟨Nat.le_of_ble_eq_true rfl, Nat.le_of_ble_eq_true rfl⟩ hcs hl.1 (Nat.le_of_ble_eq_true rfl) rfl dL_law_2553 (fun r_14 v9 H locs hpq hP hS => ?_)
          obtain ⟨hr_, hu_⟩ := hpq
          have hu_ := hu_.symm
          subst hu_
          have hr_ := hr_.trans ((congrArg Int32.toInt64 t3).trans (odds_0 P S i).2)
          have hr_ := hr_.symm
          subst hr_
          refine lv_lconst (v := 1) hx hb dL_law_2556 (by decide) ?_
          refine W.lcmp hx hb dL_law_2557 ?_
          refine lw_lneF (tgt := 2627) hx hb rfl dL_law_2558 (by decide) ?_
          refine lv_aload_n hx hb dL_law_2561 rfl (lv_at hl 6 rfl) ?_
          refine lv_iload hx hb dL_law_2562 (lv_at hl 16 rfl) ?_
          refine lv_bipush (v := (nI 12)) hx hb dL_law_2564 (by decide) ?_
          refine xVi ha hP hS (y := yX7_odds) (As := [.int (nI i), .int (nI 12)]) (rest := []) 0 (by decide) (cX_0 G _) rfl rfl (c_X7_odds G l v7 (nI i) (nI 12) (J_PO hJ)) kw_L_161 hd_X7_odds rfl ⟨rfl, rfl⟩ ⟨Nat.le_of_ble_eq_true rfl, Nat.le_of_ble_eq_true rfl⟩ hcs hl.1 (Nat.le_of_ble_eq_true rfl) rfl dL_law_2566 (fun r_15 v10 H locs hpq hP hS => ?_)
          obtain ⟨hr_, hu_⟩ := hpq
          have hq_ := q_odds hJ hi (p := 12) (by decide)
          simp only [← hr_, ← hu_] at hq_
          clear hr_ hu_
          obtain ⟨h_r, t2, t3, hJ, rs⟩ := hq_
          subst h_r
          refine lv_iconst (v := 1) hx hb dL_law_2569 (by decide) ?_
          refine lv_icmp_ne (tgt := 2627) hx hb dL_law_2570 (by decide) (fun c_16 => absurd rfl c_16) (fun c_16 => ?_)
          refine lv_aload_n hx hb dL_law_2573 rfl (lv_at hl 6 rfl) ?_
          refine xVl ha hP hS (y := yX7_upper) (As := []) (rest := []) 0 (by decide) (cX_0 G _) rfl rfl (c_X7_upper G l v10  ) kw_L_164 hd_X7_upper rfl ⟨rfl, rfl⟩ ⟨Nat.le_of_ble_eq_true rfl, Nat.le_of_ble_eq_true rfl⟩ hcs hl.1 (Nat.le_of_ble_eq_true rfl) rfl dL_law_2574 (fun r_17 v11 H locs hpq hP hS => ?_)
          obtain ⟨hr_, hu_⟩ := hpq
          have hu_ := hu_.symm
          subst hu_
          have hr_ := hr_.trans ((congrArg Int32.toInt64 t2).trans (odds_12 P S i))
          have hr_ := hr_.symm
          subst hr_
          refine lv_lconst (v := 0) hx hb dL_law_2577 (by decide) ?_
          refine W.lcmp hx hb dL_law_2578 ?_
          refine lw_lneF (tgt := 2627) hx hb rfl dL_law_2579 (by decide) ?_
          refine lv_aload_n hx hb dL_law_2582 rfl (lv_at hl 6 rfl) ?_
          refine lv_iload hx hb dL_law_2583 (lv_at hl 16 rfl) ?_
          refine lv_iload hx hb dL_law_2585 (lv_at hl 0 rfl) ?_
          refine xVi ha hP hS (y := yX7_odds) (As := [.int (nI i), .int (nI pp)]) (rest := []) 0 (by decide) (cX_0 G _) rfl rfl (c_X7_odds G l v10 (nI i) (nI pp) (J_PO hJ)) kw_L_161 hd_X7_odds rfl ⟨rfl, rfl⟩ ⟨Nat.le_of_ble_eq_true rfl, Nat.le_of_ble_eq_true rfl⟩ hcs hl.1 (Nat.le_of_ble_eq_true rfl) rfl dL_law_2587 (fun r_18 v12 H locs hpq hP hS => ?_)
          obtain ⟨hr_, hu_⟩ := hpq
          have hq_ := q_odds hJ hi (p := pp) (by omega)
          simp only [← hr_, ← hu_] at hq_
          clear hr_ hu_
          obtain ⟨h_r, t2, t3, hJ, rs⟩ := hq_
          subst h_r
          refine lv_iconst (v := 1) hx hb dL_law_2590 (by decide) ?_
          refine lv_icmp_ne (tgt := 2627) hx hb dL_law_2591 (by decide) (fun c_19 => absurd rfl c_19) (fun c_19 => ?_)
          refine lv_aload_n hx hb dL_law_2594 rfl (lv_at hl 6 rfl) ?_
          refine xVl ha hP hS (y := yX7_upper) (As := []) (rest := []) 0 (by decide) (cX_0 G _) rfl rfl (c_X7_upper G l v12  ) kw_L_164 hd_X7_upper rfl ⟨rfl, rfl⟩ ⟨Nat.le_of_ble_eq_true rfl, Nat.le_of_ble_eq_true rfl⟩ hcs hl.1 (Nat.le_of_ble_eq_true rfl) rfl dL_law_2595 (fun r_20 v13 H locs hpq hP hS => ?_)
          obtain ⟨hr_, hu_⟩ := hpq
          have hu_ := hu_.symm
          subst hu_
          have hr_ := hr_.trans (congrArg Int32.toInt64 t2)
          have hr_ := hr_.symm
          subst hr_
          refine lv_ldc2 (v := 12) hx hb ha.2.2.2.1 (ha.2.2.2.2.1 _ (tb_in (w := .constantLong RL 171 12) (by decide +kernel))) dL_law_2598 ?_
          refine lv_lmul hx hb dL_law_2601 ?_
          refine lv_iload hx hb dL_law_2602 (lv_at hl 2 rfl) ?_
          have jn_2618_21 : ∀ (x : Int64), (x = (if stI P S i = 0 then (0 : Int64) else 12 - (nI pp).toInt64)) → W p l e room_1 s m args below meth c H locs cells slots Q (F0 m 2618 ls [.long x, .long (((twU (if a_stands P S (S 2 i) = true then 12 - nI pp else 0)).toInt64) * 12)]) := by
            intro x ex
            subst ex
            refine lv_aload_n hx hb dL_law_2618 rfl (lv_at hl 6 rfl) ?_
            refine xVl ha hP hS (y := yX7_lower) (As := []) (rest := [.long (if stI P S i = 0 then (0 : Int64) else 12 - (nI pp).toInt64), .long (((twU (if a_stands P S (S 2 i) = true then 12 - nI pp else 0)).toInt64) * 12)]) 0 (by decide) (cX_0 G _) rfl rfl (c_X7_lower G l v12  ) kw_L_168 hd_X7_lower rfl ⟨rfl, rfl⟩ ⟨Nat.le_of_ble_eq_true rfl, Nat.le_of_ble_eq_true rfl⟩ hcs hl.1 (Nat.le_of_ble_eq_true rfl) rfl dL_law_2619 (fun r_22 v14 H locs hpq hP hS => ?_)
            obtain ⟨hr_, hu_⟩ := hpq
            have hu_ := hu_.symm
            subst hu_
            have hr_ := hr_.trans (congrArg Int32.toInt64 t3)
            have hr_ := hr_.symm
            subst hr_
            refine lv_lmul hx hb dL_law_2622 ?_
            refine W.lcmp hx hb dL_law_2623 ?_
            refine lw_leqT (tgt := 2629) hx hb (odds_p P S i hpp) dL_law_2624 (by decide) ?_
            refine lv_iinc (v := nI (i + 1)) (lv' := [(19, .int (nI (i + 1))), (23, .int (nI pp)), (18, .int (hiSt P S (i + 1))), (22, .int (stI P S i)), (21, .int (a_ofOne P S (nI i) 3)), (20, .int (S 2 i)), (0, .ref (G.1 1000)), (1, .ref (G.1 0)), (2, .ref (G.1 72)), (3, .ref (G.1 73)), (4, .int (nI (nPl P))), (5, .int (nI (nPe P))), (7, .int (nI D)), (8, .int (S 0 0)), (9, .int (a_highAll P S)), (10, .int ((1 <<< (nI (nPl P) &&& 31)) - 1)), (11, .int (a_standing P S))]) hx hb dL_law_2629 hl (k := 16) rfl (nI_1 i) (by decide) rfl (fun ls hl => ?_)
            refine lv_goto (tgt := 2435) hx hb dL_law_2632 (by decide) ?_
            exact kback v12  _ _ _ hJ hi hP hS (lv_sub hl [6, 7, 8, 9, 10, 11, 12, 13, 14, 15, 16, 2, 0] rfl)
          refine lv_if_eq (tgt := 2617) hx hb dL_law_2604 (by decide) (fun c_23 => ?_) (fun c_23 => ?_)
          · have hc_2604 := c_23
            refine lv_lconst (v := 0) hx hb dL_law_2617 (by decide) ?_
            exact jn_2618_21 _ ((if_pos hc_2604).symm)
          · have hc_2604 := c_23
            refine lv_ldc2 (v := 12) hx hb ha.2.2.2.1 (ha.2.2.2.2.1 _ (tb_in (w := .constantLong RL 171 12) (by decide +kernel))) dL_law_2607 ?_
            refine lv_iload hx hb dL_law_2610 (lv_at hl 0 rfl) ?_
            refine lv_i2l (v := (nI pp).toInt64) hx hb dL_law_2612 rfl ?_
            refine lv_lsub hx hb dL_law_2613 ?_
            refine lv_goto (tgt := 2618) hx hb dL_law_2614 (by decide) ?_
            exact jn_2618_21 _ ((if_neg hc_2604).symm)
        refine lv_if_eq (tgt := 2547) hx hb dL_law_2540 (by decide) (fun c_24 => ?_) (fun c_24 => ?_)
        · have hc_2540 := c_24
          refine lv_lconst (v := 0) hx hb dL_law_2547 (by decide) ?_
          exact jn_2548_13 _ ((if_pos hc_2540).symm)
        · have hc_2540 := c_24
          refine lv_lconst (v := 1) hx hb dL_law_2543 (by decide) ?_
          refine lv_goto (tgt := 2548) hx hb dL_law_2544 (by decide) ?_
          exact jn_2548_13 _ ((if_neg hc_2540).symm)
      refine lv_if_eq (tgt := 2503) hx hb dL_law_2495 (by decide) (fun c_25 => ?_) (fun c_25 => ?_)
      · have hc_2495 := c_25
        refine lv_iconst (v := 0) hx hb dL_law_2503 (by decide) ?_
        exact jn_2504_7 _ ((if_pos hc_2495).symm)
      · have hc_2495 := c_25
        refine lv_iload hx hb dL_law_2498 (lv_at hl 1 rfl) ?_
        refine lv_goto (tgt := 2504) hx hb dL_law_2500 (by decide) ?_
        exact jn_2504_7 _ ((if_neg hc_2495).symm)
    refine lv_if_lt (tgt := 2488) hx hb dL_law_2470 (by decide) (fun c_26 => ?_) (fun c_26 => ?_)
    · have hc_2470 := c_26
      have hz0 : (0 : Int32) = stI P S i := by rw [stays_e hg hi, if_pos hc_2470]
      refine lv_iconst (v := 0) hx hb dL_law_2488 (by decide) ?_
      exact jn_2489_6 _ hz0
    · have hc_2470 := c_26
      refine lv_iload hx hb dL_law_2473 (lv_at hl 12 rfl) ?_
      refine lv_iload hx hb dL_law_2475 (lv_at hl 1 rfl) ?_
      refine lv_ishr hx hb dL_law_2477 ?_
      refine lv_iconst (v := 1) hx hb dL_law_2478 (by decide) ?_
      refine lv_iand hx hb dL_law_2479 ?_
      refine lv_iconst (v := 1) hx hb dL_law_2480 (by decide) ?_
      refine lv_icmp_ne (tgt := 2488) hx hb dL_law_2481 (by decide) (fun c_27 => ?_) (fun c_27 => ?_)
      · have hc_2481 := c_27
        have hz0 : (0 : Int32) = stI P S i := by rw [stays_e hg hi, if_neg hc_2470, if_neg hc_2481]
        refine lv_iconst (v := 0) hx hb dL_law_2488 (by decide) ?_
        exact jn_2489_6 _ hz0
      · have hc_2481 := c_27
        have hz1 : (1 : Int32) = stI P S i := by rw [stays_e hg hi, if_neg hc_2470, if_pos hc_2481]
        refine lv_iconst (v := 1) hx hb dL_law_2484 (by decide) ?_
        refine lv_goto (tgt := 2489) hx hb dL_law_2485 (by decide) ?_
        exact jn_2489_6 _ hz1
set_option maxHeartbeats 4000000 in
set_option maxRecDepth 100000 in
theorem seg_2635 (ha : Amb p c cL_law 31 s args RL m meth (some .boolean) G 74) (hcs : cells ≤ room_1.cells ∧ slots ≤ room_1.slots) (P : PT) (Z : Nat → Int32) (K : KT) (S : PT) (D : Nat) (C : Nat → Int32) {u : Mem} (hN : NV P Z) (hJ : J P Z K S D C u) (hP : va_P G.2.1 vwCl (wl G 74 (cX G u)) H) (hS : va_S (xA G 74 s.heap.size) s.heap H locs) (hl : lv_has ls 31 [(0, .ref (G.1 1000)), (1, .ref (G.1 0)), (2, .ref (G.1 72)), (3, .ref (G.1 73)), (4, .int (nI (nPl P))), (5, .int (nI (nPe P))), (7, .int (nI D)), (8, .int (S 0 0)), (9, .int (a_highAll P S)), (10, .int ((1 <<< (nI (nPl P) &&& 31)) - 1)), (11, .int (a_standing P S)), (18, .int (a_highStanding P S))])
    (kk : ∀ (v : Mem)  (H : Heap) (locs : List Loc) (ls : Array Slot), (J P Z K S D C v) → va_P G.2.1 vwCl (wl G 74 (cX G v)) H → va_S (xA G 74 s.heap.size) s.heap H locs → lv_has ls 31 [(0, .ref (G.1 1000)), (1, .ref (G.1 0)), (2, .ref (G.1 72)), (3, .ref (G.1 73)), (4, .int (nI (nPl P))), (5, .int (nI (nPe P))), (7, .int (nI D)), (8, .int (S 0 0)), (9, .int (a_highAll P S)), (10, .int ((1 <<< (nI (nPl P) &&& 31)) - 1)), (11, .int (a_standing P S))] → W p l e room_1 s m args below meth c H locs cells slots Q (F0 m 2718 ls [])) : W p l e room_1 s m args below meth c H locs cells slots Q (F0 m 2635 ls []) := by
  have hx := ha.1
  have hb := ha.2.1
  obtain ⟨h4, h5⟩ := NV_45 hJ
  have hp0 := hN.1.1
  have hq0 := hN.1.2
  have hpb := (J_plan hJ).1
  have hpr := (J_plan hJ).2
  have hg := J_gs hJ
  refine lv_aload_n hx hb dL_law_2635 rfl (lv_at hl 1 rfl) ?_
  refine lv_iconst (v := (nI 0)) hx hb dL_law_2636 (by decide) ?_
  refine xVi ha hP hS (y := yX7_duel) (As := [.int (nI 0)]) (rest := []) 0 (by decide) (cX_0 G _) rfl rfl (c_X7_duel G l u (nI 0) (J_PO hJ)) kw_L_173 hd_X7_duel rfl ⟨rfl, rfl⟩ ⟨Nat.le_of_ble_eq_true rfl, Nat.le_of_ble_eq_true rfl⟩ hcs hl.1 (Nat.le_of_ble_eq_true rfl) rfl dL_law_2637 (fun r_1 v1 H locs hpq hP hS => ?_)
  obtain ⟨hr_, hu_⟩ := hpq
  have hq_ := q_duel hJ hp0 (n := 0) (by decide)
  simp only [← hr_, ← hu_] at hq_
  clear hr_ hu_
  obtain ⟨h_r, hJ, rs⟩ := hq_
  subst h_r
  refine lv_iload hx hb dL_law_2640 (lv_at hl 11 rfl) ?_
  refine lv_icmp_ne (tgt := 2716) hx hb dL_law_2642 (by decide) (fun c_2 => absurd (duel_0 hg true) c_2) (fun c_2 => ?_)
  refine lv_aload_n hx hb dL_law_2645 rfl (lv_at hl 1 rfl) ?_
  refine lv_iconst (v := (nI 1)) hx hb dL_law_2646 (by decide) ?_
  refine xVi ha hP hS (y := yX7_duel) (As := [.int (nI 1)]) (rest := []) 0 (by decide) (cX_0 G _) rfl rfl (c_X7_duel G l v1 (nI 1) (J_PO hJ)) kw_L_173 hd_X7_duel rfl ⟨rfl, rfl⟩ ⟨Nat.le_of_ble_eq_true rfl, Nat.le_of_ble_eq_true rfl⟩ hcs hl.1 (Nat.le_of_ble_eq_true rfl) rfl dL_law_2647 (fun r_3 v2 H locs hpq hP hS => ?_)
  obtain ⟨hr_, hu_⟩ := hpq
  have hq_ := q_duel hJ hp0 (n := 1) (by decide)
  simp only [← hr_, ← hu_] at hq_
  clear hr_ hu_
  obtain ⟨h_r, hJ, rs⟩ := hq_
  subst h_r
  refine lv_iload hx hb dL_law_2650 (lv_at hl 11 rfl) ?_
  refine lv_icmp_lt (tgt := 2716) hx hb dL_law_2652 (by decide) (fun c_4 => absurd c_4 (duel_1 hg)) (fun c_4 => ?_)
  refine lv_aload_n hx hb dL_law_2655 rfl (lv_at hl 1 rfl) ?_
  refine lv_iconst (v := (nI 2)) hx hb dL_law_2656 (by decide) ?_
  refine xVi ha hP hS (y := yX7_duel) (As := [.int (nI 2)]) (rest := []) 0 (by decide) (cX_0 G _) rfl rfl (c_X7_duel G l v2 (nI 2) (J_PO hJ)) kw_L_173 hd_X7_duel rfl ⟨rfl, rfl⟩ ⟨Nat.le_of_ble_eq_true rfl, Nat.le_of_ble_eq_true rfl⟩ hcs hl.1 (Nat.le_of_ble_eq_true rfl) rfl dL_law_2657 (fun r_5 v3 H locs hpq hP hS => ?_)
  obtain ⟨hr_, hu_⟩ := hpq
  have hq_ := q_duel hJ hp0 (n := 2) (by decide)
  simp only [← hr_, ← hu_] at hq_
  clear hr_ hu_
  obtain ⟨h_r, hJ, rs⟩ := hq_
  subst h_r
  refine lv_aload_n hx hb dL_law_2660 rfl (lv_at hl 1 rfl) ?_
  refine lv_iconst (v := (nI 1)) hx hb dL_law_2661 (by decide) ?_
  refine xVi ha hP hS (y := yX7_duel) (As := [.int (nI 1)]) (rest := [.int (dV P S 2 true (S 2))]) 0 (by decide) (cX_0 G _) rfl rfl (c_X7_duel G l v3 (nI 1) (J_PO hJ)) kw_L_173 hd_X7_duel rfl ⟨rfl, rfl⟩ ⟨Nat.le_of_ble_eq_true rfl, Nat.le_of_ble_eq_true rfl⟩ hcs hl.1 (Nat.le_of_ble_eq_true rfl) rfl dL_law_2662 (fun r_6 v4 H locs hpq hP hS => ?_)
  obtain ⟨hr_, hu_⟩ := hpq
  have hq_ := q_duel hJ hp0 (n := 1) (by decide)
  simp only [← hr_, ← hu_] at hq_
  clear hr_ hu_
  obtain ⟨h_r, hJ, rs⟩ := hq_
  subst h_r
  refine lv_icmp_gt (tgt := 2716) hx hb dL_law_2665 (by decide) (fun c_7 => absurd c_7 (duel_2 hg)) (fun c_7 => ?_)
  refine lv_aload_n hx hb dL_law_2668 rfl (lv_at hl 1 rfl) ?_
  refine lv_iconst (v := (nI 0)) hx hb dL_law_2669 (by decide) ?_
  refine xVi ha hP hS (y := yX7_mid) (As := [.int (nI 0)]) (rest := []) 0 (by decide) (cX_0 G _) rfl rfl (c_X7_mid G l v4 (nI 0) (J_PO hJ)) kw_L_176 hd_X7_mid rfl ⟨rfl, rfl⟩ ⟨Nat.le_of_ble_eq_true rfl, Nat.le_of_ble_eq_true rfl⟩ hcs hl.1 (Nat.le_of_ble_eq_true rfl) rfl dL_law_2670 (fun r_8 v5 H locs hpq hP hS => ?_)
  obtain ⟨hr_, hu_⟩ := hpq
  have hq_ := q_mid hJ hp0 (p := 0) (by decide)
  simp only [← hr_, ← hu_] at hq_
  clear hr_ hu_
  obtain ⟨h_r, t2, t3, hJ, rs⟩ := hq_
  subst h_r
  refine lv_iconst (v := 1) hx hb dL_law_2673 (by decide) ?_
  refine lv_icmp_ne (tgt := 2716) hx hb dL_law_2674 (by decide) (fun c_9 => absurd rfl c_9) (fun c_9 => ?_)
  refine lv_aload_n hx hb dL_law_2677 rfl (lv_at hl 1 rfl) ?_
  refine xVl ha hP hS (y := yX7_upper) (As := []) (rest := []) 0 (by decide) (cX_0 G _) rfl rfl (c_X7_upper G l v5  ) kw_L_164 hd_X7_upper rfl ⟨rfl, rfl⟩ ⟨Nat.le_of_ble_eq_true rfl, Nat.le_of_ble_eq_true rfl⟩ hcs hl.1 (Nat.le_of_ble_eq_true rfl) rfl dL_law_2678 (fun r_10 v6 H locs hpq hP hS => ?_)
  obtain ⟨hr_, hu_⟩ := hpq
  have hu_ := hu_.symm
  subst hu_
  have hr_ := hr_.trans ((congrArg Int32.toInt64 t2).trans (mid_0 hg).1)
  have hr_ := hr_.symm
  subst hr_
  refine lv_iload hx hb dL_law_2681 (lv_at hl 11 rfl) ?_
  refine lv_i2l (v := (a_highStanding P S).toInt64) hx hb dL_law_2683 rfl ?_
  refine W.lcmp hx hb dL_law_2684 ?_
  refine lw_lneF (tgt := 2716) hx hb rfl dL_law_2685 (by decide) ?_
  refine lv_aload_n hx hb dL_law_2688 rfl (lv_at hl 1 rfl) ?_
  refine xVl ha hP hS (y := yX7_lower) (As := []) (rest := []) 0 (by decide) (cX_0 G _) rfl rfl (c_X7_lower G l v5  ) kw_L_168 hd_X7_lower rfl ⟨rfl, rfl⟩ ⟨Nat.le_of_ble_eq_true rfl, Nat.le_of_ble_eq_true rfl⟩ hcs hl.1 (Nat.le_of_ble_eq_true rfl) rfl dL_law_2689 (fun r_11 v7 H locs hpq hP hS => ?_)
  obtain ⟨hr_, hu_⟩ := hpq
  have hu_ := hu_.symm
  subst hu_
  have hr_ := hr_.trans ((congrArg Int32.toInt64 t3).trans (mid_0 hg).2.1)
  have hr_ := hr_.symm
  subst hr_
  refine lv_lconst (v := 1) hx hb dL_law_2692 (by decide) ?_
  refine W.lcmp hx hb dL_law_2693 ?_
  refine lw_lneF (tgt := 2716) hx hb rfl dL_law_2694 (by decide) ?_
  refine lv_aload_n hx hb dL_law_2697 rfl (lv_at hl 1 rfl) ?_
  refine lv_bipush (v := (nI 12)) hx hb dL_law_2698 (by decide) ?_
  refine xVi ha hP hS (y := yX7_mid) (As := [.int (nI 12)]) (rest := []) 0 (by decide) (cX_0 G _) rfl rfl (c_X7_mid G l v5 (nI 12) (J_PO hJ)) kw_L_176 hd_X7_mid rfl ⟨rfl, rfl⟩ ⟨Nat.le_of_ble_eq_true rfl, Nat.le_of_ble_eq_true rfl⟩ hcs hl.1 (Nat.le_of_ble_eq_true rfl) rfl dL_law_2700 (fun r_12 v8 H locs hpq hP hS => ?_)
  obtain ⟨hr_, hu_⟩ := hpq
  have hq_ := q_mid hJ hp0 (p := 12) (by decide)
  simp only [← hr_, ← hu_] at hq_
  clear hr_ hu_
  obtain ⟨h_r, t2, t3, hJ, rs⟩ := hq_
  subst h_r
  refine lv_iconst (v := 1) hx hb dL_law_2703 (by decide) ?_
  refine lv_icmp_ne (tgt := 2716) hx hb dL_law_2704 (by decide) (fun c_13 => absurd rfl c_13) (fun c_13 => ?_)
  refine lv_aload_n hx hb dL_law_2707 rfl (lv_at hl 1 rfl) ?_
  refine xVl ha hP hS (y := yX7_upper) (As := []) (rest := []) 0 (by decide) (cX_0 G _) rfl rfl (c_X7_upper G l v8  ) kw_L_164 hd_X7_upper rfl ⟨rfl, rfl⟩ ⟨Nat.le_of_ble_eq_true rfl, Nat.le_of_ble_eq_true rfl⟩ hcs hl.1 (Nat.le_of_ble_eq_true rfl) rfl dL_law_2708 (fun r_14 v9 H locs hpq hP hS => ?_)
  obtain ⟨hr_, hu_⟩ := hpq
  have hu_ := hu_.symm
  subst hu_
  have hr_ := hr_.trans ((congrArg Int32.toInt64 t2).trans (mid_0 hg).2.2)
  have hr_ := hr_.symm
  subst hr_
  refine lv_lconst (v := 0) hx hb dL_law_2711 (by decide) ?_
  refine W.lcmp hx hb dL_law_2712 ?_
  refine lw_leqT (tgt := 2718) hx hb rfl dL_law_2713 (by decide) ?_
  exact kk v8  _ _ _ hJ hP hS (lv_sub hl [0, 1, 2, 3, 4, 5, 6, 7, 8, 9, 10] rfl)
end SC09

