
theorem hd_X7_bears : kHd yX7_bears 2 := by decide +kernel
theorem hd_X7_undo : kHd yX7_undo 1 := by decide +kernel
theorem kw_L_114 : ∀ w ∈ k5V RL 114 yX7_bears cX7_bears 3 (some .int), w ∈ TB := tb_ins (by decide +kernel)
theorem kw_L_116 : ∀ w ∈ k5V RL 116 yX7_undo cX7_undo 3 (some .int), w ∈ TB := tb_ins (by decide +kernel)
section SC03
variable {p : Program} {l : Launch} {e : Env} {s : State} {m : MethodId} {args : Array Value} {below : List Frame} {meth : Method} {c : Code} {H : Heap} {locs : List Loc} {cells slots : Nat} {Q : State → Prop} {ls : Array Slot} {G : GT}
set_option maxHeartbeats 4000000 in
set_option maxRecDepth 100000 in
theorem seg_677 (ha : Amb p c cL_law 31 s args RL m meth (some .boolean) G 74) (hcs : cells ≤ room_1.cells ∧ slots ≤ room_1.slots) (P : PT) (Z : Nat → Int32) (K : KT) (S : PT) (T : PT) (D : Nat) (D1 : Nat) (C1 : Nat → Int32) (dn : Nat) (x8 : Int32) (i : Nat) (k : Nat) (hw : Nat) (T6 : Nat) (c7 : Nat) {u : Mem} (hN : NV P Z) (hJ : J P Z K T D1 C1 u) (hdn : dn ≤ 1) (hD1 : D1 = D + dn) (hdd : T 0 0 &&& S 0 0 = S 0 0) (hP : va_P G.2.1 vwCl (wl G 74 (cX G u)) H) (hS : va_S (xA G 74 s.heap.size) s.heap H locs) (hl : lv_has ls 31 [(0, .ref (G.1 1000)), (1, .ref (G.1 0)), (2, .ref (G.1 72)), (3, .ref (G.1 73)), (4, .int (nI (nPl P))), (5, .int (nI (nPe P))), (6, .int (nI T6)), (7, .int (nI c7)), (8, .int x8), (9, .int (nI D)), (10, .int (S 0 1)), (11, .int (S 0 0)), (12, .int (a_seatedPeople P S)), (13, .int (a_highAll P S)), (14, .int (S 0 2)), (15, .int (nI i)), (16, .int (nI k)), (17, .int (S 2 i)), (18, .int (a_load P S (nI k))), (19, .int (S 1 k)), (23, .int (nI dn))])
    (kk : ∀ (v : Mem)  (H : Heap) (locs : List Loc) (ls : Array Slot), (v = u) → va_P G.2.1 vwCl (wl G 74 (cX G v)) H → va_S (xA G 74 s.heap.size) s.heap H locs → lv_has ls 31 [(0, .ref (G.1 1000)), (1, .ref (G.1 0)), (2, .ref (G.1 72)), (3, .ref (G.1 73)), (4, .int (nI (nPl P))), (5, .int (nI (nPe P))), (6, .int (nI T6)), (7, .int (nI c7)), (8, .int x8), (9, .int (nI D)), (10, .int (S 0 1)), (11, .int (S 0 0)), (12, .int (a_seatedPeople P S)), (13, .int (a_highAll P S)), (14, .int (S 0 2)), (15, .int (nI i)), (16, .int (nI k)), (17, .int (S 2 i)), (18, .int (a_load P S (nI k))), (19, .int (S 1 k)), (23, .int (nI dn))] → W p l e room_1 s m args below meth c H locs cells slots Q (F0 m 713 ls [])) : W p l e room_1 s m args below meth c H locs cells slots Q (F0 m 677 ls []) := by
  have hx := ha.1
  have hb := ha.2.1
  obtain ⟨h4, h5⟩ := NV_45 hJ
  have hp0 := hN.1.1
  have hq0 := hN.1.2
  have hpb := (J_plan hJ).1
  have hpr := (J_plan hJ).2
  have hg := J_gs hJ
  refine lv_aload_n hx hb dL_law_677 rfl (lv_at hl 1 rfl) ?_
  refine lv_iconst (v := 2) hx hb dL_law_678 (by decide) ?_
  refine xVi ha hP hS (y := yX7_count) (As := [.int 2]) (rest := []) 0 (by decide) (cX_0 G _) rfl rfl (c_X7_count G l u 2 (J_PO hJ)) kw_L_42 hd_X7_count rfl ⟨rfl, rfl⟩ ⟨Nat.le_of_ble_eq_true rfl, Nat.le_of_ble_eq_true rfl⟩ hcs hl.1 (Nat.le_of_ble_eq_true rfl) rfl dL_law_679 (fun r_1 v1 H locs hpq hP hS => ?_)
  obtain ⟨hr_, hu_⟩ := hpq
  have hu_ := hu_.symm
  subst hu_
  have hr_ := hr_.trans (q_c2 hJ)
  have hr_ := hr_.symm
  subst hr_
  refine lv_iload hx hb dL_law_682 (lv_at hl 9 rfl) ?_
  refine lv_iload hx hb dL_law_684 (lv_at hl 20 rfl) ?_
  have jn_694_2 : ∀ (x : Int32), (x = nI dn) → W p l e room_1 s m args below meth c H locs cells slots Q (F0 m 694 ls [.int x, .int (nI D), .int (nI D1)]) := by
    intro x ex
    subst ex
    refine lw_iaddE (z := (nI (D + dn))) hx hb dL_law_694 (nI_add _ _) ?_
    refine lv_icmp_ne (tgt := 711) hx hb dL_law_695 (by decide) (fun c_3 => absurd (by rw [hD1]) c_3) (fun c_3 => ?_)
    refine lv_aload_n hx hb dL_law_698 rfl (lv_at hl 1 rfl) ?_
    refine lv_iconst (v := 4) hx hb dL_law_699 (by decide) ?_
    refine xVi ha hP hS (y := yX7_count) (As := [.int 4]) (rest := []) 0 (by decide) (cX_0 G _) rfl rfl (c_X7_count G l u 4 (J_PO hJ)) kw_L_42 hd_X7_count rfl ⟨rfl, rfl⟩ ⟨Nat.le_of_ble_eq_true rfl, Nat.le_of_ble_eq_true rfl⟩ hcs hl.1 (Nat.le_of_ble_eq_true rfl) rfl dL_law_700 (fun r_4 v2 H locs hpq hP hS => ?_)
    obtain ⟨hr_, hu_⟩ := hpq
    have hu_ := hu_.symm
    subst hu_
    have hr_ := hr_.trans (q_c4 hJ)
    have hr_ := hr_.symm
    subst hr_
    refine lv_iload hx hb dL_law_703 (lv_at hl 11 rfl) ?_
    refine lv_iand hx hb dL_law_705 ?_
    refine lv_iload hx hb dL_law_706 (lv_at hl 11 rfl) ?_
    refine lv_icmp_eq (tgt := 713) hx hb dL_law_708 (by decide) (fun c_5 => ?_) (fun c_5 => absurd hdd c_5)
    exact kk u  _ _ _ rfl hP hS (lv_sub hl [0, 1, 2, 3, 4, 5, 6, 7, 8, 9, 10, 11, 12, 13, 14, 15, 16, 17, 18, 19, 20] rfl)
  refine lv_if_eq (tgt := 693) hx hb dL_law_686 (by decide) (fun c_6 => ?_) (fun c_6 => ?_)
  · have hc_686 := c_6
    refine lv_iconst (v := 0) hx hb dL_law_693 (by decide) ?_
    exact jn_694_2 _ hc_686.symm
  · have hc_686 := c_6
    refine lv_iconst (v := 1) hx hb dL_law_689 (by decide) ?_
    refine lv_goto (tgt := 694) hx hb dL_law_690 (by decide) ?_
    exact jn_694_2 _ (dn_1 hdn hc_686)
set_option maxHeartbeats 4000000 in
set_option maxRecDepth 100000 in
theorem seg_713 (ha : Amb p c cL_law 31 s args RL m meth (some .boolean) G 74) (hcs : cells ≤ room_1.cells ∧ slots ≤ room_1.slots) (P : PT) (Z : Nat → Int32) (K : KT) (S : PT) (T : PT) (D : Nat) (D1 : Nat) (C1 : Nat → Int32) (dn : Nat) (x8 : Int32) (i : Nat) (k : Nat) (hw : Nat) (T6 : Nat) (c7 : Nat) {u : Mem} (hN : NV P Z) (hJ : J P Z K T D1 C1 u) (hP : va_P G.2.1 vwCl (wl G 74 (cX G u)) H) (hS : va_S (xA G 74 s.heap.size) s.heap H locs) (hl : lv_has ls 31 [(0, .ref (G.1 1000)), (1, .ref (G.1 0)), (2, .ref (G.1 72)), (3, .ref (G.1 73)), (4, .int (nI (nPl P))), (5, .int (nI (nPe P))), (6, .int (nI T6)), (7, .int (nI c7)), (8, .int x8), (9, .int (nI D)), (10, .int (S 0 1)), (11, .int (S 0 0)), (12, .int (a_seatedPeople P S)), (13, .int (a_highAll P S)), (14, .int (S 0 2)), (15, .int (nI i)), (16, .int (nI k)), (17, .int (S 2 i)), (18, .int (a_load P S (nI k))), (19, .int (S 1 k)), (23, .int (nI dn))])
    (kk : ∀ (v : Mem) (x24 x25 : Int32) (H : Heap) (locs : List Loc) (ls : Array Slot), (v = u) → (x24 = hiTo P T 0) → (x25 = peTo P T 0) → va_P G.2.1 vwCl (wl G 74 (cX G v)) H → va_S (xA G 74 s.heap.size) s.heap H locs → lv_has ls 31 [(0, .ref (G.1 1000)), (1, .ref (G.1 0)), (2, .ref (G.1 72)), (3, .ref (G.1 73)), (4, .int (nI (nPl P))), (5, .int (nI (nPe P))), (6, .int (nI T6)), (7, .int (nI c7)), (8, .int x8), (9, .int (nI D)), (10, .int (S 0 1)), (11, .int (S 0 0)), (12, .int (a_seatedPeople P S)), (13, .int (a_highAll P S)), (14, .int (S 0 2)), (15, .int (nI i)), (16, .int (nI k)), (17, .int (S 2 i)), (18, .int (a_load P S (nI k))), (19, .int (S 1 k)), (23, .int (nI dn)), (24, .int x24), (25, .int x25), (26, .int (nI 0))] → W p l e room_1 s m args below meth c H locs cells slots Q (F0 m 722 ls [])) : W p l e room_1 s m args below meth c H locs cells slots Q (F0 m 713 ls []) := by
  have hx := ha.1
  have hb := ha.2.1
  obtain ⟨h4, h5⟩ := NV_45 hJ
  have hp0 := hN.1.1
  have hq0 := hN.1.2
  have hpb := (J_plan hJ).1
  have hpr := (J_plan hJ).2
  have hg := J_gs hJ
  refine lv_iconst (v := 0) hx hb dL_law_713 (by decide) ?_
  refine lv_istore (lv' := [(24, .int 0), (0, .ref (G.1 1000)), (1, .ref (G.1 0)), (2, .ref (G.1 72)), (3, .ref (G.1 73)), (4, .int (nI (nPl P))), (5, .int (nI (nPe P))), (6, .int (nI T6)), (7, .int (nI c7)), (8, .int x8), (9, .int (nI D)), (10, .int (S 0 1)), (11, .int (S 0 0)), (12, .int (a_seatedPeople P S)), (13, .int (a_highAll P S)), (14, .int (S 0 2)), (15, .int (nI i)), (16, .int (nI k)), (17, .int (S 2 i)), (18, .int (a_load P S (nI k))), (19, .int (S 1 k)), (23, .int (nI dn))]) hx hb dL_law_714 hl (by decide) rfl (fun ls hl => ?_)
  refine lv_iconst (v := 0) hx hb dL_law_716 (by decide) ?_
  refine lv_istore (lv' := [(25, .int 0), (24, .int 0), (0, .ref (G.1 1000)), (1, .ref (G.1 0)), (2, .ref (G.1 72)), (3, .ref (G.1 73)), (4, .int (nI (nPl P))), (5, .int (nI (nPe P))), (6, .int (nI T6)), (7, .int (nI c7)), (8, .int x8), (9, .int (nI D)), (10, .int (S 0 1)), (11, .int (S 0 0)), (12, .int (a_seatedPeople P S)), (13, .int (a_highAll P S)), (14, .int (S 0 2)), (15, .int (nI i)), (16, .int (nI k)), (17, .int (S 2 i)), (18, .int (a_load P S (nI k))), (19, .int (S 1 k)), (23, .int (nI dn))]) hx hb dL_law_717 hl (by decide) rfl (fun ls hl => ?_)
  refine lv_iconst (v := 0) hx hb dL_law_719 (by decide) ?_
  refine lv_istore (lv' := [(26, .int 0), (25, .int 0), (24, .int 0), (0, .ref (G.1 1000)), (1, .ref (G.1 0)), (2, .ref (G.1 72)), (3, .ref (G.1 73)), (4, .int (nI (nPl P))), (5, .int (nI (nPe P))), (6, .int (nI T6)), (7, .int (nI c7)), (8, .int x8), (9, .int (nI D)), (10, .int (S 0 1)), (11, .int (S 0 0)), (12, .int (a_seatedPeople P S)), (13, .int (a_highAll P S)), (14, .int (S 0 2)), (15, .int (nI i)), (16, .int (nI k)), (17, .int (S 2 i)), (18, .int (a_load P S (nI k))), (19, .int (S 1 k)), (23, .int (nI dn))]) hx hb dL_law_720 hl (by decide) rfl (fun ls hl => ?_)
  exact kk u 0 0 _ _ _ rfl rfl ((pe_0 hpb).symm) hP hS (lv_sub hl [3, 4, 5, 6, 7, 8, 9, 10, 11, 12, 13, 14, 15, 16, 17, 18, 19, 20, 21, 22, 23, 2, 1, 0] rfl)
set_option maxHeartbeats 4000000 in
set_option maxRecDepth 100000 in
theorem seg_722 (ha : Amb p c cL_law 31 s args RL m meth (some .boolean) G 74) (hcs : cells ≤ room_1.cells ∧ slots ≤ room_1.slots) (P : PT) (Z : Nat → Int32) (K : KT) (S : PT) (T : PT) (D : Nat) (D1 : Nat) (C1 : Nat → Int32) (dn : Nat) (x8 : Int32) (i : Nat) (k : Nat) (hw : Nat) (T6 : Nat) (c7 : Nat) (ee : Nat) {u : Mem} (hN : NV P Z) (hJ : J P Z K T D1 C1 u) (he0 : ee ≤ nPl P) (hP : va_P G.2.1 vwCl (wl G 74 (cX G u)) H) (hS : va_S (xA G 74 s.heap.size) s.heap H locs) (hl : lv_has ls 31 [(0, .ref (G.1 1000)), (1, .ref (G.1 0)), (2, .ref (G.1 72)), (3, .ref (G.1 73)), (4, .int (nI (nPl P))), (5, .int (nI (nPe P))), (6, .int (nI T6)), (7, .int (nI c7)), (8, .int x8), (9, .int (nI D)), (10, .int (S 0 1)), (11, .int (S 0 0)), (12, .int (a_seatedPeople P S)), (13, .int (a_highAll P S)), (14, .int (S 0 2)), (15, .int (nI i)), (16, .int (nI k)), (17, .int (S 2 i)), (18, .int (a_load P S (nI k))), (19, .int (S 1 k)), (23, .int (nI dn)), (24, .int (hiTo P T ee)), (25, .int (peTo P T ee)), (26, .int (nI ee))])
    (kout : ∀ (v : Mem)  (H : Heap) (locs : List Loc) (ls : Array Slot), (v = u) → (ee = nPl P) → va_P G.2.1 vwCl (wl G 74 (cX G v)) H → va_S (xA G 74 s.heap.size) s.heap H locs → lv_has ls 31 [(0, .ref (G.1 1000)), (1, .ref (G.1 0)), (2, .ref (G.1 72)), (3, .ref (G.1 73)), (4, .int (nI (nPl P))), (5, .int (nI (nPe P))), (6, .int (nI T6)), (7, .int (nI c7)), (8, .int x8), (9, .int (nI D)), (10, .int (S 0 1)), (11, .int (S 0 0)), (12, .int (a_seatedPeople P S)), (13, .int (a_highAll P S)), (14, .int (S 0 2)), (15, .int (nI i)), (16, .int (nI k)), (17, .int (S 2 i)), (18, .int (a_load P S (nI k))), (19, .int (S 1 k)), (23, .int (nI dn)), (24, .int (hiTo P T ee)), (25, .int (peTo P T ee)), (26, .int (nI ee))] → W p l e room_1 s m args below meth c H locs cells slots Q (F0 m 976 ls []))
    (kin : ∀ (v : Mem) (x24 x29 : Int32) (H : Heap) (locs : List Loc) (ls : Array Slot), (J P Z K T D1 C1 v) → (x24 = hiTo P T ee + HK P (T 2) 0 (nI ee)) → (x29 = LI P (T 2) 0 (nI ee)) → (ee < nPl P) → va_P G.2.1 vwCl (wl G 74 (cX G v)) H → va_S (xA G 74 s.heap.size) s.heap H locs → lv_has ls 31 [(0, .ref (G.1 1000)), (1, .ref (G.1 0)), (2, .ref (G.1 72)), (3, .ref (G.1 73)), (4, .int (nI (nPl P))), (5, .int (nI (nPe P))), (6, .int (nI T6)), (7, .int (nI c7)), (8, .int x8), (9, .int (nI D)), (10, .int (S 0 1)), (11, .int (S 0 0)), (12, .int (a_seatedPeople P S)), (13, .int (a_highAll P S)), (14, .int (S 0 2)), (15, .int (nI i)), (16, .int (nI k)), (17, .int (S 2 i)), (18, .int (a_load P S (nI k))), (19, .int (S 1 k)), (23, .int (nI dn)), (24, .int x24), (25, .int (peTo P T ee)), (26, .int (nI ee)), (27, .int (T 1 ee)), (28, .int (a_sitters P T (nI ee))), (29, .int x29), (30, .int (nI 0))] → W p l e room_1 s m args below meth c H locs cells slots Q (F0 m 762 ls [])) : W p l e room_1 s m args below meth c H locs cells slots Q (F0 m 722 ls []) := by
  have hx := ha.1
  have hb := ha.2.1
  obtain ⟨h4, h5⟩ := NV_45 hJ
  have hp0 := hN.1.1
  have hq0 := hN.1.2
  have hpb := (J_plan hJ).1
  have hpr := (J_plan hJ).2
  have hg := J_gs hJ
  refine lv_iload hx hb dL_law_722 (lv_at hl 23 rfl) ?_
  refine lv_iload hx hb dL_law_724 (lv_at hl 4 rfl) ?_
  refine lv_icmp_ge (tgt := 976) hx hb dL_law_726 (by decide) (fun c_1 => ?_) (fun c_1 => ?_)
  · have hc_726 := c_1
    have he := eq_of_le hc_726 he0 (by omega)
    exact kout u  _ _ _ rfl he hP hS (lv_sub hl [0, 1, 2, 3, 4, 5, 6, 7, 8, 9, 10, 11, 12, 13, 14, 15, 16, 17, 18, 19, 20, 21, 22, 23] rfl)
  · have hc_726 := c_1
    have he : ee < nPl P := lt_of_nle hc_726 (by omega) (by omega)
    refine lv_aload_n hx hb dL_law_729 rfl (lv_at hl 1 rfl) ?_
    refine lv_aload_n hx hb dL_law_730 rfl (lv_at hl 1 rfl) ?_
    refine lv_iload hx hb dL_law_731 (lv_at hl 23 rfl) ?_
    refine lv_iconst (v := 3) hx hb dL_law_733 (by decide) ?_
    refine xVi ha hP hS (y := yX7_pole) (As := [.int (nI ee), .int 3]) (rest := [.ref (G.1 0)]) 0 (by decide) (cX_0 G _) rfl rfl (c_X7_pole G l u (nI ee) 3 (J_PO hJ)) kw_L_105 hd_X7_pole rfl ⟨rfl, rfl⟩ ⟨Nat.le_of_ble_eq_true rfl, Nat.le_of_ble_eq_true rfl⟩ hcs hl.1 (Nat.le_of_ble_eq_true rfl) rfl dL_law_734 (fun r_2 v1 H locs hpq hP hS => ?_)
    obtain ⟨hr_, hu_⟩ := hpq
    have hq_ := q_pole hJ (pole_nI hpb he) (w := 3) (by decide)
    simp only [← hr_, ← hu_] at hq_
    clear hr_ hu_
    obtain ⟨h_r, t1, hJ, rs⟩ := hq_
    subst h_r
    refine xSi ha hP hS (y := yL_told) (As := [.ref (G.1 0), .int 1]) (rest := []) rfl (c_L_told1 G l v1  ) kw_L_101 hd_L_told rfl ⟨rfl, rfl⟩ ⟨Nat.le_of_ble_eq_true rfl, Nat.le_of_ble_eq_true rfl⟩ hcs hl.1 (Nat.le_of_ble_eq_true rfl) rfl dL_law_737 (fun r_3 v2 H locs hpq hP hS => ?_)
    obtain ⟨hr_, hu_⟩ := hpq
    have hu_ := hu_.symm
    subst hu_
    have hr_ := hr_.trans (t1.trans (pole_3 hpb he))
    have hr_ := hr_.symm
    subst hr_
    refine lv_istore (lv' := [(27, .int (T 1 ee)), (0, .ref (G.1 1000)), (1, .ref (G.1 0)), (2, .ref (G.1 72)), (3, .ref (G.1 73)), (4, .int (nI (nPl P))), (5, .int (nI (nPe P))), (6, .int (nI T6)), (7, .int (nI c7)), (8, .int x8), (9, .int (nI D)), (10, .int (S 0 1)), (11, .int (S 0 0)), (12, .int (a_seatedPeople P S)), (13, .int (a_highAll P S)), (14, .int (S 0 2)), (15, .int (nI i)), (16, .int (nI k)), (17, .int (S 2 i)), (18, .int (a_load P S (nI k))), (19, .int (S 1 k)), (23, .int (nI dn)), (24, .int (hiTo P T ee)), (25, .int (peTo P T ee)), (26, .int (nI ee))]) hx hb dL_law_740 hl (by decide) rfl (fun ls hl => ?_)
    refine lv_aload_n hx hb dL_law_742 rfl (lv_at hl 2 rfl) ?_
    refine lv_aload_n hx hb dL_law_743 rfl (lv_at hl 2 rfl) ?_
    refine lv_iload hx hb dL_law_744 (lv_at hl 24 rfl) ?_
    refine lv_bipush (v := 6) hx hb dL_law_746 (by decide) ?_
    refine xVi ha hP hS (y := yX7_pole) (As := [.int (nI ee), .int 6]) (rest := [.ref (G.1 0)]) 0 (by decide) (cX_0 G _) rfl rfl (c_X7_pole G l v1 (nI ee) 6 (J_PO hJ)) kw_L_105 hd_X7_pole rfl ⟨rfl, rfl⟩ ⟨Nat.le_of_ble_eq_true rfl, Nat.le_of_ble_eq_true rfl⟩ hcs hl.1 (Nat.le_of_ble_eq_true rfl) rfl dL_law_748 (fun r_4 v3 H locs hpq hP hS => ?_)
    obtain ⟨hr_, hu_⟩ := hpq
    have hq_ := q_pole hJ (pole_nI hpb he) (w := 6) (by decide)
    simp only [← hr_, ← hu_] at hq_
    clear hr_ hu_
    obtain ⟨h_r, t1, hJ, rs⟩ := hq_
    subst h_r
    refine xSi ha hP hS (y := yL_told) (As := [.ref (G.1 0), .int 1]) (rest := []) rfl (c_L_told1 G l v3  ) kw_L_101 hd_L_told rfl ⟨rfl, rfl⟩ ⟨Nat.le_of_ble_eq_true rfl, Nat.le_of_ble_eq_true rfl⟩ hcs hl.1 (Nat.le_of_ble_eq_true rfl) rfl dL_law_751 (fun r_5 v4 H locs hpq hP hS => ?_)
    obtain ⟨hr_, hu_⟩ := hpq
    have hu_ := hu_.symm
    subst hu_
    have hr_ := hr_.trans (t1.trans (pole_6 hpb he))
    have hr_ := hr_.symm
    subst hr_
    refine lv_istore (lv' := [(28, .int (a_sitters P T (nI ee))), (27, .int (T 1 ee)), (0, .ref (G.1 1000)), (1, .ref (G.1 0)), (2, .ref (G.1 72)), (3, .ref (G.1 73)), (4, .int (nI (nPl P))), (5, .int (nI (nPe P))), (6, .int (nI T6)), (7, .int (nI c7)), (8, .int x8), (9, .int (nI D)), (10, .int (S 0 1)), (11, .int (S 0 0)), (12, .int (a_seatedPeople P S)), (13, .int (a_highAll P S)), (14, .int (S 0 2)), (15, .int (nI i)), (16, .int (nI k)), (17, .int (S 2 i)), (18, .int (a_load P S (nI k))), (19, .int (S 1 k)), (23, .int (nI dn)), (24, .int (hiTo P T ee)), (25, .int (peTo P T ee)), (26, .int (nI ee))]) hx hb dL_law_754 hl (by decide) rfl (fun ls hl => ?_)
    refine lv_iconst (v := 0) hx hb dL_law_756 (by decide) ?_
    refine lv_istore (lv' := [(29, .int 0), (28, .int (a_sitters P T (nI ee))), (27, .int (T 1 ee)), (0, .ref (G.1 1000)), (1, .ref (G.1 0)), (2, .ref (G.1 72)), (3, .ref (G.1 73)), (4, .int (nI (nPl P))), (5, .int (nI (nPe P))), (6, .int (nI T6)), (7, .int (nI c7)), (8, .int x8), (9, .int (nI D)), (10, .int (S 0 1)), (11, .int (S 0 0)), (12, .int (a_seatedPeople P S)), (13, .int (a_highAll P S)), (14, .int (S 0 2)), (15, .int (nI i)), (16, .int (nI k)), (17, .int (S 2 i)), (18, .int (a_load P S (nI k))), (19, .int (S 1 k)), (23, .int (nI dn)), (24, .int (hiTo P T ee)), (25, .int (peTo P T ee)), (26, .int (nI ee))]) hx hb dL_law_757 hl (by decide) rfl (fun ls hl => ?_)
    refine lv_iconst (v := 0) hx hb dL_law_759 (by decide) ?_
    refine lv_istore (lv' := [(30, .int 0), (29, .int 0), (28, .int (a_sitters P T (nI ee))), (27, .int (T 1 ee)), (0, .ref (G.1 1000)), (1, .ref (G.1 0)), (2, .ref (G.1 72)), (3, .ref (G.1 73)), (4, .int (nI (nPl P))), (5, .int (nI (nPe P))), (6, .int (nI T6)), (7, .int (nI c7)), (8, .int x8), (9, .int (nI D)), (10, .int (S 0 1)), (11, .int (S 0 0)), (12, .int (a_seatedPeople P S)), (13, .int (a_highAll P S)), (14, .int (S 0 2)), (15, .int (nI i)), (16, .int (nI k)), (17, .int (S 2 i)), (18, .int (a_load P S (nI k))), (19, .int (S 1 k)), (23, .int (nI dn)), (24, .int (hiTo P T ee)), (25, .int (peTo P T ee)), (26, .int (nI ee))]) hx hb dL_law_760 hl (by decide) rfl (fun ls hl => ?_)
    exact kin v3 (hiTo P T ee) 0 _ _ _ hJ (by show hiTo P T ee = hiTo P T ee + 0; rw [Int32.add_zero]) rfl he hP hS (lv_sub hl [4, 5, 6, 7, 8, 9, 10, 11, 12, 13, 14, 15, 16, 17, 18, 19, 20, 21, 22, 23, 24, 25, 26, 27, 3, 2, 1, 0] rfl)
set_option maxHeartbeats 4000000 in
set_option maxRecDepth 100000 in
theorem seg_762 (ha : Amb p c cL_law 31 s args RL m meth (some .boolean) G 74) (hcs : cells ≤ room_1.cells ∧ slots ≤ room_1.slots) (P : PT) (Z : Nat → Int32) (K : KT) (S : PT) (T : PT) (D : Nat) (D1 : Nat) (C1 : Nat → Int32) (dn : Nat) (x8 : Int32) (i : Nat) (k : Nat) (hw : Nat) (T6 : Nat) (c7 : Nat) (ee : Nat) (f : Nat) (x24 : Int32) (x29 : Int32) {u : Mem} (hN : NV P Z) (hJ : J P Z K T D1 C1 u) (he : ee < nPl P) (hf0 : f ≤ nPe P) (e24 : x24 = hiTo P T ee + HK P (T 2) f (nI ee)) (e29 : x29 = LI P (T 2) f (nI ee)) (hP : va_P G.2.1 vwCl (wl G 74 (cX G u)) H) (hS : va_S (xA G 74 s.heap.size) s.heap H locs) (hl : lv_has ls 31 [(0, .ref (G.1 1000)), (1, .ref (G.1 0)), (2, .ref (G.1 72)), (3, .ref (G.1 73)), (4, .int (nI (nPl P))), (5, .int (nI (nPe P))), (6, .int (nI T6)), (7, .int (nI c7)), (8, .int x8), (9, .int (nI D)), (10, .int (S 0 1)), (11, .int (S 0 0)), (12, .int (a_seatedPeople P S)), (13, .int (a_highAll P S)), (14, .int (S 0 2)), (15, .int (nI i)), (16, .int (nI k)), (17, .int (S 2 i)), (18, .int (a_load P S (nI k))), (19, .int (S 1 k)), (23, .int (nI dn)), (24, .int x24), (25, .int (peTo P T ee)), (26, .int (nI ee)), (27, .int (T 1 ee)), (28, .int (a_sitters P T (nI ee))), (29, .int x29), (30, .int (nI f))])
    (kout : ∀ (v : Mem)  (H : Heap) (locs : List Loc) (ls : Array Slot), (v = u) → (f = nPe P) → va_P G.2.1 vwCl (wl G 74 (cX G v)) H → va_S (xA G 74 s.heap.size) s.heap H locs → lv_has ls 31 [(0, .ref (G.1 1000)), (1, .ref (G.1 0)), (2, .ref (G.1 72)), (3, .ref (G.1 73)), (4, .int (nI (nPl P))), (5, .int (nI (nPe P))), (6, .int (nI T6)), (7, .int (nI c7)), (8, .int x8), (9, .int (nI D)), (10, .int (S 0 1)), (11, .int (S 0 0)), (12, .int (a_seatedPeople P S)), (13, .int (a_highAll P S)), (14, .int (S 0 2)), (15, .int (nI i)), (16, .int (nI k)), (17, .int (S 2 i)), (18, .int (a_load P S (nI k))), (19, .int (S 1 k)), (23, .int (nI dn)), (24, .int x24), (25, .int (peTo P T ee)), (26, .int (nI ee)), (27, .int (T 1 ee)), (28, .int (a_sitters P T (nI ee))), (29, .int x29), (30, .int (nI f))] → W p l e room_1 s m args below meth c H locs cells slots Q (F0 m 848 ls []))
    (kback : ∀ (v : Mem) (y24 y29 : Int32) (H : Heap) (locs : List Loc) (ls : Array Slot), (J P Z K T D1 C1 v) → (y24 = hiTo P T ee + HK P (T 2) (f + 1) (nI ee)) → (y29 = LI P (T 2) (f + 1) (nI ee)) → (f < nPe P) → va_P G.2.1 vwCl (wl G 74 (cX G v)) H → va_S (xA G 74 s.heap.size) s.heap H locs → lv_has ls 31 [(0, .ref (G.1 1000)), (1, .ref (G.1 0)), (2, .ref (G.1 72)), (3, .ref (G.1 73)), (4, .int (nI (nPl P))), (5, .int (nI (nPe P))), (6, .int (nI T6)), (7, .int (nI c7)), (8, .int x8), (9, .int (nI D)), (10, .int (S 0 1)), (11, .int (S 0 0)), (12, .int (a_seatedPeople P S)), (13, .int (a_highAll P S)), (14, .int (S 0 2)), (15, .int (nI i)), (16, .int (nI k)), (17, .int (S 2 i)), (18, .int (a_load P S (nI k))), (19, .int (S 1 k)), (23, .int (nI dn)), (24, .int y24), (25, .int (peTo P T ee)), (26, .int (nI ee)), (27, .int (T 1 ee)), (28, .int (a_sitters P T (nI ee))), (29, .int y29), (30, .int (nI (f + 1)))] → W p l e room_1 s m args below meth c H locs cells slots Q (F0 m 762 ls [])) : W p l e room_1 s m args below meth c H locs cells slots Q (F0 m 762 ls []) := by
  have hx := ha.1
  have hb := ha.2.1
  obtain ⟨h4, h5⟩ := NV_45 hJ
  have hp0 := hN.1.1
  have hq0 := hN.1.2
  have hpb := (J_plan hJ).1
  have hpr := (J_plan hJ).2
  have hg := J_gs hJ
  refine lv_iload hx hb dL_law_762 (lv_at hl 27 rfl) ?_
  refine lv_iload hx hb dL_law_764 (lv_at hl 5 rfl) ?_
  refine lv_icmp_ge (tgt := 848) hx hb dL_law_766 (by decide) (fun c_1 => ?_) (fun c_1 => ?_)
  · have hc_766 := c_1
    have hf := eq_of_le hc_766 hf0 (by omega)
    exact kout u  _ _ _ rfl hf hP hS (lv_sub hl [0, 1, 2, 3, 4, 5, 6, 7, 8, 9, 10, 11, 12, 13, 14, 15, 16, 17, 18, 19, 20, 21, 22, 23, 24, 25, 26, 27] rfl)
  · have hc_766 := c_1
    have hf : f < nPe P := lt_of_nle hc_766 (by omega) (by omega)
    refine lv_iload hx hb dL_law_769 (lv_at hl 25 rfl) ?_
    refine lv_iload hx hb dL_law_771 (lv_at hl 27 rfl) ?_
    refine lv_ishr hx hb dL_law_773 ?_
    refine lv_iconst (v := 1) hx hb dL_law_774 (by decide) ?_
    refine lv_iand hx hb dL_law_775 ?_
    refine lv_if_ne (tgt := 782) hx hb dL_law_776 (by decide) (fun c_2 => ?_) (fun c_2 => ?_)
    · have hc_776 := c_2
      have hse : T 2 f = nI ee := by apply Decidable.byContradiction; intro q; exact hc_776 ((who_bit hpb hf).mpr q)
      refine lv_iload hx hb dL_law_782 (lv_at hl 26 rfl) ?_
      refine lv_aload_n hx hb dL_law_784 rfl (lv_at hl 2 rfl) ?_
      refine lv_bipush (v := 14) hx hb dL_law_785 (by decide) ?_
      refine lv_iload hx hb dL_law_787 (lv_at hl 27 rfl) ?_
      refine lw_iaddE (z := (nI (14 + f))) hx hb dL_law_789 (nI_add 14 f) ?_
      refine xialdN ha hP 72 (by decide) (cX_z G hJ) (14 + f) rfl (by omega) (by decide) dL_law_790 ?_
      refine lv_aload_n hx hb dL_law_791 rfl (lv_at hl 1 rfl) ?_
      refine lv_aload_n hx hb dL_law_792 rfl (lv_at hl 1 rfl) ?_
      refine lv_iload hx hb dL_law_793 (lv_at hl 27 rfl) ?_
      refine lv_iconst (v := 3) hx hb dL_law_795 (by decide) ?_
      refine xVi ha hP hS (y := yX7_one) (As := [.int (nI f), .int 3]) (rest := [.ref (G.1 0), .int (Z (14 + f)), .int x29]) 0 (by decide) (cX_0 G _) rfl rfl (c_X7_one G l u (nI f) 3 (J_PO hJ)) kw_L_98 hd_X7_one rfl ⟨rfl, rfl⟩ ⟨Nat.le_of_ble_eq_true rfl, Nat.le_of_ble_eq_true rfl⟩ hcs hl.1 (Nat.le_of_ble_eq_true rfl) rfl dL_law_796 (fun r_3 v1 H locs hpq hP hS => ?_)
      obtain ⟨hr_, hu_⟩ := hpq
      have hq_ := q_one hJ (one_nI hpb hf) (w := 3) (by decide)
      simp only [← hr_, ← hu_] at hq_
      clear hr_ hu_
      obtain ⟨h_r, t1, hJ, rs⟩ := hq_
      subst h_r
      refine xSi ha hP hS (y := yL_told) (As := [.ref (G.1 0), .int 1]) (rest := [.int (Z (14 + f)), .int x29]) rfl (c_L_told1 G l v1  ) kw_L_101 hd_L_told rfl ⟨rfl, rfl⟩ ⟨Nat.le_of_ble_eq_true rfl, Nat.le_of_ble_eq_true rfl⟩ hcs hl.1 (Nat.le_of_ble_eq_true rfl) rfl dL_law_799 (fun r_4 v2 H locs hpq hP hS => ?_)
      obtain ⟨hr_, hu_⟩ := hpq
      have hu_ := hu_.symm
      subst hu_
      have hr_ := hr_.trans t1
      have hr_ := hr_.symm
      subst hr_
      refine lv_iconst (v := 2) hx hb dL_law_802 (by decide) ?_
      refine lv_idiv hx hb dL_law_803 (by decide) ?_
      refine lv_iadd hx hb dL_law_804 ?_
      refine lv_iadd hx hb dL_law_805 ?_
      refine lv_istore (lv' := [(29, .int (x29 + ((Z (14 + f)) + ((a_ofOne P T (nI f) 3) / 2)))), (0, .ref (G.1 1000)), (1, .ref (G.1 0)), (2, .ref (G.1 72)), (3, .ref (G.1 73)), (4, .int (nI (nPl P))), (5, .int (nI (nPe P))), (6, .int (nI T6)), (7, .int (nI c7)), (8, .int x8), (9, .int (nI D)), (10, .int (S 0 1)), (11, .int (S 0 0)), (12, .int (a_seatedPeople P S)), (13, .int (a_highAll P S)), (14, .int (S 0 2)), (15, .int (nI i)), (16, .int (nI k)), (17, .int (S 2 i)), (18, .int (a_load P S (nI k))), (19, .int (S 1 k)), (23, .int (nI dn)), (24, .int x24), (25, .int (peTo P T ee)), (26, .int (nI ee)), (27, .int (T 1 ee)), (28, .int (a_sitters P T (nI ee))), (30, .int (nI f))]) hx hb dL_law_806 hl (by decide) rfl (fun ls hl => ?_)
      refine lv_aload_n hx hb dL_law_808 rfl (lv_at hl 2 rfl) ?_
      refine lv_aload_n hx hb dL_law_809 rfl (lv_at hl 2 rfl) ?_
      refine lv_iload hx hb dL_law_810 (lv_at hl 27 rfl) ?_
      refine lv_iconst (v := 2) hx hb dL_law_812 (by decide) ?_
      refine xVi ha hP hS (y := yX7_one) (As := [.int (nI f), .int 2]) (rest := [.ref (G.1 0)]) 0 (by decide) (cX_0 G _) rfl rfl (c_X7_one G l v1 (nI f) 2 (J_PO hJ)) kw_L_98 hd_X7_one rfl ⟨rfl, rfl⟩ ⟨Nat.le_of_ble_eq_true rfl, Nat.le_of_ble_eq_true rfl⟩ hcs hl.1 (Nat.le_of_ble_eq_true rfl) rfl dL_law_813 (fun r_5 v3 H locs hpq hP hS => ?_)
      obtain ⟨hr_, hu_⟩ := hpq
      have hq_ := q_one hJ (one_nI hpb hf) (w := 2) (by decide)
      simp only [← hr_, ← hu_] at hq_
      clear hr_ hu_
      obtain ⟨h_r, t1, hJ, rs⟩ := hq_
      subst h_r
      refine xSi ha hP hS (y := yL_told) (As := [.ref (G.1 0), .int 1]) (rest := []) rfl (c_L_told1 G l v3  ) kw_L_101 hd_L_told rfl ⟨rfl, rfl⟩ ⟨Nat.le_of_ble_eq_true rfl, Nat.le_of_ble_eq_true rfl⟩ hcs hl.1 (Nat.le_of_ble_eq_true rfl) rfl dL_law_816 (fun r_6 v4 H locs hpq hP hS => ?_)
      obtain ⟨hr_, hu_⟩ := hpq
      have hu_ := hu_.symm
      subst hu_
      have hr_ := hr_.trans ((t1.trans (one_2 hpb hf)).trans hse)
      have hr_ := hr_.symm
      subst hr_
      refine lv_iload hx hb dL_law_819 (lv_at hl 24 rfl) ?_
      refine lv_icmp_eq (tgt := 826) hx hb dL_law_821 (by decide) (fun c_7 => ?_) (fun c_7 => absurd rfl c_7)
      refine lv_iload hx hb dL_law_826 (lv_at hl 22 rfl) ?_
      refine lv_aload_n hx hb dL_law_828 rfl (lv_at hl 2 rfl) ?_
      refine lv_aload_n hx hb dL_law_829 rfl (lv_at hl 2 rfl) ?_
      refine lv_iload hx hb dL_law_830 (lv_at hl 27 rfl) ?_
      refine lv_iconst (v := 3) hx hb dL_law_832 (by decide) ?_
      refine xVi ha hP hS (y := yX7_one) (As := [.int (nI f), .int 3]) (rest := [.ref (G.1 0), .int x24]) 0 (by decide) (cX_0 G _) rfl rfl (c_X7_one G l v3 (nI f) 3 (J_PO hJ)) kw_L_98 hd_X7_one rfl ⟨rfl, rfl⟩ ⟨Nat.le_of_ble_eq_true rfl, Nat.le_of_ble_eq_true rfl⟩ hcs hl.1 (Nat.le_of_ble_eq_true rfl) rfl dL_law_833 (fun r_8 v5 H locs hpq hP hS => ?_)
      obtain ⟨hr_, hu_⟩ := hpq
      have hq_ := q_one hJ (one_nI hpb hf) (w := 3) (by decide)
      simp only [← hr_, ← hu_] at hq_
      clear hr_ hu_
      obtain ⟨h_r, t1, hJ, rs⟩ := hq_
      subst h_r
      refine xSi ha hP hS (y := yL_told) (As := [.ref (G.1 0), .int 1]) (rest := [.int x24]) rfl (c_L_told1 G l v5  ) kw_L_101 hd_L_told rfl ⟨rfl, rfl⟩ ⟨Nat.le_of_ble_eq_true rfl, Nat.le_of_ble_eq_true rfl⟩ hcs hl.1 (Nat.le_of_ble_eq_true rfl) rfl dL_law_836 (fun r_9 v6 H locs hpq hP hS => ?_)
      obtain ⟨hr_, hu_⟩ := hpq
      have hu_ := hu_.symm
      subst hu_
      have hr_ := hr_.trans t1
      have hr_ := hr_.symm
      subst hr_
      refine lv_iadd hx hb dL_law_839 ?_
      refine lv_istore (lv' := [(24, .int (x24 + (a_ofOne P T (nI f) 3))), (29, .int (x29 + ((Z (14 + f)) + ((a_ofOne P T (nI f) 3) / 2)))), (0, .ref (G.1 1000)), (1, .ref (G.1 0)), (2, .ref (G.1 72)), (3, .ref (G.1 73)), (4, .int (nI (nPl P))), (5, .int (nI (nPe P))), (6, .int (nI T6)), (7, .int (nI c7)), (8, .int x8), (9, .int (nI D)), (10, .int (S 0 1)), (11, .int (S 0 0)), (12, .int (a_seatedPeople P S)), (13, .int (a_highAll P S)), (14, .int (S 0 2)), (15, .int (nI i)), (16, .int (nI k)), (17, .int (S 2 i)), (18, .int (a_load P S (nI k))), (19, .int (S 1 k)), (23, .int (nI dn)), (25, .int (peTo P T ee)), (26, .int (nI ee)), (27, .int (T 1 ee)), (28, .int (a_sitters P T (nI ee))), (30, .int (nI f))]) hx hb dL_law_840 hl (by decide) rfl (fun ls hl => ?_)
      refine lv_iinc (v := nI (f + 1)) (lv' := [(30, .int (nI (f + 1))), (24, .int (x24 + (a_ofOne P T (nI f) 3))), (29, .int (x29 + ((Z (14 + f)) + ((a_ofOne P T (nI f) 3) / 2)))), (0, .ref (G.1 1000)), (1, .ref (G.1 0)), (2, .ref (G.1 72)), (3, .ref (G.1 73)), (4, .int (nI (nPl P))), (5, .int (nI (nPe P))), (6, .int (nI T6)), (7, .int (nI c7)), (8, .int x8), (9, .int (nI D)), (10, .int (S 0 1)), (11, .int (S 0 0)), (12, .int (a_seatedPeople P S)), (13, .int (a_highAll P S)), (14, .int (S 0 2)), (15, .int (nI i)), (16, .int (nI k)), (17, .int (S 2 i)), (18, .int (a_load P S (nI k))), (19, .int (S 1 k)), (23, .int (nI dn)), (25, .int (peTo P T ee)), (26, .int (nI ee)), (27, .int (T 1 ee)), (28, .int (a_sitters P T (nI ee)))]) hx hb dL_law_842 hl (k := 27) rfl (nI_1 f) (by decide) rfl (fun ls hl => ?_)
      refine lv_goto (tgt := 762) hx hb dL_law_845 (by decide) ?_
      exact kback v5 (x24 + a_ofOne P T (nI f) 3) (x29 + (Z (14 + f) + a_ofOne P T (nI f) 3 / 2)) _ _ _ hJ (by rw [hk_step hg hf hse, e24, Int32.add_assoc]) (by rw [li_step hg hN hf hse, e29]) hf hP hS (lv_sub hl [3, 4, 5, 6, 7, 8, 9, 10, 11, 12, 13, 14, 15, 16, 17, 18, 19, 20, 21, 22, 23, 1, 24, 25, 26, 27, 2, 0] rfl)
    · have hc_776 := c_2
      have hne := (who_bit hpb hf).mp hc_776
      refine lv_goto (tgt := 842) hx hb dL_law_779 (by decide) ?_
      refine lv_iinc (v := nI (f + 1)) (lv' := [(30, .int (nI (f + 1))), (0, .ref (G.1 1000)), (1, .ref (G.1 0)), (2, .ref (G.1 72)), (3, .ref (G.1 73)), (4, .int (nI (nPl P))), (5, .int (nI (nPe P))), (6, .int (nI T6)), (7, .int (nI c7)), (8, .int x8), (9, .int (nI D)), (10, .int (S 0 1)), (11, .int (S 0 0)), (12, .int (a_seatedPeople P S)), (13, .int (a_highAll P S)), (14, .int (S 0 2)), (15, .int (nI i)), (16, .int (nI k)), (17, .int (S 2 i)), (18, .int (a_load P S (nI k))), (19, .int (S 1 k)), (23, .int (nI dn)), (24, .int x24), (25, .int (peTo P T ee)), (26, .int (nI ee)), (27, .int (T 1 ee)), (28, .int (a_sitters P T (nI ee))), (29, .int x29)]) hx hb dL_law_842 hl (k := 27) rfl (nI_1 f) (by decide) rfl (fun ls hl => ?_)
      refine lv_goto (tgt := 762) hx hb dL_law_845 (by decide) ?_
      exact kback u x24 x29 _ _ _ hJ (by rw [hk_skip _ hne]; exact e24) (by rw [li_skip _ hne]; exact e29) hf hP hS (lv_sub hl [1, 2, 3, 4, 5, 6, 7, 8, 9, 10, 11, 12, 13, 14, 15, 16, 17, 18, 19, 20, 21, 22, 23, 24, 25, 26, 27, 0] rfl)
set_option maxHeartbeats 4000000 in
set_option maxRecDepth 100000 in
theorem seg_848 (ha : Amb p c cL_law 31 s args RL m meth (some .boolean) G 74) (hcs : cells ≤ room_1.cells ∧ slots ≤ room_1.slots) (P : PT) (Z : Nat → Int32) (K : KT) (S : PT) (T : PT) (D : Nat) (D1 : Nat) (C1 : Nat → Int32) (dn : Nat) (x8 : Int32) (i : Nat) (k : Nat) (hw : Nat) (T6 : Nat) (c7 : Nat) (ee : Nat) {u : Mem} (hN : NV P Z) (hJ : J P Z K T D1 C1 u) (he : ee < nPl P) (hP : va_P G.2.1 vwCl (wl G 74 (cX G u)) H) (hS : va_S (xA G 74 s.heap.size) s.heap H locs) (hl : lv_has ls 31 [(0, .ref (G.1 1000)), (1, .ref (G.1 0)), (2, .ref (G.1 72)), (3, .ref (G.1 73)), (4, .int (nI (nPl P))), (5, .int (nI (nPe P))), (6, .int (nI T6)), (7, .int (nI c7)), (8, .int x8), (9, .int (nI D)), (10, .int (S 0 1)), (11, .int (S 0 0)), (12, .int (a_seatedPeople P S)), (13, .int (a_highAll P S)), (14, .int (S 0 2)), (15, .int (nI i)), (16, .int (nI k)), (17, .int (S 2 i)), (18, .int (a_load P S (nI k))), (19, .int (S 1 k)), (23, .int (nI dn)), (24, .int (hiTo P T (ee + 1))), (25, .int (peTo P T ee)), (26, .int (nI ee)), (27, .int (T 1 ee)), (28, .int (a_sitters P T (nI ee))), (29, .int (a_load P T (nI ee)))])
    (kk : ∀ (v : Mem)  (H : Heap) (locs : List Loc) (ls : Array Slot), (J P Z K T D1 C1 v) → va_P G.2.1 vwCl (wl G 74 (cX G v)) H → va_S (xA G 74 s.heap.size) s.heap H locs → lv_has ls 31 [(0, .ref (G.1 1000)), (1, .ref (G.1 0)), (2, .ref (G.1 72)), (3, .ref (G.1 73)), (4, .int (nI (nPl P))), (5, .int (nI (nPe P))), (6, .int (nI T6)), (7, .int (nI c7)), (8, .int x8), (9, .int (nI D)), (10, .int (S 0 1)), (11, .int (S 0 0)), (12, .int (a_seatedPeople P S)), (13, .int (a_highAll P S)), (14, .int (S 0 2)), (15, .int (nI i)), (16, .int (nI k)), (17, .int (S 2 i)), (18, .int (a_load P S (nI k))), (19, .int (S 1 k)), (23, .int (nI dn)), (24, .int (hiTo P T (ee + 1))), (25, .int (peTo P T (ee + 1))), (26, .int (nI (ee + 1)))] → W p l e room_1 s m args below meth c H locs cells slots Q (F0 m 722 ls [])) : W p l e room_1 s m args below meth c H locs cells slots Q (F0 m 848 ls []) := by
  have hx := ha.1
  have hb := ha.2.1
  obtain ⟨h4, h5⟩ := NV_45 hJ
  have hp0 := hN.1.1
  have hq0 := hN.1.2
  have hpb := (J_plan hJ).1
  have hpr := (J_plan hJ).2
  have hg := J_gs hJ
  refine lv_iload hx hb dL_law_848 (lv_at hl 24 rfl) ?_
  refine lv_if_lt (tgt := 961) hx hb dL_law_850 (by decide) (fun c_1 => absurd c_1 (nneg_i (wear_i hg he).1)) (fun c_1 => ?_)
  refine lv_iload hx hb dL_law_853 (lv_at hl 24 rfl) ?_
  refine lv_bipush (v := 20) hx hb dL_law_855 (by decide) ?_
  refine lv_icmp_gt (tgt := 961) hx hb dL_law_857 (by decide) (fun c_2 => absurd c_2 (n20_i (wear_i hg he).2)) (fun c_2 => ?_)
  refine lv_aload_n hx hb dL_law_860 rfl (lv_at hl 1 rfl) ?_
  refine lv_iconst (v := 4) hx hb dL_law_861 (by decide) ?_
  refine xVi ha hP hS (y := yX7_count) (As := [.int 4]) (rest := []) 0 (by decide) (cX_0 G _) rfl rfl (c_X7_count G l u 4 (J_PO hJ)) kw_L_42 hd_X7_count rfl ⟨rfl, rfl⟩ ⟨Nat.le_of_ble_eq_true rfl, Nat.le_of_ble_eq_true rfl⟩ hcs hl.1 (Nat.le_of_ble_eq_true rfl) rfl dL_law_862 (fun r_3 v1 H locs hpq hP hS => ?_)
  obtain ⟨hr_, hu_⟩ := hpq
  have hu_ := hu_.symm
  subst hu_
  have hr_ := hr_.trans (q_c4 hJ)
  have hr_ := hr_.symm
  subst hr_
  refine lv_iload hx hb dL_law_865 (lv_at hl 23 rfl) ?_
  refine lv_ishr hx hb dL_law_867 ?_
  refine lv_iconst (v := 1) hx hb dL_law_868 (by decide) ?_
  refine lv_iand hx hb dL_law_869 ?_
  refine lv_iconst (v := 1) hx hb dL_law_870 (by decide) ?_
  refine lv_icmp_ne (tgt := 879) hx hb dL_law_871 (by decide) (fun c_4 => ?_) (fun c_4 => ?_)
  · have hc_871 := c_4
    refine lv_iload hx hb dL_law_879 (lv_at hl 22 rfl) ?_
    refine lv_iload hx hb dL_law_881 (lv_at hl 25 rfl) ?_
    refine lv_iand hx hb dL_law_883 ?_
    refine lv_if_ne (tgt := 961) hx hb dL_law_884 (by decide) (fun c_5 => absurd (who_apart hpb he) c_5) (fun c_5 => ?_)
    refine lv_aload_n hx hb dL_law_887 rfl (lv_at hl 1 rfl) ?_
    refine lv_aload_n hx hb dL_law_888 rfl (lv_at hl 1 rfl) ?_
    refine lv_iload hx hb dL_law_889 (lv_at hl 23 rfl) ?_
    refine lv_iconst (v := 5) hx hb dL_law_891 (by decide) ?_
    refine xVi ha hP hS (y := yX7_pole) (As := [.int (nI ee), .int 5]) (rest := [.ref (G.1 0)]) 0 (by decide) (cX_0 G _) rfl rfl (c_X7_pole G l u (nI ee) 5 (J_PO hJ)) kw_L_105 hd_X7_pole rfl ⟨rfl, rfl⟩ ⟨Nat.le_of_ble_eq_true rfl, Nat.le_of_ble_eq_true rfl⟩ hcs hl.1 (Nat.le_of_ble_eq_true rfl) rfl dL_law_892 (fun r_6 v2 H locs hpq hP hS => ?_)
    obtain ⟨hr_, hu_⟩ := hpq
    have hq_ := q_pole hJ (pole_nI hpb he) (w := 5) (by decide)
    simp only [← hr_, ← hu_] at hq_
    clear hr_ hu_
    obtain ⟨h_r, t1, hJ, rs⟩ := hq_
    subst h_r
    refine xSi ha hP hS (y := yL_told) (As := [.ref (G.1 0), .int 1]) (rest := []) rfl (c_L_told1 G l v2  ) kw_L_101 hd_L_told rfl ⟨rfl, rfl⟩ ⟨Nat.le_of_ble_eq_true rfl, Nat.le_of_ble_eq_true rfl⟩ hcs hl.1 (Nat.le_of_ble_eq_true rfl) rfl dL_law_895 (fun r_7 v3 H locs hpq hP hS => ?_)
    obtain ⟨hr_, hu_⟩ := hpq
    have hu_ := hu_.symm
    subst hu_
    have hr_ := hr_.trans (t1.trans (pole_5 hpb he))
    have hr_ := hr_.symm
    subst hr_
    refine lv_iload hx hb dL_law_898 (lv_at hl 26 rfl) ?_
    refine lv_icmp_ne (tgt := 961) hx hb dL_law_900 (by decide) (fun c_8 => absurd rfl c_8) (fun c_8 => ?_)
    refine lv_aload_n hx hb dL_law_903 rfl (lv_at hl 1 rfl) ?_
    refine lv_aload_n hx hb dL_law_904 rfl (lv_at hl 1 rfl) ?_
    refine lv_iload hx hb dL_law_905 (lv_at hl 23 rfl) ?_
    refine lv_iconst (v := 4) hx hb dL_law_907 (by decide) ?_
    refine xVi ha hP hS (y := yX7_pole) (As := [.int (nI ee), .int 4]) (rest := [.ref (G.1 0)]) 0 (by decide) (cX_0 G _) rfl rfl (c_X7_pole G l v2 (nI ee) 4 (J_PO hJ)) kw_L_105 hd_X7_pole rfl ⟨rfl, rfl⟩ ⟨Nat.le_of_ble_eq_true rfl, Nat.le_of_ble_eq_true rfl⟩ hcs hl.1 (Nat.le_of_ble_eq_true rfl) rfl dL_law_908 (fun r_9 v4 H locs hpq hP hS => ?_)
    obtain ⟨hr_, hu_⟩ := hpq
    have hq_ := q_pole hJ (pole_nI hpb he) (w := 4) (by decide)
    simp only [← hr_, ← hu_] at hq_
    clear hr_ hu_
    obtain ⟨h_r, t1, hJ, rs⟩ := hq_
    subst h_r
    refine xSi ha hP hS (y := yL_told) (As := [.ref (G.1 0), .int 1]) (rest := []) rfl (c_L_told1 G l v4  ) kw_L_101 hd_L_told rfl ⟨rfl, rfl⟩ ⟨Nat.le_of_ble_eq_true rfl, Nat.le_of_ble_eq_true rfl⟩ hcs hl.1 (Nat.le_of_ble_eq_true rfl) rfl dL_law_911 (fun r_10 v5 H locs hpq hP hS => ?_)
    obtain ⟨hr_, hu_⟩ := hpq
    have hu_ := hu_.symm
    subst hu_
    have hr_ := hr_.trans (t1.trans (pole_4 hpb he))
    have hr_ := hr_.symm
    subst hr_
    refine lv_aload_n hx hb dL_law_914 rfl (lv_at hl 1 rfl) ?_
    refine lv_iload hx hb dL_law_915 (lv_at hl 23 rfl) ?_
    refine lv_iload hx hb dL_law_917 (lv_at hl 24 rfl) ?_
    refine xVi ha hP hS (y := yX7_bears) (As := [.int (nI ee), .int (T 1 ee)]) (rest := [.int (a_bears P (nI ee) (T 1 ee))]) 0 (by decide) (cX_0 G _) rfl rfl (c_X7_bears G l v4 (nI ee) (T 1 ee) (J_PO hJ)) kw_L_114 hd_X7_bears rfl ⟨rfl, rfl⟩ ⟨Nat.le_of_ble_eq_true rfl, Nat.le_of_ble_eq_true rfl⟩ hcs hl.1 (Nat.le_of_ble_eq_true rfl) rfl dL_law_919 (fun r_11 v6 H locs hpq hP hS => ?_)
    obtain ⟨hr_, hu_⟩ := hpq
    have hu_ := hu_.symm
    subst hu_
    have hr_ := hr_.trans (q_bears hJ (pole_nI hpb he) (wear_i hg he))
    have hr_ := hr_.symm
    subst hr_
    refine lv_icmp_ne (tgt := 961) hx hb dL_law_922 (by decide) (fun c_12 => absurd rfl c_12) (fun c_12 => ?_)
    refine lv_aload_n hx hb dL_law_925 rfl (lv_at hl 1 rfl) ?_
    refine lv_iload hx hb dL_law_926 (lv_at hl 23 rfl) ?_
    refine lv_iload hx hb dL_law_928 (lv_at hl 24 rfl) ?_
    refine xVi ha hP hS (y := yX7_bears) (As := [.int (nI ee), .int (T 1 ee)]) (rest := []) 0 (by decide) (cX_0 G _) rfl rfl (c_X7_bears G l v4 (nI ee) (T 1 ee) (J_PO hJ)) kw_L_114 hd_X7_bears rfl ⟨rfl, rfl⟩ ⟨Nat.le_of_ble_eq_true rfl, Nat.le_of_ble_eq_true rfl⟩ hcs hl.1 (Nat.le_of_ble_eq_true rfl) rfl dL_law_930 (fun r_13 v7 H locs hpq hP hS => ?_)
    obtain ⟨hr_, hu_⟩ := hpq
    have hu_ := hu_.symm
    subst hu_
    have hr_ := hr_.trans (q_bears hJ (pole_nI hpb he) (wear_i hg he))
    have hr_ := hr_.symm
    subst hr_
    refine lv_if_lt (tgt := 961) hx hb dL_law_933 (by decide) (fun c_14 => absurd c_14 (nneg_i (bears_ge hg he))) (fun c_14 => ?_)
    refine lv_aload_n hx hb dL_law_936 rfl (lv_at hl 1 rfl) ?_
    refine lv_aload_n hx hb dL_law_937 rfl (lv_at hl 1 rfl) ?_
    refine lv_iload hx hb dL_law_938 (lv_at hl 23 rfl) ?_
    refine lv_bipush (v := 7) hx hb dL_law_940 (by decide) ?_
    refine xVi ha hP hS (y := yX7_pole) (As := [.int (nI ee), .int 7]) (rest := [.ref (G.1 0)]) 0 (by decide) (cX_0 G _) rfl rfl (c_X7_pole G l v4 (nI ee) 7 (J_PO hJ)) kw_L_105 hd_X7_pole rfl ⟨rfl, rfl⟩ ⟨Nat.le_of_ble_eq_true rfl, Nat.le_of_ble_eq_true rfl⟩ hcs hl.1 (Nat.le_of_ble_eq_true rfl) rfl dL_law_942 (fun r_15 v8 H locs hpq hP hS => ?_)
    obtain ⟨hr_, hu_⟩ := hpq
    have hq_ := q_pole hJ (pole_nI hpb he) (w := 7) (by decide)
    simp only [← hr_, ← hu_] at hq_
    clear hr_ hu_
    obtain ⟨h_r, t1, hJ, rs⟩ := hq_
    subst h_r
    refine xSi ha hP hS (y := yL_told) (As := [.ref (G.1 0), .int 1]) (rest := []) rfl (c_L_told1 G l v8  ) kw_L_101 hd_L_told rfl ⟨rfl, rfl⟩ ⟨Nat.le_of_ble_eq_true rfl, Nat.le_of_ble_eq_true rfl⟩ hcs hl.1 (Nat.le_of_ble_eq_true rfl) rfl dL_law_945 (fun r_16 v9 H locs hpq hP hS => ?_)
    obtain ⟨hr_, hu_⟩ := hpq
    have hu_ := hu_.symm
    subst hu_
    have hr_ := hr_.trans (t1.trans (pole_7 hpb he))
    have hr_ := hr_.symm
    subst hr_
    refine lv_aload_n hx hb dL_law_948 rfl (lv_at hl 1 rfl) ?_
    refine lv_iconst (v := 4) hx hb dL_law_949 (by decide) ?_
    refine xVi ha hP hS (y := yX7_count) (As := [.int 4]) (rest := [.int ((T 0 0 >>> (nI ee &&& 31)) &&& 1)]) 0 (by decide) (cX_0 G _) rfl rfl (c_X7_count G l v8 4 (J_PO hJ)) kw_L_42 hd_X7_count rfl ⟨rfl, rfl⟩ ⟨Nat.le_of_ble_eq_true rfl, Nat.le_of_ble_eq_true rfl⟩ hcs hl.1 (Nat.le_of_ble_eq_true rfl) rfl dL_law_950 (fun r_17 v10 H locs hpq hP hS => ?_)
    obtain ⟨hr_, hu_⟩ := hpq
    have hu_ := hu_.symm
    subst hu_
    have hr_ := hr_.trans (q_c4 hJ)
    have hr_ := hr_.symm
    subst hr_
    refine lv_iload hx hb dL_law_953 (lv_at hl 23 rfl) ?_
    refine lv_ishr hx hb dL_law_955 ?_
    refine lv_iconst (v := 1) hx hb dL_law_956 (by decide) ?_
    refine lv_iand hx hb dL_law_957 ?_
    refine lv_icmp_eq (tgt := 963) hx hb dL_law_958 (by decide) (fun c_18 => ?_) (fun c_18 => absurd rfl c_18)
    refine lv_iload hx hb dL_law_963 (lv_at hl 22 rfl) ?_
    refine lv_iload hx hb dL_law_965 (lv_at hl 25 rfl) ?_
    refine lw_iorE (z := (peTo P T (ee + 1))) hx hb dL_law_967 (who_join hpb he) ?_
    refine lv_istore (lv' := [(25, .int (peTo P T (ee + 1))), (0, .ref (G.1 1000)), (1, .ref (G.1 0)), (2, .ref (G.1 72)), (3, .ref (G.1 73)), (4, .int (nI (nPl P))), (5, .int (nI (nPe P))), (6, .int (nI T6)), (7, .int (nI c7)), (8, .int x8), (9, .int (nI D)), (10, .int (S 0 1)), (11, .int (S 0 0)), (12, .int (a_seatedPeople P S)), (13, .int (a_highAll P S)), (14, .int (S 0 2)), (15, .int (nI i)), (16, .int (nI k)), (17, .int (S 2 i)), (18, .int (a_load P S (nI k))), (19, .int (S 1 k)), (23, .int (nI dn)), (24, .int (hiTo P T (ee + 1))), (26, .int (nI ee)), (27, .int (T 1 ee)), (28, .int (a_sitters P T (nI ee))), (29, .int (a_load P T (nI ee)))]) hx hb dL_law_968 hl (by decide) rfl (fun ls hl => ?_)
    refine lv_iinc (v := nI (ee + 1)) (lv' := [(26, .int (nI (ee + 1))), (25, .int (peTo P T (ee + 1))), (0, .ref (G.1 1000)), (1, .ref (G.1 0)), (2, .ref (G.1 72)), (3, .ref (G.1 73)), (4, .int (nI (nPl P))), (5, .int (nI (nPe P))), (6, .int (nI T6)), (7, .int (nI c7)), (8, .int x8), (9, .int (nI D)), (10, .int (S 0 1)), (11, .int (S 0 0)), (12, .int (a_seatedPeople P S)), (13, .int (a_highAll P S)), (14, .int (S 0 2)), (15, .int (nI i)), (16, .int (nI k)), (17, .int (S 2 i)), (18, .int (a_load P S (nI k))), (19, .int (S 1 k)), (23, .int (nI dn)), (24, .int (hiTo P T (ee + 1))), (27, .int (T 1 ee)), (28, .int (a_sitters P T (nI ee))), (29, .int (a_load P T (nI ee)))]) hx hb dL_law_970 hl (k := 23) rfl (nI_1 ee) (by decide) rfl (fun ls hl => ?_)
    refine lv_goto (tgt := 722) hx hb dL_law_973 (by decide) ?_
    exact kk v8  _ _ _ hJ hP hS (lv_sub hl [2, 3, 4, 5, 6, 7, 8, 9, 10, 11, 12, 13, 14, 15, 16, 17, 18, 19, 20, 21, 22, 23, 1, 0] rfl)
  · have hc_871 := c_4
    refine lv_iload hx hb dL_law_874 (lv_at hl 25 rfl) ?_
    refine lv_if_ne (tgt := 961) hx hb dL_law_876 (by decide) (fun c_19 => absurd (down_who hg he hc_871) c_19) (fun c_19 => ?_)
    refine lv_iload hx hb dL_law_879 (lv_at hl 22 rfl) ?_
    refine lv_iload hx hb dL_law_881 (lv_at hl 25 rfl) ?_
    refine lv_iand hx hb dL_law_883 ?_
    refine lv_if_ne (tgt := 961) hx hb dL_law_884 (by decide) (fun c_20 => absurd (who_apart hpb he) c_20) (fun c_20 => ?_)
    refine lv_aload_n hx hb dL_law_887 rfl (lv_at hl 1 rfl) ?_
    refine lv_aload_n hx hb dL_law_888 rfl (lv_at hl 1 rfl) ?_
    refine lv_iload hx hb dL_law_889 (lv_at hl 23 rfl) ?_
    refine lv_iconst (v := 5) hx hb dL_law_891 (by decide) ?_
    refine xVi ha hP hS (y := yX7_pole) (As := [.int (nI ee), .int 5]) (rest := [.ref (G.1 0)]) 0 (by decide) (cX_0 G _) rfl rfl (c_X7_pole G l u (nI ee) 5 (J_PO hJ)) kw_L_105 hd_X7_pole rfl ⟨rfl, rfl⟩ ⟨Nat.le_of_ble_eq_true rfl, Nat.le_of_ble_eq_true rfl⟩ hcs hl.1 (Nat.le_of_ble_eq_true rfl) rfl dL_law_892 (fun r_21 v11 H locs hpq hP hS => ?_)
    obtain ⟨hr_, hu_⟩ := hpq
    have hq_ := q_pole hJ (pole_nI hpb he) (w := 5) (by decide)
    simp only [← hr_, ← hu_] at hq_
    clear hr_ hu_
    obtain ⟨h_r, t1, hJ, rs⟩ := hq_
    subst h_r
    refine xSi ha hP hS (y := yL_told) (As := [.ref (G.1 0), .int 1]) (rest := []) rfl (c_L_told1 G l v11  ) kw_L_101 hd_L_told rfl ⟨rfl, rfl⟩ ⟨Nat.le_of_ble_eq_true rfl, Nat.le_of_ble_eq_true rfl⟩ hcs hl.1 (Nat.le_of_ble_eq_true rfl) rfl dL_law_895 (fun r_22 v12 H locs hpq hP hS => ?_)
    obtain ⟨hr_, hu_⟩ := hpq
    have hu_ := hu_.symm
    subst hu_
    have hr_ := hr_.trans (t1.trans (pole_5 hpb he))
    have hr_ := hr_.symm
    subst hr_
    refine lv_iload hx hb dL_law_898 (lv_at hl 26 rfl) ?_
    refine lv_icmp_ne (tgt := 961) hx hb dL_law_900 (by decide) (fun c_23 => absurd rfl c_23) (fun c_23 => ?_)
    refine lv_aload_n hx hb dL_law_903 rfl (lv_at hl 1 rfl) ?_
    refine lv_aload_n hx hb dL_law_904 rfl (lv_at hl 1 rfl) ?_
    refine lv_iload hx hb dL_law_905 (lv_at hl 23 rfl) ?_
    refine lv_iconst (v := 4) hx hb dL_law_907 (by decide) ?_
    refine xVi ha hP hS (y := yX7_pole) (As := [.int (nI ee), .int 4]) (rest := [.ref (G.1 0)]) 0 (by decide) (cX_0 G _) rfl rfl (c_X7_pole G l v11 (nI ee) 4 (J_PO hJ)) kw_L_105 hd_X7_pole rfl ⟨rfl, rfl⟩ ⟨Nat.le_of_ble_eq_true rfl, Nat.le_of_ble_eq_true rfl⟩ hcs hl.1 (Nat.le_of_ble_eq_true rfl) rfl dL_law_908 (fun r_24 v13 H locs hpq hP hS => ?_)
    obtain ⟨hr_, hu_⟩ := hpq
    have hq_ := q_pole hJ (pole_nI hpb he) (w := 4) (by decide)
    simp only [← hr_, ← hu_] at hq_
    clear hr_ hu_
    obtain ⟨h_r, t1, hJ, rs⟩ := hq_
    subst h_r
    refine xSi ha hP hS (y := yL_told) (As := [.ref (G.1 0), .int 1]) (rest := []) rfl (c_L_told1 G l v13  ) kw_L_101 hd_L_told rfl ⟨rfl, rfl⟩ ⟨Nat.le_of_ble_eq_true rfl, Nat.le_of_ble_eq_true rfl⟩ hcs hl.1 (Nat.le_of_ble_eq_true rfl) rfl dL_law_911 (fun r_25 v14 H locs hpq hP hS => ?_)
    obtain ⟨hr_, hu_⟩ := hpq
    have hu_ := hu_.symm
    subst hu_
    have hr_ := hr_.trans (t1.trans (pole_4 hpb he))
    have hr_ := hr_.symm
    subst hr_
    refine lv_aload_n hx hb dL_law_914 rfl (lv_at hl 1 rfl) ?_
    refine lv_iload hx hb dL_law_915 (lv_at hl 23 rfl) ?_
    refine lv_iload hx hb dL_law_917 (lv_at hl 24 rfl) ?_
    refine xVi ha hP hS (y := yX7_bears) (As := [.int (nI ee), .int (T 1 ee)]) (rest := [.int (a_bears P (nI ee) (T 1 ee))]) 0 (by decide) (cX_0 G _) rfl rfl (c_X7_bears G l v13 (nI ee) (T 1 ee) (J_PO hJ)) kw_L_114 hd_X7_bears rfl ⟨rfl, rfl⟩ ⟨Nat.le_of_ble_eq_true rfl, Nat.le_of_ble_eq_true rfl⟩ hcs hl.1 (Nat.le_of_ble_eq_true rfl) rfl dL_law_919 (fun r_26 v15 H locs hpq hP hS => ?_)
    obtain ⟨hr_, hu_⟩ := hpq
    have hu_ := hu_.symm
    subst hu_
    have hr_ := hr_.trans (q_bears hJ (pole_nI hpb he) (wear_i hg he))
    have hr_ := hr_.symm
    subst hr_
    refine lv_icmp_ne (tgt := 961) hx hb dL_law_922 (by decide) (fun c_27 => absurd rfl c_27) (fun c_27 => ?_)
    refine lv_aload_n hx hb dL_law_925 rfl (lv_at hl 1 rfl) ?_
    refine lv_iload hx hb dL_law_926 (lv_at hl 23 rfl) ?_
    refine lv_iload hx hb dL_law_928 (lv_at hl 24 rfl) ?_
    refine xVi ha hP hS (y := yX7_bears) (As := [.int (nI ee), .int (T 1 ee)]) (rest := []) 0 (by decide) (cX_0 G _) rfl rfl (c_X7_bears G l v13 (nI ee) (T 1 ee) (J_PO hJ)) kw_L_114 hd_X7_bears rfl ⟨rfl, rfl⟩ ⟨Nat.le_of_ble_eq_true rfl, Nat.le_of_ble_eq_true rfl⟩ hcs hl.1 (Nat.le_of_ble_eq_true rfl) rfl dL_law_930 (fun r_28 v16 H locs hpq hP hS => ?_)
    obtain ⟨hr_, hu_⟩ := hpq
    have hu_ := hu_.symm
    subst hu_
    have hr_ := hr_.trans (q_bears hJ (pole_nI hpb he) (wear_i hg he))
    have hr_ := hr_.symm
    subst hr_
    refine lv_if_lt (tgt := 961) hx hb dL_law_933 (by decide) (fun c_29 => absurd c_29 (nneg_i (bears_ge hg he))) (fun c_29 => ?_)
    refine lv_aload_n hx hb dL_law_936 rfl (lv_at hl 1 rfl) ?_
    refine lv_aload_n hx hb dL_law_937 rfl (lv_at hl 1 rfl) ?_
    refine lv_iload hx hb dL_law_938 (lv_at hl 23 rfl) ?_
    refine lv_bipush (v := 7) hx hb dL_law_940 (by decide) ?_
    refine xVi ha hP hS (y := yX7_pole) (As := [.int (nI ee), .int 7]) (rest := [.ref (G.1 0)]) 0 (by decide) (cX_0 G _) rfl rfl (c_X7_pole G l v13 (nI ee) 7 (J_PO hJ)) kw_L_105 hd_X7_pole rfl ⟨rfl, rfl⟩ ⟨Nat.le_of_ble_eq_true rfl, Nat.le_of_ble_eq_true rfl⟩ hcs hl.1 (Nat.le_of_ble_eq_true rfl) rfl dL_law_942 (fun r_30 v17 H locs hpq hP hS => ?_)
    obtain ⟨hr_, hu_⟩ := hpq
    have hq_ := q_pole hJ (pole_nI hpb he) (w := 7) (by decide)
    simp only [← hr_, ← hu_] at hq_
    clear hr_ hu_
    obtain ⟨h_r, t1, hJ, rs⟩ := hq_
    subst h_r
    refine xSi ha hP hS (y := yL_told) (As := [.ref (G.1 0), .int 1]) (rest := []) rfl (c_L_told1 G l v17  ) kw_L_101 hd_L_told rfl ⟨rfl, rfl⟩ ⟨Nat.le_of_ble_eq_true rfl, Nat.le_of_ble_eq_true rfl⟩ hcs hl.1 (Nat.le_of_ble_eq_true rfl) rfl dL_law_945 (fun r_31 v18 H locs hpq hP hS => ?_)
    obtain ⟨hr_, hu_⟩ := hpq
    have hu_ := hu_.symm
    subst hu_
    have hr_ := hr_.trans (t1.trans (pole_7 hpb he))
    have hr_ := hr_.symm
    subst hr_
    refine lv_aload_n hx hb dL_law_948 rfl (lv_at hl 1 rfl) ?_
    refine lv_iconst (v := 4) hx hb dL_law_949 (by decide) ?_
    refine xVi ha hP hS (y := yX7_count) (As := [.int 4]) (rest := [.int ((T 0 0 >>> (nI ee &&& 31)) &&& 1)]) 0 (by decide) (cX_0 G _) rfl rfl (c_X7_count G l v17 4 (J_PO hJ)) kw_L_42 hd_X7_count rfl ⟨rfl, rfl⟩ ⟨Nat.le_of_ble_eq_true rfl, Nat.le_of_ble_eq_true rfl⟩ hcs hl.1 (Nat.le_of_ble_eq_true rfl) rfl dL_law_950 (fun r_32 v19 H locs hpq hP hS => ?_)
    obtain ⟨hr_, hu_⟩ := hpq
    have hu_ := hu_.symm
    subst hu_
    have hr_ := hr_.trans (q_c4 hJ)
    have hr_ := hr_.symm
    subst hr_
    refine lv_iload hx hb dL_law_953 (lv_at hl 23 rfl) ?_
    refine lv_ishr hx hb dL_law_955 ?_
    refine lv_iconst (v := 1) hx hb dL_law_956 (by decide) ?_
    refine lv_iand hx hb dL_law_957 ?_
    refine lv_icmp_eq (tgt := 963) hx hb dL_law_958 (by decide) (fun c_33 => ?_) (fun c_33 => absurd rfl c_33)
    refine lv_iload hx hb dL_law_963 (lv_at hl 22 rfl) ?_
    refine lv_iload hx hb dL_law_965 (lv_at hl 25 rfl) ?_
    refine lw_iorE (z := (peTo P T (ee + 1))) hx hb dL_law_967 (who_join hpb he) ?_
    refine lv_istore (lv' := [(25, .int (peTo P T (ee + 1))), (0, .ref (G.1 1000)), (1, .ref (G.1 0)), (2, .ref (G.1 72)), (3, .ref (G.1 73)), (4, .int (nI (nPl P))), (5, .int (nI (nPe P))), (6, .int (nI T6)), (7, .int (nI c7)), (8, .int x8), (9, .int (nI D)), (10, .int (S 0 1)), (11, .int (S 0 0)), (12, .int (a_seatedPeople P S)), (13, .int (a_highAll P S)), (14, .int (S 0 2)), (15, .int (nI i)), (16, .int (nI k)), (17, .int (S 2 i)), (18, .int (a_load P S (nI k))), (19, .int (S 1 k)), (23, .int (nI dn)), (24, .int (hiTo P T (ee + 1))), (26, .int (nI ee)), (27, .int (T 1 ee)), (28, .int (a_sitters P T (nI ee))), (29, .int (a_load P T (nI ee)))]) hx hb dL_law_968 hl (by decide) rfl (fun ls hl => ?_)
    refine lv_iinc (v := nI (ee + 1)) (lv' := [(26, .int (nI (ee + 1))), (25, .int (peTo P T (ee + 1))), (0, .ref (G.1 1000)), (1, .ref (G.1 0)), (2, .ref (G.1 72)), (3, .ref (G.1 73)), (4, .int (nI (nPl P))), (5, .int (nI (nPe P))), (6, .int (nI T6)), (7, .int (nI c7)), (8, .int x8), (9, .int (nI D)), (10, .int (S 0 1)), (11, .int (S 0 0)), (12, .int (a_seatedPeople P S)), (13, .int (a_highAll P S)), (14, .int (S 0 2)), (15, .int (nI i)), (16, .int (nI k)), (17, .int (S 2 i)), (18, .int (a_load P S (nI k))), (19, .int (S 1 k)), (23, .int (nI dn)), (24, .int (hiTo P T (ee + 1))), (27, .int (T 1 ee)), (28, .int (a_sitters P T (nI ee))), (29, .int (a_load P T (nI ee)))]) hx hb dL_law_970 hl (k := 23) rfl (nI_1 ee) (by decide) rfl (fun ls hl => ?_)
    refine lv_goto (tgt := 722) hx hb dL_law_973 (by decide) ?_
    exact kk v17  _ _ _ hJ hP hS (lv_sub hl [2, 3, 4, 5, 6, 7, 8, 9, 10, 11, 12, 13, 14, 15, 16, 17, 18, 19, 20, 21, 22, 23, 1, 0] rfl)
set_option maxHeartbeats 4000000 in
set_option maxRecDepth 100000 in
theorem seg_976 (ha : Amb p c cL_law 31 s args RL m meth (some .boolean) G 74) (hcs : cells ≤ room_1.cells ∧ slots ≤ room_1.slots) (P : PT) (Z : Nat → Int32) (K : KT) (S : PT) (T : PT) (D : Nat) (D1 : Nat) (C1 : Nat → Int32) (dn : Nat) (x8 : Int32) (i : Nat) (k : Nat) (hw : Nat) (T6 : Nat) (c7 : Nat) (C : Nat → Int32) {u : Mem} (hN : NV P Z) (hJ : J P Z K T D1 C1 u) (hdn : dn ≤ 1) (hD1 : D1 = D + dn) (hDc : D ≤ c7) (hC1 : ∀ j, j < D → C1 j = C j) (hrp : SEq P (rplP P C D) S) (hi : i < nPe P) (hk : k < nPl P) (hP : va_P G.2.1 vwCl (wl G 74 (cX G u)) H) (hS : va_S (xA G 74 s.heap.size) s.heap H locs) (hl : lv_has ls 31 [(0, .ref (G.1 1000)), (1, .ref (G.1 0)), (2, .ref (G.1 72)), (3, .ref (G.1 73)), (4, .int (nI (nPl P))), (5, .int (nI (nPe P))), (6, .int (nI T6)), (7, .int (nI c7)), (8, .int x8), (9, .int (nI D)), (10, .int (S 0 1)), (11, .int (S 0 0)), (12, .int (a_seatedPeople P S)), (13, .int (a_highAll P S)), (14, .int (S 0 2)), (15, .int (nI i)), (16, .int (nI k)), (17, .int (S 2 i)), (18, .int (a_load P S (nI k))), (19, .int (S 1 k)), (23, .int (nI dn)), (24, .int (a_highAll P T)), (25, .int (a_seatedPeople P T))])
    (kk : ∀ (v : Mem)  (H : Heap) (locs : List Loc) (ls : Array Slot), (LH P Z K (c7 + 1) v) → va_P G.2.1 vwCl (wl G 74 (cX G v)) H → va_S (xA G 74 s.heap.size) s.heap H locs → lv_has ls 31 [(0, .ref (G.1 1000)), (1, .ref (G.1 0)), (2, .ref (G.1 72)), (3, .ref (G.1 73)), (4, .int (nI (nPl P))), (5, .int (nI (nPe P))), (6, .int (nI T6)), (7, .int (nI c7))] → W p l e room_1 s m args below meth c H locs cells slots Q (F0 m 1141 ls [])) : W p l e room_1 s m args below meth c H locs cells slots Q (F0 m 976 ls []) := by
  have hx := ha.1
  have hb := ha.2.1
  obtain ⟨h4, h5⟩ := NV_45 hJ
  have hp0 := hN.1.1
  have hq0 := hN.1.2
  have hpb := (J_plan hJ).1
  have hpr := (J_plan hJ).2
  have hg := J_gs hJ
  refine lv_iload hx hb dL_law_976 (lv_at hl 22 rfl) ?_
  refine lv_aload_n hx hb dL_law_978 rfl (lv_at hl 1 rfl) ?_
  refine lv_iconst (v := 5) hx hb dL_law_979 (by decide) ?_
  refine xVi ha hP hS (y := yX7_count) (As := [.int 5]) (rest := [.int (a_seatedPeople P T)]) 0 (by decide) (cX_0 G _) rfl rfl (c_X7_count G l u 5 (J_PO hJ)) kw_L_42 hd_X7_count rfl ⟨rfl, rfl⟩ ⟨Nat.le_of_ble_eq_true rfl, Nat.le_of_ble_eq_true rfl⟩ hcs hl.1 (Nat.le_of_ble_eq_true rfl) rfl dL_law_980 (fun r_1 v1 H locs hpq hP hS => ?_)
  obtain ⟨hr_, hu_⟩ := hpq
  have hu_ := hu_.symm
  subst hu_
  have hr_ := hr_.trans (q_c5 hJ)
  have hr_ := hr_.symm
  subst hr_
  refine lv_icmp_ne (tgt := 997) hx hb dL_law_983 (by decide) (fun c_2 => absurd rfl c_2) (fun c_2 => ?_)
  refine lv_iload hx hb dL_law_986 (lv_at hl 21 rfl) ?_
  refine lv_aload_n hx hb dL_law_988 rfl (lv_at hl 1 rfl) ?_
  refine lv_bipush (v := 6) hx hb dL_law_989 (by decide) ?_
  refine xVi ha hP hS (y := yX7_count) (As := [.int 6]) (rest := [.int (a_highAll P T)]) 0 (by decide) (cX_0 G _) rfl rfl (c_X7_count G l u 6 (J_PO hJ)) kw_L_42 hd_X7_count rfl ⟨rfl, rfl⟩ ⟨Nat.le_of_ble_eq_true rfl, Nat.le_of_ble_eq_true rfl⟩ hcs hl.1 (Nat.le_of_ble_eq_true rfl) rfl dL_law_991 (fun r_3 v2 H locs hpq hP hS => ?_)
  obtain ⟨hr_, hu_⟩ := hpq
  have hu_ := hu_.symm
  subst hu_
  have hr_ := hr_.trans (q_c6 hJ)
  have hr_ := hr_.symm
  subst hr_
  refine lv_icmp_eq (tgt := 999) hx hb dL_law_994 (by decide) (fun c_4 => ?_) (fun c_4 => absurd rfl c_4)
  refine lv_iload hx hb dL_law_999 (lv_at hl 20 rfl) ?_
  refine lv_if_eq (tgt := 1141) hx hb dL_law_1001 (by decide) (fun c_5 => ?_) (fun c_5 => ?_)
  · have hc_1001 := c_5
    exact kk u  _ _ _ (⟨T, D1, C1, hJ, by omega⟩) hP hS (lv_sub hl [0, 1, 2, 3, 4, 5, 6, 7] rfl)
  · have hc_1001 := c_5
    have hd1 := dn_one hdn hc_1001
    refine lv_iload hx hb dL_law_1004 (lv_at hl 8 rfl) ?_
    refine lv_bipush (v := 20) hx hb dL_law_1006 (by decide) ?_
    refine lv_ishr hx hb dL_law_1008 ?_
    refine lv_iconst (v := 4) hx hb dL_law_1009 (by decide) ?_
    refine xSi ha hP hS (y := yL_part) (As := [.int (x8 >>> (20 &&& 31)), .int 4]) (rest := []) rfl (c_L_part G l u (x8 >>> (20 &&& 31)) 4 (by decide)) kw_L_21 hd_L_part rfl ⟨rfl, rfl⟩ ⟨Nat.le_of_ble_eq_true rfl, Nat.le_of_ble_eq_true rfl⟩ hcs hl.1 (Nat.le_of_ble_eq_true rfl) rfl dL_law_1010 (fun r_6 v3 H locs hpq hP hS => ?_)
    obtain ⟨hr_, hu_⟩ := hpq
    have hu_ := hu_.symm
    subst hu_
    refine lv_if_le (tgt := 1019) hx hb dL_law_1013 (by decide) (fun c_7 => ?_) (fun c_7 => ?_)
    · have hc_1013 := c_7
      refine lv_aload_n hx hb dL_law_1019 rfl (lv_at hl 1 rfl) ?_
      refine lv_iload hx hb dL_law_1020 (lv_at hl 9 rfl) ?_
      refine xVi ha hP hS (y := yX7_undo) (As := [.int (nI D)]) (rest := []) 0 (by decide) (cX_0 G _) rfl rfl (c_X7_undo G l u (nI D) (J_PO hJ)) kw_L_116 hd_X7_undo rfl ⟨rfl, rfl⟩ ⟨Nat.le_of_ble_eq_true rfl, Nat.le_of_ble_eq_true rfl⟩ hcs hl.1 (Nat.le_of_ble_eq_true rfl) rfl dL_law_1022 (fun r_8 v4 H locs hpq hP hS => ?_)
      obtain ⟨hr_, hu_⟩ := hpq
      have hq_ := q_undo_r hrp hJ (by omega) hC1
      simp only [← hr_, ← hu_] at hq_
      clear hr_ hu_
      obtain ⟨h_r, hJ, rs⟩ := hq_
      subst h_r
      refine lv_iconst (v := 1) hx hb dL_law_1025 (by decide) ?_
      refine lv_icmp_ne (tgt := 1139) hx hb dL_law_1026 (by decide) (fun c_9 => absurd (by rw [show D1 - D = 1 by omega]; rfl) c_9) (fun c_9 => ?_)
      refine lv_aload_n hx hb dL_law_1029 rfl (lv_at hl 1 rfl) ?_
      refine lv_iconst (v := 2) hx hb dL_law_1030 (by decide) ?_
      refine xVi ha hP hS (y := yX7_count) (As := [.int 2]) (rest := []) 0 (by decide) (cX_0 G _) rfl rfl (c_X7_count G l v4 2 (J_PO hJ)) kw_L_42 hd_X7_count rfl ⟨rfl, rfl⟩ ⟨Nat.le_of_ble_eq_true rfl, Nat.le_of_ble_eq_true rfl⟩ hcs hl.1 (Nat.le_of_ble_eq_true rfl) rfl dL_law_1031 (fun r_10 v5 H locs hpq hP hS => ?_)
      obtain ⟨hr_, hu_⟩ := hpq
      have hu_ := hu_.symm
      subst hu_
      have hr_ := hr_.trans (q_c2 hJ)
      have hr_ := hr_.symm
      subst hr_
      refine lv_iload hx hb dL_law_1034 (lv_at hl 9 rfl) ?_
      refine lv_icmp_ne (tgt := 1139) hx hb dL_law_1036 (by decide) (fun c_11 => absurd rfl c_11) (fun c_11 => ?_)
      refine lv_aload_n hx hb dL_law_1039 rfl (lv_at hl 1 rfl) ?_
      refine lv_iconst (v := 3) hx hb dL_law_1040 (by decide) ?_
      refine xVi ha hP hS (y := yX7_count) (As := [.int 3]) (rest := []) 0 (by decide) (cX_0 G _) rfl rfl (c_X7_count G l v4 3 (J_PO hJ)) kw_L_42 hd_X7_count rfl ⟨rfl, rfl⟩ ⟨Nat.le_of_ble_eq_true rfl, Nat.le_of_ble_eq_true rfl⟩ hcs hl.1 (Nat.le_of_ble_eq_true rfl) rfl dL_law_1041 (fun r_12 v6 H locs hpq hP hS => ?_)
      obtain ⟨hr_, hu_⟩ := hpq
      have hu_ := hu_.symm
      subst hu_
      have hr_ := hr_.trans (q_c3 hJ)
      have hr_ := hr_.symm
      subst hr_
      refine lv_iload hx hb dL_law_1044 (lv_at hl 10 rfl) ?_
      refine lv_icmp_ne (tgt := 1139) hx hb dL_law_1046 (by decide) (fun c_13 => absurd rfl c_13) (fun c_13 => ?_)
      refine lv_aload_n hx hb dL_law_1049 rfl (lv_at hl 1 rfl) ?_
      refine lv_iconst (v := 4) hx hb dL_law_1050 (by decide) ?_
      refine xVi ha hP hS (y := yX7_count) (As := [.int 4]) (rest := []) 0 (by decide) (cX_0 G _) rfl rfl (c_X7_count G l v4 4 (J_PO hJ)) kw_L_42 hd_X7_count rfl ⟨rfl, rfl⟩ ⟨Nat.le_of_ble_eq_true rfl, Nat.le_of_ble_eq_true rfl⟩ hcs hl.1 (Nat.le_of_ble_eq_true rfl) rfl dL_law_1051 (fun r_14 v7 H locs hpq hP hS => ?_)
      obtain ⟨hr_, hu_⟩ := hpq
      have hu_ := hu_.symm
      subst hu_
      have hr_ := hr_.trans (q_c4 hJ)
      have hr_ := hr_.symm
      subst hr_
      refine lv_iload hx hb dL_law_1054 (lv_at hl 11 rfl) ?_
      refine lv_icmp_ne (tgt := 1139) hx hb dL_law_1056 (by decide) (fun c_15 => absurd rfl c_15) (fun c_15 => ?_)
      refine lv_aload_n hx hb dL_law_1059 rfl (lv_at hl 1 rfl) ?_
      refine lv_iconst (v := 5) hx hb dL_law_1060 (by decide) ?_
      refine xVi ha hP hS (y := yX7_count) (As := [.int 5]) (rest := []) 0 (by decide) (cX_0 G _) rfl rfl (c_X7_count G l v4 5 (J_PO hJ)) kw_L_42 hd_X7_count rfl ⟨rfl, rfl⟩ ⟨Nat.le_of_ble_eq_true rfl, Nat.le_of_ble_eq_true rfl⟩ hcs hl.1 (Nat.le_of_ble_eq_true rfl) rfl dL_law_1061 (fun r_16 v8 H locs hpq hP hS => ?_)
      obtain ⟨hr_, hu_⟩ := hpq
      have hu_ := hu_.symm
      subst hu_
      have hr_ := hr_.trans (q_c5 hJ)
      have hr_ := hr_.symm
      subst hr_
      refine lv_iload hx hb dL_law_1064 (lv_at hl 12 rfl) ?_
      refine lv_icmp_ne (tgt := 1139) hx hb dL_law_1066 (by decide) (fun c_17 => absurd rfl c_17) (fun c_17 => ?_)
      refine lv_aload_n hx hb dL_law_1069 rfl (lv_at hl 1 rfl) ?_
      refine lv_bipush (v := 6) hx hb dL_law_1070 (by decide) ?_
      refine xVi ha hP hS (y := yX7_count) (As := [.int 6]) (rest := []) 0 (by decide) (cX_0 G _) rfl rfl (c_X7_count G l v4 6 (J_PO hJ)) kw_L_42 hd_X7_count rfl ⟨rfl, rfl⟩ ⟨Nat.le_of_ble_eq_true rfl, Nat.le_of_ble_eq_true rfl⟩ hcs hl.1 (Nat.le_of_ble_eq_true rfl) rfl dL_law_1072 (fun r_18 v9 H locs hpq hP hS => ?_)
      obtain ⟨hr_, hu_⟩ := hpq
      have hu_ := hu_.symm
      subst hu_
      have hr_ := hr_.trans (q_c6 hJ)
      have hr_ := hr_.symm
      subst hr_
      refine lv_iload hx hb dL_law_1075 (lv_at hl 13 rfl) ?_
      refine lv_icmp_ne (tgt := 1139) hx hb dL_law_1077 (by decide) (fun c_19 => absurd rfl c_19) (fun c_19 => ?_)
      refine lv_aload_n hx hb dL_law_1080 rfl (lv_at hl 1 rfl) ?_
      refine lv_bipush (v := 7) hx hb dL_law_1081 (by decide) ?_
      refine xVi ha hP hS (y := yX7_count) (As := [.int 7]) (rest := []) 0 (by decide) (cX_0 G _) rfl rfl (c_X7_count G l v4 7 (J_PO hJ)) kw_L_42 hd_X7_count rfl ⟨rfl, rfl⟩ ⟨Nat.le_of_ble_eq_true rfl, Nat.le_of_ble_eq_true rfl⟩ hcs hl.1 (Nat.le_of_ble_eq_true rfl) rfl dL_law_1083 (fun r_20 v10 H locs hpq hP hS => ?_)
      obtain ⟨hr_, hu_⟩ := hpq
      have hu_ := hu_.symm
      subst hu_
      have hr_ := hr_.trans (q_c7 hJ)
      have hr_ := hr_.symm
      subst hr_
      refine lv_iload hx hb dL_law_1086 (lv_at hl 14 rfl) ?_
      refine lv_icmp_ne (tgt := 1139) hx hb dL_law_1088 (by decide) (fun c_21 => absurd rfl c_21) (fun c_21 => ?_)
      refine lv_aload_n hx hb dL_law_1091 rfl (lv_at hl 1 rfl) ?_
      refine lv_aload_n hx hb dL_law_1092 rfl (lv_at hl 1 rfl) ?_
      refine lv_iload hx hb dL_law_1093 (lv_at hl 15 rfl) ?_
      refine lv_iconst (v := 2) hx hb dL_law_1095 (by decide) ?_
      refine xVi ha hP hS (y := yX7_one) (As := [.int (nI i), .int 2]) (rest := [.ref (G.1 0)]) 0 (by decide) (cX_0 G _) rfl rfl (c_X7_one G l v4 (nI i) 2 (J_PO hJ)) kw_L_98 hd_X7_one rfl ⟨rfl, rfl⟩ ⟨Nat.le_of_ble_eq_true rfl, Nat.le_of_ble_eq_true rfl⟩ hcs hl.1 (Nat.le_of_ble_eq_true rfl) rfl dL_law_1096 (fun r_22 v11 H locs hpq hP hS => ?_)
      obtain ⟨hr_, hu_⟩ := hpq
      have hq_ := q_one hJ (one_nI hpb hi) (w := 2) (by decide)
      simp only [← hr_, ← hu_] at hq_
      clear hr_ hu_
      obtain ⟨h_r, t1, hJ, rs⟩ := hq_
      subst h_r
      refine xSi ha hP hS (y := yL_told) (As := [.ref (G.1 0), .int 1]) (rest := []) rfl (c_L_told1 G l v11  ) kw_L_101 hd_L_told rfl ⟨rfl, rfl⟩ ⟨Nat.le_of_ble_eq_true rfl, Nat.le_of_ble_eq_true rfl⟩ hcs hl.1 (Nat.le_of_ble_eq_true rfl) rfl dL_law_1099 (fun r_23 v12 H locs hpq hP hS => ?_)
      obtain ⟨hr_, hu_⟩ := hpq
      have hu_ := hu_.symm
      subst hu_
      have hr_ := hr_.trans (t1.trans (one_2 hpb hi))
      have hr_ := hr_.symm
      subst hr_
      refine lv_iload hx hb dL_law_1102 (lv_at hl 17 rfl) ?_
      refine lv_icmp_ne (tgt := 1139) hx hb dL_law_1104 (by decide) (fun c_24 => absurd rfl c_24) (fun c_24 => ?_)
      refine lv_aload_n hx hb dL_law_1107 rfl (lv_at hl 1 rfl) ?_
      refine lv_aload_n hx hb dL_law_1108 rfl (lv_at hl 1 rfl) ?_
      refine lv_iload hx hb dL_law_1109 (lv_at hl 16 rfl) ?_
      refine lv_iconst (v := 5) hx hb dL_law_1111 (by decide) ?_
      refine xVi ha hP hS (y := yX7_pole) (As := [.int (nI k), .int 5]) (rest := [.ref (G.1 0)]) 0 (by decide) (cX_0 G _) rfl rfl (c_X7_pole G l v11 (nI k) 5 (J_PO hJ)) kw_L_105 hd_X7_pole rfl ⟨rfl, rfl⟩ ⟨Nat.le_of_ble_eq_true rfl, Nat.le_of_ble_eq_true rfl⟩ hcs hl.1 (Nat.le_of_ble_eq_true rfl) rfl dL_law_1112 (fun r_25 v13 H locs hpq hP hS => ?_)
      obtain ⟨hr_, hu_⟩ := hpq
      have hq_ := q_pole hJ (pole_nI hpb hk) (w := 5) (by decide)
      simp only [← hr_, ← hu_] at hq_
      clear hr_ hu_
      obtain ⟨h_r, t1, hJ, rs⟩ := hq_
      subst h_r
      refine xSi ha hP hS (y := yL_told) (As := [.ref (G.1 0), .int 1]) (rest := []) rfl (c_L_told1 G l v13  ) kw_L_101 hd_L_told rfl ⟨rfl, rfl⟩ ⟨Nat.le_of_ble_eq_true rfl, Nat.le_of_ble_eq_true rfl⟩ hcs hl.1 (Nat.le_of_ble_eq_true rfl) rfl dL_law_1115 (fun r_26 v14 H locs hpq hP hS => ?_)
      obtain ⟨hr_, hu_⟩ := hpq
      have hu_ := hu_.symm
      subst hu_
      have hr_ := hr_.trans (t1.trans (pole_5 hpb hk))
      have hr_ := hr_.symm
      subst hr_
      refine lv_iload hx hb dL_law_1118 (lv_at hl 18 rfl) ?_
      refine lv_icmp_ne (tgt := 1139) hx hb dL_law_1120 (by decide) (fun c_27 => absurd rfl c_27) (fun c_27 => ?_)
      refine lv_aload_n hx hb dL_law_1123 rfl (lv_at hl 1 rfl) ?_
      refine lv_aload_n hx hb dL_law_1124 rfl (lv_at hl 1 rfl) ?_
      refine lv_iload hx hb dL_law_1125 (lv_at hl 16 rfl) ?_
      refine lv_iconst (v := 3) hx hb dL_law_1127 (by decide) ?_
      refine xVi ha hP hS (y := yX7_pole) (As := [.int (nI k), .int 3]) (rest := [.ref (G.1 0)]) 0 (by decide) (cX_0 G _) rfl rfl (c_X7_pole G l v13 (nI k) 3 (J_PO hJ)) kw_L_105 hd_X7_pole rfl ⟨rfl, rfl⟩ ⟨Nat.le_of_ble_eq_true rfl, Nat.le_of_ble_eq_true rfl⟩ hcs hl.1 (Nat.le_of_ble_eq_true rfl) rfl dL_law_1128 (fun r_28 v15 H locs hpq hP hS => ?_)
      obtain ⟨hr_, hu_⟩ := hpq
      have hq_ := q_pole hJ (pole_nI hpb hk) (w := 3) (by decide)
      simp only [← hr_, ← hu_] at hq_
      clear hr_ hu_
      obtain ⟨h_r, t1, hJ, rs⟩ := hq_
      subst h_r
      refine xSi ha hP hS (y := yL_told) (As := [.ref (G.1 0), .int 1]) (rest := []) rfl (c_L_told1 G l v15  ) kw_L_101 hd_L_told rfl ⟨rfl, rfl⟩ ⟨Nat.le_of_ble_eq_true rfl, Nat.le_of_ble_eq_true rfl⟩ hcs hl.1 (Nat.le_of_ble_eq_true rfl) rfl dL_law_1131 (fun r_29 v16 H locs hpq hP hS => ?_)
      obtain ⟨hr_, hu_⟩ := hpq
      have hu_ := hu_.symm
      subst hu_
      have hr_ := hr_.trans (t1.trans (pole_3 hpb hk))
      have hr_ := hr_.symm
      subst hr_
      refine lv_iload hx hb dL_law_1134 (lv_at hl 19 rfl) ?_
      refine lv_icmp_eq (tgt := 1141) hx hb dL_law_1136 (by decide) (fun c_30 => ?_) (fun c_30 => absurd rfl c_30)
      exact kk v15  _ _ _ (⟨S, D, C, hJ, by omega⟩) hP hS (lv_sub hl [0, 1, 2, 3, 4, 5, 6, 7] rfl)
    · have hc_1013 := c_7
      refine lv_goto (tgt := 1141) hx hb dL_law_1016 (by decide) ?_
      exact kk u  _ _ _ (⟨T, D1, C1, hJ, by omega⟩) hP hS (lv_sub hl [0, 1, 2, 3, 4, 5, 6, 7] rfl)
set_option maxHeartbeats 4000000 in
set_option maxRecDepth 100000 in
theorem seg_66 (ha : Amb p c cL_law 31 s args RL m meth (some .boolean) G 74) (hcs : cells ≤ room_1.cells ∧ slots ≤ room_1.slots) (P : PT) (T6 : Nat) (c7 : Nat) {u : Mem} (hT : T6 < 22) (hc : c7 ≤ T6) (hP : va_P G.2.1 vwCl (wl G 74 (cX G u)) H) (hS : va_S (xA G 74 s.heap.size) s.heap H locs) (hl : lv_has ls 31 [(0, .ref (G.1 1000)), (1, .ref (G.1 0)), (2, .ref (G.1 72)), (3, .ref (G.1 73)), (4, .int (nI (nPl P))), (5, .int (nI (nPe P))), (6, .int (nI T6)), (7, .int (nI c7))])
    (kout : ∀ (v : Mem)  (H : Heap) (locs : List Loc) (ls : Array Slot), (v = u) → va_P G.2.1 vwCl (wl G 74 (cX G v)) H → va_S (xA G 74 s.heap.size) s.heap H locs → lv_has ls 31 [(0, .ref (G.1 1000)), (1, .ref (G.1 0)), (2, .ref (G.1 72)), (3, .ref (G.1 73)), (4, .int (nI (nPl P))), (5, .int (nI (nPe P)))] → W p l e room_1 s m args below meth c H locs cells slots Q (F0 m 1147 ls []))
    (kin : ∀ (v : Mem)  (H : Heap) (locs : List Loc) (ls : Array Slot), (v = u) → (c7 < T6) → va_P G.2.1 vwCl (wl G 74 (cX G v)) H → va_S (xA G 74 s.heap.size) s.heap H locs → lv_has ls 31 [(0, .ref (G.1 1000)), (1, .ref (G.1 0)), (2, .ref (G.1 72)), (3, .ref (G.1 73)), (4, .int (nI (nPl P))), (5, .int (nI (nPe P))), (6, .int (nI T6)), (7, .int (nI c7))] → W p l e room_1 s m args below meth c H locs cells slots Q (F0 m 73 ls [])) : W p l e room_1 s m args below meth c H locs cells slots Q (F0 m 66 ls []) := by
  have hx := ha.1
  have hb := ha.2.1
  refine lv_iload hx hb dL_law_66 (lv_at hl 7 rfl) ?_
  refine lv_iload hx hb dL_law_68 (lv_at hl 6 rfl) ?_
  refine lv_icmp_ge (tgt := 1147) hx hb dL_law_70 (by decide) (fun c_1 => ?_) (fun c_1 => ?_)
  · have hc_70 := c_1
    exact kout u  _ _ _ rfl hP hS (lv_sub hl [0, 1, 2, 3, 4, 5] rfl)
  · have hc_70 := c_1
    have hlt : c7 < T6 := lt_of_nle hc_70 (by omega) (by omega)
    exact kin u  _ _ _ rfl hlt hP hS (lv_sub hl [0, 1, 2, 3, 4, 5, 6, 7] rfl)
set_option maxHeartbeats 4000000 in
set_option maxRecDepth 100000 in
theorem seg_1141 (ha : Amb p c cL_law 31 s args RL m meth (some .boolean) G 74) (hcs : cells ≤ room_1.cells ∧ slots ≤ room_1.slots) (P : PT) (T6 : Nat) (c7 : Nat) {u : Mem}  (hP : va_P G.2.1 vwCl (wl G 74 (cX G u)) H) (hS : va_S (xA G 74 s.heap.size) s.heap H locs) (hl : lv_has ls 31 [(0, .ref (G.1 1000)), (1, .ref (G.1 0)), (2, .ref (G.1 72)), (3, .ref (G.1 73)), (4, .int (nI (nPl P))), (5, .int (nI (nPe P))), (6, .int (nI T6)), (7, .int (nI c7))])
    (kk : ∀ (v : Mem)  (H : Heap) (locs : List Loc) (ls : Array Slot), (v = u) → va_P G.2.1 vwCl (wl G 74 (cX G v)) H → va_S (xA G 74 s.heap.size) s.heap H locs → lv_has ls 31 [(0, .ref (G.1 1000)), (1, .ref (G.1 0)), (2, .ref (G.1 72)), (3, .ref (G.1 73)), (4, .int (nI (nPl P))), (5, .int (nI (nPe P))), (6, .int (nI T6)), (7, .int (nI (c7 + 1)))] → W p l e room_1 s m args below meth c H locs cells slots Q (F0 m 66 ls [])) : W p l e room_1 s m args below meth c H locs cells slots Q (F0 m 1141 ls []) := by
  have hx := ha.1
  have hb := ha.2.1
  refine lv_iinc (v := nI (c7 + 1)) (lv' := [(7, .int (nI (c7 + 1))), (0, .ref (G.1 1000)), (1, .ref (G.1 0)), (2, .ref (G.1 72)), (3, .ref (G.1 73)), (4, .int (nI (nPl P))), (5, .int (nI (nPe P))), (6, .int (nI T6))]) hx hb dL_law_1141 hl (k := 7) rfl (nI_1 c7) (by decide) rfl (fun ls hl => ?_)
  refine lv_goto (tgt := 66) hx hb dL_law_1144 (by decide) ?_
  exact kk u  _ _ _ rfl hP hS (lv_sub hl [1, 2, 3, 4, 5, 6, 7, 0] rfl)
end SC03

