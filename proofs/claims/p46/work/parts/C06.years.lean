
theorem hd_X7_gives : kHd yX7_gives 1 := by decide +kernel
theorem kw_L_140 : ∀ w ∈ k5V RL 140 yX7_gives cX7_gives 5 (some .int), w ∈ TB := tb_ins (by decide +kernel)
section SC06
variable {p : Program} {l : Launch} {e : Env} {s : State} {m : MethodId} {args : Array Value} {below : List Frame} {meth : Method} {c : Code} {H : Heap} {locs : List Loc} {cells slots : Nat} {Q : State → Prop} {ls : Array Slot} {G : GT}
set_option maxHeartbeats 4000000 in
set_option maxRecDepth 100000 in
theorem seg_1522 (ha : Amb p c cL_law 31 s args RL m meth (some .boolean) G 74) (hcs : cells ≤ room_1.cells ∧ slots ≤ room_1.slots) (P : PT) (Z : Nat → Int32) (K : KT) (S : PT) (D : Nat) (C : Nat → Int32) {u : Mem} (hN : NV P Z) (hJ : J P Z K S D C u) (hP : va_P G.2.1 vwCl (wl G 74 (cX G u)) H) (hS : va_S (xA G 74 s.heap.size) s.heap H locs) (hl : lv_has ls 31 [(0, .ref (G.1 1000)), (1, .ref (G.1 0)), (2, .ref (G.1 72)), (3, .ref (G.1 73)), (4, .int (nI (nPl P))), (5, .int (nI (nPe P))), (7, .int (nI D)), (8, .int (S 0 0)), (9, .int (a_highAll P S)), (10, .int ((1 <<< (nI (nPl P) &&& 31)) - 1)), (11, .int (a_standing P S))])
    (kk : ∀ (v : Mem)  (H : Heap) (locs : List Loc) (ls : Array Slot), (v = u) → va_P G.2.1 vwCl (wl G 74 (cX G v)) H → va_S (xA G 74 s.heap.size) s.heap H locs → lv_has ls 31 [(0, .ref (G.1 1000)), (1, .ref (G.1 0)), (2, .ref (G.1 72)), (3, .ref (G.1 73)), (4, .int (nI (nPl P))), (5, .int (nI (nPe P))), (7, .int (nI D)), (8, .int (S 0 0)), (9, .int (a_highAll P S)), (10, .int ((1 <<< (nI (nPl P) &&& 31)) - 1)), (11, .int (a_standing P S)), (16, .int (nI 0))] → W p l e room_1 s m args below meth c H locs cells slots Q (F0 m 1525 ls [])) : W p l e room_1 s m args below meth c H locs cells slots Q (F0 m 1522 ls []) := by
  have hx := ha.1
  have hb := ha.2.1
  obtain ⟨h4, h5⟩ := NV_45 hJ
  have hp0 := hN.1.1
  have hq0 := hN.1.2
  have hpb := (J_plan hJ).1
  have hpr := (J_plan hJ).2
  have hg := J_gs hJ
  refine lv_iconst (v := 0) hx hb dL_law_1522 (by decide) ?_
  refine lv_istore (lv' := [(16, .int 0), (0, .ref (G.1 1000)), (1, .ref (G.1 0)), (2, .ref (G.1 72)), (3, .ref (G.1 73)), (4, .int (nI (nPl P))), (5, .int (nI (nPe P))), (7, .int (nI D)), (8, .int (S 0 0)), (9, .int (a_highAll P S)), (10, .int ((1 <<< (nI (nPl P) &&& 31)) - 1)), (11, .int (a_standing P S))]) hx hb dL_law_1523 hl (by decide) rfl (fun ls hl => ?_)
  exact kk u  _ _ _ rfl hP hS (lv_sub hl [1, 2, 3, 4, 5, 6, 7, 8, 9, 10, 11, 0] rfl)
set_option maxHeartbeats 4000000 in
set_option maxRecDepth 100000 in
theorem seg_1525 (ha : Amb p c cL_law 31 s args RL m meth (some .boolean) G 74) (hcs : cells ≤ room_1.cells ∧ slots ≤ room_1.slots) (P : PT) (Z : Nat → Int32) (K : KT) (S : PT) (D : Nat) (C : Nat → Int32) (k : Nat) {u : Mem} (hN : NV P Z) (hJ : J P Z K S D C u) (hk0 : k ≤ nPl P) (hP : va_P G.2.1 vwCl (wl G 74 (cX G u)) H) (hS : va_S (xA G 74 s.heap.size) s.heap H locs) (hl : lv_has ls 31 [(0, .ref (G.1 1000)), (1, .ref (G.1 0)), (2, .ref (G.1 72)), (3, .ref (G.1 73)), (4, .int (nI (nPl P))), (5, .int (nI (nPe P))), (7, .int (nI D)), (8, .int (S 0 0)), (9, .int (a_highAll P S)), (10, .int ((1 <<< (nI (nPl P) &&& 31)) - 1)), (11, .int (a_standing P S)), (16, .int (nI k))])
    (kout : ∀ (v : Mem)  (H : Heap) (locs : List Loc) (ls : Array Slot), (v = u) → va_P G.2.1 vwCl (wl G 74 (cX G v)) H → va_S (xA G 74 s.heap.size) s.heap H locs → lv_has ls 31 [(0, .ref (G.1 1000)), (1, .ref (G.1 0)), (2, .ref (G.1 72)), (3, .ref (G.1 73)), (4, .int (nI (nPl P))), (5, .int (nI (nPe P))), (7, .int (nI D)), (8, .int (S 0 0)), (9, .int (a_highAll P S)), (10, .int ((1 <<< (nI (nPl P) &&& 31)) - 1)), (11, .int (a_standing P S))] → W p l e room_1 s m args below meth c H locs cells slots Q (F0 m 1706 ls []))
    (kin : ∀ (v : Mem) (gv : Int32) (H : Heap) (locs : List Loc) (ls : Array Slot), (v = u) → (k < nPl P) → (GivOf P S k gv) → va_P G.2.1 vwCl (wl G 74 (cX G v)) H → va_S (xA G 74 s.heap.size) s.heap H locs → lv_has ls 31 [(0, .ref (G.1 1000)), (1, .ref (G.1 0)), (2, .ref (G.1 72)), (3, .ref (G.1 73)), (4, .int (nI (nPl P))), (5, .int (nI (nPe P))), (7, .int (nI D)), (8, .int (S 0 0)), (9, .int (a_highAll P S)), (10, .int ((1 <<< (nI (nPl P) &&& 31)) - 1)), (11, .int (a_standing P S)), (16, .int (nI k)), (17, .int gv)] → W p l e room_1 s m args below meth c H locs cells slots Q (F0 m 1540 ls [])) : W p l e room_1 s m args below meth c H locs cells slots Q (F0 m 1525 ls []) := by
  have hx := ha.1
  have hb := ha.2.1
  obtain ⟨h4, h5⟩ := NV_45 hJ
  have hp0 := hN.1.1
  have hq0 := hN.1.2
  have hpb := (J_plan hJ).1
  have hpr := (J_plan hJ).2
  have hg := J_gs hJ
  refine lv_iload hx hb dL_law_1525 (lv_at hl 11 rfl) ?_
  refine lv_iload hx hb dL_law_1527 (lv_at hl 4 rfl) ?_
  refine lv_icmp_ge (tgt := 1706) hx hb dL_law_1529 (by decide) (fun c_1 => ?_) (fun c_1 => ?_)
  · have hc_1529 := c_1
    have hk := eq_of_le hc_1529 hk0 (by omega)
    exact kout u  _ _ _ rfl hP hS (lv_sub hl [0, 1, 2, 3, 4, 5, 6, 7, 8, 9, 10] rfl)
  · have hc_1529 := c_1
    have hk : k < nPl P := lt_of_nle hc_1529 (by omega) (by omega)
    refine lv_aload_n hx hb dL_law_1532 rfl (lv_at hl 1 rfl) ?_
    refine lv_iload hx hb dL_law_1533 (lv_at hl 11 rfl) ?_
    refine xVi ha hP hS (y := yX7_gives) (As := [.int (nI k)]) (rest := []) 0 (by decide) (cX_0 G _) rfl rfl (c_X7_gives G l u (nI k) (J_PO hJ)) kw_L_140 hd_X7_gives rfl ⟨rfl, rfl⟩ ⟨Nat.le_of_ble_eq_true rfl, Nat.le_of_ble_eq_true rfl⟩ hcs hl.1 (Nat.le_of_ble_eq_true rfl) rfl dL_law_1535 (fun gv v1 H locs hpq hP hS => ?_)
    obtain ⟨hr_, hu_⟩ := hpq
    have hu_ := hu_.symm
    subst hu_
    have hr_ := hr_.trans (q_gives hJ (pole_nI hpb hk))
    have hG := giv_of hg hk
    rw [← hr_] at hG
    clear hr_
    refine lv_istore (lv' := [(17, .int gv), (0, .ref (G.1 1000)), (1, .ref (G.1 0)), (2, .ref (G.1 72)), (3, .ref (G.1 73)), (4, .int (nI (nPl P))), (5, .int (nI (nPe P))), (7, .int (nI D)), (8, .int (S 0 0)), (9, .int (a_highAll P S)), (10, .int ((1 <<< (nI (nPl P) &&& 31)) - 1)), (11, .int (a_standing P S)), (16, .int (nI k))]) hx hb dL_law_1538 hl (by decide) rfl (fun ls hl => ?_)
    exact kin u gv _ _ _ rfl hk hG hP hS (lv_sub hl [1, 2, 3, 4, 5, 6, 7, 8, 9, 10, 11, 12, 0] rfl)
set_option maxHeartbeats 4000000 in
set_option maxRecDepth 100000 in
theorem seg_1540a (ha : Amb p c cL_law 31 s args RL m meth (some .boolean) G 74) (hcs : cells ≤ room_1.cells ∧ slots ≤ room_1.slots) (P : PT) (Z : Nat → Int32) (K : KT) (S : PT) (D : Nat) (C : Nat → Int32) (k : Nat) {u : Mem} (hN : NV P Z) (hJ : J P Z K S D C u) (hk : k < nPl P) (hgf : y_gives P S k = false) (hst : ∀ n, n ≤ 40 → a_isUp P (yrs P S n) (nI k) = a_isUp P S (nI k)) (hP : va_P G.2.1 vwCl (wl G 74 (cX G u)) H) (hS : va_S (xA G 74 s.heap.size) s.heap H locs) (hl : lv_has ls 31 [(0, .ref (G.1 1000)), (1, .ref (G.1 0)), (2, .ref (G.1 72)), (3, .ref (G.1 73)), (4, .int (nI (nPl P))), (5, .int (nI (nPe P))), (7, .int (nI D)), (8, .int (S 0 0)), (9, .int (a_highAll P S)), (10, .int ((1 <<< (nI (nPl P) &&& 31)) - 1)), (11, .int (a_standing P S)), (16, .int (nI k)), (17, .int (-9))])
    (kk : ∀ (v : Mem)  (H : Heap) (locs : List Loc) (ls : Array Slot), (J P Z K S D C v) → va_P G.2.1 vwCl (wl G 74 (cX G v)) H → va_S (xA G 74 s.heap.size) s.heap H locs → lv_has ls 31 [(0, .ref (G.1 1000)), (1, .ref (G.1 0)), (2, .ref (G.1 72)), (3, .ref (G.1 73)), (4, .int (nI (nPl P))), (5, .int (nI (nPe P))), (7, .int (nI D)), (8, .int (S 0 0)), (9, .int (a_highAll P S)), (10, .int ((1 <<< (nI (nPl P) &&& 31)) - 1)), (11, .int (a_standing P S)), (16, .int (nI (k + 1)))] → W p l e room_1 s m args below meth c H locs cells slots Q (F0 m 1525 ls [])) : W p l e room_1 s m args below meth c H locs cells slots Q (F0 m 1540 ls []) := by
  have hx := ha.1
  have hb := ha.2.1
  obtain ⟨h4, h5⟩ := NV_45 hJ
  have hp0 := hN.1.1
  have hq0 := hN.1.2
  have hpb := (J_plan hJ).1
  have hpr := (J_plan hJ).2
  have hg := J_gs hJ
  refine lv_iload hx hb dL_law_1540 (lv_at hl 12 rfl) ?_
  refine lv_bipush (v := (-9)) hx hb dL_law_1542 (by decide) ?_
  refine lv_icmp_eq (tgt := 1571) hx hb dL_law_1544 (by decide) (fun c_1 => ?_) (fun c_1 => absurd rfl c_1)
  refine lv_iload hx hb dL_law_1571 (lv_at hl 12 rfl) ?_
  refine lv_iconst (v := 1) hx hb dL_law_1573 (by decide) ?_
  refine lv_icmp_ne (tgt := 1581) hx hb dL_law_1574 (by decide) (fun c_2 => ?_) (fun c_2 => absurd c_2 (by decide))
  refine lv_iconst (v := 0) hx hb dL_law_1581 (by decide) ?_
  refine lv_iload hx hb dL_law_1582 (lv_at hl 9 rfl) ?_
  refine lv_iload hx hb dL_law_1584 (lv_at hl 7 rfl) ?_
  refine lv_iconst (v := (-1)) hx hb dL_law_1586 (by decide) ?_
  refine lv_ixor hx hb dL_law_1587 ?_
  refine lv_iand hx hb dL_law_1588 ?_
  refine lv_iload hx hb dL_law_1589 (lv_at hl 10 rfl) ?_
  refine lv_iconst (v := (-1)) hx hb dL_law_1591 (by decide) ?_
  refine lv_ixor hx hb dL_law_1592 ?_
  refine lv_iand hx hb dL_law_1593 ?_
  refine lv_iload hx hb dL_law_1594 (lv_at hl 11 rfl) ?_
  refine lv_ishr hx hb dL_law_1596 ?_
  refine lv_iconst (v := 1) hx hb dL_law_1597 (by decide) ?_
  refine lv_iand hx hb dL_law_1598 ?_
  refine lv_iconst (v := 1) hx hb dL_law_1599 (by decide) ?_
  refine lv_icmp_ne (tgt := 1607) hx hb dL_law_1600 (by decide) (fun c_3 => ?_) (fun c_3 => absurd c_3 (by rw [gave_bit hg hk, hgf]; decide))
  refine lv_iconst (v := 0) hx hb dL_law_1607 (by decide) ?_
  refine lv_icmp_eq (tgt := 1613) hx hb dL_law_1608 (by decide) (fun c_4 => ?_) (fun c_4 => absurd rfl c_4)
  refine lv_iload hx hb dL_law_1613 (lv_at hl 12 rfl) ?_
  refine lv_if_le (tgt := 1665) hx hb dL_law_1615 (by decide) (fun c_5 => ?_) (fun c_5 => absurd (by decide) c_5)
  refine lv_iload hx hb dL_law_1665 (lv_at hl 12 rfl) ?_
  refine lv_if_ge (tgt := 1700) hx hb dL_law_1667 (by decide) (fun c_6 => absurd c_6 (by decide)) (fun c_6 => ?_)
  refine lv_aload_n hx hb dL_law_1670 rfl (lv_at hl 1 rfl) ?_
  refine lv_bipush (v := (nI 40)) hx hb dL_law_1671 (by decide) ?_
  refine xVi ha hP hS (y := yX7_later) (As := [.int (nI 40)]) (rest := []) 0 (by decide) (cX_0 G _) rfl rfl (c_X7_later G l u (nI 40) (J_PO hJ)) kw_L_111 hd_X7_later rfl ⟨rfl, rfl⟩ ⟨Nat.le_of_ble_eq_true rfl, Nat.le_of_ble_eq_true rfl⟩ hcs hl.1 (Nat.le_of_ble_eq_true rfl) rfl dL_law_1673 (fun r_7 v1 H locs hpq hP hS => ?_)
  obtain ⟨hr_, hu_⟩ := hpq
  have hq_ := q_later hJ hp0 (n := 40) (by decide)
  simp only [← hr_, ← hu_] at hq_
  clear hr_ hu_
  obtain ⟨h_r, t1, hJ, rs⟩ := hq_
  subst h_r
  refine lv_if_lt (tgt := 1698) hx hb dL_law_1676 (by decide) (fun c_8 => absurd c_8 (later_0 hg 40)) (fun c_8 => ?_)
  refine lv_aload_n hx hb dL_law_1679 rfl (lv_at hl 1 rfl) ?_
  refine xVi ha hP hS (y := yX7_asked) (As := []) (rest := []) 0 (by decide) (cX_0 G _) rfl rfl (c_X7_asked G l v1  ) kw_L_119 hd_X7_asked rfl ⟨rfl, rfl⟩ ⟨Nat.le_of_ble_eq_true rfl, Nat.le_of_ble_eq_true rfl⟩ hcs hl.1 (Nat.le_of_ble_eq_true rfl) rfl dL_law_1680 (fun r_9 v2 H locs hpq hP hS => ?_)
  obtain ⟨hr_, hu_⟩ := hpq
  have hu_ := hu_.symm
  subst hu_
  have hr_ := hr_.trans t1
  have hr_ := hr_.symm
  subst hr_
  refine lv_iload hx hb dL_law_1683 (lv_at hl 11 rfl) ?_
  refine lv_ishr hx hb dL_law_1685 ?_
  refine lv_iconst (v := 1) hx hb dL_law_1686 (by decide) ?_
  refine lv_iand hx hb dL_law_1687 ?_
  refine lv_iload hx hb dL_law_1688 (lv_at hl 7 rfl) ?_
  refine lv_iload hx hb dL_law_1690 (lv_at hl 11 rfl) ?_
  refine lv_ishr hx hb dL_law_1692 ?_
  refine lv_iconst (v := 1) hx hb dL_law_1693 (by decide) ?_
  refine lv_iand hx hb dL_law_1694 ?_
  refine lv_icmp_eq (tgt := 1700) hx hb dL_law_1695 (by decide) (fun c_10 => ?_) (fun c_10 => absurd (by rw [yrs_bit hg hk 40, dn_bit hg hk, hst 40 (by decide)]) c_10)
  refine lv_iinc (v := nI (k + 1)) (lv' := [(16, .int (nI (k + 1))), (0, .ref (G.1 1000)), (1, .ref (G.1 0)), (2, .ref (G.1 72)), (3, .ref (G.1 73)), (4, .int (nI (nPl P))), (5, .int (nI (nPe P))), (7, .int (nI D)), (8, .int (S 0 0)), (9, .int (a_highAll P S)), (10, .int ((1 <<< (nI (nPl P) &&& 31)) - 1)), (11, .int (a_standing P S)), (17, .int (-9))]) hx hb dL_law_1700 hl (k := 11) rfl (nI_1 k) (by decide) rfl (fun ls hl => ?_)
  refine lv_goto (tgt := 1525) hx hb dL_law_1703 (by decide) ?_
  exact kk v1  _ _ _ hJ hP hS (lv_sub hl [1, 2, 3, 4, 5, 6, 7, 8, 9, 10, 11, 0] rfl)
set_option maxHeartbeats 4000000 in
set_option maxRecDepth 100000 in
theorem seg_1540b (ha : Amb p c cL_law 31 s args RL m meth (some .boolean) G 74) (hcs : cells ≤ room_1.cells ∧ slots ≤ room_1.slots) (P : PT) (Z : Nat → Int32) (K : KT) (S : PT) (D : Nat) (C : Nat → Int32) (k : Nat) (f : Nat) {u : Mem} (hN : NV P Z) (hJ : J P Z K S D C u) (hk : k < nPl P) (hf : f < 40) (hu : a_isUp P S (nI k) = true) (hgd : y_gives P S k = decide (f = 0)) (hu0 : a_isUp P (yrs P S f) (nI k) = true) (hu1 : a_isUp P (yrs P S (f + 1)) (nI k) = false) (hP : va_P G.2.1 vwCl (wl G 74 (cX G u)) H) (hS : va_S (xA G 74 s.heap.size) s.heap H locs) (hl : lv_has ls 31 [(0, .ref (G.1 1000)), (1, .ref (G.1 0)), (2, .ref (G.1 72)), (3, .ref (G.1 73)), (4, .int (nI (nPl P))), (5, .int (nI (nPe P))), (7, .int (nI D)), (8, .int (S 0 0)), (9, .int (a_highAll P S)), (10, .int ((1 <<< (nI (nPl P) &&& 31)) - 1)), (11, .int (a_standing P S)), (16, .int (nI k)), (17, .int (nI (f + 1)))])
    (kk : ∀ (v : Mem)  (H : Heap) (locs : List Loc) (ls : Array Slot), (J P Z K S D C v) → va_P G.2.1 vwCl (wl G 74 (cX G v)) H → va_S (xA G 74 s.heap.size) s.heap H locs → lv_has ls 31 [(0, .ref (G.1 1000)), (1, .ref (G.1 0)), (2, .ref (G.1 72)), (3, .ref (G.1 73)), (4, .int (nI (nPl P))), (5, .int (nI (nPe P))), (7, .int (nI D)), (8, .int (S 0 0)), (9, .int (a_highAll P S)), (10, .int ((1 <<< (nI (nPl P) &&& 31)) - 1)), (11, .int (a_standing P S)), (16, .int (nI (k + 1)))] → W p l e room_1 s m args below meth c H locs cells slots Q (F0 m 1525 ls [])) : W p l e room_1 s m args below meth c H locs cells slots Q (F0 m 1540 ls []) := by
  have hx := ha.1
  have hb := ha.2.1
  obtain ⟨h4, h5⟩ := NV_45 hJ
  have hp0 := hN.1.1
  have hq0 := hN.1.2
  have hpb := (J_plan hJ).1
  have hpr := (J_plan hJ).2
  have hg := J_gs hJ
  refine lv_iload hx hb dL_law_1540 (lv_at hl 12 rfl) ?_
  refine lv_bipush (v := (-9)) hx hb dL_law_1542 (by decide) ?_
  refine lv_icmp_eq (tgt := 1571) hx hb dL_law_1544 (by decide) (fun c_1 => absurd c_1 (nI_n9 (by omega))) (fun c_1 => ?_)
  refine lv_iload hx hb dL_law_1547 (lv_at hl 12 rfl) ?_
  refine lv_iconst (v := 1) hx hb dL_law_1549 (by decide) ?_
  refine lv_icmp_lt (tgt := 1611) hx hb dL_law_1550 (by decide) (fun c_2 => absurd c_2 (nI_nlt1 (by omega) (by omega))) (fun c_2 => ?_)
  refine lv_iload hx hb dL_law_1553 (lv_at hl 12 rfl) ?_
  refine lv_bipush (v := 40) hx hb dL_law_1555 (by decide) ?_
  refine lv_icmp_gt (tgt := 1611) hx hb dL_law_1557 (by decide) (fun c_3 => absurd c_3 (n40_i (by omega))) (fun c_3 => ?_)
  refine lv_iload hx hb dL_law_1560 (lv_at hl 7 rfl) ?_
  refine lv_iload hx hb dL_law_1562 (lv_at hl 11 rfl) ?_
  refine lv_ishr hx hb dL_law_1564 ?_
  refine lv_iconst (v := 1) hx hb dL_law_1565 (by decide) ?_
  refine lv_iand hx hb dL_law_1566 ?_
  refine lv_iconst (v := 1) hx hb dL_law_1567 (by decide) ?_
  refine lv_icmp_eq (tgt := 1611) hx hb dL_law_1568 (by decide) (fun c_4 => absurd c_4 (by rw [dn_bit hg hk, hu]; decide)) (fun c_4 => ?_)
  refine lv_iload hx hb dL_law_1571 (lv_at hl 12 rfl) ?_
  refine lv_iconst (v := 1) hx hb dL_law_1573 (by decide) ?_
  have jn_1582_5 : ∀ (x : Int32), (x = b2i (decide (f = 0))) → W p l e room_1 s m args below meth c H locs cells slots Q (F0 m 1582 ls [.int x]) := by
    intro x ex
    subst ex
    refine lv_iload hx hb dL_law_1582 (lv_at hl 9 rfl) ?_
    refine lv_iload hx hb dL_law_1584 (lv_at hl 7 rfl) ?_
    refine lv_iconst (v := (-1)) hx hb dL_law_1586 (by decide) ?_
    refine lv_ixor hx hb dL_law_1587 ?_
    refine lv_iand hx hb dL_law_1588 ?_
    refine lv_iload hx hb dL_law_1589 (lv_at hl 10 rfl) ?_
    refine lv_iconst (v := (-1)) hx hb dL_law_1591 (by decide) ?_
    refine lv_ixor hx hb dL_law_1592 ?_
    refine lv_iand hx hb dL_law_1593 ?_
    refine lv_iload hx hb dL_law_1594 (lv_at hl 11 rfl) ?_
    refine lv_ishr hx hb dL_law_1596 ?_
    refine lv_iconst (v := 1) hx hb dL_law_1597 (by decide) ?_
    refine lv_iand hx hb dL_law_1598 ?_
    refine lv_iconst (v := 1) hx hb dL_law_1599 (by decide) ?_
    have jn_1608_6 : ∀ (x : Int32), (x = b2i (y_gives P S k)) → W p l e room_1 s m args below meth c H locs cells slots Q (F0 m 1608 ls [.int x, .int (b2i (decide (f = 0)))]) := by
      intro x ex
      subst ex
      refine lv_icmp_eq (tgt := 1613) hx hb dL_law_1608 (by decide) (fun c_7 => ?_) (fun c_7 => absurd (by rw [hgd]) c_7)
      refine lv_iload hx hb dL_law_1613 (lv_at hl 12 rfl) ?_
      refine lv_if_le (tgt := 1665) hx hb dL_law_1615 (by decide) (fun c_8 => absurd c_8 (nI_nle (by omega) (by omega))) (fun c_8 => ?_)
      refine lv_aload_n hx hb dL_law_1618 rfl (lv_at hl 1 rfl) ?_
      refine lv_iload hx hb dL_law_1619 (lv_at hl 12 rfl) ?_
      refine xVi ha hP hS (y := yX7_later) (As := [.int (nI (f + 1))]) (rest := []) 0 (by decide) (cX_0 G _) rfl rfl (c_X7_later G l u (nI (f + 1)) (J_PO hJ)) kw_L_111 hd_X7_later rfl ⟨rfl, rfl⟩ ⟨Nat.le_of_ble_eq_true rfl, Nat.le_of_ble_eq_true rfl⟩ hcs hl.1 (Nat.le_of_ble_eq_true rfl) rfl dL_law_1621 (fun r_9 v1 H locs hpq hP hS => ?_)
      obtain ⟨hr_, hu_⟩ := hpq
      have hq_ := q_later hJ hp0 (n := f + 1) (by omega)
      simp only [← hr_, ← hu_] at hq_
      clear hr_ hu_
      obtain ⟨h_r, t1, hJ, rs⟩ := hq_
      subst h_r
      refine lv_if_lt (tgt := 1663) hx hb dL_law_1624 (by decide) (fun c_10 => absurd c_10 (later_0 hg (f + 1))) (fun c_10 => ?_)
      refine lv_aload_n hx hb dL_law_1627 rfl (lv_at hl 1 rfl) ?_
      refine xVi ha hP hS (y := yX7_asked) (As := []) (rest := []) 0 (by decide) (cX_0 G _) rfl rfl (c_X7_asked G l v1  ) kw_L_119 hd_X7_asked rfl ⟨rfl, rfl⟩ ⟨Nat.le_of_ble_eq_true rfl, Nat.le_of_ble_eq_true rfl⟩ hcs hl.1 (Nat.le_of_ble_eq_true rfl) rfl dL_law_1628 (fun r_11 v2 H locs hpq hP hS => ?_)
      obtain ⟨hr_, hu_⟩ := hpq
      have hu_ := hu_.symm
      subst hu_
      have hr_ := hr_.trans t1
      have hr_ := hr_.symm
      subst hr_
      refine lv_iload hx hb dL_law_1631 (lv_at hl 11 rfl) ?_
      refine lv_ishr hx hb dL_law_1633 ?_
      refine lv_iconst (v := 1) hx hb dL_law_1634 (by decide) ?_
      refine lv_iand hx hb dL_law_1635 ?_
      refine lv_iconst (v := 1) hx hb dL_law_1636 (by decide) ?_
      refine lv_icmp_ne (tgt := 1663) hx hb dL_law_1637 (by decide) (fun c_12 => absurd (by rw [yrs_bit hg hk (f + 1), hu1]; rfl) c_12) (fun c_12 => ?_)
      refine lv_aload_n hx hb dL_law_1640 rfl (lv_at hl 1 rfl) ?_
      refine lv_iload hx hb dL_law_1641 (lv_at hl 12 rfl) ?_
      refine lv_iconst (v := 1) hx hb dL_law_1643 (by decide) ?_
      refine lw_isubE (z := (nI f)) hx hb dL_law_1644 (nI_pred f) ?_
      refine xVi ha hP hS (y := yX7_later) (As := [.int (nI f)]) (rest := []) 0 (by decide) (cX_0 G _) rfl rfl (c_X7_later G l v1 (nI f) (J_PO hJ)) kw_L_111 hd_X7_later rfl ⟨rfl, rfl⟩ ⟨Nat.le_of_ble_eq_true rfl, Nat.le_of_ble_eq_true rfl⟩ hcs hl.1 (Nat.le_of_ble_eq_true rfl) rfl dL_law_1645 (fun r_13 v3 H locs hpq hP hS => ?_)
      obtain ⟨hr_, hu_⟩ := hpq
      have hq_ := q_later hJ hp0 (n := f) (by omega)
      simp only [← hr_, ← hu_] at hq_
      clear hr_ hu_
      obtain ⟨h_r, t1, hJ, rs⟩ := hq_
      subst h_r
      refine lv_if_lt (tgt := 1663) hx hb dL_law_1648 (by decide) (fun c_14 => absurd c_14 (later_0 hg f)) (fun c_14 => ?_)
      refine lv_aload_n hx hb dL_law_1651 rfl (lv_at hl 1 rfl) ?_
      refine xVi ha hP hS (y := yX7_asked) (As := []) (rest := []) 0 (by decide) (cX_0 G _) rfl rfl (c_X7_asked G l v3  ) kw_L_119 hd_X7_asked rfl ⟨rfl, rfl⟩ ⟨Nat.le_of_ble_eq_true rfl, Nat.le_of_ble_eq_true rfl⟩ hcs hl.1 (Nat.le_of_ble_eq_true rfl) rfl dL_law_1652 (fun r_15 v4 H locs hpq hP hS => ?_)
      obtain ⟨hr_, hu_⟩ := hpq
      have hu_ := hu_.symm
      subst hu_
      have hr_ := hr_.trans t1
      have hr_ := hr_.symm
      subst hr_
      refine lv_iload hx hb dL_law_1655 (lv_at hl 11 rfl) ?_
      refine lv_ishr hx hb dL_law_1657 ?_
      refine lv_iconst (v := 1) hx hb dL_law_1658 (by decide) ?_
      refine lv_iand hx hb dL_law_1659 ?_
      refine lv_if_eq (tgt := 1665) hx hb dL_law_1660 (by decide) (fun c_16 => ?_) (fun c_16 => absurd (by rw [yrs_bit hg hk f, hu0]; rfl) c_16)
      refine lv_iload hx hb dL_law_1665 (lv_at hl 12 rfl) ?_
      refine lv_if_ge (tgt := 1700) hx hb dL_law_1667 (by decide) (fun c_17 => ?_) (fun c_17 => absurd (nI_pos' (by omega)) c_17)
      refine lv_iinc (v := nI (k + 1)) (lv' := [(16, .int (nI (k + 1))), (0, .ref (G.1 1000)), (1, .ref (G.1 0)), (2, .ref (G.1 72)), (3, .ref (G.1 73)), (4, .int (nI (nPl P))), (5, .int (nI (nPe P))), (7, .int (nI D)), (8, .int (S 0 0)), (9, .int (a_highAll P S)), (10, .int ((1 <<< (nI (nPl P) &&& 31)) - 1)), (11, .int (a_standing P S)), (17, .int (nI (f + 1)))]) hx hb dL_law_1700 hl (k := 11) rfl (nI_1 k) (by decide) rfl (fun ls hl => ?_)
      refine lv_goto (tgt := 1525) hx hb dL_law_1703 (by decide) ?_
      exact kk v3  _ _ _ hJ hP hS (lv_sub hl [1, 2, 3, 4, 5, 6, 7, 8, 9, 10, 11, 0] rfl)
    refine lv_icmp_ne (tgt := 1607) hx hb dL_law_1600 (by decide) (fun c_18 => ?_) (fun c_18 => ?_)
    · have hc_1600 := c_18
      refine lv_iconst (v := 0) hx hb dL_law_1607 (by decide) ?_
      exact jn_1608_6 _ (flag0 (gave_bit hg hk) hc_1600)
    · have hc_1600 := c_18
      refine lv_iconst (v := 1) hx hb dL_law_1603 (by decide) ?_
      refine lv_goto (tgt := 1608) hx hb dL_law_1604 (by decide) ?_
      exact jn_1608_6 _ (flag1 (gave_bit hg hk) hc_1600)
  refine lv_icmp_ne (tgt := 1581) hx hb dL_law_1574 (by decide) (fun c_19 => ?_) (fun c_19 => ?_)
  · have hc_1574 := c_19
    refine lv_iconst (v := 0) hx hb dL_law_1581 (by decide) ?_
    exact jn_1582_5 _ (f1_flag0 hf hc_1574)
  · have hc_1574 := c_19
    refine lv_iconst (v := 1) hx hb dL_law_1577 (by decide) ?_
    refine lv_goto (tgt := 1582) hx hb dL_law_1578 (by decide) ?_
    exact jn_1582_5 _ (f1_flag1 hf hc_1574)
set_option maxHeartbeats 4000000 in
set_option maxRecDepth 100000 in
theorem seg_1706 (ha : Amb p c cL_law 31 s args RL m meth (some .boolean) G 74) (hcs : cells ≤ room_1.cells ∧ slots ≤ room_1.slots) (P : PT) (Z : Nat → Int32) (K : KT) (S : PT) (D : Nat) (C : Nat → Int32) {u : Mem} (hN : NV P Z) (hJ : J P Z K S D C u) (hP : va_P G.2.1 vwCl (wl G 74 (cX G u)) H) (hS : va_S (xA G 74 s.heap.size) s.heap H locs) (hl : lv_has ls 31 [(0, .ref (G.1 1000)), (1, .ref (G.1 0)), (2, .ref (G.1 72)), (3, .ref (G.1 73)), (4, .int (nI (nPl P))), (5, .int (nI (nPe P))), (7, .int (nI D)), (8, .int (S 0 0)), (9, .int (a_highAll P S)), (10, .int ((1 <<< (nI (nPl P) &&& 31)) - 1)), (11, .int (a_standing P S))])
    (kk : ∀ (v : Mem)  (H : Heap) (locs : List Loc) (ls : Array Slot), (v = u) → va_P G.2.1 vwCl (wl G 74 (cX G v)) H → va_S (xA G 74 s.heap.size) s.heap H locs → lv_has ls 31 [(0, .ref (G.1 1000)), (1, .ref (G.1 0)), (2, .ref (G.1 72)), (3, .ref (G.1 73)), (4, .int (nI (nPl P))), (5, .int (nI (nPe P))), (7, .int (nI D)), (8, .int (S 0 0)), (9, .int (a_highAll P S)), (10, .int ((1 <<< (nI (nPl P) &&& 31)) - 1)), (11, .int (a_standing P S)), (16, .int (a_highAll P (yrs P S 0))), (17, .int (nI 0))] → W p l e room_1 s m args below meth c H locs cells slots Q (F0 m 1713 ls [])) : W p l e room_1 s m args below meth c H locs cells slots Q (F0 m 1706 ls []) := by
  have hx := ha.1
  have hb := ha.2.1
  obtain ⟨h4, h5⟩ := NV_45 hJ
  have hp0 := hN.1.1
  have hq0 := hN.1.2
  have hpb := (J_plan hJ).1
  have hpr := (J_plan hJ).2
  have hg := J_gs hJ
  refine lv_iload hx hb dL_law_1706 (lv_at hl 8 rfl) ?_
  refine lv_istore (lv' := [(16, .int (a_highAll P S)), (0, .ref (G.1 1000)), (1, .ref (G.1 0)), (2, .ref (G.1 72)), (3, .ref (G.1 73)), (4, .int (nI (nPl P))), (5, .int (nI (nPe P))), (7, .int (nI D)), (8, .int (S 0 0)), (9, .int (a_highAll P S)), (10, .int ((1 <<< (nI (nPl P) &&& 31)) - 1)), (11, .int (a_standing P S))]) hx hb dL_law_1708 hl (by decide) rfl (fun ls hl => ?_)
  refine lv_iconst (v := 0) hx hb dL_law_1710 (by decide) ?_
  refine lv_istore (lv' := [(17, .int 0), (16, .int (a_highAll P S)), (0, .ref (G.1 1000)), (1, .ref (G.1 0)), (2, .ref (G.1 72)), (3, .ref (G.1 73)), (4, .int (nI (nPl P))), (5, .int (nI (nPe P))), (7, .int (nI D)), (8, .int (S 0 0)), (9, .int (a_highAll P S)), (10, .int ((1 <<< (nI (nPl P) &&& 31)) - 1)), (11, .int (a_standing P S))]) hx hb dL_law_1711 hl (by decide) rfl (fun ls hl => ?_)
  exact kk u  _ _ _ rfl hP hS (lv_sub hl [2, 3, 4, 5, 6, 7, 8, 9, 10, 11, 12, 1, 0] rfl)
set_option maxHeartbeats 4000000 in
set_option maxRecDepth 100000 in
theorem seg_1713 (ha : Amb p c cL_law 31 s args RL m meth (some .boolean) G 74) (hcs : cells ≤ room_1.cells ∧ slots ≤ room_1.slots) (P : PT) (Z : Nat → Int32) (K : KT) (S : PT) (D : Nat) (C : Nat → Int32) (pv : Nat) (n : Nat) {u : Mem} (hN : NV P Z) (hJ : J P Z K S D C u) (hpv : pv ≤ n) (hn0 : n ≤ 44) (hP : va_P G.2.1 vwCl (wl G 74 (cX G u)) H) (hS : va_S (xA G 74 s.heap.size) s.heap H locs) (hl : lv_has ls 31 [(0, .ref (G.1 1000)), (1, .ref (G.1 0)), (2, .ref (G.1 72)), (3, .ref (G.1 73)), (4, .int (nI (nPl P))), (5, .int (nI (nPe P))), (7, .int (nI D)), (8, .int (S 0 0)), (9, .int (a_highAll P S)), (10, .int ((1 <<< (nI (nPl P) &&& 31)) - 1)), (11, .int (a_standing P S)), (16, .int (a_highAll P (yrs P S pv))), (17, .int (nI n))])
    (kout : ∀ (v : Mem)  (H : Heap) (locs : List Loc) (ls : Array Slot), (v = u) → va_P G.2.1 vwCl (wl G 74 (cX G v)) H → va_S (xA G 74 s.heap.size) s.heap H locs → lv_has ls 31 [(0, .ref (G.1 1000)), (1, .ref (G.1 0)), (2, .ref (G.1 72)), (3, .ref (G.1 73)), (4, .int (nI (nPl P))), (5, .int (nI (nPe P))), (7, .int (nI D)), (8, .int (S 0 0)), (9, .int (a_highAll P S)), (10, .int ((1 <<< (nI (nPl P) &&& 31)) - 1)), (11, .int (a_standing P S))] → W p l e room_1 s m args below meth c H locs cells slots Q (F0 m 1771 ls []))
    (kback : ∀ (v : Mem)  (H : Heap) (locs : List Loc) (ls : Array Slot), (J P Z K S D C v) → (n < 41) → va_P G.2.1 vwCl (wl G 74 (cX G v)) H → va_S (xA G 74 s.heap.size) s.heap H locs → lv_has ls 31 [(0, .ref (G.1 1000)), (1, .ref (G.1 0)), (2, .ref (G.1 72)), (3, .ref (G.1 73)), (4, .int (nI (nPl P))), (5, .int (nI (nPe P))), (7, .int (nI D)), (8, .int (S 0 0)), (9, .int (a_highAll P S)), (10, .int ((1 <<< (nI (nPl P) &&& 31)) - 1)), (11, .int (a_standing P S)), (16, .int (a_highAll P (yrs P S n))), (17, .int (nI (n + 4)))] → W p l e room_1 s m args below meth c H locs cells slots Q (F0 m 1713 ls [])) : W p l e room_1 s m args below meth c H locs cells slots Q (F0 m 1713 ls []) := by
  have hx := ha.1
  have hb := ha.2.1
  obtain ⟨h4, h5⟩ := NV_45 hJ
  have hp0 := hN.1.1
  have hq0 := hN.1.2
  have hpb := (J_plan hJ).1
  have hpr := (J_plan hJ).2
  have hg := J_gs hJ
  refine lv_iload hx hb dL_law_1713 (lv_at hl 12 rfl) ?_
  refine lv_bipush (v := 41) hx hb dL_law_1715 (by decide) ?_
  refine lv_icmp_ge (tgt := 1771) hx hb dL_law_1717 (by decide) (fun c_1 => ?_) (fun c_1 => ?_)
  · have hc_1717 := c_1
    exact kout u  _ _ _ rfl hP hS (lv_sub hl [0, 1, 2, 3, 4, 5, 6, 7, 8, 9, 10] rfl)
  · have hc_1717 := c_1
    have hn : n < 41 := lt_of_nle (b := 41) hc_1717 (by omega) (by omega)
    refine lv_aload_n hx hb dL_law_1720 rfl (lv_at hl 1 rfl) ?_
    refine lv_iload hx hb dL_law_1721 (lv_at hl 12 rfl) ?_
    refine xVi ha hP hS (y := yX7_later) (As := [.int (nI n)]) (rest := []) 0 (by decide) (cX_0 G _) rfl rfl (c_X7_later G l u (nI n) (J_PO hJ)) kw_L_111 hd_X7_later rfl ⟨rfl, rfl⟩ ⟨Nat.le_of_ble_eq_true rfl, Nat.le_of_ble_eq_true rfl⟩ hcs hl.1 (Nat.le_of_ble_eq_true rfl) rfl dL_law_1723 (fun r_2 v1 H locs hpq hP hS => ?_)
    obtain ⟨hr_, hu_⟩ := hpq
    have hq_ := q_later hJ hp0 (n := n) (by omega)
    simp only [← hr_, ← hu_] at hq_
    clear hr_ hu_
    obtain ⟨h_r, t1, hJ, rs⟩ := hq_
    subst h_r
    refine lv_istore (lv' := [(18, .int (a_highAll P (yrs P S n))), (0, .ref (G.1 1000)), (1, .ref (G.1 0)), (2, .ref (G.1 72)), (3, .ref (G.1 73)), (4, .int (nI (nPl P))), (5, .int (nI (nPe P))), (7, .int (nI D)), (8, .int (S 0 0)), (9, .int (a_highAll P S)), (10, .int ((1 <<< (nI (nPl P) &&& 31)) - 1)), (11, .int (a_standing P S)), (16, .int (a_highAll P (yrs P S pv))), (17, .int (nI n))]) hx hb dL_law_1726 hl (by decide) rfl (fun ls hl => ?_)
    refine lv_iload hx hb dL_law_1728 (lv_at hl 0 rfl) ?_
    refine lv_iload hx hb dL_law_1730 (lv_at hl 12 rfl) ?_
    refine lv_icmp_gt (tgt := 1759) hx hb dL_law_1732 (by decide) (fun c_3 => absurd c_3 (by have q := later_nlt hg pv (n - pv); rw [show pv + (n - pv) = n by omega] at q; exact q)) (fun c_3 => ?_)
    refine lv_aload_n hx hb dL_law_1735 rfl (lv_at hl 2 rfl) ?_
    refine xVi ha hP hS (y := yX7_asked) (As := []) (rest := []) 0 (by decide) (cX_0 G _) rfl rfl (c_X7_asked G l v1  ) kw_L_119 hd_X7_asked rfl ⟨rfl, rfl⟩ ⟨Nat.le_of_ble_eq_true rfl, Nat.le_of_ble_eq_true rfl⟩ hcs hl.1 (Nat.le_of_ble_eq_true rfl) rfl dL_law_1736 (fun r_4 v2 H locs hpq hP hS => ?_)
    obtain ⟨hr_, hu_⟩ := hpq
    have hu_ := hu_.symm
    subst hu_
    have hr_ := hr_.trans t1
    have hr_ := hr_.symm
    subst hr_
    refine lv_iload hx hb dL_law_1739 (lv_at hl 8 rfl) ?_
    refine lv_iand hx hb dL_law_1741 ?_
    refine lv_iload hx hb dL_law_1742 (lv_at hl 8 rfl) ?_
    refine lv_icmp_ne (tgt := 1759) hx hb dL_law_1744 (by decide) (fun c_5 => absurd (later_down hg n) c_5) (fun c_5 => ?_)
    refine lv_iload hx hb dL_law_1747 (lv_at hl 13 rfl) ?_
    refine lv_if_ne (tgt := 1761) hx hb dL_law_1749 (by decide) (fun c_6 => ?_) (fun c_6 => ?_)
    · have hc_1749 := c_6
      refine lv_iload hx hb dL_law_1761 (lv_at hl 0 rfl) ?_
      refine lv_istore (lv' := [(16, .int (a_highAll P (yrs P S n))), (18, .int (a_highAll P (yrs P S n))), (0, .ref (G.1 1000)), (1, .ref (G.1 0)), (2, .ref (G.1 72)), (3, .ref (G.1 73)), (4, .int (nI (nPl P))), (5, .int (nI (nPe P))), (7, .int (nI D)), (8, .int (S 0 0)), (9, .int (a_highAll P S)), (10, .int ((1 <<< (nI (nPl P) &&& 31)) - 1)), (11, .int (a_standing P S)), (17, .int (nI n))]) hx hb dL_law_1763 hl (by decide) rfl (fun ls hl => ?_)
      refine lv_iinc (v := nI (n + 4)) (lv' := [(17, .int (nI (n + 4))), (16, .int (a_highAll P (yrs P S n))), (18, .int (a_highAll P (yrs P S n))), (0, .ref (G.1 1000)), (1, .ref (G.1 0)), (2, .ref (G.1 72)), (3, .ref (G.1 73)), (4, .int (nI (nPl P))), (5, .int (nI (nPe P))), (7, .int (nI D)), (8, .int (S 0 0)), (9, .int (a_highAll P S)), (10, .int ((1 <<< (nI (nPl P) &&& 31)) - 1)), (11, .int (a_standing P S))]) hx hb dL_law_1765 hl (k := 13) rfl (nI_add n 4) (by decide) rfl (fun ls hl => ?_)
      refine lv_goto (tgt := 1713) hx hb dL_law_1768 (by decide) ?_
      exact kback v1  _ _ _ hJ hn hP hS (lv_sub hl [3, 4, 5, 6, 7, 8, 9, 10, 11, 12, 13, 1, 0] rfl)
    · have hc_1749 := c_6
      refine lv_iload hx hb dL_law_1752 (lv_at hl 0 rfl) ?_
      refine lv_iload hx hb dL_law_1754 (lv_at hl 9 rfl) ?_
      refine lv_icmp_eq (tgt := 1761) hx hb dL_law_1756 (by decide) (fun c_7 => ?_) (fun c_7 => absurd (by rw [nI_0e hc_1749 (by omega)]; rfl) c_7)
      refine lv_iload hx hb dL_law_1761 (lv_at hl 0 rfl) ?_
      refine lv_istore (lv' := [(16, .int (a_highAll P (yrs P S n))), (18, .int (a_highAll P (yrs P S n))), (0, .ref (G.1 1000)), (1, .ref (G.1 0)), (2, .ref (G.1 72)), (3, .ref (G.1 73)), (4, .int (nI (nPl P))), (5, .int (nI (nPe P))), (7, .int (nI D)), (8, .int (S 0 0)), (9, .int (a_highAll P S)), (10, .int ((1 <<< (nI (nPl P) &&& 31)) - 1)), (11, .int (a_standing P S)), (17, .int (nI n))]) hx hb dL_law_1763 hl (by decide) rfl (fun ls hl => ?_)
      refine lv_iinc (v := nI (n + 4)) (lv' := [(17, .int (nI (n + 4))), (16, .int (a_highAll P (yrs P S n))), (18, .int (a_highAll P (yrs P S n))), (0, .ref (G.1 1000)), (1, .ref (G.1 0)), (2, .ref (G.1 72)), (3, .ref (G.1 73)), (4, .int (nI (nPl P))), (5, .int (nI (nPe P))), (7, .int (nI D)), (8, .int (S 0 0)), (9, .int (a_highAll P S)), (10, .int ((1 <<< (nI (nPl P) &&& 31)) - 1)), (11, .int (a_standing P S))]) hx hb dL_law_1765 hl (k := 13) rfl (nI_add n 4) (by decide) rfl (fun ls hl => ?_)
      refine lv_goto (tgt := 1713) hx hb dL_law_1768 (by decide) ?_
      exact kback v1  _ _ _ hJ hn hP hS (lv_sub hl [3, 4, 5, 6, 7, 8, 9, 10, 11, 12, 13, 1, 0] rfl)
end SC06

