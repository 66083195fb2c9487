
theorem hd_X7_at : kHd yX7_at 2 := by decide +kernel
theorem hd_X7_laces : kHd yX7_laces 2 := by decide +kernel
theorem hd_X7_on : kHd yX7_on 1 := by decide +kernel
theorem kw_L_143 : ∀ w ∈ k5V RL 143 yX7_laces cX7_laces 4 (some .int), w ∈ TB := tb_ins (by decide +kernel)
theorem kw_L_146 : ∀ w ∈ k5V RL 146 yX7_at cX7_at 5 (some .int), w ∈ TB := tb_ins (by decide +kernel)
theorem kw_L_149 : ∀ w ∈ k5V RL 149 yX7_on cX7_on 3 (some .int), w ∈ TB := tb_ins (by decide +kernel)
section SC07
variable {p : Program} {l : Launch} {e : Env} {s : State} {m : MethodId} {args : Array Value} {below : List Frame} {meth : Method} {c : Code} {H : Heap} {locs : List Loc} {cells slots : Nat} {Q : State → Prop} {ls : Array Slot} {G : GT}
set_option maxHeartbeats 4000000 in
set_option maxRecDepth 100000 in
theorem seg_1771 (ha : Amb p c cL_law 31 s args RL m meth (some .boolean) G 74) (hcs : cells ≤ room_1.cells ∧ slots ≤ room_1.slots) (P : PT) (Z : Nat → Int32) (K : KT) (S : PT) (D : Nat) (C : Nat → Int32) {u : Mem} (hN : NV P Z) (hJ : J P Z K S D C u) (hP : va_P G.2.1 vwCl (wl G 74 (cX G u)) H) (hS : va_S (xA G 74 s.heap.size) s.heap H locs) (hl : lv_has ls 31 [(0, .ref (G.1 1000)), (1, .ref (G.1 0)), (2, .ref (G.1 72)), (3, .ref (G.1 73)), (4, .int (nI (nPl P))), (5, .int (nI (nPe P))), (7, .int (nI D)), (8, .int (S 0 0)), (9, .int (a_highAll P S)), (10, .int ((1 <<< (nI (nPl P) &&& 31)) - 1)), (11, .int (a_standing P S))])
    (kk : ∀ (v : Mem)  (H : Heap) (locs : List Loc) (ls : Array Slot), (v = u) → va_P G.2.1 vwCl (wl G 74 (cX G v)) H → va_S (xA G 74 s.heap.size) s.heap H locs → lv_has ls 31 [(0, .ref (G.1 1000)), (1, .ref (G.1 0)), (2, .ref (G.1 72)), (3, .ref (G.1 73)), (4, .int (nI (nPl P))), (5, .int (nI (nPe P))), (7, .int (nI D)), (8, .int (S 0 0)), (9, .int (a_highAll P S)), (10, .int ((1 <<< (nI (nPl P) &&& 31)) - 1)), (11, .int (a_standing P S)), (17, .int 0), (18, .int (nI 0))] → W p l e room_1 s m args below meth c H locs cells slots Q (F0 m 1777 ls [])) : W p l e room_1 s m args below meth c H locs cells slots Q (F0 m 1771 ls []) := by
  have hx := ha.1
  have hb := ha.2.1
  obtain ⟨h4, h5⟩ := NV_45 hJ
  have hp0 := hN.1.1
  have hq0 := hN.1.2
  have hpb := (J_plan hJ).1
  have hpr := (J_plan hJ).2
  have hg := J_gs hJ
  refine lv_iconst (v := 0) hx hb dL_law_1771 (by decide) ?_
  refine lv_istore (lv' := [(17, .int 0), (0, .ref (G.1 1000)), (1, .ref (G.1 0)), (2, .ref (G.1 72)), (3, .ref (G.1 73)), (4, .int (nI (nPl P))), (5, .int (nI (nPe P))), (7, .int (nI D)), (8, .int (S 0 0)), (9, .int (a_highAll P S)), (10, .int ((1 <<< (nI (nPl P) &&& 31)) - 1)), (11, .int (a_standing P S))]) hx hb dL_law_1772 hl (by decide) rfl (fun ls hl => ?_)
  refine lv_iconst (v := 0) hx hb dL_law_1774 (by decide) ?_
  refine lv_istore (lv' := [(18, .int 0), (17, .int 0), (0, .ref (G.1 1000)), (1, .ref (G.1 0)), (2, .ref (G.1 72)), (3, .ref (G.1 73)), (4, .int (nI (nPl P))), (5, .int (nI (nPe P))), (7, .int (nI D)), (8, .int (S 0 0)), (9, .int (a_highAll P S)), (10, .int ((1 <<< (nI (nPl P) &&& 31)) - 1)), (11, .int (a_standing P S))]) hx hb dL_law_1775 hl (by decide) rfl (fun ls hl => ?_)
  exact kk u  _ _ _ rfl hP hS (lv_sub hl [2, 3, 4, 5, 6, 7, 8, 9, 10, 11, 12, 1, 0] rfl)
set_option maxHeartbeats 4000000 in
set_option maxRecDepth 100000 in
theorem seg_1777 (ha : Amb p c cL_law 31 s args RL m meth (some .boolean) G 74) (hcs : cells ≤ room_1.cells ∧ slots ≤ room_1.slots) (P : PT) (Z : Nat → Int32) (K : KT) (S : PT) (D : Nat) (C : Nat → Int32) (n : Nat) (had : Int32) {u : Mem} (hN : NV P Z) (hJ : J P Z K S D C u) (hn0 : n ≤ 4) (hP : va_P G.2.1 vwCl (wl G 74 (cX G u)) H) (hS : va_S (xA G 74 s.heap.size) s.heap H locs) (hl : lv_has ls 31 [(0, .ref (G.1 1000)), (1, .ref (G.1 0)), (2, .ref (G.1 72)), (3, .ref (G.1 73)), (4, .int (nI (nPl P))), (5, .int (nI (nPe P))), (7, .int (nI D)), (8, .int (S 0 0)), (9, .int (a_highAll P S)), (10, .int ((1 <<< (nI (nPl P) &&& 31)) - 1)), (11, .int (a_standing P S)), (17, .int had), (18, .int (nI n))])
    (kout : ∀ (v : Mem)  (H : Heap) (locs : List Loc) (ls : Array Slot), (v = u) → va_P G.2.1 vwCl (wl G 74 (cX G v)) H → va_S (xA G 74 s.heap.size) s.heap H locs → lv_has ls 31 [(0, .ref (G.1 1000)), (1, .ref (G.1 0)), (2, .ref (G.1 72)), (3, .ref (G.1 73)), (4, .int (nI (nPl P))), (5, .int (nI (nPe P))), (7, .int (nI D)), (8, .int (S 0 0)), (9, .int (a_highAll P S)), (10, .int ((1 <<< (nI (nPl P) &&& 31)) - 1)), (11, .int (a_standing P S))] → W p l e room_1 s m args below meth c H locs cells slots Q (F0 m 2042 ls []))
    (kin : ∀ (v : Mem) (L19 : Int32) (sl : Nat → Int32) (H : Heap) (locs : List Loc) (ls : Array Slot), (J P Z K S D C v) → (LacOf P S n L19 sl) → (¬ L19 = -9 → RW 2 n sl v) → (n < 4) → va_P G.2.1 vwCl (wl G 74 (cX G v)) H → va_S (xA G 74 s.heap.size) s.heap H locs → lv_has ls 31 [(0, .ref (G.1 1000)), (1, .ref (G.1 0)), (2, .ref (G.1 72)), (3, .ref (G.1 73)), (4, .int (nI (nPl P))), (5, .int (nI (nPe P))), (7, .int (nI D)), (8, .int (S 0 0)), (9, .int (a_highAll P S)), (10, .int ((1 <<< (nI (nPl P) &&& 31)) - 1)), (11, .int (a_standing P S)), (17, .int had), (18, .int (nI n)), (19, .int L19)] → W p l e room_1 s m args below meth c H locs cells slots Q (F0 m 1792 ls [])) : W p l e room_1 s m args below meth c H locs cells slots Q (F0 m 1777 ls []) := by
  have hx := ha.1
  have hb := ha.2.1
  obtain ⟨h4, h5⟩ := NV_45 hJ
  have hp0 := hN.1.1
  have hq0 := hN.1.2
  have hpb := (J_plan hJ).1
  have hpr := (J_plan hJ).2
  have hg := J_gs hJ
  refine lv_iload hx hb dL_law_1777 (lv_at hl 12 rfl) ?_
  refine lv_iconst (v := 4) hx hb dL_law_1779 (by decide) ?_
  refine lv_icmp_ge (tgt := 2042) hx hb dL_law_1780 (by decide) (fun c_1 => ?_) (fun c_1 => ?_)
  · have hc_1780 := c_1
    exact kout u  _ _ _ rfl hP hS (lv_sub hl [0, 1, 2, 3, 4, 5, 6, 7, 8, 9, 10] rfl)
  · have hc_1780 := c_1
    have hn : n < 4 := lt_of_nle (b := 4) hc_1780 (by omega) (by omega)
    refine lv_aload_n hx hb dL_law_1783 rfl (lv_at hl 1 rfl) ?_
    refine lv_iload hx hb dL_law_1784 (lv_at hl 12 rfl) ?_
    refine lv_iconst (v := (nI 2)) hx hb dL_law_1786 (by decide) ?_
    refine xVi ha hP hS (y := yX7_laces) (As := [.int (nI n), .int (nI 2)]) (rest := []) 0 (by decide) (cX_0 G _) rfl rfl (c_X7_laces G l u (nI n) (nI 2) (J_PO hJ)) kw_L_143 hd_X7_laces rfl ⟨rfl, rfl⟩ ⟨Nat.le_of_ble_eq_true rfl, Nat.le_of_ble_eq_true rfl⟩ hcs hl.1 (Nat.le_of_ble_eq_true rfl) rfl dL_law_1787 (fun L19 v1 H locs hpq hP hS => ?_)
    obtain ⟨hr_, hu_⟩ := hpq
    have hq_ := q_laces hJ hp0 (n := n) (r := 2) (by omega) (by decide)
    simp only [← hr_, ← hu_] at hq_
    clear hr_ hu_
    obtain ⟨sl, hL, hW, hJ⟩ := hq_
    refine lv_istore (lv' := [(19, .int L19), (0, .ref (G.1 1000)), (1, .ref (G.1 0)), (2, .ref (G.1 72)), (3, .ref (G.1 73)), (4, .int (nI (nPl P))), (5, .int (nI (nPe P))), (7, .int (nI D)), (8, .int (S 0 0)), (9, .int (a_highAll P S)), (10, .int ((1 <<< (nI (nPl P) &&& 31)) - 1)), (11, .int (a_standing P S)), (17, .int had), (18, .int (nI n))]) hx hb dL_law_1790 hl (by decide) rfl (fun ls hl => ?_)
    exact kin v1 L19 sl _ _ _ hJ hL hW hn hP hS (lv_sub hl [1, 2, 3, 4, 5, 6, 7, 8, 9, 10, 11, 12, 13, 0] rfl)
set_option maxHeartbeats 4000000 in
set_option maxRecDepth 100000 in
theorem seg_1792 (ha : Amb p c cL_law 31 s args RL m meth (some .boolean) G 74) (hcs : cells ≤ room_1.cells ∧ slots ≤ room_1.slots) (P : PT) (Z : Nat → Int32) (K : KT) (S : PT) (D : Nat) (C : Nat → Int32) (n : Nat) (had : Int32) (L19 : Int32) (sl : Nat → Int32) {u : Mem} (hN : NV P Z) (hJ : J P Z K S D C u) (hn : n < 4) (hh : HadOf P S n had) (hL : LacOf P S n L19 sl) (hP : va_P G.2.1 vwCl (wl G 74 (cX G u)) H) (hS : va_S (xA G 74 s.heap.size) s.heap H locs) (hl : lv_has ls 31 [(0, .ref (G.1 1000)), (1, .ref (G.1 0)), (2, .ref (G.1 72)), (3, .ref (G.1 73)), (4, .int (nI (nPl P))), (5, .int (nI (nPe P))), (7, .int (nI D)), (8, .int (S 0 0)), (9, .int (a_highAll P S)), (10, .int ((1 <<< (nI (nPl P) &&& 31)) - 1)), (11, .int (a_standing P S)), (17, .int had), (18, .int (nI n)), (19, .int L19)])
    (kk : ∀ (v : Mem)  (H : Heap) (locs : List Loc) (ls : Array Slot), (v = u) → va_P G.2.1 vwCl (wl G 74 (cX G v)) H → va_S (xA G 74 s.heap.size) s.heap H locs → lv_has ls 31 [(0, .ref (G.1 1000)), (1, .ref (G.1 0)), (2, .ref (G.1 72)), (3, .ref (G.1 73)), (4, .int (nI (nPl P))), (5, .int (nI (nPe P))), (7, .int (nI D)), (8, .int (S 0 0)), (9, .int (a_highAll P S)), (10, .int ((1 <<< (nI (nPl P) &&& 31)) - 1)), (11, .int (a_standing P S)), (17, .int had), (18, .int (nI n)), (19, .int L19)] → W p l e room_1 s m args below meth c H locs cells slots Q (F0 m 1836 ls [])) : W p l e room_1 s m args below meth c H locs cells slots Q (F0 m 1792 ls []) := by
  have hx := ha.1
  have hb := ha.2.1
  obtain ⟨h4, h5⟩ := NV_45 hJ
  have hp0 := hN.1.1
  have hq0 := hN.1.2
  have hpb := (J_plan hJ).1
  have hpr := (J_plan hJ).2
  have hg := J_gs hJ
  obtain ⟨hA, hB, hE⟩ := lac_chk hh hL hn
  have hC := (lac_rng hL (by omega)).1
  refine lv_iload hx hb dL_law_1792 (lv_at hl 11 rfl) ?_
  refine lv_if_ge (tgt := 1805) hx hb dL_law_1794 (by decide) (fun c_1 => ?_) (fun c_1 => ?_)
  · have hc_1794 := c_1
    refine lv_iload hx hb dL_law_1805 (lv_at hl 13 rfl) ?_
    refine lv_if_lt (tgt := 1817) hx hb dL_law_1807 (by decide) (fun c_2 => ?_) (fun c_2 => ?_)
    · have hc_1807 := c_2
      refine lv_iload hx hb dL_law_1817 (lv_at hl 13 rfl) ?_
      refine lv_iload hx hb dL_law_1819 (lv_at hl 12 rfl) ?_
      refine lv_icmp_gt (tgt := 1834) hx hb dL_law_1821 (by decide) (fun c_3 => absurd c_3 hC) (fun c_3 => ?_)
      refine lv_iload hx hb dL_law_1824 (lv_at hl 12 rfl) ?_
      refine lv_if_ne (tgt := 1836) hx hb dL_law_1826 (by decide) (fun c_4 => ?_) (fun c_4 => ?_)
      · have hc_1826 := c_4
        exact kk u  _ _ _ rfl hP hS (lv_sub hl [0, 1, 2, 3, 4, 5, 6, 7, 8, 9, 10, 11, 12, 13] rfl)
      · have hc_1826 := c_4
        refine lv_iload hx hb dL_law_1829 (lv_at hl 13 rfl) ?_
        refine lv_if_eq (tgt := 1836) hx hb dL_law_1831 (by decide) (fun c_5 => ?_) (fun c_5 => absurd (hE hc_1826) c_5)
        exact kk u  _ _ _ rfl hP hS (lv_sub hl [0, 1, 2, 3, 4, 5, 6, 7, 8, 9, 10, 11, 12, 13] rfl)
    · have hc_1807 := c_2
      refine lv_iload hx hb dL_law_1810 (lv_at hl 13 rfl) ?_
      refine lv_iload hx hb dL_law_1812 (lv_at hl 11 rfl) ?_
      refine lv_icmp_lt (tgt := 1834) hx hb dL_law_1814 (by decide) (fun c_6 => absurd c_6 (hB hc_1807)) (fun c_6 => ?_)
      refine lv_iload hx hb dL_law_1817 (lv_at hl 13 rfl) ?_
      refine lv_iload hx hb dL_law_1819 (lv_at hl 12 rfl) ?_
      refine lv_icmp_gt (tgt := 1834) hx hb dL_law_1821 (by decide) (fun c_7 => absurd c_7 hC) (fun c_7 => ?_)
      refine lv_iload hx hb dL_law_1824 (lv_at hl 12 rfl) ?_
      refine lv_if_ne (tgt := 1836) hx hb dL_law_1826 (by decide) (fun c_8 => ?_) (fun c_8 => ?_)
      · have hc_1826 := c_8
        exact kk u  _ _ _ rfl hP hS (lv_sub hl [0, 1, 2, 3, 4, 5, 6, 7, 8, 9, 10, 11, 12, 13] rfl)
      · have hc_1826 := c_8
        refine lv_iload hx hb dL_law_1829 (lv_at hl 13 rfl) ?_
        refine lv_if_eq (tgt := 1836) hx hb dL_law_1831 (by decide) (fun c_9 => ?_) (fun c_9 => absurd (hE hc_1826) c_9)
        exact kk u  _ _ _ rfl hP hS (lv_sub hl [0, 1, 2, 3, 4, 5, 6, 7, 8, 9, 10, 11, 12, 13] rfl)
  · have hc_1794 := c_1
    refine lv_iload hx hb dL_law_1797 (lv_at hl 13 rfl) ?_
    refine lv_if_lt (tgt := 1836) hx hb dL_law_1799 (by decide) (fun c_10 => ?_) (fun c_10 => absurd (hA hc_1794) c_10)
    exact kk u  _ _ _ rfl hP hS (lv_sub hl [0, 1, 2, 3, 4, 5, 6, 7, 8, 9, 10, 11, 12, 13] rfl)
set_option maxHeartbeats 4000000 in
set_option maxRecDepth 100000 in
theorem seg_1836 (ha : Amb p c cL_law 31 s args RL m meth (some .boolean) G 74) (hcs : cells ≤ room_1.cells ∧ slots ≤ room_1.slots) (P : PT) (Z : Nat → Int32) (K : KT) (S : PT) (D : Nat) (C : Nat → Int32) (n : Nat) (had : Int32) (L19 : Int32) (sl : Nat → Int32) {u : Mem} (hN : NV P Z) (hJ : J P Z K S D C u) (hn : n < 4) (hD : D ≤ 21) (hL : LacOf P S n L19 sl) (hW0 : ¬ L19 = -9 → RW 2 n sl u) (hP : va_P G.2.1 vwCl (wl G 74 (cX G u)) H) (hS : va_S (xA G 74 s.heap.size) s.heap H locs) (hl : lv_has ls 31 [(0, .ref (G.1 1000)), (1, .ref (G.1 0)), (2, .ref (G.1 72)), (3, .ref (G.1 73)), (4, .int (nI (nPl P))), (5, .int (nI (nPe P))), (7, .int (nI D)), (8, .int (S 0 0)), (9, .int (a_highAll P S)), (10, .int ((1 <<< (nI (nPl P) &&& 31)) - 1)), (11, .int (a_standing P S)), (17, .int had), (18, .int (nI n)), (19, .int L19)])
    (kno : ∀ (v : Mem)  (H : Heap) (locs : List Loc) (ls : Array Slot), (J P Z K S D C v) → va_P G.2.1 vwCl (wl G 74 (cX G v)) H → va_S (xA G 74 s.heap.size) s.heap H locs → lv_has ls 31 [(0, .ref (G.1 1000)), (1, .ref (G.1 0)), (2, .ref (G.1 72)), (3, .ref (G.1 73)), (4, .int (nI (nPl P))), (5, .int (nI (nPe P))), (7, .int (nI D)), (8, .int (S 0 0)), (9, .int (a_highAll P S)), (10, .int ((1 <<< (nI (nPl P) &&& 31)) - 1)), (11, .int (a_standing P S)), (17, .int L19), (18, .int (nI n))] → W p l e room_1 s m args below meth c H locs cells slots Q (F0 m 2036 ls []))
    (kyes : ∀ (v : Mem)  (H : Heap) (locs : List Loc) (ls : Array Slot), (J P Z K S D C v) → (RW 2 n sl v) → (vld P S sl n = true) → (nI (cntS sl n) = L19) → va_P G.2.1 vwCl (wl G 74 (cX G v)) H → va_S (xA G 74 s.heap.size) s.heap H locs → lv_has ls 31 [(0, .ref (G.1 1000)), (1, .ref (G.1 0)), (2, .ref (G.1 72)), (3, .ref (G.1 73)), (4, .int (nI (nPl P))), (5, .int (nI (nPe P))), (7, .int (nI D)), (8, .int (S 0 0)), (9, .int (a_highAll P S)), (10, .int ((1 <<< (nI (nPl P) &&& 31)) - 1)), (11, .int (a_standing P S)), (17, .int L19), (18, .int (nI n)), (19, .int L19), (21, .int (nI (cntS sl 0))), (22, .int (nI 0))] → W p l e room_1 s m args below meth c H locs cells slots Q (F0 m 1911 ls [])) : W p l e room_1 s m args below meth c H locs cells slots Q (F0 m 1836 ls []) := by
  have hx := ha.1
  have hb := ha.2.1
  obtain ⟨h4, h5⟩ := NV_45 hJ
  have hp0 := hN.1.1
  have hq0 := hN.1.2
  have hpb := (J_plan hJ).1
  have hpr := (J_plan hJ).2
  have hg := J_gs hJ
  refine lv_iload hx hb dL_law_1836 (lv_at hl 13 rfl) ?_
  refine lv_istore (lv' := [(17, .int L19), (0, .ref (G.1 1000)), (1, .ref (G.1 0)), (2, .ref (G.1 72)), (3, .ref (G.1 73)), (4, .int (nI (nPl P))), (5, .int (nI (nPe P))), (7, .int (nI D)), (8, .int (S 0 0)), (9, .int (a_highAll P S)), (10, .int ((1 <<< (nI (nPl P) &&& 31)) - 1)), (11, .int (a_standing P S)), (18, .int (nI n)), (19, .int L19)]) hx hb dL_law_1838 hl (by decide) rfl (fun ls hl => ?_)
  refine lv_aload_n hx hb dL_law_1840 rfl (lv_at hl 2 rfl) ?_
  refine lv_iload hx hb dL_law_1841 (lv_at hl 12 rfl) ?_
  refine xVi ha hP hS (y := yX7_later) (As := [.int (nI n)]) (rest := []) 0 (by decide) (cX_0 G _) rfl rfl (c_X7_later G l u (nI n) (J_PO hJ)) kw_L_111 hd_X7_later rfl ⟨rfl, rfl⟩ ⟨Nat.le_of_ble_eq_true rfl, Nat.le_of_ble_eq_true rfl⟩ hcs hl.1 (Nat.le_of_ble_eq_true rfl) rfl dL_law_1843 (fun r_1 v1 H locs hpq hP hS => ?_)
  obtain ⟨hr_, hu_⟩ := hpq
  have hq_ := q_later hJ hp0 (n := n) (by omega)
  simp only [← hr_, ← hu_] at hq_
  clear hr_ hu_
  obtain ⟨h_r, t1, hJ, rs⟩ := hq_
  subst h_r
  refine lv_if_ge (tgt := 1851) hx hb dL_law_1846 (by decide) (fun c_2 => ?_) (fun c_2 => absurd (i_leI (i_nlt (later_0 hg n))) c_2)
  refine lv_aload_n hx hb dL_law_1851 rfl (lv_at hl 2 rfl) ?_
  refine xVi ha hP hS (y := yX7_asked) (As := []) (rest := []) 0 (by decide) (cX_0 G _) rfl rfl (c_X7_asked G l v1  ) kw_L_119 hd_X7_asked rfl ⟨rfl, rfl⟩ ⟨Nat.le_of_ble_eq_true rfl, Nat.le_of_ble_eq_true rfl⟩ hcs hl.1 (Nat.le_of_ble_eq_true rfl) rfl dL_law_1852 (fun r_3 v2 H locs hpq hP hS => ?_)
  obtain ⟨hr_, hu_⟩ := hpq
  have hu_ := hu_.symm
  subst hu_
  have hr_ := hr_.trans t1
  have hr_ := hr_.symm
  subst hr_
  refine lv_iload hx hb dL_law_1855 (lv_at hl 8 rfl) ?_
  have jn_1865_4 : ∀ (x : Int32), (x = (if yrs P S n 0 0 = S 0 0 then (1 : Int32) else 0)) → W p l e room_1 s m args below meth c H locs cells slots Q (F0 m 1865 ls [.int x]) := by
    intro x ex
    subst ex
    refine lv_istore (lv' := [(20, .int (if yrs P S n 0 0 = S 0 0 then (1 : Int32) else 0)), (17, .int L19), (0, .ref (G.1 1000)), (1, .ref (G.1 0)), (2, .ref (G.1 72)), (3, .ref (G.1 73)), (4, .int (nI (nPl P))), (5, .int (nI (nPe P))), (7, .int (nI D)), (8, .int (S 0 0)), (9, .int (a_highAll P S)), (10, .int ((1 <<< (nI (nPl P) &&& 31)) - 1)), (11, .int (a_standing P S)), (18, .int (nI n)), (19, .int L19)]) hx hb dL_law_1865 hl (by decide) rfl (fun ls hl => ?_)
    refine lv_iload hx hb dL_law_1867 (lv_at hl 14 rfl) ?_
    have jn_1877_5 : ∀ (x : Int32), (x = (if L19 = 0 then (1 : Int32) else 0)) → W p l e room_1 s m args below meth c H locs cells slots Q (F0 m 1877 ls [.int x]) := by
      intro x ex
      subst ex
      refine lv_iload hx hb dL_law_1877 (lv_at hl 0 rfl) ?_
      refine lv_icmp_eq (tgt := 1884) hx hb dL_law_1879 (by decide) (fun c_6 => ?_) (fun c_6 => absurd (flag_iff (lac_still hg hL (by omega))) c_6)
      refine lv_iload hx hb dL_law_1884 (lv_at hl 14 rfl) ?_
      refine lv_if_lt (tgt := 2036) hx hb dL_law_1886 (by decide) (fun c_7 => ?_) (fun c_7 => ?_)
      · have hc_1886 := c_7
        exact kno v1  _ _ _ hJ hP hS (lv_sub hl [2, 3, 4, 5, 6, 7, 8, 9, 10, 11, 12, 1, 13] rfl)
      · have hc_1886 := c_7
        have hW := RW_s (hW0 (fun z => hc_1886 (by rw [z]; decide))) (by decide) rs
        obtain ⟨hvl, hcl⟩ := lac_yes hL hc_1886
        refine lv_iload hx hb dL_law_1889 (lv_at hl 8 rfl) ?_
        refine lv_iload hx hb dL_law_1891 (lv_at hl 13 rfl) ?_
        refine lw_iaddE (z := (nI (D + n))) hx hb dL_law_1893 (nI_add _ _) ?_
        refine lv_iload hx hb dL_law_1894 (lv_at hl 13 rfl) ?_
        refine lw_iaddE (z := (nI ((D + n) + n))) hx hb dL_law_1896 (nI_add _ _) ?_
        refine lv_bipush (v := 40) hx hb dL_law_1897 (by decide) ?_
        refine lv_icmp_le (tgt := 1905) hx hb dL_law_1899 (by decide) (fun c_8 => ?_) (fun c_8 => absurd (le40_i (by omega)) c_8)
        refine lv_iconst (v := 0) hx hb dL_law_1905 (by decide) ?_
        refine lv_istore (lv' := [(21, .int 0), (20, .int (if yrs P S n 0 0 = S 0 0 then (1 : Int32) else 0)), (17, .int L19), (0, .ref (G.1 1000)), (1, .ref (G.1 0)), (2, .ref (G.1 72)), (3, .ref (G.1 73)), (4, .int (nI (nPl P))), (5, .int (nI (nPe P))), (7, .int (nI D)), (8, .int (S 0 0)), (9, .int (a_highAll P S)), (10, .int ((1 <<< (nI (nPl P) &&& 31)) - 1)), (11, .int (a_standing P S)), (18, .int (nI n)), (19, .int L19)]) hx hb dL_law_1906 hl (by decide) rfl (fun ls hl => ?_)
        refine lv_iconst (v := 0) hx hb dL_law_1908 (by decide) ?_
        refine lv_istore (lv' := [(22, .int 0), (21, .int 0), (20, .int (if yrs P S n 0 0 = S 0 0 then (1 : Int32) else 0)), (17, .int L19), (0, .ref (G.1 1000)), (1, .ref (G.1 0)), (2, .ref (G.1 72)), (3, .ref (G.1 73)), (4, .int (nI (nPl P))), (5, .int (nI (nPe P))), (7, .int (nI D)), (8, .int (S 0 0)), (9, .int (a_highAll P S)), (10, .int ((1 <<< (nI (nPl P) &&& 31)) - 1)), (11, .int (a_standing P S)), (18, .int (nI n)), (19, .int L19)]) hx hb dL_law_1909 hl (by decide) rfl (fun ls hl => ?_)
        exact kyes v1  _ _ _ hJ hW hvl hcl hP hS (lv_sub hl [4, 5, 6, 7, 8, 9, 10, 11, 12, 13, 14, 3, 15, 16, 1, 0] rfl)
    refine lv_if_ne (tgt := 1876) hx hb dL_law_1869 (by decide) (fun c_9 => ?_) (fun c_9 => ?_)
    · have hc_1869 := c_9
      refine lv_iconst (v := 0) hx hb dL_law_1876 (by decide) ?_
      exact jn_1877_5 _ ((if_neg hc_1869).symm)
    · have hc_1869 := c_9
      refine lv_iconst (v := 1) hx hb dL_law_1872 (by decide) ?_
      refine lv_goto (tgt := 1877) hx hb dL_law_1873 (by decide) ?_
      exact jn_1877_5 _ ((if_pos hc_1869).symm)
  refine lv_icmp_ne (tgt := 1864) hx hb dL_law_1857 (by decide) (fun c_10 => ?_) (fun c_10 => ?_)
  · have hc_1857 := c_10
    refine lv_iconst (v := 0) hx hb dL_law_1864 (by decide) ?_
    exact jn_1865_4 _ ((if_neg hc_1857).symm)
  · have hc_1857 := c_10
    refine lv_iconst (v := 1) hx hb dL_law_1860 (by decide) ?_
    refine lv_goto (tgt := 1865) hx hb dL_law_1861 (by decide) ?_
    exact jn_1865_4 _ ((if_pos hc_1857).symm)
set_option maxHeartbeats 4000000 in
set_option maxRecDepth 100000 in
theorem seg_1911 (ha : Amb p c cL_law 31 s args RL m meth (some .boolean) G 74) (hcs : cells ≤ room_1.cells ∧ slots ≤ room_1.slots) (P : PT) (Z : Nat → Int32) (K : KT) (S : PT) (D : Nat) (n : Nat) (L19 : Int32) (sl : Nat → Int32) (y : Nat) (D9 : Nat) (C9 : Nat → Int32) {u : Mem} (hN : NV P Z) (hJ : J P Z K (lyr P S sl y) D9 C9 u) (hgS : GS P S) (hW : RW 2 n sl u) (hv : vld P S sl n = true) (hD9 : D9 ≤ D + 2 * y) (hD : D ≤ 21) (hn : n < 4) (hy0 : y ≤ n) (hP : va_P G.2.1 vwCl (wl G 74 (cX G u)) H) (hS : va_S (xA G 74 s.heap.size) s.heap H locs) (hl : lv_has ls 31 [(0, .ref (G.1 1000)), (1, .ref (G.1 0)), (2, .ref (G.1 72)), (3, .ref (G.1 73)), (4, .int (nI (nPl P))), (5, .int (nI (nPe P))), (7, .int (nI D)), (8, .int (S 0 0)), (9, .int (a_highAll P S)), (10, .int ((1 <<< (nI (nPl P) &&& 31)) - 1)), (11, .int (a_standing P S)), (17, .int L19), (18, .int (nI n)), (19, .int L19), (21, .int (nI (cntS sl y))), (22, .int (nI y))])
    (kout : ∀ (v : Mem)  (H : Heap) (locs : List Loc) (ls : Array Slot), (v = u) → (y = n) → va_P G.2.1 vwCl (wl G 74 (cX G v)) H → va_S (xA G 74 s.heap.size) s.heap H locs → lv_has ls 31 [(0, .ref (G.1 1000)), (1, .ref (G.1 0)), (2, .ref (G.1 72)), (3, .ref (G.1 73)), (4, .int (nI (nPl P))), (5, .int (nI (nPe P))), (7, .int (nI D)), (8, .int (S 0 0)), (9, .int (a_highAll P S)), (10, .int ((1 <<< (nI (nPl P) &&& 31)) - 1)), (11, .int (a_standing P S)), (17, .int L19), (18, .int (nI n)), (19, .int L19), (21, .int (nI (cntS sl y)))] → W p l e room_1 s m args below meth c H locs cells slots Q (F0 m 2007 ls []))
    (kin : ∀ (v : Mem)  (H : Heap) (locs : List Loc) (ls : Array Slot), (J P Z K (lyr P S sl y) D9 C9 v) → (RW 2 n sl v) → (y < n) → va_P G.2.1 vwCl (wl G 74 (cX G v)) H → va_S (xA G 74 s.heap.size) s.heap H locs → lv_has ls 31 [(0, .ref (G.1 1000)), (1, .ref (G.1 0)), (2, .ref (G.1 72)), (3, .ref (G.1 73)), (4, .int (nI (nPl P))), (5, .int (nI (nPe P))), (7, .int (nI D)), (8, .int (S 0 0)), (9, .int (a_highAll P S)), (10, .int ((1 <<< (nI (nPl P) &&& 31)) - 1)), (11, .int (a_standing P S)), (17, .int L19), (18, .int (nI n)), (19, .int L19), (21, .int (nI (cntS sl y))), (22, .int (nI y)), (23, .int (sl y))] → W p l e room_1 s m args below meth c H locs cells slots Q (F0 m 1937 ls [])) : W p l e room_1 s m args below meth c H locs cells slots Q (F0 m 1911 ls []) := by
  have hx := ha.1
  have hb := ha.2.1
  obtain ⟨h4, h5⟩ := NV_45 hJ
  have hp0 := hN.1.1
  have hq0 := hN.1.2
  have hpb := (J_plan hJ).1
  have hpr := (J_plan hJ).2
  have hg := J_gs hJ
  refine lv_iload hx hb dL_law_1911 (lv_at hl 15 rfl) ?_
  refine lv_iload hx hb dL_law_1913 (lv_at hl 12 rfl) ?_
  refine lv_icmp_ge (tgt := 2007) hx hb dL_law_1915 (by decide) (fun c_1 => ?_) (fun c_1 => ?_)
  · have hc_1915 := c_1
    have hy := eq_of_le hc_1915 hy0 (by omega)
    exact kout u  _ _ _ rfl hy hP hS (lv_sub hl [0, 1, 2, 3, 4, 5, 6, 7, 8, 9, 10, 11, 12, 13, 14] rfl)
  · have hc_1915 := c_1
    have hy : y < n := lt_of_nle hc_1915 (by omega) (by omega)
    refine lv_aload_n hx hb dL_law_1918 rfl (lv_at hl 1 rfl) ?_
    refine lv_iconst (v := (nI 2)) hx hb dL_law_1919 (by decide) ?_
    refine lv_iload hx hb dL_law_1920 (lv_at hl 15 rfl) ?_
    refine xVi ha hP hS (y := yX7_at) (As := [.int (nI 2), .int (nI y)]) (rest := []) 0 (by decide) (cX_0 G _) rfl rfl (c_X7_at G l u (nI 2) (nI y) ) kw_L_146 hd_X7_at rfl ⟨rfl, rfl⟩ ⟨Nat.le_of_ble_eq_true rfl, Nat.le_of_ble_eq_true rfl⟩ hcs hl.1 (Nat.le_of_ble_eq_true rfl) rfl dL_law_1922 (fun r_2 v1 H locs hpq hP hS => ?_)
    obtain ⟨hr_, hu_⟩ := hpq
    have hq_ := q_at hJ (r := 2) (n := n) (i := y) (by decide) (by omega) hW hy
    simp only [← hr_, ← hu_] at hq_
    clear hr_ hu_
    obtain ⟨h_r, t1, hJ, rs⟩ := hq_
    subst h_r
    have hW := RW_s hW (by decide) rs
    refine lv_iconst (v := 1) hx hb dL_law_1925 (by decide) ?_
    refine lv_icmp_eq (tgt := 1931) hx hb dL_law_1926 (by decide) (fun c_3 => ?_) (fun c_3 => absurd rfl c_3)
    refine lv_aload_n hx hb dL_law_1931 rfl (lv_at hl 1 rfl) ?_
    refine xVi ha hP hS (y := yX7_asked) (As := []) (rest := []) 0 (by decide) (cX_0 G _) rfl rfl (c_X7_asked G l v1  ) kw_L_119 hd_X7_asked rfl ⟨rfl, rfl⟩ ⟨Nat.le_of_ble_eq_true rfl, Nat.le_of_ble_eq_true rfl⟩ hcs hl.1 (Nat.le_of_ble_eq_true rfl) rfl dL_law_1932 (fun r_4 v2 H locs hpq hP hS => ?_)
    obtain ⟨hr_, hu_⟩ := hpq
    have hu_ := hu_.symm
    subst hu_
    have hr_ := hr_.trans t1
    have hr_ := hr_.symm
    subst hr_
    refine lv_istore (lv' := [(23, .int (sl y)), (0, .ref (G.1 1000)), (1, .ref (G.1 0)), (2, .ref (G.1 72)), (3, .ref (G.1 73)), (4, .int (nI (nPl P))), (5, .int (nI (nPe P))), (7, .int (nI D)), (8, .int (S 0 0)), (9, .int (a_highAll P S)), (10, .int ((1 <<< (nI (nPl P) &&& 31)) - 1)), (11, .int (a_standing P S)), (17, .int L19), (18, .int (nI n)), (19, .int L19), (21, .int (nI (cntS sl y))), (22, .int (nI y))]) hx hb dL_law_1935 hl (by decide) rfl (fun ls hl => ?_)
    exact kin v1  _ _ _ hJ hW hy hP hS (lv_sub hl [1, 2, 3, 4, 5, 6, 7, 8, 9, 10, 11, 12, 13, 14, 15, 16, 0] rfl)
set_option maxHeartbeats 4000000 in
set_option maxRecDepth 100000 in
theorem seg_1937a (ha : Amb p c cL_law 31 s args RL m meth (some .boolean) G 74) (hcs : cells ≤ room_1.cells ∧ slots ≤ room_1.slots) (P : PT) (Z : Nat → Int32) (K : KT) (S : PT) (D : Nat) (n : Nat) (L19 : Int32) (sl : Nat → Int32) (y : Nat) (D9 : Nat) (C9 : Nat → Int32) {u : Mem} (hN : NV P Z) (hJ : J P Z K (lyr P S sl y) D9 C9 u) (hgS : GS P S) (hW : RW 2 n sl u) (hv : vld P S sl n = true) (hD9 : D9 ≤ D + 2 * y) (hD : D ≤ 21) (hn : n < 4) (hy : y < n) (h9 : sl y = -9) (hP : va_P G.2.1 vwCl (wl G 74 (cX G u)) H) (hS : va_S (xA G 74 s.heap.size) s.heap H locs) (hl : lv_has ls 31 [(0, .ref (G.1 1000)), (1, .ref (G.1 0)), (2, .ref (G.1 72)), (3, .ref (G.1 73)), (4, .int (nI (nPl P))), (5, .int (nI (nPe P))), (7, .int (nI D)), (8, .int (S 0 0)), (9, .int (a_highAll P S)), (10, .int ((1 <<< (nI (nPl P) &&& 31)) - 1)), (11, .int (a_standing P S)), (17, .int L19), (18, .int (nI n)), (19, .int L19), (21, .int (nI (cntS sl y))), (22, .int (nI y)), (23, .int (-9))])
    (kback : ∀ (v : Mem)  (H : Heap) (locs : List Loc) (ls : Array Slot), (∃ D8 C8, J P Z K (lyr P S sl (y + 1)) D8 C8 v ∧ D8 ≤ D + 2 * (y + 1)) → (RW 2 n sl v) → va_P G.2.1 vwCl (wl G 74 (cX G v)) H → va_S (xA G 74 s.heap.size) s.heap H locs → lv_has ls 31 [(0, .ref (G.1 1000)), (1, .ref (G.1 0)), (2, .ref (G.1 72)), (3, .ref (G.1 73)), (4, .int (nI (nPl P))), (5, .int (nI (nPe P))), (7, .int (nI D)), (8, .int (S 0 0)), (9, .int (a_highAll P S)), (10, .int ((1 <<< (nI (nPl P) &&& 31)) - 1)), (11, .int (a_standing P S)), (17, .int L19), (18, .int (nI n)), (19, .int L19), (21, .int (nI (cntS sl (y + 1)))), (22, .int (nI (y + 1)))] → W p l e room_1 s m args below meth c H locs cells slots Q (F0 m 1911 ls [])) : W p l e room_1 s m args below meth c H locs cells slots Q (F0 m 1937 ls []) := by
  have hx := ha.1
  have hb := ha.2.1
  obtain ⟨h4, h5⟩ := NV_45 hJ
  have hp0 := hN.1.1
  have hq0 := hN.1.2
  have hpb := (J_plan hJ).1
  have hpr := (J_plan hJ).2
  have hg := J_gs hJ
  refine lv_iload hx hb dL_law_1937 (lv_at hl 16 rfl) ?_
  refine lv_bipush (v := (-9)) hx hb dL_law_1939 (by decide) ?_
  refine lv_icmp_lt (tgt := 1984) hx hb dL_law_1941 (by decide) (fun c_1 => absurd c_1 (by decide)) (fun c_1 => ?_)
  refine lv_iload hx hb dL_law_1944 (lv_at hl 16 rfl) ?_
  refine lv_iload hx hb dL_law_1946 (lv_at hl 4 rfl) ?_
  refine lv_icmp_ge (tgt := 1984) hx hb dL_law_1948 (by decide) (fun c_2 => absurd c_2 (nle_i (by rw [nI_toInt (by omega), show (-9 : Int32).toInt = -9 by decide]; omega))) (fun c_2 => ?_)
  refine lv_iload hx hb dL_law_1951 (lv_at hl 16 rfl) ?_
  refine lv_bipush (v := (-9)) hx hb dL_law_1953 (by decide) ?_
  refine lv_icmp_le (tgt := 1963) hx hb dL_law_1955 (by decide) (fun c_3 => ?_) (fun c_3 => absurd (by decide) c_3)
  refine lv_iload hx hb dL_law_1963 (lv_at hl 16 rfl) ?_
  refine lv_if_lt (tgt := 1977) hx hb dL_law_1965 (by decide) (fun c_4 => ?_) (fun c_4 => absurd (by decide) c_4)
  have hz9 := vld_gave hgS hv hy
  rw [lyr_s9 h9] at hz9
  refine lv_aload_n hx hb dL_law_1977 rfl (lv_at hl 1 rfl) ?_
  refine xVi ha hP hS (y := yX7_year) (As := []) (rest := []) 0 (by decide) (cX_0 G _) rfl rfl (c_X7_year G l u  (J_PO hJ)) kw_L_84 hd_X7_year rfl ⟨rfl, rfl⟩ ⟨Nat.le_of_ble_eq_true rfl, Nat.le_of_ble_eq_true rfl⟩ hcs hl.1 (Nat.le_of_ble_eq_true rfl) rfl dL_law_1978 (fun r_5 v1 H locs hpq hP hS => ?_)
  obtain ⟨hr_, hu_⟩ := hpq
  have hq_ := q_year hJ (by omega) hp0
  simp only [← hr_, ← hu_] at hq_
  clear hr_ hu_
  obtain ⟨h_r, ⟨C1, hC1, hJ⟩, rs⟩ := hq_
  subst h_r
  have hW := RW_s hW (by decide) rs
  have hJ : J P Z K (lyr P S sl (y + 1)) (D9 + 1) C1 v1 := by show J P Z K (dYear P (lacD (lyr P S sl y) (sl y))) (D9 + 1) C1 v1; rw [lyr_s9 h9]; exact hJ
  refine lv_if_eq (tgt := 1986) hx hb dL_law_1981 (by decide) (fun c_6 => ?_) (fun c_6 => absurd hz9 c_6)
  refine lv_iload hx hb dL_law_1986 (lv_at hl 14 rfl) ?_
  refine lv_iload hx hb dL_law_1988 (lv_at hl 16 rfl) ?_
  refine lv_if_lt (tgt := 1997) hx hb dL_law_1990 (by decide) (fun c_7 => ?_) (fun c_7 => absurd (by decide) c_7)
  refine lv_iconst (v := 0) hx hb dL_law_1997 (by decide) ?_
  refine lw_iaddE (z := (nI (cntS sl (y + 1)))) hx hb dL_law_1998 (cnt_s9 h9) ?_
  refine lv_istore (lv' := [(21, .int (nI (cntS sl (y + 1)))), (0, .ref (G.1 1000)), (1, .ref (G.1 0)), (2, .ref (G.1 72)), (3, .ref (G.1 73)), (4, .int (nI (nPl P))), (5, .int (nI (nPe P))), (7, .int (nI D)), (8, .int (S 0 0)), (9, .int (a_highAll P S)), (10, .int ((1 <<< (nI (nPl P) &&& 31)) - 1)), (11, .int (a_standing P S)), (17, .int L19), (18, .int (nI n)), (19, .int L19), (22, .int (nI y)), (23, .int (-9))]) hx hb dL_law_1999 hl (by decide) rfl (fun ls hl => ?_)
  refine lv_iinc (v := nI (y + 1)) (lv' := [(22, .int (nI (y + 1))), (21, .int (nI (cntS sl (y + 1)))), (0, .ref (G.1 1000)), (1, .ref (G.1 0)), (2, .ref (G.1 72)), (3, .ref (G.1 73)), (4, .int (nI (nPl P))), (5, .int (nI (nPe P))), (7, .int (nI D)), (8, .int (S 0 0)), (9, .int (a_highAll P S)), (10, .int ((1 <<< (nI (nPl P) &&& 31)) - 1)), (11, .int (a_standing P S)), (17, .int L19), (18, .int (nI n)), (19, .int L19), (23, .int (-9))]) hx hb dL_law_2001 hl (k := 15) rfl (nI_1 y) (by decide) rfl (fun ls hl => ?_)
  refine lv_goto (tgt := 1911) hx hb dL_law_2004 (by decide) ?_
  exact kback v1  _ _ _ (⟨_, _, hJ, by omega⟩) hW hP hS (lv_sub hl [2, 3, 4, 5, 6, 7, 8, 9, 10, 11, 12, 13, 14, 15, 1, 0] rfl)
set_option maxHeartbeats 4000000 in
set_option maxRecDepth 100000 in
theorem seg_1937b (ha : Amb p c cL_law 31 s args RL m meth (some .boolean) G 74) (hcs : cells ≤ room_1.cells ∧ slots ≤ room_1.slots) (P : PT) (Z : Nat → Int32) (K : KT) (S : PT) (D : Nat) (n : Nat) (L19 : Int32) (sl : Nat → Int32) (y : Nat) (D9 : Nat) (C9 : Nat → Int32) (k : Nat) {u : Mem} (hN : NV P Z) (hJ : J P Z K (lyr P S sl y) D9 C9 u) (hgS : GS P S) (hW : RW 2 n sl u) (hv : vld P S sl n = true) (hD9 : D9 ≤ D + 2 * y) (hD : D ≤ 21) (hn : n < 4) (hy : y < n) (hk : k < nPl P) (hsl : sl y = nI k) (huS : a_isUp P S (nI k) = true) (hP : va_P G.2.1 vwCl (wl G 74 (cX G u)) H) (hS : va_S (xA G 74 s.heap.size) s.heap H locs) (hl : lv_has ls 31 [(0, .ref (G.1 1000)), (1, .ref (G.1 0)), (2, .ref (G.1 72)), (3, .ref (G.1 73)), (4, .int (nI (nPl P))), (5, .int (nI (nPe P))), (7, .int (nI D)), (8, .int (S 0 0)), (9, .int (a_highAll P S)), (10, .int ((1 <<< (nI (nPl P) &&& 31)) - 1)), (11, .int (a_standing P S)), (17, .int L19), (18, .int (nI n)), (19, .int L19), (21, .int (nI (cntS sl y))), (22, .int (nI y)), (23, .int (nI k))])
    (kback : ∀ (v : Mem)  (H : Heap) (locs : List Loc) (ls : Array Slot), (∃ D8 C8, J P Z K (lyr P S sl (y + 1)) D8 C8 v ∧ D8 ≤ D + 2 * (y + 1)) → (RW 2 n sl v) → va_P G.2.1 vwCl (wl G 74 (cX G v)) H → va_S (xA G 74 s.heap.size) s.heap H locs → lv_has ls 31 [(0, .ref (G.1 1000)), (1, .ref (G.1 0)), (2, .ref (G.1 72)), (3, .ref (G.1 73)), (4, .int (nI (nPl P))), (5, .int (nI (nPe P))), (7, .int (nI D)), (8, .int (S 0 0)), (9, .int (a_highAll P S)), (10, .int ((1 <<< (nI (nPl P) &&& 31)) - 1)), (11, .int (a_standing P S)), (17, .int L19), (18, .int (nI n)), (19, .int L19), (21, .int (nI (cntS sl (y + 1)))), (22, .int (nI (y + 1)))] → W p l e room_1 s m args below meth c H locs cells slots Q (F0 m 1911 ls [])) : W p l e room_1 s m args below meth c H locs cells slots Q (F0 m 1937 ls []) := by
  have hx := ha.1
  have hb := ha.2.1
  obtain ⟨h4, h5⟩ := NV_45 hJ
  have hp0 := hN.1.1
  have hq0 := hN.1.2
  have hpb := (J_plan hJ).1
  have hpr := (J_plan hJ).2
  have hg := J_gs hJ
  have hz9 := vld_gave hgS hv hy
  rw [lyr_sk hsl (by omega)] at hz9
  have huT : a_isUp P (lyr P S sl y) (nI k) = true := (a_isUp_c (vld_0 hgS hv (by omega))).trans huS
  refine lv_iload hx hb dL_law_1937 (lv_at hl 16 rfl) ?_
  refine lv_bipush (v := (-9)) hx hb dL_law_1939 (by decide) ?_
  refine lv_icmp_lt (tgt := 1984) hx hb dL_law_1941 (by decide) (fun c_1 => absurd c_1 (n9_lt (by omega))) (fun c_1 => ?_)
  refine lv_iload hx hb dL_law_1944 (lv_at hl 16 rfl) ?_
  refine lv_iload hx hb dL_law_1946 (lv_at hl 4 rfl) ?_
  refine lv_icmp_ge (tgt := 1984) hx hb dL_law_1948 (by decide) (fun c_2 => absurd c_2 (nI_ge hk (by omega))) (fun c_2 => ?_)
  refine lv_iload hx hb dL_law_1951 (lv_at hl 16 rfl) ?_
  refine lv_bipush (v := (-9)) hx hb dL_law_1953 (by decide) ?_
  refine lv_icmp_le (tgt := 1963) hx hb dL_law_1955 (by decide) (fun c_3 => absurd c_3 (n9_le (by omega))) (fun c_3 => ?_)
  refine lv_iload hx hb dL_law_1958 (lv_at hl 16 rfl) ?_
  refine lv_if_lt (tgt := 1984) hx hb dL_law_1960 (by decide) (fun c_4 => absurd c_4 (nI_pos (by omega))) (fun c_4 => ?_)
  refine lv_iload hx hb dL_law_1963 (lv_at hl 16 rfl) ?_
  refine lv_if_lt (tgt := 1977) hx hb dL_law_1965 (by decide) (fun c_5 => absurd c_5 (nI_pos (by omega))) (fun c_5 => ?_)
  refine lv_aload_n hx hb dL_law_1968 rfl (lv_at hl 1 rfl) ?_
  refine lv_iload hx hb dL_law_1969 (lv_at hl 16 rfl) ?_
  refine xVi ha hP hS (y := yX7_lace) (As := [.int (nI k)]) (rest := []) 0 (by decide) (cX_0 G _) rfl rfl (c_X7_lace G l u (nI k) (J_PO hJ)) kw_L_74 hd_X7_lace rfl ⟨rfl, rfl⟩ ⟨Nat.le_of_ble_eq_true rfl, Nat.le_of_ble_eq_true rfl⟩ hcs hl.1 (Nat.le_of_ble_eq_true rfl) rfl dL_law_1971 (fun r_6 v1 H locs hpq hP hS => ?_)
  obtain ⟨hr_, hu_⟩ := hpq
  have hq_ := q_laceN1 hJ (by omega) hk huT
  simp only [← hr_, ← hu_] at hq_
  clear hr_ hu_
  obtain ⟨h_r, ⟨C1, hC1, hJ⟩, rs⟩ := hq_
  subst h_r
  have hW := RW_s hW (by decide) rs
  refine lv_if_lt (tgt := 1984) hx hb dL_law_1974 (by decide) (fun c_7 => absurd c_7 (nneg_i (wear_i hg hk).1)) (fun c_7 => ?_)
  refine lv_aload_n hx hb dL_law_1977 rfl (lv_at hl 1 rfl) ?_
  refine xVi ha hP hS (y := yX7_year) (As := []) (rest := []) 0 (by decide) (cX_0 G _) rfl rfl (c_X7_year G l v1  (J_PO hJ)) kw_L_84 hd_X7_year rfl ⟨rfl, rfl⟩ ⟨Nat.le_of_ble_eq_true rfl, Nat.le_of_ble_eq_true rfl⟩ hcs hl.1 (Nat.le_of_ble_eq_true rfl) rfl dL_law_1978 (fun r_8 v2 H locs hpq hP hS => ?_)
  obtain ⟨hr_, hu_⟩ := hpq
  have hq_ := q_year hJ (by omega) hp0
  simp only [← hr_, ← hu_] at hq_
  clear hr_ hu_
  obtain ⟨h_r, ⟨C2, hC2, hJ⟩, rs⟩ := hq_
  subst h_r
  have hW := RW_s hW (by decide) rs
  have hJ : J P Z K (lyr P S sl (y + 1)) (D9 + 1 + 1) C2 v2 := by show J P Z K (dYear P (lacD (lyr P S sl y) (sl y))) (D9 + 1 + 1) C2 v2; rw [lyr_sk hsl (by omega)]; exact hJ
  refine lv_if_eq (tgt := 1986) hx hb dL_law_1981 (by decide) (fun c_9 => ?_) (fun c_9 => absurd hz9 c_9)
  refine lv_iload hx hb dL_law_1986 (lv_at hl 14 rfl) ?_
  refine lv_iload hx hb dL_law_1988 (lv_at hl 16 rfl) ?_
  refine lv_if_lt (tgt := 1997) hx hb dL_law_1990 (by decide) (fun c_10 => absurd c_10 (nI_pos (by omega))) (fun c_10 => ?_)
  refine lv_iconst (v := 1) hx hb dL_law_1993 (by decide) ?_
  refine lv_goto (tgt := 1998) hx hb dL_law_1994 (by decide) ?_
  refine lw_iaddE (z := (nI (cntS sl (y + 1)))) hx hb dL_law_1998 (cnt_sk hsl (by omega)) ?_
  refine lv_istore (lv' := [(21, .int (nI (cntS sl (y + 1)))), (0, .ref (G.1 1000)), (1, .ref (G.1 0)), (2, .ref (G.1 72)), (3, .ref (G.1 73)), (4, .int (nI (nPl P))), (5, .int (nI (nPe P))), (7, .int (nI D)), (8, .int (S 0 0)), (9, .int (a_highAll P S)), (10, .int ((1 <<< (nI (nPl P) &&& 31)) - 1)), (11, .int (a_standing P S)), (17, .int L19), (18, .int (nI n)), (19, .int L19), (22, .int (nI y)), (23, .int (nI k))]) hx hb dL_law_1999 hl (by decide) rfl (fun ls hl => ?_)
  refine lv_iinc (v := nI (y + 1)) (lv' := [(22, .int (nI (y + 1))), (21, .int (nI (cntS sl (y + 1)))), (0, .ref (G.1 1000)), (1, .ref (G.1 0)), (2, .ref (G.1 72)), (3, .ref (G.1 73)), (4, .int (nI (nPl P))), (5, .int (nI (nPe P))), (7, .int (nI D)), (8, .int (S 0 0)), (9, .int (a_highAll P S)), (10, .int ((1 <<< (nI (nPl P) &&& 31)) - 1)), (11, .int (a_standing P S)), (17, .int L19), (18, .int (nI n)), (19, .int L19), (23, .int (nI k))]) hx hb dL_law_2001 hl (k := 15) rfl (nI_1 y) (by decide) rfl (fun ls hl => ?_)
  refine lv_goto (tgt := 1911) hx hb dL_law_2004 (by decide) ?_
  exact kback v2  _ _ _ (⟨_, _, hJ, by omega⟩) hW hP hS (lv_sub hl [2, 3, 4, 5, 6, 7, 8, 9, 10, 11, 12, 13, 14, 15, 1, 0] rfl)
set_option maxHeartbeats 4000000 in
set_option maxRecDepth 100000 in
theorem seg_2007 (ha : Amb p c cL_law 31 s args RL m meth (some .boolean) G 74) (hcs : cells ≤ room_1.cells ∧ slots ≤ room_1.slots) (P : PT) (Z : Nat → Int32) (K : KT) (S : PT) (D : Nat) (n : Nat) (L19 : Int32) (sl : Nat → Int32) (y : Nat) (D9 : Nat) (C9 : Nat → Int32) (C : Nat → Int32) {u : Mem} (hN : NV P Z) (hJ : J P Z K (lyr P S sl y) D9 C9 u) (hgS : GS P S) (hW : RW 2 n sl u) (hv : vld P S sl n = true) (hD9 : D9 ≤ D + 2 * y) (hD : D ≤ 21) (hn : n < 4) (hy : y = n) (hcl : nI (cntS sl n) = L19) (hrp : SEq P (rplP P C D) S) (hK1 : K.1 1 = nI D) (hK2 : K.2 1 = C) (hP : va_P G.2.1 vwCl (wl G 74 (cX G u)) H) (hS : va_S (xA G 74 s.heap.size) s.heap H locs) (hl : lv_has ls 31 [(0, .ref (G.1 1000)), (1, .ref (G.1 0)), (2, .ref (G.1 72)), (3, .ref (G.1 73)), (4, .int (nI (nPl P))), (5, .int (nI (nPe P))), (7, .int (nI D)), (8, .int (S 0 0)), (9, .int (a_highAll P S)), (10, .int ((1 <<< (nI (nPl P) &&& 31)) - 1)), (11, .int (a_standing P S)), (17, .int L19), (18, .int (nI n)), (19, .int L19), (21, .int (nI (cntS sl n)))])
    (kk : ∀ (v : Mem)  (H : Heap) (locs : List Loc) (ls : Array Slot), (J P Z K S D C v) → va_P G.2.1 vwCl (wl G 74 (cX G v)) H → va_S (xA G 74 s.heap.size) s.heap H locs → lv_has ls 31 [(0, .ref (G.1 1000)), (1, .ref (G.1 0)), (2, .ref (G.1 72)), (3, .ref (G.1 73)), (4, .int (nI (nPl P))), (5, .int (nI (nPe P))), (7, .int (nI D)), (8, .int (S 0 0)), (9, .int (a_highAll P S)), (10, .int ((1 <<< (nI (nPl P) &&& 31)) - 1)), (11, .int (a_standing P S)), (17, .int L19), (18, .int (nI n))] → W p l e room_1 s m args below meth c H locs cells slots Q (F0 m 2036 ls [])) : W p l e room_1 s m args below meth c H locs cells slots Q (F0 m 2007 ls []) := by
  have hx := ha.1
  have hb := ha.2.1
  obtain ⟨h4, h5⟩ := NV_45 hJ
  have hp0 := hN.1.1
  have hq0 := hN.1.2
  have hpb := (J_plan hJ).1
  have hpr := (J_plan hJ).2
  have hg := J_gs hJ
  refine lv_iload hx hb dL_law_2007 (lv_at hl 14 rfl) ?_
  refine lv_iload hx hb dL_law_2009 (lv_at hl 13 rfl) ?_
  refine lv_icmp_ne (tgt := 2034) hx hb dL_law_2011 (by decide) (fun c_1 => absurd hcl c_1) (fun c_1 => ?_)
  refine lv_aload_n hx hb dL_law_2014 rfl (lv_at hl 1 rfl) ?_
  refine lv_iconst (v := 4) hx hb dL_law_2015 (by decide) ?_
  refine xVi ha hP hS (y := yX7_count) (As := [.int 4]) (rest := []) 0 (by decide) (cX_0 G _) rfl rfl (c_X7_count G l u 4 (J_PO hJ)) kw_L_42 hd_X7_count rfl ⟨rfl, rfl⟩ ⟨Nat.le_of_ble_eq_true rfl, Nat.le_of_ble_eq_true rfl⟩ hcs hl.1 (Nat.le_of_ble_eq_true rfl) rfl dL_law_2016 (fun r_2 v1 H locs hpq hP hS => ?_)
  obtain ⟨hr_, hu_⟩ := hpq
  have hu_ := hu_.symm
  subst hu_
  have hr_ := hr_.trans (q_c4 hJ)
  have hr_ := hr_.symm
  subst hr_
  refine lv_iload hx hb dL_law_2019 (lv_at hl 7 rfl) ?_
  refine lv_icmp_ne (tgt := 2034) hx hb dL_law_2021 (by decide) (fun c_3 => absurd (vld_0 hgS hv (by omega)) c_3) (fun c_3 => ?_)
  refine lv_aload_n hx hb dL_law_2024 rfl (lv_at hl 1 rfl) ?_
  refine lv_iconst (v := (nI 1)) hx hb dL_law_2025 (by decide) ?_
  refine xVi ha hP hS (y := yX7_on) (As := [.int (nI 1)]) (rest := []) 0 (by decide) (cX_0 G _) rfl rfl (c_X7_on G l u (nI 1) (J_PO hJ)) kw_L_149 hd_X7_on rfl ⟨rfl, rfl⟩ ⟨Nat.le_of_ble_eq_true rfl, Nat.le_of_ble_eq_true rfl⟩ hcs hl.1 (Nat.le_of_ble_eq_true rfl) rfl dL_law_2026 (fun r_4 v2 H locs hpq hP hS => ?_)
  obtain ⟨hr_, hu_⟩ := hpq
  have hq_ := q_on_r hrp hJ (k := 1) (by decide) (by omega) hK1 hK2
  simp only [← hr_, ← hu_] at hq_
  clear hr_ hu_
  obtain ⟨h_r, hJ, rs⟩ := hq_
  subst h_r
  refine lv_iload hx hb dL_law_2029 (lv_at hl 6 rfl) ?_
  refine lv_icmp_eq (tgt := 2036) hx hb dL_law_2031 (by decide) (fun c_5 => ?_) (fun c_5 => absurd rfl c_5)
  exact kk v2  _ _ _ hJ hP hS (lv_sub hl [0, 1, 2, 3, 4, 5, 6, 7, 8, 9, 10, 11, 12] rfl)
set_option maxHeartbeats 4000000 in
set_option maxRecDepth 100000 in
theorem seg_2036 (ha : Amb p c cL_law 31 s args RL m meth (some .boolean) G 74) (hcs : cells ≤ room_1.cells ∧ slots ≤ room_1.slots) (P : PT) (Z : Nat → Int32) (K : KT) (S : PT) (D : Nat) (C : Nat → Int32) (n : Nat) (L19 : Int32) {u : Mem} (hN : NV P Z) (hJ : J P Z K S D C u) (hP : va_P G.2.1 vwCl (wl G 74 (cX G u)) H) (hS : va_S (xA G 74 s.heap.size) s.heap H locs) (hl : lv_has ls 31 [(0, .ref (G.1 1000)), (1, .ref (G.1 0)), (2, .ref (G.1 72)), (3, .ref (G.1 73)), (4, .int (nI (nPl P))), (5, .int (nI (nPe P))), (7, .int (nI D)), (8, .int (S 0 0)), (9, .int (a_highAll P S)), (10, .int ((1 <<< (nI (nPl P) &&& 31)) - 1)), (11, .int (a_standing P S)), (17, .int L19), (18, .int (nI n))])
    (kk : ∀ (v : Mem)  (H : Heap) (locs : List Loc) (ls : Array Slot), (v = u) → va_P G.2.1 vwCl (wl G 74 (cX G v)) H → va_S (xA G 74 s.heap.size) s.heap H locs → lv_has ls 31 [(0, .ref (G.1 1000)), (1, .ref (G.1 0)), (2, .ref (G.1 72)), (3, .ref (G.1 73)), (4, .int (nI (nPl P))), (5, .int (nI (nPe P))), (7, .int (nI D)), (8, .int (S 0 0)), (9, .int (a_highAll P S)), (10, .int ((1 <<< (nI (nPl P) &&& 31)) - 1)), (11, .int (a_standing P S)), (17, .int L19), (18, .int (nI (n + 1)))] → W p l e room_1 s m args below meth c H locs cells slots Q (F0 m 1777 ls [])) : W p l e room_1 s m args below meth c H locs cells slots Q (F0 m 2036 ls []) := by
  have hx := ha.1
  have hb := ha.2.1
  obtain ⟨h4, h5⟩ := NV_45 hJ
  have hp0 := hN.1.1
  have hq0 := hN.1.2
  have hpb := (J_plan hJ).1
  have hpr := (J_plan hJ).2
  have hg := J_gs hJ
  refine lv_iinc (v := nI (n + 1)) (lv' := [(18, .int (nI (n + 1))), (0, .ref (G.1 1000)), (1, .ref (G.1 0)), (2, .ref (G.1 72)), (3, .ref (G.1 73)), (4, .int (nI (nPl P))), (5, .int (nI (nPe P))), (7, .int (nI D)), (8, .int (S 0 0)), (9, .int (a_highAll P S)), (10, .int ((1 <<< (nI (nPl P) &&& 31)) - 1)), (11, .int (a_standing P S)), (17, .int L19)]) hx hb dL_law_2036 hl (k := 12) rfl (nI_1 n) (by decide) rfl (fun ls hl => ?_)
  refine lv_goto (tgt := 1777) hx hb dL_law_2039 (by decide) ?_
  exact kk u  _ _ _ rfl hP hS (lv_sub hl [1, 2, 3, 4, 5, 6, 7, 8, 9, 10, 11, 12, 0] rfl)
end SC07

