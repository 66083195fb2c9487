
theorem hd_X7_kinds : kHd yX7_kinds 2 := by decide +kernel
theorem hd_X7_strengths : kHd yX7_strengths 2 := by decide +kernel
theorem hd_X7_test : kHd yX7_test 2 := by decide +kernel
theorem kw_L_152 : ∀ w ∈ k5V RL 152 yX7_strengths cX7_strengths 8 (some .int), w ∈ TB := tb_ins (by decide +kernel)
theorem kw_L_155 : ∀ w ∈ k5V RL 155 yX7_kinds cX7_kinds 5 (some .int), w ∈ TB := tb_ins (by decide +kernel)
theorem kw_L_158 : ∀ w ∈ k5V RL 158 yX7_test cX7_test 11 (some .int), w ∈ TB := tb_ins (by decide +kernel)
section SC08
variable {p : Program} {l : Launch} {e : Env} {s : State} {m : MethodId} {args : Array Value} {below : List Frame} {meth : Method} {c : Code} {H : Heap} {locs : List Loc} {cells slots : Nat} {Q : State → Prop} {ls : Array Slot} {G : GT}
set_option maxHeartbeats 4000000 in
set_option maxRecDepth 100000 in
theorem seg_2042 (ha : Amb p c cL_law 31 s args RL m meth (some .boolean) G 74) (hcs : cells ≤ room_1.cells ∧ slots ≤ room_1.slots) (P : PT) (Z : Nat → Int32) (K : KT) (S : PT) (D : Nat) (C : Nat → Int32) {u : Mem} (hN : NV P Z) (hJ : J P Z K S D C u) (hP : va_P G.2.1 vwCl (wl G 74 (cX G u)) H) (hS : va_S (xA G 74 s.heap.size) s.heap H locs) (hl : lv_has ls 31 [(0, .ref (G.1 1000)), (1, .ref (G.1 0)), (2, .ref (G.1 72)), (3, .ref (G.1 73)), (4, .int (nI (nPl P))), (5, .int (nI (nPe P))), (7, .int (nI D)), (8, .int (S 0 0)), (9, .int (a_highAll P S)), (10, .int ((1 <<< (nI (nPl P) &&& 31)) - 1)), (11, .int (a_standing P S))])
    (kk : ∀ (v : Mem)  (H : Heap) (locs : List Loc) (ls : Array Slot), (v = u) → va_P G.2.1 vwCl (wl G 74 (cX G v)) H → va_S (xA G 74 s.heap.size) s.heap H locs → lv_has ls 31 [(0, .ref (G.1 1000)), (1, .ref (G.1 0)), (2, .ref (G.1 72)), (3, .ref (G.1 73)), (4, .int (nI (nPl P))), (5, .int (nI (nPe P))), (7, .int (nI D)), (8, .int (S 0 0)), (9, .int (a_highAll P S)), (10, .int ((1 <<< (nI (nPl P) &&& 31)) - 1)), (11, .int (a_standing P S)), (18, .int (nI 0))] → W p l e room_1 s m args below meth c H locs cells slots Q (F0 m 2045 ls [])) : W p l e room_1 s m args below meth c H locs cells slots Q (F0 m 2042 ls []) := by
  have hx := ha.1
  have hb := ha.2.1
  obtain ⟨h4, h5⟩ := NV_45 hJ
  have hp0 := hN.1.1
  have hq0 := hN.1.2
  have hpb := (J_plan hJ).1
  have hpr := (J_plan hJ).2
  have hg := J_gs hJ
  refine lv_iconst (v := 0) hx hb dL_law_2042 (by decide) ?_
  refine lv_istore (lv' := [(18, .int 0), (0, .ref (G.1 1000)), (1, .ref (G.1 0)), (2, .ref (G.1 72)), (3, .ref (G.1 73)), (4, .int (nI (nPl P))), (5, .int (nI (nPe P))), (7, .int (nI D)), (8, .int (S 0 0)), (9, .int (a_highAll P S)), (10, .int ((1 <<< (nI (nPl P) &&& 31)) - 1)), (11, .int (a_standing P S))]) hx hb dL_law_2043 hl (by decide) rfl (fun ls hl => ?_)
  exact kk u  _ _ _ rfl hP hS (lv_sub hl [1, 2, 3, 4, 5, 6, 7, 8, 9, 10, 11, 0] rfl)
set_option maxHeartbeats 4000000 in
set_option maxRecDepth 100000 in
theorem seg_2045 (ha : Amb p c cL_law 31 s args RL m meth (some .boolean) G 74) (hcs : cells ≤ room_1.cells ∧ slots ≤ room_1.slots) (P : PT) (Z : Nat → Int32) (K : KT) (S : PT) (D : Nat) (C : Nat → Int32) (k : Nat) {u : Mem} (hN : NV P Z) (hJ : J P Z K S D C u) (hk0 : k ≤ nPl P) (hP : va_P G.2.1 vwCl (wl G 74 (cX G u)) H) (hS : va_S (xA G 74 s.heap.size) s.heap H locs) (hl : lv_has ls 31 [(0, .ref (G.1 1000)), (1, .ref (G.1 0)), (2, .ref (G.1 72)), (3, .ref (G.1 73)), (4, .int (nI (nPl P))), (5, .int (nI (nPe P))), (7, .int (nI D)), (8, .int (S 0 0)), (9, .int (a_highAll P S)), (10, .int ((1 <<< (nI (nPl P) &&& 31)) - 1)), (11, .int (a_standing P S)), (18, .int (nI k))])
    (kout : ∀ (v : Mem)  (H : Heap) (locs : List Loc) (ls : Array Slot), (v = u) → va_P G.2.1 vwCl (wl G 74 (cX G v)) H → va_S (xA G 74 s.heap.size) s.heap H locs → lv_has ls 31 [(0, .ref (G.1 1000)), (1, .ref (G.1 0)), (2, .ref (G.1 72)), (3, .ref (G.1 73)), (4, .int (nI (nPl P))), (5, .int (nI (nPe P))), (7, .int (nI D)), (8, .int (S 0 0)), (9, .int (a_highAll P S)), (10, .int ((1 <<< (nI (nPl P) &&& 31)) - 1)), (11, .int (a_standing P S))] → W p l e room_1 s m args below meth c H locs cells slots Q (F0 m 2429 ls []))
    (kin : ∀ (v : Mem) (x19 x20 : Int32) (H : Heap) (locs : List Loc) (ls : Array Slot), (J P Z K S D C v) → (x19 = (nI (cN (agS P k (tW G k) (tL G k) 0) 61))) → (x20 = (a_bits (agK P k (tW G k) (tL G k) 0) 6)) → (k < nPl P) → va_P G.2.1 vwCl (wl G 74 (cX G v)) H → va_S (xA G 74 s.heap.size) s.heap H locs → lv_has ls 31 [(0, .ref (G.1 1000)), (1, .ref (G.1 0)), (2, .ref (G.1 72)), (3, .ref (G.1 73)), (4, .int (nI (nPl P))), (5, .int (nI (nPe P))), (7, .int (nI D)), (8, .int (S 0 0)), (9, .int (a_highAll P S)), (10, .int ((1 <<< (nI (nPl P) &&& 31)) - 1)), (11, .int (a_standing P S)), (18, .int (nI k)), (19, .int x19), (20, .int x20), (21, .int (nI 0))] → W p l e room_1 s m args below meth c H locs cells slots Q (F0 m 2077 ls [])) : W p l e room_1 s m args below meth c H locs cells slots Q (F0 m 2045 ls []) := by
  have hx := ha.1
  have hb := ha.2.1
  obtain ⟨h4, h5⟩ := NV_45 hJ
  have hp0 := hN.1.1
  have hq0 := hN.1.2
  have hpb := (J_plan hJ).1
  have hpr := (J_plan hJ).2
  have hg := J_gs hJ
  refine lv_iload hx hb dL_law_2045 (lv_at hl 11 rfl) ?_
  refine lv_iload hx hb dL_law_2047 (lv_at hl 4 rfl) ?_
  refine lv_icmp_ge (tgt := 2429) hx hb dL_law_2049 (by decide) (fun c_1 => ?_) (fun c_1 => ?_)
  · have hc_2049 := c_1
    have hk := eq_of_le hc_2049 hk0 (by omega)
    exact kout u  _ _ _ rfl hP hS (lv_sub hl [0, 1, 2, 3, 4, 5, 6, 7, 8, 9, 10] rfl)
  · have hc_2049 := c_1
    have hk : k < nPl P := lt_of_nle hc_2049 (by omega) (by omega)
    refine lv_aload_n hx hb dL_law_2052 rfl (lv_at hl 1 rfl) ?_
    refine lv_iconst (v := (nI 3)) hx hb dL_law_2053 (by decide) ?_
    refine lv_bipush (v := (nI 9)) hx hb dL_law_2054 (by decide) ?_
    refine xVi ha hP hS (y := yX7_row) (As := [.int (nI 3), .int (nI 9)]) (rest := []) 0 (by decide) (cX_0 G _) rfl rfl (c_X7_row G l u (nI 3) (nI 9) ) kw_L_134 hd_X7_row rfl ⟨rfl, rfl⟩ ⟨Nat.le_of_ble_eq_true rfl, Nat.le_of_ble_eq_true rfl⟩ hcs hl.1 (Nat.le_of_ble_eq_true rfl) rfl dL_law_2056 (fun r_2 v1 H locs hpq hP hS => ?_)
    obtain ⟨hr_, hu_⟩ := hpq
    have hq_ := q_row hJ (r := 3) (n := 9) (by decide) (by decide)
    simp only [← hr_, ← hu_] at hq_
    clear hr_ hu_
    obtain ⟨h_r, hW, hJ, hfr⟩ := hq_
    subst h_r
    refine lv_bipush (v := 9) hx hb dL_law_2059 (by decide) ?_
    refine lv_icmp_eq (tgt := 2066) hx hb dL_law_2061 (by decide) (fun c_3 => ?_) (fun c_3 => absurd rfl c_3)
    refine lv_bipush (v := 61) hx hb dL_law_2066 (by decide) ?_
    refine lv_istore (lv' := [(19, .int 61), (0, .ref (G.1 1000)), (1, .ref (G.1 0)), (2, .ref (G.1 72)), (3, .ref (G.1 73)), (4, .int (nI (nPl P))), (5, .int (nI (nPe P))), (7, .int (nI D)), (8, .int (S 0 0)), (9, .int (a_highAll P S)), (10, .int ((1 <<< (nI (nPl P) &&& 31)) - 1)), (11, .int (a_standing P S)), (18, .int (nI k))]) hx hb dL_law_2068 hl (by decide) rfl (fun ls hl => ?_)
    refine lv_bipush (v := 63) hx hb dL_law_2070 (by decide) ?_
    refine lv_istore (lv' := [(20, .int 63), (19, .int 61), (0, .ref (G.1 1000)), (1, .ref (G.1 0)), (2, .ref (G.1 72)), (3, .ref (G.1 73)), (4, .int (nI (nPl P))), (5, .int (nI (nPe P))), (7, .int (nI D)), (8, .int (S 0 0)), (9, .int (a_highAll P S)), (10, .int ((1 <<< (nI (nPl P) &&& 31)) - 1)), (11, .int (a_standing P S)), (18, .int (nI k))]) hx hb dL_law_2072 hl (by decide) rfl (fun ls hl => ?_)
    refine lv_iconst (v := 0) hx hb dL_law_2074 (by decide) ?_
    refine lv_istore (lv' := [(21, .int 0), (20, .int 63), (19, .int 61), (0, .ref (G.1 1000)), (1, .ref (G.1 0)), (2, .ref (G.1 72)), (3, .ref (G.1 73)), (4, .int (nI (nPl P))), (5, .int (nI (nPe P))), (7, .int (nI D)), (8, .int (S 0 0)), (9, .int (a_highAll P S)), (10, .int ((1 <<< (nI (nPl P) &&& 31)) - 1)), (11, .int (a_standing P S)), (18, .int (nI k))]) hx hb dL_law_2075 hl (by decide) rfl (fun ls hl => ?_)
    exact kin v1 61 63 _ _ _ hJ ((ag_0 P k _ _).1) ((ag_0 P k _ _).2) hk hP hS (lv_sub hl [3, 4, 5, 6, 7, 8, 9, 10, 11, 12, 13, 14, 2, 1, 0] rfl)
set_option maxHeartbeats 4000000 in
set_option maxRecDepth 100000 in
theorem seg_2077 (ha : Amb p c cL_law 31 s args RL m meth (some .boolean) G 74) (hcs : cells ≤ room_1.cells ∧ slots ≤ room_1.slots) (P : PT) (Z : Nat → Int32) (K : KT) (S : PT) (D : Nat) (C : Nat → Int32) (k : Nat) (ee : Nat) {u : Mem} (hN : NV P Z) (hJ : J P Z K S D C u) (hk : k < nPl P) (he0 : ee ≤ 3) (hP : va_P G.2.1 vwCl (wl G 74 (cX G u)) H) (hS : va_S (xA G 74 s.heap.size) s.heap H locs) (hl : lv_has ls 31 [(0, .ref (G.1 1000)), (1, .ref (G.1 0)), (2, .ref (G.1 72)), (3, .ref (G.1 73)), (4, .int (nI (nPl P))), (5, .int (nI (nPe P))), (7, .int (nI D)), (8, .int (S 0 0)), (9, .int (a_highAll P S)), (10, .int ((1 <<< (nI (nPl P) &&& 31)) - 1)), (11, .int (a_standing P S)), (18, .int (nI k)), (19, .int (nI (cN (agS P k (tW G k) (tL G k) ee) 61))), (20, .int (a_bits (agK P k (tW G k) (tL G k) ee) 6)), (21, .int (nI ee))])
    (kout : ∀ (v : Mem)  (H : Heap) (locs : List Loc) (ls : Array Slot), (v = u) → va_P G.2.1 vwCl (wl G 74 (cX G v)) H → va_S (xA G 74 s.heap.size) s.heap H locs → lv_has ls 31 [(0, .ref (G.1 1000)), (1, .ref (G.1 0)), (2, .ref (G.1 72)), (3, .ref (G.1 73)), (4, .int (nI (nPl P))), (5, .int (nI (nPe P))), (7, .int (nI D)), (8, .int (S 0 0)), (9, .int (a_highAll P S)), (10, .int ((1 <<< (nI (nPl P) &&& 31)) - 1)), (11, .int (a_standing P S)), (18, .int (nI k))] → W p l e room_1 s m args below meth c H locs cells slots Q (F0 m 2423 ls []))
    (kin : ∀ (v : Mem) (fr : Nat → Int32) (H : Heap) (locs : List Loc) (ls : Array Slot), (J P Z K S D C v) → (RW 3 (3 * ee + 3) fr v) → (TRI P k (tW G k) (tL G k) 0 fr) → (ee < 3) → va_P G.2.1 vwCl (wl G 74 (cX G v)) H → va_S (xA G 74 s.heap.size) s.heap H locs → lv_has ls 31 [(0, .ref (G.1 1000)), (1, .ref (G.1 0)), (2, .ref (G.1 72)), (3, .ref (G.1 73)), (4, .int (nI (nPl P))), (5, .int (nI (nPe P))), (7, .int (nI D)), (8, .int (S 0 0)), (9, .int (a_highAll P S)), (10, .int ((1 <<< (nI (nPl P) &&& 31)) - 1)), (11, .int (a_standing P S)), (18, .int (nI k)), (19, .int (nI (cN (agS P k (tW G k) (tL G k) ee) 61))), (20, .int (a_bits (agK P k (tW G k) (tL G k) ee) 6)), (21, .int (nI ee)), (22, .int (tW G k ee)), (23, .int (tL G k ee)), (24, .int (nI 0))] → W p l e room_1 s m args below meth c H locs cells slots Q (F0 m 2150 ls [])) : W p l e room_1 s m args below meth c H locs cells slots Q (F0 m 2077 ls []) := by
  have hx := ha.1
  have hb := ha.2.1
  obtain ⟨h4, h5⟩ := NV_45 hJ
  have hp0 := hN.1.1
  have hq0 := hN.1.2
  have hpb := (J_plan hJ).1
  have hpr := (J_plan hJ).2
  have hg := J_gs hJ
  refine lv_iload hx hb dL_law_2077 (lv_at hl 14 rfl) ?_
  refine lv_iconst (v := 3) hx hb dL_law_2079 (by decide) ?_
  refine lv_icmp_ge (tgt := 2423) hx hb dL_law_2080 (by decide) (fun c_1 => ?_) (fun c_1 => ?_)
  · have hc_2080 := c_1
    exact kout u  _ _ _ rfl hP hS (lv_sub hl [0, 1, 2, 3, 4, 5, 6, 7, 8, 9, 10, 11] rfl)
  · have hc_2080 := c_1
    have he : ee < 3 := lt_of_nle (b := 3) hc_2080 (by omega) (by omega)
    refine lv_aload_n hx hb dL_law_2083 rfl (lv_at hl 0 rfl) ?_
    refine lv_bipush (v := 33) hx hb dL_law_2084 (by decide) ?_
    refine lv_iload hx hb dL_law_2086 (lv_at hl 14 rfl) ?_
    refine lw_iaddE (z := (nI (33 + ee))) hx hb dL_law_2088 (nI_add 33 ee) ?_
    refine xSi ha hP hS (y := yL_cell) (As := [.ref (G.1 1000), .int (nI (33 + ee))]) (rest := []) rfl (c_L_cell G l u (33 + ee) (by omega)) kw_L_15 hd_L_cell rfl ⟨rfl, rfl⟩ ⟨Nat.le_of_ble_eq_true rfl, Nat.le_of_ble_eq_true rfl⟩ hcs hl.1 (Nat.le_of_ble_eq_true rfl) rfl dL_law_2089 (fun r_2 v1 H locs hpq hP hS => ?_)
    obtain ⟨hr_, hu_⟩ := hpq
    have hu_ := hu_.symm
    subst hu_
    have hr_ := hr_.symm
    subst hr_
    refine lv_iconst (v := 4) hx hb dL_law_2092 (by decide) ?_
    refine lv_iload hx hb dL_law_2093 (lv_at hl 11 rfl) ?_
    refine lv_imul hx hb dL_law_2095 ?_
    refine lv_ishr hx hb dL_law_2096 ?_
    refine lv_bipush (v := 21) hx hb dL_law_2097 (by decide) ?_
    refine xSi ha hP hS (y := yL_part) (As := [.int ((a_cell (sL G) (sF G) (33 + ee)) >>> ((4 * (nI k)) &&& 31)), .int 21]) (rest := []) rfl (c_L_part G l u ((a_cell (sL G) (sF G) (33 + ee)) >>> ((4 * (nI k)) &&& 31)) 21 (by decide)) kw_L_21 hd_L_part rfl ⟨rfl, rfl⟩ ⟨Nat.le_of_ble_eq_true rfl, Nat.le_of_ble_eq_true rfl⟩ hcs hl.1 (Nat.le_of_ble_eq_true rfl) rfl dL_law_2099 (fun r_3 v2 H locs hpq hP hS => ?_)
    obtain ⟨hr_, hu_⟩ := hpq
    have hu_ := hu_.symm
    subst hu_
    have hr_ := hr_.trans rfl
    have hr_ := hr_.symm
    subst hr_
    refine lv_istore (lv' := [(22, .int (tW G k ee)), (0, .ref (G.1 1000)), (1, .ref (G.1 0)), (2, .ref (G.1 72)), (3, .ref (G.1 73)), (4, .int (nI (nPl P))), (5, .int (nI (nPe P))), (7, .int (nI D)), (8, .int (S 0 0)), (9, .int (a_highAll P S)), (10, .int ((1 <<< (nI (nPl P) &&& 31)) - 1)), (11, .int (a_standing P S)), (18, .int (nI k)), (19, .int (nI (cN (agS P k (tW G k) (tL G k) ee) 61))), (20, .int (a_bits (agK P k (tW G k) (tL G k) ee) 6)), (21, .int (nI ee))]) hx hb dL_law_2102 hl (by decide) rfl (fun ls hl => ?_)
    refine lv_aload_n hx hb dL_law_2104 rfl (lv_at hl 1 rfl) ?_
    refine lv_bipush (v := 36) hx hb dL_law_2105 (by decide) ?_
    refine lv_iload hx hb dL_law_2107 (lv_at hl 15 rfl) ?_
    refine lw_iaddE (z := (nI (36 + ee))) hx hb dL_law_2109 (nI_add 36 ee) ?_
    refine xSi ha hP hS (y := yL_cell) (As := [.ref (G.1 1000), .int (nI (36 + ee))]) (rest := []) rfl (c_L_cell G l u (36 + ee) (by omega)) kw_L_15 hd_L_cell rfl ⟨rfl, rfl⟩ ⟨Nat.le_of_ble_eq_true rfl, Nat.le_of_ble_eq_true rfl⟩ hcs hl.1 (Nat.le_of_ble_eq_true rfl) rfl dL_law_2110 (fun r_4 v3 H locs hpq hP hS => ?_)
    obtain ⟨hr_, hu_⟩ := hpq
    have hu_ := hu_.symm
    subst hu_
    have hr_ := hr_.symm
    subst hr_
    refine lv_iconst (v := 4) hx hb dL_law_2113 (by decide) ?_
    refine lv_iload hx hb dL_law_2114 (lv_at hl 12 rfl) ?_
    refine lv_imul hx hb dL_law_2116 ?_
    refine lv_ishr hx hb dL_law_2117 ?_
    refine lv_bipush (v := 60) hx hb dL_law_2118 (by decide) ?_
    refine xSi ha hP hS (y := yL_part) (As := [.int ((a_cell (sL G) (sF G) (36 + ee)) >>> ((4 * (nI k)) &&& 31)), .int 60]) (rest := []) rfl (c_L_part G l u ((a_cell (sL G) (sF G) (36 + ee)) >>> ((4 * (nI k)) &&& 31)) 60 (by decide)) kw_L_21 hd_L_part rfl ⟨rfl, rfl⟩ ⟨Nat.le_of_ble_eq_true rfl, Nat.le_of_ble_eq_true rfl⟩ hcs hl.1 (Nat.le_of_ble_eq_true rfl) rfl dL_law_2120 (fun r_5 v4 H locs hpq hP hS => ?_)
    obtain ⟨hr_, hu_⟩ := hpq
    have hu_ := hu_.symm
    subst hu_
    have hr_ := hr_.trans rfl
    have hr_ := hr_.symm
    subst hr_
    refine lv_istore (lv' := [(23, .int (tL G k ee)), (22, .int (tW G k ee)), (0, .ref (G.1 1000)), (1, .ref (G.1 0)), (2, .ref (G.1 72)), (3, .ref (G.1 73)), (4, .int (nI (nPl P))), (5, .int (nI (nPe P))), (7, .int (nI D)), (8, .int (S 0 0)), (9, .int (a_highAll P S)), (10, .int ((1 <<< (nI (nPl P) &&& 31)) - 1)), (11, .int (a_standing P S)), (18, .int (nI k)), (19, .int (nI (cN (agS P k (tW G k) (tL G k) ee) 61))), (20, .int (a_bits (agK P k (tW G k) (tL G k) ee) 6)), (21, .int (nI ee))]) hx hb dL_law_2123 hl (by decide) rfl (fun ls hl => ?_)
    refine lv_aload_n hx hb dL_law_2125 rfl (lv_at hl 3 rfl) ?_
    refine lv_iconst (v := (nI 3)) hx hb dL_law_2126 (by decide) ?_
    refine lv_iconst (v := 3) hx hb dL_law_2127 (by decide) ?_
    refine lv_iload hx hb dL_law_2128 (lv_at hl 16 rfl) ?_
    refine lw_imulE (z := (nI (3 * ee))) hx hb dL_law_2130 (nmul (A := 3) rfl rfl) ?_
    refine lv_iconst (v := 3) hx hb dL_law_2131 (by decide) ?_
    refine lw_iaddE (z := (nI ((3 * ee) + 3))) hx hb dL_law_2132 (nI_add (3 * ee) 3) ?_
    refine xVi ha hP hS (y := yX7_row) (As := [.int (nI 3), .int (nI ((3 * ee) + 3))]) (rest := []) 0 (by decide) (cX_0 G _) rfl rfl (c_X7_row G l u (nI 3) (nI ((3 * ee) + 3)) ) kw_L_134 hd_X7_row rfl ⟨rfl, rfl⟩ ⟨Nat.le_of_ble_eq_true rfl, Nat.le_of_ble_eq_true rfl⟩ hcs hl.1 (Nat.le_of_ble_eq_true rfl) rfl dL_law_2133 (fun r_6 v5 H locs hpq hP hS => ?_)
    obtain ⟨hr_, hu_⟩ := hpq
    have hq_ := q_row hJ (r := 3) (n := 3 * ee + 3) (by decide) (by omega)
    simp only [← hr_, ← hu_] at hq_
    clear hr_ hu_
    obtain ⟨h_r, hW, hJ, hfr⟩ := hq_
    subst h_r
    refine lv_iconst (v := 3) hx hb dL_law_2136 (by decide) ?_
    refine lv_iload hx hb dL_law_2137 (lv_at hl 16 rfl) ?_
    refine lw_imulE (z := (nI (3 * ee))) hx hb dL_law_2139 (nmul (A := 3) rfl rfl) ?_
    refine lv_iconst (v := 3) hx hb dL_law_2140 (by decide) ?_
    refine lw_iaddE (z := (nI ((3 * ee) + 3))) hx hb dL_law_2141 (nI_add (3 * ee) 3) ?_
    refine lv_icmp_eq (tgt := 2147) hx hb dL_law_2142 (by decide) (fun c_7 => ?_) (fun c_7 => absurd rfl c_7)
    refine lv_iconst (v := 0) hx hb dL_law_2147 (by decide) ?_
    refine lv_istore (lv' := [(24, .int 0), (23, .int (tL G k ee)), (22, .int (tW G k ee)), (0, .ref (G.1 1000)), (1, .ref (G.1 0)), (2, .ref (G.1 72)), (3, .ref (G.1 73)), (4, .int (nI (nPl P))), (5, .int (nI (nPe P))), (7, .int (nI D)), (8, .int (S 0 0)), (9, .int (a_highAll P S)), (10, .int ((1 <<< (nI (nPl P) &&& 31)) - 1)), (11, .int (a_standing P S)), (18, .int (nI k)), (19, .int (nI (cN (agS P k (tW G k) (tL G k) ee) 61))), (20, .int (a_bits (agK P k (tW G k) (tL G k) ee) 6)), (21, .int (nI ee))]) hx hb dL_law_2148 hl (by decide) rfl (fun ls hl => ?_)
    exact kin v5 _ _ _ _ hJ hW (TRI_0 P k _ _ _) he hP hS (lv_sub hl [3, 4, 5, 6, 7, 8, 9, 10, 11, 12, 13, 14, 15, 16, 17, 2, 1, 0] rfl)
set_option maxHeartbeats 4000000 in
set_option maxRecDepth 100000 in
theorem seg_2150 (ha : Amb p c cL_law 31 s args RL m meth (some .boolean) G 74) (hcs : cells ≤ room_1.cells ∧ slots ≤ room_1.slots) (P : PT) (Z : Nat → Int32) (K : KT) (S : PT) (D : Nat) (C : Nat → Int32) (k : Nat) (ee : Nat) (f : Nat) (fr : Nat → Int32) {u : Mem} (hN : NV P Z) (hJ : J P Z K S D C u) (hk : k < nPl P) (he : ee < 3) (hf0 : f ≤ ee + 1) (hW : RW 3 (3 * ee + 3) fr u) (hT : TRI P k (tW G k) (tL G k) f fr) (hP : va_P G.2.1 vwCl (wl G 74 (cX G u)) H) (hS : va_S (xA G 74 s.heap.size) s.heap H locs) (hl : lv_has ls 31 [(0, .ref (G.1 1000)), (1, .ref (G.1 0)), (2, .ref (G.1 72)), (3, .ref (G.1 73)), (4, .int (nI (nPl P))), (5, .int (nI (nPe P))), (7, .int (nI D)), (8, .int (S 0 0)), (9, .int (a_highAll P S)), (10, .int ((1 <<< (nI (nPl P) &&& 31)) - 1)), (11, .int (a_standing P S)), (18, .int (nI k)), (19, .int (nI (cN (agS P k (tW G k) (tL G k) ee) 61))), (20, .int (a_bits (agK P k (tW G k) (tL G k) ee) 6)), (21, .int (nI ee)), (22, .int (tW G k ee)), (23, .int (tL G k ee)), (24, .int (nI f))])
    (kout : ∀ (v : Mem)  (H : Heap) (locs : List Loc) (ls : Array Slot), (v = u) → (f = ee + 1) → va_P G.2.1 vwCl (wl G 74 (cX G v)) H → va_S (xA G 74 s.heap.size) s.heap H locs → lv_has ls 31 [(0, .ref (G.1 1000)), (1, .ref (G.1 0)), (2, .ref (G.1 72)), (3, .ref (G.1 73)), (4, .int (nI (nPl P))), (5, .int (nI (nPe P))), (7, .int (nI D)), (8, .int (S 0 0)), (9, .int (a_highAll P S)), (10, .int ((1 <<< (nI (nPl P) &&& 31)) - 1)), (11, .int (a_standing P S)), (18, .int (nI k)), (19, .int (nI (cN (agS P k (tW G k) (tL G k) ee) 61))), (20, .int (a_bits (agK P k (tW G k) (tL G k) ee) 6)), (21, .int (nI ee)), (22, .int (tW G k ee)), (23, .int (tL G k ee))] → W p l e room_1 s m args below meth c H locs cells slots Q (F0 m 2272 ls []))
    (kback : ∀ (v : Mem) (f9 : Nat → Int32) (H : Heap) (locs : List Loc) (ls : Array Slot), (J P Z K S D C v) → (RW 3 (3 * ee + 3) f9 v) → (TRI P k (tW G k) (tL G k) (f + 1) f9) → (f ≤ ee) → va_P G.2.1 vwCl (wl G 74 (cX G v)) H → va_S (xA G 74 s.heap.size) s.heap H locs → lv_has ls 31 [(0, .ref (G.1 1000)), (1, .ref (G.1 0)), (2, .ref (G.1 72)), (3, .ref (G.1 73)), (4, .int (nI (nPl P))), (5, .int (nI (nPe P))), (7, .int (nI D)), (8, .int (S 0 0)), (9, .int (a_highAll P S)), (10, .int ((1 <<< (nI (nPl P) &&& 31)) - 1)), (11, .int (a_standing P S)), (18, .int (nI k)), (19, .int (nI (cN (agS P k (tW G k) (tL G k) ee) 61))), (20, .int (a_bits (agK P k (tW G k) (tL G k) ee) 6)), (21, .int (nI ee)), (22, .int (tW G k ee)), (23, .int (tL G k ee)), (24, .int (nI (f + 1)))] → W p l e room_1 s m args below meth c H locs cells slots Q (F0 m 2150 ls [])) : W p l e room_1 s m args below meth c H locs cells slots Q (F0 m 2150 ls []) := by
  have hx := ha.1
  have hb := ha.2.1
  obtain ⟨h4, h5⟩ := NV_45 hJ
  have hp0 := hN.1.1
  have hq0 := hN.1.2
  have hpb := (J_plan hJ).1
  have hpr := (J_plan hJ).2
  have hg := J_gs hJ
  refine lv_iload hx hb dL_law_2150 (lv_at hl 17 rfl) ?_
  refine lv_iload hx hb dL_law_2152 (lv_at hl 14 rfl) ?_
  refine lv_icmp_gt (tgt := 2272) hx hb dL_law_2154 (by decide) (fun c_1 => ?_) (fun c_1 => ?_)
  · have hc_2154 := c_1
    have hf : f = ee + 1 := by have q := i_lt hc_2154; rw [nI_toInt (by omega), nI_toInt (by omega)] at q; omega
    exact kout u  _ _ _ rfl hf hP hS (lv_sub hl [0, 1, 2, 3, 4, 5, 6, 7, 8, 9, 10, 11, 12, 13, 14, 15, 16] rfl)
  · have hc_2154 := c_1
    have hf : f ≤ ee := by apply Decidable.byContradiction; intro q; exact hc_2154 (nI_lt (by omega) (by omega))
    refine lv_aload_n hx hb dL_law_2157 rfl (lv_at hl 0 rfl) ?_
    refine lv_bipush (v := 33) hx hb dL_law_2158 (by decide) ?_
    refine lv_iload hx hb dL_law_2160 (lv_at hl 17 rfl) ?_
    refine lw_iaddE (z := (nI (33 + f))) hx hb dL_law_2162 (nI_add 33 f) ?_
    refine xSi ha hP hS (y := yL_cell) (As := [.ref (G.1 1000), .int (nI (33 + f))]) (rest := []) rfl (c_L_cell G l u (33 + f) (by omega)) kw_L_15 hd_L_cell rfl ⟨rfl, rfl⟩ ⟨Nat.le_of_ble_eq_true rfl, Nat.le_of_ble_eq_true rfl⟩ hcs hl.1 (Nat.le_of_ble_eq_true rfl) rfl dL_law_2163 (fun r_2 v1 H locs hpq hP hS => ?_)
    obtain ⟨hr_, hu_⟩ := hpq
    have hu_ := hu_.symm
    subst hu_
    have hr_ := hr_.symm
    subst hr_
    refine lv_iconst (v := 4) hx hb dL_law_2166 (by decide) ?_
    refine lv_iload hx hb dL_law_2167 (lv_at hl 11 rfl) ?_
    refine lv_imul hx hb dL_law_2169 ?_
    refine lv_ishr hx hb dL_law_2170 ?_
    refine lv_bipush (v := 21) hx hb dL_law_2171 (by decide) ?_
    refine xSi ha hP hS (y := yL_part) (As := [.int ((a_cell (sL G) (sF G) (33 + f)) >>> ((4 * (nI k)) &&& 31)), .int 21]) (rest := []) rfl (c_L_part G l u ((a_cell (sL G) (sF G) (33 + f)) >>> ((4 * (nI k)) &&& 31)) 21 (by decide)) kw_L_21 hd_L_part rfl ⟨rfl, rfl⟩ ⟨Nat.le_of_ble_eq_true rfl, Nat.le_of_ble_eq_true rfl⟩ hcs hl.1 (Nat.le_of_ble_eq_true rfl) rfl dL_law_2173 (fun r_3 v2 H locs hpq hP hS => ?_)
    obtain ⟨hr_, hu_⟩ := hpq
    have hu_ := hu_.symm
    subst hu_
    have hr_ := hr_.trans rfl
    have hr_ := hr_.symm
    subst hr_
    refine lv_istore (lv' := [(25, .int (tW G k f)), (0, .ref (G.1 1000)), (1, .ref (G.1 0)), (2, .ref (G.1 72)), (3, .ref (G.1 73)), (4, .int (nI (nPl P))), (5, .int (nI (nPe P))), (7, .int (nI D)), (8, .int (S 0 0)), (9, .int (a_highAll P S)), (10, .int ((1 <<< (nI (nPl P) &&& 31)) - 1)), (11, .int (a_standing P S)), (18, .int (nI k)), (19, .int (nI (cN (agS P k (tW G k) (tL G k) ee) 61))), (20, .int (a_bits (agK P k (tW G k) (tL G k) ee) 6)), (21, .int (nI ee)), (22, .int (tW G k ee)), (23, .int (tL G k ee)), (24, .int (nI f))]) hx hb dL_law_2176 hl (by decide) rfl (fun ls hl => ?_)
    refine lv_aload_n hx hb dL_law_2178 rfl (lv_at hl 1 rfl) ?_
    refine lv_bipush (v := 36) hx hb dL_law_2179 (by decide) ?_
    refine lv_iload hx hb dL_law_2181 (lv_at hl 18 rfl) ?_
    refine lw_iaddE (z := (nI (36 + f))) hx hb dL_law_2183 (nI_add 36 f) ?_
    refine xSi ha hP hS (y := yL_cell) (As := [.ref (G.1 1000), .int (nI (36 + f))]) (rest := []) rfl (c_L_cell G l u (36 + f) (by omega)) kw_L_15 hd_L_cell rfl ⟨rfl, rfl⟩ ⟨Nat.le_of_ble_eq_true rfl, Nat.le_of_ble_eq_true rfl⟩ hcs hl.1 (Nat.le_of_ble_eq_true rfl) rfl dL_law_2184 (fun r_4 v3 H locs hpq hP hS => ?_)
    obtain ⟨hr_, hu_⟩ := hpq
    have hu_ := hu_.symm
    subst hu_
    have hr_ := hr_.symm
    subst hr_
    refine lv_iconst (v := 4) hx hb dL_law_2187 (by decide) ?_
    refine lv_iload hx hb dL_law_2188 (lv_at hl 12 rfl) ?_
    refine lv_imul hx hb dL_law_2190 ?_
    refine lv_ishr hx hb dL_law_2191 ?_
    refine lv_bipush (v := 60) hx hb dL_law_2192 (by decide) ?_
    refine xSi ha hP hS (y := yL_part) (As := [.int ((a_cell (sL G) (sF G) (36 + f)) >>> ((4 * (nI k)) &&& 31)), .int 60]) (rest := []) rfl (c_L_part G l u ((a_cell (sL G) (sF G) (36 + f)) >>> ((4 * (nI k)) &&& 31)) 60 (by decide)) kw_L_21 hd_L_part rfl ⟨rfl, rfl⟩ ⟨Nat.le_of_ble_eq_true rfl, Nat.le_of_ble_eq_true rfl⟩ hcs hl.1 (Nat.le_of_ble_eq_true rfl) rfl dL_law_2194 (fun r_5 v4 H locs hpq hP hS => ?_)
    obtain ⟨hr_, hu_⟩ := hpq
    have hu_ := hu_.symm
    subst hu_
    have hr_ := hr_.trans rfl
    have hr_ := hr_.symm
    subst hr_
    refine lv_istore (lv' := [(26, .int (tL G k f)), (25, .int (tW G k f)), (0, .ref (G.1 1000)), (1, .ref (G.1 0)), (2, .ref (G.1 72)), (3, .ref (G.1 73)), (4, .int (nI (nPl P))), (5, .int (nI (nPe P))), (7, .int (nI D)), (8, .int (S 0 0)), (9, .int (a_highAll P S)), (10, .int ((1 <<< (nI (nPl P) &&& 31)) - 1)), (11, .int (a_standing P S)), (18, .int (nI k)), (19, .int (nI (cN (agS P k (tW G k) (tL G k) ee) 61))), (20, .int (a_bits (agK P k (tW G k) (tL G k) ee) 6)), (21, .int (nI ee)), (22, .int (tW G k ee)), (23, .int (tL G k ee)), (24, .int (nI f))]) hx hb dL_law_2197 hl (by decide) rfl (fun ls hl => ?_)
    refine lv_aload_n hx hb dL_law_2199 rfl (lv_at hl 3 rfl) ?_
    refine lv_iconst (v := (nI 3)) hx hb dL_law_2200 (by decide) ?_
    refine lv_iconst (v := 3) hx hb dL_law_2201 (by decide) ?_
    refine lv_iload hx hb dL_law_2202 (lv_at hl 19 rfl) ?_
    refine lw_imulE (z := (nI (3 * f))) hx hb dL_law_2204 (nmul (A := 3) rfl rfl) ?_
    refine lv_iload hx hb dL_law_2205 (lv_at hl 1 rfl) ?_
    refine xVi ha hP hS (y := yX7_lay) (As := [.int (nI 3), .int (nI (3 * f)), .int (tW G k f)]) (rest := []) 0 (by decide) (cX_0 G _) rfl rfl (c_X7_lay G l u (nI 3) (nI (3 * f)) (tW G k f) ) kw_L_137 hd_X7_lay rfl ⟨rfl, rfl⟩ ⟨Nat.le_of_ble_eq_true rfl, Nat.le_of_ble_eq_true rfl⟩ hcs hl.1 (Nat.le_of_ble_eq_true rfl) rfl dL_law_2207 (fun r_6 v5 H locs hpq hP hS => ?_)
    obtain ⟨hr_, hu_⟩ := hpq
    have hq_ := q_lay hJ (r := 3) (n := 3 * ee + 3) (i := 3 * f) (by decide) (by omega) hW (by omega) (tW G k f)
    simp only [← hr_, ← hu_] at hq_
    clear hr_ hu_
    obtain ⟨h_r, hW, hJ⟩ := hq_
    subst h_r
    refine lv_iconst (v := 1) hx hb dL_law_2210 (by decide) ?_
    refine lv_icmp_ne (tgt := 2264) hx hb dL_law_2211 (by decide) (fun c_7 => absurd rfl c_7) (fun c_7 => ?_)
    refine lv_aload_n hx hb dL_law_2214 rfl (lv_at hl 3 rfl) ?_
    refine lv_iconst (v := (nI 3)) hx hb dL_law_2215 (by decide) ?_
    refine lv_iconst (v := 3) hx hb dL_law_2216 (by decide) ?_
    refine lv_iload hx hb dL_law_2217 (lv_at hl 19 rfl) ?_
    refine lw_imulE (z := (nI (3 * f))) hx hb dL_law_2219 (nmul (A := 3) rfl rfl) ?_
    refine lv_iconst (v := 1) hx hb dL_law_2220 (by decide) ?_
    refine lw_iaddE (z := (nI ((3 * f) + 1))) hx hb dL_law_2221 (nI_add (3 * f) 1) ?_
    refine lv_iload hx hb dL_law_2222 (lv_at hl 0 rfl) ?_
    refine xVi ha hP hS (y := yX7_lay) (As := [.int (nI 3), .int (nI ((3 * f) + 1)), .int (tL G k f)]) (rest := []) 0 (by decide) (cX_0 G _) rfl rfl (c_X7_lay G l v5 (nI 3) (nI ((3 * f) + 1)) (tL G k f) ) kw_L_137 hd_X7_lay rfl ⟨rfl, rfl⟩ ⟨Nat.le_of_ble_eq_true rfl, Nat.le_of_ble_eq_true rfl⟩ hcs hl.1 (Nat.le_of_ble_eq_true rfl) rfl dL_law_2224 (fun r_8 v6 H locs hpq hP hS => ?_)
    obtain ⟨hr_, hu_⟩ := hpq
    have hq_ := q_lay hJ (r := 3) (n := 3 * ee + 3) (i := 3 * f + 1) (by decide) (by omega) hW (by omega) (tL G k f)
    simp only [← hr_, ← hu_] at hq_
    clear hr_ hu_
    obtain ⟨h_r, hW, hJ⟩ := hq_
    subst h_r
    refine lv_iconst (v := 1) hx hb dL_law_2227 (by decide) ?_
    refine lv_icmp_ne (tgt := 2264) hx hb dL_law_2228 (by decide) (fun c_9 => absurd rfl c_9) (fun c_9 => ?_)
    refine lv_aload_n hx hb dL_law_2231 rfl (lv_at hl 3 rfl) ?_
    refine lv_iconst (v := (nI 3)) hx hb dL_law_2232 (by decide) ?_
    refine lv_iconst (v := 3) hx hb dL_law_2233 (by decide) ?_
    refine lv_iload hx hb dL_law_2234 (lv_at hl 19 rfl) ?_
    refine lw_imulE (z := (nI (3 * f))) hx hb dL_law_2236 (nmul (A := 3) rfl rfl) ?_
    refine lv_iconst (v := 2) hx hb dL_law_2237 (by decide) ?_
    refine lw_iaddE (z := (nI ((3 * f) + 2))) hx hb dL_law_2238 (nI_add (3 * f) 2) ?_
    refine lv_aload_n hx hb dL_law_2239 rfl (lv_at hl 3 rfl) ?_
    refine lv_iload hx hb dL_law_2240 (lv_at hl 13 rfl) ?_
    refine lv_iload hx hb dL_law_2242 (lv_at hl 1 rfl) ?_
    refine xVi ha hP hS (y := yX7_bears) (As := [.int (nI k), .int (tW G k f)]) (rest := [.int (nI ((3 * f) + 2)), .int (nI 3), .ref (G.1 0)]) 0 (by decide) (cX_0 G _) rfl rfl (c_X7_bears G l v6 (nI k) (tW G k f) (J_PO hJ)) kw_L_114 hd_X7_bears rfl ⟨rfl, rfl⟩ ⟨Nat.le_of_ble_eq_true rfl, Nat.le_of_ble_eq_true rfl⟩ hcs hl.1 (Nat.le_of_ble_eq_true rfl) rfl dL_law_2244 (fun r_10 v7 H locs hpq hP hS => ?_)
    obtain ⟨hr_, hu_⟩ := hpq
    have hu_ := hu_.symm
    subst hu_
    have hr_ := hr_.trans (q_bears hJ (pole_nI hpb hk) (tW_b G k f))
    have hr_ := hr_.symm
    subst hr_
    refine lv_iload hx hb dL_law_2247 (lv_at hl 0 rfl) ?_
    have jn_2257_11 : ∀ (x : Int32), (x = (if a_bears P (nI k) (tW G k f) < tL G k f then (0 : Int32) else 1)) → W p l e room_1 s m args below meth c H locs cells slots Q (F0 m 2257 ls [.int x, .int (nI (3 * f + 2)), .int (nI 3), .ref (G.1 0)]) := by
      intro x ex
      subst ex
      refine xVi ha hP hS (y := yX7_lay) (As := [.int (nI 3), .int (nI (3 * f + 2)), .int (if a_bears P (nI k) (tW G k f) < tL G k f then (0 : Int32) else 1)]) (rest := []) 0 (by decide) (cX_0 G _) rfl rfl (c_X7_lay G l v6 (nI 3) (nI (3 * f + 2)) (if a_bears P (nI k) (tW G k f) < tL G k f then (0 : Int32) else 1) ) kw_L_137 hd_X7_lay rfl ⟨rfl, rfl⟩ ⟨Nat.le_of_ble_eq_true rfl, Nat.le_of_ble_eq_true rfl⟩ hcs hl.1 (Nat.le_of_ble_eq_true rfl) rfl dL_law_2257 (fun r_12 v8 H locs hpq hP hS => ?_)
      obtain ⟨hr_, hu_⟩ := hpq
      have hq_ := q_lay hJ (r := 3) (n := 3 * ee + 3) (i := 3 * f + 2) (by decide) (by omega) hW (by omega) (if a_bears P (nI k) (tW G k f) < tL G k f then (0 : Int32) else 1)
      simp only [← hr_, ← hu_] at hq_
      clear hr_ hu_
      obtain ⟨h_r, hW, hJ⟩ := hq_
      subst h_r
      refine lv_iconst (v := 1) hx hb dL_law_2260 (by decide) ?_
      refine lv_icmp_eq (tgt := 2266) hx hb dL_law_2261 (by decide) (fun c_13 => ?_) (fun c_13 => absurd rfl c_13)
      refine lv_iinc (v := nI (f + 1)) (lv' := [(24, .int (nI (f + 1))), (26, .int (tL G k f)), (25, .int (tW G k f)), (0, .ref (G.1 1000)), (1, .ref (G.1 0)), (2, .ref (G.1 72)), (3, .ref (G.1 73)), (4, .int (nI (nPl P))), (5, .int (nI (nPe P))), (7, .int (nI D)), (8, .int (S 0 0)), (9, .int (a_highAll P S)), (10, .int ((1 <<< (nI (nPl P) &&& 31)) - 1)), (11, .int (a_standing P S)), (18, .int (nI k)), (19, .int (nI (cN (agS P k (tW G k) (tL G k) ee) 61))), (20, .int (a_bits (agK P k (tW G k) (tL G k) ee) 6)), (21, .int (nI ee)), (22, .int (tW G k ee)), (23, .int (tL G k ee))]) hx hb dL_law_2266 hl (k := 19) rfl (nI_1 f) (by decide) rfl (fun ls hl => ?_)
      refine lv_goto (tgt := 2150) hx hb dL_law_2269 (by decide) ?_
      exact kback v8 _ _ _ _ hJ hW (TRI_s hT) hf hP hS (lv_sub hl [3, 4, 5, 6, 7, 8, 9, 10, 11, 12, 13, 14, 15, 16, 17, 18, 19, 0] rfl)
    refine lv_icmp_lt (tgt := 2256) hx hb dL_law_2249 (by decide) (fun c_14 => ?_) (fun c_14 => ?_)
    · have hc_2249 := c_14
      refine lv_iconst (v := 0) hx hb dL_law_2256 (by decide) ?_
      exact jn_2257_11 _ ((if_pos hc_2249).symm)
    · have hc_2249 := c_14
      refine lv_iconst (v := 1) hx hb dL_law_2252 (by decide) ?_
      refine lv_goto (tgt := 2257) hx hb dL_law_2253 (by decide) ?_
      exact jn_2257_11 _ ((if_neg hc_2249).symm)
set_option maxHeartbeats 4000000 in
set_option maxRecDepth 100000 in
theorem seg_2272 (ha : Amb p c cL_law 31 s args RL m meth (some .boolean) G 74) (hcs : cells ≤ room_1.cells ∧ slots ≤ room_1.slots) (P : PT) (Z : Nat → Int32) (K : KT) (S : PT) (D : Nat) (C : Nat → Int32) (k : Nat) (ee : Nat) (fr : Nat → Int32) {u : Mem} (hN : NV P Z) (hJ : J P Z K S D C u) (hk : k < nPl P) (he : ee < 3) (hW : RW 3 (3 * (ee + 1)) fr u) (hT : TRI P k (tW G k) (tL G k) (ee + 1) fr) (hP : va_P G.2.1 vwCl (wl G 74 (cX G u)) H) (hS : va_S (xA G 74 s.heap.size) s.heap H locs) (hl : lv_has ls 31 [(0, .ref (G.1 1000)), (1, .ref (G.1 0)), (2, .ref (G.1 72)), (3, .ref (G.1 73)), (4, .int (nI (nPl P))), (5, .int (nI (nPe P))), (7, .int (nI D)), (8, .int (S 0 0)), (9, .int (a_highAll P S)), (10, .int ((1 <<< (nI (nPl P) &&& 31)) - 1)), (11, .int (a_standing P S)), (18, .int (nI k)), (19, .int (nI (cN (agS P k (tW G k) (tL G k) ee) 61))), (20, .int (a_bits (agK P k (tW G k) (tL G k) ee) 6)), (21, .int (nI ee)), (22, .int (tW G k ee)), (23, .int (tL G k ee))])
    (kk : ∀ (v : Mem)  (H : Heap) (locs : List Loc) (ls : Array Slot), (J P Z K S D C v) → va_P G.2.1 vwCl (wl G 74 (cX G v)) H → va_S (xA G 74 s.heap.size) s.heap H locs → lv_has ls 31 [(0, .ref (G.1 1000)), (1, .ref (G.1 0)), (2, .ref (G.1 72)), (3, .ref (G.1 73)), (4, .int (nI (nPl P))), (5, .int (nI (nPe P))), (7, .int (nI D)), (8, .int (S 0 0)), (9, .int (a_highAll P S)), (10, .int ((1 <<< (nI (nPl P) &&& 31)) - 1)), (11, .int (a_standing P S)), (18, .int (nI k)), (19, .int (nI (cN (agS P k (tW G k) (tL G k) (ee + 1)) 61))), (20, .int (a_bits (agK P k (tW G k) (tL G k) (ee + 1)) 6)), (21, .int (nI (ee + 1)))] → W p l e room_1 s m args below meth c H locs cells slots Q (F0 m 2077 ls [])) : W p l e room_1 s m args below meth c H locs cells slots Q (F0 m 2272 ls []) := by
  have hx := ha.1
  have hb := ha.2.1
  obtain ⟨h4, h5⟩ := NV_45 hJ
  have hp0 := hN.1.1
  have hq0 := hN.1.2
  have hpb := (J_plan hJ).1
  have hpr := (J_plan hJ).2
  have hg := J_gs hJ
  have hcl := cN_le (agS P k (tW G k) (tL G k) (ee + 1)) 61
  have hcl6 := cN_le (agK P k (tW G k) (tL G k) (ee + 1)) 6
  refine lv_aload_n hx hb dL_law_2272 rfl (lv_at hl 1 rfl) ?_
  refine lv_iload hx hb dL_law_2273 (lv_at hl 11 rfl) ?_
  refine lv_iconst (v := (nI 3)) hx hb dL_law_2275 (by decide) ?_
  refine xVi ha hP hS (y := yX7_strengths) (As := [.int (nI k), .int (nI 3)]) (rest := []) 0 (by decide) (cX_0 G _) rfl rfl (c_X7_strengths G l u (nI k) (nI 3) (J_RZ hJ)) kw_L_152 hd_X7_strengths rfl ⟨rfl, rfl⟩ ⟨Nat.le_of_ble_eq_true rfl, Nat.le_of_ble_eq_true rfl⟩ hcs hl.1 (Nat.le_of_ble_eq_true rfl) rfl dL_law_2276 (fun r_1 v1 H locs hpq hP hS => ?_)
  obtain ⟨hr_, hu_⟩ := hpq
  have hq_ := q_str hJ hk (r := 3) (n := ee + 1) (by decide) hW (by omega) hT (tb2 G k)
  simp only [← hr_, ← hu_] at hq_
  clear hr_ hu_
  obtain ⟨h_r, hpos, hle, hJ, rs⟩ := hq_
  subst h_r
  have hW := RW_s hW (by decide) rs
  refine lv_istore (lv' := [(24, .int (nI (cN (agS P k (tW G k) (tL G k) (ee + 1)) 61))), (0, .ref (G.1 1000)), (1, .ref (G.1 0)), (2, .ref (G.1 72)), (3, .ref (G.1 73)), (4, .int (nI (nPl P))), (5, .int (nI (nPe P))), (7, .int (nI D)), (8, .int (S 0 0)), (9, .int (a_highAll P S)), (10, .int ((1 <<< (nI (nPl P) &&& 31)) - 1)), (11, .int (a_standing P S)), (18, .int (nI k)), (19, .int (nI (cN (agS P k (tW G k) (tL G k) ee) 61))), (20, .int (a_bits (agK P k (tW G k) (tL G k) ee) 6)), (21, .int (nI ee)), (22, .int (tW G k ee)), (23, .int (tL G k ee))]) hx hb dL_law_2279 hl (by decide) rfl (fun ls hl => ?_)
  refine lv_aload_n hx hb dL_law_2281 rfl (lv_at hl 2 rfl) ?_
  refine xVi ha hP hS (y := yX7_asked) (As := []) (rest := []) 0 (by decide) (cX_0 G _) rfl rfl (c_X7_asked G l v1  ) kw_L_119 hd_X7_asked rfl ⟨rfl, rfl⟩ ⟨Nat.le_of_ble_eq_true rfl, Nat.le_of_ble_eq_true rfl⟩ hcs hl.1 (Nat.le_of_ble_eq_true rfl) rfl dL_law_2282 (fun x25 v2 H locs hpq hP hS => ?_)
  obtain ⟨hr_, hu_⟩ := hpq
  have hu_ := hu_.symm
  subst hu_
  rw [← hr_] at hle
  clear hr_
  refine lv_istore (lv' := [(25, .int x25), (24, .int (nI (cN (agS P k (tW G k) (tL G k) (ee + 1)) 61))), (0, .ref (G.1 1000)), (1, .ref (G.1 0)), (2, .ref (G.1 72)), (3, .ref (G.1 73)), (4, .int (nI (nPl P))), (5, .int (nI (nPe P))), (7, .int (nI D)), (8, .int (S 0 0)), (9, .int (a_highAll P S)), (10, .int ((1 <<< (nI (nPl P) &&& 31)) - 1)), (11, .int (a_standing P S)), (18, .int (nI k)), (19, .int (nI (cN (agS P k (tW G k) (tL G k) ee) 61))), (20, .int (a_bits (agK P k (tW G k) (tL G k) ee) 6)), (21, .int (nI ee)), (22, .int (tW G k ee)), (23, .int (tL G k ee))]) hx hb dL_law_2285 hl (by decide) rfl (fun ls hl => ?_)
  refine lv_aload_n hx hb dL_law_2287 rfl (lv_at hl 3 rfl) ?_
  refine lv_iload hx hb dL_law_2288 (lv_at hl 13 rfl) ?_
  refine lv_iconst (v := (nI 3)) hx hb dL_law_2290 (by decide) ?_
  refine xVi ha hP hS (y := yX7_kinds) (As := [.int (nI k), .int (nI 3)]) (rest := []) 0 (by decide) (cX_0 G _) rfl rfl (c_X7_kinds G l v1 (nI k) (nI 3) (J_RZ hJ)) kw_L_155 hd_X7_kinds rfl ⟨rfl, rfl⟩ ⟨Nat.le_of_ble_eq_true rfl, Nat.le_of_ble_eq_true rfl⟩ hcs hl.1 (Nat.le_of_ble_eq_true rfl) rfl dL_law_2291 (fun r_3 v3 H locs hpq hP hS => ?_)
  obtain ⟨hr_, hu_⟩ := hpq
  rw [q_kinds hJ hk (r := 3) (n := ee + 1) (by decide) hW (by omega) hT (tb2 G k)] at hr_ hu_
  replace hu_ : v3 = v1 := hu_
  have hu_ := hu_.symm
  subst hu_
  have hr_ := hr_.trans rfl
  have hr_ := hr_.symm
  subst hr_
  refine lv_istore (lv' := [(26, .int (a_bits (agK P k (tW G k) (tL G k) (ee + 1)) 6)), (25, .int x25), (24, .int (nI (cN (agS P k (tW G k) (tL G k) (ee + 1)) 61))), (0, .ref (G.1 1000)), (1, .ref (G.1 0)), (2, .ref (G.1 72)), (3, .ref (G.1 73)), (4, .int (nI (nPl P))), (5, .int (nI (nPe P))), (7, .int (nI D)), (8, .int (S 0 0)), (9, .int (a_highAll P S)), (10, .int ((1 <<< (nI (nPl P) &&& 31)) - 1)), (11, .int (a_standing P S)), (18, .int (nI k)), (19, .int (nI (cN (agS P k (tW G k) (tL G k) ee) 61))), (20, .int (a_bits (agK P k (tW G k) (tL G k) ee) 6)), (21, .int (nI ee)), (22, .int (tW G k ee)), (23, .int (tL G k ee))]) hx hb dL_law_2294 hl (by decide) rfl (fun ls hl => ?_)
  refine lv_aload_n hx hb dL_law_2296 rfl (lv_at hl 4 rfl) ?_
  refine lv_iload hx hb dL_law_2297 (lv_at hl 14 rfl) ?_
  refine lv_iconst (v := (nI 3)) hx hb dL_law_2299 (by decide) ?_
  refine xVi ha hP hS (y := yX7_test) (As := [.int (nI k), .int (nI 3)]) (rest := []) 0 (by decide) (cX_0 G _) rfl rfl (c_X7_test G l v1 (nI k) (nI 3) (J_PO hJ) (J_RZ hJ)) kw_L_158 hd_X7_test rfl ⟨rfl, rfl⟩ ⟨Nat.le_of_ble_eq_true rfl, Nat.le_of_ble_eq_true rfl⟩ hcs hl.1 (Nat.le_of_ble_eq_true rfl) rfl dL_law_2300 (fun r_4 v4 H locs hpq hP hS => ?_)
  obtain ⟨hr_, hu_⟩ := hpq
  have hq_ := q_test hJ hk (r := 3) (n := ee + 1) (by decide) hW (by omega) hT (tb2 G k)
  simp only [← hr_, ← hu_] at hq_
  clear hr_ hu_
  obtain ⟨⟨t27, ht27, h_r⟩, ⟨hb1, hb2⟩, hJ, rs⟩ := hq_
  subst h_r
  refine lv_istore (lv' := [(27, .int (nI t27)), (26, .int (a_bits (agK P k (tW G k) (tL G k) (ee + 1)) 6)), (25, .int x25), (24, .int (nI (cN (agS P k (tW G k) (tL G k) (ee + 1)) 61))), (0, .ref (G.1 1000)), (1, .ref (G.1 0)), (2, .ref (G.1 72)), (3, .ref (G.1 73)), (4, .int (nI (nPl P))), (5, .int (nI (nPe P))), (7, .int (nI D)), (8, .int (S 0 0)), (9, .int (a_highAll P S)), (10, .int ((1 <<< (nI (nPl P) &&& 31)) - 1)), (11, .int (a_standing P S)), (18, .int (nI k)), (19, .int (nI (cN (agS P k (tW G k) (tL G k) ee) 61))), (20, .int (a_bits (agK P k (tW G k) (tL G k) ee) 6)), (21, .int (nI ee)), (22, .int (tW G k ee)), (23, .int (tL G k ee))]) hx hb dL_law_2303 hl (by decide) rfl (fun ls hl => ?_)
  refine lv_aload_n hx hb dL_law_2305 rfl (lv_at hl 5 rfl) ?_
  refine xVi ha hP hS (y := yX7_asked) (As := []) (rest := []) 0 (by decide) (cX_0 G _) rfl rfl (c_X7_asked G l v4  ) kw_L_119 hd_X7_asked rfl ⟨rfl, rfl⟩ ⟨Nat.le_of_ble_eq_true rfl, Nat.le_of_ble_eq_true rfl⟩ hcs hl.1 (Nat.le_of_ble_eq_true rfl) rfl dL_law_2306 (fun x28 v5 H locs hpq hP hS => ?_)
  obtain ⟨hr_, hu_⟩ := hpq
  have hu_ := hu_.symm
  subst hu_
  rw [← hr_] at hb1 hb2
  clear hr_
  refine lv_istore (lv' := [(28, .int x28), (27, .int (nI t27)), (26, .int (a_bits (agK P k (tW G k) (tL G k) (ee + 1)) 6)), (25, .int x25), (24, .int (nI (cN (agS P k (tW G k) (tL G k) (ee + 1)) 61))), (0, .ref (G.1 1000)), (1, .ref (G.1 0)), (2, .ref (G.1 72)), (3, .ref (G.1 73)), (4, .int (nI (nPl P))), (5, .int (nI (nPe P))), (7, .int (nI D)), (8, .int (S 0 0)), (9, .int (a_highAll P S)), (10, .int ((1 <<< (nI (nPl P) &&& 31)) - 1)), (11, .int (a_standing P S)), (18, .int (nI k)), (19, .int (nI (cN (agS P k (tW G k) (tL G k) ee) 61))), (20, .int (a_bits (agK P k (tW G k) (tL G k) ee) 6)), (21, .int (nI ee)), (22, .int (tW G k ee)), (23, .int (tL G k ee))]) hx hb dL_law_2309 hl (by decide) rfl (fun ls hl => ?_)
  refine lv_iload hx hb dL_law_2311 (lv_at hl 4 rfl) ?_
  refine lv_iconst (v := 1) hx hb dL_law_2313 (by decide) ?_
  refine lv_icmp_lt (tgt := 2407) hx hb dL_law_2314 (by decide) (fun c_6 => absurd c_6 (nI_nlt1 hpos (by omega))) (fun c_6 => ?_)
  refine lv_iload hx hb dL_law_2317 (lv_at hl 4 rfl) ?_
  refine lv_iload hx hb dL_law_2319 (lv_at hl 17 rfl) ?_
  refine lv_icmp_gt (tgt := 2407) hx hb dL_law_2321 (by decide) (fun c_7 => absurd c_7 (str_le P k _ _ ee)) (fun c_7 => ?_)
  refine lv_iload hx hb dL_law_2324 (lv_at hl 3 rfl) ?_
  refine lv_aload_n hx hb dL_law_2326 rfl (lv_at hl 7 rfl) ?_
  refine lv_bipush (v := 10) hx hb dL_law_2327 (by decide) ?_
  refine lv_iload hx hb dL_law_2329 (lv_at hl 16 rfl) ?_
  refine lw_iaddE (z := (nI (10 + k))) hx hb dL_law_2331 (nI_add 10 k) ?_
  refine xialdN ha hP 72 (by decide) (cX_z G hJ) (10 + k) rfl (by omega) (by decide) dL_law_2332 ?_
  have hv_2332 : (Z (10 + k)) = (P 3 k) := (hN.2.2.1 k hk).2.2.symm
  rw [hv_2332]
  refine lv_icmp_gt (tgt := 2407) hx hb dL_law_2333 (by decide) (fun c_8 => absurd c_8 hle) (fun c_8 => ?_)
  refine lv_iload hx hb dL_law_2336 (lv_at hl 2 rfl) ?_
  refine lv_aload_n hx hb dL_law_2338 rfl (lv_at hl 7 rfl) ?_
  refine lv_iconst (v := 2) hx hb dL_law_2339 (by decide) ?_
  refine lv_iload hx hb dL_law_2340 (lv_at hl 16 rfl) ?_
  refine lw_iaddE (z := (nI (2 + k))) hx hb dL_law_2342 (nI_add 2 k) ?_
  refine xialdN ha hP 72 (by decide) (cX_z G hJ) (2 + k) rfl (by omega) (by decide) dL_law_2343 ?_
  have hv_2343 : (Z (2 + k)) = (P 1 k) := (hN.2.2.1 k hk).1.symm
  rw [hv_2343]
  refine lv_ishr hx hb dL_law_2344 ?_
  refine lv_iconst (v := 1) hx hb dL_law_2345 (by decide) ?_
  refine lv_iand hx hb dL_law_2346 ?_
  refine lv_iconst (v := 1) hx hb dL_law_2347 (by decide) ?_
  refine lv_icmp_ne (tgt := 2407) hx hb dL_law_2348 (by decide) (fun c_9 => absurd (kind_bit hpb hpr hk _ _ _) c_9) (fun c_9 => ?_)
  refine lv_iload hx hb dL_law_2351 (lv_at hl 2 rfl) ?_
  refine lv_iload hx hb dL_law_2353 (lv_at hl 18 rfl) ?_
  refine lv_iconst (v := (-1)) hx hb dL_law_2355 (by decide) ?_
  refine lv_ixor hx hb dL_law_2356 ?_
  refine lv_iand hx hb dL_law_2357 ?_
  refine lv_if_ne (tgt := 2407) hx hb dL_law_2358 (by decide) (fun c_10 => absurd (kin_sub P k _ _ ee) c_10) (fun c_10 => ?_)
  refine lv_iload hx hb dL_law_2361 (lv_at hl 1 rfl) ?_
  refine lv_if_lt (tgt := 2407) hx hb dL_law_2363 (by decide) (fun c_11 => absurd c_11 (nI_pos (by omega))) (fun c_11 => ?_)
  refine lv_iload hx hb dL_law_2366 (lv_at hl 1 rfl) ?_
  refine lv_bipush (v := 99) hx hb dL_law_2368 (by decide) ?_
  refine lv_icmp_gt (tgt := 2407) hx hb dL_law_2370 (by decide) (fun c_12 => absurd c_12 (n99_i ht27)) (fun c_12 => ?_)
  refine lv_iload hx hb dL_law_2373 (lv_at hl 0 rfl) ?_
  refine lv_iload hx hb dL_law_2375 (lv_at hl 2 rfl) ?_
  refine xSi ha hP hS (y := yL_many) (As := [.int (a_bits (agK P k (tW G k) (tL G k) (ee + 1)) 6)]) (rest := [.int x28]) rfl (c_L_many G l v4 (a_bits (agK P k (tW G k) (tL G k) (ee + 1)) 6) ) kw_L_131 hd_L_many rfl ⟨rfl, rfl⟩ ⟨Nat.le_of_ble_eq_true rfl, Nat.le_of_ble_eq_true rfl⟩ hcs hl.1 (Nat.le_of_ble_eq_true rfl) rfl dL_law_2377 (fun r_13 v6 H locs hpq hP hS => ?_)
  obtain ⟨hr_, hu_⟩ := hpq
  have hu_ := hu_.symm
  subst hu_
  have hr_ := hr_.trans (many_bits _ (by decide))
  have hr_ := hr_.symm
  subst hr_
  refine lv_iconst (v := 1) hx hb dL_law_2380 (by decide) ?_
  refine lw_iaddE (z := (nI ((cN (agK P k (tW G k) (tL G k) (ee + 1)) 6) + 1))) hx hb dL_law_2381 (nI_add (cN (agK P k (tW G k) (tL G k) (ee + 1)) 6) 1) ?_
  refine lv_iconst (v := 2) hx hb dL_law_2382 (by decide) ?_
  refine lw_idivE (z := (nI ((cN (agK P k (tW G k) (tL G k) (ee + 1)) 6 + 1) / 2))) hx hb dL_law_2383 (by decide) (divn (b := 2) (by omega) (by decide) (by decide)) ?_
  refine lv_icmp_lt (tgt := 2407) hx hb dL_law_2384 (by decide) (fun c_14 => absurd c_14 (half_lo hcl6 hb1)) (fun c_14 => ?_)
  refine lv_iload hx hb dL_law_2387 (lv_at hl 0 rfl) ?_
  refine lv_iload hx hb dL_law_2389 (lv_at hl 2 rfl) ?_
  refine xSi ha hP hS (y := yL_many) (As := [.int (a_bits (agK P k (tW G k) (tL G k) (ee + 1)) 6)]) (rest := [.int x28]) rfl (c_L_many G l v4 (a_bits (agK P k (tW G k) (tL G k) (ee + 1)) 6) ) kw_L_131 hd_L_many rfl ⟨rfl, rfl⟩ ⟨Nat.le_of_ble_eq_true rfl, Nat.le_of_ble_eq_true rfl⟩ hcs hl.1 (Nat.le_of_ble_eq_true rfl) rfl dL_law_2391 (fun r_15 v7 H locs hpq hP hS => ?_)
  obtain ⟨hr_, hu_⟩ := hpq
  have hu_ := hu_.symm
  subst hu_
  have hr_ := hr_.trans (many_bits _ (by decide))
  have hr_ := hr_.symm
  subst hr_
  refine lv_icmp_gt (tgt := 2407) hx hb dL_law_2394 (by decide) (fun c_16 => absurd c_16 (half_hi hcl6 hb2)) (fun c_16 => ?_)
  refine lv_iload hx hb dL_law_2397 (lv_at hl 20 rfl) ?_
  refine lv_if_lt (tgt := 2407) hx hb dL_law_2399 (by decide) (fun c_17 => absurd c_17 (nneg_i (tW_b G k ee).1)) (fun c_17 => ?_)
  refine lv_iload hx hb dL_law_2402 (lv_at hl 21 rfl) ?_
  refine lv_if_ge (tgt := 2409) hx hb dL_law_2404 (by decide) (fun c_18 => ?_) (fun c_18 => absurd (nn_le (tL_b G k ee).1) c_18)
  refine lv_iload hx hb dL_law_2409 (lv_at hl 4 rfl) ?_
  refine lv_istore (lv' := [(19, .int (nI (cN (agS P k (tW G k) (tL G k) (ee + 1)) 61))), (28, .int x28), (27, .int (nI t27)), (26, .int (a_bits (agK P k (tW G k) (tL G k) (ee + 1)) 6)), (25, .int x25), (24, .int (nI (cN (agS P k (tW G k) (tL G k) (ee + 1)) 61))), (0, .ref (G.1 1000)), (1, .ref (G.1 0)), (2, .ref (G.1 72)), (3, .ref (G.1 73)), (4, .int (nI (nPl P))), (5, .int (nI (nPe P))), (7, .int (nI D)), (8, .int (S 0 0)), (9, .int (a_highAll P S)), (10, .int ((1 <<< (nI (nPl P) &&& 31)) - 1)), (11, .int (a_standing P S)), (18, .int (nI k)), (20, .int (a_bits (agK P k (tW G k) (tL G k) ee) 6)), (21, .int (nI ee)), (22, .int (tW G k ee)), (23, .int (tL G k ee))]) hx hb dL_law_2411 hl (by decide) rfl (fun ls hl => ?_)
  refine lv_iload hx hb dL_law_2413 (lv_at hl 3 rfl) ?_
  refine lv_istore (lv' := [(20, .int (a_bits (agK P k (tW G k) (tL G k) (ee + 1)) 6)), (19, .int (nI (cN (agS P k (tW G k) (tL G k) (ee + 1)) 61))), (28, .int x28), (27, .int (nI t27)), (26, .int (a_bits (agK P k (tW G k) (tL G k) (ee + 1)) 6)), (25, .int x25), (24, .int (nI (cN (agS P k (tW G k) (tL G k) (ee + 1)) 61))), (0, .ref (G.1 1000)), (1, .ref (G.1 0)), (2, .ref (G.1 72)), (3, .ref (G.1 73)), (4, .int (nI (nPl P))), (5, .int (nI (nPe P))), (7, .int (nI D)), (8, .int (S 0 0)), (9, .int (a_highAll P S)), (10, .int ((1 <<< (nI (nPl P) &&& 31)) - 1)), (11, .int (a_standing P S)), (18, .int (nI k)), (21, .int (nI ee)), (22, .int (tW G k ee)), (23, .int (tL G k ee))]) hx hb dL_law_2415 hl (by decide) rfl (fun ls hl => ?_)
  refine lv_iinc (v := nI (ee + 1)) (lv' := [(21, .int (nI (ee + 1))), (20, .int (a_bits (agK P k (tW G k) (tL G k) (ee + 1)) 6)), (19, .int (nI (cN (agS P k (tW G k) (tL G k) (ee + 1)) 61))), (28, .int x28), (27, .int (nI t27)), (26, .int (a_bits (agK P k (tW G k) (tL G k) (ee + 1)) 6)), (25, .int x25), (24, .int (nI (cN (agS P k (tW G k) (tL G k) (ee + 1)) 61))), (0, .ref (G.1 1000)), (1, .ref (G.1 0)), (2, .ref (G.1 72)), (3, .ref (G.1 73)), (4, .int (nI (nPl P))), (5, .int (nI (nPe P))), (7, .int (nI D)), (8, .int (S 0 0)), (9, .int (a_highAll P S)), (10, .int ((1 <<< (nI (nPl P) &&& 31)) - 1)), (11, .int (a_standing P S)), (18, .int (nI k)), (22, .int (tW G k ee)), (23, .int (tL G k ee))]) hx hb dL_law_2417 hl (k := 19) rfl (nI_1 ee) (by decide) rfl (fun ls hl => ?_)
  refine lv_goto (tgt := 2077) hx hb dL_law_2420 (by decide) ?_
  exact kk v4  _ _ _ hJ hP hS (lv_sub hl [8, 9, 10, 11, 12, 13, 14, 15, 16, 17, 18, 19, 2, 1, 0] rfl)
set_option maxHeartbeats 4000000 in
set_option maxRecDepth 100000 in
theorem seg_2423 (ha : Amb p c cL_law 31 s args RL m meth (some .boolean) G 74) (hcs : cells ≤ room_1.cells ∧ slots ≤ room_1.slots) (P : PT) (Z : Nat → Int32) (K : KT) (S : PT) (D : Nat) (C : Nat → Int32) (k : Nat) {u : Mem} (hN : NV P Z) (hJ : J P Z K S D C u) (hP : va_P G.2.1 vwCl (wl G 74 (cX G u)) H) (hS : va_S (xA G 74 s.heap.size) s.heap H locs) (hl : lv_has ls 31 [(0, .ref (G.1 1000)), (1, .ref (G.1 0)), (2, .ref (G.1 72)), (3, .ref (G.1 73)), (4, .int (nI (nPl P))), (5, .int (nI (nPe P))), (7, .int (nI D)), (8, .int (S 0 0)), (9, .int (a_highAll P S)), (10, .int ((1 <<< (nI (nPl P) &&& 31)) - 1)), (11, .int (a_standing P S)), (18, .int (nI k))])
    (kk : ∀ (v : Mem)  (H : Heap) (locs : List Loc) (ls : Array Slot), (v = u) → va_P G.2.1 vwCl (wl G 74 (cX G v)) H → va_S (xA G 74 s.heap.size) s.heap H locs → lv_has ls 31 [(0, .ref (G.1 1000)), (1, .ref (G.1 0)), (2, .ref (G.1 72)), (3, .ref (G.1 73)), (4, .int (nI (nPl P))), (5, .int (nI (nPe P))), (7, .int (nI D)), (8, .int (S 0 0)), (9, .int (a_highAll P S)), (10, .int ((1 <<< (nI (nPl P) &&& 31)) - 1)), (11, .int (a_standing P S)), (18, .int (nI (k + 1)))] → W p l e room_1 s m args below meth c H locs cells slots Q (F0 m 2045 ls [])) : W p l e room_1 s m args below meth c H locs cells slots Q (F0 m 2423 ls []) := by
  have hx := ha.1
  have hb := ha.2.1
  obtain ⟨h4, h5⟩ := NV_45 hJ
  have hp0 := hN.1.1
  have hq0 := hN.1.2
  have hpb := (J_plan hJ).1
  have hpr := (J_plan hJ).2
  have hg := J_gs hJ
  refine lv_iinc (v := nI (k + 1)) (lv' := [(18, .int (nI (k + 1))), (0, .ref (G.1 1000)), (1, .ref (G.1 0)), (2, .ref (G.1 72)), (3, .ref (G.1 73)), (4, .int (nI (nPl P))), (5, .int (nI (nPe P))), (7, .int (nI D)), (8, .int (S 0 0)), (9, .int (a_highAll P S)), (10, .int ((1 <<< (nI (nPl P) &&& 31)) - 1)), (11, .int (a_standing P S))]) hx hb dL_law_2423 hl (k := 11) rfl (nI_1 k) (by decide) rfl (fun ls hl => ?_)
  refine lv_goto (tgt := 2045) hx hb dL_law_2426 (by decide) ?_
  exact kk u  _ _ _ rfl hP hS (lv_sub hl [1, 2, 3, 4, 5, 6, 7, 8, 9, 10, 11, 0] rfl)
end SC08

