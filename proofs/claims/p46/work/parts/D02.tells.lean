
theorem hd_L_byte0 : kHd yL_byte0 3 := by decide +kernel
theorem hd_L_letter : kHd yL_letter 1 := by decide +kernel
theorem hd_X7_fault : kHd yX7_fault 1 := by decide +kernel
theorem hd_X7_nave : kHd yX7_nave 1 := by decide +kernel
theorem hd_X7_text : kHd yX7_text 2 := by decide +kernel
theorem kw_L_25 : ∀ w ∈ k5V RL 25 yX7_text cX7_text 3 (some .int), w ∈ TB := tb_ins (by decide +kernel)
theorem kw_L_28 : ∀ w ∈ k5S RL 28 yL_letter cL_letter 1 (some .int), w ∈ TB := tb_ins (by decide +kernel)
theorem kw_L_32 : ∀ w ∈ k5S RL 32 yL_byte0 cL_byte0 3 (some .int), w ∈ TB := tb_ins (by decide +kernel)
theorem kw_L_36 : ∀ w ∈ k5V RL 36 yX7_fault cX7_fault 3 (some .int), w ∈ TB := tb_ins (by decide +kernel)
theorem kw_L_39 : ∀ w ∈ k5V RL 39 yX7_nave cX7_nave 4 (some .int), w ∈ TB := tb_ins (by decide +kernel)
section SD02
variable {p : Program} {l : Launch} {e : Env} {s : State} {m : MethodId} {args : Array Value} {below : List Frame} {meth : Method} {c : Code} {H : Heap} {locs : List Loc} {cells slots : Nat} {Q : State → Prop} {ls : Array Slot} {G : GT}
abbrev room_t : Room := { frames := 6, cells := 0, slots := 0, locals := 137 }
set_option maxHeartbeats 4000000 in
set_option maxRecDepth 100000 in
theorem ts_0 (ha : Amb p c cL_tells 9 s args RL m meth (some .boolean) G 74) (hcs : cells ≤ room_t.cells ∧ slots ≤ room_t.slots)  {u : Mem}  (hP : va_P G.2.1 vwCl (wl G 74 (cX G u)) H) (hS : va_S (xA G 74 s.heap.size) s.heap H locs) (hl : lv_has ls 9 [(0, .ref (G.1 0)), (1, .ref (G.1 1000)), (2, .ref (G.1 72)), (3, .ref (G.1 73)), (4, .int 4), (5, .int 5)])
    (kk : ∀ (v : Mem)  (H : Heap) (locs : List Loc) (ls : Array Slot), (v = u) → va_P G.2.1 vwCl (wl G 74 (cX G v)) H → va_S (xA G 74 s.heap.size) s.heap H locs → lv_has ls 9 [(0, .ref (G.1 0)), (1, .ref (G.1 1000)), (2, .ref (G.1 72)), (3, .ref (G.1 73)), (4, .int 4), (5, .int 5), (6, .int (nI 0))] → W p l e room_t s m args below meth c H locs cells slots Q (F0 m 3 ls [])) : W p l e room_t s m args below meth c H locs cells slots Q (F0 m 0 ls []) := by
  have hx := ha.1
  have hb := ha.2.1
  refine lv_iconst (v := 0) hx hb dL_tells_0 (by decide) ?_
  refine lv_istore (lv' := [(6, .int 0), (0, .ref (G.1 0)), (1, .ref (G.1 1000)), (2, .ref (G.1 72)), (3, .ref (G.1 73)), (4, .int 4), (5, .int 5)]) hx hb dL_tells_1 hl (by decide) rfl (fun ls hl => ?_)
  exact kk u  _ _ _ rfl hP hS (lv_sub hl [1, 2, 3, 4, 5, 6, 0] rfl)
set_option maxHeartbeats 4000000 in
set_option maxRecDepth 100000 in
theorem ts_3 (ha : Amb p c cL_tells 9 s args RL m meth (some .boolean) G 74) (hcs : cells ≤ room_t.cells ∧ slots ≤ room_t.slots) (j : Nat) {u : Mem} (hO : OKm u) (hj0 : j ≤ 24) (hP : va_P G.2.1 vwCl (wl G 74 (cX G u)) H) (hS : va_S (xA G 74 s.heap.size) s.heap H locs) (hl : lv_has ls 9 [(0, .ref (G.1 0)), (1, .ref (G.1 1000)), (2, .ref (G.1 72)), (3, .ref (G.1 73)), (4, .int 4), (5, .int 5), (6, .int (nI j))])
    (kout : ∀ (v : Mem)  (H : Heap) (locs : List Loc) (ls : Array Slot), (v = u) → va_P G.2.1 vwCl (wl G 74 (cX G v)) H → va_S (xA G 74 s.heap.size) s.heap H locs → lv_has ls 9 [(0, .ref (G.1 0)), (1, .ref (G.1 1000)), (2, .ref (G.1 72)), (3, .ref (G.1 73)), (4, .int 4), (5, .int 5)] → W p l e room_t s m args below meth c H locs cells slots Q (F0 m 21 ls []))
    (kback : ∀ (v : Mem)  (H : Heap) (locs : List Loc) (ls : Array Slot), (OKm v) → (j < 24) → va_P G.2.1 vwCl (wl G 74 (cX G v)) H → va_S (xA G 74 s.heap.size) s.heap H locs → lv_has ls 9 [(0, .ref (G.1 0)), (1, .ref (G.1 1000)), (2, .ref (G.1 72)), (3, .ref (G.1 73)), (4, .int 4), (5, .int 5), (6, .int (nI (j + 1)))] → W p l e room_t s m args below meth c H locs cells slots Q (F0 m 3 ls [])) : W p l e room_t s m args below meth c H locs cells slots Q (F0 m 3 ls []) := by
  have hx := ha.1
  have hb := ha.2.1
  refine lv_iload hx hb dL_tells_3 (lv_at hl 6 rfl) ?_
  refine lv_bipush (v := 24) hx hb dL_tells_5 (by decide) ?_
  refine lv_icmp_ge (tgt := 21) hx hb dL_tells_7 (by decide) (fun c_1 => ?_) (fun c_1 => ?_)
  · have hc_7 := c_1
    exact kout u  _ _ _ rfl hP hS (lv_sub hl [0, 1, 2, 3, 4, 5] rfl)
  · have hc_7 := c_1
    have hj : j < 24 := lt_of_nle (b := 24) hc_7 (by omega) (by omega)
    refine lv_aload_n hx hb dL_tells_10 rfl (lv_at hl 2 rfl) ?_
    refine lv_iload hx hb dL_tells_11 (lv_at hl 6 rfl) ?_
    refine lv_iconst (v := 0) hx hb dL_tells_13 (by decide) ?_
    refine xiastN ha hP hS (cX_loc G) 72 (by decide) (fun τ => cX_72 G τ) j rfl (by omega) (by decide) dL_tells_14 (fun H locs hP hS => ?_)
    have hO : OKm (mU u 72 j 0) := OK_72 hO (fun q hq => mU_n _ _ _ (by omega))
    refine lv_iinc (v := nI (j + 1)) (lv' := [(6, .int (nI (j + 1))), (0, .ref (G.1 0)), (1, .ref (G.1 1000)), (2, .ref (G.1 72)), (3, .ref (G.1 73)), (4, .int 4), (5, .int 5)]) hx hb dL_tells_15 hl (k := 6) rfl (nI_1 j) (by decide) rfl (fun ls hl => ?_)
    refine lv_goto (tgt := 3) hx hb dL_tells_18 (by decide) ?_
    exact kback (mU u 72 j 0)  _ _ _ hO hj hP hS (lv_sub hl [1, 2, 3, 4, 5, 6, 0] rfl)
set_option maxHeartbeats 4000000 in
set_option maxRecDepth 100000 in
theorem ts_21 (ha : Amb p c cL_tells 9 s args RL m meth (some .boolean) G 74) (hcs : cells ≤ room_t.cells ∧ slots ≤ room_t.slots)  {u : Mem}  (hP : va_P G.2.1 vwCl (wl G 74 (cX G u)) H) (hS : va_S (xA G 74 s.heap.size) s.heap H locs) (hl : lv_has ls 9 [(0, .ref (G.1 0)), (1, .ref (G.1 1000)), (2, .ref (G.1 72)), (3, .ref (G.1 73)), (4, .int 4), (5, .int 5)])
    (kk : ∀ (v : Mem)  (H : Heap) (locs : List Loc) (ls : Array Slot), (v = u) → va_P G.2.1 vwCl (wl G 74 (cX G v)) H → va_S (xA G 74 s.heap.size) s.heap H locs → lv_has ls 9 [(0, .ref (G.1 0)), (1, .ref (G.1 1000)), (2, .ref (G.1 72)), (3, .ref (G.1 73)), (4, .int 4), (5, .int 5), (6, .int (nI 0))] → W p l e room_t s m args below meth c H locs cells slots Q (F0 m 24 ls [])) : W p l e room_t s m args below meth c H locs cells slots Q (F0 m 21 ls []) := by
  have hx := ha.1
  have hb := ha.2.1
  refine lv_iconst (v := 0) hx hb dL_tells_21 (by decide) ?_
  refine lv_istore (lv' := [(6, .int 0), (0, .ref (G.1 0)), (1, .ref (G.1 1000)), (2, .ref (G.1 72)), (3, .ref (G.1 73)), (4, .int 4), (5, .int 5)]) hx hb dL_tells_22 hl (by decide) rfl (fun ls hl => ?_)
  exact kk u  _ _ _ rfl hP hS (lv_sub hl [1, 2, 3, 4, 5, 6, 0] rfl)
set_option maxHeartbeats 4000000 in
set_option maxRecDepth 100000 in
theorem ts_24 (ha : Amb p c cL_tells 9 s args RL m meth (some .boolean) G 74) (hcs : cells ≤ room_t.cells ∧ slots ≤ room_t.slots) (j : Nat) {u : Mem} (hO : OKm u) (hj0 : j ≤ 12) (hP : va_P G.2.1 vwCl (wl G 74 (cX G u)) H) (hS : va_S (xA G 74 s.heap.size) s.heap H locs) (hl : lv_has ls 9 [(0, .ref (G.1 0)), (1, .ref (G.1 1000)), (2, .ref (G.1 72)), (3, .ref (G.1 73)), (4, .int 4), (5, .int 5), (6, .int (nI j))])
    (kout : ∀ (v : Mem)  (H : Heap) (locs : List Loc) (ls : Array Slot), (v = u) → va_P G.2.1 vwCl (wl G 74 (cX G v)) H → va_S (xA G 74 s.heap.size) s.heap H locs → lv_has ls 9 [(0, .ref (G.1 0)), (1, .ref (G.1 1000)), (2, .ref (G.1 72)), (3, .ref (G.1 73)), (4, .int 4), (5, .int 5)] → W p l e room_t s m args below meth c H locs cells slots Q (F0 m 60 ls []))
    (kback : ∀ (v : Mem)  (H : Heap) (locs : List Loc) (ls : Array Slot), (OKm v) → (j < 12) → va_P G.2.1 vwCl (wl G 74 (cX G v)) H → va_S (xA G 74 s.heap.size) s.heap H locs → lv_has ls 9 [(0, .ref (G.1 0)), (1, .ref (G.1 1000)), (2, .ref (G.1 72)), (3, .ref (G.1 73)), (4, .int 4), (5, .int 5), (6, .int (nI (j + 1)))] → W p l e room_t s m args below meth c H locs cells slots Q (F0 m 24 ls [])) : W p l e room_t s m args below meth c H locs cells slots Q (F0 m 24 ls []) := by
  have hx := ha.1
  have hb := ha.2.1
  refine lv_iload hx hb dL_tells_24 (lv_at hl 6 rfl) ?_
  refine lv_bipush (v := 12) hx hb dL_tells_26 (by decide) ?_
  refine lv_icmp_ge (tgt := 60) hx hb dL_tells_28 (by decide) (fun c_1 => ?_) (fun c_1 => ?_)
  · have hc_28 := c_1
    exact kout u  _ _ _ rfl hP hS (lv_sub hl [0, 1, 2, 3, 4, 5] rfl)
  · have hc_28 := c_1
    have hj : j < 12 := lt_of_nle (b := 12) hc_28 (by omega) (by omega)
    refine lv_aload_n hx hb dL_tells_31 rfl (lv_at hl 3 rfl) ?_
    refine lv_iload hx hb dL_tells_32 (lv_at hl 6 rfl) ?_
    refine lv_iload hx hb dL_tells_34 (lv_at hl 6 rfl) ?_
    refine lv_iconst (v := 4) hx hb dL_tells_36 (by decide) ?_
    have jn_53_2 : ∀ (x : Int32), W p l e room_t s m args below meth c H locs cells slots Q (F0 m 53 ls [.int x, .int (nI j), .ref (G.1 73)]) := by
      intro x 
      refine xiastN ha hP hS (cX_loc G) 73 (by decide) (fun τ => cX_73 G τ) j rfl (by omega) (by decide) dL_tells_53 (fun H locs hP hS => ?_)
      have hO : OKm (mU u 73 j x) := OK_72 hO (fun q hq => mU_n _ _ _ (by omega))
      refine lv_iinc (v := nI (j + 1)) (lv' := [(6, .int (nI (j + 1))), (0, .ref (G.1 0)), (1, .ref (G.1 1000)), (2, .ref (G.1 72)), (3, .ref (G.1 73)), (4, .int 4), (5, .int 5)]) hx hb dL_tells_54 hl (k := 6) rfl (nI_1 j) (by decide) rfl (fun ls hl => ?_)
      refine lv_goto (tgt := 24) hx hb dL_tells_57 (by decide) ?_
      exact kback (mU u 73 j x)  _ _ _ hO hj hP hS (lv_sub hl [1, 2, 3, 4, 5, 6, 0] rfl)
    refine lv_icmp_le (tgt := 52) hx hb dL_tells_37 (by decide) (fun c_3 => ?_) (fun c_3 => ?_)
    · have hc_37 := c_3
      refine lv_iconst (v := 0) hx hb dL_tells_52 (by decide) ?_
      exact jn_53_2 _ 
    · have hc_37 := c_3
      refine lv_iload hx hb dL_tells_40 (lv_at hl 6 rfl) ?_
      refine lv_bipush (v := 10) hx hb dL_tells_42 (by decide) ?_
      refine lv_icmp_ge (tgt := 52) hx hb dL_tells_44 (by decide) (fun c_4 => ?_) (fun c_4 => ?_)
      · have hc_44 := c_4
        refine lv_iconst (v := 0) hx hb dL_tells_52 (by decide) ?_
        exact jn_53_2 _ 
      · have hc_44 := c_4
        refine lv_bipush (v := (-9)) hx hb dL_tells_47 (by decide) ?_
        refine lv_goto (tgt := 53) hx hb dL_tells_49 (by decide) ?_
        exact jn_53_2 _ 
set_option maxHeartbeats 4000000 in
set_option maxRecDepth 100000 in
theorem ts_60 (ha : Amb p c cL_tells 9 s args RL m meth (some .boolean) G 74) (hcs : cells ≤ room_t.cells ∧ slots ≤ room_t.slots)  {u : Mem} (hO : OKm u) (hP : va_P G.2.1 vwCl (wl G 74 (cX G u)) H) (hS : va_S (xA G 74 s.heap.size) s.heap H locs) (hl : lv_has ls 9 [(0, .ref (G.1 0)), (1, .ref (G.1 1000)), (2, .ref (G.1 72)), (3, .ref (G.1 73)), (4, .int 4), (5, .int 5)])
    (kk : ∀ (v : Mem) (KM IM n : Nat) (H : Heap) (locs : List Loc) (ls : Array Slot), (TX KM IM n 0 0 0 v) → (1 ≤ KM) → (KM ≤ 4) → (1 ≤ IM) → (IM ≤ 5) → (n ≤ 2) → va_P G.2.1 vwCl (wl G 74 (cX G v)) H → va_S (xA G 74 s.heap.size) s.heap H locs → lv_has ls 9 [(0, .ref (G.1 0)), (1, .ref (G.1 1000)), (2, .ref (G.1 72)), (3, .ref (G.1 73)), (4, .int 4), (5, .int 5), (7, .int (nI n)), (8, .int (nI 0))] → W p l e room_t s m args below meth c H locs cells slots Q (F0 m 121 ls [])) : W p l e room_t s m args below meth c H locs cells slots Q (F0 m 60 ls []) := by
  have hx := ha.1
  have hb := ha.2.1
  refine lv_aload_n hx hb dL_tells_60 rfl (lv_at hl 1 rfl) ?_
  refine lv_iconst (v := 0) hx hb dL_tells_61 (by decide) ?_
  refine xSi ha hP hS (y := yL_cell) (As := [.ref (G.1 1000), .int 0]) (rest := []) rfl (c_L_cell G l u (0) (by omega)) kw_L_15 hd_L_cell rfl ⟨rfl, rfl⟩ ⟨Nat.le_of_ble_eq_true rfl, Nat.le_of_ble_eq_true rfl⟩ hcs hl.1 (Nat.le_of_ble_eq_true rfl) rfl dL_tells_62 (fun x6 v1 H locs hpq hP hS => ?_)
  obtain ⟨hr_, hu_⟩ := hpq
  have hu_ := hu_.symm
  subst hu_
  clear hr_
  refine lv_istore (lv' := [(6, .int x6), (0, .ref (G.1 0)), (1, .ref (G.1 1000)), (2, .ref (G.1 72)), (3, .ref (G.1 73)), (4, .int 4), (5, .int 5)]) hx hb dL_tells_65 hl (by decide) rfl (fun ls hl => ?_)
  refine lv_aload_n hx hb dL_tells_67 rfl (lv_at hl 3 rfl) ?_
  refine lv_iconst (v := 0) hx hb dL_tells_68 (by decide) ?_
  refine lv_iconst (v := 1) hx hb dL_tells_69 (by decide) ?_
  refine lv_iload hx hb dL_tells_70 (lv_at hl 0 rfl) ?_
  refine lv_iload hx hb dL_tells_72 (lv_at hl 5 rfl) ?_
  refine xSi ha hP hS (y := yL_part) (As := [.int x6, .int 4]) (rest := [.int 1, .int 0, .ref (G.1 72)]) rfl (c_L_part G l u x6 4 (by decide)) kw_L_21 hd_L_part rfl ⟨rfl, rfl⟩ ⟨Nat.le_of_ble_eq_true rfl, Nat.le_of_ble_eq_true rfl⟩ hcs hl.1 (Nat.le_of_ble_eq_true rfl) rfl dL_tells_74 (fun r_2 v2 H locs hpq hP hS => ?_)
  obtain ⟨hr_, hu_⟩ := hpq
  have hu_ := hu_.symm
  subst hu_
  obtain ⟨k0, hk0, ek0⟩ : ∃ j, j < 4 ∧ r_2 = nI j := by rw [hr_]; exact part_N _ (n := 4) (by decide) (by omega)
  clear hr_
  subst ek0
  refine lw_iaddE (z := (nI (1 + k0))) hx hb dL_tells_77 (nI_add 1 k0) ?_
  refine xiastN ha hP hS (cX_loc G) 72 (by decide) (fun τ => cX_72 G τ) 0 (by decide) (by omega) (by decide) dL_tells_78 (fun H locs hP hS => ?_)
  refine lv_aload_n hx hb dL_tells_79 rfl (lv_at hl 3 rfl) ?_
  refine lv_iconst (v := 1) hx hb dL_tells_80 (by decide) ?_
  refine lv_iconst (v := 1) hx hb dL_tells_81 (by decide) ?_
  refine lv_iload hx hb dL_tells_82 (lv_at hl 0 rfl) ?_
  refine lv_iconst (v := 3) hx hb dL_tells_84 (by decide) ?_
  refine lv_ishr hx hb dL_tells_85 ?_
  refine lv_iload hx hb dL_tells_86 (lv_at hl 6 rfl) ?_
  refine xSi ha hP hS (y := yL_part) (As := [.int (x6 >>> (3 &&& 31)), .int 5]) (rest := [.int 1, .int 1, .ref (G.1 72)]) rfl (c_L_part G l (mU u 72 0 (nI (1 + k0))) (x6 >>> (3 &&& 31)) 5 (by decide)) kw_L_21 hd_L_part rfl ⟨rfl, rfl⟩ ⟨Nat.le_of_ble_eq_true rfl, Nat.le_of_ble_eq_true rfl⟩ hcs hl.1 (Nat.le_of_ble_eq_true rfl) rfl dL_tells_88 (fun r_3 v3 H locs hpq hP hS => ?_)
  obtain ⟨hr_, hu_⟩ := hpq
  have hu_ := hu_.symm
  subst hu_
  obtain ⟨i0, hi0, ei0⟩ : ∃ j, j < 5 ∧ r_3 = nI j := by rw [hr_]; exact part_N _ (n := 5) (by decide) (by omega)
  clear hr_
  subst ei0
  refine lw_iaddE (z := (nI (1 + i0))) hx hb dL_tells_91 (nI_add 1 i0) ?_
  refine xiastN ha hP hS (cX_loc G) 72 (by decide) (fun τ => cX_72 G τ) 1 (by decide) (by omega) (by decide) dL_tells_92 (fun H locs hP hS => ?_)
  have hO : OKm (mU (mU u 72 0 (nI (1 + k0))) 72 1 (nI (1 + i0))) := OK_72 hO (fun q hq => by rw [mU_n _ _ _ (by omega), mU_n _ _ _ (by omega)])
  have hz0 : (mU (mU u 72 0 (nI (1 + k0))) 72 1 (nI (1 + i0))) 72 0 = nI (1 + k0) := (z_ne _ _ (by decide)).trans (z_at _ _ _)
  have hz1 : (mU (mU u 72 0 (nI (1 + k0))) 72 1 (nI (1 + i0))) 72 1 = nI (1 + i0) := z_at _ _ _
  refine lv_aload_n hx hb dL_tells_93 rfl (lv_at hl 1 rfl) ?_
  refine lv_iconst (v := 3) hx hb dL_tells_94 (by decide) ?_
  refine lv_bipush (v := 60) hx hb dL_tells_95 (by decide) ?_
  refine xVi ha hP hS (y := yX7_text) (As := [.int 3, .int 60]) (rest := []) 0 (by decide) (cX_0 G _) rfl rfl (c_X7_text G l (mU (mU u 72 0 (nI (1 + k0))) 72 1 (nI (1 + i0))) 3 60 ) kw_L_25 hd_X7_text rfl ⟨rfl, rfl⟩ ⟨Nat.le_of_ble_eq_true rfl, Nat.le_of_ble_eq_true rfl⟩ hcs hl.1 (Nat.le_of_ble_eq_true rfl) rfl dL_tells_97 (fun r_4 v4 H locs hpq hP hS => ?_)
  obtain ⟨hr_, hu_⟩ := hpq
  have hq_ := q_text hO
  simp only [← hr_, ← hu_] at hq_
  clear hr_ hu_
  obtain ⟨h_r, hO, h23, h24, hfr⟩ := hq_
  subst h_r
  have hz0 := (congrFun (hfr 72 (by decide) (by decide)) 0).trans hz0
  have hz1 := (congrFun (hfr 72 (by decide) (by decide)) 1).trans hz1
  refine lv_bipush (v := 60) hx hb dL_tells_100 (by decide) ?_
  refine lv_icmp_eq (tgt := 107) hx hb dL_tells_102 (by decide) (fun c_5 => ?_) (fun c_5 => absurd rfl c_5)
  refine lv_iload hx hb dL_tells_107 (lv_at hl 0 rfl) ?_
  refine lv_bipush (v := 6) hx hb dL_tells_109 (by decide) ?_
  refine lv_ishr hx hb dL_tells_111 ?_
  refine lv_iconst (v := 3) hx hb dL_tells_112 (by decide) ?_
  refine xSi ha hP hS (y := yL_part) (As := [.int (x6 >>> (6 &&& 31)), .int 3]) (rest := []) rfl (c_L_part G l v4 (x6 >>> (6 &&& 31)) 3 (by decide)) kw_L_21 hd_L_part rfl ⟨rfl, rfl⟩ ⟨Nat.le_of_ble_eq_true rfl, Nat.le_of_ble_eq_true rfl⟩ hcs hl.1 (Nat.le_of_ble_eq_true rfl) rfl dL_tells_113 (fun r_6 v5 H locs hpq hP hS => ?_)
  obtain ⟨hr_, hu_⟩ := hpq
  have hu_ := hu_.symm
  subst hu_
  obtain ⟨n0, hn0, en0⟩ : ∃ j, j < 3 ∧ r_6 = nI j := by rw [hr_]; exact part_N _ (n := 3) (by decide) (by omega)
  clear hr_
  subst en0
  refine lv_istore (lv' := [(7, .int (nI n0)), (6, .int x6), (0, .ref (G.1 0)), (1, .ref (G.1 1000)), (2, .ref (G.1 72)), (3, .ref (G.1 73)), (4, .int 4), (5, .int 5)]) hx hb dL_tells_116 hl (by decide) rfl (fun ls hl => ?_)
  refine lv_iconst (v := 0) hx hb dL_tells_118 (by decide) ?_
  refine lv_istore (lv' := [(8, .int 0), (7, .int (nI n0)), (6, .int x6), (0, .ref (G.1 0)), (1, .ref (G.1 1000)), (2, .ref (G.1 72)), (3, .ref (G.1 73)), (4, .int 4), (5, .int 5)]) hx hb dL_tells_119 hl (by decide) rfl (fun ls hl => ?_)
  exact kk v4 _ _ n0 _ _ _ (TX_0 hO h23 h24 hz0 hz1 (by omega)) (by omega) (by omega) (by omega) (by omega) (by omega) hP hS (lv_sub hl [3, 4, 5, 6, 7, 8, 1, 0] rfl)
set_option maxHeartbeats 4000000 in
set_option maxRecDepth 100000 in
theorem ts_121 (ha : Amb p c cL_tells 9 s args RL m meth (some .boolean) G 74) (hcs : cells ≤ room_t.cells ∧ slots ≤ room_t.slots) (KM : Nat) (IM : Nat) (n : Nat) (k : Nat) {u : Mem} (hT : TX KM IM n 0 k 0 u) (hK1 : 1 ≤ KM) (hK4 : KM ≤ 4) (hI1 : 1 ≤ IM) (hI5 : IM ≤ 5) (hk0 : k ≤ KM) (hn : n ≤ 2 + 6 * k) (hlo : k ≤ n) (hP : va_P G.2.1 vwCl (wl G 74 (cX G u)) H) (hS : va_S (xA G 74 s.heap.size) s.heap H locs) (hl : lv_has ls 9 [(0, .ref (G.1 0)), (1, .ref (G.1 1000)), (2, .ref (G.1 72)), (3, .ref (G.1 73)), (4, .int 4), (5, .int 5), (7, .int (nI n)), (8, .int (nI k))])
    (kout : ∀ (v : Mem)  (H : Heap) (locs : List Loc) (ls : Array Slot), (v = u) → (k = KM) → va_P G.2.1 vwCl (wl G 74 (cX G v)) H → va_S (xA G 74 s.heap.size) s.heap H locs → lv_has ls 9 [(0, .ref (G.1 0)), (1, .ref (G.1 1000)), (2, .ref (G.1 72)), (3, .ref (G.1 73)), (4, .int 4), (5, .int 5), (7, .int (nI n))] → W p l e room_t s m args below meth c H locs cells slots Q (F0 m 309 ls []))
    (kback : ∀ (v : Mem) (n9 : Nat) (H : Heap) (locs : List Loc) (ls : Array Slot), (TX KM IM n9 0 (k + 1) 0 v) → (k < KM) → (n9 ≤ 2 + 6 * (k + 1)) → (k + 1 ≤ n9) → va_P G.2.1 vwCl (wl G 74 (cX G v)) H → va_S (xA G 74 s.heap.size) s.heap H locs → lv_has ls 9 [(0, .ref (G.1 0)), (1, .ref (G.1 1000)), (2, .ref (G.1 72)), (3, .ref (G.1 73)), (4, .int 4), (5, .int 5), (7, .int (nI n9)), (8, .int (nI (k + 1)))] → W p l e room_t s m args below meth c H locs cells slots Q (F0 m 121 ls [])) : W p l e room_t s m args below meth c H locs cells slots Q (F0 m 121 ls []) := by
  have hx := ha.1
  have hb := ha.2.1
  refine lv_iload hx hb dL_tells_121 (lv_at hl 7 rfl) ?_
  refine lv_aload_n hx hb dL_tells_123 rfl (lv_at hl 2 rfl) ?_
  refine lv_iconst (v := 0) hx hb dL_tells_124 (by decide) ?_
  refine xialdN ha hP 72 (by decide) (cX_72 G _) 0 (by decide) (by omega) (by decide) dL_tells_125 ?_
  have hv_125 : (u 72 0) = (nI KM) := hT.2.2.2.2.1
  rw [hv_125]
  refine lv_icmp_ge (tgt := 309) hx hb dL_tells_126 (by decide) (fun c_1 => ?_) (fun c_1 => ?_)
  · have hc_126 := c_1
    have hk := eq_of_le hc_126 hk0 (by omega)
    exact kout u  _ _ _ rfl hk hP hS (lv_sub hl [0, 1, 2, 3, 4, 5, 6] rfl)
  · have hc_126 := c_1
    have hk : k < KM := lt_of_nle hc_126 (by omega) (by omega)
    refine lv_aload_n hx hb dL_tells_129 rfl (lv_at hl 1 rfl) ?_
    refine lv_iconst (v := 1) hx hb dL_tells_130 (by decide) ?_
    refine lv_iload hx hb dL_tells_131 (lv_at hl 7 rfl) ?_
    refine lw_iaddE (z := (nI (1 + k))) hx hb dL_tells_133 (nI_add 1 k) ?_
    refine xSi ha hP hS (y := yL_cell) (As := [.ref (G.1 1000), .int (nI (1 + k))]) (rest := []) rfl (c_L_cell G l u (1 + k) (by omega)) kw_L_15 hd_L_cell rfl ⟨rfl, rfl⟩ ⟨Nat.le_of_ble_eq_true rfl, Nat.le_of_ble_eq_true rfl⟩ hcs hl.1 (Nat.le_of_ble_eq_true rfl) rfl dL_tells_134 (fun x6 v1 H locs hpq hP hS => ?_)
    obtain ⟨hr_, hu_⟩ := hpq
    have hu_ := hu_.symm
    subst hu_
    clear hr_
    refine lv_istore (lv' := [(6, .int x6), (0, .ref (G.1 0)), (1, .ref (G.1 1000)), (2, .ref (G.1 72)), (3, .ref (G.1 73)), (4, .int 4), (5, .int 5), (7, .int (nI n)), (8, .int (nI k))]) hx hb dL_tells_137 hl (by decide) rfl (fun ls hl => ?_)
    refine lv_aload_n hx hb dL_tells_139 rfl (lv_at hl 3 rfl) ?_
    refine lv_iconst (v := 2) hx hb dL_tells_140 (by decide) ?_
    refine lv_iload hx hb dL_tells_141 (lv_at hl 8 rfl) ?_
    refine lw_iaddE (z := (nI (2 + k))) hx hb dL_tells_143 (nI_add 2 k) ?_
    refine lv_iload hx hb dL_tells_144 (lv_at hl 0 rfl) ?_
    refine lv_bipush (v := 6) hx hb dL_tells_146 (by decide) ?_
    refine xSi ha hP hS (y := yL_part) (As := [.int x6, .int 6]) (rest := [.int (nI (2 + k)), .ref (G.1 72)]) rfl (c_L_part G l u x6 6 (by decide)) kw_L_21 hd_L_part rfl ⟨rfl, rfl⟩ ⟨Nat.le_of_ble_eq_true rfl, Nat.le_of_ble_eq_true rfl⟩ hcs hl.1 (Nat.le_of_ble_eq_true rfl) rfl dL_tells_148 (fun r_3 v2 H locs hpq hP hS => ?_)
    obtain ⟨hr_, hu_⟩ := hpq
    have hu_ := hu_.symm
    subst hu_
    obtain ⟨d0, hd0, ed0⟩ : ∃ j, j < 6 ∧ r_3 = nI j := by rw [hr_]; exact part_N _ (n := 6) (by decide) (by omega)
    clear hr_
    subst ed0
    refine xiastN ha hP hS (cX_loc G) 72 (by decide) (fun τ => cX_72 G τ) (2 + k) rfl (by omega) (by decide) dL_tells_151 (fun H locs hP hS => ?_)
    have hT := TX_z (j := 2 + k) (v := (nI d0)) hT (by omega) (fun q hq => by omega) (fun q hq => by omega)
    have zd : (mU u 72 (2 + k) (nI d0)) 72 (2 + k) = (nI d0) := z_at _ _ _
    refine lv_aload_n hx hb dL_tells_152 rfl (lv_at hl 3 rfl) ?_
    refine lv_bipush (v := 6) hx hb dL_tells_153 (by decide) ?_
    refine lv_iload hx hb dL_tells_155 (lv_at hl 8 rfl) ?_
    refine lw_iaddE (z := (nI (6 + k))) hx hb dL_tells_157 (nI_add 6 k) ?_
    refine lv_iconst (v := 1) hx hb dL_tells_158 (by decide) ?_
    refine lv_iload hx hb dL_tells_159 (lv_at hl 0 rfl) ?_
    refine lv_iconst (v := 3) hx hb dL_tells_161 (by decide) ?_
    refine lv_ishr hx hb dL_tells_162 ?_
    refine lv_bipush (v := 9) hx hb dL_tells_163 (by decide) ?_
    refine xSi ha hP hS (y := yL_part) (As := [.int (x6 >>> (3 &&& 31)), .int 9]) (rest := [.int 1, .int (nI (6 + k)), .ref (G.1 72)]) rfl (c_L_part G l (mU u 72 (2 + k) (nI d0)) (x6 >>> (3 &&& 31)) 9 (by decide)) kw_L_21 hd_L_part rfl ⟨rfl, rfl⟩ ⟨Nat.le_of_ble_eq_true rfl, Nat.le_of_ble_eq_true rfl⟩ hcs hl.1 (Nat.le_of_ble_eq_true rfl) rfl dL_tells_165 (fun r_4 v3 H locs hpq hP hS => ?_)
    obtain ⟨hr_, hu_⟩ := hpq
    have hu_ := hu_.symm
    subst hu_
    obtain ⟨a0, ha0, ea0⟩ : ∃ j, j < 9 ∧ r_4 = nI j := by rw [hr_]; exact part_N _ (n := 9) (by decide) (by omega)
    clear hr_
    subst ea0
    refine lw_iaddE (z := (nI (1 + a0))) hx hb dL_tells_168 (nI_add 1 a0) ?_
    refine xiastN ha hP hS (cX_loc G) 72 (by decide) (fun τ => cX_72 G τ) (6 + k) rfl (by omega) (by decide) dL_tells_169 (fun H locs hP hS => ?_)
    have hT := TX_z (j := 6 + k) (v := (nI (1 + a0))) hT (by omega) (fun q hq => by omega) (fun q hq => by omega)
    have zd : (mU (mU u 72 (2 + k) (nI d0)) 72 (6 + k) (nI (1 + a0))) 72 (2 + k) = (nI d0) := (z_ne _ _ (by omega)).trans zd
    have za : (mU (mU u 72 (2 + k) (nI d0)) 72 (6 + k) (nI (1 + a0))) 72 (6 + k) = (nI (1 + a0)) := z_at _ _ _
    refine lv_aload_n hx hb dL_tells_170 rfl (lv_at hl 3 rfl) ?_
    refine lv_bipush (v := 10) hx hb dL_tells_171 (by decide) ?_
    refine lv_iload hx hb dL_tells_173 (lv_at hl 8 rfl) ?_
    refine lw_iaddE (z := (nI (10 + k))) hx hb dL_tells_175 (nI_add 10 k) ?_
    refine lv_iload hx hb dL_tells_176 (lv_at hl 0 rfl) ?_
    refine lv_bipush (v := 7) hx hb dL_tells_178 (by decide) ?_
    refine lv_ishr hx hb dL_tells_180 ?_
    refine lv_iload hx hb dL_tells_181 (lv_at hl 0 rfl) ?_
    refine lv_bipush (v := 20) hx hb dL_tells_183 (by decide) ?_
    refine lv_ishr hx hb dL_tells_185 ?_
    refine lv_iconst (v := 2) hx hb dL_tells_186 (by decide) ?_
    refine xSi ha hP hS (y := yL_part) (As := [.int (x6 >>> (20 &&& 31)), .int 2]) (rest := [.int (x6 >>> (7 &&& 31)), .int (nI (10 + k)), .ref (G.1 72)]) rfl (c_L_part G l (mU (mU u 72 (2 + k) (nI d0)) 72 (6 + k) (nI (1 + a0))) (x6 >>> (20 &&& 31)) 2 (by decide)) kw_L_21 hd_L_part rfl ⟨rfl, rfl⟩ ⟨Nat.le_of_ble_eq_true rfl, Nat.le_of_ble_eq_true rfl⟩ hcs hl.1 (Nat.le_of_ble_eq_true rfl) rfl dL_tells_187 (fun r_5 v4 H locs hpq hP hS => ?_)
    obtain ⟨hr_, hu_⟩ := hpq
    have hu_ := hu_.symm
    subst hu_
    obtain ⟨b0, hb0, eb0⟩ : ∃ j, j < 2 ∧ r_5 = nI j := by rw [hr_]; exact part_N _ (n := 2) (by decide) (by omega)
    clear hr_
    subst eb0
    have jn_200_6 : ∀ (M : Nat), (0 < M) → (M ≤ 61) → W p l e room_t s m args below meth c H locs cells slots Q (F0 m 200 ls [.int (nI M), .int (x6 >>> (7 &&& 31)), .int (nI (10 + k)), .ref (G.1 72)]) := by
      intro M hM0 hM
      refine xSi ha hP hS (y := yL_part) (As := [.int (x6 >>> (7 &&& 31)), .int (nI M)]) (rest := [.int (nI (10 + k)), .ref (G.1 72)]) rfl (c_L_part G l (mU (mU u 72 (2 + k) (nI d0)) 72 (6 + k) (nI (1 + a0))) (x6 >>> (7 &&& 31)) (nI M) (nI_ne0 hM0 (by omega))) kw_L_21 hd_L_part rfl ⟨rfl, rfl⟩ ⟨Nat.le_of_ble_eq_true rfl, Nat.le_of_ble_eq_true rfl⟩ hcs hl.1 (Nat.le_of_ble_eq_true rfl) rfl dL_tells_200 (fun r_7 v5 H locs hpq hP hS => ?_)
      obtain ⟨hr_, hu_⟩ := hpq
      have hu_ := hu_.symm
      subst hu_
      obtain ⟨s0, hs0, es0⟩ : ∃ j, j < M ∧ r_7 = nI j := by rw [hr_]; exact part_N _ hM0 (by omega)
      clear hr_
      subst es0
      refine xiastN ha hP hS (cX_loc G) 72 (by decide) (fun τ => cX_72 G τ) (10 + k) rfl (by omega) (by decide) dL_tells_203 (fun H locs hP hS => ?_)
      have hT := TX_z (j := 10 + k) (v := (nI s0)) hT (by omega) (fun q hq => by omega) (fun q hq => by omega)
      have zd : (mU (mU (mU u 72 (2 + k) (nI d0)) 72 (6 + k) (nI (1 + a0))) 72 (10 + k) (nI s0)) 72 (2 + k) = (nI d0) := (z_ne _ _ (by omega)).trans zd
      have za : (mU (mU (mU u 72 (2 + k) (nI d0)) 72 (6 + k) (nI (1 + a0))) 72 (10 + k) (nI s0)) 72 (6 + k) = (nI (1 + a0)) := (z_ne _ _ (by omega)).trans za
      have zs : (mU (mU (mU u 72 (2 + k) (nI d0)) 72 (6 + k) (nI (1 + a0))) 72 (10 + k) (nI s0)) 72 (10 + k) = (nI s0) := z_at _ _ _
      refine lv_aload_n hx hb dL_tells_204 rfl (lv_at hl 1 rfl) ?_
      refine lv_iload hx hb dL_tells_205 (lv_at hl 7 rfl) ?_
      refine lv_aload_n hx hb dL_tells_207 rfl (lv_at hl 3 rfl) ?_
      refine lv_iconst (v := 2) hx hb dL_tells_208 (by decide) ?_
      refine lv_iload hx hb dL_tells_209 (lv_at hl 8 rfl) ?_
      refine lw_iaddE (z := (nI (2 + k))) hx hb dL_tells_211 (nI_add 2 k) ?_
      refine xialdN ha hP 72 (by decide) (cX_72 G _) (2 + k) rfl (by omega) (by decide) dL_tells_212 ?_
      have hv_212 : ((mU (mU (mU u 72 (2 + k) (nI d0)) 72 (6 + k) (nI (1 + a0))) 72 (10 + k) (nI s0)) 72 (2 + k)) = (nI d0) := zd
      rw [hv_212]
      refine xSi ha hP hS (y := yL_letter) (As := [.int (nI d0)]) (rest := [.int (nI n), .ref (G.1 0)]) rfl (c_L_letter G l (mU (mU (mU u 72 (2 + k) (nI d0)) 72 (6 + k) (nI (1 + a0))) 72 (10 + k) (nI s0)) (nI d0) ) kw_L_28 hd_L_letter rfl ⟨rfl, rfl⟩ ⟨Nat.le_of_ble_eq_true rfl, Nat.le_of_ble_eq_true rfl⟩ hcs hl.1 (Nat.le_of_ble_eq_true rfl) rfl dL_tells_213 (fun r_8 v6 H locs hpq hP hS => ?_)
      obtain ⟨hr_, hu_⟩ := hpq
      have hu_ := hu_.symm
      subst hu_
      obtain ⟨lb, hlb, elb⟩ := let_N hd0
      have hr_ := hr_.trans elb
      subst hr_
      refine xSi ha hP hS (y := yL_byte0) (As := [.ref (G.1 0), .int (nI n), .int (nI lb)]) (rest := []) rfl (c_L_byte0 G l (mU (mU (mU u 72 (2 + k) (nI d0)) 72 (6 + k) (nI (1 + a0))) 72 (10 + k) (nI s0)) (nI n) (nI lb) ) kw_L_32 hd_L_byte0 rfl ⟨rfl, rfl⟩ ⟨Nat.le_of_ble_eq_true rfl, Nat.le_of_ble_eq_true rfl⟩ hcs hl.1 (Nat.le_of_ble_eq_true rfl) rfl dL_tells_216 (fun r_9 v7 H locs hpq hP hS => ?_)
      obtain ⟨hr_, hu_⟩ := hpq
      have hq_ := TX_b hT (q := n) (b := lb) rfl (by omega) hlb
      simp only [← hr_, ← hu_] at hq_
      clear hr_ hu_
      obtain ⟨h_r, hT, x0, hxb, h72⟩ := hq_
      subst h_r
      have zd := (congrFun h72 _).trans zd
      have za := (congrFun h72 _).trans za
      have zs := (congrFun h72 _).trans zs
      refine lv_istore (lv' := [(7, .int (nI (n + 1))), (6, .int x6), (0, .ref (G.1 0)), (1, .ref (G.1 1000)), (2, .ref (G.1 72)), (3, .ref (G.1 73)), (4, .int 4), (5, .int 5), (8, .int (nI k))]) hx hb dL_tells_219 hl (by decide) rfl (fun ls hl => ?_)
      refine lv_aload_n hx hb dL_tells_221 rfl (lv_at hl 2 rfl) ?_
      refine lv_iload hx hb dL_tells_222 (lv_at hl 0 rfl) ?_
      refine lv_bipush (v := 48) hx hb dL_tells_224 (by decide) ?_
      refine lv_aload_n hx hb dL_tells_226 rfl (lv_at hl 4 rfl) ?_
      refine lv_bipush (v := 6) hx hb dL_tells_227 (by decide) ?_
      refine lv_iload hx hb dL_tells_229 (lv_at hl 8 rfl) ?_
      refine lw_iaddE (z := (nI (6 + k))) hx hb dL_tells_231 (nI_add 6 k) ?_
      refine xialdN ha hP 72 (by decide) (cX_72 G _) (6 + k) rfl (by omega) (by decide) dL_tells_232 ?_
      have hv_232 : (v7 72 (6 + k)) = (nI (1 + a0)) := za
      rw [hv_232]
      refine lw_iaddE (z := (nI (48 + (1 + a0)))) hx hb dL_tells_233 (nI_add 48 (1 + a0)) ?_
      refine xSi ha hP hS (y := yL_byte0) (As := [.ref (G.1 0), .int (nI (n + 1)), .int (nI (48 + (1 + a0)))]) (rest := []) rfl (c_L_byte0 G l v7 (nI (n + 1)) (nI (48 + (1 + a0))) ) kw_L_32 hd_L_byte0 rfl ⟨rfl, rfl⟩ ⟨Nat.le_of_ble_eq_true rfl, Nat.le_of_ble_eq_true rfl⟩ hcs hl.1 (Nat.le_of_ble_eq_true rfl) rfl dL_tells_234 (fun r_10 v8 H locs hpq hP hS => ?_)
      obtain ⟨hr_, hu_⟩ := hpq
      have hq_ := TX_b hT (q := n + 1) (b := 48 + (1 + a0)) rfl (by omega) (by omega)
      simp only [← hr_, ← hu_] at hq_
      clear hr_ hu_
      obtain ⟨h_r, hT, x1, hxb, h72⟩ := hq_
      subst h_r
      have zd := (congrFun h72 _).trans zd
      have za := (congrFun h72 _).trans za
      have zs := (congrFun h72 _).trans zs
      have x0 := (hxb _ (by omega)).trans x0
      refine lv_istore (lv' := [(7, .int (nI (n + 2))), (6, .int x6), (0, .ref (G.1 0)), (1, .ref (G.1 1000)), (2, .ref (G.1 72)), (3, .ref (G.1 73)), (4, .int 4), (5, .int 5), (8, .int (nI k))]) hx hb dL_tells_237 hl (by decide) rfl (fun ls hl => ?_)
      refine lv_aload_n hx hb dL_tells_239 rfl (lv_at hl 2 rfl) ?_
      refine lv_iload hx hb dL_tells_240 (lv_at hl 0 rfl) ?_
      refine lv_bipush (v := 48) hx hb dL_tells_242 (by decide) ?_
      refine lv_aload_n hx hb dL_tells_244 rfl (lv_at hl 4 rfl) ?_
      refine lv_bipush (v := 10) hx hb dL_tells_245 (by decide) ?_
      refine lv_iload hx hb dL_tells_247 (lv_at hl 8 rfl) ?_
      refine lw_iaddE (z := (nI (10 + k))) hx hb dL_tells_249 (nI_add 10 k) ?_
      refine xialdN ha hP 72 (by decide) (cX_72 G _) (10 + k) rfl (by omega) (by decide) dL_tells_250 ?_
      have hv_250 : (v8 72 (10 + k)) = (nI s0) := zs
      rw [hv_250]
      refine lv_bipush (v := 10) hx hb dL_tells_251 (by decide) ?_
      refine lw_idivE (z := (nI (s0 / 10))) hx hb dL_tells_253 (by decide) (st_fin ⟨s0, by omega⟩).1 ?_
      refine lw_iaddE (z := (nI (48 + (s0 / 10)))) hx hb dL_tells_254 (nI_add 48 (s0 / 10)) ?_
      refine xSi ha hP hS (y := yL_byte0) (As := [.ref (G.1 0), .int (nI (n + 2)), .int (nI (48 + (s0 / 10)))]) (rest := []) rfl (c_L_byte0 G l v8 (nI (n + 2)) (nI (48 + (s0 / 10))) ) kw_L_32 hd_L_byte0 rfl ⟨rfl, rfl⟩ ⟨Nat.le_of_ble_eq_true rfl, Nat.le_of_ble_eq_true rfl⟩ hcs hl.1 (Nat.le_of_ble_eq_true rfl) rfl dL_tells_255 (fun r_11 v9 H locs hpq hP hS => ?_)
      obtain ⟨hr_, hu_⟩ := hpq
      have hq_ := TX_b hT (q := n + 2) (b := 48 + s0 / 10) rfl (by omega) (by omega)
      simp only [← hr_, ← hu_] at hq_
      clear hr_ hu_
      obtain ⟨h_r, hT, x2, hxb, h72⟩ := hq_
      subst h_r
      have zd := (congrFun h72 _).trans zd
      have za := (congrFun h72 _).trans za
      have zs := (congrFun h72 _).trans zs
      have x0 := (hxb _ (by omega)).trans x0
      have x1 := (hxb _ (by omega)).trans x1
      refine lv_istore (lv' := [(7, .int (nI (n + 3))), (6, .int x6), (0, .ref (G.1 0)), (1, .ref (G.1 1000)), (2, .ref (G.1 72)), (3, .ref (G.1 73)), (4, .int 4), (5, .int 5), (8, .int (nI k))]) hx hb dL_tells_258 hl (by decide) rfl (fun ls hl => ?_)
      refine lv_aload_n hx hb dL_tells_260 rfl (lv_at hl 2 rfl) ?_
      refine lv_iload hx hb dL_tells_261 (lv_at hl 0 rfl) ?_
      refine lv_bipush (v := 48) hx hb dL_tells_263 (by decide) ?_
      refine lv_aload_n hx hb dL_tells_265 rfl (lv_at hl 4 rfl) ?_
      refine lv_bipush (v := 10) hx hb dL_tells_266 (by decide) ?_
      refine lv_iload hx hb dL_tells_268 (lv_at hl 8 rfl) ?_
      refine lw_iaddE (z := (nI (10 + k))) hx hb dL_tells_270 (nI_add 10 k) ?_
      refine xialdN ha hP 72 (by decide) (cX_72 G _) (10 + k) rfl (by omega) (by decide) dL_tells_271 ?_
      have hv_271 : (v9 72 (10 + k)) = (nI s0) := zs
      rw [hv_271]
      refine lv_bipush (v := 10) hx hb dL_tells_272 (by decide) ?_
      refine lw_iremE (z := (nI (s0 % 10))) hx hb dL_tells_274 (by decide) (st_fin ⟨s0, by omega⟩).2.1 ?_
      refine lw_iaddE (z := (nI (48 + (s0 % 10)))) hx hb dL_tells_275 (nI_add 48 (s0 % 10)) ?_
      refine xSi ha hP hS (y := yL_byte0) (As := [.ref (G.1 0), .int (nI (n + 3)), .int (nI (48 + (s0 % 10)))]) (rest := []) rfl (c_L_byte0 G l v9 (nI (n + 3)) (nI (48 + (s0 % 10))) ) kw_L_32 hd_L_byte0 rfl ⟨rfl, rfl⟩ ⟨Nat.le_of_ble_eq_true rfl, Nat.le_of_ble_eq_true rfl⟩ hcs hl.1 (Nat.le_of_ble_eq_true rfl) rfl dL_tells_276 (fun r_12 v10 H locs hpq hP hS => ?_)
      obtain ⟨hr_, hu_⟩ := hpq
      have hq_ := TX_b hT (q := n + 3) (b := 48 + s0 % 10) rfl (by omega) (by omega)
      simp only [← hr_, ← hu_] at hq_
      clear hr_ hu_
      obtain ⟨h_r, hT, x3, hxb, h72⟩ := hq_
      subst h_r
      have zd := (congrFun h72 _).trans zd
      have za := (congrFun h72 _).trans za
      have zs := (congrFun h72 _).trans zs
      have x0 := (hxb _ (by omega)).trans x0
      have x1 := (hxb _ (by omega)).trans x1
      have x2 := (hxb _ (by omega)).trans x2
      refine lv_istore (lv' := [(7, .int (nI (n + 4))), (6, .int x6), (0, .ref (G.1 0)), (1, .ref (G.1 1000)), (2, .ref (G.1 72)), (3, .ref (G.1 73)), (4, .int 4), (5, .int 5), (8, .int (nI k))]) hx hb dL_tells_279 hl (by decide) rfl (fun ls hl => ?_)
      have hT := TX_pole hT (by omega) (by omega) hd0 ha0 (by omega) zd za zs elb x0 x1 x2 x3
      refine lv_iload hx hb dL_tells_281 (lv_at hl 0 rfl) ?_
      refine lv_iload hx hb dL_tells_283 (lv_at hl 1 rfl) ?_
      refine lv_bipush (v := 24) hx hb dL_tells_285 (by decide) ?_
      refine lv_ishr hx hb dL_tells_287 ?_
      refine lv_iconst (v := 3) hx hb dL_tells_288 (by decide) ?_
      refine xSi ha hP hS (y := yL_part) (As := [.int (x6 >>> (24 &&& 31)), .int 3]) (rest := [.int (nI (n + 4))]) rfl (c_L_part G l v10 (x6 >>> (24 &&& 31)) 3 (by decide)) kw_L_21 hd_L_part rfl ⟨rfl, rfl⟩ ⟨Nat.le_of_ble_eq_true rfl, Nat.le_of_ble_eq_true rfl⟩ hcs hl.1 (Nat.le_of_ble_eq_true rfl) rfl dL_tells_289 (fun r_13 v11 H locs hpq hP hS => ?_)
      obtain ⟨hr_, hu_⟩ := hpq
      have hu_ := hu_.symm
      subst hu_
      obtain ⟨g0, hg0, eg0⟩ : ∃ j, j < 3 ∧ r_13 = nI j := by rw [hr_]; exact part_N _ (n := 3) (by decide) (by omega)
      clear hr_
      subst eg0
      have jn_300_14 : ∀ (g : Nat), (g = 0 ∨ g = 2) → W p l e room_t s m args below meth c H locs cells slots Q (F0 m 300 ls [.int (nI g), .int (nI (n + 4))]) := by
        intro g hg2
        have hT := TX_g hT hg2 (by omega)
        refine lw_iaddE (z := (nI ((n + 4) + g))) hx hb dL_tells_300 (nI_add _ _) ?_
        refine lv_istore (lv' := [(7, .int (nI ((n + 4) + g))), (6, .int x6), (0, .ref (G.1 0)), (1, .ref (G.1 1000)), (2, .ref (G.1 72)), (3, .ref (G.1 73)), (4, .int 4), (5, .int 5), (8, .int (nI k))]) hx hb dL_tells_301 hl (by decide) rfl (fun ls hl => ?_)
        refine lv_iinc (v := nI (k + 1)) (lv' := [(8, .int (nI (k + 1))), (7, .int (nI ((n + 4) + g))), (6, .int x6), (0, .ref (G.1 0)), (1, .ref (G.1 1000)), (2, .ref (G.1 72)), (3, .ref (G.1 73)), (4, .int 4), (5, .int 5)]) hx hb dL_tells_303 hl (k := 8) rfl (nI_1 k) (by decide) rfl (fun ls hl => ?_)
        refine lv_goto (tgt := 121) hx hb dL_tells_306 (by decide) ?_
        exact kback v10 (n + 4 + g) _ _ _ hT hk (by omega) (by omega) hP hS (lv_sub hl [3, 4, 5, 6, 7, 8, 1, 0] rfl)
      refine lv_if_ne (tgt := 299) hx hb dL_tells_292 (by decide) (fun c_15 => ?_) (fun c_15 => ?_)
      · have hc_292 := c_15
        refine lv_iconst (v := (nI 0)) hx hb dL_tells_299 (by decide) ?_
        exact jn_300_14 0 (Or.inl rfl)
      · have hc_292 := c_15
        refine lv_iconst (v := (nI 2)) hx hb dL_tells_295 (by decide) ?_
        refine lv_goto (tgt := 300) hx hb dL_tells_296 (by decide) ?_
        exact jn_300_14 2 (Or.inr rfl)
    refine lv_if_ne (tgt := 198) hx hb dL_tells_190 (by decide) (fun c_16 => ?_) (fun c_16 => ?_)
    · have hc_190 := c_16
      refine lv_bipush (v := (nI 25)) hx hb dL_tells_198 (by decide) ?_
      exact jn_200_6 25 (by decide) (by decide)
    · have hc_190 := c_16
      refine lv_bipush (v := (nI 61)) hx hb dL_tells_193 (by decide) ?_
      refine lv_goto (tgt := 200) hx hb dL_tells_195 (by decide) ?_
      exact jn_200_6 61 (by decide) (by decide)
set_option maxHeartbeats 4000000 in
set_option maxRecDepth 100000 in
theorem ts_309 (ha : Amb p c cL_tells 9 s args RL m meth (some .boolean) G 74) (hcs : cells ≤ room_t.cells ∧ slots ≤ room_t.slots) (n : Nat) {u : Mem}  (hP : va_P G.2.1 vwCl (wl G 74 (cX G u)) H) (hS : va_S (xA G 74 s.heap.size) s.heap H locs) (hl : lv_has ls 9 [(0, .ref (G.1 0)), (1, .ref (G.1 1000)), (2, .ref (G.1 72)), (3, .ref (G.1 73)), (4, .int 4), (5, .int 5), (7, .int (nI n))])
    (kk : ∀ (v : Mem)  (H : Heap) (locs : List Loc) (ls : Array Slot), (v = u) → va_P G.2.1 vwCl (wl G 74 (cX G v)) H → va_S (xA G 74 s.heap.size) s.heap H locs → lv_has ls 9 [(0, .ref (G.1 0)), (1, .ref (G.1 1000)), (2, .ref (G.1 72)), (3, .ref (G.1 73)), (4, .int 4), (5, .int 5), (7, .int (nI n)), (8, .int (nI 0))] → W p l e room_t s m args below meth c H locs cells slots Q (F0 m 312 ls [])) : W p l e room_t s m args below meth c H locs cells slots Q (F0 m 309 ls []) := by
  have hx := ha.1
  have hb := ha.2.1
  refine lv_iconst (v := 0) hx hb dL_tells_309 (by decide) ?_
  refine lv_istore (lv' := [(8, .int 0), (0, .ref (G.1 0)), (1, .ref (G.1 1000)), (2, .ref (G.1 72)), (3, .ref (G.1 73)), (4, .int 4), (5, .int 5), (7, .int (nI n))]) hx hb dL_tells_310 hl (by decide) rfl (fun ls hl => ?_)
  exact kk u  _ _ _ rfl hP hS (lv_sub hl [1, 2, 3, 4, 5, 6, 7, 0] rfl)
set_option maxHeartbeats 4000000 in
set_option maxRecDepth 100000 in
theorem ts_312 (ha : Amb p c cL_tells 9 s args RL m meth (some .boolean) G 74) (hcs : cells ≤ room_t.cells ∧ slots ≤ room_t.slots) (KM : Nat) (IM : Nat) (n : Nat) (i : Nat) {u : Mem} (hT : TX KM IM n 0 KM i u) (hK1 : 1 ≤ KM) (hK4 : KM ≤ 4) (hI1 : 1 ≤ IM) (hI5 : IM ≤ 5) (hi0 : i ≤ IM) (hn : n ≤ 2 + 6 * KM + 5 * i) (hlo : KM ≤ n) (hP : va_P G.2.1 vwCl (wl G 74 (cX G u)) H) (hS : va_S (xA G 74 s.heap.size) s.heap H locs) (hl : lv_has ls 9 [(0, .ref (G.1 0)), (1, .ref (G.1 1000)), (2, .ref (G.1 72)), (3, .ref (G.1 73)), (4, .int 4), (5, .int 5), (7, .int (nI n)), (8, .int (nI i))])
    (kout : ∀ (v : Mem)  (H : Heap) (locs : List Loc) (ls : Array Slot), (v = u) → (i = IM) → va_P G.2.1 vwCl (wl G 74 (cX G v)) H → va_S (xA G 74 s.heap.size) s.heap H locs → lv_has ls 9 [(0, .ref (G.1 0)), (1, .ref (G.1 1000)), (2, .ref (G.1 72)), (3, .ref (G.1 73)), (4, .int 4), (5, .int 5), (7, .int (nI n))] → W p l e room_t s m args below meth c H locs cells slots Q (F0 m 436 ls []))
    (kback : ∀ (v : Mem) (n9 : Nat) (H : Heap) (locs : List Loc) (ls : Array Slot), (TX KM IM n9 0 KM (i + 1) v) → (i < IM) → (n9 ≤ 2 + 6 * KM + 5 * (i + 1)) → (KM ≤ n9) → va_P G.2.1 vwCl (wl G 74 (cX G v)) H → va_S (xA G 74 s.heap.size) s.heap H locs → lv_has ls 9 [(0, .ref (G.1 0)), (1, .ref (G.1 1000)), (2, .ref (G.1 72)), (3, .ref (G.1 73)), (4, .int 4), (5, .int 5), (7, .int (nI n9)), (8, .int (nI (i + 1)))] → W p l e room_t s m args below meth c H locs cells slots Q (F0 m 312 ls [])) : W p l e room_t s m args below meth c H locs cells slots Q (F0 m 312 ls []) := by
  have hx := ha.1
  have hb := ha.2.1
  refine lv_iload hx hb dL_tells_312 (lv_at hl 7 rfl) ?_
  refine lv_aload_n hx hb dL_tells_314 rfl (lv_at hl 2 rfl) ?_
  refine lv_iconst (v := 1) hx hb dL_tells_315 (by decide) ?_
  refine xialdN ha hP 72 (by decide) (cX_72 G _) 1 (by decide) (by omega) (by decide) dL_tells_316 ?_
  have hv_316 : (u 72 1) = (nI IM) := hT.2.2.2.2.2
  rw [hv_316]
  refine lv_icmp_ge (tgt := 436) hx hb dL_tells_317 (by decide) (fun c_1 => ?_) (fun c_1 => ?_)
  · have hc_317 := c_1
    have hi := eq_of_le hc_317 hi0 (by omega)
    exact kout u  _ _ _ rfl hi hP hS (lv_sub hl [0, 1, 2, 3, 4, 5, 6] rfl)
  · have hc_317 := c_1
    have hi : i < IM := lt_of_nle hc_317 (by omega) (by omega)
    refine lv_aload_n hx hb dL_tells_320 rfl (lv_at hl 1 rfl) ?_
    refine lv_iconst (v := 5) hx hb dL_tells_321 (by decide) ?_
    refine lv_iload hx hb dL_tells_322 (lv_at hl 7 rfl) ?_
    refine lw_iaddE (z := (nI (5 + i))) hx hb dL_tells_324 (nI_add 5 i) ?_
    refine xSi ha hP hS (y := yL_cell) (As := [.ref (G.1 1000), .int (nI (5 + i))]) (rest := []) rfl (c_L_cell G l u (5 + i) (by omega)) kw_L_15 hd_L_cell rfl ⟨rfl, rfl⟩ ⟨Nat.le_of_ble_eq_true rfl, Nat.le_of_ble_eq_true rfl⟩ hcs hl.1 (Nat.le_of_ble_eq_true rfl) rfl dL_tells_325 (fun x6 v1 H locs hpq hP hS => ?_)
    obtain ⟨hr_, hu_⟩ := hpq
    have hu_ := hu_.symm
    subst hu_
    clear hr_
    refine lv_istore (lv' := [(6, .int x6), (0, .ref (G.1 0)), (1, .ref (G.1 1000)), (2, .ref (G.1 72)), (3, .ref (G.1 73)), (4, .int 4), (5, .int 5), (7, .int (nI n)), (8, .int (nI i))]) hx hb dL_tells_328 hl (by decide) rfl (fun ls hl => ?_)
    refine lv_aload_n hx hb dL_tells_330 rfl (lv_at hl 3 rfl) ?_
    refine lv_bipush (v := 14) hx hb dL_tells_331 (by decide) ?_
    refine lv_iload hx hb dL_tells_333 (lv_at hl 8 rfl) ?_
    refine lw_iaddE (z := (nI (14 + i))) hx hb dL_tells_335 (nI_add 14 i) ?_
    refine lv_iconst (v := 1) hx hb dL_tells_336 (by decide) ?_
    refine lv_iload hx hb dL_tells_337 (lv_at hl 0 rfl) ?_
    refine lv_bipush (v := 9) hx hb dL_tells_339 (by decide) ?_
    refine xSi ha hP hS (y := yL_part) (As := [.int x6, .int 9]) (rest := [.int 1, .int (nI (14 + i)), .ref (G.1 72)]) rfl (c_L_part G l u x6 9 (by decide)) kw_L_21 hd_L_part rfl ⟨rfl, rfl⟩ ⟨Nat.le_of_ble_eq_true rfl, Nat.le_of_ble_eq_true rfl⟩ hcs hl.1 (Nat.le_of_ble_eq_true rfl) rfl dL_tells_341 (fun r_3 v2 H locs hpq hP hS => ?_)
    obtain ⟨hr_, hu_⟩ := hpq
    have hu_ := hu_.symm
    subst hu_
    obtain ⟨w0, hw0, ew0⟩ : ∃ j, j < 9 ∧ r_3 = nI j := by rw [hr_]; exact part_N _ (n := 9) (by decide) (by omega)
    clear hr_
    subst ew0
    refine lw_iaddE (z := (nI (1 + w0))) hx hb dL_tells_344 (nI_add 1 w0) ?_
    refine xiastN ha hP hS (cX_loc G) 72 (by decide) (fun τ => cX_72 G τ) (14 + i) rfl (by omega) (by decide) dL_tells_345 (fun H locs hP hS => ?_)
    have hT := TX_z (j := 14 + i) (v := (nI (1 + w0))) hT (by omega) (fun q hq => by omega) (fun q hq => by omega)
    have zw : (mU u 72 (14 + i) (nI (1 + w0))) 72 (14 + i) = (nI (1 + w0)) := z_at _ _ _
    refine lv_aload_n hx hb dL_tells_346 rfl (lv_at hl 3 rfl) ?_
    refine lv_bipush (v := 19) hx hb dL_tells_347 (by decide) ?_
    refine lv_iload hx hb dL_tells_349 (lv_at hl 8 rfl) ?_
    refine lw_iaddE (z := (nI (19 + i))) hx hb dL_tells_351 (nI_add 19 i) ?_
    refine lv_iload hx hb dL_tells_352 (lv_at hl 0 rfl) ?_
    refine lv_iconst (v := 4) hx hb dL_tells_354 (by decide) ?_
    refine lv_ishr hx hb dL_tells_355 ?_
    refine lv_bipush (v := 10) hx hb dL_tells_356 (by decide) ?_
    refine xSi ha hP hS (y := yL_part) (As := [.int (x6 >>> (4 &&& 31)), .int 10]) (rest := [.int (nI (19 + i)), .ref (G.1 72)]) rfl (c_L_part G l (mU u 72 (14 + i) (nI (1 + w0))) (x6 >>> (4 &&& 31)) 10 (by decide)) kw_L_21 hd_L_part rfl ⟨rfl, rfl⟩ ⟨Nat.le_of_ble_eq_true rfl, Nat.le_of_ble_eq_true rfl⟩ hcs hl.1 (Nat.le_of_ble_eq_true rfl) rfl dL_tells_358 (fun r_4 v3 H locs hpq hP hS => ?_)
    obtain ⟨hr_, hu_⟩ := hpq
    have hu_ := hu_.symm
    subst hu_
    obtain ⟨d0, hd0, ed0⟩ : ∃ j, j < 10 ∧ r_4 = nI j := by rw [hr_]; exact part_N _ (n := 10) (by decide) (by omega)
    clear hr_
    subst ed0
    refine xiastN ha hP hS (cX_loc G) 72 (by decide) (fun τ => cX_72 G τ) (19 + i) rfl (by omega) (by decide) dL_tells_361 (fun H locs hP hS => ?_)
    have hT := TX_z (j := 19 + i) (v := (nI d0)) hT (by omega) (fun q hq => by omega) (fun q hq => by omega)
    have zw : (mU (mU u 72 (14 + i) (nI (1 + w0))) 72 (19 + i) (nI d0)) 72 (14 + i) = (nI (1 + w0)) := (z_ne _ _ (by omega)).trans zw
    have zd : (mU (mU u 72 (14 + i) (nI (1 + w0))) 72 (19 + i) (nI d0)) 72 (19 + i) = (nI d0) := z_at _ _ _
    refine lv_aload_n hx hb dL_tells_362 rfl (lv_at hl 1 rfl) ?_
    refine lv_iload hx hb dL_tells_363 (lv_at hl 7 rfl) ?_
    refine lv_bipush (v := (nI 109)) hx hb dL_tells_365 (by decide) ?_
    refine xSi ha hP hS (y := yL_byte0) (As := [.ref (G.1 0), .int (nI n), .int (nI 109)]) (rest := []) rfl (c_L_byte0 G l (mU (mU u 72 (14 + i) (nI (1 + w0))) 72 (19 + i) (nI d0)) (nI n) (nI 109) ) kw_L_32 hd_L_byte0 rfl ⟨rfl, rfl⟩ ⟨Nat.le_of_ble_eq_true rfl, Nat.le_of_ble_eq_true rfl⟩ hcs hl.1 (Nat.le_of_ble_eq_true rfl) rfl dL_tells_367 (fun r_5 v4 H locs hpq hP hS => ?_)
    obtain ⟨hr_, hu_⟩ := hpq
    have hq_ := TX_b hT (q := n) (b := 109) rfl (by omega) (by omega)
    simp only [← hr_, ← hu_] at hq_
    clear hr_ hu_
    obtain ⟨h_r, hT, x0, hxb, h72⟩ := hq_
    subst h_r
    have zw := (congrFun h72 _).trans zw
    have zd := (congrFun h72 _).trans zd
    refine lv_istore (lv' := [(7, .int (nI (n + 1))), (6, .int x6), (0, .ref (G.1 0)), (1, .ref (G.1 1000)), (2, .ref (G.1 72)), (3, .ref (G.1 73)), (4, .int 4), (5, .int 5), (8, .int (nI i))]) hx hb dL_tells_370 hl (by decide) rfl (fun ls hl => ?_)
    refine lv_aload_n hx hb dL_tells_372 rfl (lv_at hl 2 rfl) ?_
    refine lv_iload hx hb dL_tells_373 (lv_at hl 0 rfl) ?_
    refine lv_bipush (v := 48) hx hb dL_tells_375 (by decide) ?_
    refine lv_aload_n hx hb dL_tells_377 rfl (lv_at hl 4 rfl) ?_
    refine lv_bipush (v := 14) hx hb dL_tells_378 (by decide) ?_
    refine lv_iload hx hb dL_tells_380 (lv_at hl 8 rfl) ?_
    refine lw_iaddE (z := (nI (14 + i))) hx hb dL_tells_382 (nI_add 14 i) ?_
    refine xialdN ha hP 72 (by decide) (cX_72 G _) (14 + i) rfl (by omega) (by decide) dL_tells_383 ?_
    have hv_383 : (v4 72 (14 + i)) = (nI (1 + w0)) := zw
    rw [hv_383]
    refine lw_iaddE (z := (nI (48 + (1 + w0)))) hx hb dL_tells_384 (nI_add 48 (1 + w0)) ?_
    refine xSi ha hP hS (y := yL_byte0) (As := [.ref (G.1 0), .int (nI (n + 1)), .int (nI (48 + (1 + w0)))]) (rest := []) rfl (c_L_byte0 G l v4 (nI (n + 1)) (nI (48 + (1 + w0))) ) kw_L_32 hd_L_byte0 rfl ⟨rfl, rfl⟩ ⟨Nat.le_of_ble_eq_true rfl, Nat.le_of_ble_eq_true rfl⟩ hcs hl.1 (Nat.le_of_ble_eq_true rfl) rfl dL_tells_385 (fun r_6 v5 H locs hpq hP hS => ?_)
    obtain ⟨hr_, hu_⟩ := hpq
    have hq_ := TX_b hT (q := n + 1) (b := 48 + (1 + w0)) rfl (by omega) (by omega)
    simp only [← hr_, ← hu_] at hq_
    clear hr_ hu_
    obtain ⟨h_r, hT, x1, hxb, h72⟩ := hq_
    subst h_r
    have zw := (congrFun h72 _).trans zw
    have zd := (congrFun h72 _).trans zd
    have x0 := (hxb _ (by omega)).trans x0
    refine lv_istore (lv' := [(7, .int (nI (n + 2))), (6, .int x6), (0, .ref (G.1 0)), (1, .ref (G.1 1000)), (2, .ref (G.1 72)), (3, .ref (G.1 73)), (4, .int 4), (5, .int 5), (8, .int (nI i))]) hx hb dL_tells_388 hl (by decide) rfl (fun ls hl => ?_)
    refine lv_aload_n hx hb dL_tells_390 rfl (lv_at hl 2 rfl) ?_
    refine lv_iload hx hb dL_tells_391 (lv_at hl 0 rfl) ?_
    refine lv_bipush (v := 48) hx hb dL_tells_393 (by decide) ?_
    refine lv_aload_n hx hb dL_tells_395 rfl (lv_at hl 4 rfl) ?_
    refine lv_bipush (v := 19) hx hb dL_tells_396 (by decide) ?_
    refine lv_iload hx hb dL_tells_398 (lv_at hl 8 rfl) ?_
    refine lw_iaddE (z := (nI (19 + i))) hx hb dL_tells_400 (nI_add 19 i) ?_
    refine xialdN ha hP 72 (by decide) (cX_72 G _) (19 + i) rfl (by omega) (by decide) dL_tells_401 ?_
    have hv_401 : (v5 72 (19 + i)) = (nI d0) := zd
    rw [hv_401]
    refine lw_iaddE (z := (nI (48 + d0))) hx hb dL_tells_402 (nI_add 48 d0) ?_
    refine xSi ha hP hS (y := yL_byte0) (As := [.ref (G.1 0), .int (nI (n + 2)), .int (nI (48 + d0))]) (rest := []) rfl (c_L_byte0 G l v5 (nI (n + 2)) (nI (48 + d0)) ) kw_L_32 hd_L_byte0 rfl ⟨rfl, rfl⟩ ⟨Nat.le_of_ble_eq_true rfl, Nat.le_of_ble_eq_true rfl⟩ hcs hl.1 (Nat.le_of_ble_eq_true rfl) rfl dL_tells_403 (fun r_7 v6 H locs hpq hP hS => ?_)
    obtain ⟨hr_, hu_⟩ := hpq
    have hq_ := TX_b hT (q := n + 2) (b := 48 + d0) rfl (by omega) (by omega)
    simp only [← hr_, ← hu_] at hq_
    clear hr_ hu_
    obtain ⟨h_r, hT, x2, hxb, h72⟩ := hq_
    subst h_r
    have zw := (congrFun h72 _).trans zw
    have zd := (congrFun h72 _).trans zd
    have x0 := (hxb _ (by omega)).trans x0
    have x1 := (hxb _ (by omega)).trans x1
    refine lv_istore (lv' := [(7, .int (nI (n + 3))), (6, .int x6), (0, .ref (G.1 0)), (1, .ref (G.1 1000)), (2, .ref (G.1 72)), (3, .ref (G.1 73)), (4, .int 4), (5, .int 5), (8, .int (nI i))]) hx hb dL_tells_406 hl (by decide) rfl (fun ls hl => ?_)
    have hT := TX_one hT (by omega) (by omega) hw0 hd0 zw zd x0 x1 x2
    refine lv_iload hx hb dL_tells_408 (lv_at hl 0 rfl) ?_
    refine lv_iload hx hb dL_tells_410 (lv_at hl 1 rfl) ?_
    refine lv_bipush (v := 24) hx hb dL_tells_412 (by decide) ?_
    refine lv_ishr hx hb dL_tells_414 ?_
    refine lv_iconst (v := 3) hx hb dL_tells_415 (by decide) ?_
    refine xSi ha hP hS (y := yL_part) (As := [.int (x6 >>> (24 &&& 31)), .int 3]) (rest := [.int (nI (n + 3))]) rfl (c_L_part G l v6 (x6 >>> (24 &&& 31)) 3 (by decide)) kw_L_21 hd_L_part rfl ⟨rfl, rfl⟩ ⟨Nat.le_of_ble_eq_true rfl, Nat.le_of_ble_eq_true rfl⟩ hcs hl.1 (Nat.le_of_ble_eq_true rfl) rfl dL_tells_416 (fun r_8 v7 H locs hpq hP hS => ?_)
    obtain ⟨hr_, hu_⟩ := hpq
    have hu_ := hu_.symm
    subst hu_
    obtain ⟨g0, hg0, eg0⟩ : ∃ j, j < 3 ∧ r_8 = nI j := by rw [hr_]; exact part_N _ (n := 3) (by decide) (by omega)
    clear hr_
    subst eg0
    have jn_427_9 : ∀ (g : Nat), (g = 0 ∨ g = 2) → W p l e room_t s m args below meth c H locs cells slots Q (F0 m 427 ls [.int (nI g), .int (nI (n + 3))]) := by
      intro g hg2
      have hT := TX_g hT hg2 (by omega)
      refine lw_iaddE (z := (nI ((n + 3) + g))) hx hb dL_tells_427 (nI_add _ _) ?_
      refine lv_istore (lv' := [(7, .int (nI ((n + 3) + g))), (6, .int x6), (0, .ref (G.1 0)), (1, .ref (G.1 1000)), (2, .ref (G.1 72)), (3, .ref (G.1 73)), (4, .int 4), (5, .int 5), (8, .int (nI i))]) hx hb dL_tells_428 hl (by decide) rfl (fun ls hl => ?_)
      refine lv_iinc (v := nI (i + 1)) (lv' := [(8, .int (nI (i + 1))), (7, .int (nI ((n + 3) + g))), (6, .int x6), (0, .ref (G.1 0)), (1, .ref (G.1 1000)), (2, .ref (G.1 72)), (3, .ref (G.1 73)), (4, .int 4), (5, .int 5)]) hx hb dL_tells_430 hl (k := 8) rfl (nI_1 i) (by decide) rfl (fun ls hl => ?_)
      refine lv_goto (tgt := 312) hx hb dL_tells_433 (by decide) ?_
      exact kback v6 (n + 3 + g) _ _ _ hT hi (by omega) (by omega) hP hS (lv_sub hl [3, 4, 5, 6, 7, 8, 1, 0] rfl)
    refine lv_if_ne (tgt := 426) hx hb dL_tells_419 (by decide) (fun c_10 => ?_) (fun c_10 => ?_)
    · have hc_419 := c_10
      refine lv_iconst (v := (nI 0)) hx hb dL_tells_426 (by decide) ?_
      exact jn_427_9 0 (Or.inl rfl)
    · have hc_419 := c_10
      refine lv_iconst (v := (nI 2)) hx hb dL_tells_422 (by decide) ?_
      refine lv_goto (tgt := 427) hx hb dL_tells_423 (by decide) ?_
      exact jn_427_9 2 (Or.inr rfl)
set_option maxHeartbeats 4000000 in
set_option maxRecDepth 100000 in
theorem ts_436 (ha : Amb p c cL_tells 9 s args RL m meth (some .boolean) G 74) (hcs : cells ≤ room_t.cells ∧ slots ≤ room_t.slots) (KM : Nat) (IM : Nat) (n : Nat) {u : Mem} (hT : TX KM IM n 0 KM IM u) (hK1 : 1 ≤ KM) (hK4 : KM ≤ 4) (hI1 : 1 ≤ IM) (hI5 : IM ≤ 5) (hn : n ≤ 60) (hlo : KM ≤ n) (hP : va_P G.2.1 vwCl (wl G 74 (cX G u)) H) (hS : va_S (xA G 74 s.heap.size) s.heap H locs) (hl : lv_has ls 9 [(0, .ref (G.1 0)), (1, .ref (G.1 1000)), (2, .ref (G.1 72)), (3, .ref (G.1 73)), (4, .int 4), (5, .int 5), (7, .int (nI n))])
    (kk : ∀ (v : Mem) (P : PT) (Z : Nat → Int32) (H : Heap) (locs : List Loc) (ls : Array Slot), (NV P Z) → (J P Z K00 bgP 0 (fun _ => 0) v) → (Z 0 = nI KM) → va_P G.2.1 vwCl (wl G 74 (cX G v)) H → va_S (xA G 74 s.heap.size) s.heap H locs → lv_has ls 9 [(0, .ref (G.1 0)), (1, .ref (G.1 1000)), (2, .ref (G.1 72)), (3, .ref (G.1 73)), (4, .int 4), (5, .int 5)] → W p l e room_t s m args below meth c H locs cells slots Q (F0 m 456 ls [.int (nI KM)])) : W p l e room_t s m args below meth c H locs cells slots Q (F0 m 436 ls []) := by
  have hx := ha.1
  have hb := ha.2.1
  refine lv_iload hx hb dL_tells_436 (lv_at hl 6 rfl) ?_
  refine lv_if_le (tgt := 538) hx hb dL_tells_438 (by decide) (fun c_1 => absurd c_1 (nle_i (by rw [nI_toInt (by omega), show (0 : Int32).toInt = 0 by decide]; omega))) (fun c_1 => ?_)
  refine lv_aload_n hx hb dL_tells_441 rfl (lv_at hl 0 rfl) ?_
  refine lv_iconst (v := 3) hx hb dL_tells_442 (by decide) ?_
  refine xVi ha hP hS (y := yX7_fault) (As := [.int 3]) (rest := []) 0 (by decide) (cX_0 G _) rfl rfl (c_X7_fault G l u 3 (OK_RZ hT.1)) kw_L_36 hd_X7_fault rfl ⟨rfl, rfl⟩ ⟨Nat.le_of_ble_eq_true rfl, Nat.le_of_ble_eq_true rfl⟩ hcs hl.1 (Nat.le_of_ble_eq_true rfl) rfl dL_tells_443 (fun r_2 v1 H locs hpq hP hS => ?_)
  obtain ⟨hr_, hu_⟩ := hpq
  have hq_ := TX_fault hT hn ⟨hK1, hK4⟩ ⟨hI1, hI5⟩
  simp only [← hr_, ← hu_] at hq_
  clear hr_ hu_
  obtain ⟨h_r, hT⟩ := hq_
  subst h_r
  refine lv_bipush (v := (-9)) hx hb dL_tells_446 (by decide) ?_
  refine lv_icmp_ne (tgt := 538) hx hb dL_tells_448 (by decide) (fun c_3 => absurd rfl c_3) (fun c_3 => ?_)
  refine lv_aload_n hx hb dL_tells_451 rfl (lv_at hl 0 rfl) ?_
  refine lv_iconst (v := 3) hx hb dL_tells_452 (by decide) ?_
  refine xVi ha hP hS (y := yX7_nave) (As := [.int 3]) (rest := []) 0 (by decide) (cX_0 G _) rfl rfl (c_X7_nave G l v1 3 (OK_RZ hT.1)) kw_L_39 hd_X7_nave rfl ⟨rfl, rfl⟩ ⟨Nat.le_of_ble_eq_true rfl, Nat.le_of_ble_eq_true rfl⟩ hcs hl.1 (Nat.le_of_ble_eq_true rfl) rfl dL_tells_453 (fun r_4 v2 H locs hpq hP hS => ?_)
  obtain ⟨hr_, hu_⟩ := hpq
  have hq_ := TX_nave hT hn ⟨hK1, hK4⟩ ⟨hI1, hI5⟩
  simp only [← hr_, ← hu_] at hq_
  clear hr_ hu_
  obtain ⟨h_r, P, Z, hN, hJ, hZ0⟩ := hq_
  subst h_r
  exact kk v2 P Z _ _ _ hN hJ hZ0 hP hS (lv_sub hl [0, 1, 2, 3, 4, 5] rfl)
set_option maxHeartbeats 4000000 in
set_option maxRecDepth 100000 in
theorem ts_456 (ha : Amb p c cL_tells 9 s args RL m meth (some .boolean) G 74) (hcs : cells ≤ room_t.cells ∧ slots ≤ room_t.slots) (P : PT) (Z : Nat → Int32) (KM : Nat) {u : Mem} (hN : NV P Z) (hJ : J P Z K00 bgP 0 (fun _ => 0) u) (hZ0 : Z 0 = nI KM) (hP : va_P G.2.1 vwCl (wl G 74 (cX G u)) H) (hS : va_S (xA G 74 s.heap.size) s.heap H locs) (hl : lv_has ls 9 [(0, .ref (G.1 0)), (1, .ref (G.1 1000)), (2, .ref (G.1 72)), (3, .ref (G.1 73)), (4, .int 4), (5, .int 5)])
    (kk : ∀ (v : Mem)  (H : Heap) (locs : List Loc) (ls : Array Slot), (v = u) → va_P G.2.1 vwCl (wl G 74 (cX G v)) H → va_S (xA G 74 s.heap.size) s.heap H locs → lv_has ls 9 [(0, .ref (G.1 0)), (1, .ref (G.1 1000)), (2, .ref (G.1 72)), (3, .ref (G.1 73)), (4, .int 4), (5, .int 5)] → W p l e room_t s m args below meth c H locs cells slots Q (F0 m 539 ls [.int 1])) : W p l e room_t s m args below meth c H locs cells slots Q (F0 m 456 ls [.int (nI KM)]) := by
  have hx := ha.1
  have hb := ha.2.1
  refine lv_aload_n hx hb dL_tells_456 rfl (lv_at hl 2 rfl) ?_
  refine lv_iconst (v := 0) hx hb dL_tells_457 (by decide) ?_
  refine xialdN ha hP 72 (by decide) (cX_z G hJ) 0 (by decide) (by omega) (by decide) dL_tells_458 ?_
  have hv_458 : (Z 0) = (nI KM) := hZ0
  rw [hv_458]
  refine lv_icmp_ne (tgt := 538) hx hb dL_tells_459 (by decide) (fun c_1 => absurd rfl c_1) (fun c_1 => ?_)
  refine lv_aload_n hx hb dL_tells_462 rfl (lv_at hl 0 rfl) ?_
  refine lv_iconst (v := 0) hx hb dL_tells_463 (by decide) ?_
  refine xVi ha hP hS (y := yX7_count) (As := [.int 0]) (rest := []) 0 (by decide) (cX_0 G _) rfl rfl (c_X7_count G l u 0 (J_PO hJ)) kw_L_42 hd_X7_count rfl ⟨rfl, rfl⟩ ⟨Nat.le_of_ble_eq_true rfl, Nat.le_of_ble_eq_true rfl⟩ hcs hl.1 (Nat.le_of_ble_eq_true rfl) rfl dL_tells_464 (fun r_2 v1 H locs hpq hP hS => ?_)
  obtain ⟨hr_, hu_⟩ := hpq
  have hu_ := hu_.symm
  subst hu_
  have hr_ := hr_.trans ((q_c0 hJ).trans (PB_pl (J_plan hJ).1).1)
  have hr_ := hr_.symm
  subst hr_
  refine lv_aload_n hx hb dL_tells_467 rfl (lv_at hl 2 rfl) ?_
  refine lv_iconst (v := 0) hx hb dL_tells_468 (by decide) ?_
  refine xialdN ha hP 72 (by decide) (cX_z G hJ) 0 (by decide) (by omega) (by decide) dL_tells_469 ?_
  have hv_469 : (Z 0) = (nI (nPl P)) := hN.2.1.1
  rw [hv_469]
  refine lv_icmp_ne (tgt := 538) hx hb dL_tells_470 (by decide) (fun c_3 => absurd rfl c_3) (fun c_3 => ?_)
  refine lv_aload_n hx hb dL_tells_473 rfl (lv_at hl 0 rfl) ?_
  refine lv_iconst (v := 1) hx hb dL_tells_474 (by decide) ?_
  refine xVi ha hP hS (y := yX7_count) (As := [.int 1]) (rest := []) 0 (by decide) (cX_0 G _) rfl rfl (c_X7_count G l u 1 (J_PO hJ)) kw_L_42 hd_X7_count rfl ⟨rfl, rfl⟩ ⟨Nat.le_of_ble_eq_true rfl, Nat.le_of_ble_eq_true rfl⟩ hcs hl.1 (Nat.le_of_ble_eq_true rfl) rfl dL_tells_475 (fun r_4 v2 H locs hpq hP hS => ?_)
  obtain ⟨hr_, hu_⟩ := hpq
  have hu_ := hu_.symm
  subst hu_
  have hr_ := hr_.trans ((q_c1 hJ).trans (PB_pe (J_plan hJ).1).1)
  have hr_ := hr_.symm
  subst hr_
  refine lv_aload_n hx hb dL_tells_478 rfl (lv_at hl 2 rfl) ?_
  refine lv_iconst (v := 1) hx hb dL_tells_479 (by decide) ?_
  refine xialdN ha hP 72 (by decide) (cX_z G hJ) 1 (by decide) (by omega) (by decide) dL_tells_480 ?_
  have hv_480 : (Z 1) = (nI (nPe P)) := hN.2.1.2
  rw [hv_480]
  refine lv_icmp_ne (tgt := 538) hx hb dL_tells_481 (by decide) (fun c_5 => absurd rfl c_5) (fun c_5 => ?_)
  refine lv_aload_n hx hb dL_tells_484 rfl (lv_at hl 0 rfl) ?_
  refine lv_iconst (v := 2) hx hb dL_tells_485 (by decide) ?_
  refine xVi ha hP hS (y := yX7_count) (As := [.int 2]) (rest := []) 0 (by decide) (cX_0 G _) rfl rfl (c_X7_count G l u 2 (J_PO hJ)) kw_L_42 hd_X7_count rfl ⟨rfl, rfl⟩ ⟨Nat.le_of_ble_eq_true rfl, Nat.le_of_ble_eq_true rfl⟩ hcs hl.1 (Nat.le_of_ble_eq_true rfl) rfl dL_tells_486 (fun r_6 v3 H locs hpq hP hS => ?_)
  obtain ⟨hr_, hu_⟩ := hpq
  have hu_ := hu_.symm
  subst hu_
  have hr_ := hr_.trans (q_c2 hJ)
  have hr_ := hr_.symm
  subst hr_
  refine lv_if_ne (tgt := 538) hx hb dL_tells_489 (by decide) (fun c_7 => absurd rfl c_7) (fun c_7 => ?_)
  refine lv_aload_n hx hb dL_tells_492 rfl (lv_at hl 0 rfl) ?_
  refine lv_iconst (v := 3) hx hb dL_tells_493 (by decide) ?_
  refine xVi ha hP hS (y := yX7_count) (As := [.int 3]) (rest := []) 0 (by decide) (cX_0 G _) rfl rfl (c_X7_count G l u 3 (J_PO hJ)) kw_L_42 hd_X7_count rfl ⟨rfl, rfl⟩ ⟨Nat.le_of_ble_eq_true rfl, Nat.le_of_ble_eq_true rfl⟩ hcs hl.1 (Nat.le_of_ble_eq_true rfl) rfl dL_tells_494 (fun r_8 v4 H locs hpq hP hS => ?_)
  obtain ⟨hr_, hu_⟩ := hpq
  have hu_ := hu_.symm
  subst hu_
  have hr_ := hr_.trans (q_c3 hJ)
  have hr_ := hr_.symm
  subst hr_
  refine lv_if_ne (tgt := 538) hx hb dL_tells_497 (by decide) (fun c_9 => absurd rfl c_9) (fun c_9 => ?_)
  refine lv_aload_n hx hb dL_tells_500 rfl (lv_at hl 0 rfl) ?_
  refine lv_iconst (v := 4) hx hb dL_tells_501 (by decide) ?_
  refine xVi ha hP hS (y := yX7_count) (As := [.int 4]) (rest := []) 0 (by decide) (cX_0 G _) rfl rfl (c_X7_count G l u 4 (J_PO hJ)) kw_L_42 hd_X7_count rfl ⟨rfl, rfl⟩ ⟨Nat.le_of_ble_eq_true rfl, Nat.le_of_ble_eq_true rfl⟩ hcs hl.1 (Nat.le_of_ble_eq_true rfl) rfl dL_tells_502 (fun r_10 v5 H locs hpq hP hS => ?_)
  obtain ⟨hr_, hu_⟩ := hpq
  have hu_ := hu_.symm
  subst hu_
  have hr_ := hr_.trans (q_c4 hJ)
  have hr_ := hr_.symm
  subst hr_
  refine lv_if_ne (tgt := 538) hx hb dL_tells_505 (by decide) (fun c_11 => absurd rfl c_11) (fun c_11 => ?_)
  refine lv_aload_n hx hb dL_tells_508 rfl (lv_at hl 0 rfl) ?_
  refine lv_iconst (v := 5) hx hb dL_tells_509 (by decide) ?_
  refine xVi ha hP hS (y := yX7_count) (As := [.int 5]) (rest := []) 0 (by decide) (cX_0 G _) rfl rfl (c_X7_count G l u 5 (J_PO hJ)) kw_L_42 hd_X7_count rfl ⟨rfl, rfl⟩ ⟨Nat.le_of_ble_eq_true rfl, Nat.le_of_ble_eq_true rfl⟩ hcs hl.1 (Nat.le_of_ble_eq_true rfl) rfl dL_tells_510 (fun r_12 v6 H locs hpq hP hS => ?_)
  obtain ⟨hr_, hu_⟩ := hpq
  have hu_ := hu_.symm
  subst hu_
  have hr_ := hr_.trans ((q_c5 hJ).trans (bg_people (J_plan hJ).1))
  have hr_ := hr_.symm
  subst hr_
  refine lv_if_ne (tgt := 538) hx hb dL_tells_513 (by decide) (fun c_13 => absurd rfl c_13) (fun c_13 => ?_)
  refine lv_aload_n hx hb dL_tells_516 rfl (lv_at hl 0 rfl) ?_
  refine lv_bipush (v := 7) hx hb dL_tells_517 (by decide) ?_
  refine xVi ha hP hS (y := yX7_count) (As := [.int 7]) (rest := []) 0 (by decide) (cX_0 G _) rfl rfl (c_X7_count G l u 7 (J_PO hJ)) kw_L_42 hd_X7_count rfl ⟨rfl, rfl⟩ ⟨Nat.le_of_ble_eq_true rfl, Nat.le_of_ble_eq_true rfl⟩ hcs hl.1 (Nat.le_of_ble_eq_true rfl) rfl dL_tells_519 (fun r_14 v7 H locs hpq hP hS => ?_)
  obtain ⟨hr_, hu_⟩ := hpq
  have hu_ := hu_.symm
  subst hu_
  have hr_ := hr_.trans (q_c7 hJ)
  have hr_ := hr_.symm
  subst hr_
  refine lv_if_ne (tgt := 538) hx hb dL_tells_522 (by decide) (fun c_15 => absurd rfl c_15) (fun c_15 => ?_)
  refine lv_aload_n hx hb dL_tells_525 rfl (lv_at hl 0 rfl) ?_
  refine lv_bipush (v := 10) hx hb dL_tells_526 (by decide) ?_
  refine xVi ha hP hS (y := yX7_count) (As := [.int 10]) (rest := []) 0 (by decide) (cX_0 G _) rfl rfl (c_X7_count G l u 10 (J_PO hJ)) kw_L_42 hd_X7_count rfl ⟨rfl, rfl⟩ ⟨Nat.le_of_ble_eq_true rfl, Nat.le_of_ble_eq_true rfl⟩ hcs hl.1 (Nat.le_of_ble_eq_true rfl) rfl dL_tells_528 (fun r_16 v8 H locs hpq hP hS => ?_)
  obtain ⟨hr_, hu_⟩ := hpq
  have hu_ := hu_.symm
  subst hu_
  have hr_ := hr_.trans ((q_c10 hJ).trans kept_0)
  have hr_ := hr_.symm
  subst hr_
  refine lv_if_ne (tgt := 538) hx hb dL_tells_531 (by decide) (fun c_17 => absurd rfl c_17) (fun c_17 => ?_)
  refine lv_iconst (v := 1) hx hb dL_tells_534 (by decide) ?_
  refine lv_goto (tgt := 539) hx hb dL_tells_535 (by decide) ?_
  exact kk u  _ _ _ rfl hP hS (lv_sub hl [0, 1, 2, 3, 4, 5] rfl)
end SD02

