
theorem hd_X7_down : kHd yX7_down 1 := by decide +kernel
theorem hd_X7_lace : kHd yX7_lace 1 := by decide +kernel
theorem hd_X7_later : kHd yX7_later 1 := by decide +kernel
theorem hd_X7_sit : kHd yX7_sit 2 := by decide +kernel
theorem hd_X7_stone : kHd yX7_stone 0 := by decide +kernel
theorem hd_X7_year : kHd yX7_year 0 := by decide +kernel
theorem kw_L_68 : ∀ w ∈ k5V RL 68 yX7_sit cX7_sit 3 (some .int), w ∈ TB := tb_ins (by decide +kernel)
theorem kw_L_71 : ∀ w ∈ k5V RL 71 yX7_down cX7_down 2 (some .int), w ∈ TB := tb_ins (by decide +kernel)
theorem kw_L_74 : ∀ w ∈ k5V RL 74 yX7_lace cX7_lace 2 (some .int), w ∈ TB := tb_ins (by decide +kernel)
theorem kw_L_77 : ∀ w ∈ k5V RL 77 yX7_stone cX7_stone 1 (some .int), w ∈ TB := tb_ins (by decide +kernel)
theorem kw_L_111 : ∀ w ∈ k5V RL 111 yX7_later cX7_later 3 (some .int), w ∈ TB := tb_ins (by decide +kernel)
theorem kw_L_84 : ∀ w ∈ k5V RL 84 yX7_year cX7_year 1 (some .int), w ∈ TB := tb_ins (by decide +kernel)
section SC02
variable {p : Program} {l : Launch} {e : Env} {s : State} {m : MethodId} {args : Array Value} {below : List Frame} {meth : Method} {c : Code} {H : Heap} {locs : List Loc} {cells slots : Nat} {Q : State → Prop} {ls : Array Slot} {G : GT}
set_option maxHeartbeats 4000000 in
set_option maxRecDepth 100000 in
theorem seg_how (ha : Amb p c cL_law 31 s args RL m meth (some .boolean) G 74) (hcs : cells ≤ room_1.cells ∧ slots ≤ room_1.slots) (P : PT) (Z : Nat → Int32) (K : KT) (S : PT) (D : Nat) (C : Nat → Int32) (x8 : Int32) (i : Nat) (k : Nat) (hw : Nat) (T6 : Nat) (c7 : Nat) {u : Mem}  (hP : va_P G.2.1 vwCl (wl G 74 (cX G u)) H) (hS : va_S (xA G 74 s.heap.size) s.heap H locs) (hl : lv_has ls 31 [(0, .ref (G.1 1000)), (1, .ref (G.1 0)), (2, .ref (G.1 72)), (3, .ref (G.1 73)), (4, .int (nI (nPl P))), (5, .int (nI (nPe P))), (6, .int (nI T6)), (7, .int (nI c7)), (8, .int x8), (9, .int (nI D)), (10, .int (S 0 1)), (11, .int (S 0 0)), (12, .int (a_seatedPeople P S)), (13, .int (a_highAll P S)), (14, .int (S 0 2)), (15, .int (nI i)), (16, .int (nI k)), (17, .int (S 2 i)), (18, .int (a_load P S (nI k))), (19, .int (S 1 k)), (20, .int (b2i (!a_isUp P S (nI k)))), (21, .int (a_standing P S)), (22, .int (nI hw)), (23, .int 1)])
    (k_232 : ∀ (v : Mem)  (H : Heap) (locs : List Loc) (ls : Array Slot), (v = u) → va_P G.2.1 vwCl (wl G 74 (cX G v)) H → va_S (xA G 74 s.heap.size) s.heap H locs → lv_has ls 31 [(0, .ref (G.1 1000)), (1, .ref (G.1 0)), (2, .ref (G.1 72)), (3, .ref (G.1 73)), (4, .int (nI (nPl P))), (5, .int (nI (nPe P))), (6, .int (nI T6)), (7, .int (nI c7)), (8, .int x8), (9, .int (nI D)), (10, .int (S 0 1)), (11, .int (S 0 0)), (12, .int (a_seatedPeople P S)), (13, .int (a_highAll P S)), (14, .int (S 0 2)), (15, .int (nI i)), (16, .int (nI k)), (17, .int (S 2 i)), (18, .int (a_load P S (nI k))), (19, .int (S 1 k)), (20, .int (b2i (!a_isUp P S (nI k)))), (21, .int (a_standing P S)), (22, .int (nI hw)), (23, .int 1)] → W p l e room_1 s m args below meth c H locs cells slots Q (F0 m 232 ls []))
    (k_412 : ∀ (v : Mem)  (H : Heap) (locs : List Loc) (ls : Array Slot), (v = u) → va_P G.2.1 vwCl (wl G 74 (cX G v)) H → va_S (xA G 74 s.heap.size) s.heap H locs → lv_has ls 31 [(0, .ref (G.1 1000)), (1, .ref (G.1 0)), (2, .ref (G.1 72)), (3, .ref (G.1 73)), (4, .int (nI (nPl P))), (5, .int (nI (nPe P))), (6, .int (nI T6)), (7, .int (nI c7)), (8, .int x8), (9, .int (nI D)), (10, .int (S 0 1)), (11, .int (S 0 0)), (12, .int (a_seatedPeople P S)), (13, .int (a_highAll P S)), (14, .int (S 0 2)), (15, .int (nI i)), (16, .int (nI k)), (17, .int (S 2 i)), (18, .int (a_load P S (nI k))), (19, .int (S 1 k)), (20, .int (b2i (!a_isUp P S (nI k)))), (21, .int (a_standing P S)), (22, .int (nI hw)), (23, .int 1)] → W p l e room_1 s m args below meth c H locs cells slots Q (F0 m 412 ls []))
    (k_524 : ∀ (v : Mem)  (H : Heap) (locs : List Loc) (ls : Array Slot), (v = u) → va_P G.2.1 vwCl (wl G 74 (cX G v)) H → va_S (xA G 74 s.heap.size) s.heap H locs → lv_has ls 31 [(0, .ref (G.1 1000)), (1, .ref (G.1 0)), (2, .ref (G.1 72)), (3, .ref (G.1 73)), (4, .int (nI (nPl P))), (5, .int (nI (nPe P))), (6, .int (nI T6)), (7, .int (nI c7)), (8, .int x8), (9, .int (nI D)), (10, .int (S 0 1)), (11, .int (S 0 0)), (12, .int (a_seatedPeople P S)), (13, .int (a_highAll P S)), (14, .int (S 0 2)), (15, .int (nI i)), (16, .int (nI k)), (17, .int (S 2 i)), (18, .int (a_load P S (nI k))), (19, .int (S 1 k)), (20, .int (b2i (!a_isUp P S (nI k)))), (21, .int (a_standing P S)), (22, .int (nI hw)), (23, .int 1)] → W p l e room_1 s m args below meth c H locs cells slots Q (F0 m 524 ls []))
    (k_585 : ∀ (v : Mem)  (H : Heap) (locs : List Loc) (ls : Array Slot), (v = u) → va_P G.2.1 vwCl (wl G 74 (cX G v)) H → va_S (xA G 74 s.heap.size) s.heap H locs → lv_has ls 31 [(0, .ref (G.1 1000)), (1, .ref (G.1 0)), (2, .ref (G.1 72)), (3, .ref (G.1 73)), (4, .int (nI (nPl P))), (5, .int (nI (nPe P))), (6, .int (nI T6)), (7, .int (nI c7)), (8, .int x8), (9, .int (nI D)), (10, .int (S 0 1)), (11, .int (S 0 0)), (12, .int (a_seatedPeople P S)), (13, .int (a_highAll P S)), (14, .int (S 0 2)), (15, .int (nI i)), (16, .int (nI k)), (17, .int (S 2 i)), (18, .int (a_load P S (nI k))), (19, .int (S 1 k)), (20, .int (b2i (!a_isUp P S (nI k)))), (21, .int (a_standing P S)), (22, .int (nI hw)), (23, .int 1)] → W p l e room_1 s m args below meth c H locs cells slots Q (F0 m 585 ls []))
    (k_598 : ∀ (v : Mem)  (H : Heap) (locs : List Loc) (ls : Array Slot), (v = u) → va_P G.2.1 vwCl (wl G 74 (cX G v)) H → va_S (xA G 74 s.heap.size) s.heap H locs → lv_has ls 31 [(0, .ref (G.1 1000)), (1, .ref (G.1 0)), (2, .ref (G.1 72)), (3, .ref (G.1 73)), (4, .int (nI (nPl P))), (5, .int (nI (nPe P))), (6, .int (nI T6)), (7, .int (nI c7)), (8, .int x8), (9, .int (nI D)), (10, .int (S 0 1)), (11, .int (S 0 0)), (12, .int (a_seatedPeople P S)), (13, .int (a_highAll P S)), (14, .int (S 0 2)), (15, .int (nI i)), (16, .int (nI k)), (17, .int (S 2 i)), (18, .int (a_load P S (nI k))), (19, .int (S 1 k)), (20, .int (b2i (!a_isUp P S (nI k)))), (21, .int (a_standing P S)), (22, .int (nI hw)), (23, .int 1)] → W p l e room_1 s m args below meth c H locs cells slots Q (F0 m 598 ls [])) : W p l e room_1 s m args below meth c H locs cells slots Q (F0 m 226 ls []) := by
  have hx := ha.1
  have hb := ha.2.1
  refine lv_iload hx hb dL_law_226 (lv_at hl 22 rfl) ?_
  refine lv_iconst (v := 5) hx hb dL_law_228 (by decide) ?_
  refine lv_icmp_ge (tgt := 405) hx hb dL_law_229 (by decide) (fun c_1 => ?_) (fun c_1 => ?_)
  · have hc_229 := c_1
    refine lv_iload hx hb dL_law_405 (lv_at hl 22 rfl) ?_
    refine lv_bipush (v := 7) hx hb dL_law_407 (by decide) ?_
    refine lv_icmp_ge (tgt := 517) hx hb dL_law_409 (by decide) (fun c_2 => ?_) (fun c_2 => ?_)
    · have hc_409 := c_2
      refine lv_iload hx hb dL_law_517 (lv_at hl 22 rfl) ?_
      refine lv_bipush (v := 7) hx hb dL_law_519 (by decide) ?_
      refine lv_icmp_ne (tgt := 578) hx hb dL_law_521 (by decide) (fun c_3 => ?_) (fun c_3 => ?_)
      · have hc_521 := c_3
        refine lv_iload hx hb dL_law_578 (lv_at hl 22 rfl) ?_
        refine lv_bipush (v := 8) hx hb dL_law_580 (by decide) ?_
        refine lv_icmp_ne (tgt := 598) hx hb dL_law_582 (by decide) (fun c_4 => ?_) (fun c_4 => ?_)
        · have hc_582 := c_4
          exact k_598 u  _ _ _ rfl hP hS (lv_sub hl [0, 1, 2, 3, 4, 5, 6, 7, 8, 9, 10, 11, 12, 13, 14, 15, 16, 17, 18, 19, 20, 21, 22, 23] rfl)
        · have hc_582 := c_4
          exact k_585 u  _ _ _ rfl hP hS (lv_sub hl [0, 1, 2, 3, 4, 5, 6, 7, 8, 9, 10, 11, 12, 13, 14, 15, 16, 17, 18, 19, 20, 21, 22, 23] rfl)
      · have hc_521 := c_3
        exact k_524 u  _ _ _ rfl hP hS (lv_sub hl [0, 1, 2, 3, 4, 5, 6, 7, 8, 9, 10, 11, 12, 13, 14, 15, 16, 17, 18, 19, 20, 21, 22, 23] rfl)
    · have hc_409 := c_2
      exact k_412 u  _ _ _ rfl hP hS (lv_sub hl [0, 1, 2, 3, 4, 5, 6, 7, 8, 9, 10, 11, 12, 13, 14, 15, 16, 17, 18, 19, 20, 21, 22, 23] rfl)
  · have hc_229 := c_1
    exact k_232 u  _ _ _ rfl hP hS (lv_sub hl [0, 1, 2, 3, 4, 5, 6, 7, 8, 9, 10, 11, 12, 13, 14, 15, 16, 17, 18, 19, 20, 21, 22, 23] rfl)
set_option maxHeartbeats 4000000 in
set_option maxRecDepth 100000 in
theorem seg_sit1 (ha : Amb p c cL_law 31 s args RL m meth (some .boolean) G 74) (hcs : cells ≤ room_1.cells ∧ slots ≤ room_1.slots) (P : PT) (Z : Nat → Int32) (K : KT) (S : PT) (D : Nat) (C : Nat → Int32) (x8 : Int32) (i : Nat) (k : Nat) (hw : Nat) (T6 : Nat) (c7 : Nat) {u : Mem} (hN : NV P Z) (hJ : J P Z K S D C u) (hD : D < 40) (hi : i < nPe P) (hk : k < nPl P) (h9 : S 2 i = -9) (hu : a_isUp P S (nI k) = true) (hP : va_P G.2.1 vwCl (wl G 74 (cX G u)) H) (hS : va_S (xA G 74 s.heap.size) s.heap H locs) (hl : lv_has ls 31 [(0, .ref (G.1 1000)), (1, .ref (G.1 0)), (2, .ref (G.1 72)), (3, .ref (G.1 73)), (4, .int (nI (nPl P))), (5, .int (nI (nPe P))), (6, .int (nI T6)), (7, .int (nI c7)), (8, .int x8), (9, .int (nI D)), (10, .int (S 0 1)), (11, .int (S 0 0)), (12, .int (a_seatedPeople P S)), (13, .int (a_highAll P S)), (14, .int (S 0 2)), (15, .int (nI i)), (16, .int (nI k)), (17, .int (S 2 i)), (18, .int (a_load P S (nI k))), (19, .int (S 1 k)), (20, .int (b2i (!a_isUp P S (nI k)))), (21, .int (a_standing P S)), (22, .int (nI hw)), (23, .int 1)])
    (kk : ∀ (v : Mem) (dn : Nat) (H : Heap) (locs : List Loc) (ls : Array Slot), (E677 P Z K S D C dn v) → va_P G.2.1 vwCl (wl G 74 (cX G v)) H → va_S (xA G 74 s.heap.size) s.heap H locs → lv_has ls 31 [(0, .ref (G.1 1000)), (1, .ref (G.1 0)), (2, .ref (G.1 72)), (3, .ref (G.1 73)), (4, .int (nI (nPl P))), (5, .int (nI (nPe P))), (6, .int (nI T6)), (7, .int (nI c7)), (8, .int x8), (9, .int (nI D)), (10, .int (S 0 1)), (11, .int (S 0 0)), (12, .int (a_seatedPeople P S)), (13, .int (a_highAll P S)), (14, .int (S 0 2)), (15, .int (nI i)), (16, .int (nI k)), (17, .int (S 2 i)), (18, .int (a_load P S (nI k))), (19, .int (S 1 k)), (23, .int (nI dn))] → W p l e room_1 s m args below meth c H locs cells slots Q (F0 m 677 ls [])) : W p l e room_1 s m args below meth c H locs cells slots Q (F0 m 232 ls []) := by
  have hx := ha.1
  have hb := ha.2.1
  obtain ⟨h4, h5⟩ := NV_45 hJ
  have hp0 := hN.1.1
  have hq0 := hN.1.2
  have hpb := (J_plan hJ).1
  have hpr := (J_plan hJ).2
  have hg := J_gs hJ
  refine lv_aload_n hx hb dL_law_232 rfl (lv_at hl 1 rfl) ?_
  refine lv_iload hx hb dL_law_233 (lv_at hl 15 rfl) ?_
  refine lv_iload hx hb dL_law_235 (lv_at hl 16 rfl) ?_
  refine xVi ha hP hS (y := yX7_sit) (As := [.int (nI i), .int (nI k)]) (rest := []) 0 (by decide) (cX_0 G _) rfl rfl (c_X7_sit G l u (nI i) (nI k) (J_PO hJ)) kw_L_68 hd_X7_sit rfl ⟨rfl, rfl⟩ ⟨Nat.le_of_ble_eq_true rfl, Nat.le_of_ble_eq_true rfl⟩ hcs hl.1 (Nat.le_of_ble_eq_true rfl) rfl dL_law_237 (fun r_1 v1 H locs hpq hP hS => ?_)
  obtain ⟨hr_, hu_⟩ := hpq
  have hq_ := q_sitN1 hJ hD hi hk h9 hu
  simp only [← hr_, ← hu_] at hq_
  clear hr_ hu_
  obtain ⟨h_r, ⟨C1, hC1, hJ⟩, rs⟩ := hq_
  subst h_r
  refine lv_istore (lv' := [(24, .int (a_load P (Ts S (sU (S 2) i (nI k))) (nI k))), (0, .ref (G.1 1000)), (1, .ref (G.1 0)), (2, .ref (G.1 72)), (3, .ref (G.1 73)), (4, .int (nI (nPl P))), (5, .int (nI (nPe P))), (6, .int (nI T6)), (7, .int (nI c7)), (8, .int x8), (9, .int (nI D)), (10, .int (S 0 1)), (11, .int (S 0 0)), (12, .int (a_seatedPeople P S)), (13, .int (a_highAll P S)), (14, .int (S 0 2)), (15, .int (nI i)), (16, .int (nI k)), (17, .int (S 2 i)), (18, .int (a_load P S (nI k))), (19, .int (S 1 k)), (20, .int (b2i (!a_isUp P S (nI k)))), (21, .int (a_standing P S)), (22, .int (nI hw)), (23, .int 1)]) hx hb dL_law_240 hl (by decide) rfl (fun ls hl => ?_)
  refine lv_iload hx hb dL_law_242 (lv_at hl 18 rfl) ?_
  refine lv_if_ge (tgt := 256) hx hb dL_law_244 (by decide) (fun c_2 => absurd c_2 (by rw [h9]; decide)) (fun c_2 => ?_)
  refine lv_iload hx hb dL_law_247 (lv_at hl 21 rfl) ?_
  refine lv_if_ne (tgt := 256) hx hb dL_law_249 (by decide) (fun c_3 => absurd (by rw [hu]; rfl) c_3) (fun c_3 => ?_)
  refine lv_iconst (v := 1) hx hb dL_law_252 (by decide) ?_
  refine lv_goto (tgt := 257) hx hb dL_law_253 (by decide) ?_
  refine lv_istore (lv' := [(23, .int 1), (24, .int (a_load P (Ts S (sU (S 2) i (nI k))) (nI k))), (0, .ref (G.1 1000)), (1, .ref (G.1 0)), (2, .ref (G.1 72)), (3, .ref (G.1 73)), (4, .int (nI (nPl P))), (5, .int (nI (nPe P))), (6, .int (nI T6)), (7, .int (nI c7)), (8, .int x8), (9, .int (nI D)), (10, .int (S 0 1)), (11, .int (S 0 0)), (12, .int (a_seatedPeople P S)), (13, .int (a_highAll P S)), (14, .int (S 0 2)), (15, .int (nI i)), (16, .int (nI k)), (17, .int (S 2 i)), (18, .int (a_load P S (nI k))), (19, .int (S 1 k)), (20, .int (b2i (!a_isUp P S (nI k)))), (21, .int (a_standing P S)), (22, .int (nI hw))]) hx hb dL_law_257 hl (by decide) rfl (fun ls hl => ?_)
  refine lv_iload hx hb dL_law_259 (lv_at hl 0 rfl) ?_
  refine lv_if_eq (tgt := 278) hx hb dL_law_261 (by decide) (fun c_4 => absurd c_4 (by decide)) (fun c_4 => ?_)
  refine lv_aload_n hx hb dL_law_264 rfl (lv_at hl 3 rfl) ?_
  refine lv_aload_n hx hb dL_law_265 rfl (lv_at hl 3 rfl) ?_
  refine lv_iload hx hb dL_law_266 (lv_at hl 17 rfl) ?_
  refine lv_iconst (v := 3) hx hb dL_law_268 (by decide) ?_
  refine xVi ha hP hS (y := yX7_one) (As := [.int (nI i), .int 3]) (rest := [.ref (G.1 0)]) 0 (by decide) (cX_0 G _) rfl rfl (c_X7_one G l v1 (nI i) 3 (J_PO hJ)) kw_L_98 hd_X7_one rfl ⟨rfl, rfl⟩ ⟨Nat.le_of_ble_eq_true rfl, Nat.le_of_ble_eq_true rfl⟩ hcs hl.1 (Nat.le_of_ble_eq_true rfl) rfl dL_law_269 (fun r_5 v2 H locs hpq hP hS => ?_)
  obtain ⟨hr_, hu_⟩ := hpq
  have hq_ := q_one hJ (one_nI hpb hi) (w := 3) (by decide)
  simp only [← hr_, ← hu_] at hq_
  clear hr_ hu_
  obtain ⟨h_r, t1, hJ, rs⟩ := hq_
  subst h_r
  refine xSi ha hP hS (y := yL_told) (As := [.ref (G.1 0), .int 1]) (rest := []) rfl (c_L_told1 G l v2  ) kw_L_101 hd_L_told rfl ⟨rfl, rfl⟩ ⟨Nat.le_of_ble_eq_true rfl, Nat.le_of_ble_eq_true rfl⟩ hcs hl.1 (Nat.le_of_ble_eq_true rfl) rfl dL_law_272 (fun r_6 v3 H locs hpq hP hS => ?_)
  obtain ⟨hr_, hu_⟩ := hpq
  have hu_ := hu_.symm
  subst hu_
  have hr_ := hr_.trans (t1.trans (sit_v3 hg hi))
  have hr_ := hr_.symm
  subst hr_
  refine lv_goto (tgt := 279) hx hb dL_law_275 (by decide) ?_
  refine lv_istore (lv' := [(25, .int (a_high P (nI i) (nI k))), (23, .int 1), (24, .int (a_load P (Ts S (sU (S 2) i (nI k))) (nI k))), (0, .ref (G.1 1000)), (1, .ref (G.1 0)), (2, .ref (G.1 72)), (3, .ref (G.1 73)), (4, .int (nI (nPl P))), (5, .int (nI (nPe P))), (6, .int (nI T6)), (7, .int (nI c7)), (8, .int x8), (9, .int (nI D)), (10, .int (S 0 1)), (11, .int (S 0 0)), (12, .int (a_seatedPeople P S)), (13, .int (a_highAll P S)), (14, .int (S 0 2)), (15, .int (nI i)), (16, .int (nI k)), (17, .int (S 2 i)), (18, .int (a_load P S (nI k))), (19, .int (S 1 k)), (20, .int (b2i (!a_isUp P S (nI k)))), (21, .int (a_standing P S)), (22, .int (nI hw))]) hx hb dL_law_279 hl (by decide) rfl (fun ls hl => ?_)
  refine lv_iload hx hb dL_law_281 (lv_at hl 2 rfl) ?_
  refine lv_iload hx hb dL_law_283 (lv_at hl 1 rfl) ?_
  refine lv_if_eq (tgt := 306) hx hb dL_law_285 (by decide) (fun c_7 => absurd c_7 (by decide)) (fun c_7 => ?_)
  refine lv_iload hx hb dL_law_288 (lv_at hl 21 rfl) ?_
  refine lv_aload_n hx hb dL_law_290 rfl (lv_at hl 5 rfl) ?_
  refine lv_bipush (v := 14) hx hb dL_law_291 (by decide) ?_
  refine lv_iload hx hb dL_law_293 (lv_at hl 18 rfl) ?_
  refine lw_iaddE (z := (nI (14 + i))) hx hb dL_law_295 (nI_add 14 i) ?_
  refine xialdN ha hP 72 (by decide) (cX_z G hJ) (14 + i) rfl (by omega) (by decide) dL_law_296 ?_
  refine lv_iadd hx hb dL_law_297 ?_
  refine lv_iload hx hb dL_law_298 (lv_at hl 0 rfl) ?_
  refine lv_iconst (v := 2) hx hb dL_law_300 (by decide) ?_
  refine lv_idiv hx hb dL_law_301 (by decide) ?_
  refine lv_iadd hx hb dL_law_302 ?_
  refine lv_goto (tgt := 308) hx hb dL_law_303 (by decide) ?_
  refine lv_icmp_ne (tgt := 400) hx hb dL_law_308 (by decide) (fun c_8 => absurd (sit_load hg hN hi hk h9) c_8) (fun c_8 => ?_)
  refine lv_iload hx hb dL_law_311 (lv_at hl 1 rfl) ?_
  refine lv_if_eq (tgt := 402) hx hb dL_law_313 (by decide) (fun c_9 => absurd c_9 (by decide)) (fun c_9 => ?_)
  refine lv_iload hx hb dL_law_316 (lv_at hl 0 rfl) ?_
  refine lv_aload_n hx hb dL_law_318 rfl (lv_at hl 5 rfl) ?_
  refine lv_bipush (v := 19) hx hb dL_law_319 (by decide) ?_
  refine lv_iload hx hb dL_law_321 (lv_at hl 18 rfl) ?_
  refine lw_iaddE (z := (nI (19 + i))) hx hb dL_law_323 (nI_add 19 i) ?_
  refine xialdN ha hP 72 (by decide) (cX_z G hJ) (19 + i) rfl (by omega) (by decide) dL_law_324 ?_
  refine lv_aload_n hx hb dL_law_325 rfl (lv_at hl 5 rfl) ?_
  refine lv_bipush (v := 6) hx hb dL_law_326 (by decide) ?_
  refine lv_iload hx hb dL_law_328 (lv_at hl 19 rfl) ?_
  refine lw_iaddE (z := (nI (6 + k))) hx hb dL_law_330 (nI_add 6 k) ?_
  refine xialdN ha hP 72 (by decide) (cX_z G hJ) (6 + k) rfl (by omega) (by decide) dL_law_331 ?_
  have jn_352_10 : ∀ (x : Int32), (x = a_high P (nI i) (nI k)) → W p l e room_1 s m args below meth c H locs cells slots Q (F0 m 352 ls [.int x, .int (a_high P (nI i) (nI k))]) := by
    intro x ex
    subst ex
    refine lv_icmp_ne (tgt := 400) hx hb dL_law_352 (by decide) (fun c_11 => absurd rfl c_11) (fun c_11 => ?_)
    refine lv_aload_n hx hb dL_law_355 rfl (lv_at hl 4 rfl) ?_
    refine lv_bipush (v := 6) hx hb dL_law_356 (by decide) ?_
    refine xVi ha hP hS (y := yX7_count) (As := [.int 6]) (rest := []) 0 (by decide) (cX_0 G _) rfl rfl (c_X7_count G l v2 6 (J_PO hJ)) kw_L_42 hd_X7_count rfl ⟨rfl, rfl⟩ ⟨Nat.le_of_ble_eq_true rfl, Nat.le_of_ble_eq_true rfl⟩ hcs hl.1 (Nat.le_of_ble_eq_true rfl) rfl dL_law_358 (fun r_12 v4 H locs hpq hP hS => ?_)
    obtain ⟨hr_, hu_⟩ := hpq
    have hu_ := hu_.symm
    subst hu_
    have hr_ := hr_.trans (q_c6 hJ)
    have hr_ := hr_.symm
    subst hr_
    refine lv_iload hx hb dL_law_361 (lv_at hl 16 rfl) ?_
    refine lv_iload hx hb dL_law_363 (lv_at hl 0 rfl) ?_
    refine lv_iadd hx hb dL_law_365 ?_
    refine lv_icmp_ne (tgt := 400) hx hb dL_law_366 (by decide) (fun c_13 => absurd (sit_all hg hi h9) c_13) (fun c_13 => ?_)
    refine lv_aload_n hx hb dL_law_369 rfl (lv_at hl 4 rfl) ?_
    refine lv_iconst (v := 5) hx hb dL_law_370 (by decide) ?_
    refine xVi ha hP hS (y := yX7_count) (As := [.int 5]) (rest := []) 0 (by decide) (cX_0 G _) rfl rfl (c_X7_count G l v2 5 (J_PO hJ)) kw_L_42 hd_X7_count rfl ⟨rfl, rfl⟩ ⟨Nat.le_of_ble_eq_true rfl, Nat.le_of_ble_eq_true rfl⟩ hcs hl.1 (Nat.le_of_ble_eq_true rfl) rfl dL_law_371 (fun r_14 v5 H locs hpq hP hS => ?_)
    obtain ⟨hr_, hu_⟩ := hpq
    have hu_ := hu_.symm
    subst hu_
    have hr_ := hr_.trans (q_c5 hJ)
    have hr_ := hr_.symm
    subst hr_
    refine lv_iload hx hb dL_law_374 (lv_at hl 15 rfl) ?_
    refine lv_iconst (v := 1) hx hb dL_law_376 (by decide) ?_
    refine lv_iload hx hb dL_law_377 (lv_at hl 18 rfl) ?_
    refine lv_ishl hx hb dL_law_379 ?_
    refine lv_ior hx hb dL_law_380 ?_
    refine lv_icmp_ne (tgt := 400) hx hb dL_law_381 (by decide) (fun c_15 => absurd (sit_people hg hi hk) c_15) (fun c_15 => ?_)
    refine lv_aload_n hx hb dL_law_384 rfl (lv_at hl 4 rfl) ?_
    refine lv_aload_n hx hb dL_law_385 rfl (lv_at hl 4 rfl) ?_
    refine lv_iload hx hb dL_law_386 (lv_at hl 18 rfl) ?_
    refine lv_iconst (v := 2) hx hb dL_law_388 (by decide) ?_
    refine xVi ha hP hS (y := yX7_one) (As := [.int (nI i), .int 2]) (rest := [.ref (G.1 0)]) 0 (by decide) (cX_0 G _) rfl rfl (c_X7_one G l v2 (nI i) 2 (J_PO hJ)) kw_L_98 hd_X7_one rfl ⟨rfl, rfl⟩ ⟨Nat.le_of_ble_eq_true rfl, Nat.le_of_ble_eq_true rfl⟩ hcs hl.1 (Nat.le_of_ble_eq_true rfl) rfl dL_law_389 (fun r_16 v6 H locs hpq hP hS => ?_)
    obtain ⟨hr_, hu_⟩ := hpq
    have hq_ := q_one hJ (one_nI hpb hi) (w := 2) (by decide)
    simp only [← hr_, ← hu_] at hq_
    clear hr_ hu_
    obtain ⟨h_r, t1, hJ, rs⟩ := hq_
    subst h_r
    refine xSi ha hP hS (y := yL_told) (As := [.ref (G.1 0), .int 1]) (rest := []) rfl (c_L_told1 G l v6  ) kw_L_101 hd_L_told rfl ⟨rfl, rfl⟩ ⟨Nat.le_of_ble_eq_true rfl, Nat.le_of_ble_eq_true rfl⟩ hcs hl.1 (Nat.le_of_ble_eq_true rfl) rfl dL_law_392 (fun r_17 v7 H locs hpq hP hS => ?_)
    obtain ⟨hr_, hu_⟩ := hpq
    have hu_ := hu_.symm
    subst hu_
    have hr_ := hr_.trans (t1.trans (sit_v2 hg hi))
    have hr_ := hr_.symm
    subst hr_
    refine lv_iload hx hb dL_law_395 (lv_at hl 19 rfl) ?_
    refine lv_icmp_eq (tgt := 402) hx hb dL_law_397 (by decide) (fun c_18 => ?_) (fun c_18 => absurd rfl c_18)
    refine lv_goto (tgt := 677) hx hb dL_law_402 (by decide) ?_
    exact kk v6 1 _ _ _ (E677_1 hJ hC1 (and_same _)) hP hS (lv_sub hl [3, 4, 5, 6, 7, 8, 9, 10, 11, 12, 13, 14, 15, 16, 17, 18, 19, 20, 21, 22, 1] rfl)
  refine lv_icmp_ge (tgt := 345) hx hb dL_law_332 (by decide) (fun c_19 => ?_) (fun c_19 => ?_)
  · have hc_332 := c_19
    refine lv_aload_n hx hb dL_law_345 rfl (lv_at hl 5 rfl) ?_
    refine lv_bipush (v := 6) hx hb dL_law_346 (by decide) ?_
    refine lv_iload hx hb dL_law_348 (lv_at hl 19 rfl) ?_
    refine lw_iaddE (z := (nI (6 + k))) hx hb dL_law_350 (nI_add 6 k) ?_
    refine xialdN ha hP 72 (by decide) (cX_z G hJ) (6 + k) rfl (by omega) (by decide) dL_law_351 ?_
    exact jn_352_10 _ (by rw [sit_high hg hN hi hk, if_neg (u_le hc_332)])
  · have hc_332 := c_19
    refine lv_aload_n hx hb dL_law_335 rfl (lv_at hl 5 rfl) ?_
    refine lv_bipush (v := 19) hx hb dL_law_336 (by decide) ?_
    refine lv_iload hx hb dL_law_338 (lv_at hl 18 rfl) ?_
    refine lw_iaddE (z := (nI (19 + i))) hx hb dL_law_340 (nI_add 19 i) ?_
    refine xialdN ha hP 72 (by decide) (cX_z G hJ) (19 + i) rfl (by omega) (by decide) dL_law_341 ?_
    refine lv_goto (tgt := 352) hx hb dL_law_342 (by decide) ?_
    exact jn_352_10 _ (by rw [sit_high hg hN hi hk, if_pos (u_nle hc_332)])
set_option maxHeartbeats 4000000 in
set_option maxRecDepth 100000 in
theorem seg_sit0 (ha : Amb p c cL_law 31 s args RL m meth (some .boolean) G 74) (hcs : cells ≤ room_1.cells ∧ slots ≤ room_1.slots) (P : PT) (Z : Nat → Int32) (K : KT) (S : PT) (D : Nat) (C : Nat → Int32) (x8 : Int32) (i : Nat) (k : Nat) (hw : Nat) (T6 : Nat) (c7 : Nat) {u : Mem} (hN : NV P Z) (hJ : J P Z K S D C u) (hD : D < 40) (hi : i < nPe P) (hk : k < nPl P) (hd : ¬ (S 2 i = -9 ∧ a_isUp P S (nI k) = true)) (hP : va_P G.2.1 vwCl (wl G 74 (cX G u)) H) (hS : va_S (xA G 74 s.heap.size) s.heap H locs) (hl : lv_has ls 31 [(0, .ref (G.1 1000)), (1, .ref (G.1 0)), (2, .ref (G.1 72)), (3, .ref (G.1 73)), (4, .int (nI (nPl P))), (5, .int (nI (nPe P))), (6, .int (nI T6)), (7, .int (nI c7)), (8, .int x8), (9, .int (nI D)), (10, .int (S 0 1)), (11, .int (S 0 0)), (12, .int (a_seatedPeople P S)), (13, .int (a_highAll P S)), (14, .int (S 0 2)), (15, .int (nI i)), (16, .int (nI k)), (17, .int (S 2 i)), (18, .int (a_load P S (nI k))), (19, .int (S 1 k)), (20, .int (b2i (!a_isUp P S (nI k)))), (21, .int (a_standing P S)), (22, .int (nI hw)), (23, .int 1)])
    (kk : ∀ (v : Mem) (dn : Nat) (H : Heap) (locs : List Loc) (ls : Array Slot), (E677 P Z K S D C dn v) → va_P G.2.1 vwCl (wl G 74 (cX G v)) H → va_S (xA G 74 s.heap.size) s.heap H locs → lv_has ls 31 [(0, .ref (G.1 1000)), (1, .ref (G.1 0)), (2, .ref (G.1 72)), (3, .ref (G.1 73)), (4, .int (nI (nPl P))), (5, .int (nI (nPe P))), (6, .int (nI T6)), (7, .int (nI c7)), (8, .int x8), (9, .int (nI D)), (10, .int (S 0 1)), (11, .int (S 0 0)), (12, .int (a_seatedPeople P S)), (13, .int (a_highAll P S)), (14, .int (S 0 2)), (15, .int (nI i)), (16, .int (nI k)), (17, .int (S 2 i)), (18, .int (a_load P S (nI k))), (19, .int (S 1 k)), (23, .int (nI dn))] → W p l e room_1 s m args below meth c H locs cells slots Q (F0 m 677 ls [])) : W p l e room_1 s m args below meth c H locs cells slots Q (F0 m 232 ls []) := by
  have hx := ha.1
  have hb := ha.2.1
  obtain ⟨h4, h5⟩ := NV_45 hJ
  have hp0 := hN.1.1
  have hq0 := hN.1.2
  have hpb := (J_plan hJ).1
  have hpr := (J_plan hJ).2
  have hg := J_gs hJ
  refine lv_aload_n hx hb dL_law_232 rfl (lv_at hl 1 rfl) ?_
  refine lv_iload hx hb dL_law_233 (lv_at hl 15 rfl) ?_
  refine lv_iload hx hb dL_law_235 (lv_at hl 16 rfl) ?_
  refine xVi ha hP hS (y := yX7_sit) (As := [.int (nI i), .int (nI k)]) (rest := []) 0 (by decide) (cX_0 G _) rfl rfl (c_X7_sit G l u (nI i) (nI k) (J_PO hJ)) kw_L_68 hd_X7_sit rfl ⟨rfl, rfl⟩ ⟨Nat.le_of_ble_eq_true rfl, Nat.le_of_ble_eq_true rfl⟩ hcs hl.1 (Nat.le_of_ble_eq_true rfl) rfl dL_law_237 (fun r_1 v1 H locs hpq hP hS => ?_)
  obtain ⟨hr_, hu_⟩ := hpq
  rw [q_sitN0 hJ hi hk hd] at hr_ hu_
  replace hu_ : v1 = u := hu_
  have hu_ := hu_.symm
  subst hu_
  have hr_ := hr_.trans rfl
  have hr_ := hr_.symm
  subst hr_
  refine lv_istore (lv' := [(24, .int (-4)), (0, .ref (G.1 1000)), (1, .ref (G.1 0)), (2, .ref (G.1 72)), (3, .ref (G.1 73)), (4, .int (nI (nPl P))), (5, .int (nI (nPe P))), (6, .int (nI T6)), (7, .int (nI c7)), (8, .int x8), (9, .int (nI D)), (10, .int (S 0 1)), (11, .int (S 0 0)), (12, .int (a_seatedPeople P S)), (13, .int (a_highAll P S)), (14, .int (S 0 2)), (15, .int (nI i)), (16, .int (nI k)), (17, .int (S 2 i)), (18, .int (a_load P S (nI k))), (19, .int (S 1 k)), (20, .int (b2i (!a_isUp P S (nI k)))), (21, .int (a_standing P S)), (22, .int (nI hw)), (23, .int 1)]) hx hb dL_law_240 hl (by decide) rfl (fun ls hl => ?_)
  refine lv_iload hx hb dL_law_242 (lv_at hl 18 rfl) ?_
  have jn_257_2 : ∀ (x : Int32), (x = 0) → W p l e room_1 s m args below meth c H locs cells slots Q (F0 m 257 ls [.int x]) := by
    intro x ex
    subst ex
    refine lv_istore (lv' := [(23, .int 0), (24, .int (-4)), (0, .ref (G.1 1000)), (1, .ref (G.1 0)), (2, .ref (G.1 72)), (3, .ref (G.1 73)), (4, .int (nI (nPl P))), (5, .int (nI (nPe P))), (6, .int (nI T6)), (7, .int (nI c7)), (8, .int x8), (9, .int (nI D)), (10, .int (S 0 1)), (11, .int (S 0 0)), (12, .int (a_seatedPeople P S)), (13, .int (a_highAll P S)), (14, .int (S 0 2)), (15, .int (nI i)), (16, .int (nI k)), (17, .int (S 2 i)), (18, .int (a_load P S (nI k))), (19, .int (S 1 k)), (20, .int (b2i (!a_isUp P S (nI k)))), (21, .int (a_standing P S)), (22, .int (nI hw))]) hx hb dL_law_257 hl (by decide) rfl (fun ls hl => ?_)
    refine lv_iload hx hb dL_law_259 (lv_at hl 0 rfl) ?_
    refine lv_if_eq (tgt := 278) hx hb dL_law_261 (by decide) (fun c_3 => ?_) (fun c_3 => absurd rfl c_3)
    refine lv_iconst (v := 0) hx hb dL_law_278 (by decide) ?_
    refine lv_istore (lv' := [(25, .int 0), (23, .int 0), (24, .int (-4)), (0, .ref (G.1 1000)), (1, .ref (G.1 0)), (2, .ref (G.1 72)), (3, .ref (G.1 73)), (4, .int (nI (nPl P))), (5, .int (nI (nPe P))), (6, .int (nI T6)), (7, .int (nI c7)), (8, .int x8), (9, .int (nI D)), (10, .int (S 0 1)), (11, .int (S 0 0)), (12, .int (a_seatedPeople P S)), (13, .int (a_highAll P S)), (14, .int (S 0 2)), (15, .int (nI i)), (16, .int (nI k)), (17, .int (S 2 i)), (18, .int (a_load P S (nI k))), (19, .int (S 1 k)), (20, .int (b2i (!a_isUp P S (nI k)))), (21, .int (a_standing P S)), (22, .int (nI hw))]) hx hb dL_law_279 hl (by decide) rfl (fun ls hl => ?_)
    refine lv_iload hx hb dL_law_281 (lv_at hl 2 rfl) ?_
    refine lv_iload hx hb dL_law_283 (lv_at hl 1 rfl) ?_
    refine lv_if_eq (tgt := 306) hx hb dL_law_285 (by decide) (fun c_4 => ?_) (fun c_4 => absurd rfl c_4)
    refine lv_bipush (v := (-4)) hx hb dL_law_306 (by decide) ?_
    refine lv_icmp_ne (tgt := 400) hx hb dL_law_308 (by decide) (fun c_5 => absurd rfl c_5) (fun c_5 => ?_)
    refine lv_iload hx hb dL_law_311 (lv_at hl 1 rfl) ?_
    refine lv_if_eq (tgt := 402) hx hb dL_law_313 (by decide) (fun c_6 => ?_) (fun c_6 => absurd rfl c_6)
    refine lv_goto (tgt := 677) hx hb dL_law_402 (by decide) ?_
    exact kk u 0 _ _ _ (E677_0 hJ) hP hS (lv_sub hl [3, 4, 5, 6, 7, 8, 9, 10, 11, 12, 13, 14, 15, 16, 17, 18, 19, 20, 21, 22, 1] rfl)
  refine lv_if_ge (tgt := 256) hx hb dL_law_244 (by decide) (fun c_7 => ?_) (fun c_7 => ?_)
  · have hc_244 := c_7
    refine lv_iconst (v := 0) hx hb dL_law_256 (by decide) ?_
    exact jn_257_2 _ rfl
  · have hc_244 := c_7
    refine lv_iload hx hb dL_law_247 (lv_at hl 21 rfl) ?_
    refine lv_if_ne (tgt := 256) hx hb dL_law_249 (by decide) (fun c_8 => ?_) (fun c_8 => ?_)
    · have hc_249 := c_8
      refine lv_iconst (v := 0) hx hb dL_law_256 (by decide) ?_
      exact jn_257_2 _ rfl
    · have hc_249 := c_8
      exact absurd ⟨(seat_neg hg hi).mpr (u_nle hc_244), up_of0 hc_249⟩ hd
set_option maxHeartbeats 4000000 in
set_option maxRecDepth 100000 in
theorem seg_down1 (ha : Amb p c cL_law 31 s args RL m meth (some .boolean) G 74) (hcs : cells ≤ room_1.cells ∧ slots ≤ room_1.slots) (P : PT) (Z : Nat → Int32) (K : KT) (S : PT) (D : Nat) (C : Nat → Int32) (x8 : Int32) (i : Nat) (k : Nat) (hw : Nat) (T6 : Nat) (c7 : Nat) {u : Mem} (hN : NV P Z) (hJ : J P Z K S D C u) (hD : D < 40) (hi : i < nPe P) (hk : k < nPl P) (h9 : ¬ S 2 i = -9) (hP : va_P G.2.1 vwCl (wl G 74 (cX G u)) H) (hS : va_S (xA G 74 s.heap.size) s.heap H locs) (hl : lv_has ls 31 [(0, .ref (G.1 1000)), (1, .ref (G.1 0)), (2, .ref (G.1 72)), (3, .ref (G.1 73)), (4, .int (nI (nPl P))), (5, .int (nI (nPe P))), (6, .int (nI T6)), (7, .int (nI c7)), (8, .int x8), (9, .int (nI D)), (10, .int (S 0 1)), (11, .int (S 0 0)), (12, .int (a_seatedPeople P S)), (13, .int (a_highAll P S)), (14, .int (S 0 2)), (15, .int (nI i)), (16, .int (nI k)), (17, .int (S 2 i)), (18, .int (a_load P S (nI k))), (19, .int (S 1 k)), (20, .int (b2i (!a_isUp P S (nI k)))), (21, .int (a_standing P S)), (22, .int (nI hw)), (23, .int 1)])
    (kk : ∀ (v : Mem) (dn : Nat) (H : Heap) (locs : List Loc) (ls : Array Slot), (E677 P Z K S D C dn v) → va_P G.2.1 vwCl (wl G 74 (cX G v)) H → va_S (xA G 74 s.heap.size) s.heap H locs → lv_has ls 31 [(0, .ref (G.1 1000)), (1, .ref (G.1 0)), (2, .ref (G.1 72)), (3, .ref (G.1 73)), (4, .int (nI (nPl P))), (5, .int (nI (nPe P))), (6, .int (nI T6)), (7, .int (nI c7)), (8, .int x8), (9, .int (nI D)), (10, .int (S 0 1)), (11, .int (S 0 0)), (12, .int (a_seatedPeople P S)), (13, .int (a_highAll P S)), (14, .int (S 0 2)), (15, .int (nI i)), (16, .int (nI k)), (17, .int (S 2 i)), (18, .int (a_load P S (nI k))), (19, .int (S 1 k)), (23, .int (nI dn))] → W p l e room_1 s m args below meth c H locs cells slots Q (F0 m 677 ls [])) : W p l e room_1 s m args below meth c H locs cells slots Q (F0 m 412 ls []) := by
  have hx := ha.1
  have hb := ha.2.1
  obtain ⟨h4, h5⟩ := NV_45 hJ
  have hp0 := hN.1.1
  have hq0 := hN.1.2
  have hpb := (J_plan hJ).1
  have hpr := (J_plan hJ).2
  have hg := J_gs hJ
  refine lv_aload_n hx hb dL_law_412 rfl (lv_at hl 1 rfl) ?_
  refine lv_aload_n hx hb dL_law_413 rfl (lv_at hl 1 rfl) ?_
  refine lv_iload hx hb dL_law_414 (lv_at hl 15 rfl) ?_
  refine lv_iconst (v := 3) hx hb dL_law_416 (by decide) ?_
  refine xVi ha hP hS (y := yX7_one) (As := [.int (nI i), .int 3]) (rest := [.ref (G.1 0)]) 0 (by decide) (cX_0 G _) rfl rfl (c_X7_one G l u (nI i) 3 (J_PO hJ)) kw_L_98 hd_X7_one rfl ⟨rfl, rfl⟩ ⟨Nat.le_of_ble_eq_true rfl, Nat.le_of_ble_eq_true rfl⟩ hcs hl.1 (Nat.le_of_ble_eq_true rfl) rfl dL_law_417 (fun r_1 v1 H locs hpq hP hS => ?_)
  obtain ⟨hr_, hu_⟩ := hpq
  have hq_ := q_one hJ (one_nI hpb hi) (w := 3) (by decide)
  simp only [← hr_, ← hu_] at hq_
  clear hr_ hu_
  obtain ⟨h_r, t1, hJ, rs⟩ := hq_
  subst h_r
  refine xSi ha hP hS (y := yL_told) (As := [.ref (G.1 0), .int 1]) (rest := []) rfl (c_L_told1 G l v1  ) kw_L_101 hd_L_told rfl ⟨rfl, rfl⟩ ⟨Nat.le_of_ble_eq_true rfl, Nat.le_of_ble_eq_true rfl⟩ hcs hl.1 (Nat.le_of_ble_eq_true rfl) rfl dL_law_420 (fun r_2 v2 H locs hpq hP hS => ?_)
  obtain ⟨hr_, hu_⟩ := hpq
  have hu_ := hu_.symm
  subst hu_
  have hr_ := hr_.trans (t1.trans (one_3 hpb hi))
  have hr_ := hr_.symm
  subst hr_
  refine lv_istore (lv' := [(24, .int (a_high P (nI i) (S 2 i))), (0, .ref (G.1 1000)), (1, .ref (G.1 0)), (2, .ref (G.1 72)), (3, .ref (G.1 73)), (4, .int (nI (nPl P))), (5, .int (nI (nPe P))), (6, .int (nI T6)), (7, .int (nI c7)), (8, .int x8), (9, .int (nI D)), (10, .int (S 0 1)), (11, .int (S 0 0)), (12, .int (a_seatedPeople P S)), (13, .int (a_highAll P S)), (14, .int (S 0 2)), (15, .int (nI i)), (16, .int (nI k)), (17, .int (S 2 i)), (18, .int (a_load P S (nI k))), (19, .int (S 1 k)), (20, .int (b2i (!a_isUp P S (nI k)))), (21, .int (a_standing P S)), (22, .int (nI hw)), (23, .int 1)]) hx hb dL_law_423 hl (by decide) rfl (fun ls hl => ?_)
  refine lv_aload_n hx hb dL_law_425 rfl (lv_at hl 2 rfl) ?_
  refine lv_iload hx hb dL_law_426 (lv_at hl 16 rfl) ?_
  refine xVi ha hP hS (y := yX7_down) (As := [.int (nI i)]) (rest := []) 0 (by decide) (cX_0 G _) rfl rfl (c_X7_down G l v1 (nI i) (J_PO hJ)) kw_L_71 hd_X7_down rfl ⟨rfl, rfl⟩ ⟨Nat.le_of_ble_eq_true rfl, Nat.le_of_ble_eq_true rfl⟩ hcs hl.1 (Nat.le_of_ble_eq_true rfl) rfl dL_law_428 (fun r_3 v3 H locs hpq hP hS => ?_)
  obtain ⟨hr_, hu_⟩ := hpq
  have hq_ := q_downN1 hJ hD hi h9
  simp only [← hr_, ← hu_] at hq_
  clear hr_ hu_
  obtain ⟨h_r, ⟨C1, hC1, hJ⟩, rs⟩ := hq_
  subst h_r
  refine lv_istore (lv' := [(25, .int (a_high P (nI i) (S 2 i))), (24, .int (a_high P (nI i) (S 2 i))), (0, .ref (G.1 1000)), (1, .ref (G.1 0)), (2, .ref (G.1 72)), (3, .ref (G.1 73)), (4, .int (nI (nPl P))), (5, .int (nI (nPe P))), (6, .int (nI T6)), (7, .int (nI c7)), (8, .int x8), (9, .int (nI D)), (10, .int (S 0 1)), (11, .int (S 0 0)), (12, .int (a_seatedPeople P S)), (13, .int (a_highAll P S)), (14, .int (S 0 2)), (15, .int (nI i)), (16, .int (nI k)), (17, .int (S 2 i)), (18, .int (a_load P S (nI k))), (19, .int (S 1 k)), (20, .int (b2i (!a_isUp P S (nI k)))), (21, .int (a_standing P S)), (22, .int (nI hw)), (23, .int 1)]) hx hb dL_law_431 hl (by decide) rfl (fun ls hl => ?_)
  refine lv_iload hx hb dL_law_433 (lv_at hl 19 rfl) ?_
  refine lv_if_lt (tgt := 442) hx hb dL_law_435 (by decide) (fun c_4 => absurd c_4 (fun q => h9 ((seat_neg hg hi).mpr q))) (fun c_4 => ?_)
  refine lv_iconst (v := 1) hx hb dL_law_438 (by decide) ?_
  refine lv_goto (tgt := 443) hx hb dL_law_439 (by decide) ?_
  refine lv_istore (lv' := [(23, .int 1), (25, .int (a_high P (nI i) (S 2 i))), (24, .int (a_high P (nI i) (S 2 i))), (0, .ref (G.1 1000)), (1, .ref (G.1 0)), (2, .ref (G.1 72)), (3, .ref (G.1 73)), (4, .int (nI (nPl P))), (5, .int (nI (nPe P))), (6, .int (nI T6)), (7, .int (nI c7)), (8, .int x8), (9, .int (nI D)), (10, .int (S 0 1)), (11, .int (S 0 0)), (12, .int (a_seatedPeople P S)), (13, .int (a_highAll P S)), (14, .int (S 0 2)), (15, .int (nI i)), (16, .int (nI k)), (17, .int (S 2 i)), (18, .int (a_load P S (nI k))), (19, .int (S 1 k)), (20, .int (b2i (!a_isUp P S (nI k)))), (21, .int (a_standing P S)), (22, .int (nI hw))]) hx hb dL_law_443 hl (by decide) rfl (fun ls hl => ?_)
  refine lv_iload hx hb dL_law_445 (lv_at hl 1 rfl) ?_
  refine lv_iload hx hb dL_law_447 (lv_at hl 0 rfl) ?_
  refine lv_if_eq (tgt := 457) hx hb dL_law_449 (by decide) (fun c_5 => absurd c_5 (by decide)) (fun c_5 => ?_)
  refine lv_iload hx hb dL_law_452 (lv_at hl 2 rfl) ?_
  refine lv_goto (tgt := 459) hx hb dL_law_454 (by decide) ?_
  refine lv_icmp_ne (tgt := 512) hx hb dL_law_459 (by decide) (fun c_6 => absurd rfl c_6) (fun c_6 => ?_)
  refine lv_iload hx hb dL_law_462 (lv_at hl 0 rfl) ?_
  refine lv_if_eq (tgt := 514) hx hb dL_law_464 (by decide) (fun c_7 => absurd c_7 (by decide)) (fun c_7 => ?_)
  refine lv_aload_n hx hb dL_law_467 rfl (lv_at hl 4 rfl) ?_
  refine lv_bipush (v := 6) hx hb dL_law_468 (by decide) ?_
  refine xVi ha hP hS (y := yX7_count) (As := [.int 6]) (rest := []) 0 (by decide) (cX_0 G _) rfl rfl (c_X7_count G l v3 6 (J_PO hJ)) kw_L_42 hd_X7_count rfl ⟨rfl, rfl⟩ ⟨Nat.le_of_ble_eq_true rfl, Nat.le_of_ble_eq_true rfl⟩ hcs hl.1 (Nat.le_of_ble_eq_true rfl) rfl dL_law_470 (fun r_8 v4 H locs hpq hP hS => ?_)
  obtain ⟨hr_, hu_⟩ := hpq
  have hu_ := hu_.symm
  subst hu_
  have hr_ := hr_.trans (q_c6 hJ)
  have hr_ := hr_.symm
  subst hr_
  refine lv_iload hx hb dL_law_473 (lv_at hl 16 rfl) ?_
  refine lv_iload hx hb dL_law_475 (lv_at hl 2 rfl) ?_
  refine lv_isub hx hb dL_law_477 ?_
  refine lv_icmp_ne (tgt := 512) hx hb dL_law_478 (by decide) (fun c_9 => absurd (down_all hg hi) c_9) (fun c_9 => ?_)
  refine lv_aload_n hx hb dL_law_481 rfl (lv_at hl 4 rfl) ?_
  refine lv_iconst (v := 5) hx hb dL_law_482 (by decide) ?_
  refine xVi ha hP hS (y := yX7_count) (As := [.int 5]) (rest := []) 0 (by decide) (cX_0 G _) rfl rfl (c_X7_count G l v3 5 (J_PO hJ)) kw_L_42 hd_X7_count rfl ⟨rfl, rfl⟩ ⟨Nat.le_of_ble_eq_true rfl, Nat.le_of_ble_eq_true rfl⟩ hcs hl.1 (Nat.le_of_ble_eq_true rfl) rfl dL_law_483 (fun r_10 v5 H locs hpq hP hS => ?_)
  obtain ⟨hr_, hu_⟩ := hpq
  have hu_ := hu_.symm
  subst hu_
  have hr_ := hr_.trans (q_c5 hJ)
  have hr_ := hr_.symm
  subst hr_
  refine lv_iload hx hb dL_law_486 (lv_at hl 15 rfl) ?_
  refine lv_iconst (v := 1) hx hb dL_law_488 (by decide) ?_
  refine lv_iload hx hb dL_law_489 (lv_at hl 18 rfl) ?_
  refine lv_ishl hx hb dL_law_491 ?_
  refine lv_iconst (v := (-1)) hx hb dL_law_492 (by decide) ?_
  refine lv_ixor hx hb dL_law_493 ?_
  refine lv_iand hx hb dL_law_494 ?_
  refine lv_icmp_ne (tgt := 512) hx hb dL_law_495 (by decide) (fun c_11 => absurd (down_people hg hi) c_11) (fun c_11 => ?_)
  refine lv_aload_n hx hb dL_law_498 rfl (lv_at hl 4 rfl) ?_
  refine lv_aload_n hx hb dL_law_499 rfl (lv_at hl 4 rfl) ?_
  refine lv_iload hx hb dL_law_500 (lv_at hl 18 rfl) ?_
  refine lv_iconst (v := 3) hx hb dL_law_502 (by decide) ?_
  refine xVi ha hP hS (y := yX7_one) (As := [.int (nI i), .int 3]) (rest := [.ref (G.1 0)]) 0 (by decide) (cX_0 G _) rfl rfl (c_X7_one G l v3 (nI i) 3 (J_PO hJ)) kw_L_98 hd_X7_one rfl ⟨rfl, rfl⟩ ⟨Nat.le_of_ble_eq_true rfl, Nat.le_of_ble_eq_true rfl⟩ hcs hl.1 (Nat.le_of_ble_eq_true rfl) rfl dL_law_503 (fun r_12 v6 H locs hpq hP hS => ?_)
  obtain ⟨hr_, hu_⟩ := hpq
  have hq_ := q_one hJ (one_nI hpb hi) (w := 3) (by decide)
  simp only [← hr_, ← hu_] at hq_
  clear hr_ hu_
  obtain ⟨h_r, t1, hJ, rs⟩ := hq_
  subst h_r
  refine xSi ha hP hS (y := yL_told) (As := [.ref (G.1 0), .int 1]) (rest := []) rfl (c_L_told1 G l v6  ) kw_L_101 hd_L_told rfl ⟨rfl, rfl⟩ ⟨Nat.le_of_ble_eq_true rfl, Nat.le_of_ble_eq_true rfl⟩ hcs hl.1 (Nat.le_of_ble_eq_true rfl) rfl dL_law_506 (fun r_13 v7 H locs hpq hP hS => ?_)
  obtain ⟨hr_, hu_⟩ := hpq
  have hu_ := hu_.symm
  subst hu_
  have hr_ := hr_.trans (t1.trans (down_3 hg hi))
  have hr_ := hr_.symm
  subst hr_
  refine lv_if_eq (tgt := 514) hx hb dL_law_509 (by decide) (fun c_14 => ?_) (fun c_14 => absurd rfl c_14)
  refine lv_goto (tgt := 677) hx hb dL_law_514 (by decide) ?_
  exact kk v6 1 _ _ _ (E677_1 hJ hC1 (and_same _)) hP hS (lv_sub hl [3, 4, 5, 6, 7, 8, 9, 10, 11, 12, 13, 14, 15, 16, 17, 18, 19, 20, 21, 22, 0] rfl)
set_option maxHeartbeats 4000000 in
set_option maxRecDepth 100000 in
theorem seg_down0 (ha : Amb p c cL_law 31 s args RL m meth (some .boolean) G 74) (hcs : cells ≤ room_1.cells ∧ slots ≤ room_1.slots) (P : PT) (Z : Nat → Int32) (K : KT) (S : PT) (D : Nat) (C : Nat → Int32) (x8 : Int32) (i : Nat) (k : Nat) (hw : Nat) (T6 : Nat) (c7 : Nat) {u : Mem} (hN : NV P Z) (hJ : J P Z K S D C u) (hD : D < 40) (hi : i < nPe P) (hk : k < nPl P) (h9 : S 2 i = -9) (hP : va_P G.2.1 vwCl (wl G 74 (cX G u)) H) (hS : va_S (xA G 74 s.heap.size) s.heap H locs) (hl : lv_has ls 31 [(0, .ref (G.1 1000)), (1, .ref (G.1 0)), (2, .ref (G.1 72)), (3, .ref (G.1 73)), (4, .int (nI (nPl P))), (5, .int (nI (nPe P))), (6, .int (nI T6)), (7, .int (nI c7)), (8, .int x8), (9, .int (nI D)), (10, .int (S 0 1)), (11, .int (S 0 0)), (12, .int (a_seatedPeople P S)), (13, .int (a_highAll P S)), (14, .int (S 0 2)), (15, .int (nI i)), (16, .int (nI k)), (17, .int (S 2 i)), (18, .int (a_load P S (nI k))), (19, .int (S 1 k)), (20, .int (b2i (!a_isUp P S (nI k)))), (21, .int (a_standing P S)), (22, .int (nI hw)), (23, .int 1)])
    (kk : ∀ (v : Mem) (dn : Nat) (H : Heap) (locs : List Loc) (ls : Array Slot), (E677 P Z K S D C dn v) → va_P G.2.1 vwCl (wl G 74 (cX G v)) H → va_S (xA G 74 s.heap.size) s.heap H locs → lv_has ls 31 [(0, .ref (G.1 1000)), (1, .ref (G.1 0)), (2, .ref (G.1 72)), (3, .ref (G.1 73)), (4, .int (nI (nPl P))), (5, .int (nI (nPe P))), (6, .int (nI T6)), (7, .int (nI c7)), (8, .int x8), (9, .int (nI D)), (10, .int (S 0 1)), (11, .int (S 0 0)), (12, .int (a_seatedPeople P S)), (13, .int (a_highAll P S)), (14, .int (S 0 2)), (15, .int (nI i)), (16, .int (nI k)), (17, .int (S 2 i)), (18, .int (a_load P S (nI k))), (19, .int (S 1 k)), (23, .int (nI dn))] → W p l e room_1 s m args below meth c H locs cells slots Q (F0 m 677 ls [])) : W p l e room_1 s m args below meth c H locs cells slots Q (F0 m 412 ls []) := by
  have hx := ha.1
  have hb := ha.2.1
  obtain ⟨h4, h5⟩ := NV_45 hJ
  have hp0 := hN.1.1
  have hq0 := hN.1.2
  have hpb := (J_plan hJ).1
  have hpr := (J_plan hJ).2
  have hg := J_gs hJ
  refine lv_aload_n hx hb dL_law_412 rfl (lv_at hl 1 rfl) ?_
  refine lv_aload_n hx hb dL_law_413 rfl (lv_at hl 1 rfl) ?_
  refine lv_iload hx hb dL_law_414 (lv_at hl 15 rfl) ?_
  refine lv_iconst (v := 3) hx hb dL_law_416 (by decide) ?_
  refine xVi ha hP hS (y := yX7_one) (As := [.int (nI i), .int 3]) (rest := [.ref (G.1 0)]) 0 (by decide) (cX_0 G _) rfl rfl (c_X7_one G l u (nI i) 3 (J_PO hJ)) kw_L_98 hd_X7_one rfl ⟨rfl, rfl⟩ ⟨Nat.le_of_ble_eq_true rfl, Nat.le_of_ble_eq_true rfl⟩ hcs hl.1 (Nat.le_of_ble_eq_true rfl) rfl dL_law_417 (fun r_1 v1 H locs hpq hP hS => ?_)
  obtain ⟨hr_, hu_⟩ := hpq
  have hq_ := q_one hJ (one_nI hpb hi) (w := 3) (by decide)
  simp only [← hr_, ← hu_] at hq_
  clear hr_ hu_
  obtain ⟨h_r, t1, hJ, rs⟩ := hq_
  subst h_r
  refine xSi ha hP hS (y := yL_told) (As := [.ref (G.1 0), .int 1]) (rest := []) rfl (c_L_told1 G l v1  ) kw_L_101 hd_L_told rfl ⟨rfl, rfl⟩ ⟨Nat.le_of_ble_eq_true rfl, Nat.le_of_ble_eq_true rfl⟩ hcs hl.1 (Nat.le_of_ble_eq_true rfl) rfl dL_law_420 (fun r_2 v2 H locs hpq hP hS => ?_)
  obtain ⟨hr_, hu_⟩ := hpq
  have hu_ := hu_.symm
  subst hu_
  have hr_ := hr_.trans (t1.trans (one_3 hpb hi))
  have hr_ := hr_.symm
  subst hr_
  refine lv_istore (lv' := [(24, .int (a_high P (nI i) (S 2 i))), (0, .ref (G.1 1000)), (1, .ref (G.1 0)), (2, .ref (G.1 72)), (3, .ref (G.1 73)), (4, .int (nI (nPl P))), (5, .int (nI (nPe P))), (6, .int (nI T6)), (7, .int (nI c7)), (8, .int x8), (9, .int (nI D)), (10, .int (S 0 1)), (11, .int (S 0 0)), (12, .int (a_seatedPeople P S)), (13, .int (a_highAll P S)), (14, .int (S 0 2)), (15, .int (nI i)), (16, .int (nI k)), (17, .int (S 2 i)), (18, .int (a_load P S (nI k))), (19, .int (S 1 k)), (20, .int (b2i (!a_isUp P S (nI k)))), (21, .int (a_standing P S)), (22, .int (nI hw)), (23, .int 1)]) hx hb dL_law_423 hl (by decide) rfl (fun ls hl => ?_)
  refine lv_aload_n hx hb dL_law_425 rfl (lv_at hl 2 rfl) ?_
  refine lv_iload hx hb dL_law_426 (lv_at hl 16 rfl) ?_
  refine xVi ha hP hS (y := yX7_down) (As := [.int (nI i)]) (rest := []) 0 (by decide) (cX_0 G _) rfl rfl (c_X7_down G l v1 (nI i) (J_PO hJ)) kw_L_71 hd_X7_down rfl ⟨rfl, rfl⟩ ⟨Nat.le_of_ble_eq_true rfl, Nat.le_of_ble_eq_true rfl⟩ hcs hl.1 (Nat.le_of_ble_eq_true rfl) rfl dL_law_428 (fun r_3 v3 H locs hpq hP hS => ?_)
  obtain ⟨hr_, hu_⟩ := hpq
  rw [q_downN0 hJ hi h9] at hr_ hu_
  replace hu_ : v3 = v1 := hu_
  have hu_ := hu_.symm
  subst hu_
  have hr_ := hr_.trans rfl
  have hr_ := hr_.symm
  subst hr_
  refine lv_istore (lv' := [(25, .int (-4)), (24, .int (a_high P (nI i) (S 2 i))), (0, .ref (G.1 1000)), (1, .ref (G.1 0)), (2, .ref (G.1 72)), (3, .ref (G.1 73)), (4, .int (nI (nPl P))), (5, .int (nI (nPe P))), (6, .int (nI T6)), (7, .int (nI c7)), (8, .int x8), (9, .int (nI D)), (10, .int (S 0 1)), (11, .int (S 0 0)), (12, .int (a_seatedPeople P S)), (13, .int (a_highAll P S)), (14, .int (S 0 2)), (15, .int (nI i)), (16, .int (nI k)), (17, .int (S 2 i)), (18, .int (a_load P S (nI k))), (19, .int (S 1 k)), (20, .int (b2i (!a_isUp P S (nI k)))), (21, .int (a_standing P S)), (22, .int (nI hw)), (23, .int 1)]) hx hb dL_law_431 hl (by decide) rfl (fun ls hl => ?_)
  refine lv_iload hx hb dL_law_433 (lv_at hl 19 rfl) ?_
  refine lv_if_lt (tgt := 442) hx hb dL_law_435 (by decide) (fun c_4 => ?_) (fun c_4 => absurd (by rw [h9]; decide) c_4)
  refine lv_iconst (v := 0) hx hb dL_law_442 (by decide) ?_
  refine lv_istore (lv' := [(23, .int 0), (25, .int (-4)), (24, .int (a_high P (nI i) (S 2 i))), (0, .ref (G.1 1000)), (1, .ref (G.1 0)), (2, .ref (G.1 72)), (3, .ref (G.1 73)), (4, .int (nI (nPl P))), (5, .int (nI (nPe P))), (6, .int (nI T6)), (7, .int (nI c7)), (8, .int x8), (9, .int (nI D)), (10, .int (S 0 1)), (11, .int (S 0 0)), (12, .int (a_seatedPeople P S)), (13, .int (a_highAll P S)), (14, .int (S 0 2)), (15, .int (nI i)), (16, .int (nI k)), (17, .int (S 2 i)), (18, .int (a_load P S (nI k))), (19, .int (S 1 k)), (20, .int (b2i (!a_isUp P S (nI k)))), (21, .int (a_standing P S)), (22, .int (nI hw))]) hx hb dL_law_443 hl (by decide) rfl (fun ls hl => ?_)
  refine lv_iload hx hb dL_law_445 (lv_at hl 1 rfl) ?_
  refine lv_iload hx hb dL_law_447 (lv_at hl 0 rfl) ?_
  refine lv_if_eq (tgt := 457) hx hb dL_law_449 (by decide) (fun c_5 => ?_) (fun c_5 => absurd rfl c_5)
  refine lv_bipush (v := (-4)) hx hb dL_law_457 (by decide) ?_
  refine lv_icmp_ne (tgt := 512) hx hb dL_law_459 (by decide) (fun c_6 => absurd rfl c_6) (fun c_6 => ?_)
  refine lv_iload hx hb dL_law_462 (lv_at hl 0 rfl) ?_
  refine lv_if_eq (tgt := 514) hx hb dL_law_464 (by decide) (fun c_7 => ?_) (fun c_7 => absurd rfl c_7)
  refine lv_goto (tgt := 677) hx hb dL_law_514 (by decide) ?_
  exact kk v1 0 _ _ _ (E677_0 hJ) hP hS (lv_sub hl [3, 4, 5, 6, 7, 8, 9, 10, 11, 12, 13, 14, 15, 16, 17, 18, 19, 20, 21, 22, 0] rfl)
set_option maxHeartbeats 4000000 in
set_option maxRecDepth 100000 in
theorem seg_lace1 (ha : Amb p c cL_law 31 s args RL m meth (some .boolean) G 74) (hcs : cells ≤ room_1.cells ∧ slots ≤ room_1.slots) (P : PT) (Z : Nat → Int32) (K : KT) (S : PT) (D : Nat) (C : Nat → Int32) (x8 : Int32) (i : Nat) (k : Nat) (hw : Nat) (T6 : Nat) (c7 : Nat) {u : Mem} (hN : NV P Z) (hJ : J P Z K S D C u) (hD : D < 40) (hi : i < nPe P) (hk : k < nPl P) (hu : a_isUp P S (nI k) = true) (hP : va_P G.2.1 vwCl (wl G 74 (cX G u)) H) (hS : va_S (xA G 74 s.heap.size) s.heap H locs) (hl : lv_has ls 31 [(0, .ref (G.1 1000)), (1, .ref (G.1 0)), (2, .ref (G.1 72)), (3, .ref (G.1 73)), (4, .int (nI (nPl P))), (5, .int (nI (nPe P))), (6, .int (nI T6)), (7, .int (nI c7)), (8, .int x8), (9, .int (nI D)), (10, .int (S 0 1)), (11, .int (S 0 0)), (12, .int (a_seatedPeople P S)), (13, .int (a_highAll P S)), (14, .int (S 0 2)), (15, .int (nI i)), (16, .int (nI k)), (17, .int (S 2 i)), (18, .int (a_load P S (nI k))), (19, .int (S 1 k)), (20, .int (b2i (!a_isUp P S (nI k)))), (21, .int (a_standing P S)), (22, .int (nI hw)), (23, .int 1)])
    (kk : ∀ (v : Mem) (dn : Nat) (H : Heap) (locs : List Loc) (ls : Array Slot), (E677 P Z K S D C dn v) → va_P G.2.1 vwCl (wl G 74 (cX G v)) H → va_S (xA G 74 s.heap.size) s.heap H locs → lv_has ls 31 [(0, .ref (G.1 1000)), (1, .ref (G.1 0)), (2, .ref (G.1 72)), (3, .ref (G.1 73)), (4, .int (nI (nPl P))), (5, .int (nI (nPe P))), (6, .int (nI T6)), (7, .int (nI c7)), (8, .int x8), (9, .int (nI D)), (10, .int (S 0 1)), (11, .int (S 0 0)), (12, .int (a_seatedPeople P S)), (13, .int (a_highAll P S)), (14, .int (S 0 2)), (15, .int (nI i)), (16, .int (nI k)), (17, .int (S 2 i)), (18, .int (a_load P S (nI k))), (19, .int (S 1 k)), (23, .int (nI dn))] → W p l e room_1 s m args below meth c H locs cells slots Q (F0 m 677 ls [])) : W p l e room_1 s m args below meth c H locs cells slots Q (F0 m 524 ls []) := by
  have hx := ha.1
  have hb := ha.2.1
  obtain ⟨h4, h5⟩ := NV_45 hJ
  have hp0 := hN.1.1
  have hq0 := hN.1.2
  have hpb := (J_plan hJ).1
  have hpr := (J_plan hJ).2
  have hg := J_gs hJ
  refine lv_iload hx hb dL_law_524 (lv_at hl 20 rfl) ?_
  refine lv_if_ne (tgt := 533) hx hb dL_law_526 (by decide) (fun c_1 => absurd (by rw [hu]; rfl) c_1) (fun c_1 => ?_)
  refine lv_iconst (v := 1) hx hb dL_law_529 (by decide) ?_
  refine lv_goto (tgt := 534) hx hb dL_law_530 (by decide) ?_
  refine lv_istore (lv' := [(23, .int 1), (0, .ref (G.1 1000)), (1, .ref (G.1 0)), (2, .ref (G.1 72)), (3, .ref (G.1 73)), (4, .int (nI (nPl P))), (5, .int (nI (nPe P))), (6, .int (nI T6)), (7, .int (nI c7)), (8, .int x8), (9, .int (nI D)), (10, .int (S 0 1)), (11, .int (S 0 0)), (12, .int (a_seatedPeople P S)), (13, .int (a_highAll P S)), (14, .int (S 0 2)), (15, .int (nI i)), (16, .int (nI k)), (17, .int (S 2 i)), (18, .int (a_load P S (nI k))), (19, .int (S 1 k)), (20, .int (b2i (!a_isUp P S (nI k)))), (21, .int (a_standing P S)), (22, .int (nI hw))]) hx hb dL_law_534 hl (by decide) rfl (fun ls hl => ?_)
  refine lv_aload_n hx hb dL_law_536 rfl (lv_at hl 2 rfl) ?_
  refine lv_iload hx hb dL_law_537 (lv_at hl 17 rfl) ?_
  refine xVi ha hP hS (y := yX7_lace) (As := [.int (nI k)]) (rest := []) 0 (by decide) (cX_0 G _) rfl rfl (c_X7_lace G l u (nI k) (J_PO hJ)) kw_L_74 hd_X7_lace rfl ⟨rfl, rfl⟩ ⟨Nat.le_of_ble_eq_true rfl, Nat.le_of_ble_eq_true rfl⟩ hcs hl.1 (Nat.le_of_ble_eq_true rfl) rfl dL_law_539 (fun r_2 v1 H locs hpq hP hS => ?_)
  obtain ⟨hr_, hu_⟩ := hpq
  have hq_ := q_laceN1 hJ hD hk hu
  simp only [← hr_, ← hu_] at hq_
  clear hr_ hu_
  obtain ⟨h_r, ⟨C1, hC1, hJ⟩, rs⟩ := hq_
  subst h_r
  refine lv_iload hx hb dL_law_542 (lv_at hl 0 rfl) ?_
  refine lv_if_eq (tgt := 552) hx hb dL_law_544 (by decide) (fun c_3 => absurd c_3 (by decide)) (fun c_3 => ?_)
  refine lv_iload hx hb dL_law_547 (lv_at hl 20 rfl) ?_
  refine lv_goto (tgt := 554) hx hb dL_law_549 (by decide) ?_
  refine lv_icmp_ne (tgt := 576) hx hb dL_law_554 (by decide) (fun c_4 => absurd rfl c_4) (fun c_4 => ?_)
  refine lv_iload hx hb dL_law_557 (lv_at hl 0 rfl) ?_
  refine lv_if_eq (tgt := 677) hx hb dL_law_559 (by decide) (fun c_5 => absurd c_5 (by decide)) (fun c_5 => ?_)
  refine lv_aload_n hx hb dL_law_562 rfl (lv_at hl 2 rfl) ?_
  refine lv_aload_n hx hb dL_law_563 rfl (lv_at hl 2 rfl) ?_
  refine lv_iload hx hb dL_law_564 (lv_at hl 17 rfl) ?_
  refine lv_iconst (v := 3) hx hb dL_law_566 (by decide) ?_
  refine xVi ha hP hS (y := yX7_pole) (As := [.int (nI k), .int 3]) (rest := [.ref (G.1 0)]) 0 (by decide) (cX_0 G _) rfl rfl (c_X7_pole G l v1 (nI k) 3 (J_PO hJ)) kw_L_105 hd_X7_pole rfl ⟨rfl, rfl⟩ ⟨Nat.le_of_ble_eq_true rfl, Nat.le_of_ble_eq_true rfl⟩ hcs hl.1 (Nat.le_of_ble_eq_true rfl) rfl dL_law_567 (fun r_6 v2 H locs hpq hP hS => ?_)
  obtain ⟨hr_, hu_⟩ := hpq
  have hq_ := q_pole hJ (pole_nI hpb hk) (w := 3) (by decide)
  simp only [← hr_, ← hu_] at hq_
  clear hr_ hu_
  obtain ⟨h_r, t1, hJ, rs⟩ := hq_
  subst h_r
  refine xSi ha hP hS (y := yL_told) (As := [.ref (G.1 0), .int 1]) (rest := []) rfl (c_L_told1 G l v2  ) kw_L_101 hd_L_told rfl ⟨rfl, rfl⟩ ⟨Nat.le_of_ble_eq_true rfl, Nat.le_of_ble_eq_true rfl⟩ hcs hl.1 (Nat.le_of_ble_eq_true rfl) rfl dL_law_570 (fun r_7 v3 H locs hpq hP hS => ?_)
  obtain ⟨hr_, hu_⟩ := hpq
  have hu_ := hu_.symm
  subst hu_
  have hr_ := hr_.trans (t1.trans (lace_3 hpb hk))
  have hr_ := hr_.symm
  subst hr_
  refine lv_if_eq (tgt := 677) hx hb dL_law_573 (by decide) (fun c_8 => ?_) (fun c_8 => absurd rfl c_8)
  exact kk v2 1 _ _ _ (E677_1 hJ hC1 (and_same _)) hP hS (lv_sub hl [1, 2, 3, 4, 5, 6, 7, 8, 9, 10, 11, 12, 13, 14, 15, 16, 17, 18, 19, 20, 0] rfl)
set_option maxHeartbeats 4000000 in
set_option maxRecDepth 100000 in
theorem seg_lace0 (ha : Amb p c cL_law 31 s args RL m meth (some .boolean) G 74) (hcs : cells ≤ room_1.cells ∧ slots ≤ room_1.slots) (P : PT) (Z : Nat → Int32) (K : KT) (S : PT) (D : Nat) (C : Nat → Int32) (x8 : Int32) (i : Nat) (k : Nat) (hw : Nat) (T6 : Nat) (c7 : Nat) {u : Mem} (hN : NV P Z) (hJ : J P Z K S D C u) (hD : D < 40) (hi : i < nPe P) (hk : k < nPl P) (hu : ¬ a_isUp P S (nI k) = true) (hP : va_P G.2.1 vwCl (wl G 74 (cX G u)) H) (hS : va_S (xA G 74 s.heap.size) s.heap H locs) (hl : lv_has ls 31 [(0, .ref (G.1 1000)), (1, .ref (G.1 0)), (2, .ref (G.1 72)), (3, .ref (G.1 73)), (4, .int (nI (nPl P))), (5, .int (nI (nPe P))), (6, .int (nI T6)), (7, .int (nI c7)), (8, .int x8), (9, .int (nI D)), (10, .int (S 0 1)), (11, .int (S 0 0)), (12, .int (a_seatedPeople P S)), (13, .int (a_highAll P S)), (14, .int (S 0 2)), (15, .int (nI i)), (16, .int (nI k)), (17, .int (S 2 i)), (18, .int (a_load P S (nI k))), (19, .int (S 1 k)), (20, .int (b2i (!a_isUp P S (nI k)))), (21, .int (a_standing P S)), (22, .int (nI hw)), (23, .int 1)])
    (kk : ∀ (v : Mem) (dn : Nat) (H : Heap) (locs : List Loc) (ls : Array Slot), (E677 P Z K S D C dn v) → va_P G.2.1 vwCl (wl G 74 (cX G v)) H → va_S (xA G 74 s.heap.size) s.heap H locs → lv_has ls 31 [(0, .ref (G.1 1000)), (1, .ref (G.1 0)), (2, .ref (G.1 72)), (3, .ref (G.1 73)), (4, .int (nI (nPl P))), (5, .int (nI (nPe P))), (6, .int (nI T6)), (7, .int (nI c7)), (8, .int x8), (9, .int (nI D)), (10, .int (S 0 1)), (11, .int (S 0 0)), (12, .int (a_seatedPeople P S)), (13, .int (a_highAll P S)), (14, .int (S 0 2)), (15, .int (nI i)), (16, .int (nI k)), (17, .int (S 2 i)), (18, .int (a_load P S (nI k))), (19, .int (S 1 k)), (23, .int (nI dn))] → W p l e room_1 s m args below meth c H locs cells slots Q (F0 m 677 ls [])) : W p l e room_1 s m args below meth c H locs cells slots Q (F0 m 524 ls []) := by
  have hx := ha.1
  have hb := ha.2.1
  obtain ⟨h4, h5⟩ := NV_45 hJ
  have hp0 := hN.1.1
  have hq0 := hN.1.2
  have hpb := (J_plan hJ).1
  have hpr := (J_plan hJ).2
  have hg := J_gs hJ
  refine lv_iload hx hb dL_law_524 (lv_at hl 20 rfl) ?_
  refine lv_if_ne (tgt := 533) hx hb dL_law_526 (by decide) (fun c_1 => ?_) (fun c_1 => absurd c_1 (by rw [Bool.eq_false_iff.mpr hu]; decide))
  refine lv_iconst (v := 0) hx hb dL_law_533 (by decide) ?_
  refine lv_istore (lv' := [(23, .int 0), (0, .ref (G.1 1000)), (1, .ref (G.1 0)), (2, .ref (G.1 72)), (3, .ref (G.1 73)), (4, .int (nI (nPl P))), (5, .int (nI (nPe P))), (6, .int (nI T6)), (7, .int (nI c7)), (8, .int x8), (9, .int (nI D)), (10, .int (S 0 1)), (11, .int (S 0 0)), (12, .int (a_seatedPeople P S)), (13, .int (a_highAll P S)), (14, .int (S 0 2)), (15, .int (nI i)), (16, .int (nI k)), (17, .int (S 2 i)), (18, .int (a_load P S (nI k))), (19, .int (S 1 k)), (20, .int (b2i (!a_isUp P S (nI k)))), (21, .int (a_standing P S)), (22, .int (nI hw))]) hx hb dL_law_534 hl (by decide) rfl (fun ls hl => ?_)
  refine lv_aload_n hx hb dL_law_536 rfl (lv_at hl 2 rfl) ?_
  refine lv_iload hx hb dL_law_537 (lv_at hl 17 rfl) ?_
  refine xVi ha hP hS (y := yX7_lace) (As := [.int (nI k)]) (rest := []) 0 (by decide) (cX_0 G _) rfl rfl (c_X7_lace G l u (nI k) (J_PO hJ)) kw_L_74 hd_X7_lace rfl ⟨rfl, rfl⟩ ⟨Nat.le_of_ble_eq_true rfl, Nat.le_of_ble_eq_true rfl⟩ hcs hl.1 (Nat.le_of_ble_eq_true rfl) rfl dL_law_539 (fun r_2 v1 H locs hpq hP hS => ?_)
  obtain ⟨hr_, hu_⟩ := hpq
  rw [q_lace0 hJ (pole_nI hpb hk) hu] at hr_ hu_
  replace hu_ : v1 = u := hu_
  have hu_ := hu_.symm
  subst hu_
  have hr_ := hr_.trans rfl
  have hr_ := hr_.symm
  subst hr_
  refine lv_iload hx hb dL_law_542 (lv_at hl 0 rfl) ?_
  refine lv_if_eq (tgt := 552) hx hb dL_law_544 (by decide) (fun c_3 => ?_) (fun c_3 => absurd rfl c_3)
  refine lv_bipush (v := (-4)) hx hb dL_law_552 (by decide) ?_
  refine lv_icmp_ne (tgt := 576) hx hb dL_law_554 (by decide) (fun c_4 => absurd rfl c_4) (fun c_4 => ?_)
  refine lv_iload hx hb dL_law_557 (lv_at hl 0 rfl) ?_
  refine lv_if_eq (tgt := 677) hx hb dL_law_559 (by decide) (fun c_5 => ?_) (fun c_5 => absurd rfl c_5)
  exact kk u 0 _ _ _ (E677_0 hJ) hP hS (lv_sub hl [1, 2, 3, 4, 5, 6, 7, 8, 9, 10, 11, 12, 13, 14, 15, 16, 17, 18, 19, 20, 0] rfl)
set_option maxHeartbeats 4000000 in
set_option maxRecDepth 100000 in
theorem seg_stone (ha : Amb p c cL_law 31 s args RL m meth (some .boolean) G 74) (hcs : cells ≤ room_1.cells ∧ slots ≤ room_1.slots) (P : PT) (Z : Nat → Int32) (K : KT) (S : PT) (D : Nat) (C : Nat → Int32) (x8 : Int32) (i : Nat) (k : Nat) (hw : Nat) (T6 : Nat) (c7 : Nat) {u : Mem} (hN : NV P Z) (hJ : J P Z K S D C u) (hD : D < 40) (hi : i < nPe P) (hk : k < nPl P) (hP : va_P G.2.1 vwCl (wl G 74 (cX G u)) H) (hS : va_S (xA G 74 s.heap.size) s.heap H locs) (hl : lv_has ls 31 [(0, .ref (G.1 1000)), (1, .ref (G.1 0)), (2, .ref (G.1 72)), (3, .ref (G.1 73)), (4, .int (nI (nPl P))), (5, .int (nI (nPe P))), (6, .int (nI T6)), (7, .int (nI c7)), (8, .int x8), (9, .int (nI D)), (10, .int (S 0 1)), (11, .int (S 0 0)), (12, .int (a_seatedPeople P S)), (13, .int (a_highAll P S)), (14, .int (S 0 2)), (15, .int (nI i)), (16, .int (nI k)), (17, .int (S 2 i)), (18, .int (a_load P S (nI k))), (19, .int (S 1 k)), (20, .int (b2i (!a_isUp P S (nI k)))), (21, .int (a_standing P S)), (22, .int (nI hw)), (23, .int 1)])
    (kk : ∀ (v : Mem) (dn : Nat) (H : Heap) (locs : List Loc) (ls : Array Slot), (E677 P Z K S D C dn v) → va_P G.2.1 vwCl (wl G 74 (cX G v)) H → va_S (xA G 74 s.heap.size) s.heap H locs → lv_has ls 31 [(0, .ref (G.1 1000)), (1, .ref (G.1 0)), (2, .ref (G.1 72)), (3, .ref (G.1 73)), (4, .int (nI (nPl P))), (5, .int (nI (nPe P))), (6, .int (nI T6)), (7, .int (nI c7)), (8, .int x8), (9, .int (nI D)), (10, .int (S 0 1)), (11, .int (S 0 0)), (12, .int (a_seatedPeople P S)), (13, .int (a_highAll P S)), (14, .int (S 0 2)), (15, .int (nI i)), (16, .int (nI k)), (17, .int (S 2 i)), (18, .int (a_load P S (nI k))), (19, .int (S 1 k)), (23, .int (nI dn))] → W p l e room_1 s m args below meth c H locs cells slots Q (F0 m 677 ls [])) : W p l e room_1 s m args below meth c H locs cells slots Q (F0 m 585 ls []) := by
  have hx := ha.1
  have hb := ha.2.1
  obtain ⟨h4, h5⟩ := NV_45 hJ
  have hp0 := hN.1.1
  have hq0 := hN.1.2
  have hpb := (J_plan hJ).1
  have hpr := (J_plan hJ).2
  have hg := J_gs hJ
  refine lv_aload_n hx hb dL_law_585 rfl (lv_at hl 1 rfl) ?_
  refine xVi ha hP hS (y := yX7_stone) (As := []) (rest := []) 0 (by decide) (cX_0 G _) rfl rfl (c_X7_stone G l u  (J_PO hJ)) kw_L_77 hd_X7_stone rfl ⟨rfl, rfl⟩ ⟨Nat.le_of_ble_eq_true rfl, Nat.le_of_ble_eq_true rfl⟩ hcs hl.1 (Nat.le_of_ble_eq_true rfl) rfl dL_law_586 (fun r_1 v1 H locs hpq hP hS => ?_)
  obtain ⟨hr_, hu_⟩ := hpq
  have hq_ := q_stone hJ hD hp0
  simp only [← hr_, ← hu_] at hq_
  clear hr_ hu_
  obtain ⟨h_r, ⟨C1, hC1, hJ⟩, rs⟩ := hq_
  subst h_r
  refine lv_iload hx hb dL_law_589 (lv_at hl 14 rfl) ?_
  refine lv_iconst (v := 1) hx hb dL_law_591 (by decide) ?_
  refine lv_iadd hx hb dL_law_592 ?_
  refine lv_icmp_eq (tgt := 677) hx hb dL_law_593 (by decide) (fun c_2 => ?_) (fun c_2 => absurd rfl c_2)
  exact kk v1 1 _ _ _ (E677_1 hJ hC1 (by rw [dStone_0]; exact and_same _)) hP hS (lv_sub hl [0, 1, 2, 3, 4, 5, 6, 7, 8, 9, 10, 11, 12, 13, 14, 15, 16, 17, 18, 19, 23] rfl)
set_option maxHeartbeats 4000000 in
set_option maxRecDepth 100000 in
theorem seg_year (ha : Amb p c cL_law 31 s args RL m meth (some .boolean) G 74) (hcs : cells ≤ room_1.cells ∧ slots ≤ room_1.slots) (P : PT) (Z : Nat → Int32) (K : KT) (S : PT) (D : Nat) (C : Nat → Int32) (x8 : Int32) (i : Nat) (k : Nat) (hw : Nat) (T6 : Nat) (c7 : Nat) {u : Mem} (hN : NV P Z) (hJ : J P Z K S D C u) (hD : D < 40) (hi : i < nPe P) (hk : k < nPl P) (hP : va_P G.2.1 vwCl (wl G 74 (cX G u)) H) (hS : va_S (xA G 74 s.heap.size) s.heap H locs) (hl : lv_has ls 31 [(0, .ref (G.1 1000)), (1, .ref (G.1 0)), (2, .ref (G.1 72)), (3, .ref (G.1 73)), (4, .int (nI (nPl P))), (5, .int (nI (nPe P))), (6, .int (nI T6)), (7, .int (nI c7)), (8, .int x8), (9, .int (nI D)), (10, .int (S 0 1)), (11, .int (S 0 0)), (12, .int (a_seatedPeople P S)), (13, .int (a_highAll P S)), (14, .int (S 0 2)), (15, .int (nI i)), (16, .int (nI k)), (17, .int (S 2 i)), (18, .int (a_load P S (nI k))), (19, .int (S 1 k)), (20, .int (b2i (!a_isUp P S (nI k)))), (21, .int (a_standing P S)), (22, .int (nI hw)), (23, .int 1)])
    (kk : ∀ (v : Mem) (dn : Nat) (H : Heap) (locs : List Loc) (ls : Array Slot), (E677 P Z K S D C dn v) → va_P G.2.1 vwCl (wl G 74 (cX G v)) H → va_S (xA G 74 s.heap.size) s.heap H locs → lv_has ls 31 [(0, .ref (G.1 1000)), (1, .ref (G.1 0)), (2, .ref (G.1 72)), (3, .ref (G.1 73)), (4, .int (nI (nPl P))), (5, .int (nI (nPe P))), (6, .int (nI T6)), (7, .int (nI c7)), (8, .int x8), (9, .int (nI D)), (10, .int (S 0 1)), (11, .int (S 0 0)), (12, .int (a_seatedPeople P S)), (13, .int (a_highAll P S)), (14, .int (S 0 2)), (15, .int (nI i)), (16, .int (nI k)), (17, .int (S 2 i)), (18, .int (a_load P S (nI k))), (19, .int (S 1 k)), (23, .int (nI dn))] → W p l e room_1 s m args below meth c H locs cells slots Q (F0 m 677 ls [])) : W p l e room_1 s m args below meth c H locs cells slots Q (F0 m 598 ls []) := by
  have hx := ha.1
  have hb := ha.2.1
  obtain ⟨h4, h5⟩ := NV_45 hJ
  have hp0 := hN.1.1
  have hq0 := hN.1.2
  have hpb := (J_plan hJ).1
  have hpr := (J_plan hJ).2
  have hg := J_gs hJ
  refine lv_aload_n hx hb dL_law_598 rfl (lv_at hl 1 rfl) ?_
  refine lv_iconst (v := (nI 1)) hx hb dL_law_599 (by decide) ?_
  refine xVi ha hP hS (y := yX7_later) (As := [.int (nI 1)]) (rest := []) 0 (by decide) (cX_0 G _) rfl rfl (c_X7_later G l u (nI 1) (J_PO hJ)) kw_L_111 hd_X7_later rfl ⟨rfl, rfl⟩ ⟨Nat.le_of_ble_eq_true rfl, Nat.le_of_ble_eq_true rfl⟩ hcs hl.1 (Nat.le_of_ble_eq_true rfl) rfl dL_law_600 (fun r_1 v1 H locs hpq hP hS => ?_)
  obtain ⟨hr_, hu_⟩ := hpq
  have hq_ := q_later hJ hp0 (n := 1) (by decide)
  simp only [← hr_, ← hu_] at hq_
  clear hr_ hu_
  obtain ⟨h_r, t1, hJ, rs⟩ := hq_
  subst h_r
  refine lv_istore (lv' := [(24, .int (a_highAll P (yrs P S 1))), (0, .ref (G.1 1000)), (1, .ref (G.1 0)), (2, .ref (G.1 72)), (3, .ref (G.1 73)), (4, .int (nI (nPl P))), (5, .int (nI (nPe P))), (6, .int (nI T6)), (7, .int (nI c7)), (8, .int x8), (9, .int (nI D)), (10, .int (S 0 1)), (11, .int (S 0 0)), (12, .int (a_seatedPeople P S)), (13, .int (a_highAll P S)), (14, .int (S 0 2)), (15, .int (nI i)), (16, .int (nI k)), (17, .int (S 2 i)), (18, .int (a_load P S (nI k))), (19, .int (S 1 k)), (20, .int (b2i (!a_isUp P S (nI k)))), (21, .int (a_standing P S)), (22, .int (nI hw)), (23, .int 1)]) hx hb dL_law_603 hl (by decide) rfl (fun ls hl => ?_)
  refine lv_aload_n hx hb dL_law_605 rfl (lv_at hl 2 rfl) ?_
  refine xVi ha hP hS (y := yX7_year) (As := []) (rest := []) 0 (by decide) (cX_0 G _) rfl rfl (c_X7_year G l v1  (J_PO hJ)) kw_L_84 hd_X7_year rfl ⟨rfl, rfl⟩ ⟨Nat.le_of_ble_eq_true rfl, Nat.le_of_ble_eq_true rfl⟩ hcs hl.1 (Nat.le_of_ble_eq_true rfl) rfl dL_law_606 (fun r_2 v2 H locs hpq hP hS => ?_)
  obtain ⟨hr_, hu_⟩ := hpq
  have hq_ := q_year hJ hD hp0
  simp only [← hr_, ← hu_] at hq_
  clear hr_ hu_
  obtain ⟨h_r, ⟨C1, hC1, hJ⟩, rs⟩ := hq_
  subst h_r
  refine lv_istore (lv' := [(25, .int (y_gave P S)), (24, .int (a_highAll P (yrs P S 1))), (0, .ref (G.1 1000)), (1, .ref (G.1 0)), (2, .ref (G.1 72)), (3, .ref (G.1 73)), (4, .int (nI (nPl P))), (5, .int (nI (nPe P))), (6, .int (nI T6)), (7, .int (nI c7)), (8, .int x8), (9, .int (nI D)), (10, .int (S 0 1)), (11, .int (S 0 0)), (12, .int (a_seatedPeople P S)), (13, .int (a_highAll P S)), (14, .int (S 0 2)), (15, .int (nI i)), (16, .int (nI k)), (17, .int (S 2 i)), (18, .int (a_load P S (nI k))), (19, .int (S 1 k)), (20, .int (b2i (!a_isUp P S (nI k)))), (21, .int (a_standing P S)), (22, .int (nI hw)), (23, .int 1)]) hx hb dL_law_609 hl (by decide) rfl (fun ls hl => ?_)
  refine lv_iload hx hb dL_law_611 (lv_at hl 0 rfl) ?_
  refine lv_iconst (v := 1) hx hb dL_law_613 (by decide) ?_
  refine lv_iload hx hb dL_law_614 (lv_at hl 6 rfl) ?_
  refine lv_ishl hx hb dL_law_616 ?_
  refine lv_iconst (v := 1) hx hb dL_law_617 (by decide) ?_
  refine lv_isub hx hb dL_law_618 ?_
  refine lv_iload hx hb dL_law_619 (lv_at hl 13 rfl) ?_
  refine lv_iconst (v := (-1)) hx hb dL_law_621 (by decide) ?_
  refine lv_ixor hx hb dL_law_622 ?_
  refine lv_iand hx hb dL_law_623 ?_
  refine lv_iload hx hb dL_law_624 (lv_at hl 23 rfl) ?_
  refine lv_iconst (v := (-1)) hx hb dL_law_626 (by decide) ?_
  refine lv_ixor hx hb dL_law_627 ?_
  refine lv_iand hx hb dL_law_628 ?_
  refine lv_icmp_ne (tgt := 675) hx hb dL_law_629 (by decide) (fun c_3 => absurd ((gave_set hg).symm) c_3) (fun c_3 => ?_)
  refine lv_aload_n hx hb dL_law_632 rfl (lv_at hl 3 rfl) ?_
  refine lv_iconst (v := 4) hx hb dL_law_633 (by decide) ?_
  refine xVi ha hP hS (y := yX7_count) (As := [.int 4]) (rest := []) 0 (by decide) (cX_0 G _) rfl rfl (c_X7_count G l v2 4 (J_PO hJ)) kw_L_42 hd_X7_count rfl ⟨rfl, rfl⟩ ⟨Nat.le_of_ble_eq_true rfl, Nat.le_of_ble_eq_true rfl⟩ hcs hl.1 (Nat.le_of_ble_eq_true rfl) rfl dL_law_634 (fun r_4 v3 H locs hpq hP hS => ?_)
  obtain ⟨hr_, hu_⟩ := hpq
  have hu_ := hu_.symm
  subst hu_
  have hr_ := hr_.trans (q_c4 hJ)
  have hr_ := hr_.symm
  subst hr_
  refine lv_iload hx hb dL_law_637 (lv_at hl 13 rfl) ?_
  refine lv_iload hx hb dL_law_639 (lv_at hl 0 rfl) ?_
  refine lv_ior hx hb dL_law_641 ?_
  refine lv_icmp_ne (tgt := 675) hx hb dL_law_642 (by decide) (fun c_5 => absurd (dYear_0 P S) c_5) (fun c_5 => ?_)
  refine lv_aload_n hx hb dL_law_645 rfl (lv_at hl 3 rfl) ?_
  refine lv_iconst (v := 3) hx hb dL_law_646 (by decide) ?_
  refine xVi ha hP hS (y := yX7_count) (As := [.int 3]) (rest := []) 0 (by decide) (cX_0 G _) rfl rfl (c_X7_count G l v2 3 (J_PO hJ)) kw_L_42 hd_X7_count rfl ⟨rfl, rfl⟩ ⟨Nat.le_of_ble_eq_true rfl, Nat.le_of_ble_eq_true rfl⟩ hcs hl.1 (Nat.le_of_ble_eq_true rfl) rfl dL_law_647 (fun r_6 v4 H locs hpq hP hS => ?_)
  obtain ⟨hr_, hu_⟩ := hpq
  have hu_ := hu_.symm
  subst hu_
  have hr_ := hr_.trans (q_c3 hJ)
  have hr_ := hr_.symm
  subst hr_
  refine lv_iload hx hb dL_law_650 (lv_at hl 12 rfl) ?_
  refine lv_iconst (v := 1) hx hb dL_law_652 (by decide) ?_
  refine lv_iadd hx hb dL_law_653 ?_
  refine lv_icmp_ne (tgt := 675) hx hb dL_law_654 (by decide) (fun c_7 => absurd (dYear_1 P S) c_7) (fun c_7 => ?_)
  refine lv_aload_n hx hb dL_law_657 rfl (lv_at hl 3 rfl) ?_
  refine lv_bipush (v := 6) hx hb dL_law_658 (by decide) ?_
  refine xVi ha hP hS (y := yX7_count) (As := [.int 6]) (rest := []) 0 (by decide) (cX_0 G _) rfl rfl (c_X7_count G l v2 6 (J_PO hJ)) kw_L_42 hd_X7_count rfl ⟨rfl, rfl⟩ ⟨Nat.le_of_ble_eq_true rfl, Nat.le_of_ble_eq_true rfl⟩ hcs hl.1 (Nat.le_of_ble_eq_true rfl) rfl dL_law_660 (fun r_8 v5 H locs hpq hP hS => ?_)
  obtain ⟨hr_, hu_⟩ := hpq
  have hu_ := hu_.symm
  subst hu_
  have hr_ := hr_.trans (q_c6 hJ)
  have hr_ := hr_.symm
  subst hr_
  refine lv_iload hx hb dL_law_663 (lv_at hl 1 rfl) ?_
  refine lv_icmp_ne (tgt := 675) hx hb dL_law_665 (by decide) (fun c_9 => absurd rfl c_9) (fun c_9 => ?_)
  refine lv_iload hx hb dL_law_668 (lv_at hl 1 rfl) ?_
  refine lv_iload hx hb dL_law_670 (lv_at hl 15 rfl) ?_
  refine lv_icmp_le (tgt := 677) hx hb dL_law_672 (by decide) (fun c_10 => ?_) (fun c_10 => absurd (i_leI (year_high hg)) c_10)
  exact kk v2 1 _ _ _ (E677_1 hJ hC1 (by rw [dYear_0]; exact or_and_same _ _)) hP hS (lv_sub hl [2, 3, 4, 5, 6, 7, 8, 9, 10, 11, 12, 13, 14, 15, 16, 17, 18, 19, 20, 21, 25] rfl)
end SC02

