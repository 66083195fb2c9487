
theorem hd_L_many : kHd yL_many 1 := by decide +kernel
theorem hd_X7_best : kHd yX7_best 1 := by decide +kernel
theorem hd_X7_fewest : kHd yX7_fewest 0 := by decide +kernel
theorem hd_X7_keep : kHd yX7_keep 1 := by decide +kernel
theorem hd_X7_lay : kHd yX7_lay 3 := by decide +kernel
theorem hd_X7_row : kHd yX7_row 2 := by decide +kernel
theorem hd_X7_seated : kHd yX7_seated 1 := by decide +kernel
theorem kw_L_95 : ∀ w ∈ k5V RL 95 yX7_keep cX7_keep 3 (some .int), w ∈ TB := tb_ins (by decide +kernel)
theorem kw_L_122 : ∀ w ∈ k5V RL 122 yX7_best cX7_best 3 (some .int), w ∈ TB := tb_ins (by decide +kernel)
theorem kw_L_125 : ∀ w ∈ k5V RL 125 yX7_seated cX7_seated 5 (some .int), w ∈ TB := tb_ins (by decide +kernel)
theorem kw_L_128 : ∀ w ∈ k5V RL 128 yX7_fewest cX7_fewest 1 (some .int), w ∈ TB := tb_ins (by decide +kernel)
theorem kw_L_131 : ∀ w ∈ k5S RL 131 yL_many cL_many 3 (some .int), w ∈ TB := tb_ins (by decide +kernel)
theorem kw_L_134 : ∀ w ∈ k5V RL 134 yX7_row cX7_row 3 (some .int), w ∈ TB := tb_ins (by decide +kernel)
theorem kw_L_137 : ∀ w ∈ k5V RL 137 yX7_lay cX7_lay 7 (some .int), w ∈ TB := tb_ins (by decide +kernel)
section SC05
variable {p : Program} {l : Launch} {e : Env} {s : State} {m : MethodId} {args : Array Value} {below : List Frame} {meth : Method} {c : Code} {H : Heap} {locs : List Loc} {cells slots : Nat} {Q : State → Prop} {ls : Array Slot} {G : GT}
set_option maxHeartbeats 4000000 in
set_option maxRecDepth 100000 in
theorem seg_1147 (ha : Amb p c cL_law 31 s args RL m meth (some .boolean) G 74) (hcs : cells ≤ room_1.cells ∧ slots ≤ room_1.slots) (P : PT) (Z : Nat → Int32) (K : KT) (S : PT) (D : Nat) (C : Nat → Int32) {u : Mem} (hN : NV P Z) (hJ : J P Z K S D C u) (hP : va_P G.2.1 vwCl (wl G 74 (cX G u)) H) (hS : va_S (xA G 74 s.heap.size) s.heap H locs) (hl : lv_has ls 31 [(0, .ref (G.1 1000)), (1, .ref (G.1 0)), (2, .ref (G.1 72)), (3, .ref (G.1 73)), (4, .int (nI (nPl P))), (5, .int (nI (nPe P)))])
    (kk : ∀ (v : Mem)  (H : Heap) (locs : List Loc) (ls : Array Slot), (J P Z (kAt K 1 D C) S D C v) → va_P G.2.1 vwCl (wl G 74 (cX G v)) H → va_S (xA G 74 s.heap.size) s.heap H locs → lv_has ls 31 [(0, .ref (G.1 1000)), (1, .ref (G.1 0)), (2, .ref (G.1 72)), (3, .ref (G.1 73)), (4, .int (nI (nPl P))), (5, .int (nI (nPe P))), (7, .int (nI D)), (8, .int (S 0 0)), (9, .int (a_highAll P S)), (10, .int ((1 <<< (nI (nPl P) &&& 31)) - 1)), (11, .int (a_standing P S))] → W p l e room_1 s m args below meth c H locs cells slots Q (F0 m 1244 ls [])) : W p l e room_1 s m args below meth c H locs cells slots Q (F0 m 1147 ls []) := by
  have hx := ha.1
  have hb := ha.2.1
  obtain ⟨h4, h5⟩ := NV_45 hJ
  have hp0 := hN.1.1
  have hq0 := hN.1.2
  have hpb := (J_plan hJ).1
  have hpr := (J_plan hJ).2
  have hg := J_gs hJ
  refine lv_aload_n hx hb dL_law_1147 rfl (lv_at hl 1 rfl) ?_
  refine lv_iconst (v := 2) hx hb dL_law_1148 (by decide) ?_
  refine xVi ha hP hS (y := yX7_count) (As := [.int 2]) (rest := []) 0 (by decide) (cX_0 G _) rfl rfl (c_X7_count G l u 2 (J_PO hJ)) kw_L_42 hd_X7_count rfl ⟨rfl, rfl⟩ ⟨Nat.le_of_ble_eq_true rfl, Nat.le_of_ble_eq_true rfl⟩ hcs hl.1 (Nat.le_of_ble_eq_true rfl) rfl dL_law_1149 (fun r_1 v1 H locs hpq hP hS => ?_)
  obtain ⟨hr_, hu_⟩ := hpq
  have hu_ := hu_.symm
  subst hu_
  have hr_ := hr_.trans (q_c2 hJ)
  have hr_ := hr_.symm
  subst hr_
  refine lv_istore (lv' := [(7, .int (nI D)), (0, .ref (G.1 1000)), (1, .ref (G.1 0)), (2, .ref (G.1 72)), (3, .ref (G.1 73)), (4, .int (nI (nPl P))), (5, .int (nI (nPe P)))]) hx hb dL_law_1152 hl (by decide) rfl (fun ls hl => ?_)
  refine lv_aload_n hx hb dL_law_1154 rfl (lv_at hl 2 rfl) ?_
  refine lv_iconst (v := 4) hx hb dL_law_1155 (by decide) ?_
  refine xVi ha hP hS (y := yX7_count) (As := [.int 4]) (rest := []) 0 (by decide) (cX_0 G _) rfl rfl (c_X7_count G l u 4 (J_PO hJ)) kw_L_42 hd_X7_count rfl ⟨rfl, rfl⟩ ⟨Nat.le_of_ble_eq_true rfl, Nat.le_of_ble_eq_true rfl⟩ hcs hl.1 (Nat.le_of_ble_eq_true rfl) rfl dL_law_1156 (fun r_2 v2 H locs hpq hP hS => ?_)
  obtain ⟨hr_, hu_⟩ := hpq
  have hu_ := hu_.symm
  subst hu_
  have hr_ := hr_.trans (q_c4 hJ)
  have hr_ := hr_.symm
  subst hr_
  refine lv_istore (lv' := [(8, .int (S 0 0)), (7, .int (nI D)), (0, .ref (G.1 1000)), (1, .ref (G.1 0)), (2, .ref (G.1 72)), (3, .ref (G.1 73)), (4, .int (nI (nPl P))), (5, .int (nI (nPe P)))]) hx hb dL_law_1159 hl (by decide) rfl (fun ls hl => ?_)
  refine lv_aload_n hx hb dL_law_1161 rfl (lv_at hl 3 rfl) ?_
  refine lv_bipush (v := 6) hx hb dL_law_1162 (by decide) ?_
  refine xVi ha hP hS (y := yX7_count) (As := [.int 6]) (rest := []) 0 (by decide) (cX_0 G _) rfl rfl (c_X7_count G l u 6 (J_PO hJ)) kw_L_42 hd_X7_count rfl ⟨rfl, rfl⟩ ⟨Nat.le_of_ble_eq_true rfl, Nat.le_of_ble_eq_true rfl⟩ hcs hl.1 (Nat.le_of_ble_eq_true rfl) rfl dL_law_1164 (fun r_3 v3 H locs hpq hP hS => ?_)
  obtain ⟨hr_, hu_⟩ := hpq
  have hu_ := hu_.symm
  subst hu_
  have hr_ := hr_.trans (q_c6 hJ)
  have hr_ := hr_.symm
  subst hr_
  refine lv_istore (lv' := [(9, .int (a_highAll P S)), (8, .int (S 0 0)), (7, .int (nI D)), (0, .ref (G.1 1000)), (1, .ref (G.1 0)), (2, .ref (G.1 72)), (3, .ref (G.1 73)), (4, .int (nI (nPl P))), (5, .int (nI (nPe P)))]) hx hb dL_law_1167 hl (by decide) rfl (fun ls hl => ?_)
  refine lv_iconst (v := 1) hx hb dL_law_1169 (by decide) ?_
  refine lv_iload hx hb dL_law_1170 (lv_at hl 7 rfl) ?_
  refine lv_ishl hx hb dL_law_1172 ?_
  refine lv_iconst (v := 1) hx hb dL_law_1173 (by decide) ?_
  refine lv_isub hx hb dL_law_1174 ?_
  refine lv_istore (lv' := [(10, .int ((1 <<< ((nI (nPl P)) &&& 31)) - 1)), (9, .int (a_highAll P S)), (8, .int (S 0 0)), (7, .int (nI D)), (0, .ref (G.1 1000)), (1, .ref (G.1 0)), (2, .ref (G.1 72)), (3, .ref (G.1 73)), (4, .int (nI (nPl P))), (5, .int (nI (nPe P)))]) hx hb dL_law_1175 hl (by decide) rfl (fun ls hl => ?_)
  refine lv_aload_n hx hb dL_law_1177 rfl (lv_at hl 5 rfl) ?_
  refine lv_iconst (v := (nI 1)) hx hb dL_law_1178 (by decide) ?_
  refine xVi ha hP hS (y := yX7_keep) (As := [.int (nI 1)]) (rest := []) 0 (by decide) (cX_0 G _) rfl rfl (c_X7_keep G l u (nI 1) ) kw_L_95 hd_X7_keep rfl ⟨rfl, rfl⟩ ⟨Nat.le_of_ble_eq_true rfl, Nat.le_of_ble_eq_true rfl⟩ hcs hl.1 (Nat.le_of_ble_eq_true rfl) rfl dL_law_1179 (fun r_4 v4 H locs hpq hP hS => ?_)
  obtain ⟨hr_, hu_⟩ := hpq
  have hq_ := q_keep hJ hp0 (k := 1) (by decide)
  simp only [← hr_, ← hu_] at hq_
  clear hr_ hu_
  obtain ⟨h_r, hJ, rs⟩ := hq_
  subst h_r
  refine lv_iload hx hb dL_law_1182 (lv_at hl 3 rfl) ?_
  refine lv_icmp_eq (tgt := 1189) hx hb dL_law_1184 (by decide) (fun c_5 => ?_) (fun c_5 => absurd rfl c_5)
  refine lv_aload_n hx hb dL_law_1189 rfl (lv_at hl 5 rfl) ?_
  refine xVi ha hP hS (y := yX7_holds) (As := []) (rest := []) 0 (by decide) (cX_0 G _) rfl rfl (c_X7_holds G l v4  (J_PO hJ)) kw_L_108 hd_X7_holds rfl ⟨rfl, rfl⟩ ⟨Nat.le_of_ble_eq_true rfl, Nat.le_of_ble_eq_true rfl⟩ hcs hl.1 (Nat.le_of_ble_eq_true rfl) rfl dL_law_1190 (fun r_6 v5 H locs hpq hP hS => ?_)
  obtain ⟨hr_, hu_⟩ := hpq
  have hq_ := q_holds hJ hp0
  simp only [← hr_, ← hu_] at hq_
  clear hr_ hu_
  obtain ⟨h_r, t1, hJ, rs⟩ := hq_
  subst h_r
  refine lv_istore (lv' := [(11, .int (a_standing P S)), (10, .int ((1 <<< ((nI (nPl P)) &&& 31)) - 1)), (9, .int (a_highAll P S)), (8, .int (S 0 0)), (7, .int (nI D)), (0, .ref (G.1 1000)), (1, .ref (G.1 0)), (2, .ref (G.1 72)), (3, .ref (G.1 73)), (4, .int (nI (nPl P))), (5, .int (nI (nPe P)))]) hx hb dL_law_1193 hl (by decide) rfl (fun ls hl => ?_)
  refine lv_aload_n hx hb dL_law_1195 rfl (lv_at hl 6 rfl) ?_
  refine xVi ha hP hS (y := yX7_asked) (As := []) (rest := []) 0 (by decide) (cX_0 G _) rfl rfl (c_X7_asked G l v5  ) kw_L_119 hd_X7_asked rfl ⟨rfl, rfl⟩ ⟨Nat.le_of_ble_eq_true rfl, Nat.le_of_ble_eq_true rfl⟩ hcs hl.1 (Nat.le_of_ble_eq_true rfl) rfl dL_law_1196 (fun r_7 v6 H locs hpq hP hS => ?_)
  obtain ⟨hr_, hu_⟩ := hpq
  have hu_ := hu_.symm
  subst hu_
  have hr_ := hr_.trans t1
  have hr_ := hr_.symm
  subst hr_
  refine lv_istore (lv' := [(12, .int (a_excess P S)), (11, .int (a_standing P S)), (10, .int ((1 <<< ((nI (nPl P)) &&& 31)) - 1)), (9, .int (a_highAll P S)), (8, .int (S 0 0)), (7, .int (nI D)), (0, .ref (G.1 1000)), (1, .ref (G.1 0)), (2, .ref (G.1 72)), (3, .ref (G.1 73)), (4, .int (nI (nPl P))), (5, .int (nI (nPe P)))]) hx hb dL_law_1199 hl (by decide) rfl (fun ls hl => ?_)
  refine lv_iload hx hb dL_law_1201 (lv_at hl 1 rfl) ?_
  refine lv_iload hx hb dL_law_1203 (lv_at hl 4 rfl) ?_
  refine lv_iand hx hb dL_law_1205 ?_
  refine lv_if_ne (tgt := 1242) hx hb dL_law_1206 (by decide) (fun c_8 => absurd (hold_down hg) c_8) (fun c_8 => ?_)
  refine lv_iload hx hb dL_law_1209 (lv_at hl 0 rfl) ?_
  refine lv_if_lt (tgt := 1242) hx hb dL_law_1211 (by decide) (fun c_9 => absurd c_9 (nneg_i (excess_i hg).1)) (fun c_9 => ?_)
  refine lv_iload hx hb dL_law_1214 (lv_at hl 0 rfl) ?_
  have jn_1224_10 : ∀ (x : Int32), (x = (if a_excess P S = 0 then (1 : Int32) else 0)) → W p l e room_1 s m args below meth c H locs cells slots Q (F0 m 1224 ls [.int x]) := by
    intro x ex
    subst ex
    refine lv_iload hx hb dL_law_1224 (lv_at hl 1 rfl) ?_
    refine lv_iload hx hb dL_law_1226 (lv_at hl 4 rfl) ?_
    refine lv_ior hx hb dL_law_1228 ?_
    refine lv_iload hx hb dL_law_1229 (lv_at hl 2 rfl) ?_
    have jn_1239_11 : ∀ (x : Int32), (x = (if a_standing P S ||| S 0 0 = ((1 <<< (nI (nPl P) &&& 31)) - 1) then (1 : Int32) else 0)) → W p l e room_1 s m args below meth c H locs cells slots Q (F0 m 1239 ls [.int x, .int (if a_excess P S = 0 then (1 : Int32) else 0)]) := by
      intro x ex
      subst ex
      refine lv_icmp_eq (tgt := 1244) hx hb dL_law_1239 (by decide) (fun c_12 => ?_) (fun c_12 => absurd (flag_iff ((excess_i hg).2.trans (hold_all hg).symm)) c_12)
      exact kk v5  _ _ _ hJ hP hS (lv_sub hl [6, 7, 8, 9, 10, 11, 5, 4, 3, 2, 1] rfl)
    refine lv_icmp_ne (tgt := 1238) hx hb dL_law_1231 (by decide) (fun c_13 => ?_) (fun c_13 => ?_)
    · have hc_1231 := c_13
      refine lv_iconst (v := 0) hx hb dL_law_1238 (by decide) ?_
      exact jn_1239_11 _ ((if_neg hc_1231).symm)
    · have hc_1231 := c_13
      refine lv_iconst (v := 1) hx hb dL_law_1234 (by decide) ?_
      refine lv_goto (tgt := 1239) hx hb dL_law_1235 (by decide) ?_
      exact jn_1239_11 _ ((if_pos hc_1231).symm)
  refine lv_if_ne (tgt := 1223) hx hb dL_law_1216 (by decide) (fun c_14 => ?_) (fun c_14 => ?_)
  · have hc_1216 := c_14
    refine lv_iconst (v := 0) hx hb dL_law_1223 (by decide) ?_
    exact jn_1224_10 _ ((if_neg hc_1216).symm)
  · have hc_1216 := c_14
    refine lv_iconst (v := 1) hx hb dL_law_1219 (by decide) ?_
    refine lv_goto (tgt := 1224) hx hb dL_law_1220 (by decide) ?_
    exact jn_1224_10 _ ((if_pos hc_1216).symm)
set_option maxHeartbeats 4000000 in
set_option maxRecDepth 100000 in
theorem seg_1244 (ha : Amb p c cL_law 31 s args RL m meth (some .boolean) G 74) (hcs : cells ≤ room_1.cells ∧ slots ≤ room_1.slots) (P : PT) (Z : Nat → Int32) (K : KT) (S : PT) (D : Nat) (C : Nat → Int32) {u : Mem} (hN : NV P Z) (hJ : J P Z K S D C u) (hP : va_P G.2.1 vwCl (wl G 74 (cX G u)) H) (hS : va_S (xA G 74 s.heap.size) s.heap H locs) (hl : lv_has ls 31 [(0, .ref (G.1 1000)), (1, .ref (G.1 0)), (2, .ref (G.1 72)), (3, .ref (G.1 73)), (4, .int (nI (nPl P))), (5, .int (nI (nPe P))), (7, .int (nI D)), (8, .int (S 0 0)), (9, .int (a_highAll P S)), (10, .int ((1 <<< (nI (nPl P) &&& 31)) - 1)), (11, .int (a_standing P S))])
    (kk : ∀ (v : Mem) (b13 : Int32) (H : Heap) (locs : List Loc) (ls : Array Slot), (J P Z K S D C v) → (0 ≤ b13.toInt) → va_P G.2.1 vwCl (wl G 74 (cX G v)) H → va_S (xA G 74 s.heap.size) s.heap H locs → lv_has ls 31 [(0, .ref (G.1 1000)), (1, .ref (G.1 0)), (2, .ref (G.1 72)), (3, .ref (G.1 73)), (4, .int (nI (nPl P))), (5, .int (nI (nPe P))), (7, .int (nI D)), (8, .int (S 0 0)), (9, .int (a_highAll P S)), (10, .int ((1 <<< (nI (nPl P) &&& 31)) - 1)), (11, .int (a_standing P S)), (13, .int b13)] → W p l e room_1 s m args below meth c H locs cells slots Q (F0 m 1292 ls [])) : W p l e room_1 s m args below meth c H locs cells slots Q (F0 m 1244 ls []) := by
  have hx := ha.1
  have hb := ha.2.1
  obtain ⟨h4, h5⟩ := NV_45 hJ
  have hp0 := hN.1.1
  have hq0 := hN.1.2
  have hpb := (J_plan hJ).1
  have hpr := (J_plan hJ).2
  have hg := J_gs hJ
  refine lv_aload_n hx hb dL_law_1244 rfl (lv_at hl 1 rfl) ?_
  refine lv_iconst (v := (nI 0)) hx hb dL_law_1245 (by decide) ?_
  refine xVi ha hP hS (y := yX7_best) (As := [.int (nI 0)]) (rest := []) 0 (by decide) (cX_0 G _) rfl rfl (c_X7_best G l u (nI 0) (J_PO hJ)) kw_L_122 hd_X7_best rfl ⟨rfl, rfl⟩ ⟨Nat.le_of_ble_eq_true rfl, Nat.le_of_ble_eq_true rfl⟩ hcs hl.1 (Nat.le_of_ble_eq_true rfl) rfl dL_law_1246 (fun b13 v1 H locs hpq hP hS => ?_)
  obtain ⟨hr_, hu_⟩ := hpq
  have hq_ := q_best hJ hp0 (r := 0) (by decide)
  simp only [← hr_, ← hu_] at hq_
  clear hr_ hu_
  obtain ⟨sb, hB, hW, hJ⟩ := hq_
  refine lv_istore (lv' := [(13, .int b13), (0, .ref (G.1 1000)), (1, .ref (G.1 0)), (2, .ref (G.1 72)), (3, .ref (G.1 73)), (4, .int (nI (nPl P))), (5, .int (nI (nPe P))), (7, .int (nI D)), (8, .int (S 0 0)), (9, .int (a_highAll P S)), (10, .int ((1 <<< (nI (nPl P) &&& 31)) - 1)), (11, .int (a_standing P S))]) hx hb dL_law_1249 hl (by decide) rfl (fun ls hl => ?_)
  refine lv_aload_n hx hb dL_law_1251 rfl (lv_at hl 2 rfl) ?_
  refine lv_iconst (v := (nI 0)) hx hb dL_law_1252 (by decide) ?_
  refine xVi ha hP hS (y := yX7_seated) (As := [.int (nI 0)]) (rest := []) 0 (by decide) (cX_0 G _) rfl rfl (c_X7_seated G l v1 (nI 0) (J_PO hJ)) kw_L_125 hd_X7_seated rfl ⟨rfl, rfl⟩ ⟨Nat.le_of_ble_eq_true rfl, Nat.le_of_ble_eq_true rfl⟩ hcs hl.1 (Nat.le_of_ble_eq_true rfl) rfl dL_law_1253 (fun r_2 v2 H locs hpq hP hS => ?_)
  obtain ⟨hr_, hu_⟩ := hpq
  have hq_ := q_seated hJ hp0 (r := 0) (by decide) hW hB.1
  simp only [← hr_, ← hu_] at hq_
  clear hr_ hu_
  obtain ⟨h_r, t1, hJ, rs⟩ := hq_
  subst h_r
  refine lv_if_ne (tgt := 1290) hx hb dL_law_1256 (by decide) (fun c_3 => absurd hB.2.1 c_3) (fun c_3 => ?_)
  refine lv_aload_n hx hb dL_law_1259 rfl (lv_at hl 2 rfl) ?_
  refine xVi ha hP hS (y := yX7_asked) (As := []) (rest := []) 0 (by decide) (cX_0 G _) rfl rfl (c_X7_asked G l v2  ) kw_L_119 hd_X7_asked rfl ⟨rfl, rfl⟩ ⟨Nat.le_of_ble_eq_true rfl, Nat.le_of_ble_eq_true rfl⟩ hcs hl.1 (Nat.le_of_ble_eq_true rfl) rfl dL_law_1260 (fun r_4 v3 H locs hpq hP hS => ?_)
  obtain ⟨hr_, hu_⟩ := hpq
  have hu_ := hu_.symm
  subst hu_
  have hr_ := hr_.trans t1
  have hr_ := hr_.symm
  subst hr_
  refine lv_iload hx hb dL_law_1263 (lv_at hl 0 rfl) ?_
  refine lv_icmp_ne (tgt := 1290) hx hb dL_law_1265 (by decide) (fun c_5 => absurd hB.2.2.1 c_5) (fun c_5 => ?_)
  refine lv_iload hx hb dL_law_1268 (lv_at hl 0 rfl) ?_
  refine lv_if_lt (tgt := 1290) hx hb dL_law_1270 (by decide) (fun c_6 => absurd c_6 (nneg_i (best_pos' hg hB))) (fun c_6 => ?_)
  refine lv_iload hx hb dL_law_1273 (lv_at hl 11 rfl) ?_
  refine lv_iload hx hb dL_law_1275 (lv_at hl 8 rfl) ?_
  refine lv_ior hx hb dL_law_1277 ?_
  refine lv_iload hx hb dL_law_1278 (lv_at hl 10 rfl) ?_
  refine lv_icmp_ne (tgt := 1292) hx hb dL_law_1280 (by decide) (fun c_7 => ?_) (fun c_7 => ?_)
  · have hc_1280 := c_7
    exact kk v2 b13 _ _ _ hJ (best_pos' hg hB) hP hS (lv_sub hl [1, 2, 3, 4, 5, 6, 7, 8, 9, 10, 11, 0] rfl)
  · have hc_1280 := c_7
    refine lv_iload hx hb dL_law_1283 (lv_at hl 0 rfl) ?_
    refine lv_iload hx hb dL_law_1285 (lv_at hl 9 rfl) ?_
    refine lv_icmp_ge (tgt := 1292) hx hb dL_law_1287 (by decide) (fun c_8 => ?_) (fun c_8 => absurd (i_leI (i_nlt (best_ge hg hB ((hold_all hg).mp hc_1280)))) c_8)
    exact kk v2 b13 _ _ _ hJ (best_pos' hg hB) hP hS (lv_sub hl [1, 2, 3, 4, 5, 6, 7, 8, 9, 10, 11, 0] rfl)
set_option maxHeartbeats 4000000 in
set_option maxRecDepth 100000 in
theorem seg_1292 (ha : Amb p c cL_law 31 s args RL m meth (some .boolean) G 74) (hcs : cells ≤ room_1.cells ∧ slots ≤ room_1.slots) (P : PT) (Z : Nat → Int32) (K : KT) (S : PT) (D : Nat) (C : Nat → Int32) (b13 : Int32) {u : Mem} (hN : NV P Z) (hJ : J P Z K S D C u) (hP : va_P G.2.1 vwCl (wl G 74 (cX G u)) H) (hS : va_S (xA G 74 s.heap.size) s.heap H locs) (hl : lv_has ls 31 [(0, .ref (G.1 1000)), (1, .ref (G.1 0)), (2, .ref (G.1 72)), (3, .ref (G.1 73)), (4, .int (nI (nPl P))), (5, .int (nI (nPe P))), (7, .int (nI D)), (8, .int (S 0 0)), (9, .int (a_highAll P S)), (10, .int ((1 <<< (nI (nPl P) &&& 31)) - 1)), (11, .int (a_standing P S)), (13, .int b13)])
    (kk : ∀ (v : Mem) (fw w15 : Int32) (H : Heap) (locs : List Loc) (ls : Array Slot), (J P Z K S D C v) → (FewOf P S fw w15) → va_P G.2.1 vwCl (wl G 74 (cX G v)) H → va_S (xA G 74 s.heap.size) s.heap H locs → lv_has ls 31 [(0, .ref (G.1 1000)), (1, .ref (G.1 0)), (2, .ref (G.1 72)), (3, .ref (G.1 73)), (4, .int (nI (nPl P))), (5, .int (nI (nPe P))), (7, .int (nI D)), (8, .int (S 0 0)), (9, .int (a_highAll P S)), (10, .int ((1 <<< (nI (nPl P) &&& 31)) - 1)), (11, .int (a_standing P S)), (13, .int b13), (14, .int fw), (15, .int w15)] → W p l e room_1 s m args below meth c H locs cells slots Q (F0 m 1304 ls [])) : W p l e room_1 s m args below meth c H locs cells slots Q (F0 m 1292 ls []) := by
  have hx := ha.1
  have hb := ha.2.1
  obtain ⟨h4, h5⟩ := NV_45 hJ
  have hp0 := hN.1.1
  have hq0 := hN.1.2
  have hpb := (J_plan hJ).1
  have hpr := (J_plan hJ).2
  have hg := J_gs hJ
  refine lv_aload_n hx hb dL_law_1292 rfl (lv_at hl 1 rfl) ?_
  refine xVi ha hP hS (y := yX7_fewest) (As := []) (rest := []) 0 (by decide) (cX_0 G _) rfl rfl (c_X7_fewest G l u  (J_PO hJ)) kw_L_128 hd_X7_fewest rfl ⟨rfl, rfl⟩ ⟨Nat.le_of_ble_eq_true rfl, Nat.le_of_ble_eq_true rfl⟩ hcs hl.1 (Nat.le_of_ble_eq_true rfl) rfl dL_law_1293 (fun fw v1 H locs hpq hP hS => ?_)
  obtain ⟨hr_, hu_⟩ := hpq
  have hq_ := q_fewest hJ hp0 hq0
  simp only [← hr_, ← hu_] at hq_
  clear hr_ hu_
  obtain ⟨hF, hJ, rs⟩ := hq_
  refine lv_istore (lv' := [(14, .int fw), (0, .ref (G.1 1000)), (1, .ref (G.1 0)), (2, .ref (G.1 72)), (3, .ref (G.1 73)), (4, .int (nI (nPl P))), (5, .int (nI (nPe P))), (7, .int (nI D)), (8, .int (S 0 0)), (9, .int (a_highAll P S)), (10, .int ((1 <<< (nI (nPl P) &&& 31)) - 1)), (11, .int (a_standing P S)), (13, .int b13)]) hx hb dL_law_1296 hl (by decide) rfl (fun ls hl => ?_)
  refine lv_aload_n hx hb dL_law_1298 rfl (lv_at hl 2 rfl) ?_
  refine xVi ha hP hS (y := yX7_asked) (As := []) (rest := []) 0 (by decide) (cX_0 G _) rfl rfl (c_X7_asked G l v1  ) kw_L_119 hd_X7_asked rfl ⟨rfl, rfl⟩ ⟨Nat.le_of_ble_eq_true rfl, Nat.le_of_ble_eq_true rfl⟩ hcs hl.1 (Nat.le_of_ble_eq_true rfl) rfl dL_law_1299 (fun w15 v2 H locs hpq hP hS => ?_)
  obtain ⟨hr_, hu_⟩ := hpq
  have hu_ := hu_.symm
  subst hu_
  rw [← hr_] at hF
  clear hr_
  refine lv_istore (lv' := [(15, .int w15), (14, .int fw), (0, .ref (G.1 1000)), (1, .ref (G.1 0)), (2, .ref (G.1 72)), (3, .ref (G.1 73)), (4, .int (nI (nPl P))), (5, .int (nI (nPe P))), (7, .int (nI D)), (8, .int (S 0 0)), (9, .int (a_highAll P S)), (10, .int ((1 <<< (nI (nPl P) &&& 31)) - 1)), (11, .int (a_standing P S)), (13, .int b13)]) hx hb dL_law_1302 hl (by decide) rfl (fun ls hl => ?_)
  exact kk v1 fw w15 _ _ _ hJ hF hP hS (lv_sub hl [2, 3, 4, 5, 6, 7, 8, 9, 10, 11, 12, 13, 1, 0] rfl)
set_option maxHeartbeats 4000000 in
set_option maxRecDepth 100000 in
theorem seg_1304a (ha : Amb p c cL_law 31 s args RL m meth (some .boolean) G 74) (hcs : cells ≤ room_1.cells ∧ slots ≤ room_1.slots) (P : PT) (Z : Nat → Int32) (K : KT) (S : PT) (D : Nat) (C : Nat → Int32) (b13 : Int32) (w15 : Int32) {u : Mem} (hN : NV P Z) (hJ : J P Z K S D C u) (hb13 : 0 ≤ b13.toInt) (hP : va_P G.2.1 vwCl (wl G 74 (cX G u)) H) (hS : va_S (xA G 74 s.heap.size) s.heap H locs) (hl : lv_has ls 31 [(0, .ref (G.1 1000)), (1, .ref (G.1 0)), (2, .ref (G.1 72)), (3, .ref (G.1 73)), (4, .int (nI (nPl P))), (5, .int (nI (nPe P))), (7, .int (nI D)), (8, .int (S 0 0)), (9, .int (a_highAll P S)), (10, .int ((1 <<< (nI (nPl P) &&& 31)) - 1)), (11, .int (a_standing P S)), (13, .int b13), (14, .int (-9)), (15, .int w15)])
    (kk : ∀ (v : Mem)  (H : Heap) (locs : List Loc) (ls : Array Slot), (v = u) → va_P G.2.1 vwCl (wl G 74 (cX G v)) H → va_S (xA G 74 s.heap.size) s.heap H locs → lv_has ls 31 [(0, .ref (G.1 1000)), (1, .ref (G.1 0)), (2, .ref (G.1 72)), (3, .ref (G.1 73)), (4, .int (nI (nPl P))), (5, .int (nI (nPe P))), (7, .int (nI D)), (8, .int (S 0 0)), (9, .int (a_highAll P S)), (10, .int ((1 <<< (nI (nPl P) &&& 31)) - 1)), (11, .int (a_standing P S))] → W p l e room_1 s m args below meth c H locs cells slots Q (F0 m 1522 ls [])) : W p l e room_1 s m args below meth c H locs cells slots Q (F0 m 1304 ls []) := by
  have hx := ha.1
  have hb := ha.2.1
  obtain ⟨h4, h5⟩ := NV_45 hJ
  have hp0 := hN.1.1
  have hq0 := hN.1.2
  have hpb := (J_plan hJ).1
  have hpr := (J_plan hJ).2
  have hg := J_gs hJ
  refine lv_iload hx hb dL_law_1304 (lv_at hl 12 rfl) ?_
  refine lv_bipush (v := (-9)) hx hb dL_law_1306 (by decide) ?_
  refine lv_icmp_eq (tgt := 1342) hx hb dL_law_1308 (by decide) (fun c_1 => ?_) (fun c_1 => absurd rfl c_1)
  refine lv_iload hx hb dL_law_1342 (lv_at hl 12 rfl) ?_
  refine lv_bipush (v := (-9)) hx hb dL_law_1344 (by decide) ?_
  refine lv_icmp_ne (tgt := 1356) hx hb dL_law_1346 (by decide) (fun c_2 => absurd rfl c_2) (fun c_2 => ?_)
  refine lv_iload hx hb dL_law_1349 (lv_at hl 11 rfl) ?_
  refine lv_if_ge (tgt := 1356) hx hb dL_law_1351 (by decide) (fun c_3 => ?_) (fun c_3 => absurd (nn_le hb13) c_3)
  refine lv_iload hx hb dL_law_1356 (lv_at hl 12 rfl) ?_
  refine lv_if_le (tgt := 1522) hx hb dL_law_1358 (by decide) (fun c_4 => ?_) (fun c_4 => absurd (by decide) c_4)
  exact kk u  _ _ _ rfl hP hS (lv_sub hl [0, 1, 2, 3, 4, 5, 6, 7, 8, 9, 10] rfl)
set_option maxHeartbeats 4000000 in
set_option maxRecDepth 100000 in
theorem seg_1304b (ha : Amb p c cL_law 31 s args RL m meth (some .boolean) G 74) (hcs : cells ≤ room_1.cells ∧ slots ≤ room_1.slots) (P : PT) (Z : Nat → Int32) (K : KT) (S : PT) (D : Nat) (C : Nat → Int32) (b13 : Int32) (w : Nat → Bool) {u : Mem} (hN : NV P Z) (hJ : J P Z K S D C u) (hc1 : 1 ≤ cN w (nPl P)) (hwu : ∀ k, k < nPl P → w k = true → a_isUp P S (nI k) = true) (hP : va_P G.2.1 vwCl (wl G 74 (cX G u)) H) (hS : va_S (xA G 74 s.heap.size) s.heap H locs) (hl : lv_has ls 31 [(0, .ref (G.1 1000)), (1, .ref (G.1 0)), (2, .ref (G.1 72)), (3, .ref (G.1 73)), (4, .int (nI (nPl P))), (5, .int (nI (nPe P))), (7, .int (nI D)), (8, .int (S 0 0)), (9, .int (a_highAll P S)), (10, .int ((1 <<< (nI (nPl P) &&& 31)) - 1)), (11, .int (a_standing P S)), (13, .int b13), (14, .int (nI (cN w (nPl P)))), (15, .int (a_bits w (nPl P)))])
    (kk : ∀ (v : Mem)  (H : Heap) (locs : List Loc) (ls : Array Slot), (v = u) → va_P G.2.1 vwCl (wl G 74 (cX G v)) H → va_S (xA G 74 s.heap.size) s.heap H locs → lv_has ls 31 [(0, .ref (G.1 1000)), (1, .ref (G.1 0)), (2, .ref (G.1 72)), (3, .ref (G.1 73)), (4, .int (nI (nPl P))), (5, .int (nI (nPe P))), (7, .int (nI D)), (8, .int (S 0 0)), (9, .int (a_highAll P S)), (10, .int ((1 <<< (nI (nPl P) &&& 31)) - 1)), (11, .int (a_standing P S)), (15, .int (a_bits w (nPl P)))] → W p l e room_1 s m args below meth c H locs cells slots Q (F0 m 1361 ls [])) : W p l e room_1 s m args below meth c H locs cells slots Q (F0 m 1304 ls []) := by
  have hx := ha.1
  have hb := ha.2.1
  obtain ⟨h4, h5⟩ := NV_45 hJ
  have hp0 := hN.1.1
  have hq0 := hN.1.2
  have hpb := (J_plan hJ).1
  have hpr := (J_plan hJ).2
  have hg := J_gs hJ
  have hcl := cN_le w (nPl P)
  refine lv_iload hx hb dL_law_1304 (lv_at hl 12 rfl) ?_
  refine lv_bipush (v := (-9)) hx hb dL_law_1306 (by decide) ?_
  refine lv_icmp_eq (tgt := 1342) hx hb dL_law_1308 (by decide) (fun c_1 => absurd c_1 (nI_n9 (by omega))) (fun c_1 => ?_)
  refine lv_iload hx hb dL_law_1311 (lv_at hl 12 rfl) ?_
  refine lv_iconst (v := 1) hx hb dL_law_1313 (by decide) ?_
  refine lv_icmp_lt (tgt := 1354) hx hb dL_law_1314 (by decide) (fun c_2 => absurd c_2 (nI_nlt1 hc1 (by omega))) (fun c_2 => ?_)
  refine lv_iload hx hb dL_law_1317 (lv_at hl 12 rfl) ?_
  refine lv_iload hx hb dL_law_1319 (lv_at hl 4 rfl) ?_
  refine lv_icmp_gt (tgt := 1354) hx hb dL_law_1321 (by decide) (fun c_3 => absurd c_3 (nI_nlt hcl (by omega))) (fun c_3 => ?_)
  refine lv_iload hx hb dL_law_1324 (lv_at hl 13 rfl) ?_
  refine xSi ha hP hS (y := yL_many) (As := [.int (a_bits w (nPl P))]) (rest := []) rfl (c_L_many G l u (a_bits w (nPl P)) ) kw_L_131 hd_L_many rfl ⟨rfl, rfl⟩ ⟨Nat.le_of_ble_eq_true rfl, Nat.le_of_ble_eq_true rfl⟩ hcs hl.1 (Nat.le_of_ble_eq_true rfl) rfl dL_law_1326 (fun r_4 v1 H locs hpq hP hS => ?_)
  obtain ⟨hr_, hu_⟩ := hpq
  have hu_ := hu_.symm
  subst hu_
  have hr_ := hr_.trans (many_bits w (by omega))
  have hr_ := hr_.symm
  subst hr_
  refine lv_iload hx hb dL_law_1329 (lv_at hl 12 rfl) ?_
  refine lv_icmp_ne (tgt := 1354) hx hb dL_law_1331 (by decide) (fun c_5 => absurd rfl c_5) (fun c_5 => ?_)
  refine lv_iload hx hb dL_law_1334 (lv_at hl 13 rfl) ?_
  refine lv_iload hx hb dL_law_1336 (lv_at hl 7 rfl) ?_
  refine lv_iand hx hb dL_law_1338 ?_
  refine lv_if_ne (tgt := 1354) hx hb dL_law_1339 (by decide) (fun c_6 => absurd (few_down hg hwu) c_6) (fun c_6 => ?_)
  refine lv_iload hx hb dL_law_1342 (lv_at hl 12 rfl) ?_
  refine lv_bipush (v := (-9)) hx hb dL_law_1344 (by decide) ?_
  refine lv_icmp_ne (tgt := 1356) hx hb dL_law_1346 (by decide) (fun c_7 => ?_) (fun c_7 => absurd c_7 (nI_n9 (by omega)))
  refine lv_iload hx hb dL_law_1356 (lv_at hl 12 rfl) ?_
  refine lv_if_le (tgt := 1522) hx hb dL_law_1358 (by decide) (fun c_8 => absurd c_8 (nI_nle hc1 (by omega))) (fun c_8 => ?_)
  exact kk u  _ _ _ rfl hP hS (lv_sub hl [0, 1, 2, 3, 4, 5, 6, 7, 8, 9, 10, 13] rfl)
set_option maxHeartbeats 4000000 in
set_option maxRecDepth 100000 in
theorem seg_1361 (ha : Amb p c cL_law 31 s args RL m meth (some .boolean) G 74) (hcs : cells ≤ room_1.cells ∧ slots ≤ room_1.slots) (P : PT) (Z : Nat → Int32) (K : KT) (S : PT) (D : Nat) (C : Nat → Int32) (w : Nat → Bool) {u : Mem} (hN : NV P Z) (hJ : J P Z K S D C u) (hP : va_P G.2.1 vwCl (wl G 74 (cX G u)) H) (hS : va_S (xA G 74 s.heap.size) s.heap H locs) (hl : lv_has ls 31 [(0, .ref (G.1 1000)), (1, .ref (G.1 0)), (2, .ref (G.1 72)), (3, .ref (G.1 73)), (4, .int (nI (nPl P))), (5, .int (nI (nPe P))), (7, .int (nI D)), (8, .int (S 0 0)), (9, .int (a_highAll P S)), (10, .int ((1 <<< (nI (nPl P) &&& 31)) - 1)), (11, .int (a_standing P S)), (15, .int (a_bits w (nPl P)))])
    (kk : ∀ (v : Mem)  (H : Heap) (locs : List Loc) (ls : Array Slot), (v = u) → va_P G.2.1 vwCl (wl G 74 (cX G v)) H → va_S (xA G 74 s.heap.size) s.heap H locs → lv_has ls 31 [(0, .ref (G.1 1000)), (1, .ref (G.1 0)), (2, .ref (G.1 72)), (3, .ref (G.1 73)), (4, .int (nI (nPl P))), (5, .int (nI (nPe P))), (7, .int (nI D)), (8, .int (S 0 0)), (9, .int (a_highAll P S)), (10, .int ((1 <<< (nI (nPl P) &&& 31)) - 1)), (11, .int (a_standing P S)), (15, .int (a_bits w (nPl P))), (16, .int (nI 0)), (17, .int (nI (nPl P ^ 0))), (18, .int (nI 0))] → W p l e room_1 s m args below meth c H locs cells slots Q (F0 m 1370 ls [])) : W p l e room_1 s m args below meth c H locs cells slots Q (F0 m 1361 ls []) := by
  have hx := ha.1
  have hb := ha.2.1
  obtain ⟨h4, h5⟩ := NV_45 hJ
  have hp0 := hN.1.1
  have hq0 := hN.1.2
  have hpb := (J_plan hJ).1
  have hpr := (J_plan hJ).2
  have hg := J_gs hJ
  refine lv_iconst (v := 0) hx hb dL_law_1361 (by decide) ?_
  refine lv_istore (lv' := [(16, .int 0), (0, .ref (G.1 1000)), (1, .ref (G.1 0)), (2, .ref (G.1 72)), (3, .ref (G.1 73)), (4, .int (nI (nPl P))), (5, .int (nI (nPe P))), (7, .int (nI D)), (8, .int (S 0 0)), (9, .int (a_highAll P S)), (10, .int ((1 <<< (nI (nPl P) &&& 31)) - 1)), (11, .int (a_standing P S)), (15, .int (a_bits w (nPl P)))]) hx hb dL_law_1362 hl (by decide) rfl (fun ls hl => ?_)
  refine lv_iconst (v := 1) hx hb dL_law_1364 (by decide) ?_
  refine lv_istore (lv' := [(17, .int 1), (16, .int 0), (0, .ref (G.1 1000)), (1, .ref (G.1 0)), (2, .ref (G.1 72)), (3, .ref (G.1 73)), (4, .int (nI (nPl P))), (5, .int (nI (nPe P))), (7, .int (nI D)), (8, .int (S 0 0)), (9, .int (a_highAll P S)), (10, .int ((1 <<< (nI (nPl P) &&& 31)) - 1)), (11, .int (a_standing P S)), (15, .int (a_bits w (nPl P)))]) hx hb dL_law_1365 hl (by decide) rfl (fun ls hl => ?_)
  refine lv_iconst (v := 0) hx hb dL_law_1367 (by decide) ?_
  refine lv_istore (lv' := [(18, .int 0), (17, .int 1), (16, .int 0), (0, .ref (G.1 1000)), (1, .ref (G.1 0)), (2, .ref (G.1 72)), (3, .ref (G.1 73)), (4, .int (nI (nPl P))), (5, .int (nI (nPe P))), (7, .int (nI D)), (8, .int (S 0 0)), (9, .int (a_highAll P S)), (10, .int ((1 <<< (nI (nPl P) &&& 31)) - 1)), (11, .int (a_standing P S)), (15, .int (a_bits w (nPl P)))]) hx hb dL_law_1368 hl (by decide) rfl (fun ls hl => ?_)
  exact kk u  _ _ _ rfl hP hS (lv_sub hl [3, 4, 5, 6, 7, 8, 9, 10, 11, 12, 13, 14, 2, 1, 0] rfl)
set_option maxHeartbeats 4000000 in
set_option maxRecDepth 100000 in
theorem seg_1370 (ha : Amb p c cL_law 31 s args RL m meth (some .boolean) G 74) (hcs : cells ≤ room_1.cells ∧ slots ≤ room_1.slots) (P : PT) (Z : Nat → Int32) (K : KT) (S : PT) (D : Nat) (C : Nat → Int32) (w : Nat → Bool) (j : Nat) {u : Mem} (hN : NV P Z) (hJ : J P Z K S D C u) (hj0 : j ≤ nPe P) (hP : va_P G.2.1 vwCl (wl G 74 (cX G u)) H) (hS : va_S (xA G 74 s.heap.size) s.heap H locs) (hl : lv_has ls 31 [(0, .ref (G.1 1000)), (1, .ref (G.1 0)), (2, .ref (G.1 72)), (3, .ref (G.1 73)), (4, .int (nI (nPl P))), (5, .int (nI (nPe P))), (7, .int (nI D)), (8, .int (S 0 0)), (9, .int (a_highAll P S)), (10, .int ((1 <<< (nI (nPl P) &&& 31)) - 1)), (11, .int (a_standing P S)), (15, .int (a_bits w (nPl P))), (16, .int (nI 0)), (17, .int (nI (nPl P ^ j))), (18, .int (nI j))])
    (kout : ∀ (v : Mem)  (H : Heap) (locs : List Loc) (ls : Array Slot), (v = u) → (j = nPe P) → va_P G.2.1 vwCl (wl G 74 (cX G v)) H → va_S (xA G 74 s.heap.size) s.heap H locs → lv_has ls 31 [(0, .ref (G.1 1000)), (1, .ref (G.1 0)), (2, .ref (G.1 72)), (3, .ref (G.1 73)), (4, .int (nI (nPl P))), (5, .int (nI (nPe P))), (7, .int (nI D)), (8, .int (S 0 0)), (9, .int (a_highAll P S)), (10, .int ((1 <<< (nI (nPl P) &&& 31)) - 1)), (11, .int (a_standing P S)), (15, .int (a_bits w (nPl P))), (16, .int (nI 0)), (17, .int (nI (nPl P ^ j)))] → W p l e room_1 s m args below meth c H locs cells slots Q (F0 m 1390 ls []))
    (kback : ∀ (v : Mem)  (H : Heap) (locs : List Loc) (ls : Array Slot), (v = u) → (j < nPe P) → va_P G.2.1 vwCl (wl G 74 (cX G v)) H → va_S (xA G 74 s.heap.size) s.heap H locs → lv_has ls 31 [(0, .ref (G.1 1000)), (1, .ref (G.1 0)), (2, .ref (G.1 72)), (3, .ref (G.1 73)), (4, .int (nI (nPl P))), (5, .int (nI (nPe P))), (7, .int (nI D)), (8, .int (S 0 0)), (9, .int (a_highAll P S)), (10, .int ((1 <<< (nI (nPl P) &&& 31)) - 1)), (11, .int (a_standing P S)), (15, .int (a_bits w (nPl P))), (16, .int (nI 0)), (17, .int (nI (nPl P ^ (j + 1)))), (18, .int (nI (j + 1)))] → W p l e room_1 s m args below meth c H locs cells slots Q (F0 m 1370 ls [])) : W p l e room_1 s m args below meth c H locs cells slots Q (F0 m 1370 ls []) := by
  have hx := ha.1
  have hb := ha.2.1
  obtain ⟨h4, h5⟩ := NV_45 hJ
  have hp0 := hN.1.1
  have hq0 := hN.1.2
  have hpb := (J_plan hJ).1
  have hpr := (J_plan hJ).2
  have hg := J_gs hJ
  refine lv_iload hx hb dL_law_1370 (lv_at hl 14 rfl) ?_
  refine lv_iload hx hb dL_law_1372 (lv_at hl 5 rfl) ?_
  refine lv_icmp_ge (tgt := 1390) hx hb dL_law_1374 (by decide) (fun c_1 => ?_) (fun c_1 => ?_)
  · have hc_1374 := c_1
    have hj := eq_of_le hc_1374 hj0 (by omega)
    exact kout u  _ _ _ rfl hj hP hS (lv_sub hl [0, 1, 2, 3, 4, 5, 6, 7, 8, 9, 10, 11, 12, 13] rfl)
  · have hc_1374 := c_1
    have hj : j < nPe P := lt_of_nle hc_1374 (by omega) (by omega)
    refine lv_iload hx hb dL_law_1377 (lv_at hl 13 rfl) ?_
    refine lv_iload hx hb dL_law_1379 (lv_at hl 4 rfl) ?_
    refine lw_imulE (z := (nI (nPl P ^ (j + 1)))) hx hb dL_law_1381 (by rw [Nat.pow_succ]; exact nmul rfl rfl) ?_
    refine lv_istore (lv' := [(17, .int (nI (nPl P ^ (j + 1)))), (0, .ref (G.1 1000)), (1, .ref (G.1 0)), (2, .ref (G.1 72)), (3, .ref (G.1 73)), (4, .int (nI (nPl P))), (5, .int (nI (nPe P))), (7, .int (nI D)), (8, .int (S 0 0)), (9, .int (a_highAll P S)), (10, .int ((1 <<< (nI (nPl P) &&& 31)) - 1)), (11, .int (a_standing P S)), (15, .int (a_bits w (nPl P))), (16, .int (nI 0)), (18, .int (nI j))]) hx hb dL_law_1382 hl (by decide) rfl (fun ls hl => ?_)
    refine lv_iinc (v := nI (j + 1)) (lv' := [(18, .int (nI (j + 1))), (17, .int (nI (nPl P ^ (j + 1)))), (0, .ref (G.1 1000)), (1, .ref (G.1 0)), (2, .ref (G.1 72)), (3, .ref (G.1 73)), (4, .int (nI (nPl P))), (5, .int (nI (nPe P))), (7, .int (nI D)), (8, .int (S 0 0)), (9, .int (a_highAll P S)), (10, .int ((1 <<< (nI (nPl P) &&& 31)) - 1)), (11, .int (a_standing P S)), (15, .int (a_bits w (nPl P))), (16, .int (nI 0))]) hx hb dL_law_1384 hl (k := 14) rfl (nI_1 j) (by decide) rfl (fun ls hl => ?_)
    refine lv_goto (tgt := 1370) hx hb dL_law_1387 (by decide) ?_
    exact kback u  _ _ _ rfl hj hP hS (lv_sub hl [2, 3, 4, 5, 6, 7, 8, 9, 10, 11, 12, 13, 14, 1, 0] rfl)
set_option maxHeartbeats 4000000 in
set_option maxRecDepth 100000 in
theorem seg_1390 (ha : Amb p c cL_law 31 s args RL m meth (some .boolean) G 74) (hcs : cells ≤ room_1.cells ∧ slots ≤ room_1.slots) (P : PT) (Z : Nat → Int32) (K : KT) (S : PT) (D : Nat) (C : Nat → Int32) (w : Nat → Bool) {u : Mem} (hN : NV P Z) (hJ : J P Z K S D C u) (hP : va_P G.2.1 vwCl (wl G 74 (cX G u)) H) (hS : va_S (xA G 74 s.heap.size) s.heap H locs) (hl : lv_has ls 31 [(0, .ref (G.1 1000)), (1, .ref (G.1 0)), (2, .ref (G.1 72)), (3, .ref (G.1 73)), (4, .int (nI (nPl P))), (5, .int (nI (nPe P))), (7, .int (nI D)), (8, .int (S 0 0)), (9, .int (a_highAll P S)), (10, .int ((1 <<< (nI (nPl P) &&& 31)) - 1)), (11, .int (a_standing P S)), (15, .int (a_bits w (nPl P))), (16, .int (nI 0)), (17, .int (nI (nPl P ^ nPe P)))])
    (kk : ∀ (v : Mem)  (H : Heap) (locs : List Loc) (ls : Array Slot), (J P Z K S D C v) → (∃ f, RW 1 (nPe P) f v) → va_P G.2.1 vwCl (wl G 74 (cX G v)) H → va_S (xA G 74 s.heap.size) s.heap H locs → lv_has ls 31 [(0, .ref (G.1 1000)), (1, .ref (G.1 0)), (2, .ref (G.1 72)), (3, .ref (G.1 73)), (4, .int (nI (nPl P))), (5, .int (nI (nPe P))), (7, .int (nI D)), (8, .int (S 0 0)), (9, .int (a_highAll P S)), (10, .int ((1 <<< (nI (nPl P) &&& 31)) - 1)), (11, .int (a_standing P S)), (15, .int (a_bits w (nPl P))), (16, .int (nI 0)), (17, .int (nI (nPl P ^ nPe P))), (18, .int (nI 0))] → W p l e room_1 s m args below meth c H locs cells slots Q (F0 m 1407 ls [])) : W p l e room_1 s m args below meth c H locs cells slots Q (F0 m 1390 ls []) := by
  have hx := ha.1
  have hb := ha.2.1
  obtain ⟨h4, h5⟩ := NV_45 hJ
  have hp0 := hN.1.1
  have hq0 := hN.1.2
  have hpb := (J_plan hJ).1
  have hpr := (J_plan hJ).2
  have hg := J_gs hJ
  refine lv_aload_n hx hb dL_law_1390 rfl (lv_at hl 1 rfl) ?_
  refine lv_iconst (v := (nI 1)) hx hb dL_law_1391 (by decide) ?_
  refine lv_iload hx hb dL_law_1392 (lv_at hl 5 rfl) ?_
  refine xVi ha hP hS (y := yX7_row) (As := [.int (nI 1), .int (nI (nPe P))]) (rest := []) 0 (by decide) (cX_0 G _) rfl rfl (c_X7_row G l u (nI 1) (nI (nPe P)) ) kw_L_134 hd_X7_row rfl ⟨rfl, rfl⟩ ⟨Nat.le_of_ble_eq_true rfl, Nat.le_of_ble_eq_true rfl⟩ hcs hl.1 (Nat.le_of_ble_eq_true rfl) rfl dL_law_1394 (fun r_1 v1 H locs hpq hP hS => ?_)
  obtain ⟨hr_, hu_⟩ := hpq
  have hq_ := q_row hJ (r := 1) (n := nPe P) (by decide) (by omega)
  simp only [← hr_, ← hu_] at hq_
  clear hr_ hu_
  obtain ⟨h_r, hW, hJ, hfr⟩ := hq_
  subst h_r
  refine lv_iload hx hb dL_law_1397 (lv_at hl 5 rfl) ?_
  refine lv_icmp_eq (tgt := 1404) hx hb dL_law_1399 (by decide) (fun c_2 => ?_) (fun c_2 => absurd rfl c_2)
  refine lv_iconst (v := 0) hx hb dL_law_1404 (by decide) ?_
  refine lv_istore (lv' := [(18, .int 0), (0, .ref (G.1 1000)), (1, .ref (G.1 0)), (2, .ref (G.1 72)), (3, .ref (G.1 73)), (4, .int (nI (nPl P))), (5, .int (nI (nPe P))), (7, .int (nI D)), (8, .int (S 0 0)), (9, .int (a_highAll P S)), (10, .int ((1 <<< (nI (nPl P) &&& 31)) - 1)), (11, .int (a_standing P S)), (15, .int (a_bits w (nPl P))), (16, .int (nI 0)), (17, .int (nI (nPl P ^ nPe P)))]) hx hb dL_law_1405 hl (by decide) rfl (fun ls hl => ?_)
  exact kk v1  _ _ _ hJ (⟨_, hW⟩) hP hS (lv_sub hl [1, 2, 3, 4, 5, 6, 7, 8, 9, 10, 11, 12, 13, 14, 0] rfl)
set_option maxHeartbeats 4000000 in
set_option maxRecDepth 100000 in
theorem seg_1407 (ha : Amb p c cL_law 31 s args RL m meth (some .boolean) G 74) (hcs : cells ≤ room_1.cells ∧ slots ≤ room_1.slots) (P : PT) (Z : Nat → Int32) (K : KT) (S : PT) (D : Nat) (C : Nat → Int32) (w : Nat → Bool) (t : Nat → Nat) (cst : Nat) (g : Nat) (code : Nat) {u : Mem} (hN : NV P Z) (hJ : J P Z K S D C u) (hcl : cst < nPl P ^ nPe P) (hc0 : code ≤ nPl P ^ nPe P) (hcan : (g = 0 ∧ code ≤ cst) ∨ g = 1) (hP : va_P G.2.1 vwCl (wl G 74 (cX G u)) H) (hS : va_S (xA G 74 s.heap.size) s.heap H locs) (hl : lv_has ls 31 [(0, .ref (G.1 1000)), (1, .ref (G.1 0)), (2, .ref (G.1 72)), (3, .ref (G.1 73)), (4, .int (nI (nPl P))), (5, .int (nI (nPe P))), (7, .int (nI D)), (8, .int (S 0 0)), (9, .int (a_highAll P S)), (10, .int ((1 <<< (nI (nPl P) &&& 31)) - 1)), (11, .int (a_standing P S)), (15, .int (a_bits w (nPl P))), (16, .int (nI g)), (17, .int (nI (nPl P ^ nPe P))), (18, .int (nI code))])
    (kout : ∀ (v : Mem)  (H : Heap) (locs : List Loc) (ls : Array Slot), (v = u) → (g = 1) → va_P G.2.1 vwCl (wl G 74 (cX G v)) H → va_S (xA G 74 s.heap.size) s.heap H locs → lv_has ls 31 [(0, .ref (G.1 1000)), (1, .ref (G.1 0)), (2, .ref (G.1 72)), (3, .ref (G.1 73)), (4, .int (nI (nPl P))), (5, .int (nI (nPe P))), (7, .int (nI D)), (8, .int (S 0 0)), (9, .int (a_highAll P S)), (10, .int ((1 <<< (nI (nPl P) &&& 31)) - 1)), (11, .int (a_standing P S)), (16, .int (nI g))] → W p l e room_1 s m args below meth c H locs cells slots Q (F0 m 1515 ls []))
    (kin : ∀ (v : Mem)  (H : Heap) (locs : List Loc) (ls : Array Slot), (v = u) → (g = 0) → (code < nPl P ^ nPe P) → va_P G.2.1 vwCl (wl G 74 (cX G v)) H → va_S (xA G 74 s.heap.size) s.heap H locs → lv_has ls 31 [(0, .ref (G.1 1000)), (1, .ref (G.1 0)), (2, .ref (G.1 72)), (3, .ref (G.1 73)), (4, .int (nI (nPl P))), (5, .int (nI (nPe P))), (7, .int (nI D)), (8, .int (S 0 0)), (9, .int (a_highAll P S)), (10, .int ((1 <<< (nI (nPl P) &&& 31)) - 1)), (11, .int (a_standing P S)), (15, .int (a_bits w (nPl P))), (16, .int (nI g)), (17, .int (nI (nPl P ^ nPe P))), (18, .int (nI code)), (19, .int (nI (lf (nPl P) code 0))), (20, .int (b2i (wlB P w code 0))), (21, .int (nI 0))] → W p l e room_1 s m args below meth c H locs cells slots Q (F0 m 1429 ls [])) : W p l e room_1 s m args below meth c H locs cells slots Q (F0 m 1407 ls []) := by
  have hx := ha.1
  have hb := ha.2.1
  obtain ⟨h4, h5⟩ := NV_45 hJ
  have hp0 := hN.1.1
  have hq0 := hN.1.2
  have hpb := (J_plan hJ).1
  have hpr := (J_plan hJ).2
  have hg := J_gs hJ
  have hpw := pw_1024 h4 h5
  refine lv_iload hx hb dL_law_1407 (lv_at hl 14 rfl) ?_
  refine lv_iload hx hb dL_law_1409 (lv_at hl 13 rfl) ?_
  refine lv_icmp_ge (tgt := 1515) hx hb dL_law_1411 (by decide) (fun c_1 => ?_) (fun c_1 => ?_)
  · have hc_1411 := c_1
    have heq := eq_of_le hc_1411 hc0 (by omega)
    exact kout u  _ _ _ rfl (by omega) hP hS (lv_sub hl [0, 1, 2, 3, 4, 5, 6, 7, 8, 9, 10, 12] rfl)
  · have hc_1411 := c_1
    have hlt : code < nPl P ^ nPe P := lt_of_nle hc_1411 (by omega) (by omega)
    refine lv_iload hx hb dL_law_1414 (lv_at hl 12 rfl) ?_
    refine lv_if_ne (tgt := 1515) hx hb dL_law_1416 (by decide) (fun c_2 => ?_) (fun c_2 => ?_)
    · have hc_1416 := c_2
      have hg1 : g = 1 := by rcases hcan with q | q; exact absurd (show nI g = 0 by rw [q.1]; rfl) hc_1416; exact q
      exact kout u  _ _ _ rfl hg1 hP hS (lv_sub hl [0, 1, 2, 3, 4, 5, 6, 7, 8, 9, 10, 12] rfl)
    · have hc_1416 := c_2
      have hg0 : g = 0 := by rcases hcan with q | q; exact q.1; exact absurd hc_1416 (by rw [q]; decide)
      refine lv_iload hx hb dL_law_1419 (lv_at hl 14 rfl) ?_
      refine lv_istore (lv' := [(19, .int (nI code)), (0, .ref (G.1 1000)), (1, .ref (G.1 0)), (2, .ref (G.1 72)), (3, .ref (G.1 73)), (4, .int (nI (nPl P))), (5, .int (nI (nPe P))), (7, .int (nI D)), (8, .int (S 0 0)), (9, .int (a_highAll P S)), (10, .int ((1 <<< (nI (nPl P) &&& 31)) - 1)), (11, .int (a_standing P S)), (15, .int (a_bits w (nPl P))), (16, .int (nI g)), (17, .int (nI (nPl P ^ nPe P))), (18, .int (nI code))]) hx hb dL_law_1421 hl (by decide) rfl (fun ls hl => ?_)
      refine lv_iconst (v := 1) hx hb dL_law_1423 (by decide) ?_
      refine lv_istore (lv' := [(20, .int 1), (19, .int (nI code)), (0, .ref (G.1 1000)), (1, .ref (G.1 0)), (2, .ref (G.1 72)), (3, .ref (G.1 73)), (4, .int (nI (nPl P))), (5, .int (nI (nPe P))), (7, .int (nI D)), (8, .int (S 0 0)), (9, .int (a_highAll P S)), (10, .int ((1 <<< (nI (nPl P) &&& 31)) - 1)), (11, .int (a_standing P S)), (15, .int (a_bits w (nPl P))), (16, .int (nI g)), (17, .int (nI (nPl P ^ nPe P))), (18, .int (nI code))]) hx hb dL_law_1424 hl (by decide) rfl (fun ls hl => ?_)
      refine lv_iconst (v := 0) hx hb dL_law_1426 (by decide) ?_
      refine lv_istore (lv' := [(21, .int 0), (20, .int 1), (19, .int (nI code)), (0, .ref (G.1 1000)), (1, .ref (G.1 0)), (2, .ref (G.1 72)), (3, .ref (G.1 73)), (4, .int (nI (nPl P))), (5, .int (nI (nPe P))), (7, .int (nI D)), (8, .int (S 0 0)), (9, .int (a_highAll P S)), (10, .int ((1 <<< (nI (nPl P) &&& 31)) - 1)), (11, .int (a_standing P S)), (15, .int (a_bits w (nPl P))), (16, .int (nI g)), (17, .int (nI (nPl P ^ nPe P))), (18, .int (nI code))]) hx hb dL_law_1427 hl (by decide) rfl (fun ls hl => ?_)
      exact kin u  _ _ _ rfl hg0 hlt hP hS (lv_sub hl [3, 4, 5, 6, 7, 8, 9, 10, 11, 12, 13, 14, 15, 16, 17, 2, 1, 0] rfl)
set_option maxHeartbeats 4000000 in
set_option maxRecDepth 100000 in
theorem seg_1429 (ha : Amb p c cL_law 31 s args RL m meth (some .boolean) G 74) (hcs : cells ≤ room_1.cells ∧ slots ≤ room_1.slots) (P : PT) (Z : Nat → Int32) (K : KT) (S : PT) (D : Nat) (C : Nat → Int32) (w : Nat → Bool) (t : Nat → Nat) (cst : Nat) (g : Nat) (code : Nat) (i : Nat) (f : Nat → Int32) {u : Mem} (hN : NV P Z) (hJ : J P Z K S D C u) (hcode : code < 2000) (hi0 : i ≤ nPe P) (hW : RW 1 (nPe P) f u) (hR : IR P w code i f) (hP : va_P G.2.1 vwCl (wl G 74 (cX G u)) H) (hS : va_S (xA G 74 s.heap.size) s.heap H locs) (hl : lv_has ls 31 [(0, .ref (G.1 1000)), (1, .ref (G.1 0)), (2, .ref (G.1 72)), (3, .ref (G.1 73)), (4, .int (nI (nPl P))), (5, .int (nI (nPe P))), (7, .int (nI D)), (8, .int (S 0 0)), (9, .int (a_highAll P S)), (10, .int ((1 <<< (nI (nPl P) &&& 31)) - 1)), (11, .int (a_standing P S)), (15, .int (a_bits w (nPl P))), (16, .int (nI g)), (17, .int (nI (nPl P ^ nPe P))), (18, .int (nI code)), (19, .int (nI (lf (nPl P) code i))), (20, .int (b2i (wlB P w code i))), (21, .int (nI i))])
    (kout : ∀ (v : Mem)  (H : Heap) (locs : List Loc) (ls : Array Slot), (v = u) → (i = nPe P) → va_P G.2.1 vwCl (wl G 74 (cX G v)) H → va_S (xA G 74 s.heap.size) s.heap H locs → lv_has ls 31 [(0, .ref (G.1 1000)), (1, .ref (G.1 0)), (2, .ref (G.1 72)), (3, .ref (G.1 73)), (4, .int (nI (nPl P))), (5, .int (nI (nPe P))), (7, .int (nI D)), (8, .int (S 0 0)), (9, .int (a_highAll P S)), (10, .int ((1 <<< (nI (nPl P) &&& 31)) - 1)), (11, .int (a_standing P S)), (15, .int (a_bits w (nPl P))), (16, .int (nI g)), (17, .int (nI (nPl P ^ nPe P))), (18, .int (nI code)), (20, .int (b2i (wlB P w code i)))] → W p l e room_1 s m args below meth c H locs cells slots Q (F0 m 1489 ls []))
    (kback : ∀ (v : Mem) (f9 : Nat → Int32) (H : Heap) (locs : List Loc) (ls : Array Slot), (J P Z K S D C v) → (RW 1 (nPe P) f9 v) → (IR P w code (i + 1) f9) → (i < nPe P) → va_P G.2.1 vwCl (wl G 74 (cX G v)) H → va_S (xA G 74 s.heap.size) s.heap H locs → lv_has ls 31 [(0, .ref (G.1 1000)), (1, .ref (G.1 0)), (2, .ref (G.1 72)), (3, .ref (G.1 73)), (4, .int (nI (nPl P))), (5, .int (nI (nPe P))), (7, .int (nI D)), (8, .int (S 0 0)), (9, .int (a_highAll P S)), (10, .int ((1 <<< (nI (nPl P) &&& 31)) - 1)), (11, .int (a_standing P S)), (15, .int (a_bits w (nPl P))), (16, .int (nI g)), (17, .int (nI (nPl P ^ nPe P))), (18, .int (nI code)), (19, .int (nI (lf (nPl P) code (i + 1)))), (20, .int (b2i (wlB P w code (i + 1)))), (21, .int (nI (i + 1)))] → W p l e room_1 s m args below meth c H locs cells slots Q (F0 m 1429 ls [])) : W p l e room_1 s m args below meth c H locs cells slots Q (F0 m 1429 ls []) := by
  have hx := ha.1
  have hb := ha.2.1
  obtain ⟨h4, h5⟩ := NV_45 hJ
  have hp0 := hN.1.1
  have hq0 := hN.1.2
  have hpb := (J_plan hJ).1
  have hpr := (J_plan hJ).2
  have hg := J_gs hJ
  have hlf := lf_le (nPl P) code i
  refine lv_iload hx hb dL_law_1429 (lv_at hl 17 rfl) ?_
  refine lv_iload hx hb dL_law_1431 (lv_at hl 5 rfl) ?_
  refine lv_icmp_ge (tgt := 1489) hx hb dL_law_1433 (by decide) (fun c_1 => ?_) (fun c_1 => ?_)
  · have hc_1433 := c_1
    have hi := eq_of_le hc_1433 hi0 (by omega)
    exact kout u  _ _ _ rfl hi hP hS (lv_sub hl [0, 1, 2, 3, 4, 5, 6, 7, 8, 9, 10, 11, 12, 13, 14, 16] rfl)
  · have hc_1433 := c_1
    have hi : i < nPe P := lt_of_nle hc_1433 (by omega) (by omega)
    refine lv_iload hx hb dL_law_1436 (lv_at hl 16 rfl) ?_
    refine lv_iload hx hb dL_law_1438 (lv_at hl 11 rfl) ?_
    refine lv_iload hx hb dL_law_1440 (lv_at hl 15 rfl) ?_
    refine lv_iload hx hb dL_law_1442 (lv_at hl 4 rfl) ?_
    refine lw_iremE (z := (nI (lf (nPl P) code i % nPl P))) hx hb dL_law_1444 (nI_ne0 hp0 (by omega)) (remn (by omega) hp0 (by omega)) ?_
    refine lv_ishr hx hb dL_law_1445 ?_
    refine lv_iconst (v := 1) hx hb dL_law_1446 (by decide) ?_
    refine lv_iand hx hb dL_law_1447 ?_
    refine lv_iconst (v := 1) hx hb dL_law_1448 (by decide) ?_
    have jn_1473_2 : ∀ (v9 : Mem) (x : Int32) (f9 : Nat → Int32) (H : Heap) (locs : List Loc), (J P Z K S D C v9) → (x = b2i (w (lf (nPl P) code i % nPl P))) → (RW 1 (nPe P) f9 v9) → (IR P w code (i + 1) f9) → va_P G.2.1 vwCl (wl G 74 (cX G v9)) H → va_S (xA G 74 s.heap.size) s.heap H locs → W p l e room_1 s m args below meth c H locs cells slots Q (F0 m 1473 ls [.int x, .int (b2i (wlB P w code i))]) := by
      intro v9 x f9 H locs hJ ex hW hR hP hS
      subst ex
      refine lw_iandE (z := (b2i (wlB P w code (i + 1)))) hx hb dL_law_1473 (b2i_and _ _) ?_
      refine lv_istore (lv' := [(20, .int (b2i (wlB P w code (i + 1)))), (0, .ref (G.1 1000)), (1, .ref (G.1 0)), (2, .ref (G.1 72)), (3, .ref (G.1 73)), (4, .int (nI (nPl P))), (5, .int (nI (nPe P))), (7, .int (nI D)), (8, .int (S 0 0)), (9, .int (a_highAll P S)), (10, .int ((1 <<< (nI (nPl P) &&& 31)) - 1)), (11, .int (a_standing P S)), (15, .int (a_bits w (nPl P))), (16, .int (nI g)), (17, .int (nI (nPl P ^ nPe P))), (18, .int (nI code)), (19, .int (nI (lf (nPl P) code i))), (21, .int (nI i))]) hx hb dL_law_1474 hl (by decide) rfl (fun ls hl => ?_)
      refine lv_iload hx hb dL_law_1476 (lv_at hl 16 rfl) ?_
      refine lv_iload hx hb dL_law_1478 (lv_at hl 5 rfl) ?_
      refine lw_idivE (z := (nI (lf (nPl P) code (i + 1)))) hx hb dL_law_1480 (nI_ne0 hp0 (by omega)) (divn (by omega) hp0 (by omega)) ?_
      refine lv_istore (lv' := [(19, .int (nI (lf (nPl P) code (i + 1)))), (20, .int (b2i (wlB P w code (i + 1)))), (0, .ref (G.1 1000)), (1, .ref (G.1 0)), (2, .ref (G.1 72)), (3, .ref (G.1 73)), (4, .int (nI (nPl P))), (5, .int (nI (nPe P))), (7, .int (nI D)), (8, .int (S 0 0)), (9, .int (a_highAll P S)), (10, .int ((1 <<< (nI (nPl P) &&& 31)) - 1)), (11, .int (a_standing P S)), (15, .int (a_bits w (nPl P))), (16, .int (nI g)), (17, .int (nI (nPl P ^ nPe P))), (18, .int (nI code)), (21, .int (nI i))]) hx hb dL_law_1481 hl (by decide) rfl (fun ls hl => ?_)
      refine lv_iinc (v := nI (i + 1)) (lv' := [(21, .int (nI (i + 1))), (19, .int (nI (lf (nPl P) code (i + 1)))), (20, .int (b2i (wlB P w code (i + 1)))), (0, .ref (G.1 1000)), (1, .ref (G.1 0)), (2, .ref (G.1 72)), (3, .ref (G.1 73)), (4, .int (nI (nPl P))), (5, .int (nI (nPe P))), (7, .int (nI D)), (8, .int (S 0 0)), (9, .int (a_highAll P S)), (10, .int ((1 <<< (nI (nPl P) &&& 31)) - 1)), (11, .int (a_standing P S)), (15, .int (a_bits w (nPl P))), (16, .int (nI g)), (17, .int (nI (nPl P ^ nPe P))), (18, .int (nI code))]) hx hb dL_law_1483 hl (k := 17) rfl (nI_1 i) (by decide) rfl (fun ls hl => ?_)
      refine lv_goto (tgt := 1429) hx hb dL_law_1486 (by decide) ?_
      exact kback v9 f9 _ _ _ hJ hW hR hi hP hS (lv_sub hl [3, 4, 5, 6, 7, 8, 9, 10, 11, 12, 13, 14, 15, 16, 17, 1, 2, 0] rfl)
    refine lv_icmp_ne (tgt := 1472) hx hb dL_law_1449 (by decide) (fun c_3 => ?_) (fun c_3 => ?_)
    · have hc_1449 := c_3
      have hwd : w (lf (nPl P) code i % nPl P) = false := b2i_none (fun q => hc_1449 ((which_bit (w := w) (by omega) (Nat.mod_lt _ hp0)).trans q))
      have hx1 : (0 : Int32) = b2i (w (lf (nPl P) code i % nPl P)) := by rw [hwd]; rfl
      refine lv_iconst (v := 0) hx hb dL_law_1472 (by decide) ?_
      exact jn_1473_2 u _ _ _ _ hJ hx1 hW (IR_no hwd) hP hS
    · have hc_1449 := c_3
      have hwd := b2i_one ((which_bit (w := w) (by omega) (Nat.mod_lt _ hp0)).symm.trans hc_1449)
      have hx1 : (1 : Int32) = b2i (w (lf (nPl P) code i % nPl P)) := by rw [hwd]; rfl
      refine lv_aload_n hx hb dL_law_1452 rfl (lv_at hl 1 rfl) ?_
      refine lv_iconst (v := (nI 1)) hx hb dL_law_1453 (by decide) ?_
      refine lv_iload hx hb dL_law_1454 (lv_at hl 17 rfl) ?_
      refine lv_iload hx hb dL_law_1456 (lv_at hl 15 rfl) ?_
      refine lv_iload hx hb dL_law_1458 (lv_at hl 4 rfl) ?_
      refine lw_iremE (z := (nI (lf (nPl P) code i % nPl P))) hx hb dL_law_1460 (nI_ne0 hp0 (by omega)) (remn (by omega) hp0 (by omega)) ?_
      refine xVi ha hP hS (y := yX7_lay) (As := [.int (nI 1), .int (nI i), .int (nI (lf (nPl P) code i % nPl P))]) (rest := [.int (b2i (wlB P w code i))]) 0 (by decide) (cX_0 G _) rfl rfl (c_X7_lay G l u (nI 1) (nI i) (nI (lf (nPl P) code i % nPl P)) ) kw_L_137 hd_X7_lay rfl ⟨rfl, rfl⟩ ⟨Nat.le_of_ble_eq_true rfl, Nat.le_of_ble_eq_true rfl⟩ hcs hl.1 (Nat.le_of_ble_eq_true rfl) rfl dL_law_1461 (fun r_4 v1 H locs hpq hP hS => ?_)
      obtain ⟨hr_, hu_⟩ := hpq
      have hq_ := q_lay hJ (r := 1) (n := nPe P) (by decide) (by omega) hW hi (nI (lf (nPl P) code i % nPl P))
      simp only [← hr_, ← hu_] at hq_
      clear hr_ hu_
      obtain ⟨h_r, hW, hJ⟩ := hq_
      subst h_r
      refine lv_iconst (v := 1) hx hb dL_law_1464 (by decide) ?_
      refine lv_icmp_ne (tgt := 1472) hx hb dL_law_1465 (by decide) (fun c_5 => absurd rfl c_5) (fun c_5 => ?_)
      refine lv_iconst (v := 1) hx hb dL_law_1468 (by decide) ?_
      refine lv_goto (tgt := 1473) hx hb dL_law_1469 (by decide) ?_
      exact jn_1473_2 v1 _ _ _ _ hJ hx1 hW (IR_yes hR) hP hS
set_option maxHeartbeats 4000000 in
set_option maxRecDepth 100000 in
theorem seg_1489 (ha : Amb p c cL_law 31 s args RL m meth (some .boolean) G 74) (hcs : cells ≤ room_1.cells ∧ slots ≤ room_1.slots) (P : PT) (Z : Nat → Int32) (K : KT) (S : PT) (D : Nat) (C : Nat → Int32) (w : Nat → Bool) (t : Nat → Nat) (cst : Nat) (g : Nat) (code : Nat) (f : Nat → Int32) {u : Mem} (hN : NV P Z) (hJ : J P Z K S D C u) (hwu : ∀ k, k < nPl P → w k = true → a_isUp P S (nI k) = true) (hct : ∀ i, i < nPe P → lf (nPl P) cst i % nPl P = t i) (hcl : cst < nPl P ^ nPe P) (htw : ∀ i, i < nPe P → t i < nPl P ∧ w (t i) = true) (hf0 : b_fail P (Ts S fun i => nI (t i)) = 0) (hcode : code ≤ cst) (hW : RW 1 (nPe P) f u) (hR : IR P w code (nPe P) f) (hP : va_P G.2.1 vwCl (wl G 74 (cX G u)) H) (hS : va_S (xA G 74 s.heap.size) s.heap H locs) (hl : lv_has ls 31 [(0, .ref (G.1 1000)), (1, .ref (G.1 0)), (2, .ref (G.1 72)), (3, .ref (G.1 73)), (4, .int (nI (nPl P))), (5, .int (nI (nPe P))), (7, .int (nI D)), (8, .int (S 0 0)), (9, .int (a_highAll P S)), (10, .int ((1 <<< (nI (nPl P) &&& 31)) - 1)), (11, .int (a_standing P S)), (15, .int (a_bits w (nPl P))), (16, .int (nI g)), (17, .int (nI (nPl P ^ nPe P))), (18, .int (nI code)), (20, .int (b2i (wlB P w code (nPe P))))])
    (kk : ∀ (v : Mem) (g9 : Nat) (H : Heap) (locs : List Loc) (ls : Array Slot), (J P Z K S D C v) → (∃ f, RW 1 (nPe P) f v) → ((g9 = 0 ∧ code + 1 ≤ cst) ∨ g9 = 1) → va_P G.2.1 vwCl (wl G 74 (cX G v)) H → va_S (xA G 74 s.heap.size) s.heap H locs → lv_has ls 31 [(0, .ref (G.1 1000)), (1, .ref (G.1 0)), (2, .ref (G.1 72)), (3, .ref (G.1 73)), (4, .int (nI (nPl P))), (5, .int (nI (nPe P))), (7, .int (nI D)), (8, .int (S 0 0)), (9, .int (a_highAll P S)), (10, .int ((1 <<< (nI (nPl P) &&& 31)) - 1)), (11, .int (a_standing P S)), (15, .int (a_bits w (nPl P))), (16, .int (nI g9)), (17, .int (nI (nPl P ^ nPe P))), (18, .int (nI (code + 1)))] → W p l e room_1 s m args below meth c H locs cells slots Q (F0 m 1407 ls [])) : W p l e room_1 s m args below meth c H locs cells slots Q (F0 m 1489 ls []) := by
  have hx := ha.1
  have hb := ha.2.1
  obtain ⟨h4, h5⟩ := NV_45 hJ
  have hp0 := hN.1.1
  have hq0 := hN.1.2
  have hpb := (J_plan hJ).1
  have hpr := (J_plan hJ).2
  have hg := J_gs hJ
  refine lv_iload hx hb dL_law_1489 (lv_at hl 15 rfl) ?_
  refine lv_if_eq (tgt := 1506) hx hb dL_law_1491 (by decide) (fun c_1 => ?_) (fun c_1 => ?_)
  · have hc_1491 := c_1
    have hlt : code + 1 ≤ cst := by apply Decidable.byContradiction; intro q; have hq : code = cst := (by omega); subst hq; have z := few_wl hct htw; rw [b2i_z hc_1491] at z; cases z
    refine lv_iconst (v := 0) hx hb dL_law_1506 (by decide) ?_
    refine lv_istore (lv' := [(16, .int 0), (0, .ref (G.1 1000)), (1, .ref (G.1 0)), (2, .ref (G.1 72)), (3, .ref (G.1 73)), (4, .int (nI (nPl P))), (5, .int (nI (nPe P))), (7, .int (nI D)), (8, .int (S 0 0)), (9, .int (a_highAll P S)), (10, .int ((1 <<< (nI (nPl P) &&& 31)) - 1)), (11, .int (a_standing P S)), (15, .int (a_bits w (nPl P))), (17, .int (nI (nPl P ^ nPe P))), (18, .int (nI code)), (20, .int (b2i (wlB P w code (nPe P))))]) hx hb dL_law_1507 hl (by decide) rfl (fun ls hl => ?_)
    refine lv_iinc (v := nI (code + 1)) (lv' := [(18, .int (nI (code + 1))), (16, .int 0), (0, .ref (G.1 1000)), (1, .ref (G.1 0)), (2, .ref (G.1 72)), (3, .ref (G.1 73)), (4, .int (nI (nPl P))), (5, .int (nI (nPe P))), (7, .int (nI D)), (8, .int (S 0 0)), (9, .int (a_highAll P S)), (10, .int ((1 <<< (nI (nPl P) &&& 31)) - 1)), (11, .int (a_standing P S)), (15, .int (a_bits w (nPl P))), (17, .int (nI (nPl P ^ nPe P))), (20, .int (b2i (wlB P w code (nPe P))))]) hx hb dL_law_1509 hl (k := 14) rfl (nI_1 code) (by decide) rfl (fun ls hl => ?_)
    refine lv_goto (tgt := 1407) hx hb dL_law_1512 (by decide) ?_
    exact kk u 0 _ _ _ hJ (⟨_, hW⟩) (Or.inl ⟨rfl, hlt⟩) hP hS (lv_sub hl [2, 3, 4, 5, 6, 7, 8, 9, 10, 11, 12, 13, 1, 14, 0] rfl)
  · have hc_1491 := c_1
    have hwt := b2i_nz hc_1491
    refine lv_aload_n hx hb dL_law_1494 rfl (lv_at hl 1 rfl) ?_
    refine lv_iconst (v := (nI 1)) hx hb dL_law_1495 (by decide) ?_
    refine xVi ha hP hS (y := yX7_seated) (As := [.int (nI 1)]) (rest := []) 0 (by decide) (cX_0 G _) rfl rfl (c_X7_seated G l u (nI 1) (J_PO hJ)) kw_L_125 hd_X7_seated rfl ⟨rfl, rfl⟩ ⟨Nat.le_of_ble_eq_true rfl, Nat.le_of_ble_eq_true rfl⟩ hcs hl.1 (Nat.le_of_ble_eq_true rfl) rfl dL_law_1496 (fun r_2 v1 H locs hpq hP hS => ?_)
    obtain ⟨hr_, hu_⟩ := hpq
    have hq_ := q_seated hJ hp0 (r := 1) (by decide) hW (few_ok hp0 hwu hwt hR)
    simp only [← hr_, ← hu_] at hq_
    clear hr_ hu_
    obtain ⟨h_r, t1, hJ, rs⟩ := hq_
    subst h_r
    have hW := RW_s hW (by decide) rs
    refine lv_if_ne (tgt := 1506) hx hb dL_law_1499 (by decide) (fun c_3 => ?_) (fun c_3 => ?_)
    · have hc_1499 := c_3
      have hlt : code + 1 ≤ cst := by apply Decidable.byContradiction; intro q; have hq : code = cst := (by omega); subst hq; exact hc_1499 (few_f hct htw hR hf0)
      refine lv_iconst (v := 0) hx hb dL_law_1506 (by decide) ?_
      refine lv_istore (lv' := [(16, .int 0), (0, .ref (G.1 1000)), (1, .ref (G.1 0)), (2, .ref (G.1 72)), (3, .ref (G.1 73)), (4, .int (nI (nPl P))), (5, .int (nI (nPe P))), (7, .int (nI D)), (8, .int (S 0 0)), (9, .int (a_highAll P S)), (10, .int ((1 <<< (nI (nPl P) &&& 31)) - 1)), (11, .int (a_standing P S)), (15, .int (a_bits w (nPl P))), (17, .int (nI (nPl P ^ nPe P))), (18, .int (nI code)), (20, .int (b2i (wlB P w code (nPe P))))]) hx hb dL_law_1507 hl (by decide) rfl (fun ls hl => ?_)
      refine lv_iinc (v := nI (code + 1)) (lv' := [(18, .int (nI (code + 1))), (16, .int 0), (0, .ref (G.1 1000)), (1, .ref (G.1 0)), (2, .ref (G.1 72)), (3, .ref (G.1 73)), (4, .int (nI (nPl P))), (5, .int (nI (nPe P))), (7, .int (nI D)), (8, .int (S 0 0)), (9, .int (a_highAll P S)), (10, .int ((1 <<< (nI (nPl P) &&& 31)) - 1)), (11, .int (a_standing P S)), (15, .int (a_bits w (nPl P))), (17, .int (nI (nPl P ^ nPe P))), (20, .int (b2i (wlB P w code (nPe P))))]) hx hb dL_law_1509 hl (k := 14) rfl (nI_1 code) (by decide) rfl (fun ls hl => ?_)
      refine lv_goto (tgt := 1407) hx hb dL_law_1512 (by decide) ?_
      exact kk v1 0 _ _ _ hJ (⟨_, hW⟩) (Or.inl ⟨rfl, hlt⟩) hP hS (lv_sub hl [2, 3, 4, 5, 6, 7, 8, 9, 10, 11, 12, 13, 1, 14, 0] rfl)
    · have hc_1499 := c_3
      refine lv_iconst (v := 1) hx hb dL_law_1502 (by decide) ?_
      refine lv_goto (tgt := 1507) hx hb dL_law_1503 (by decide) ?_
      refine lv_istore (lv' := [(16, .int 1), (0, .ref (G.1 1000)), (1, .ref (G.1 0)), (2, .ref (G.1 72)), (3, .ref (G.1 73)), (4, .int (nI (nPl P))), (5, .int (nI (nPe P))), (7, .int (nI D)), (8, .int (S 0 0)), (9, .int (a_highAll P S)), (10, .int ((1 <<< (nI (nPl P) &&& 31)) - 1)), (11, .int (a_standing P S)), (15, .int (a_bits w (nPl P))), (17, .int (nI (nPl P ^ nPe P))), (18, .int (nI code)), (20, .int (b2i (wlB P w code (nPe P))))]) hx hb dL_law_1507 hl (by decide) rfl (fun ls hl => ?_)
      refine lv_iinc (v := nI (code + 1)) (lv' := [(18, .int (nI (code + 1))), (16, .int 1), (0, .ref (G.1 1000)), (1, .ref (G.1 0)), (2, .ref (G.1 72)), (3, .ref (G.1 73)), (4, .int (nI (nPl P))), (5, .int (nI (nPe P))), (7, .int (nI D)), (8, .int (S 0 0)), (9, .int (a_highAll P S)), (10, .int ((1 <<< (nI (nPl P) &&& 31)) - 1)), (11, .int (a_standing P S)), (15, .int (a_bits w (nPl P))), (17, .int (nI (nPl P ^ nPe P))), (20, .int (b2i (wlB P w code (nPe P))))]) hx hb dL_law_1509 hl (k := 14) rfl (nI_1 code) (by decide) rfl (fun ls hl => ?_)
      refine lv_goto (tgt := 1407) hx hb dL_law_1512 (by decide) ?_
      exact kk v1 1 _ _ _ hJ (⟨_, hW⟩) (Or.inr rfl) hP hS (lv_sub hl [2, 3, 4, 5, 6, 7, 8, 9, 10, 11, 12, 13, 1, 14, 0] rfl)
set_option maxHeartbeats 4000000 in
set_option maxRecDepth 100000 in
theorem seg_1515 (ha : Amb p c cL_law 31 s args RL m meth (some .boolean) G 74) (hcs : cells ≤ room_1.cells ∧ slots ≤ room_1.slots) (P : PT) (Z : Nat → Int32) (K : KT) (S : PT) (D : Nat) (C : Nat → Int32) {u : Mem} (hN : NV P Z) (hJ : J P Z K S D C u) (hP : va_P G.2.1 vwCl (wl G 74 (cX G u)) H) (hS : va_S (xA G 74 s.heap.size) s.heap H locs) (hl : lv_has ls 31 [(0, .ref (G.1 1000)), (1, .ref (G.1 0)), (2, .ref (G.1 72)), (3, .ref (G.1 73)), (4, .int (nI (nPl P))), (5, .int (nI (nPe P))), (7, .int (nI D)), (8, .int (S 0 0)), (9, .int (a_highAll P S)), (10, .int ((1 <<< (nI (nPl P) &&& 31)) - 1)), (11, .int (a_standing P S)), (16, .int (nI 1))])
    (kk : ∀ (v : Mem)  (H : Heap) (locs : List Loc) (ls : Array Slot), (v = u) → va_P G.2.1 vwCl (wl G 74 (cX G v)) H → va_S (xA G 74 s.heap.size) s.heap H locs → lv_has ls 31 [(0, .ref (G.1 1000)), (1, .ref (G.1 0)), (2, .ref (G.1 72)), (3, .ref (G.1 73)), (4, .int (nI (nPl P))), (5, .int (nI (nPe P))), (7, .int (nI D)), (8, .int (S 0 0)), (9, .int (a_highAll P S)), (10, .int ((1 <<< (nI (nPl P) &&& 31)) - 1)), (11, .int (a_standing P S))] → W p l e room_1 s m args below meth c H locs cells slots Q (F0 m 1522 ls [])) : W p l e room_1 s m args below meth c H locs cells slots Q (F0 m 1515 ls []) := by
  have hx := ha.1
  have hb := ha.2.1
  obtain ⟨h4, h5⟩ := NV_45 hJ
  have hp0 := hN.1.1
  have hq0 := hN.1.2
  have hpb := (J_plan hJ).1
  have hpr := (J_plan hJ).2
  have hg := J_gs hJ
  refine lv_iload hx hb dL_law_1515 (lv_at hl 11 rfl) ?_
  refine lv_if_ne (tgt := 1522) hx hb dL_law_1517 (by decide) (fun c_1 => ?_) (fun c_1 => absurd c_1 (by decide))
  exact kk u  _ _ _ rfl hP hS (lv_sub hl [0, 1, 2, 3, 4, 5, 6, 7, 8, 9, 10] rfl)
end SC05

