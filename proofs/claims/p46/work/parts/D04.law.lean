
theorem hd_L_tells : kHd yL_tells 6 := by decide +kernel
theorem kw_L_91 : ∀ w ∈ k5S RL 91 yL_tells cL_tells 9 (some .boolean), w ∈ TB := tb_ins (by decide +kernel)
section SD04
variable {p : Program} {l : Launch} {e : Env} {s : State} {m : MethodId} {args : Array Value} {below : List Frame} {meth : Method} {c : Code} {H : Heap} {locs : List Loc} {cells slots : Nat} {Q : State → Prop} {ls : Array Slot} {G : GT}
set_option maxHeartbeats 4000000 in
set_option maxRecDepth 100000 in
theorem seg_18 (ha : Amb p c cL_law 31 s args RL m meth (some .boolean) G 74) (hcs : cells ≤ room_1.cells ∧ slots ≤ room_1.slots)  {u : Mem} (hO : OKm u) (hP : va_P G.2.1 vwCl (wl G 74 (cX G u)) H) (hS : va_S (xA G 74 s.heap.size) s.heap H locs) (hl : lv_has ls 31 [(0, .ref (G.1 1000)), (1, .ref (G.1 0)), (2, .ref (G.1 72)), (3, .ref (G.1 73))])
    (kk : ∀ (v : Mem) (P : PT) (Z : Nat → Int32) (T6 : Nat) (H : Heap) (locs : List Loc) (ls : Array Slot), (NV P Z) → (T6 < 22) → (LH P Z (kAt K00 0 0 (fun _ => 0)) 0 v) → va_P G.2.1 vwCl (wl G 74 (cX G v)) H → va_S (xA G 74 s.heap.size) s.heap H locs → lv_has ls 31 [(0, .ref (G.1 1000)), (1, .ref (G.1 0)), (2, .ref (G.1 72)), (3, .ref (G.1 73)), (4, .int (nI (nPl P))), (5, .int (nI (nPe P))), (6, .int (nI T6)), (7, .int (nI 0))] → W p l e room_1 s m args below meth c H locs cells slots Q (F0 m 66 ls [])) : W p l e room_1 s m args below meth c H locs cells slots Q (F0 m 18 ls []) := by
  have hx := ha.1
  have hb := ha.2.1
  refine lv_aload_n hx hb dL_law_18 rfl (lv_at hl 1 rfl) ?_
  refine lv_aload_n hx hb dL_law_19 rfl (lv_at hl 0 rfl) ?_
  refine lv_aload_n hx hb dL_law_20 rfl (lv_at hl 2 rfl) ?_
  refine lv_aload_n hx hb dL_law_21 rfl (lv_at hl 3 rfl) ?_
  refine lv_iconst (v := 4) hx hb dL_law_22 (by decide) ?_
  refine lv_iconst (v := 5) hx hb dL_law_23 (by decide) ?_
  refine xSi ha hP hS (y := yL_tells) (As := [.ref (G.1 0), .ref (G.1 1000), .ref (G.1 72), .ref (G.1 73), .int 4, .int 5]) (rest := []) rfl (c_L_tells G l u  hO) kw_L_91 hd_L_tells rfl ⟨rfl, rfl⟩ ⟨Nat.le_of_ble_eq_true rfl, Nat.le_of_ble_eq_true rfl⟩ hcs hl.1 (Nat.le_of_ble_eq_true rfl) rfl dL_law_24 (fun r_1 v1 H locs hpq hP hS => ?_)
  obtain ⟨hr_, hu_⟩ := hpq
  subst hr_
  obtain ⟨P, Z, hN, hJ⟩ := hu_
  refine lv_if_eq (tgt := 38) hx hb dL_law_27 (by decide) (fun c_2 => absurd c_2 (by decide)) (fun c_2 => ?_)
  refine lv_aload_n hx hb dL_law_30 rfl (lv_at hl 1 rfl) ?_
  refine lv_iconst (v := (nI 0)) hx hb dL_law_31 (by decide) ?_
  refine xVi ha hP hS (y := yX7_keep) (As := [.int (nI 0)]) (rest := []) 0 (by decide) (cX_0 G _) rfl rfl (c_X7_keep G l v1 (nI 0) ) kw_L_95 hd_X7_keep rfl ⟨rfl, rfl⟩ ⟨Nat.le_of_ble_eq_true rfl, Nat.le_of_ble_eq_true rfl⟩ hcs hl.1 (Nat.le_of_ble_eq_true rfl) rfl dL_law_32 (fun r_3 v2 H locs hpq hP hS => ?_)
  obtain ⟨hr_, hu_⟩ := hpq
  have hq_ := q_keep hJ hN.1.1 (k := 0) (by decide)
  simp only [← hr_, ← hu_] at hq_
  clear hr_ hu_
  obtain ⟨h_r, hJ, rs⟩ := hq_
  subst h_r
  refine lv_if_eq (tgt := 40) hx hb dL_law_35 (by decide) (fun c_4 => ?_) (fun c_4 => absurd rfl c_4)
  refine lv_aload_n hx hb dL_law_40 rfl (lv_at hl 2 rfl) ?_
  refine lv_iconst (v := 0) hx hb dL_law_41 (by decide) ?_
  refine xialdN ha hP 72 (by decide) (cX_z G hJ) 0 (by decide) (by omega) (by decide) dL_law_42 ?_
  have hv_42 : (Z 0) = (nI (nPl P)) := hN.2.1.1
  rw [hv_42]
  refine lv_istore (lv' := [(4, .int (nI (nPl P))), (0, .ref (G.1 1000)), (1, .ref (G.1 0)), (2, .ref (G.1 72)), (3, .ref (G.1 73))]) hx hb dL_law_43 hl (by decide) rfl (fun ls hl => ?_)
  refine lv_aload_n hx hb dL_law_45 rfl (lv_at hl 3 rfl) ?_
  refine lv_iconst (v := 1) hx hb dL_law_46 (by decide) ?_
  refine xialdN ha hP 72 (by decide) (cX_z G hJ) 1 (by decide) (by omega) (by decide) dL_law_47 ?_
  have hv_47 : (Z 1) = (nI (nPe P)) := hN.2.1.2
  rw [hv_47]
  refine lv_istore (lv' := [(5, .int (nI (nPe P))), (4, .int (nI (nPl P))), (0, .ref (G.1 1000)), (1, .ref (G.1 0)), (2, .ref (G.1 72)), (3, .ref (G.1 73))]) hx hb dL_law_48 hl (by decide) rfl (fun ls hl => ?_)
  refine lv_aload_n hx hb dL_law_50 rfl (lv_at hl 2 rfl) ?_
  refine lv_bipush (v := 10) hx hb dL_law_51 (by decide) ?_
  refine xSi ha hP hS (y := yL_cell) (As := [.ref (G.1 1000), .int 10]) (rest := []) rfl (c_L_cell G l v2 (10) (by omega)) kw_L_15 hd_L_cell rfl ⟨rfl, rfl⟩ ⟨Nat.le_of_ble_eq_true rfl, Nat.le_of_ble_eq_true rfl⟩ hcs hl.1 (Nat.le_of_ble_eq_true rfl) rfl dL_law_53 (fun r_5 v3 H locs hpq hP hS => ?_)
  obtain ⟨hr_, hu_⟩ := hpq
  have hu_ := hu_.symm
  subst hu_
  refine lv_bipush (v := 22) hx hb dL_law_56 (by decide) ?_
  refine xSi ha hP hS (y := yL_part) (As := [.int r_5, .int 22]) (rest := []) rfl (c_L_part G l v2 r_5 22 (by decide)) kw_L_21 hd_L_part rfl ⟨rfl, rfl⟩ ⟨Nat.le_of_ble_eq_true rfl, Nat.le_of_ble_eq_true rfl⟩ hcs hl.1 (Nat.le_of_ble_eq_true rfl) rfl dL_law_58 (fun r_6 v4 H locs hpq hP hS => ?_)
  obtain ⟨hr_, hu_⟩ := hpq
  have hu_ := hu_.symm
  subst hu_
  obtain ⟨T6, hT6, eT6⟩ : ∃ j, j < 22 ∧ r_6 = nI j := by rw [hr_]; exact part_N _ (n := 22) (by decide) (by omega)
  clear hr_
  subst eT6
  refine lv_istore (lv' := [(6, .int (nI T6)), (5, .int (nI (nPe P))), (4, .int (nI (nPl P))), (0, .ref (G.1 1000)), (1, .ref (G.1 0)), (2, .ref (G.1 72)), (3, .ref (G.1 73))]) hx hb dL_law_61 hl (by decide) rfl (fun ls hl => ?_)
  refine lv_iconst (v := 0) hx hb dL_law_63 (by decide) ?_
  refine lv_istore (lv' := [(7, .int 0), (6, .int (nI T6)), (5, .int (nI (nPe P))), (4, .int (nI (nPl P))), (0, .ref (G.1 1000)), (1, .ref (G.1 0)), (2, .ref (G.1 72)), (3, .ref (G.1 73))]) hx hb dL_law_64 hl (by decide) rfl (fun ls hl => ?_)
  exact kk v2 P Z T6 _ _ _ hN hT6 (⟨_, _, _, hJ, Nat.le_refl _⟩) hP hS (lv_sub hl [4, 5, 6, 7, 3, 2, 1, 0] rfl)
set_option maxHeartbeats 4000000 in
set_option maxRecDepth 100000 in
theorem law_all (ha : Amb p c cL_law 31 s args RL m meth (some .boolean) G 74) (hcs : cells ≤ room_1.cells ∧ slots ≤ room_1.slots) {u : Mem}  (hO : OKm u) (hP : va_P G.2.1 vwCl (wl G 74 (cX G u)) H) (hS : va_S (xA G 74 s.heap.size) s.heap H locs) (hl : lv_has ls 31 [(0, .ref (G.1 1000)), (1, .ref (G.1 0)), (2, .ref (G.1 72)), (3, .ref (G.1 73))])
    (kk : ∀ (v : Mem) (H : Heap) (locs : List Loc) (ls : Array Slot), va_P G.2.1 vwCl (wl G 74 (cX G v)) H → va_S (xA G 74 s.heap.size) s.heap H locs → W p l e room_1 s m args below meth c H locs cells slots Q (F0 m 2959 ls [.int 1]))
    : W p l e room_1 s m args below meth c H locs cells slots Q (F0 m 18 ls []) := by
  refine seg_18 ha hcs hO hP hS hl ?_
  intro v P Z T6 H locs ls hN hT6 hLH hP hS hl
  refine law_loop ha hcs P Z (kAt K00 0 0 (fun _ => 0)) T6 hN hT6 ?_ (T6 + 1) 0 v H locs ls (by omega) (Nat.zero_le _) hLH hP hS hl
  intro v S D C H locs ls hJ hD hP hS hl
  refine law_tail ha hcs P Z (kAt K00 0 0 (fun _ => 0)) S D C hN hJ hD rfl rfl hP hS hl ?_
  intro v H locs ls hP hS hl
  exact kk v H locs ls hP hS

end SD04

