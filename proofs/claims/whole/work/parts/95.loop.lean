/-! the law: its loop -/
section LLP
variable {p : Program} {l : Launch} {e : Env} {R : Room} {s : State} {m : MethodId} {args : Array Value} {below : List Frame} {meth : Method} {c : Code} {H : Heap} {locs : List Loc} {cells slots : Nat} {Q : State → Prop}
variable {ls : Array Slot} {GX GM : GT} {σ μ : Mem} {b L : Nat} {xs : Nat → Int32} {t : Nat}
theorem law_len {L t : Nat} (hL : L ≤ 3072) (ht : t < 9000) (h : ¬ (Int32.ofNat L - (6 : Int32)) < nI t) : t + 6 ≤ L := by
  have e0 : (Int32.ofNat L).toInt = (L : Int) := nI_toInt (n := L) (by omega)
  have e1 : (nI t).toInt = (t : Int) := nI_toInt (by omega)
  have e2 : (Int32.ofNat L - (6 : Int32)).toInt = (L : Int) - 6 := by
    rw [Int32.toInt_sub, e0, show (6 : Int32).toInt = 6 from rfl]
    exact Int.bmod_eq_of_le (by omega) (by omega)
  rw [Int32.lt_iff_toInt_lt, e1, e2] at h
  omega
set_option maxHeartbeats 2000000 in
/-- one of the script's calls -/
theorem law_one (C : LC p s args m meth c b L xs GX GM) (hR : Rl σ μ) (h : LWS s GX GM σ μ H locs) (ht : t + 6 ≤ L) (hL : L ≤ 3072) (hRR : 100 ≤ R.frames ∧ 1000 ≤ R.locals) (hf : cells ≤ R.cells ∧ slots ≤ R.slots) (hls : ls.size = 4) (hl : lv_has ls 4 (lLoc b GX GM (nI t)))
    (kk : ∀ (σ1 μ1 : Mem) (H1 : Heap) (locs1 : List Loc), Rl σ1 μ1 → LWS s GX GM σ1 μ1 H1 locs1 → W p l e R s m args below meth c H1 locs1 cells slots Q (F0 m 1342 ls [])) : W p l e R s m args below meth c H locs cells slots Q (F0 m 27 ls []) := by
  have hx := C.1.1
  have hb := C.1.2.1
  have hA : ¬ lA s b := fun q => absurd q (Nat.not_le.mpr C.2.2.2.2)
  refine lv_aload_n hx hb dL_law_27 rfl (lv_at hl 3 rfl) ?_
  refine lv_iload_n hx hb dL_law_28 rfl (lv_at hl 0 rfl) ?_
  refine va_sld hx hb C.2.2.2.1 C.2.2.2.2 hA h.2.2 (vp_in_nI (by omega) (by omega)) dL_law_29 ?_
  refine lv_bipush (v := 63) hx hb dL_law_30 rfl ?_
  refine lv_iand hx hb dL_law_32 ?_
  generalize (xs (nI t).toNatClampNeg) &&& 63 = x
  by_cases c_0 : x = 0
  · refine lv_tableIn (tgt := 220) hx hb dL_law_33 (by rw [c_0]; decide) (by rw [c_0]; decide) (off := 187) (by rw [c_0]; rfl) (by decide) ?_
    exact law_0 C hR h ht hL hRR hf hls hl kk
  by_cases c_1 : x = 1
  · refine lv_tableIn (tgt := 253) hx hb dL_law_33 (by rw [c_1]; decide) (by rw [c_1]; decide) (off := 220) (by rw [c_1]; rfl) (by decide) ?_
    exact law_1 C hR h ht hL hRR hf hls hl kk
  by_cases c_2 : x = 2
  · refine lv_tableIn (tgt := 296) hx hb dL_law_33 (by rw [c_2]; decide) (by rw [c_2]; decide) (off := 263) (by rw [c_2]; rfl) (by decide) ?_
    exact law_2 C hR h ht hL hRR hf hls hl kk
  by_cases c_3 : x = 3
  · refine lv_tableIn (tgt := 329) hx hb dL_law_33 (by rw [c_3]; decide) (by rw [c_3]; decide) (off := 296) (by rw [c_3]; rfl) (by decide) ?_
    exact law_3 C hR h ht hL hRR hf hls hl kk
  by_cases c_4 : x = 4
  · refine lv_tableIn (tgt := 352) hx hb dL_law_33 (by rw [c_4]; decide) (by rw [c_4]; decide) (off := 319) (by rw [c_4]; rfl) (by decide) ?_
    exact law_4 C hR h ht hL hRR hf hls hl kk
  by_cases c_5 : x = 5
  · refine lv_tableIn (tgt := 415) hx hb dL_law_33 (by rw [c_5]; decide) (by rw [c_5]; decide) (off := 382) (by rw [c_5]; rfl) (by decide) ?_
    exact law_5 C hR h ht hL hRR hf hls hl kk
  by_cases c_6 : x = 6
  · refine lv_tableIn (tgt := 438) hx hb dL_law_33 (by rw [c_6]; decide) (by rw [c_6]; decide) (off := 405) (by rw [c_6]; rfl) (by decide) ?_
    exact law_6 C hR h ht hL hRR hf hls hl kk
  by_cases c_7 : x = 7
  · refine lv_tableIn (tgt := 471) hx hb dL_law_33 (by rw [c_7]; decide) (by rw [c_7]; decide) (off := 438) (by rw [c_7]; rfl) (by decide) ?_
    exact law_7 C hR h ht hL hRR hf hls hl kk
  by_cases c_8 : x = 8
  · refine lv_tableIn (tgt := 514) hx hb dL_law_33 (by rw [c_8]; decide) (by rw [c_8]; decide) (off := 481) (by rw [c_8]; rfl) (by decide) ?_
    exact law_8 C hR h ht hL hRR hf hls hl kk
  by_cases c_9 : x = 9
  · refine lv_tableIn (tgt := 537) hx hb dL_law_33 (by rw [c_9]; decide) (by rw [c_9]; decide) (off := 504) (by rw [c_9]; rfl) (by decide) ?_
    exact law_9 C hR h ht hL hRR hf hls hl kk
  by_cases c_10 : x = 10
  · refine lv_tableIn (tgt := 560) hx hb dL_law_33 (by rw [c_10]; decide) (by rw [c_10]; decide) (off := 527) (by rw [c_10]; rfl) (by decide) ?_
    exact law_10 C hR h ht hL hRR hf hls hl kk
  by_cases c_11 : x = 11
  · refine lv_tableIn (tgt := 593) hx hb dL_law_33 (by rw [c_11]; decide) (by rw [c_11]; decide) (off := 560) (by rw [c_11]; rfl) (by decide) ?_
    exact law_11 C hR h ht hL hRR hf hls hl kk
  by_cases c_12 : x = 12
  · refine lv_tableIn (tgt := 626) hx hb dL_law_33 (by rw [c_12]; decide) (by rw [c_12]; decide) (off := 593) (by rw [c_12]; rfl) (by decide) ?_
    exact law_12 C hR h ht hL hRR hf hls hl kk
  by_cases c_13 : x = 13
  · refine lv_tableIn (tgt := 659) hx hb dL_law_33 (by rw [c_13]; decide) (by rw [c_13]; decide) (off := 626) (by rw [c_13]; rfl) (by decide) ?_
    exact law_13 C hR h ht hL hRR hf hls hl kk
  by_cases c_14 : x = 14
  · refine lv_tableIn (tgt := 692) hx hb dL_law_33 (by rw [c_14]; decide) (by rw [c_14]; decide) (off := 659) (by rw [c_14]; rfl) (by decide) ?_
    exact law_14 C hR h ht hL hRR hf hls hl kk
  by_cases c_15 : x = 15
  · refine lv_tableIn (tgt := 725) hx hb dL_law_33 (by rw [c_15]; decide) (by rw [c_15]; decide) (off := 692) (by rw [c_15]; rfl) (by decide) ?_
    exact law_15 C hR h ht hL hRR hf hls hl kk
  by_cases c_16 : x = 16
  · refine lv_tableIn (tgt := 748) hx hb dL_law_33 (by rw [c_16]; decide) (by rw [c_16]; decide) (off := 715) (by rw [c_16]; rfl) (by decide) ?_
    exact law_16 C hR h ht hL hRR hf hls hl kk
  by_cases c_17 : x = 17
  · refine lv_tableIn (tgt := 771) hx hb dL_law_33 (by rw [c_17]; decide) (by rw [c_17]; decide) (off := 738) (by rw [c_17]; rfl) (by decide) ?_
    exact law_17 C hR h ht hL hRR hf hls hl kk
  by_cases c_18 : x = 18
  · refine lv_tableIn (tgt := 784) hx hb dL_law_33 (by rw [c_18]; decide) (by rw [c_18]; decide) (off := 751) (by rw [c_18]; rfl) (by decide) ?_
    exact law_18 C hR h ht hL hRR hf hls hl kk
  by_cases c_19 : x = 19
  · refine lv_tableIn (tgt := 797) hx hb dL_law_33 (by rw [c_19]; decide) (by rw [c_19]; decide) (off := 764) (by rw [c_19]; rfl) (by decide) ?_
    exact law_19 C hR h ht hL hRR hf hls hl kk
  by_cases c_20 : x = 20
  · refine lv_tableIn (tgt := 820) hx hb dL_law_33 (by rw [c_20]; decide) (by rw [c_20]; decide) (off := 787) (by rw [c_20]; rfl) (by decide) ?_
    exact law_20 C hR h ht hL hRR hf hls hl kk
  by_cases c_21 : x = 21
  · refine lv_tableIn (tgt := 843) hx hb dL_law_33 (by rw [c_21]; decide) (by rw [c_21]; decide) (off := 810) (by rw [c_21]; rfl) (by decide) ?_
    exact law_21 C hR h ht hL hRR hf hls hl kk
  by_cases c_22 : x = 22
  · refine lv_tableIn (tgt := 866) hx hb dL_law_33 (by rw [c_22]; decide) (by rw [c_22]; decide) (off := 833) (by rw [c_22]; rfl) (by decide) ?_
    exact law_22 C hR h ht hL hRR hf hls hl kk
  by_cases c_23 : x = 23
  · refine lv_tableIn (tgt := 879) hx hb dL_law_33 (by rw [c_23]; decide) (by rw [c_23]; decide) (off := 846) (by rw [c_23]; rfl) (by decide) ?_
    exact law_23 C hR h ht hL hRR hf hls hl kk
  by_cases c_24 : x = 24
  · refine lv_tableIn (tgt := 902) hx hb dL_law_33 (by rw [c_24]; decide) (by rw [c_24]; decide) (off := 869) (by rw [c_24]; rfl) (by decide) ?_
    exact law_24 C hR h ht hL hRR hf hls hl kk
  by_cases c_25 : x = 25
  · refine lv_tableIn (tgt := 925) hx hb dL_law_33 (by rw [c_25]; decide) (by rw [c_25]; decide) (off := 892) (by rw [c_25]; rfl) (by decide) ?_
    exact law_25 C hR h ht hL hRR hf hls hl kk
  by_cases c_26 : x = 26
  · refine lv_tableIn (tgt := 948) hx hb dL_law_33 (by rw [c_26]; decide) (by rw [c_26]; decide) (off := 915) (by rw [c_26]; rfl) (by decide) ?_
    exact law_26 C hR h ht hL hRR hf hls hl kk
  by_cases c_27 : x = 27
  · refine lv_tableIn (tgt := 961) hx hb dL_law_33 (by rw [c_27]; decide) (by rw [c_27]; decide) (off := 928) (by rw [c_27]; rfl) (by decide) ?_
    exact law_27 C hR h ht hL hRR hf hls hl kk
  by_cases c_28 : x = 28
  · refine lv_tableIn (tgt := 984) hx hb dL_law_33 (by rw [c_28]; decide) (by rw [c_28]; decide) (off := 951) (by rw [c_28]; rfl) (by decide) ?_
    exact law_28 C hR h ht hL hRR hf hls hl kk
  by_cases c_29 : x = 29
  · refine lv_tableIn (tgt := 1017) hx hb dL_law_33 (by rw [c_29]; decide) (by rw [c_29]; decide) (off := 984) (by rw [c_29]; rfl) (by decide) ?_
    exact law_29 C hR h ht hL hRR hf hls hl kk
  by_cases c_30 : x = 30
  · refine lv_tableIn (tgt := 1050) hx hb dL_law_33 (by rw [c_30]; decide) (by rw [c_30]; decide) (off := 1017) (by rw [c_30]; rfl) (by decide) ?_
    exact law_30 C hR h ht hL hRR hf hls hl kk
  by_cases c_31 : x = 31
  · refine lv_tableIn (tgt := 1083) hx hb dL_law_33 (by rw [c_31]; decide) (by rw [c_31]; decide) (off := 1050) (by rw [c_31]; rfl) (by decide) ?_
    exact law_31 C hR h ht hL hRR hf hls hl kk
  by_cases c_32 : x = 32
  · refine lv_tableIn (tgt := 1116) hx hb dL_law_33 (by rw [c_32]; decide) (by rw [c_32]; decide) (off := 1083) (by rw [c_32]; rfl) (by decide) ?_
    exact law_32 C hR h ht hL hRR hf hls hl kk
  by_cases c_33 : x = 33
  · refine lv_tableIn (tgt := 1139) hx hb dL_law_33 (by rw [c_33]; decide) (by rw [c_33]; decide) (off := 1106) (by rw [c_33]; rfl) (by decide) ?_
    exact law_33 C hR h ht hL hRR hf hls hl kk
  by_cases c_34 : x = 34
  · refine lv_tableIn (tgt := 1172) hx hb dL_law_33 (by rw [c_34]; decide) (by rw [c_34]; decide) (off := 1139) (by rw [c_34]; rfl) (by decide) ?_
    exact law_34 C hR h ht hL hRR hf hls hl kk
  by_cases c_35 : x = 35
  · refine lv_tableIn (tgt := 1195) hx hb dL_law_33 (by rw [c_35]; decide) (by rw [c_35]; decide) (off := 1162) (by rw [c_35]; rfl) (by decide) ?_
    exact law_35 C hR h ht hL hRR hf hls hl kk
  by_cases c_36 : x = 36
  · refine lv_tableIn (tgt := 1228) hx hb dL_law_33 (by rw [c_36]; decide) (by rw [c_36]; decide) (off := 1195) (by rw [c_36]; rfl) (by decide) ?_
    exact law_36 C hR h ht hL hRR hf hls hl kk
  by_cases c_37 : x = 37
  · refine lv_tableIn (tgt := 1241) hx hb dL_law_33 (by rw [c_37]; decide) (by rw [c_37]; decide) (off := 1208) (by rw [c_37]; rfl) (by decide) ?_
    exact law_37 C hR h ht hL hRR hf hls hl kk
  by_cases c_38 : x = 38
  · refine lv_tableIn (tgt := 1255) hx hb dL_law_33 (by rw [c_38]; decide) (by rw [c_38]; decide) (off := 1222) (by rw [c_38]; rfl) (by decide) ?_
    exact law_38 C hR h ht hL hRR hf hls hl kk
  by_cases c_39 : x = 39
  · refine lv_tableIn (tgt := 1269) hx hb dL_law_33 (by rw [c_39]; decide) (by rw [c_39]; decide) (off := 1236) (by rw [c_39]; rfl) (by decide) ?_
    exact law_39 C hR h ht hL hRR hf hls hl kk
  by_cases c_40 : x = 40
  · refine lv_tableIn (tgt := 1292) hx hb dL_law_33 (by rw [c_40]; decide) (by rw [c_40]; decide) (off := 1259) (by rw [c_40]; rfl) (by decide) ?_
    exact law_40 C hR h ht hL hRR hf hls hl kk
  by_cases c_41 : x = 41
  · refine lv_tableIn (tgt := 1305) hx hb dL_law_33 (by rw [c_41]; decide) (by rw [c_41]; decide) (off := 1272) (by rw [c_41]; rfl) (by decide) ?_
    exact law_41 C hR h ht hL hRR hf hls hl kk
  by_cases c_42 : x = 42
  · refine lv_tableIn (tgt := 1328) hx hb dL_law_33 (by rw [c_42]; decide) (by rw [c_42]; decide) (off := 1295) (by rw [c_42]; rfl) (by decide) ?_
    exact law_42 C hR h ht hL hRR hf hls hl kk
  have t_0 := i_ne c_0
  have t_1 := i_ne c_1
  have t_2 := i_ne c_2
  have t_3 := i_ne c_3
  have t_4 := i_ne c_4
  have t_5 := i_ne c_5
  have t_6 := i_ne c_6
  have t_7 := i_ne c_7
  have t_8 := i_ne c_8
  have t_9 := i_ne c_9
  have t_10 := i_ne c_10
  have t_11 := i_ne c_11
  have t_12 := i_ne c_12
  have t_13 := i_ne c_13
  have t_14 := i_ne c_14
  have t_15 := i_ne c_15
  have t_16 := i_ne c_16
  have t_17 := i_ne c_17
  have t_18 := i_ne c_18
  have t_19 := i_ne c_19
  have t_20 := i_ne c_20
  have t_21 := i_ne c_21
  have t_22 := i_ne c_22
  have t_23 := i_ne c_23
  have t_24 := i_ne c_24
  have t_25 := i_ne c_25
  have t_26 := i_ne c_26
  have t_27 := i_ne c_27
  have t_28 := i_ne c_28
  have t_29 := i_ne c_29
  have t_30 := i_ne c_30
  have t_31 := i_ne c_31
  have t_32 := i_ne c_32
  have t_33 := i_ne c_33
  have t_34 := i_ne c_34
  have t_35 := i_ne c_35
  have t_36 := i_ne c_36
  have t_37 := i_ne c_37
  have t_38 := i_ne c_38
  have t_39 := i_ne c_39
  have t_40 := i_ne c_40
  have t_41 := i_ne c_41
  have t_42 := i_ne c_42
  have k_0 : (0 : Int32).toInt = 0 := by decide
  have k_1 : (1 : Int32).toInt = 1 := by decide
  have k_2 : (2 : Int32).toInt = 2 := by decide
  have k_3 : (3 : Int32).toInt = 3 := by decide
  have k_4 : (4 : Int32).toInt = 4 := by decide
  have k_5 : (5 : Int32).toInt = 5 := by decide
  have k_6 : (6 : Int32).toInt = 6 := by decide
  have k_7 : (7 : Int32).toInt = 7 := by decide
  have k_8 : (8 : Int32).toInt = 8 := by decide
  have k_9 : (9 : Int32).toInt = 9 := by decide
  have k_10 : (10 : Int32).toInt = 10 := by decide
  have k_11 : (11 : Int32).toInt = 11 := by decide
  have k_12 : (12 : Int32).toInt = 12 := by decide
  have k_13 : (13 : Int32).toInt = 13 := by decide
  have k_14 : (14 : Int32).toInt = 14 := by decide
  have k_15 : (15 : Int32).toInt = 15 := by decide
  have k_16 : (16 : Int32).toInt = 16 := by decide
  have k_17 : (17 : Int32).toInt = 17 := by decide
  have k_18 : (18 : Int32).toInt = 18 := by decide
  have k_19 : (19 : Int32).toInt = 19 := by decide
  have k_20 : (20 : Int32).toInt = 20 := by decide
  have k_21 : (21 : Int32).toInt = 21 := by decide
  have k_22 : (22 : Int32).toInt = 22 := by decide
  have k_23 : (23 : Int32).toInt = 23 := by decide
  have k_24 : (24 : Int32).toInt = 24 := by decide
  have k_25 : (25 : Int32).toInt = 25 := by decide
  have k_26 : (26 : Int32).toInt = 26 := by decide
  have k_27 : (27 : Int32).toInt = 27 := by decide
  have k_28 : (28 : Int32).toInt = 28 := by decide
  have k_29 : (29 : Int32).toInt = 29 := by decide
  have k_30 : (30 : Int32).toInt = 30 := by decide
  have k_31 : (31 : Int32).toInt = 31 := by decide
  have k_32 : (32 : Int32).toInt = 32 := by decide
  have k_33 : (33 : Int32).toInt = 33 := by decide
  have k_34 : (34 : Int32).toInt = 34 := by decide
  have k_35 : (35 : Int32).toInt = 35 := by decide
  have k_36 : (36 : Int32).toInt = 36 := by decide
  have k_37 : (37 : Int32).toInt = 37 := by decide
  have k_38 : (38 : Int32).toInt = 38 := by decide
  have k_39 : (39 : Int32).toInt = 39 := by decide
  have k_40 : (40 : Int32).toInt = 40 := by decide
  have k_41 : (41 : Int32).toInt = 41 := by decide
  have k_42 : (42 : Int32).toInt = 42 := by decide
  refine lv_tableOut (tgt := 1342) hx hb dL_law_33 (by omega) (by decide) ?_
  exact kk σ μ H locs hR h
set_option maxHeartbeats 2000000 in
theorem law_loop (C : LC p s args m meth c b L xs GX GM) (hL : L ≤ 3072) (hRR : 100 ≤ R.frames ∧ 1000 ≤ R.locals) (hf : cells ≤ R.cells ∧ slots ≤ R.slots)
    (kend : ∀ (ls : Array Slot) (σ1 μ1 : Mem) (H1 : Heap) (locs1 : List Loc), LWS s GX GM σ1 μ1 H1 locs1 → W p l e R s m args below meth c H1 locs1 cells slots Q (F0 m 1348 ls [])) :
    ∀ (n t : Nat) (ls : Array Slot) (σ μ : Mem) (H : Heap) (locs : List Loc), t + n = 3072 + 6 → Rl σ μ → LWS s GX GM σ μ H locs → lv_has ls 4 (lLoc b GX GM (nI t)) → W p l e R s m args below meth c H locs cells slots Q (F0 m 18 ls []) := by
  have hx := C.1.1
  have hb := C.1.2.1
  have hA : ¬ lA s b := fun q => absurd q (Nat.not_le.mpr C.2.2.2.2)
  intro n
  induction n using Nat.strongRecOn with
  | ind n ih =>
    intro t ls σ μ H locs hn hR h hl
    refine lv_iload_n hx hb dL_law_18 rfl (lv_at hl 0 rfl) ?_
    refine lv_aload_n hx hb dL_law_19 rfl (lv_at hl 3 rfl) ?_
    refine va_slen hx hb C.2.2.2.1 C.2.2.2.2 hA h.2.2 dL_law_20 ?_
    refine lv_bipush (v := 6) hx hb dL_law_21 rfl ?_
    refine lv_isub hx hb dL_law_23 ?_
    refine lv_icmp_gt (tgt := 1348) hx hb dL_law_24 (by decide) (fun _ => kend ls σ μ H locs h) (fun q => ?_)
    have ht : t + 6 ≤ L := law_len hL (by omega) q
    refine law_one C hR h ht hL hRR hf hl.1 hl (fun σ1 μ1 H1 locs1 hR1 h1 => ?_)
    refine lv_iinc (v := nI (t + 6)) (lv' := lLoc b GX GM (nI (t + 6))) hx hb dL_law_1342 hl (k := 0) rfl (nI_add t 6) (by decide) rfl (fun ls1 hl1 => ?_)
    refine lv_goto (tgt := 18) hx hb dL_law_1345 (by decide) ?_
    exact ih (n - 6) (by omega) (t + 6) ls1 σ1 μ1 H1 locs1 (by omega) hR1 h1 hl1
end LLP
