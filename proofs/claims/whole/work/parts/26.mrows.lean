theorem hd_X8_found : kHd yX8_found 1 := by decide +kernel
theorem hd_X8_in : kHd yX8_in 3 := by decide +kernel
theorem hd_X8_isRow : kHd yX8_isRow 1 := by decide +kernel
theorem hd_X8_isText : kHd yX8_isText 1 := by decide +kernel
theorem hd_X8_tell : kHd yX8_tell 1 := by decide +kernel
theorem kw_X8_95 : ∀ w ∈ k5S RX8 95 yX8_in cX8_in 6 (some .boolean), w ∈ TB := tb_ins (by decide +kernel)
theorem kw_X8_101 : ∀ w ∈ k5S RX8 101 yX8_isRow cX8_isRow 1 (some .boolean), w ∈ TB := tb_ins (by decide +kernel)
theorem kw_X8_105 : ∀ w ∈ k5V RX8 105 yX8_found cX8_found 2 (some .int), w ∈ TB := tb_ins (by decide +kernel)
theorem kw_X8_112 : ∀ w ∈ k5S RX8 112 yX8_isText cX8_isText 1 (some .boolean), w ∈ TB := tb_ins (by decide +kernel)
theorem kw_X8_109 : ∀ w ∈ k5V RX8 109 yX8_tell cX8_tell 2 (some .int), w ∈ TB := tb_ins (by decide +kernel)
set_option maxHeartbeats 4000000 in
set_option maxRecDepth 100000 in
theorem c_X8_in (G : GT) (l : Launch) (σ : Mem) (x : Int64) (a : Int64) (b : Int64)  : CI G 24 (cM G) l yX8_in ({ frames := 0, cells := 0, slots := 0, locals := 0 } : Room) cX8_in 6 (some .boolean) [.long x, .long a, .long b] σ (fun (r : Int32) u => r = b2i (b_in x a b) ∧ u = σ) := by
  intro sz
  refine xbegin (by decide) (Nat.le_of_ble_eq_true rfl) ?_
  intro p e s m below meth c ls hsz ha hP hl
  subst hsz
  have hx := ha.1
  have hb := ha.2.1
  have hS : va_S (xA G 24 s.heap.size) s.heap s.heap [] := va_S.rf
  have hl : lv_has ls 6 [(0, .long x), (2, .long a), (4, .long b)] := hl
  have k_0 : (0 : Int32).toInt = 0 := by decide
  have k_1 : (1 : Int32).toInt = 1 := by decide
  have k_4 : (4 : Int32).toInt = 4 := by decide
  have k_5 : (5 : Int32).toInt = 5 := by decide
  have k_6 : (6 : Int32).toInt = 6 := by decide
  refine lv_lload_n hx hb dX8_in_0 rfl (lv_at hl 0 rfl) ?_
  refine lv_lload_n hx hb dX8_in_1 rfl (lv_at hl 1 rfl) ?_
  refine W.lcmp hx hb dX8_in_2 ?_
  refine l_if_lt (tgt := 17) hx hb dX8_in_3 (by decide) (fun c_1 => ?_) (fun c_1 => ?_)
  · have w_1 := c_1
    refine lv_iconst (v := 0) hx hb dX8_in_17 (by decide) ?_
    exact xzret ha hP hS rfl dX8_in_18 ⟨by simp [b2i, b_in, c_1], rfl⟩ rfl
  · have w_1 := c_1
    refine lv_lload_n hx hb dX8_in_6 rfl (lv_at hl 0 rfl) ?_
    refine lv_lload hx hb dX8_in_7 (lv_at hl 2 rfl) ?_
    refine W.lcmp hx hb dX8_in_9 ?_
    refine l_if_gt (tgt := 17) hx hb dX8_in_10 (by decide) (fun c_2 => ?_) (fun c_2 => ?_)
    · have w_2 := c_2
      refine lv_iconst (v := 0) hx hb dX8_in_17 (by decide) ?_
      exact xzret ha hP hS rfl dX8_in_18 ⟨by simp [b2i, b_in, c_1, c_2], rfl⟩ rfl
    · have w_2 := c_2
      refine lv_iconst (v := 1) hx hb dX8_in_13 (by decide) ?_
      refine lv_goto (tgt := 18) hx hb dX8_in_14 (by decide) ?_
      exact xzret ha hP hS rfl dX8_in_18 ⟨by simp [b2i, b_in, c_1, c_2], rfl⟩ rfl
set_option maxHeartbeats 4000000 in
set_option maxRecDepth 100000 in
theorem c_X8_has (G : GT) (l : Launch) (σ : Mem) (x : Int32) (i : Int32)  : CI G 24 (cM G) l yX8_has ({ frames := 0, cells := 0, slots := 0, locals := 0 } : Room) cX8_has 2 (some .boolean) [.int x, .int i] σ (fun (r : Int32) u => r = b2i (b_has x i) ∧ u = σ) := by
  intro sz
  refine xbegin (by decide) (Nat.le_of_ble_eq_true rfl) ?_
  intro p e s m below meth c ls hsz ha hP hl
  subst hsz
  have hx := ha.1
  have hb := ha.2.1
  have hS : va_S (xA G 24 s.heap.size) s.heap s.heap [] := va_S.rf
  have hl : lv_has ls 2 [(0, .int x), (1, .int i)] := hl
  have k_0 : (0 : Int32).toInt = 0 := by decide
  have k_1 : (1 : Int32).toInt = 1 := by decide
  have k_4 : (4 : Int32).toInt = 4 := by decide
  have k_5 : (5 : Int32).toInt = 5 := by decide
  have k_6 : (6 : Int32).toInt = 6 := by decide
  refine lv_iload_n hx hb dX8_has_0 rfl (lv_at hl 0 rfl) ?_
  refine lv_iload_n hx hb dX8_has_1 rfl (lv_at hl 1 rfl) ?_
  refine lv_ishr hx hb dX8_has_2 ?_
  refine lv_iconst (v := 1) hx hb dX8_has_3 (by decide) ?_
  refine lv_iand hx hb dX8_has_4 ?_
  refine lv_iconst (v := 1) hx hb dX8_has_5 (by decide) ?_
  refine lv_icmp_ne (tgt := 13) hx hb dX8_has_6 (by decide) (fun c_1 => ?_) (fun c_1 => ?_)
  · have t_1 := i_ne c_1
    refine lv_iconst (v := 0) hx hb dX8_has_13 (by decide) ?_
    exact xzret ha hP hS rfl dX8_has_14 ⟨by simp [b2i, b_has, i_leN, c_1, -Int32.not_lt] <;> first | rfl | simp_all, rfl⟩ rfl
  · have t_1 := i_eq c_1
    refine lv_iconst (v := 1) hx hb dX8_has_9 (by decide) ?_
    refine lv_goto (tgt := 14) hx hb dX8_has_10 (by decide) ?_
    exact xzret ha hP hS rfl dX8_has_14 ⟨by simp [b2i, b_has, i_leN, c_1, -Int32.not_lt] <;> first | rfl | simp_all, rfl⟩ rfl
set_option maxHeartbeats 4000000 in
set_option maxRecDepth 100000 in
theorem c_X8_isRow (G : GT) (l : Launch) (σ : Mem) (ro : Int32)  : CI G 24 (cM G) l yX8_isRow ({ frames := 1, cells := 0, slots := 0, locals := 25 } : Room) cX8_isRow 1 (some .boolean) [.int ro] σ (fun (r : Int32) u => r = b2i (a_in ro 6) ∧ u = σ) := by
  intro sz
  refine xbegin (by decide) (Nat.le_of_ble_eq_true rfl) ?_
  intro p e s m below meth c ls hsz ha hP hl
  subst hsz
  have hx := ha.1
  have hb := ha.2.1
  have hS : va_S (xA G 24 s.heap.size) s.heap s.heap [] := va_S.rf
  have hl : lv_has ls 1 [(0, .int ro)] := hl
  have k_0 : (0 : Int32).toInt = 0 := by decide
  have k_4 : (4 : Int32).toInt = 4 := by decide
  have k_5 : (5 : Int32).toInt = 5 := by decide
  have k_6 : (6 : Int32).toInt = 6 := by decide
  refine lv_iload_n hx hb dX8_isRow_0 rfl (lv_at hl 0 rfl) ?_
  refine lv_i2l (v := ro.toInt64) hx hb dX8_isRow_1 rfl ?_
  refine lv_lconst (v := 0) hx hb dX8_isRow_2 (by decide) ?_
  refine lv_ldc2 (v := 5) hx hb ha.2.2.2.1 (ha.2.2.2.2.1 _ (tb_in (w := .constantLong RX8 93 5) (by decide +kernel))) dX8_isRow_3 ?_
  refine xSi ha hP hS (y := yX8_in) (As := [.long ro.toInt64, .long 0, .long 5]) (rest := []) rfl (c_X8_in G l σ ro.toInt64 0 5 ) kw_X8_95 hd_X8_in rfl ⟨rfl, rfl⟩ ⟨Nat.le_of_ble_eq_true rfl, Nat.le_of_ble_eq_true rfl⟩ ⟨Nat.zero_le _, Nat.zero_le _⟩ hl.1 (Nat.le_of_ble_eq_true rfl) rfl dX8_isRow_6 (fun r u H locs hpq hP hS => ?_)
  obtain ⟨hr_, hu_⟩ := hpq
  have hr_ := hr_.symm
  have hu_ := hu_.symm
  subst hr_
  subst hu_
  exact xzret ha hP hS (b2i_nar _) dX8_isRow_9 ⟨by rw [bin_in (n := 6) (by decide) (by decide)], rfl⟩ rfl
set_option maxHeartbeats 4000000 in
set_option maxRecDepth 100000 in
theorem c_X8_isText (G : GT) (l : Launch) (σ : Mem) (ro : Int32)  : CI G 24 (cM G) l yX8_isText ({ frames := 1, cells := 0, slots := 0, locals := 25 } : Room) cX8_isText 1 (some .boolean) [.int ro] σ (fun (r : Int32) u => r = b2i (a_in ro 4) ∧ u = σ) := by
  intro sz
  refine xbegin (by decide) (Nat.le_of_ble_eq_true rfl) ?_
  intro p e s m below meth c ls hsz ha hP hl
  subst hsz
  have hx := ha.1
  have hb := ha.2.1
  have hS : va_S (xA G 24 s.heap.size) s.heap s.heap [] := va_S.rf
  have hl : lv_has ls 1 [(0, .int ro)] := hl
  have k_0 : (0 : Int32).toInt = 0 := by decide
  have k_4 : (4 : Int32).toInt = 4 := by decide
  have k_5 : (5 : Int32).toInt = 5 := by decide
  have k_6 : (6 : Int32).toInt = 6 := by decide
  refine lv_iload_n hx hb dX8_isText_0 rfl (lv_at hl 0 rfl) ?_
  refine lv_i2l (v := ro.toInt64) hx hb dX8_isText_1 rfl ?_
  refine lv_lconst (v := 0) hx hb dX8_isText_2 (by decide) ?_
  refine lv_ldc2 (v := 3) hx hb ha.2.2.2.1 (ha.2.2.2.2.1 _ (tb_in (w := .constantLong RX8 99 3) (by decide +kernel))) dX8_isText_3 ?_
  refine xSi ha hP hS (y := yX8_in) (As := [.long ro.toInt64, .long 0, .long 3]) (rest := []) rfl (c_X8_in G l σ ro.toInt64 0 3 ) kw_X8_95 hd_X8_in rfl ⟨rfl, rfl⟩ ⟨Nat.le_of_ble_eq_true rfl, Nat.le_of_ble_eq_true rfl⟩ ⟨Nat.zero_le _, Nat.zero_le _⟩ hl.1 (Nat.le_of_ble_eq_true rfl) rfl dX8_isText_6 (fun r u H locs hpq hP hS => ?_)
  obtain ⟨hr_, hu_⟩ := hpq
  have hr_ := hr_.symm
  have hu_ := hu_.symm
  subst hr_
  subst hu_
  exact xzret ha hP hS (b2i_nar _) dX8_isText_9 ⟨by rw [bin_in (n := 4) (by decide) (by decide)], rfl⟩ rfl
set_option maxHeartbeats 4000000 in
set_option maxRecDepth 100000 in
theorem c_X8_bits (G : GT) (l : Launch) (σ : Mem) (x : Int32) (hc : b_clr 33 x = true) : CI G 24 (cM G) l yX8_bits ({ frames := 0, cells := 0, slots := 0, locals := 0 } : Room) cX8_bits 3 (some .int) [.int x] σ (fun (r : Int32) u => r = b_cnt 33 x ∧ u = σ) := by
  intro sz
  refine xbegin (by decide) (Nat.le_of_ble_eq_true rfl) ?_
  intro p e s m below meth c ls hsz ha hP hl
  subst hsz
  have hx := ha.1
  have hb := ha.2.1
  have hS : va_S (xA G 24 s.heap.size) s.heap s.heap [] := va_S.rf
  have hl : lv_has ls 3 [(0, .int x)] := hl
  have k_0 : (0 : Int32).toInt = 0 := by decide
  have k_1 : (1 : Int32).toInt = 1 := by decide
  have k_4 : (4 : Int32).toInt = 4 := by decide
  have k_5 : (5 : Int32).toInt = 5 := by decide
  have k_6 : (6 : Int32).toInt = 6 := by decide
  refine lv_iconst (v := 0) hx hb dX8_bits_0 (by decide) ?_
  refine lv_istore_n (lv' := [(1, .int 0), (0, .int x)]) hx hb dX8_bits_1 rfl hl (by decide) rfl (fun ls hl => ?_)
  refine lv_iload_n hx hb dX8_bits_2 rfl (lv_at hl 1 rfl) ?_
  refine lv_istore_n (lv' := [(2, .int x), (1, .int 0), (0, .int x)]) hx hb dX8_bits_3 rfl hl (by decide) rfl (fun ls hl => ?_)
  have lp_4 : ∀ (d j : Nat) (x1 : Int32) (x2 : Int32) (H : Heap) (locs : List Loc) (ls : Array Slot), j ≤ 33 → 33 - j < d → x1 = x1 → x2 = x2 → (b_clr (33 - j) x2 = true) → (x1 + b_cnt (33 - j) x2 = b_cnt 33 x) → va_P G.2.1 vwCl (wl G 24 (cM G σ)) H → va_S (xA G 24 s.heap.size) s.heap H locs → lv_has ls 3 [(2, .int x2), (1, .int x1), (0, .int x)] → W p l e ({ frames := 0, cells := 0, slots := 0, locals := 0 } : Room) s m ([.int x] : List Value).toArray below meth c H locs 0 0 (MQ below (va_Qi (fun (r : Int32) u => r = b_cnt 33 x ∧ u = σ) (xB G 24 (cM G)) (xA G 24 s.heap.size)) ([.int x] : List Value).toArray s 0 0 (xA G 24 s.heap.size)) (F0 m 4 ls []) := by
    intro d
    induction d with
    | zero => intro j x1 x2 H locs ls hj hd; exact absurd hd (Nat.not_lt_zero _)
    | succ d ih_4 =>
      intro j x1 x2 H locs ls hj_j hd_j e_x1 e_x2 hcl hct hP hS hl
      refine lv_iload_n hx hb dX8_bits_4 rfl (lv_at hl 0 rfl) ?_
      refine lv_if_eq (tgt := 20) hx hb dX8_bits_5 (by decide) (fun c_1 => ?_) (fun c_1 => ?_)
      · have t_1 := i_eq c_1
        have hxx : x1 = b_cnt 33 x := by rw [← hct]; cases hj9 : 33 - j with | zero => simp [b_cnt] | succ f => rw [b_cnt, if_pos (by assumption)]; simp
        refine lv_iload_n hx hb dX8_bits_20 rfl (lv_at hl 1 rfl) ?_
        exact xiret ha hP hS dX8_bits_21 ⟨by exact hxx, rfl⟩ rfl
      · have t_1 := i_ne c_1
        obtain ⟨f, hf⟩ : ∃ f, 33 - j = f + 1 := by cases hj9 : 33 - j with | zero => (rw [hj9, b_clr] at hcl; exact absurd (of_decide_eq_true hcl) (by assumption)) | succ f => exact ⟨f, rfl⟩
        rw [hf, b_clr, if_neg (by assumption)] at hcl
        rw [hf, b_cnt, if_neg (by assumption)] at hct
        have hff : 33 - (j + 1) = f := by omega
        refine lv_iinc (v := (x1 + 1)) (lv' := [(1, .int (x1 + 1)), (2, .int x2), (0, .int x)]) hx hb dX8_bits_8 hl (k := 1) rfl rfl (by decide) rfl (fun ls hl => ?_)
        refine lv_iload_n hx hb dX8_bits_11 rfl (lv_at hl 1 rfl) ?_
        refine lv_iload_n hx hb dX8_bits_12 rfl (lv_at hl 1 rfl) ?_
        refine lv_iconst (v := 1) hx hb dX8_bits_13 (by decide) ?_
        refine lv_isub hx hb dX8_bits_14 ?_
        refine lv_iand hx hb dX8_bits_15 ?_
        refine lv_istore_n (lv' := [(2, .int (x2 &&& (x2 - 1))), (1, .int (x1 + 1)), (0, .int x)]) hx hb dX8_bits_16 rfl hl (by decide) rfl (fun ls hl => ?_)
        refine lv_goto (tgt := 4) hx hb dX8_bits_17 (by decide) ?_
        exact ih_4 (j + 1) (x1 + 1) (x2 &&& (x2 - 1)) _ _ _ (by omega) (by omega) rfl rfl (by rw [hff]; exact hcl) (by rw [hff, Int32.add_assoc]; exact hct) hP hS (lv_sub hl [0, 1, 2] rfl)
  exact lp_4 (33 - 0 + 1) 0 0 x _ _ _ (by omega) (by omega) rfl rfl hc (Int32.zero_add _) hP hS (lv_sub hl [0, 1, 2] rfl)
set_option maxHeartbeats 4000000 in
set_option maxRecDepth 100000 in
theorem c_X8_found (G : GT) (l : Launch) (σ : Mem) (f : Int32) (hf : 0 ≤ f.toInt ∧ f.toInt ≤ 5) : CI G 24 (cM G) l yX8_found ({ frames := 0, cells := 0, slots := 0, locals := 0 } : Room) cX8_found 2 (some .int) [.ref (G.1 0), .int f] σ (fun (r : Int32) u => r = -3 ∧ u = n_found σ f) := by
  intro sz
  refine xbegin (by decide) (Nat.le_of_ble_eq_true rfl) ?_
  intro p e s m below meth c ls hsz ha hP hl
  subst hsz
  have hx := ha.1
  have hb := ha.2.1
  have hS : va_S (xA G 24 s.heap.size) s.heap s.heap [] := va_S.rf
  have hl : lv_has ls 2 [(0, .ref (G.1 0)), (1, .int f)] := hl
  have k_m3 : (-3 : Int32).toInt = -3 := by decide
  have k_0 : (0 : Int32).toInt = 0 := by decide
  have k_1 : (1 : Int32).toInt = 1 := by decide
  have k_4 : (4 : Int32).toInt = 4 := by decide
  have k_5 : (5 : Int32).toInt = 5 := by decide
  have k_6 : (6 : Int32).toInt = 6 := by decide
  refine lv_aload_n hx hb dX8_found_0 rfl (lv_at hl 0 rfl) ?_
  refine lv_iload_n hx hb dX8_found_1 rfl (lv_at hl 1 rfl) ?_
  refine p8_86 ha hP hS (cM_loc G) 0 (by decide) (cM_0 G _) (x := f) (Nat.le_of_ble_eq_true rfl) (mU σ 0 3 f) (fun q hq => mU_n _ _ _ hq) (cM_p0_3 G _ _) dX8_found_2 (fun H locs hP hS => ?_)
  refine lv_aload_n hx hb dX8_found_5 rfl (lv_at hl 0 rfl) ?_
  refine g8_26 ha hP 0 (by decide) (cM_0 G _) (v := .ref (G.1 5)) rfl dX8_found_6 ?_
  refine lv_iload_n hx hb dX8_found_9 rfl (lv_at hl 1 rfl) ?_
  refine lv_dup2_11 hx hb dX8_found_10 rfl rfl ?_
  refine xialdN ha hP 5 (by decide) (cM_5 G _) (ix f) (ix_nI (by omega)) (ix_lt (by omega) (by omega)) (by decide) dX8_found_11 ?_
  refine lv_iconst (v := 1) hx hb dX8_found_12 (by decide) ?_
  refine lv_iadd hx hb dX8_found_13 ?_
  refine xiastN ha hP hS (cM_loc G) 5 (by decide) (fun τ => cM_5 G τ) (ix f) (ix_nI (by omega)) (ix_lt (by omega) (by omega)) (by decide) dX8_found_14 (fun H locs hP hS => ?_)
  refine lv_bipush (v := (-3)) hx hb dX8_found_15 (by decide) ?_
  exact xiret ha hP hS dX8_found_17 ⟨by rfl, (by rfl)⟩ rfl
set_option maxHeartbeats 4000000 in
set_option maxRecDepth 100000 in
theorem c_X8_tell (G : GT) (l : Launch) (σ : Mem) (v : Int32)  : CI G 24 (cM G) l yX8_tell ({ frames := 0, cells := 0, slots := 0, locals := 0 } : Room) cX8_tell 2 (some .int) [.ref (G.1 0), .int v] σ (fun (r : Int32) u => r = 1 ∧ u = mU σ 0 0 v) := by
  intro sz
  refine xbegin (by decide) (Nat.le_of_ble_eq_true rfl) ?_
  intro p e s m below meth c ls hsz ha hP hl
  subst hsz
  have hx := ha.1
  have hb := ha.2.1
  have hS : va_S (xA G 24 s.heap.size) s.heap s.heap [] := va_S.rf
  have hl : lv_has ls 2 [(0, .ref (G.1 0)), (1, .int v)] := hl
  have k_0 : (0 : Int32).toInt = 0 := by decide
  have k_1 : (1 : Int32).toInt = 1 := by decide
  have k_4 : (4 : Int32).toInt = 4 := by decide
  have k_5 : (5 : Int32).toInt = 5 := by decide
  have k_6 : (6 : Int32).toInt = 6 := by decide
  refine lv_aload_n hx hb dX8_tell_0 rfl (lv_at hl 0 rfl) ?_
  refine lv_iload_n hx hb dX8_tell_1 rfl (lv_at hl 1 rfl) ?_
  refine p8_90 ha hP hS (cM_loc G) 0 (by decide) (cM_0 G _) (x := v) (Nat.le_of_ble_eq_true rfl) (mU σ 0 0 v) (fun q hq => mU_n _ _ _ hq) (cM_p0_0 G _ _) dX8_tell_2 (fun H locs hP hS => ?_)
  refine lv_iconst (v := 1) hx hb dX8_tell_5 (by decide) ?_
  exact xiret ha hP hS dX8_tell_6 ⟨by rfl, (by rfl)⟩ rfl
set_option maxHeartbeats 4000000 in
set_option maxRecDepth 100000 in
theorem c_X8_answer (G : GT) (l : Launch) (σ : Mem) (v : Int32) (w : Int32)  : CI G 24 (cM G) l yX8_answer ({ frames := 0, cells := 0, slots := 0, locals := 0 } : Room) cX8_answer 3 (some .int) [.ref (G.1 0), .int v, .int w] σ (fun (r : Int32) u => r = v ∧ u = mU σ 0 0 w) := by
  intro sz
  refine xbegin (by decide) (Nat.le_of_ble_eq_true rfl) ?_
  intro p e s m below meth c ls hsz ha hP hl
  subst hsz
  have hx := ha.1
  have hb := ha.2.1
  have hS : va_S (xA G 24 s.heap.size) s.heap s.heap [] := va_S.rf
  have hl : lv_has ls 3 [(0, .ref (G.1 0)), (1, .int v), (2, .int w)] := hl
  have k_0 : (0 : Int32).toInt = 0 := by decide
  have k_4 : (4 : Int32).toInt = 4 := by decide
  have k_5 : (5 : Int32).toInt = 5 := by decide
  have k_6 : (6 : Int32).toInt = 6 := by decide
  refine lv_aload_n hx hb dX8_answer_0 rfl (lv_at hl 0 rfl) ?_
  refine lv_iload_n hx hb dX8_answer_1 rfl (lv_at hl 2 rfl) ?_
  refine p8_90 ha hP hS (cM_loc G) 0 (by decide) (cM_0 G _) (x := w) (Nat.le_of_ble_eq_true rfl) (mU σ 0 0 w) (fun q hq => mU_n _ _ _ hq) (cM_p0_0 G _ _) dX8_answer_2 (fun H locs hP hS => ?_)
  refine lv_iload_n hx hb dX8_answer_5 rfl (lv_at hl 1 rfl) ?_
  exact xiret ha hP hS dX8_answer_6 ⟨by rfl, (by rfl)⟩ rfl
set_option maxHeartbeats 4000000 in
set_option maxRecDepth 100000 in
theorem c_X8_row (G : GT) (l : Launch) (σ : Mem) (ro : Int32) (n : Int32)  : CI G 24 (cM G) l yX8_row ({ frames := 2, cells := 0, slots := 0, locals := 45 } : Room) cX8_row 4 (some .int) [.ref (G.1 0), .int ro, .int n] σ (fun (r : Int32) u => r = (n_row σ ro n).1 ∧ u = (n_row σ ro n).2) := by
  intro sz
  refine xbegin (by decide) (Nat.le_of_ble_eq_true rfl) ?_
  intro p e s m below meth c ls hsz ha hP hl
  subst hsz
  have hx := ha.1
  have hb := ha.2.1
  have hS : va_S (xA G 24 s.heap.size) s.heap s.heap [] := va_S.rf
  have hl : lv_has ls 4 [(0, .ref (G.1 0)), (1, .int ro), (2, .int n)] := hl
  have k_m1 : (-1 : Int32).toInt = -1 := by decide
  have k_0 : (0 : Int32).toInt = 0 := by decide
  have k_4 : (4 : Int32).toInt = 4 := by decide
  have k_5 : (5 : Int32).toInt = 5 := by decide
  have k_6 : (6 : Int32).toInt = 6 := by decide
  have k_40 : (40 : Int32).toInt = 40 := by decide
  refine lv_iload_n hx hb dX8_row_0 rfl (lv_at hl 1 rfl) ?_
  refine xSi ha hP hS (y := yX8_isRow) (As := [.int ro]) (rest := []) rfl (c_X8_isRow G l σ ro ) kw_X8_101 hd_X8_isRow rfl ⟨rfl, rfl⟩ ⟨Nat.le_of_ble_eq_true rfl, Nat.le_of_ble_eq_true rfl⟩ ⟨Nat.zero_le _, Nat.zero_le _⟩ hl.1 (Nat.le_of_ble_eq_true rfl) rfl dX8_row_1 (fun r u H locs hpq hP hS => ?_)
  obtain ⟨hr_, hu_⟩ := hpq
  have hr_ := hr_.symm
  have hu_ := hu_.symm
  subst hr_
  subst hu_
  refine lv_if_eq (tgt := 13) hx hb dX8_row_4 (by decide) (fun c_1 => ?_) (fun c_1 => ?_)
  · have t_1 := b2i_f c_1
    refine lv_iconst (v := (-1)) hx hb dX8_row_13 (by decide) ?_
    exact xiret ha hP hS dX8_row_14 ⟨by simp [n_row, t_1, i_leN, -Int32.not_lt], (by simp [n_row, t_1, i_leN, -Int32.not_lt])⟩ rfl
  · have t_1 := b2i_t c_1
    have f_1 := in_t t_1
    refine lv_iload_n hx hb dX8_row_7 rfl (lv_at hl 2 rfl) ?_
    refine lv_bipush (v := 40) hx hb dX8_row_8 (by decide) ?_
    refine lv_icmp_le (tgt := 15) hx hb dX8_row_10 (by decide) (fun c_2 => ?_) (fun c_2 => ?_)
    · have t_2 := i_le c_2
      have u_2 := u_le c_2
      refine lv_iload_n hx hb dX8_row_15 rfl (lv_at hl 2 rfl) ?_
      refine lv_if_ge (tgt := 25) hx hb dX8_row_16 (by decide) (fun c_3 => ?_) (fun c_3 => ?_)
      · have t_3 := i_le c_3
        have u_3 := u_le c_3
        refine lv_aload_n hx hb dX8_row_25 rfl (lv_at hl 0 rfl) ?_
        refine g8_13 ha hP 0 (by decide) (cM_0 G _) (v := .ref (G.1 2)) rfl dX8_row_26 ?_
        refine lv_iload_n hx hb dX8_row_29 rfl (lv_at hl 1 rfl) ?_
        refine lv_iload_n hx hb dX8_row_30 rfl (lv_at hl 2 rfl) ?_
        refine xiastN ha hP hS (cM_loc G) 2 (by decide) (fun τ => cM_2 G τ) (ix ro) (ix_nI (by omega)) (ix_lt (by omega) (by omega)) (by decide) dX8_row_31 (fun H locs hP hS => ?_)
        refine lv_iconst (v := 0) hx hb dX8_row_32 (by decide) ?_
        refine lv_istore_n (lv' := [(3, .int 0), (0, .ref (G.1 0)), (1, .int ro), (2, .int n)]) hx hb dX8_row_33 rfl hl (by decide) rfl (fun ls hl => ?_)
        have lp_34 : ∀ (d j : Nat) (τj : Mem) (H : Heap) (locs : List Loc) (ls : Array Slot), j ≤ 40 → 40 - j < d → τj = mG (mU σ 2 (ix ro) n) 1 (40 * ix ro) j (fun _ => 0) → va_P G.2.1 vwCl (wl G 24 (cM G τj)) H → va_S (xA G 24 s.heap.size) s.heap H locs → lv_has ls 4 [(3, .int (nI j)), (0, .ref (G.1 0)), (1, .int ro), (2, .int n)] → W p l e ({ frames := 2, cells := 0, slots := 0, locals := 45 } : Room) s m ([.ref (G.1 0), .int ro, .int n] : List Value).toArray below meth c H locs 0 0 (MQ below (va_Qi (fun (r : Int32) u => r = (n_row σ ro n).1 ∧ u = (n_row σ ro n).2) (xB G 24 (cM G)) (xA G 24 s.heap.size)) ([.ref (G.1 0), .int ro, .int n] : List Value).toArray s 0 0 (xA G 24 s.heap.size)) (F0 m 34 ls []) := by
          intro d
          induction d with
          | zero => intro j τj H locs ls hj hd; exact absurd hd (Nat.not_lt_zero _)
          | succ d ih_34 =>
            intro j τj H locs ls hj_j hd_j e_τj hP hS hl
            have h31_j : (nI j).toInt = (j : Int) := nI_toInt (by omega)
            refine lv_iload_n hx hb dX8_row_34 rfl (lv_at hl 0 rfl) ?_
            refine lv_bipush (v := 40) hx hb dX8_row_35 (by decide) ?_
            refine lv_icmp_ge (tgt := 58) hx hb dX8_row_37 (by decide) (fun c_4 => ?_) (fun c_4 => ?_)
            · have t_4 := i_le c_4
              have u_4 := u_le c_4
              obtain rfl : j = 40 := by omega
              refine lv_iload_n hx hb dX8_row_58 rfl (lv_at hl 3 rfl) ?_
              exact xiret ha hP hS dX8_row_59 ⟨by simp [n_row, t_1, u_2, u_3, u_4, i_leN, -Int32.not_lt], (by rw [e_τj]; simp [n_row, t_1, u_2, u_3, u_4, i_leN, -Int32.not_lt])⟩ rfl
            · have t_4 := i_nle c_4
              have u_4 := u_nle c_4
              have hlt_j : j < 40 := by omega
              refine lv_aload_n hx hb dX8_row_40 rfl (lv_at hl 1 rfl) ?_
              refine g8_7 ha hP 0 (by decide) (cM_0 G _) (v := .ref (G.1 1)) rfl dX8_row_41 ?_
              refine lv_bipush (v := 40) hx hb dX8_row_44 (by decide) ?_
              refine lv_iload_n hx hb dX8_row_46 rfl (lv_at hl 2 rfl) ?_
              refine lv_imul hx hb dX8_row_47 ?_
              refine lv_iload_n hx hb dX8_row_48 rfl (lv_at hl 0 rfl) ?_
              refine lv_iadd hx hb dX8_row_49 ?_
              refine lv_iconst (v := 0) hx hb dX8_row_50 (by decide) ?_
              refine xiastN ha hP hS (cM_loc G) 1 (by decide) (fun τ => cM_1 G τ) ((40 * (ix ro)) + j) (nadd (nmul (rfl : (40 : Int32) = nI 40) (ix_nI (by omega))) rfl) (by have q_0 := ix_toInt (show (0 : Int) ≤ (ro).toInt by omega); omega) (by decide) dX8_row_51 (fun H locs hP hS => ?_)
              refine lv_iinc (v := (nI (j + 1))) (lv' := [(3, .int (nI (j + 1))), (0, .ref (G.1 0)), (1, .int ro), (2, .int n)]) hx hb dX8_row_52 hl (k := 0) rfl (nI_1 j) (by decide) rfl (fun ls hl => ?_)
              refine lv_goto (tgt := 34) hx hb dX8_row_55 (by decide) ?_
              exact ih_34 (j + 1) (mU τj 1 ((40 * (ix ro)) + j) 0) _ _ _ (by omega) (by omega) (by rw [e_τj]; exact mG_s _ _ _ _ _ rfl) hP hS (lv_sub hl [0, 1, 2, 3] rfl)
        exact lp_34 (40 - 0 + 1) 0 (mU σ 2 (ix ro) n) _ _ _ (by omega) (by omega) (mG_0 _ _ _ _) hP hS (lv_sub hl [0, 1, 2, 3] rfl)
      · have t_3 := i_nle c_3
        have u_3 := u_nle c_3
        refine lv_aload_n hx hb dX8_row_19 rfl (lv_at hl 0 rfl) ?_
        refine lv_iconst (v := 5) hx hb dX8_row_20 (by decide) ?_
        refine xVi ha hP hS (y := yX8_found) (As := [.int 5]) (rest := []) 0 (by decide) (cM_0 G _) rfl rfl (c_X8_found G l σ 5 (by decide)) kw_X8_105 hd_X8_found rfl ⟨rfl, rfl⟩ ⟨Nat.le_of_ble_eq_true rfl, Nat.le_of_ble_eq_true rfl⟩ ⟨Nat.zero_le _, Nat.zero_le _⟩ hl.1 (Nat.le_of_ble_eq_true rfl) rfl dX8_row_21 (fun r u H locs hpq hP hS => ?_)
        obtain ⟨hr_, hu_⟩ := hpq
        have hr_ := hr_.symm
        have hu_ := hu_.symm
        subst hr_
        subst hu_
        exact xiret ha hP hS dX8_row_24 ⟨by simp [n_row, t_1, u_2, u_3, i_leN, -Int32.not_lt], (by simp [n_row, t_1, u_2, u_3, i_leN, -Int32.not_lt])⟩ rfl
    · have t_2 := i_nle c_2
      have u_2 := u_nle c_2
      refine lv_iconst (v := (-1)) hx hb dX8_row_13 (by decide) ?_
      exact xiret ha hP hS dX8_row_14 ⟨by simp [n_row, t_1, u_2, i_leN, -Int32.not_lt], (by simp [n_row, t_1, u_2, i_leN, -Int32.not_lt])⟩ rfl
set_option maxHeartbeats 4000000 in
set_option maxRecDepth 100000 in
theorem c_X8_text (G : GT) (l : Launch) (σ : Mem) (ro : Int32) (n : Int32)  : CI G 24 (cM G) l yX8_text ({ frames := 2, cells := 0, slots := 0, locals := 45 } : Room) cX8_text 4 (some .int) [.ref (G.1 0), .int ro, .int n] σ (fun (r : Int32) u => r = (n_text σ ro n).1 ∧ u = (n_text σ ro n).2) := by
  intro sz
  refine xbegin (by decide) (Nat.le_of_ble_eq_true rfl) ?_
  intro p e s m below meth c ls hsz ha hP hl
  subst hsz
  have hx := ha.1
  have hb := ha.2.1
  have hS : va_S (xA G 24 s.heap.size) s.heap s.heap [] := va_S.rf
  have hl : lv_has ls 4 [(0, .ref (G.1 0)), (1, .int ro), (2, .int n)] := hl
  have k_m1 : (-1 : Int32).toInt = -1 := by decide
  have k_0 : (0 : Int32).toInt = 0 := by decide
  have k_4 : (4 : Int32).toInt = 4 := by decide
  have k_5 : (5 : Int32).toInt = 5 := by decide
  have k_6 : (6 : Int32).toInt = 6 := by decide
  have k_32 : (32 : Int32).toInt = 32 := by decide
  have k_60 : (60 : Int32).toInt = 60 := by decide
  refine lv_iload_n hx hb dX8_text_0 rfl (lv_at hl 1 rfl) ?_
  refine xSi ha hP hS (y := yX8_isText) (As := [.int ro]) (rest := []) rfl (c_X8_isText G l σ ro ) kw_X8_112 hd_X8_isText rfl ⟨rfl, rfl⟩ ⟨Nat.le_of_ble_eq_true rfl, Nat.le_of_ble_eq_true rfl⟩ ⟨Nat.zero_le _, Nat.zero_le _⟩ hl.1 (Nat.le_of_ble_eq_true rfl) rfl dX8_text_1 (fun r u H locs hpq hP hS => ?_)
  obtain ⟨hr_, hu_⟩ := hpq
  have hr_ := hr_.symm
  have hu_ := hu_.symm
  subst hr_
  subst hu_
  refine lv_if_eq (tgt := 13) hx hb dX8_text_4 (by decide) (fun c_1 => ?_) (fun c_1 => ?_)
  · have t_1 := b2i_f c_1
    refine lv_iconst (v := (-1)) hx hb dX8_text_13 (by decide) ?_
    exact xiret ha hP hS dX8_text_14 ⟨by simp [n_text, t_1, i_leN, -Int32.not_lt], (by simp [n_text, t_1, i_leN, -Int32.not_lt])⟩ rfl
  · have t_1 := b2i_t c_1
    have f_1 := in_t t_1
    refine lv_iload_n hx hb dX8_text_7 rfl (lv_at hl 2 rfl) ?_
    refine lv_bipush (v := 60) hx hb dX8_text_8 (by decide) ?_
    refine lv_icmp_le (tgt := 15) hx hb dX8_text_10 (by decide) (fun c_2 => ?_) (fun c_2 => ?_)
    · have t_2 := i_le c_2
      have u_2 := u_le c_2
      refine lv_iload_n hx hb dX8_text_15 rfl (lv_at hl 2 rfl) ?_
      refine lv_if_ge (tgt := 25) hx hb dX8_text_16 (by decide) (fun c_3 => ?_) (fun c_3 => ?_)
      · have t_3 := i_le c_3
        have u_3 := u_le c_3
        refine lv_aload_n hx hb dX8_text_25 rfl (lv_at hl 0 rfl) ?_
        refine g8_19 ha hP 0 (by decide) (cM_0 G _) (v := .ref (G.1 4)) rfl dX8_text_26 ?_
        refine lv_iload_n hx hb dX8_text_29 rfl (lv_at hl 1 rfl) ?_
        refine lv_iload_n hx hb dX8_text_30 rfl (lv_at hl 2 rfl) ?_
        refine xiastN ha hP hS (cM_loc G) 4 (by decide) (fun τ => cM_4 G τ) (ix ro) (ix_nI (by omega)) (ix_lt (by omega) (by omega)) (by decide) dX8_text_31 (fun H locs hP hS => ?_)
        refine lv_iconst (v := 0) hx hb dX8_text_32 (by decide) ?_
        refine lv_istore_n (lv' := [(3, .int 0), (0, .ref (G.1 0)), (1, .int ro), (2, .int n)]) hx hb dX8_text_33 rfl hl (by decide) rfl (fun ls hl => ?_)
        have lp_34 : ∀ (d j : Nat) (τj : Mem) (H : Heap) (locs : List Loc) (ls : Array Slot), j ≤ 60 → 60 - j < d → τj = mG (mU σ 4 (ix ro) n) 3 (60 * ix ro) j (fun _ => 32) → va_P G.2.1 vwCl (wl G 24 (cM G τj)) H → va_S (xA G 24 s.heap.size) s.heap H locs → lv_has ls 4 [(3, .int (nI j)), (0, .ref (G.1 0)), (1, .int ro), (2, .int n)] → W p l e ({ frames := 2, cells := 0, slots := 0, locals := 45 } : Room) s m ([.ref (G.1 0), .int ro, .int n] : List Value).toArray below meth c H locs 0 0 (MQ below (va_Qi (fun (r : Int32) u => r = (n_text σ ro n).1 ∧ u = (n_text σ ro n).2) (xB G 24 (cM G)) (xA G 24 s.heap.size)) ([.ref (G.1 0), .int ro, .int n] : List Value).toArray s 0 0 (xA G 24 s.heap.size)) (F0 m 34 ls []) := by
          intro d
          induction d with
          | zero => intro j τj H locs ls hj hd; exact absurd hd (Nat.not_lt_zero _)
          | succ d ih_34 =>
            intro j τj H locs ls hj_j hd_j e_τj hP hS hl
            have h31_j : (nI j).toInt = (j : Int) := nI_toInt (by omega)
            refine lv_iload_n hx hb dX8_text_34 rfl (lv_at hl 0 rfl) ?_
            refine lv_bipush (v := 60) hx hb dX8_text_35 (by decide) ?_
            refine lv_icmp_ge (tgt := 59) hx hb dX8_text_37 (by decide) (fun c_4 => ?_) (fun c_4 => ?_)
            · have t_4 := i_le c_4
              have u_4 := u_le c_4
              obtain rfl : j = 60 := by omega
              refine lv_iload_n hx hb dX8_text_59 rfl (lv_at hl 3 rfl) ?_
              exact xiret ha hP hS dX8_text_60 ⟨by simp [n_text, t_1, u_2, u_3, u_4, i_leN, -Int32.not_lt], (by rw [e_τj]; simp [n_text, t_1, u_2, u_3, u_4, i_leN, -Int32.not_lt])⟩ rfl
            · have t_4 := i_nle c_4
              have u_4 := u_nle c_4
              have hlt_j : j < 60 := by omega
              refine lv_aload_n hx hb dX8_text_40 rfl (lv_at hl 1 rfl) ?_
              refine g8_16 ha hP 0 (by decide) (cM_0 G _) (v := .ref (G.1 3)) rfl dX8_text_41 ?_
              refine lv_bipush (v := 60) hx hb dX8_text_44 (by decide) ?_
              refine lv_iload_n hx hb dX8_text_46 rfl (lv_at hl 2 rfl) ?_
              refine lv_imul hx hb dX8_text_47 ?_
              refine lv_iload_n hx hb dX8_text_48 rfl (lv_at hl 0 rfl) ?_
              refine lv_iadd hx hb dX8_text_49 ?_
              refine lv_bipush (v := 32) hx hb dX8_text_50 (by decide) ?_
              refine xiastN ha hP hS (cM_loc G) 3 (by decide) (fun τ => cM_3 G τ) ((60 * (ix ro)) + j) (nadd (nmul (rfl : (60 : Int32) = nI 60) (ix_nI (by omega))) rfl) (by have q_0 := ix_toInt (show (0 : Int) ≤ (ro).toInt by omega); omega) (by decide) dX8_text_52 (fun H locs hP hS => ?_)
              refine lv_iinc (v := (nI (j + 1))) (lv' := [(3, .int (nI (j + 1))), (0, .ref (G.1 0)), (1, .int ro), (2, .int n)]) hx hb dX8_text_53 hl (k := 0) rfl (nI_1 j) (by decide) rfl (fun ls hl => ?_)
              refine lv_goto (tgt := 34) hx hb dX8_text_56 (by decide) ?_
              exact ih_34 (j + 1) (mU τj 3 ((60 * (ix ro)) + j) 32) _ _ _ (by omega) (by omega) (by rw [e_τj]; exact mG_s _ _ _ _ _ rfl) hP hS (lv_sub hl [0, 1, 2, 3] rfl)
        exact lp_34 (60 - 0 + 1) 0 (mU σ 4 (ix ro) n) _ _ _ (by omega) (by omega) (mG_0 _ _ _ _) hP hS (lv_sub hl [0, 1, 2, 3] rfl)
      · have t_3 := i_nle c_3
        have u_3 := u_nle c_3
        refine lv_aload_n hx hb dX8_text_19 rfl (lv_at hl 0 rfl) ?_
        refine lv_iconst (v := 5) hx hb dX8_text_20 (by decide) ?_
        refine xVi ha hP hS (y := yX8_found) (As := [.int 5]) (rest := []) 0 (by decide) (cM_0 G _) rfl rfl (c_X8_found G l σ 5 (by decide)) kw_X8_105 hd_X8_found rfl ⟨rfl, rfl⟩ ⟨Nat.le_of_ble_eq_true rfl, Nat.le_of_ble_eq_true rfl⟩ ⟨Nat.zero_le _, Nat.zero_le _⟩ hl.1 (Nat.le_of_ble_eq_true rfl) rfl dX8_text_21 (fun r u H locs hpq hP hS => ?_)
        obtain ⟨hr_, hu_⟩ := hpq
        have hr_ := hr_.symm
        have hu_ := hu_.symm
        subst hr_
        subst hu_
        exact xiret ha hP hS dX8_text_24 ⟨by simp [n_text, t_1, u_2, u_3, i_leN, -Int32.not_lt], (by simp [n_text, t_1, u_2, u_3, i_leN, -Int32.not_lt])⟩ rfl
    · have t_2 := i_nle c_2
      have u_2 := u_nle c_2
      refine lv_iconst (v := (-1)) hx hb dX8_text_13 (by decide) ?_
      exact xiret ha hP hS dX8_text_14 ⟨by simp [n_text, t_1, u_2, i_leN, -Int32.not_lt], (by simp [n_text, t_1, u_2, i_leN, -Int32.not_lt])⟩ rfl
set_option maxHeartbeats 4000000 in
set_option maxRecDepth 100000 in
theorem c_X8_lay (G : GT) (l : Launch) (σ : Mem) (ro : Int32) (i : Int32) (v : Int32) (hrm : RM σ) : CI G 24 (cM G) l yX8_lay ({ frames := 2, cells := 0, slots := 0, locals := 45 } : Room) cX8_lay 5 (some .int) [.ref (G.1 0), .int ro, .int i, .int v] σ (fun (r : Int32) u => r = (n_lay σ ro i v).1 ∧ u = (n_lay σ ro i v).2) := by
  intro sz
  refine xbegin (by decide) (Nat.le_of_ble_eq_true rfl) ?_
  intro p e s m below meth c ls hsz ha hP hl
  subst hsz
  have hx := ha.1
  have hb := ha.2.1
  have hS : va_S (xA G 24 s.heap.size) s.heap s.heap [] := va_S.rf
  have hl : lv_has ls 5 [(0, .ref (G.1 0)), (1, .int ro), (2, .int i), (3, .int v)] := hl
  have k_m1 : (-1 : Int32).toInt = -1 := by decide
  have k_0 : (0 : Int32).toInt = 0 := by decide
  have k_1 : (1 : Int32).toInt = 1 := by decide
  have k_2 : (2 : Int32).toInt = 2 := by decide
  have k_4 : (4 : Int32).toInt = 4 := by decide
  have k_5 : (5 : Int32).toInt = 5 := by decide
  have k_6 : (6 : Int32).toInt = 6 := by decide
  have k_40 : (40 : Int32).toInt = 40 := by decide
  refine lv_iload_n hx hb dX8_lay_0 rfl (lv_at hl 1 rfl) ?_
  refine xSi ha hP hS (y := yX8_isRow) (As := [.int ro]) (rest := []) rfl (c_X8_isRow G l σ ro ) kw_X8_101 hd_X8_isRow rfl ⟨rfl, rfl⟩ ⟨Nat.le_of_ble_eq_true rfl, Nat.le_of_ble_eq_true rfl⟩ ⟨Nat.zero_le _, Nat.zero_le _⟩ hl.1 (Nat.le_of_ble_eq_true rfl) rfl dX8_lay_1 (fun r u H locs hpq hP hS => ?_)
  obtain ⟨hr_, hu_⟩ := hpq
  have hr_ := hr_.symm
  have hu_ := hu_.symm
  subst hr_
  subst hu_
  refine lv_if_ne (tgt := 9) hx hb dX8_lay_4 (by decide) (fun c_1 => ?_) (fun c_1 => ?_)
  · have t_1 := b2i_t c_1
    have f_1 := in_t t_1
    have hr1 := hrm.1 (ix ro) (by have := ix_toInt (show (0 : Int) ≤ ro.toInt by omega); omega)
    refine lv_aload_n hx hb dX8_lay_9 rfl (lv_at hl 0 rfl) ?_
    refine g8_13 ha hP 0 (by decide) (cM_0 G _) (v := .ref (G.1 2)) rfl dX8_lay_10 ?_
    refine lv_iload_n hx hb dX8_lay_13 rfl (lv_at hl 1 rfl) ?_
    refine xialdN ha hP 2 (by decide) (cM_2 G _) (ix ro) (ix_nI (by omega)) (ix_lt (by omega) (by omega)) (by decide) dX8_lay_14 ?_
    refine lv_if_ge (tgt := 24) hx hb dX8_lay_15 (by decide) (fun c_2 => ?_) (fun c_2 => ?_)
    · have t_2 := i_le c_2
      have u_2 := u_le c_2
      have hs1 := sub1_i (show 0 ≤ (σ 2 (ix ro)).toInt by omega)
      refine lv_iload_n hx hb dX8_lay_24 rfl (lv_at hl 2 rfl) ?_
      refine lv_i2l (v := i.toInt64) hx hb dX8_lay_25 rfl ?_
      refine lv_lconst (v := 0) hx hb dX8_lay_26 (by decide) ?_
      refine lv_aload_n hx hb dX8_lay_27 rfl (lv_at hl 0 rfl) ?_
      refine g8_13 ha hP 0 (by decide) (cM_0 G _) (v := .ref (G.1 2)) rfl dX8_lay_28 ?_
      refine lv_iload_n hx hb dX8_lay_31 rfl (lv_at hl 1 rfl) ?_
      refine xialdN ha hP 2 (by decide) (cM_2 G _) (ix ro) (ix_nI (by omega)) (ix_lt (by omega) (by omega)) (by decide) dX8_lay_32 ?_
      refine lv_iconst (v := 1) hx hb dX8_lay_33 (by decide) ?_
      refine lv_isub hx hb dX8_lay_34 ?_
      refine lv_i2l (v := ((σ 2 (ix ro)) - 1).toInt64) hx hb dX8_lay_35 rfl ?_
      refine xSi ha hP hS (y := yX8_in) (As := [.long i.toInt64, .long 0, .long (((σ 2 (ix ro)) - 1).toInt64)]) (rest := []) rfl (c_X8_in G l σ i.toInt64 0 (((σ 2 (ix ro)) - 1).toInt64) ) kw_X8_95 hd_X8_in rfl ⟨rfl, rfl⟩ ⟨Nat.le_of_ble_eq_true rfl, Nat.le_of_ble_eq_true rfl⟩ ⟨Nat.zero_le _, Nat.zero_le _⟩ hl.1 (Nat.le_of_ble_eq_true rfl) rfl dX8_lay_36 (fun r u H locs hpq hP hS => ?_)
      obtain ⟨hr_, hu_⟩ := hpq
      have hr_ := hr_.symm
      have hu_ := hu_.symm
      subst hr_
      subst hu_
      refine lv_if_ne (tgt := 48) hx hb dX8_lay_39 (by decide) (fun c_3 => ?_) (fun c_3 => ?_)
      · have t_3 := b2i_t c_3
        have f_3 := bin_t t_3
        try simp only [Int32.toInt_toInt64, ll_0, ll_1, ll_2, ll_3, ll_4, ll_5, ll_9, ll_12, ll_20, ll_40, ll_57, ll_99, ll_2147483646] at f_3
        refine lv_aload_n hx hb dX8_lay_48 rfl (lv_at hl 0 rfl) ?_
        refine g8_7 ha hP 0 (by decide) (cM_0 G _) (v := .ref (G.1 1)) rfl dX8_lay_49 ?_
        refine lv_bipush (v := 40) hx hb dX8_lay_52 (by decide) ?_
        refine lv_iload_n hx hb dX8_lay_54 rfl (lv_at hl 1 rfl) ?_
        refine lv_imul hx hb dX8_lay_55 ?_
        refine lv_iload_n hx hb dX8_lay_56 rfl (lv_at hl 2 rfl) ?_
        refine lv_iadd hx hb dX8_lay_57 ?_
        refine xialdN ha hP 1 (by decide) (cM_1 G _) ((40 * (ix ro)) + (ix i)) (nadd (nmul (rfl : (40 : Int32) = nI 40) (ix_nI (by omega))) (ix_nI (by omega))) (by have q_0 := ix_toInt (show (0 : Int) ≤ (ro).toInt by omega); have q_1 := ix_toInt (show (0 : Int) ≤ (i).toInt by omega); omega) (by decide) dX8_lay_58 ?_
        refine lv_istore (lv' := [(4, .int (σ 1 ((40 * (ix ro)) + (ix i)))), (0, .ref (G.1 0)), (1, .int ro), (2, .int i), (3, .int v)]) hx hb dX8_lay_59 hl (by decide) rfl (fun ls hl => ?_)
        refine lv_aload_n hx hb dX8_lay_61 rfl (lv_at hl 1 rfl) ?_
        refine g8_7 ha hP 0 (by decide) (cM_0 G _) (v := .ref (G.1 1)) rfl dX8_lay_62 ?_
        refine lv_bipush (v := 40) hx hb dX8_lay_65 (by decide) ?_
        refine lv_iload_n hx hb dX8_lay_67 rfl (lv_at hl 2 rfl) ?_
        refine lv_imul hx hb dX8_lay_68 ?_
        refine lv_iload_n hx hb dX8_lay_69 rfl (lv_at hl 3 rfl) ?_
        refine lv_iadd hx hb dX8_lay_70 ?_
        refine lv_iload_n hx hb dX8_lay_71 rfl (lv_at hl 4 rfl) ?_
        refine xiastN ha hP hS (cM_loc G) 1 (by decide) (fun τ => cM_1 G τ) ((40 * (ix ro)) + (ix i)) (nadd (nmul (rfl : (40 : Int32) = nI 40) (ix_nI (by omega))) (ix_nI (by omega))) (by have q_0 := ix_toInt (show (0 : Int) ≤ (ro).toInt by omega); have q_1 := ix_toInt (show (0 : Int) ≤ (i).toInt by omega); omega) (by decide) dX8_lay_72 (fun H locs hP hS => ?_)
        refine lv_aload_n hx hb dX8_lay_73 rfl (lv_at hl 1 rfl) ?_
        refine lv_iload hx hb dX8_lay_74 (lv_at hl 0 rfl) ?_
        refine xVi ha hP hS (y := yX8_tell) (As := [.int (σ 1 ((40 * (ix ro)) + (ix i)))]) (rest := []) 0 (by decide) (cM_0 G _) rfl rfl (c_X8_tell G l (mU σ 1 ((40 * (ix ro)) + (ix i)) v) (σ 1 ((40 * (ix ro)) + (ix i))) ) kw_X8_109 hd_X8_tell rfl ⟨rfl, rfl⟩ ⟨Nat.le_of_ble_eq_true rfl, Nat.le_of_ble_eq_true rfl⟩ ⟨Nat.zero_le _, Nat.zero_le _⟩ hl.1 (Nat.le_of_ble_eq_true rfl) rfl dX8_lay_76 (fun r u H locs hpq hP hS => ?_)
        obtain ⟨hr_, hu_⟩ := hpq
        have hr_ := hr_.symm
        have hu_ := hu_.symm
        subst hr_
        subst hu_
        exact xiret ha hP hS dX8_lay_79 ⟨by simp [n_lay, t_1, u_2, t_3, i_leN, -Int32.not_lt], (by simp [n_lay, t_1, u_2, t_3, i_leN, -Int32.not_lt])⟩ rfl
      · have t_3 := b2i_f c_3
        have f_3 := bin_f t_3
        try simp only [Int32.toInt_toInt64, ll_0, ll_1, ll_2, ll_3, ll_4, ll_5, ll_9, ll_12, ll_20, ll_40, ll_57, ll_99, ll_2147483646] at f_3
        refine lv_aload_n hx hb dX8_lay_42 rfl (lv_at hl 0 rfl) ?_
        refine lv_iconst (v := 2) hx hb dX8_lay_43 (by decide) ?_
        refine xVi ha hP hS (y := yX8_found) (As := [.int 2]) (rest := []) 0 (by decide) (cM_0 G _) rfl rfl (c_X8_found G l σ 2 (by decide)) kw_X8_105 hd_X8_found rfl ⟨rfl, rfl⟩ ⟨Nat.le_of_ble_eq_true rfl, Nat.le_of_ble_eq_true rfl⟩ ⟨Nat.zero_le _, Nat.zero_le _⟩ hl.1 (Nat.le_of_ble_eq_true rfl) rfl dX8_lay_44 (fun r u H locs hpq hP hS => ?_)
        obtain ⟨hr_, hu_⟩ := hpq
        have hr_ := hr_.symm
        have hu_ := hu_.symm
        subst hr_
        subst hu_
        exact xiret ha hP hS dX8_lay_47 ⟨by simp [n_lay, t_1, u_2, t_3, i_leN, -Int32.not_lt], (by simp [n_lay, t_1, u_2, t_3, i_leN, -Int32.not_lt])⟩ rfl
    · have t_2 := i_nle c_2
      have u_2 := u_nle c_2
      refine lv_aload_n hx hb dX8_lay_18 rfl (lv_at hl 0 rfl) ?_
      refine lv_iconst (v := 1) hx hb dX8_lay_19 (by decide) ?_
      refine xVi ha hP hS (y := yX8_found) (As := [.int 1]) (rest := []) 0 (by decide) (cM_0 G _) rfl rfl (c_X8_found G l σ 1 (by decide)) kw_X8_105 hd_X8_found rfl ⟨rfl, rfl⟩ ⟨Nat.le_of_ble_eq_true rfl, Nat.le_of_ble_eq_true rfl⟩ ⟨Nat.zero_le _, Nat.zero_le _⟩ hl.1 (Nat.le_of_ble_eq_true rfl) rfl dX8_lay_20 (fun r u H locs hpq hP hS => ?_)
      obtain ⟨hr_, hu_⟩ := hpq
      have hr_ := hr_.symm
      have hu_ := hu_.symm
      subst hr_
      subst hu_
      exact xiret ha hP hS dX8_lay_23 ⟨by simp [n_lay, t_1, u_2, i_leN, -Int32.not_lt], (by simp [n_lay, t_1, u_2, i_leN, -Int32.not_lt])⟩ rfl
  · have t_1 := b2i_f c_1
    refine lv_iconst (v := (-1)) hx hb dX8_lay_7 (by decide) ?_
    exact xiret ha hP hS dX8_lay_8 ⟨by simp [n_lay, t_1, i_leN, -Int32.not_lt], (by simp [n_lay, t_1, i_leN, -Int32.not_lt])⟩ rfl
set_option maxHeartbeats 4000000 in
set_option maxRecDepth 100000 in
theorem c_X8_at (G : GT) (l : Launch) (σ : Mem) (ro : Int32) (i : Int32) (hrm : RM σ) : CI G 24 (cM G) l yX8_at ({ frames := 2, cells := 0, slots := 0, locals := 45 } : Room) cX8_at 3 (some .int) [.ref (G.1 0), .int ro, .int i] σ (fun (r : Int32) u => r = (n_at σ ro i).1 ∧ u = (n_at σ ro i).2) := by
  intro sz
  refine xbegin (by decide) (Nat.le_of_ble_eq_true rfl) ?_
  intro p e s m below meth c ls hsz ha hP hl
  subst hsz
  have hx := ha.1
  have hb := ha.2.1
  have hS : va_S (xA G 24 s.heap.size) s.heap s.heap [] := va_S.rf
  have hl : lv_has ls 3 [(0, .ref (G.1 0)), (1, .int ro), (2, .int i)] := hl
  have k_m1 : (-1 : Int32).toInt = -1 := by decide
  have k_0 : (0 : Int32).toInt = 0 := by decide
  have k_1 : (1 : Int32).toInt = 1 := by decide
  have k_2 : (2 : Int32).toInt = 2 := by decide
  have k_4 : (4 : Int32).toInt = 4 := by decide
  have k_5 : (5 : Int32).toInt = 5 := by decide
  have k_6 : (6 : Int32).toInt = 6 := by decide
  have k_40 : (40 : Int32).toInt = 40 := by decide
  refine lv_iload_n hx hb dX8_at_0 rfl (lv_at hl 1 rfl) ?_
  refine xSi ha hP hS (y := yX8_isRow) (As := [.int ro]) (rest := []) rfl (c_X8_isRow G l σ ro ) kw_X8_101 hd_X8_isRow rfl ⟨rfl, rfl⟩ ⟨Nat.le_of_ble_eq_true rfl, Nat.le_of_ble_eq_true rfl⟩ ⟨Nat.zero_le _, Nat.zero_le _⟩ hl.1 (Nat.le_of_ble_eq_true rfl) rfl dX8_at_1 (fun r u H locs hpq hP hS => ?_)
  obtain ⟨hr_, hu_⟩ := hpq
  have hr_ := hr_.symm
  have hu_ := hu_.symm
  subst hr_
  subst hu_
  refine lv_if_ne (tgt := 9) hx hb dX8_at_4 (by decide) (fun c_1 => ?_) (fun c_1 => ?_)
  · have t_1 := b2i_t c_1
    have f_1 := in_t t_1
    have hr1 := hrm.1 (ix ro) (by have := ix_toInt (show (0 : Int) ≤ ro.toInt by omega); omega)
    refine lv_aload_n hx hb dX8_at_9 rfl (lv_at hl 0 rfl) ?_
    refine g8_13 ha hP 0 (by decide) (cM_0 G _) (v := .ref (G.1 2)) rfl dX8_at_10 ?_
    refine lv_iload_n hx hb dX8_at_13 rfl (lv_at hl 1 rfl) ?_
    refine xialdN ha hP 2 (by decide) (cM_2 G _) (ix ro) (ix_nI (by omega)) (ix_lt (by omega) (by omega)) (by decide) dX8_at_14 ?_
    refine lv_if_ge (tgt := 24) hx hb dX8_at_15 (by decide) (fun c_2 => ?_) (fun c_2 => ?_)
    · have t_2 := i_le c_2
      have u_2 := u_le c_2
      have hs1 := sub1_i (show 0 ≤ (σ 2 (ix ro)).toInt by omega)
      refine lv_iload_n hx hb dX8_at_24 rfl (lv_at hl 2 rfl) ?_
      refine lv_i2l (v := i.toInt64) hx hb dX8_at_25 rfl ?_
      refine lv_lconst (v := 0) hx hb dX8_at_26 (by decide) ?_
      refine lv_aload_n hx hb dX8_at_27 rfl (lv_at hl 0 rfl) ?_
      refine g8_13 ha hP 0 (by decide) (cM_0 G _) (v := .ref (G.1 2)) rfl dX8_at_28 ?_
      refine lv_iload_n hx hb dX8_at_31 rfl (lv_at hl 1 rfl) ?_
      refine xialdN ha hP 2 (by decide) (cM_2 G _) (ix ro) (ix_nI (by omega)) (ix_lt (by omega) (by omega)) (by decide) dX8_at_32 ?_
      refine lv_iconst (v := 1) hx hb dX8_at_33 (by decide) ?_
      refine lv_isub hx hb dX8_at_34 ?_
      refine lv_i2l (v := ((σ 2 (ix ro)) - 1).toInt64) hx hb dX8_at_35 rfl ?_
      refine xSi ha hP hS (y := yX8_in) (As := [.long i.toInt64, .long 0, .long (((σ 2 (ix ro)) - 1).toInt64)]) (rest := []) rfl (c_X8_in G l σ i.toInt64 0 (((σ 2 (ix ro)) - 1).toInt64) ) kw_X8_95 hd_X8_in rfl ⟨rfl, rfl⟩ ⟨Nat.le_of_ble_eq_true rfl, Nat.le_of_ble_eq_true rfl⟩ ⟨Nat.zero_le _, Nat.zero_le _⟩ hl.1 (Nat.le_of_ble_eq_true rfl) rfl dX8_at_36 (fun r u H locs hpq hP hS => ?_)
      obtain ⟨hr_, hu_⟩ := hpq
      have hr_ := hr_.symm
      have hu_ := hu_.symm
      subst hr_
      subst hu_
      refine lv_if_eq (tgt := 60) hx hb dX8_at_39 (by decide) (fun c_3 => ?_) (fun c_3 => ?_)
      · have t_3 := b2i_f c_3
        have f_3 := bin_f t_3
        try simp only [Int32.toInt_toInt64, ll_0, ll_1, ll_2, ll_3, ll_4, ll_5, ll_9, ll_12, ll_20, ll_40, ll_57, ll_99, ll_2147483646] at f_3
        refine lv_aload_n hx hb dX8_at_60 rfl (lv_at hl 0 rfl) ?_
        refine lv_iconst (v := 2) hx hb dX8_at_61 (by decide) ?_
        refine xVi ha hP hS (y := yX8_found) (As := [.int 2]) (rest := []) 0 (by decide) (cM_0 G _) rfl rfl (c_X8_found G l σ 2 (by decide)) kw_X8_105 hd_X8_found rfl ⟨rfl, rfl⟩ ⟨Nat.le_of_ble_eq_true rfl, Nat.le_of_ble_eq_true rfl⟩ ⟨Nat.zero_le _, Nat.zero_le _⟩ hl.1 (Nat.le_of_ble_eq_true rfl) rfl dX8_at_62 (fun r u H locs hpq hP hS => ?_)
        obtain ⟨hr_, hu_⟩ := hpq
        have hr_ := hr_.symm
        have hu_ := hu_.symm
        subst hr_
        subst hu_
        exact xiret ha hP hS dX8_at_65 ⟨by simp [n_at, t_1, u_2, t_3, i_leN, -Int32.not_lt], (by simp [n_at, t_1, u_2, t_3, i_leN, -Int32.not_lt])⟩ rfl
      · have t_3 := b2i_t c_3
        have f_3 := bin_t t_3
        try simp only [Int32.toInt_toInt64, ll_0, ll_1, ll_2, ll_3, ll_4, ll_5, ll_9, ll_12, ll_20, ll_40, ll_57, ll_99, ll_2147483646] at f_3
        refine lv_aload_n hx hb dX8_at_42 rfl (lv_at hl 0 rfl) ?_
        refine lv_aload_n hx hb dX8_at_43 rfl (lv_at hl 0 rfl) ?_
        refine g8_7 ha hP 0 (by decide) (cM_0 G _) (v := .ref (G.1 1)) rfl dX8_at_44 ?_
        refine lv_bipush (v := 40) hx hb dX8_at_47 (by decide) ?_
        refine lv_iload_n hx hb dX8_at_49 rfl (lv_at hl 1 rfl) ?_
        refine lv_imul hx hb dX8_at_50 ?_
        refine lv_iload_n hx hb dX8_at_51 rfl (lv_at hl 2 rfl) ?_
        refine lv_iadd hx hb dX8_at_52 ?_
        refine xialdN ha hP 1 (by decide) (cM_1 G _) ((40 * (ix ro)) + (ix i)) (nadd (nmul (rfl : (40 : Int32) = nI 40) (ix_nI (by omega))) (ix_nI (by omega))) (by have q_0 := ix_toInt (show (0 : Int) ≤ (ro).toInt by omega); have q_1 := ix_toInt (show (0 : Int) ≤ (i).toInt by omega); omega) (by decide) dX8_at_53 ?_
        refine xVi ha hP hS (y := yX8_tell) (As := [.int (σ 1 ((40 * (ix ro)) + (ix i)))]) (rest := []) 0 (by decide) (cM_0 G _) rfl rfl (c_X8_tell G l σ (σ 1 ((40 * (ix ro)) + (ix i))) ) kw_X8_109 hd_X8_tell rfl ⟨rfl, rfl⟩ ⟨Nat.le_of_ble_eq_true rfl, Nat.le_of_ble_eq_true rfl⟩ ⟨Nat.zero_le _, Nat.zero_le _⟩ hl.1 (Nat.le_of_ble_eq_true rfl) rfl dX8_at_54 (fun r u H locs hpq hP hS => ?_)
        obtain ⟨hr_, hu_⟩ := hpq
        have hr_ := hr_.symm
        have hu_ := hu_.symm
        subst hr_
        subst hu_
        refine lv_goto (tgt := 65) hx hb dX8_at_57 (by decide) ?_
        exact xiret ha hP hS dX8_at_65 ⟨by simp [n_at, t_1, u_2, t_3, i_leN, -Int32.not_lt], (by simp [n_at, t_1, u_2, t_3, i_leN, -Int32.not_lt])⟩ rfl
    · have t_2 := i_nle c_2
      have u_2 := u_nle c_2
      refine lv_aload_n hx hb dX8_at_18 rfl (lv_at hl 0 rfl) ?_
      refine lv_iconst (v := 1) hx hb dX8_at_19 (by decide) ?_
      refine xVi ha hP hS (y := yX8_found) (As := [.int 1]) (rest := []) 0 (by decide) (cM_0 G _) rfl rfl (c_X8_found G l σ 1 (by decide)) kw_X8_105 hd_X8_found rfl ⟨rfl, rfl⟩ ⟨Nat.le_of_ble_eq_true rfl, Nat.le_of_ble_eq_true rfl⟩ ⟨Nat.zero_le _, Nat.zero_le _⟩ hl.1 (Nat.le_of_ble_eq_true rfl) rfl dX8_at_20 (fun r u H locs hpq hP hS => ?_)
      obtain ⟨hr_, hu_⟩ := hpq
      have hr_ := hr_.symm
      have hu_ := hu_.symm
      subst hr_
      subst hu_
      exact xiret ha hP hS dX8_at_23 ⟨by simp [n_at, t_1, u_2, i_leN, -Int32.not_lt], (by simp [n_at, t_1, u_2, i_leN, -Int32.not_lt])⟩ rfl
  · have t_1 := b2i_f c_1
    refine lv_iconst (v := (-1)) hx hb dX8_at_7 (by decide) ?_
    exact xiret ha hP hS dX8_at_8 ⟨by simp [n_at, t_1, i_leN, -Int32.not_lt], (by simp [n_at, t_1, i_leN, -Int32.not_lt])⟩ rfl
set_option maxHeartbeats 4000000 in
set_option maxRecDepth 100000 in
theorem c_X8_tear (G : GT) (l : Launch) (σ : Mem) (ro : Int32)  : CI G 24 (cM G) l yX8_tear ({ frames := 2, cells := 0, slots := 0, locals := 45 } : Room) cX8_tear 2 (some .int) [.ref (G.1 0), .int ro] σ (fun (r : Int32) u => r = (n_tear σ ro).1 ∧ u = (n_tear σ ro).2) := by
  intro sz
  refine xbegin (by decide) (Nat.le_of_ble_eq_true rfl) ?_
  intro p e s m below meth c ls hsz ha hP hl
  subst hsz
  have hx := ha.1
  have hb := ha.2.1
  have hS : va_S (xA G 24 s.heap.size) s.heap s.heap [] := va_S.rf
  have hl : lv_has ls 2 [(0, .ref (G.1 0)), (1, .int ro)] := hl
  have k_m1 : (-1 : Int32).toInt = -1 := by decide
  have k_0 : (0 : Int32).toInt = 0 := by decide
  have k_1 : (1 : Int32).toInt = 1 := by decide
  have k_4 : (4 : Int32).toInt = 4 := by decide
  have k_5 : (5 : Int32).toInt = 5 := by decide
  have k_6 : (6 : Int32).toInt = 6 := by decide
  refine lv_iload_n hx hb dX8_tear_0 rfl (lv_at hl 1 rfl) ?_
  refine xSi ha hP hS (y := yX8_isRow) (As := [.int ro]) (rest := []) rfl (c_X8_isRow G l σ ro ) kw_X8_101 hd_X8_isRow rfl ⟨rfl, rfl⟩ ⟨Nat.le_of_ble_eq_true rfl, Nat.le_of_ble_eq_true rfl⟩ ⟨Nat.zero_le _, Nat.zero_le _⟩ hl.1 (Nat.le_of_ble_eq_true rfl) rfl dX8_tear_1 (fun r u H locs hpq hP hS => ?_)
  obtain ⟨hr_, hu_⟩ := hpq
  have hr_ := hr_.symm
  have hu_ := hu_.symm
  subst hr_
  subst hu_
  refine lv_if_ne (tgt := 9) hx hb dX8_tear_4 (by decide) (fun c_1 => ?_) (fun c_1 => ?_)
  · have t_1 := b2i_t c_1
    have f_1 := in_t t_1
    refine lv_aload_n hx hb dX8_tear_9 rfl (lv_at hl 0 rfl) ?_
    refine g8_13 ha hP 0 (by decide) (cM_0 G _) (v := .ref (G.1 2)) rfl dX8_tear_10 ?_
    refine lv_iload_n hx hb dX8_tear_13 rfl (lv_at hl 1 rfl) ?_
    refine xialdN ha hP 2 (by decide) (cM_2 G _) (ix ro) (ix_nI (by omega)) (ix_lt (by omega) (by omega)) (by decide) dX8_tear_14 ?_
    refine lv_if_ge (tgt := 24) hx hb dX8_tear_15 (by decide) (fun c_2 => ?_) (fun c_2 => ?_)
    · have t_2 := i_le c_2
      have u_2 := u_le c_2
      refine lv_aload_n hx hb dX8_tear_24 rfl (lv_at hl 0 rfl) ?_
      refine g8_13 ha hP 0 (by decide) (cM_0 G _) (v := .ref (G.1 2)) rfl dX8_tear_25 ?_
      refine lv_iload_n hx hb dX8_tear_28 rfl (lv_at hl 1 rfl) ?_
      refine lv_iconst (v := (-1)) hx hb dX8_tear_29 (by decide) ?_
      refine xiastN ha hP hS (cM_loc G) 2 (by decide) (fun τ => cM_2 G τ) (ix ro) (ix_nI (by omega)) (ix_lt (by omega) (by omega)) (by decide) dX8_tear_30 (fun H locs hP hS => ?_)
      refine lv_iconst (v := 1) hx hb dX8_tear_31 (by decide) ?_
      exact xiret ha hP hS dX8_tear_32 ⟨by simp [n_tear, t_1, u_2, i_leN, -Int32.not_lt], (by simp [n_tear, t_1, u_2, i_leN, -Int32.not_lt])⟩ rfl
    · have t_2 := i_nle c_2
      have u_2 := u_nle c_2
      refine lv_aload_n hx hb dX8_tear_18 rfl (lv_at hl 0 rfl) ?_
      refine lv_iconst (v := 1) hx hb dX8_tear_19 (by decide) ?_
      refine xVi ha hP hS (y := yX8_found) (As := [.int 1]) (rest := []) 0 (by decide) (cM_0 G _) rfl rfl (c_X8_found G l σ 1 (by decide)) kw_X8_105 hd_X8_found rfl ⟨rfl, rfl⟩ ⟨Nat.le_of_ble_eq_true rfl, Nat.le_of_ble_eq_true rfl⟩ ⟨Nat.zero_le _, Nat.zero_le _⟩ hl.1 (Nat.le_of_ble_eq_true rfl) rfl dX8_tear_20 (fun r u H locs hpq hP hS => ?_)
      obtain ⟨hr_, hu_⟩ := hpq
      have hr_ := hr_.symm
      have hu_ := hu_.symm
      subst hr_
      subst hu_
      exact xiret ha hP hS dX8_tear_23 ⟨by simp [n_tear, t_1, u_2, i_leN, -Int32.not_lt], (by simp [n_tear, t_1, u_2, i_leN, -Int32.not_lt])⟩ rfl
  · have t_1 := b2i_f c_1
    refine lv_iconst (v := (-1)) hx hb dX8_tear_7 (by decide) ?_
    exact xiret ha hP hS dX8_tear_8 ⟨by simp [n_tear, t_1, i_leN, -Int32.not_lt], (by simp [n_tear, t_1, i_leN, -Int32.not_lt])⟩ rfl
set_option maxHeartbeats 4000000 in
set_option maxRecDepth 100000 in
theorem c_X8_put (G : GT) (l : Launch) (σ : Mem) (ro : Int32) (i : Int32) (v : Int32) (hrm : RM σ) : CI G 24 (cM G) l yX8_put ({ frames := 2, cells := 0, slots := 0, locals := 45 } : Room) cX8_put 5 (some .int) [.ref (G.1 0), .int ro, .int i, .int v] σ (fun (r : Int32) u => r = (n_put σ ro i v).1 ∧ u = (n_put σ ro i v).2) := by
  intro sz
  refine xbegin (by decide) (Nat.le_of_ble_eq_true rfl) ?_
  intro p e s m below meth c ls hsz ha hP hl
  subst hsz
  have hx := ha.1
  have hb := ha.2.1
  have hS : va_S (xA G 24 s.heap.size) s.heap s.heap [] := va_S.rf
  have hl : lv_has ls 5 [(0, .ref (G.1 0)), (1, .int ro), (2, .int i), (3, .int v)] := hl
  have k_m1 : (-1 : Int32).toInt = -1 := by decide
  have k_0 : (0 : Int32).toInt = 0 := by decide
  have k_1 : (1 : Int32).toInt = 1 := by decide
  have k_2 : (2 : Int32).toInt = 2 := by decide
  have k_4 : (4 : Int32).toInt = 4 := by decide
  have k_5 : (5 : Int32).toInt = 5 := by decide
  have k_6 : (6 : Int32).toInt = 6 := by decide
  have k_60 : (60 : Int32).toInt = 60 := by decide
  have k_1000 : (1000 : Int32).toInt = 1000 := by decide
  refine lv_iload_n hx hb dX8_put_0 rfl (lv_at hl 1 rfl) ?_
  refine xSi ha hP hS (y := yX8_isText) (As := [.int ro]) (rest := []) rfl (c_X8_isText G l σ ro ) kw_X8_112 hd_X8_isText rfl ⟨rfl, rfl⟩ ⟨Nat.le_of_ble_eq_true rfl, Nat.le_of_ble_eq_true rfl⟩ ⟨Nat.zero_le _, Nat.zero_le _⟩ hl.1 (Nat.le_of_ble_eq_true rfl) rfl dX8_put_1 (fun r u H locs hpq hP hS => ?_)
  obtain ⟨hr_, hu_⟩ := hpq
  have hr_ := hr_.symm
  have hu_ := hu_.symm
  subst hr_
  subst hu_
  refine lv_if_ne (tgt := 9) hx hb dX8_put_4 (by decide) (fun c_1 => ?_) (fun c_1 => ?_)
  · have t_1 := b2i_t c_1
    have f_1 := in_t t_1
    have hr1 := hrm.2 (ix ro) (by have := ix_toInt (show (0 : Int) ≤ ro.toInt by omega); omega)
    refine lv_aload_n hx hb dX8_put_9 rfl (lv_at hl 0 rfl) ?_
    refine g8_19 ha hP 0 (by decide) (cM_0 G _) (v := .ref (G.1 4)) rfl dX8_put_10 ?_
    refine lv_iload_n hx hb dX8_put_13 rfl (lv_at hl 1 rfl) ?_
    refine xialdN ha hP 4 (by decide) (cM_4 G _) (ix ro) (ix_nI (by omega)) (ix_lt (by omega) (by omega)) (by decide) dX8_put_14 ?_
    refine lv_if_ge (tgt := 24) hx hb dX8_put_15 (by decide) (fun c_2 => ?_) (fun c_2 => ?_)
    · have t_2 := i_le c_2
      have u_2 := u_le c_2
      have hs1 := sub1_i (show 0 ≤ (σ 4 (ix ro)).toInt by omega)
      refine lv_iload_n hx hb dX8_put_24 rfl (lv_at hl 2 rfl) ?_
      refine lv_i2l (v := i.toInt64) hx hb dX8_put_25 rfl ?_
      refine lv_lconst (v := 0) hx hb dX8_put_26 (by decide) ?_
      refine lv_aload_n hx hb dX8_put_27 rfl (lv_at hl 0 rfl) ?_
      refine g8_19 ha hP 0 (by decide) (cM_0 G _) (v := .ref (G.1 4)) rfl dX8_put_28 ?_
      refine lv_iload_n hx hb dX8_put_31 rfl (lv_at hl 1 rfl) ?_
      refine xialdN ha hP 4 (by decide) (cM_4 G _) (ix ro) (ix_nI (by omega)) (ix_lt (by omega) (by omega)) (by decide) dX8_put_32 ?_
      refine lv_iconst (v := 1) hx hb dX8_put_33 (by decide) ?_
      refine lv_isub hx hb dX8_put_34 ?_
      refine lv_i2l (v := ((σ 4 (ix ro)) - 1).toInt64) hx hb dX8_put_35 rfl ?_
      refine xSi ha hP hS (y := yX8_in) (As := [.long i.toInt64, .long 0, .long (((σ 4 (ix ro)) - 1).toInt64)]) (rest := []) rfl (c_X8_in G l σ i.toInt64 0 (((σ 4 (ix ro)) - 1).toInt64) ) kw_X8_95 hd_X8_in rfl ⟨rfl, rfl⟩ ⟨Nat.le_of_ble_eq_true rfl, Nat.le_of_ble_eq_true rfl⟩ ⟨Nat.zero_le _, Nat.zero_le _⟩ hl.1 (Nat.le_of_ble_eq_true rfl) rfl dX8_put_36 (fun r u H locs hpq hP hS => ?_)
      obtain ⟨hr_, hu_⟩ := hpq
      have hr_ := hr_.symm
      have hu_ := hu_.symm
      subst hr_
      subst hu_
      refine lv_if_ne (tgt := 48) hx hb dX8_put_39 (by decide) (fun c_3 => ?_) (fun c_3 => ?_)
      · have t_3 := b2i_t c_3
        have f_3 := bin_t t_3
        try simp only [Int32.toInt_toInt64, ll_0, ll_1, ll_2, ll_3, ll_4, ll_5, ll_9, ll_12, ll_20, ll_40, ll_57, ll_99, ll_2147483646] at f_3
        refine lv_aload_n hx hb dX8_put_48 rfl (lv_at hl 0 rfl) ?_
        refine g8_16 ha hP 0 (by decide) (cM_0 G _) (v := .ref (G.1 3)) rfl dX8_put_49 ?_
        refine lv_bipush (v := 60) hx hb dX8_put_52 (by decide) ?_
        refine lv_iload_n hx hb dX8_put_54 rfl (lv_at hl 1 rfl) ?_
        refine lv_imul hx hb dX8_put_55 ?_
        refine lv_iload_n hx hb dX8_put_56 rfl (lv_at hl 2 rfl) ?_
        refine lv_iadd hx hb dX8_put_57 ?_
        refine xialdN ha hP 3 (by decide) (cM_3 G _) ((60 * (ix ro)) + (ix i)) (nadd (nmul (rfl : (60 : Int32) = nI 60) (ix_nI (by omega))) (ix_nI (by omega))) (by have q_0 := ix_toInt (show (0 : Int) ≤ (ro).toInt by omega); have q_1 := ix_toInt (show (0 : Int) ≤ (i).toInt by omega); omega) (by decide) dX8_put_58 ?_
        refine lv_istore (lv' := [(4, .int (σ 3 ((60 * (ix ro)) + (ix i)))), (0, .ref (G.1 0)), (1, .int ro), (2, .int i), (3, .int v)]) hx hb dX8_put_59 hl (by decide) rfl (fun ls hl => ?_)
        refine lv_aload_n hx hb dX8_put_61 rfl (lv_at hl 1 rfl) ?_
        refine g8_16 ha hP 0 (by decide) (cM_0 G _) (v := .ref (G.1 3)) rfl dX8_put_62 ?_
        refine lv_bipush (v := 60) hx hb dX8_put_65 (by decide) ?_
        refine lv_iload_n hx hb dX8_put_67 rfl (lv_at hl 2 rfl) ?_
        refine lv_imul hx hb dX8_put_68 ?_
        refine lv_iload_n hx hb dX8_put_69 rfl (lv_at hl 3 rfl) ?_
        refine lv_iadd hx hb dX8_put_70 ?_
        refine lv_iload_n hx hb dX8_put_71 rfl (lv_at hl 4 rfl) ?_
        refine lv_i2b (v := v.toInt8.toInt32) hx hb dX8_put_72 rfl ?_
        refine xiastN ha hP hS (cM_loc G) 3 (by decide) (fun τ => cM_3 G τ) ((60 * (ix ro)) + (ix i)) (nadd (nmul (rfl : (60 : Int32) = nI 60) (ix_nI (by omega))) (ix_nI (by omega))) (by have q_0 := ix_toInt (show (0 : Int) ≤ (ro).toInt by omega); have q_1 := ix_toInt (show (0 : Int) ≤ (i).toInt by omega); omega) (by decide) dX8_put_73 (fun H locs hP hS => ?_)
        refine lv_iload hx hb dX8_put_74 (lv_at hl 0 rfl) ?_
        refine lv_sipush (v := 1000) hx hb dX8_put_76 (by decide) ?_
        refine lv_iadd hx hb dX8_put_79 ?_
        exact xiret ha hP hS dX8_put_80 ⟨by simp [n_put, t_1, u_2, t_3, i_leN, -Int32.not_lt], (by simp [n_put, t_1, u_2, t_3, i_leN, -Int32.not_lt])⟩ rfl
      · have t_3 := b2i_f c_3
        have f_3 := bin_f t_3
        try simp only [Int32.toInt_toInt64, ll_0, ll_1, ll_2, ll_3, ll_4, ll_5, ll_9, ll_12, ll_20, ll_40, ll_57, ll_99, ll_2147483646] at f_3
        refine lv_aload_n hx hb dX8_put_42 rfl (lv_at hl 0 rfl) ?_
        refine lv_iconst (v := 2) hx hb dX8_put_43 (by decide) ?_
        refine xVi ha hP hS (y := yX8_found) (As := [.int 2]) (rest := []) 0 (by decide) (cM_0 G _) rfl rfl (c_X8_found G l σ 2 (by decide)) kw_X8_105 hd_X8_found rfl ⟨rfl, rfl⟩ ⟨Nat.le_of_ble_eq_true rfl, Nat.le_of_ble_eq_true rfl⟩ ⟨Nat.zero_le _, Nat.zero_le _⟩ hl.1 (Nat.le_of_ble_eq_true rfl) rfl dX8_put_44 (fun r u H locs hpq hP hS => ?_)
        obtain ⟨hr_, hu_⟩ := hpq
        have hr_ := hr_.symm
        have hu_ := hu_.symm
        subst hr_
        subst hu_
        exact xiret ha hP hS dX8_put_47 ⟨by simp [n_put, t_1, u_2, t_3, i_leN, -Int32.not_lt], (by simp [n_put, t_1, u_2, t_3, i_leN, -Int32.not_lt])⟩ rfl
    · have t_2 := i_nle c_2
      have u_2 := u_nle c_2
      refine lv_aload_n hx hb dX8_put_18 rfl (lv_at hl 0 rfl) ?_
      refine lv_iconst (v := 1) hx hb dX8_put_19 (by decide) ?_
      refine xVi ha hP hS (y := yX8_found) (As := [.int 1]) (rest := []) 0 (by decide) (cM_0 G _) rfl rfl (c_X8_found G l σ 1 (by decide)) kw_X8_105 hd_X8_found rfl ⟨rfl, rfl⟩ ⟨Nat.le_of_ble_eq_true rfl, Nat.le_of_ble_eq_true rfl⟩ ⟨Nat.zero_le _, Nat.zero_le _⟩ hl.1 (Nat.le_of_ble_eq_true rfl) rfl dX8_put_20 (fun r u H locs hpq hP hS => ?_)
      obtain ⟨hr_, hu_⟩ := hpq
      have hr_ := hr_.symm
      have hu_ := hu_.symm
      subst hr_
      subst hu_
      exact xiret ha hP hS dX8_put_23 ⟨by simp [n_put, t_1, u_2, i_leN, -Int32.not_lt], (by simp [n_put, t_1, u_2, i_leN, -Int32.not_lt])⟩ rfl
  · have t_1 := b2i_f c_1
    refine lv_iconst (v := (-1)) hx hb dX8_put_7 (by decide) ?_
    exact xiret ha hP hS dX8_put_8 ⟨by simp [n_put, t_1, i_leN, -Int32.not_lt], (by simp [n_put, t_1, i_leN, -Int32.not_lt])⟩ rfl
set_option maxHeartbeats 4000000 in
set_option maxRecDepth 100000 in
theorem c_X8_mean (G : GT) (l : Launch) (σ : Mem) (ro : Int32) (hrm : RM σ) : CI G 24 (cM G) l yX8_mean ({ frames := 2, cells := 0, slots := 0, locals := 45 } : Room) cX8_mean 5 (some .int) [.ref (G.1 0), .int ro] σ (fun (r : Int32) u => r = (n_mean σ ro).1 ∧ u = (n_mean σ ro).2) := by
  intro sz
  refine xbegin (by decide) (Nat.le_of_ble_eq_true rfl) ?_
  intro p e s m below meth c ls hsz ha hP hl
  subst hsz
  have hx := ha.1
  have hb := ha.2.1
  have hS : va_S (xA G 24 s.heap.size) s.heap s.heap [] := va_S.rf
  have hl : lv_has ls 5 [(0, .ref (G.1 0)), (1, .int ro)] := hl
  have k_m1 : (-1 : Int32).toInt = -1 := by decide
  have k_0 : (0 : Int32).toInt = 0 := by decide
  have k_1 : (1 : Int32).toInt = 1 := by decide
  have k_4 : (4 : Int32).toInt = 4 := by decide
  have k_5 : (5 : Int32).toInt = 5 := by decide
  have k_6 : (6 : Int32).toInt = 6 := by decide
  have k_40 : (40 : Int32).toInt = 40 := by decide
  refine lv_iload_n hx hb dX8_mean_0 rfl (lv_at hl 1 rfl) ?_
  refine xSi ha hP hS (y := yX8_isRow) (As := [.int ro]) (rest := []) rfl (c_X8_isRow G l σ ro ) kw_X8_101 hd_X8_isRow rfl ⟨rfl, rfl⟩ ⟨Nat.le_of_ble_eq_true rfl, Nat.le_of_ble_eq_true rfl⟩ ⟨Nat.zero_le _, Nat.zero_le _⟩ hl.1 (Nat.le_of_ble_eq_true rfl) rfl dX8_mean_1 (fun r u H locs hpq hP hS => ?_)
  obtain ⟨hr_, hu_⟩ := hpq
  have hr_ := hr_.symm
  have hu_ := hu_.symm
  subst hr_
  subst hu_
  refine lv_if_ne (tgt := 9) hx hb dX8_mean_4 (by decide) (fun c_1 => ?_) (fun c_1 => ?_)
  · have t_1 := b2i_t c_1
    have f_1 := in_t t_1
    have hr1 := hrm.1 (ix ro) (by have := ix_toInt (show (0 : Int) ≤ ro.toInt by omega); omega)
    refine lv_aload_n hx hb dX8_mean_9 rfl (lv_at hl 0 rfl) ?_
    refine g8_13 ha hP 0 (by decide) (cM_0 G _) (v := .ref (G.1 2)) rfl dX8_mean_10 ?_
    refine lv_iload_n hx hb dX8_mean_13 rfl (lv_at hl 1 rfl) ?_
    refine xialdN ha hP 2 (by decide) (cM_2 G _) (ix ro) (ix_nI (by omega)) (ix_lt (by omega) (by omega)) (by decide) dX8_mean_14 ?_
    refine lv_if_ge (tgt := 24) hx hb dX8_mean_15 (by decide) (fun c_2 => ?_) (fun c_2 => ?_)
    · have t_2 := i_le c_2
      have u_2 := u_le c_2
      refine lv_aload_n hx hb dX8_mean_24 rfl (lv_at hl 0 rfl) ?_
      refine g8_13 ha hP 0 (by decide) (cM_0 G _) (v := .ref (G.1 2)) rfl dX8_mean_25 ?_
      refine lv_iload_n hx hb dX8_mean_28 rfl (lv_at hl 1 rfl) ?_
      refine xialdN ha hP 2 (by decide) (cM_2 G _) (ix ro) (ix_nI (by omega)) (ix_lt (by omega) (by omega)) (by decide) dX8_mean_29 ?_
      refine lv_if_ne (tgt := 39) hx hb dX8_mean_30 (by decide) (fun c_3 => ?_) (fun c_3 => ?_)
      · have t_3 := i_ne c_3
        have hc0 := ix_cases (σ 2 (ix ro))
        refine lv_lconst (v := 0) hx hb dX8_mean_39 (by decide) ?_
        refine lv_lstore_n (lv' := [(2, .long 0), (0, .ref (G.1 0)), (1, .int ro)]) hx hb dX8_mean_40 rfl hl (by decide) rfl (fun ls hl => ?_)
        refine lv_iconst (v := 0) hx hb dX8_mean_41 (by decide) ?_
        refine lv_istore (lv' := [(4, .int 0), (2, .long 0), (0, .ref (G.1 0)), (1, .int ro)]) hx hb dX8_mean_42 hl (by decide) rfl (fun ls hl => ?_)
        have lp_44 : ∀ (d j : Nat) (x2 : Int64) (H : Heap) (locs : List Loc) (ls : Array Slot), j ≤ (ix (σ 2 (ix ro))) → (ix (σ 2 (ix ro))) - j < d → x2 = sumL (fun i => σ 1 (40 * ix ro + i)) j → va_P G.2.1 vwCl (wl G 24 (cM G σ)) H → va_S (xA G 24 s.heap.size) s.heap H locs → lv_has ls 5 [(4, .int (nI j)), (2, .long x2), (0, .ref (G.1 0)), (1, .int ro)] → W p l e ({ frames := 2, cells := 0, slots := 0, locals := 45 } : Room) s m ([.ref (G.1 0), .int ro] : List Value).toArray below meth c H locs 0 0 (MQ below (va_Qi (fun (r : Int32) u => r = (n_mean σ ro).1 ∧ u = (n_mean σ ro).2) (xB G 24 (cM G)) (xA G 24 s.heap.size)) ([.ref (G.1 0), .int ro] : List Value).toArray s 0 0 (xA G 24 s.heap.size)) (F0 m 44 ls []) := by
          intro d
          induction d with
          | zero => intro j x2 H locs ls hj hd; exact absurd hd (Nat.not_lt_zero _)
          | succ d ih_44 =>
            intro j x2 H locs ls hj_j hd_j e_x2 hP hS hl
            have h31_j : (nI j).toInt = (j : Int) := nI_toInt (by omega)
            refine lv_iload hx hb dX8_mean_44 (lv_at hl 0 rfl) ?_
            refine lv_aload_n hx hb dX8_mean_46 rfl (lv_at hl 2 rfl) ?_
            refine g8_13 ha hP 0 (by decide) (cM_0 G _) (v := .ref (G.1 2)) rfl dX8_mean_47 ?_
            refine lv_iload_n hx hb dX8_mean_50 rfl (lv_at hl 3 rfl) ?_
            refine xialdN ha hP 2 (by decide) (cM_2 G _) (ix ro) (ix_nI (by omega)) (ix_lt (by omega) (by omega)) (by decide) dX8_mean_51 ?_
            refine lv_icmp_ge (tgt := 77) hx hb dX8_mean_52 (by decide) (fun c_4 => ?_) (fun c_4 => ?_)
            · have t_4 := i_le c_4
              have u_4 := u_le c_4
              obtain rfl : j = (ix (σ 2 (ix ro))) := by omega
              refine lv_aload_n hx hb dX8_mean_77 rfl (lv_at hl 2 rfl) ?_
              refine lv_lload_n hx hb dX8_mean_78 rfl (lv_at hl 1 rfl) ?_
              refine lv_aload_n hx hb dX8_mean_79 rfl (lv_at hl 2 rfl) ?_
              refine g8_13 ha hP 0 (by decide) (cM_0 G _) (v := .ref (G.1 2)) rfl dX8_mean_80 ?_
              refine lv_iload_n hx hb dX8_mean_83 rfl (lv_at hl 3 rfl) ?_
              refine xialdN ha hP 2 (by decide) (cM_2 G _) (ix ro) (ix_nI (by omega)) (ix_lt (by omega) (by omega)) (by decide) dX8_mean_84 ?_
              refine lv_i2l (v := (σ 2 (ix ro)).toInt64) hx hb dX8_mean_85 rfl ?_
              refine lv_ldiv hx hb dX8_mean_86 (toInt64_nz (by assumption)) ?_
              refine lv_l2i (v := (x2 / (σ 2 (ix ro)).toInt64).toInt32) hx hb dX8_mean_87 rfl ?_
              refine xVi ha hP hS (y := yX8_tell) (As := [.int ((x2 / (σ 2 (ix ro)).toInt64).toInt32)]) (rest := []) 0 (by decide) (cM_0 G _) rfl rfl (c_X8_tell G l σ ((x2 / (σ 2 (ix ro)).toInt64).toInt32) ) kw_X8_109 hd_X8_tell rfl ⟨rfl, rfl⟩ ⟨Nat.le_of_ble_eq_true rfl, Nat.le_of_ble_eq_true rfl⟩ ⟨Nat.zero_le _, Nat.zero_le _⟩ hl.1 (Nat.le_of_ble_eq_true rfl) rfl dX8_mean_88 (fun r u H locs hpq hP hS => ?_)
              obtain ⟨hr_, hu_⟩ := hpq
              have hr_ := hr_.symm
              have hu_ := hu_.symm
              subst hr_
              subst hu_
              exact xiret ha hP hS dX8_mean_91 ⟨by simp [n_mean, t_1, u_2, c_3, u_4, i_leN, -Int32.not_lt], (by rw [e_x2]; simp [n_mean, t_1, u_2, c_3, u_4, i_leN, -Int32.not_lt])⟩ rfl
            · have t_4 := i_nle c_4
              have u_4 := u_nle c_4
              have hlt_j : j < (ix (σ 2 (ix ro))) := by omega
              refine lv_lload_n hx hb dX8_mean_55 rfl (lv_at hl 1 rfl) ?_
              refine lv_aload_n hx hb dX8_mean_56 rfl (lv_at hl 2 rfl) ?_
              refine g8_7 ha hP 0 (by decide) (cM_0 G _) (v := .ref (G.1 1)) rfl dX8_mean_57 ?_
              refine lv_bipush (v := 40) hx hb dX8_mean_60 (by decide) ?_
              refine lv_iload_n hx hb dX8_mean_62 rfl (lv_at hl 3 rfl) ?_
              refine lv_imul hx hb dX8_mean_63 ?_
              refine lv_iload hx hb dX8_mean_64 (lv_at hl 0 rfl) ?_
              refine lv_iadd hx hb dX8_mean_66 ?_
              refine xialdN ha hP 1 (by decide) (cM_1 G _) ((40 * (ix ro)) + j) (nadd (nmul (rfl : (40 : Int32) = nI 40) (ix_nI (by omega))) rfl) (by have q_0 := ix_toInt (show (0 : Int) ≤ (ro).toInt by omega); omega) (by decide) dX8_mean_67 ?_
              refine lv_i2l (v := (σ 1 ((40 * (ix ro)) + j)).toInt64) hx hb dX8_mean_68 rfl ?_
              refine lv_ladd hx hb dX8_mean_69 ?_
              refine lv_lstore_n (lv' := [(2, .long (x2 + (σ 1 ((40 * (ix ro)) + j)).toInt64)), (4, .int (nI j)), (0, .ref (G.1 0)), (1, .int ro)]) hx hb dX8_mean_70 rfl hl (by decide) rfl (fun ls hl => ?_)
              refine lv_iinc (v := (nI (j + 1))) (lv' := [(4, .int (nI (j + 1))), (2, .long (x2 + (σ 1 ((40 * (ix ro)) + j)).toInt64)), (0, .ref (G.1 0)), (1, .int ro)]) hx hb dX8_mean_71 hl (k := 1) rfl (nI_1 j) (by decide) rfl (fun ls hl => ?_)
              refine lv_goto (tgt := 44) hx hb dX8_mean_74 (by decide) ?_
              exact ih_44 (j + 1) (x2 + (σ 1 ((40 * (ix ro)) + j)).toInt64) _ _ _ (by omega) (by omega) (by rw [e_x2]; rfl) hP hS (lv_sub hl [0, 1, 2, 3] rfl)
        exact lp_44 ((ix (σ 2 (ix ro))) - 0 + 1) 0 0 _ _ _ (by omega) (by omega) rfl hP hS (lv_sub hl [0, 1, 2, 3] rfl)
      · have t_3 := i_eq c_3
        refine lv_aload_n hx hb dX8_mean_33 rfl (lv_at hl 0 rfl) ?_
        refine lv_iconst (v := 4) hx hb dX8_mean_34 (by decide) ?_
        refine xVi ha hP hS (y := yX8_found) (As := [.int 4]) (rest := []) 0 (by decide) (cM_0 G _) rfl rfl (c_X8_found G l σ 4 (by decide)) kw_X8_105 hd_X8_found rfl ⟨rfl, rfl⟩ ⟨Nat.le_of_ble_eq_true rfl, Nat.le_of_ble_eq_true rfl⟩ ⟨Nat.zero_le _, Nat.zero_le _⟩ hl.1 (Nat.le_of_ble_eq_true rfl) rfl dX8_mean_35 (fun r u H locs hpq hP hS => ?_)
        obtain ⟨hr_, hu_⟩ := hpq
        have hr_ := hr_.symm
        have hu_ := hu_.symm
        subst hr_
        subst hu_
        exact xiret ha hP hS dX8_mean_38 ⟨by simp [n_mean, t_1, u_2, c_3, i_leN, -Int32.not_lt], (by simp [n_mean, t_1, u_2, c_3, i_leN, -Int32.not_lt])⟩ rfl
    · have t_2 := i_nle c_2
      have u_2 := u_nle c_2
      refine lv_aload_n hx hb dX8_mean_18 rfl (lv_at hl 0 rfl) ?_
      refine lv_iconst (v := 1) hx hb dX8_mean_19 (by decide) ?_
      refine xVi ha hP hS (y := yX8_found) (As := [.int 1]) (rest := []) 0 (by decide) (cM_0 G _) rfl rfl (c_X8_found G l σ 1 (by decide)) kw_X8_105 hd_X8_found rfl ⟨rfl, rfl⟩ ⟨Nat.le_of_ble_eq_true rfl, Nat.le_of_ble_eq_true rfl⟩ ⟨Nat.zero_le _, Nat.zero_le _⟩ hl.1 (Nat.le_of_ble_eq_true rfl) rfl dX8_mean_20 (fun r u H locs hpq hP hS => ?_)
      obtain ⟨hr_, hu_⟩ := hpq
      have hr_ := hr_.symm
      have hu_ := hu_.symm
      subst hr_
      subst hu_
      exact xiret ha hP hS dX8_mean_23 ⟨by simp [n_mean, t_1, u_2, i_leN, -Int32.not_lt], (by simp [n_mean, t_1, u_2, i_leN, -Int32.not_lt])⟩ rfl
  · have t_1 := b2i_f c_1
    refine lv_iconst (v := (-1)) hx hb dX8_mean_7 (by decide) ?_
    exact xiret ha hP hS dX8_mean_8 ⟨by simp [n_mean, t_1, i_leN, -Int32.not_lt], (by simp [n_mean, t_1, i_leN, -Int32.not_lt])⟩ rfl
set_option maxHeartbeats 4000000 in
set_option maxRecDepth 100000 in
theorem c_X8_copy (G : GT) (l : Launch) (σ : Mem) (ro : Int32) (i : Int32) (onto : Int32) (jj : Int32) (n : Int32) (hrm : RM σ) : CI G 24 (cM G) l yX8_copy ({ frames := 2, cells := 0, slots := 0, locals := 45 } : Room) cX8_copy 8 (some .int) [.ref (G.1 0), .int ro, .int i, .int onto, .int jj, .int n] σ (fun (r : Int32) u => r = (n_copy σ ro i onto jj n).1 ∧ u = (n_copy σ ro i onto jj n).2) := by
  intro sz
  refine xbegin (by decide) (Nat.le_of_ble_eq_true rfl) ?_
  intro p e s m below meth c ls hsz ha hP hl
  subst hsz
  have hx := ha.1
  have hb := ha.2.1
  have hS : va_S (xA G 24 s.heap.size) s.heap s.heap [] := va_S.rf
  have hl : lv_has ls 8 [(0, .ref (G.1 0)), (1, .int ro), (2, .int i), (3, .int onto), (4, .int jj), (5, .int n)] := hl
  have k_m1 : (-1 : Int32).toInt = -1 := by decide
  have k_0 : (0 : Int32).toInt = 0 := by decide
  have k_1 : (1 : Int32).toInt = 1 := by decide
  have k_2 : (2 : Int32).toInt = 2 := by decide
  have k_4 : (4 : Int32).toInt = 4 := by decide
  have k_5 : (5 : Int32).toInt = 5 := by decide
  have k_6 : (6 : Int32).toInt = 6 := by decide
  have k_40 : (40 : Int32).toInt = 40 := by decide
  refine lv_iload_n hx hb dX8_copy_0 rfl (lv_at hl 1 rfl) ?_
  refine xSi ha hP hS (y := yX8_isRow) (As := [.int ro]) (rest := []) rfl (c_X8_isRow G l σ ro ) kw_X8_101 hd_X8_isRow rfl ⟨rfl, rfl⟩ ⟨Nat.le_of_ble_eq_true rfl, Nat.le_of_ble_eq_true rfl⟩ ⟨Nat.zero_le _, Nat.zero_le _⟩ hl.1 (Nat.le_of_ble_eq_true rfl) rfl dX8_copy_1 (fun r u H locs hpq hP hS => ?_)
  obtain ⟨hr_, hu_⟩ := hpq
  have hr_ := hr_.symm
  have hu_ := hu_.symm
  subst hr_
  subst hu_
  refine lv_if_eq (tgt := 14) hx hb dX8_copy_4 (by decide) (fun c_1 => ?_) (fun c_1 => ?_)
  · have t_1 := b2i_f c_1
    refine lv_iconst (v := (-1)) hx hb dX8_copy_14 (by decide) ?_
    exact xiret ha hP hS dX8_copy_15 ⟨by simp [n_copy, t_1, i_leN, -Int32.not_lt], (by simp [n_copy, t_1, i_leN, -Int32.not_lt])⟩ rfl
  · have t_1 := b2i_t c_1
    have f_1 := in_t t_1
    refine lv_iload_n hx hb dX8_copy_7 rfl (lv_at hl 3 rfl) ?_
    refine xSi ha hP hS (y := yX8_isRow) (As := [.int onto]) (rest := []) rfl (c_X8_isRow G l σ onto ) kw_X8_101 hd_X8_isRow rfl ⟨rfl, rfl⟩ ⟨Nat.le_of_ble_eq_true rfl, Nat.le_of_ble_eq_true rfl⟩ ⟨Nat.zero_le _, Nat.zero_le _⟩ hl.1 (Nat.le_of_ble_eq_true rfl) rfl dX8_copy_8 (fun r u H locs hpq hP hS => ?_)
    obtain ⟨hr_, hu_⟩ := hpq
    have hr_ := hr_.symm
    have hu_ := hu_.symm
    subst hr_
    subst hu_
    refine lv_if_ne (tgt := 16) hx hb dX8_copy_11 (by decide) (fun c_2 => ?_) (fun c_2 => ?_)
    · have t_2 := b2i_t c_2
      have f_2 := in_t t_2
      have hr1 := hrm.1 (ix ro) (by have := ix_toInt (show (0 : Int) ≤ ro.toInt by omega); omega)
      have hr2 := hrm.1 (ix onto) (by have := ix_toInt (show (0 : Int) ≤ onto.toInt by omega); omega)
      refine lv_iload hx hb dX8_copy_16 (lv_at hl 5 rfl) ?_
      refine lv_if_ge (tgt := 27) hx hb dX8_copy_18 (by decide) (fun c_3 => ?_) (fun c_3 => ?_)
      · have t_3 := i_le c_3
        have u_3 := u_le c_3
        refine lv_aload_n hx hb dX8_copy_27 rfl (lv_at hl 0 rfl) ?_
        refine g8_13 ha hP 0 (by decide) (cM_0 G _) (v := .ref (G.1 2)) rfl dX8_copy_28 ?_
        refine lv_iload_n hx hb dX8_copy_31 rfl (lv_at hl 1 rfl) ?_
        refine xialdN ha hP 2 (by decide) (cM_2 G _) (ix ro) (ix_nI (by omega)) (ix_lt (by omega) (by omega)) (by decide) dX8_copy_32 ?_
        refine lv_if_lt (tgt := 45) hx hb dX8_copy_33 (by decide) (fun c_4 => ?_) (fun c_4 => ?_)
        · have t_4 := i_lt c_4
          refine lv_aload_n hx hb dX8_copy_45 rfl (lv_at hl 0 rfl) ?_
          refine lv_iconst (v := 1) hx hb dX8_copy_46 (by decide) ?_
          refine xVi ha hP hS (y := yX8_found) (As := [.int 1]) (rest := []) 0 (by decide) (cM_0 G _) rfl rfl (c_X8_found G l σ 1 (by decide)) kw_X8_105 hd_X8_found rfl ⟨rfl, rfl⟩ ⟨Nat.le_of_ble_eq_true rfl, Nat.le_of_ble_eq_true rfl⟩ ⟨Nat.zero_le _, Nat.zero_le _⟩ hl.1 (Nat.le_of_ble_eq_true rfl) rfl dX8_copy_47 (fun r u H locs hpq hP hS => ?_)
          obtain ⟨hr_, hu_⟩ := hpq
          have hr_ := hr_.symm
          have hu_ := hu_.symm
          subst hr_
          subst hu_
          exact xiret ha hP hS dX8_copy_50 ⟨by simp [n_copy, t_1, t_2, u_3, c_4, i_leN, -Int32.not_lt], (by simp [n_copy, t_1, t_2, u_3, c_4, i_leN, -Int32.not_lt])⟩ rfl
        · have t_4 := i_nlt c_4
          refine lv_aload_n hx hb dX8_copy_36 rfl (lv_at hl 0 rfl) ?_
          refine g8_13 ha hP 0 (by decide) (cM_0 G _) (v := .ref (G.1 2)) rfl dX8_copy_37 ?_
          refine lv_iload_n hx hb dX8_copy_40 rfl (lv_at hl 3 rfl) ?_
          refine xialdN ha hP 2 (by decide) (cM_2 G _) (ix onto) (ix_nI (by omega)) (ix_lt (by omega) (by omega)) (by decide) dX8_copy_41 ?_
          refine lv_if_ge (tgt := 51) hx hb dX8_copy_42 (by decide) (fun c_5 => ?_) (fun c_5 => ?_)
          · have t_5 := i_le c_5
            have u_5 := u_le c_5
            refine lv_iload_n hx hb dX8_copy_51 rfl (lv_at hl 2 rfl) ?_
            refine lv_if_lt (tgt := 95) hx hb dX8_copy_52 (by decide) (fun c_6 => ?_) (fun c_6 => ?_)
            · have t_6 := i_lt c_6
              refine lv_aload_n hx hb dX8_copy_95 rfl (lv_at hl 0 rfl) ?_
              refine lv_iconst (v := 2) hx hb dX8_copy_96 (by decide) ?_
              refine xVi ha hP hS (y := yX8_found) (As := [.int 2]) (rest := []) 0 (by decide) (cM_0 G _) rfl rfl (c_X8_found G l σ 2 (by decide)) kw_X8_105 hd_X8_found rfl ⟨rfl, rfl⟩ ⟨Nat.le_of_ble_eq_true rfl, Nat.le_of_ble_eq_true rfl⟩ ⟨Nat.zero_le _, Nat.zero_le _⟩ hl.1 (Nat.le_of_ble_eq_true rfl) rfl dX8_copy_97 (fun r u H locs hpq hP hS => ?_)
              obtain ⟨hr_, hu_⟩ := hpq
              have hr_ := hr_.symm
              have hu_ := hu_.symm
              subst hr_
              subst hu_
              exact xiret ha hP hS dX8_copy_100 ⟨by simp [n_copy, t_1, t_2, u_3, c_4, u_5, c_6, i_leN, -Int32.not_lt], (by simp [n_copy, t_1, t_2, u_3, c_4, u_5, c_6, i_leN, -Int32.not_lt])⟩ rfl
            · have t_6 := i_nlt c_6
              refine lv_iload hx hb dX8_copy_55 (lv_at hl 4 rfl) ?_
              refine lv_if_lt (tgt := 95) hx hb dX8_copy_57 (by decide) (fun c_7 => ?_) (fun c_7 => ?_)
              · have t_7 := i_lt c_7
                refine lv_aload_n hx hb dX8_copy_95 rfl (lv_at hl 0 rfl) ?_
                refine lv_iconst (v := 2) hx hb dX8_copy_96 (by decide) ?_
                refine xVi ha hP hS (y := yX8_found) (As := [.int 2]) (rest := []) 0 (by decide) (cM_0 G _) rfl rfl (c_X8_found G l σ 2 (by decide)) kw_X8_105 hd_X8_found rfl ⟨rfl, rfl⟩ ⟨Nat.le_of_ble_eq_true rfl, Nat.le_of_ble_eq_true rfl⟩ ⟨Nat.zero_le _, Nat.zero_le _⟩ hl.1 (Nat.le_of_ble_eq_true rfl) rfl dX8_copy_97 (fun r u H locs hpq hP hS => ?_)
                obtain ⟨hr_, hu_⟩ := hpq
                have hr_ := hr_.symm
                have hu_ := hu_.symm
                subst hr_
                subst hu_
                exact xiret ha hP hS dX8_copy_100 ⟨by simp [n_copy, t_1, t_2, u_3, c_4, u_5, c_6, c_7, i_leN, -Int32.not_lt], (by simp [n_copy, t_1, t_2, u_3, c_4, u_5, c_6, c_7, i_leN, -Int32.not_lt])⟩ rfl
              · have t_7 := i_nlt c_7
                refine lv_iload_n hx hb dX8_copy_60 rfl (lv_at hl 2 rfl) ?_
                refine lv_i2l (v := i.toInt64) hx hb dX8_copy_61 rfl ?_
                refine lv_iload hx hb dX8_copy_62 (lv_at hl 5 rfl) ?_
                refine lv_i2l (v := n.toInt64) hx hb dX8_copy_64 rfl ?_
                refine lv_ladd hx hb dX8_copy_65 ?_
                refine lv_aload_n hx hb dX8_copy_66 rfl (lv_at hl 0 rfl) ?_
                refine g8_13 ha hP 0 (by decide) (cM_0 G _) (v := .ref (G.1 2)) rfl dX8_copy_67 ?_
                refine lv_iload_n hx hb dX8_copy_70 rfl (lv_at hl 1 rfl) ?_
                refine xialdN ha hP 2 (by decide) (cM_2 G _) (ix ro) (ix_nI (by omega)) (ix_lt (by omega) (by omega)) (by decide) dX8_copy_71 ?_
                refine lv_i2l (v := (σ 2 (ix ro)).toInt64) hx hb dX8_copy_72 rfl ?_
                refine W.lcmp hx hb dX8_copy_73 ?_
                refine l_if_gt (tgt := 95) hx hb dX8_copy_74 (by decide) (fun c_8 => ?_) (fun c_8 => ?_)
                · have w_8 := c_8
                  refine lv_aload_n hx hb dX8_copy_95 rfl (lv_at hl 0 rfl) ?_
                  refine lv_iconst (v := 2) hx hb dX8_copy_96 (by decide) ?_
                  refine xVi ha hP hS (y := yX8_found) (As := [.int 2]) (rest := []) 0 (by decide) (cM_0 G _) rfl rfl (c_X8_found G l σ 2 (by decide)) kw_X8_105 hd_X8_found rfl ⟨rfl, rfl⟩ ⟨Nat.le_of_ble_eq_true rfl, Nat.le_of_ble_eq_true rfl⟩ ⟨Nat.zero_le _, Nat.zero_le _⟩ hl.1 (Nat.le_of_ble_eq_true rfl) rfl dX8_copy_97 (fun r u H locs hpq hP hS => ?_)
                  obtain ⟨hr_, hu_⟩ := hpq
                  have hr_ := hr_.symm
                  have hu_ := hu_.symm
                  subst hr_
                  subst hu_
                  exact xiret ha hP hS dX8_copy_100 ⟨by simp [n_copy, t_1, t_2, u_3, c_4, u_5, c_6, c_7, c_8, i_leN, -Int32.not_lt], (by simp [n_copy, t_1, t_2, u_3, c_4, u_5, c_6, c_7, c_8, i_leN, -Int32.not_lt])⟩ rfl
                · have w_8 := c_8
                  refine lv_iload hx hb dX8_copy_77 (lv_at hl 4 rfl) ?_
                  refine lv_i2l (v := jj.toInt64) hx hb dX8_copy_79 rfl ?_
                  refine lv_iload hx hb dX8_copy_80 (lv_at hl 5 rfl) ?_
                  refine lv_i2l (v := n.toInt64) hx hb dX8_copy_82 rfl ?_
                  refine lv_ladd hx hb dX8_copy_83 ?_
                  refine lv_aload_n hx hb dX8_copy_84 rfl (lv_at hl 0 rfl) ?_
                  refine g8_13 ha hP 0 (by decide) (cM_0 G _) (v := .ref (G.1 2)) rfl dX8_copy_85 ?_
                  refine lv_iload_n hx hb dX8_copy_88 rfl (lv_at hl 3 rfl) ?_
                  refine xialdN ha hP 2 (by decide) (cM_2 G _) (ix onto) (ix_nI (by omega)) (ix_lt (by omega) (by omega)) (by decide) dX8_copy_89 ?_
                  refine lv_i2l (v := (σ 2 (ix onto)).toInt64) hx hb dX8_copy_90 rfl ?_
                  refine W.lcmp hx hb dX8_copy_91 ?_
                  refine l_if_le (tgt := 101) hx hb dX8_copy_92 (by decide) (fun c_9 => ?_) (fun c_9 => ?_)
                  · have w_9 := c_9
                    have hni := ix_toInt (show 0 ≤ n.toInt by omega)
                    have hii := ix_toInt (show 0 ≤ i.toInt by omega)
                    have hjj := ix_toInt (show 0 ≤ jj.toInt by omega)
                    have hb1 : i.toInt + n.toInt ≤ (σ 2 (ix ro)).toInt := ladd_le (by assumption)
                    have hb2 : jj.toInt + n.toInt ≤ (σ 2 (ix onto)).toInt := ladd_le (by assumption)
                    refine lv_iconst (v := 0) hx hb dX8_copy_101 (by decide) ?_
                    refine lv_istore (lv' := [(6, .int 0), (0, .ref (G.1 0)), (1, .int ro), (2, .int i), (3, .int onto), (4, .int jj), (5, .int n)]) hx hb dX8_copy_102 hl (by decide) rfl (fun ls hl => ?_)
                    have lp_104 : ∀ (d j : Nat) (τj : Mem) (H : Heap) (locs : List Loc) (ls : Array Slot), j ≤ (ix n) → (ix n) - j < d → τj = w_cp σ (40 * ix ro + ix i) (40 * ix onto + ix jj) i jj n j → va_P G.2.1 vwCl (wl G 24 (cM G τj)) H → va_S (xA G 24 s.heap.size) s.heap H locs → lv_has ls 8 [(6, .int (nI j)), (0, .ref (G.1 0)), (1, .int ro), (2, .int i), (3, .int onto), (4, .int jj), (5, .int n)] → W p l e ({ frames := 2, cells := 0, slots := 0, locals := 45 } : Room) s m ([.ref (G.1 0), .int ro, .int i, .int onto, .int jj, .int n] : List Value).toArray below meth c H locs 0 0 (MQ below (va_Qi (fun (r : Int32) u => r = (n_copy σ ro i onto jj n).1 ∧ u = (n_copy σ ro i onto jj n).2) (xB G 24 (cM G)) (xA G 24 s.heap.size)) ([.ref (G.1 0), .int ro, .int i, .int onto, .int jj, .int n] : List Value).toArray s 0 0 (xA G 24 s.heap.size)) (F0 m 104 ls []) := by
                      intro d
                      induction d with
                      | zero => intro j τj H locs ls hj hd; exact absurd hd (Nat.not_lt_zero _)
                      | succ d ih_104 =>
                        intro j τj H locs ls hj_j hd_j e_τj hP hS hl
                        have h31_j : (nI j).toInt = (j : Int) := nI_toInt (by omega)
                        refine lv_iload hx hb dX8_copy_104 (lv_at hl 0 rfl) ?_
                        refine lv_iload hx hb dX8_copy_106 (lv_at hl 6 rfl) ?_
                        refine lv_icmp_ge (tgt := 166) hx hb dX8_copy_108 (by decide) (fun c_10 => ?_) (fun c_10 => ?_)
                        · have t_10 := i_le c_10
                          have u_10 := u_le c_10
                          obtain rfl : j = (ix n) := by omega
                          refine lv_iconst (v := 1) hx hb dX8_copy_166 (by decide) ?_
                          exact xiret ha hP hS dX8_copy_167 ⟨by simp [n_copy, t_1, t_2, u_3, c_4, u_5, c_6, c_7, c_8, c_9, u_10, i_leN, -Int32.not_lt], (by rw [e_τj]; simp [n_copy, t_1, t_2, u_3, c_4, u_5, c_6, c_7, c_8, c_9, u_10, i_leN, -Int32.not_lt])⟩ rfl
                        · have t_10 := i_nle c_10
                          have u_10 := u_nle c_10
                          have hlt_j : j < (ix n) := by omega
                          have hcp := cpP_lt i jj hlt_j
                          refine lv_iload hx hb dX8_copy_111 (lv_at hl 5 rfl) ?_
                          refine lv_iload_n hx hb dX8_copy_113 rfl (lv_at hl 3 rfl) ?_
                          have jn_11 : ∀ x_11 : Int32, x_11 = (if i < jj then ((n - 1) - nI j) else nI j) → W p l e ({ frames := 2, cells := 0, slots := 0, locals := 45 } : Room) s m ([.ref (G.1 0), .int ro, .int i, .int onto, .int jj, .int n] : List Value).toArray below meth c H locs 0 0 (MQ below (va_Qi (fun (r : Int32) u => r = (n_copy σ ro i onto jj n).1 ∧ u = (n_copy σ ro i onto jj n).2) (xB G 24 (cM G)) (xA G 24 s.heap.size)) ([.ref (G.1 0), .int ro, .int i, .int onto, .int jj, .int n] : List Value).toArray s 0 0 (xA G 24 s.heap.size)) (F0 m 129 ls [.int x_11]) := by
                            intro x_11 ex_11
                            have hx_11 : x_11 = (nI (cpP i jj n j)) := cp_x (by omega) (by omega) ex_11
                            clear ex_11
                            subst hx_11
                            refine lv_istore (lv' := [(7, .int (nI (cpP i jj n j))), (6, .int (nI j)), (0, .ref (G.1 0)), (1, .int ro), (2, .int i), (3, .int onto), (4, .int jj), (5, .int n)]) hx hb dX8_copy_129 hl (by decide) rfl (fun ls hl => ?_)
                            refine lv_aload_n hx hb dX8_copy_131 rfl (lv_at hl 2 rfl) ?_
                            refine g8_7 ha hP 0 (by decide) (cM_0 G _) (v := .ref (G.1 1)) rfl dX8_copy_132 ?_
                            refine lv_bipush (v := 40) hx hb dX8_copy_135 (by decide) ?_
                            refine lv_iload_n hx hb dX8_copy_137 rfl (lv_at hl 5 rfl) ?_
                            refine lv_imul hx hb dX8_copy_138 ?_
                            refine lv_iload hx hb dX8_copy_139 (lv_at hl 6 rfl) ?_
                            refine lv_iadd hx hb dX8_copy_141 ?_
                            refine lv_iload hx hb dX8_copy_142 (lv_at hl 0 rfl) ?_
                            refine lv_iadd hx hb dX8_copy_144 ?_
                            refine lv_aload_n hx hb dX8_copy_145 rfl (lv_at hl 2 rfl) ?_
                            refine g8_7 ha hP 0 (by decide) (cM_0 G _) (v := .ref (G.1 1)) rfl dX8_copy_146 ?_
                            refine lv_bipush (v := 40) hx hb dX8_copy_149 (by decide) ?_
                            refine lv_iload_n hx hb dX8_copy_151 rfl (lv_at hl 3 rfl) ?_
                            refine lv_imul hx hb dX8_copy_152 ?_
                            refine lv_iload_n hx hb dX8_copy_153 rfl (lv_at hl 4 rfl) ?_
                            refine lv_iadd hx hb dX8_copy_154 ?_
                            refine lv_iload hx hb dX8_copy_155 (lv_at hl 0 rfl) ?_
                            refine lv_iadd hx hb dX8_copy_157 ?_
                            refine xialdN ha hP 1 (by decide) (cM_1 G _) (((40 * (ix ro)) + (ix i)) + (cpP i jj n j)) (nadd (nadd (nmul (rfl : (40 : Int32) = nI 40) (ix_nI (by omega))) (ix_nI (by omega))) rfl) (by have q_0 := ix_toInt (show (0 : Int) ≤ (ro).toInt by omega); have q_1 := ix_toInt (show (0 : Int) ≤ (i).toInt by omega); omega) (by decide) dX8_copy_158 ?_
                            refine xiastN ha hP hS (cM_loc G) 1 (by decide) (fun τ => cM_1 G τ) (((40 * (ix onto)) + (ix jj)) + (cpP i jj n j)) (nadd (nadd (nmul (rfl : (40 : Int32) = nI 40) (ix_nI (by omega))) (ix_nI (by omega))) rfl) (by have q_0 := ix_toInt (show (0 : Int) ≤ (onto).toInt by omega); have q_1 := ix_toInt (show (0 : Int) ≤ (jj).toInt by omega); omega) (by decide) dX8_copy_159 (fun H locs hP hS => ?_)
                            refine lv_iinc (v := (nI (j + 1))) (lv' := [(6, .int (nI (j + 1))), (7, .int (nI (cpP i jj n j))), (0, .ref (G.1 0)), (1, .int ro), (2, .int i), (3, .int onto), (4, .int jj), (5, .int n)]) hx hb dX8_copy_160 hl (k := 1) rfl (nI_1 j) (by decide) rfl (fun ls hl => ?_)
                            refine lv_goto (tgt := 104) hx hb dX8_copy_163 (by decide) ?_
                            exact ih_104 (j + 1) (mU τj 1 (((40 * (ix onto)) + (ix jj)) + (cpP i jj n j)) (τj 1 (((40 * (ix ro)) + (ix i)) + (cpP i jj n j)))) _ _ _ (by omega) (by omega) (by rw [e_τj]; rfl) hP hS (lv_sub hl [0, 2, 3, 4, 5, 6, 7] rfl)
                          refine lv_icmp_le (tgt := 127) hx hb dX8_copy_114 (by decide) (fun c_11 => ?_) (fun c_11 => ?_)
                          · have t_11 := i_le c_11
                            refine lv_iload hx hb dX8_copy_127 (lv_at hl 0 rfl) ?_
                            exact jn_11 _ (if_neg (u_le c_11)).symm
                          · have t_11 := i_nle c_11
                            refine lv_iload hx hb dX8_copy_117 (lv_at hl 6 rfl) ?_
                            refine lv_iconst (v := 1) hx hb dX8_copy_119 (by decide) ?_
                            refine lv_isub hx hb dX8_copy_120 ?_
                            refine lv_iload hx hb dX8_copy_121 (lv_at hl 0 rfl) ?_
                            refine lv_isub hx hb dX8_copy_123 ?_
                            refine lv_goto (tgt := 129) hx hb dX8_copy_124 (by decide) ?_
                            exact jn_11 _ (if_pos (u_nle c_11)).symm
                    exact lp_104 ((ix n) - 0 + 1) 0 σ _ _ _ (by omega) (by omega) rfl hP hS (lv_sub hl [0, 1, 2, 3, 4, 5, 6] rfl)
                  · have w_9 := c_9
                    refine lv_aload_n hx hb dX8_copy_95 rfl (lv_at hl 0 rfl) ?_
                    refine lv_iconst (v := 2) hx hb dX8_copy_96 (by decide) ?_
                    refine xVi ha hP hS (y := yX8_found) (As := [.int 2]) (rest := []) 0 (by decide) (cM_0 G _) rfl rfl (c_X8_found G l σ 2 (by decide)) kw_X8_105 hd_X8_found rfl ⟨rfl, rfl⟩ ⟨Nat.le_of_ble_eq_true rfl, Nat.le_of_ble_eq_true rfl⟩ ⟨Nat.zero_le _, Nat.zero_le _⟩ hl.1 (Nat.le_of_ble_eq_true rfl) rfl dX8_copy_97 (fun r u H locs hpq hP hS => ?_)
                    obtain ⟨hr_, hu_⟩ := hpq
                    have hr_ := hr_.symm
                    have hu_ := hu_.symm
                    subst hr_
                    subst hu_
                    exact xiret ha hP hS dX8_copy_100 ⟨by simp [n_copy, t_1, t_2, u_3, c_4, u_5, c_6, c_7, c_8, c_9, i_leN, -Int32.not_lt], (by simp [n_copy, t_1, t_2, u_3, c_4, u_5, c_6, c_7, c_8, c_9, i_leN, -Int32.not_lt])⟩ rfl
          · have t_5 := i_nle c_5
            have u_5 := u_nle c_5
            refine lv_aload_n hx hb dX8_copy_45 rfl (lv_at hl 0 rfl) ?_
            refine lv_iconst (v := 1) hx hb dX8_copy_46 (by decide) ?_
            refine xVi ha hP hS (y := yX8_found) (As := [.int 1]) (rest := []) 0 (by decide) (cM_0 G _) rfl rfl (c_X8_found G l σ 1 (by decide)) kw_X8_105 hd_X8_found rfl ⟨rfl, rfl⟩ ⟨Nat.le_of_ble_eq_true rfl, Nat.le_of_ble_eq_true rfl⟩ ⟨Nat.zero_le _, Nat.zero_le _⟩ hl.1 (Nat.le_of_ble_eq_true rfl) rfl dX8_copy_47 (fun r u H locs hpq hP hS => ?_)
            obtain ⟨hr_, hu_⟩ := hpq
            have hr_ := hr_.symm
            have hu_ := hu_.symm
            subst hr_
            subst hu_
            exact xiret ha hP hS dX8_copy_50 ⟨by simp [n_copy, t_1, t_2, u_3, c_4, u_5, i_leN, -Int32.not_lt], (by simp [n_copy, t_1, t_2, u_3, c_4, u_5, i_leN, -Int32.not_lt])⟩ rfl
      · have t_3 := i_nle c_3
        have u_3 := u_nle c_3
        refine lv_aload_n hx hb dX8_copy_21 rfl (lv_at hl 0 rfl) ?_
        refine lv_iconst (v := 5) hx hb dX8_copy_22 (by decide) ?_
        refine xVi ha hP hS (y := yX8_found) (As := [.int 5]) (rest := []) 0 (by decide) (cM_0 G _) rfl rfl (c_X8_found G l σ 5 (by decide)) kw_X8_105 hd_X8_found rfl ⟨rfl, rfl⟩ ⟨Nat.le_of_ble_eq_true rfl, Nat.le_of_ble_eq_true rfl⟩ ⟨Nat.zero_le _, Nat.zero_le _⟩ hl.1 (Nat.le_of_ble_eq_true rfl) rfl dX8_copy_23 (fun r u H locs hpq hP hS => ?_)
        obtain ⟨hr_, hu_⟩ := hpq
        have hr_ := hr_.symm
        have hu_ := hu_.symm
        subst hr_
        subst hu_
        exact xiret ha hP hS dX8_copy_26 ⟨by simp [n_copy, t_1, t_2, u_3, i_leN, -Int32.not_lt], (by simp [n_copy, t_1, t_2, u_3, i_leN, -Int32.not_lt])⟩ rfl
    · have t_2 := b2i_f c_2
      refine lv_iconst (v := (-1)) hx hb dX8_copy_14 (by decide) ?_
      exact xiret ha hP hS dX8_copy_15 ⟨by simp [n_copy, t_1, t_2, i_leN, -Int32.not_lt], (by simp [n_copy, t_1, t_2, i_leN, -Int32.not_lt])⟩ rfl
set_option maxHeartbeats 4000000 in
set_option maxRecDepth 100000 in
theorem c_X8_begins (G : GT) (l : Launch) (σ : Mem)   : CV G 24 (cM G) l yX8_begins ({ frames := 1, cells := 0, slots := 0, locals := 25 } : Room) cX8_begins 2 none [.ref (G.1 0)] σ (fun u => u = w_begins σ) := by
  intro sz
  refine xbegin (by decide) (Nat.le_of_ble_eq_true rfl) ?_
  intro p e s m below meth c ls hsz ha hP hl
  subst hsz
  have hx := ha.1
  have hb := ha.2.1
  have hS : va_S (xA G 24 s.heap.size) s.heap s.heap [] := va_S.rf
  have hl : lv_has ls 2 [(0, .ref (G.1 0))] := hl
  have k_m9 : (-9 : Int32).toInt = -9 := by decide
  have k_m1 : (-1 : Int32).toInt = -1 := by decide
  have k_0 : (0 : Int32).toInt = 0 := by decide
  have k_3 : (3 : Int32).toInt = 3 := by decide
  have k_4 : (4 : Int32).toInt = 4 := by decide
  have k_5 : (5 : Int32).toInt = 5 := by decide
  have k_6 : (6 : Int32).toInt = 6 := by decide
  have k_12 : (12 : Int32).toInt = 12 := by decide
  have k_493 : (493 : Int32).toInt = 493 := by decide
  refine lv_iconst (v := 0) hx hb dX8_begins_0 (by decide) ?_
  refine lv_istore_n (lv' := [(1, .int 0), (0, .ref (G.1 0))]) hx hb dX8_begins_1 rfl hl (by decide) rfl (fun ls hl => ?_)
  have lp_2 : ∀ (d j : Nat) (σj : Mem) (H : Heap) (locs : List Loc) (ls : Array Slot), j ≤ 12 → 12 - j < d → σj = mF σ 11 j bg_f → va_P G.2.1 vwCl (wl G 24 (cM G σj)) H → va_S (xA G 24 s.heap.size) s.heap H locs → lv_has ls 2 [(1, .int (nI j)), (0, .ref (G.1 0))] → W p l e ({ frames := 1, cells := 0, slots := 0, locals := 25 } : Room) s m ([.ref (G.1 0)] : List Value).toArray below meth c H locs 0 0 (MQ below (va_Qv (fun u => u = w_begins σ) (xB G 24 (cM G)) (xA G 24 s.heap.size)) ([.ref (G.1 0)] : List Value).toArray s 0 0 (xA G 24 s.heap.size)) (F0 m 2 ls []) := by
    intro d
    induction d with
    | zero => intro j σj H locs ls hj hd; exact absurd hd (Nat.not_lt_zero _)
    | succ d ih_2 =>
      intro j σj H locs ls hj_j hd_j e_σj hP hS hl
      have h31_j : (nI j).toInt = (j : Int) := nI_toInt (by omega)
      refine lv_iload_n hx hb dX8_begins_2 rfl (lv_at hl 0 rfl) ?_
      refine lv_bipush (v := 12) hx hb dX8_begins_3 (by decide) ?_
      refine lv_icmp_ge (tgt := 40) hx hb dX8_begins_5 (by decide) (fun c_1 => ?_) (fun c_1 => ?_)
      · have t_1 := i_le c_1
        have u_1 := u_le c_1
        obtain rfl : j = 12 := by omega
        refine lv_aload_n hx hb dX8_begins_40 rfl (lv_at hl 1 rfl) ?_
        refine lv_iconst (v := 0) hx hb dX8_begins_41 (by decide) ?_
        refine p8_117 ha hP hS (cM_loc G) 0 (by decide) (cM_0 G _) (x := 0) (Nat.le_of_ble_eq_true rfl) (mU σj 0 6 0) (fun q hq => mU_n _ _ _ hq) (cM_p0_6 G _ _) dX8_begins_42 (fun H locs hP hS => ?_)
        refine lv_iconst (v := 0) hx hb dX8_begins_45 (by decide) ?_
        refine lv_istore_n (lv' := [(1, .int 0), (0, .ref (G.1 0))]) hx hb dX8_begins_46 rfl hl (by decide) rfl (fun ls hl => ?_)
        have lp_47 : ∀ (d j1 : Nat) (τj : Mem) (H : Heap) (locs : List Loc) (ls : Array Slot), j1 ≤ 3 → 3 - j1 < d → τj = w_kept (mU (mF σ 11 12 bg_f) 0 6 0) j1 → va_P G.2.1 vwCl (wl G 24 (cM G τj)) H → va_S (xA G 24 s.heap.size) s.heap H locs → lv_has ls 2 [(1, .int (nI j1)), (0, .ref (G.1 0))] → W p l e ({ frames := 1, cells := 0, slots := 0, locals := 25 } : Room) s m ([.ref (G.1 0)] : List Value).toArray below meth c H locs 0 0 (MQ below (va_Qv (fun u => u = w_begins σ) (xB G 24 (cM G)) (xA G 24 s.heap.size)) ([.ref (G.1 0)] : List Value).toArray s 0 0 (xA G 24 s.heap.size)) (F0 m 47 ls []) := by
          intro d
          induction d with
          | zero => intro j1 τj H locs ls hj hd; exact absurd hd (Nat.not_lt_zero _)
          | succ d ih_47 =>
            intro j1 τj H locs ls hj_j1 hd_j1 e_τj hP hS hl
            have h31_j1 : (nI j1).toInt = (j1 : Int) := nI_toInt (by omega)
            refine lv_iload_n hx hb dX8_begins_47 rfl (lv_at hl 0 rfl) ?_
            refine lv_iconst (v := 3) hx hb dX8_begins_48 (by decide) ?_
            refine lv_icmp_ge (tgt := 69) hx hb dX8_begins_49 (by decide) (fun c_2 => ?_) (fun c_2 => ?_)
            · have t_2 := i_le c_2
              have u_2 := u_le c_2
              obtain rfl : j1 = 3 := by omega
              exact xvret ha hP hS dX8_begins_69 (by rw [e_τj]; rfl)
            · have t_2 := i_nle c_2
              have u_2 := u_nle c_2
              have hlt_j1 : j1 < 3 := by omega
              refine lv_aload_n hx hb dX8_begins_52 rfl (lv_at hl 1 rfl) ?_
              refine g8_53 ha hP 0 (by decide) (cM_0 G _) (v := .ref (G.1 14)) rfl dX8_begins_53 ?_
              refine lv_sipush (v := 493) hx hb dX8_begins_56 (by decide) ?_
              refine lv_iload_n hx hb dX8_begins_59 rfl (lv_at hl 0 rfl) ?_
              refine lv_imul hx hb dX8_begins_60 ?_
              refine lv_iconst (v := (-1)) hx hb dX8_begins_61 (by decide) ?_
              refine xiastN ha hP hS (cM_loc G) 14 (by decide) (fun τ => cM_14 G τ) (493 * j1) (nmul (rfl : (493 : Int32) = nI 493) rfl) (by omega) (by decide) dX8_begins_62 (fun H locs hP hS => ?_)
              refine lv_iinc (v := (nI (j1 + 1))) (lv' := [(1, .int (nI (j1 + 1))), (0, .ref (G.1 0))]) hx hb dX8_begins_63 hl (k := 0) rfl (nI_1 j1) (by decide) rfl (fun ls hl => ?_)
              refine lv_goto (tgt := 47) hx hb dX8_begins_66 (by decide) ?_
              exact ih_47 (j1 + 1) (mU τj 14 (493 * j1) (-1)) _ _ _ (by omega) (by omega) (by rw [e_τj]; rfl) hP hS (lv_sub hl [0, 1] rfl)
        exact lp_47 (3 - 0 + 1) 0 (mU σj 0 6 0) _ _ _ (by omega) (by omega) (by rw [e_σj]; rfl) hP hS (lv_sub hl [0, 1] rfl)
      · have t_1 := i_nle c_1
        have u_1 := u_nle c_1
        have hlt_j : j < 12 := by omega
        refine lv_aload_n hx hb dX8_begins_8 rfl (lv_at hl 1 rfl) ?_
        refine g8_44 ha hP 0 (by decide) (cM_0 G _) (v := .ref (G.1 11)) rfl dX8_begins_9 ?_
        refine lv_iload_n hx hb dX8_begins_12 rfl (lv_at hl 0 rfl) ?_
        refine lv_iload_n hx hb dX8_begins_13 rfl (lv_at hl 0 rfl) ?_
        refine lv_i2l (v := (nI j).toInt64) hx hb dX8_begins_14 rfl ?_
        refine lv_ldc2 (v := 5) hx hb ha.2.2.2.1 (ha.2.2.2.2.1 _ (tb_in (w := .constantLong RX8 93 5) (by decide +kernel))) dX8_begins_15 ?_
        refine lv_ldc2 (v := 9) hx hb ha.2.2.2.1 (ha.2.2.2.2.1 _ (tb_in (w := .constantLong RX8 115 9) (by decide +kernel))) dX8_begins_18 ?_
        refine xSi ha hP hS (y := yX8_in) (As := [.long ((nI j).toInt64), .long 5, .long 9]) (rest := [.int (nI j), .ref (G.1 11)]) rfl (c_X8_in G l σj ((nI j).toInt64) 5 9 ) kw_X8_95 hd_X8_in rfl ⟨rfl, rfl⟩ ⟨Nat.le_of_ble_eq_true rfl, Nat.le_of_ble_eq_true rfl⟩ ⟨Nat.zero_le _, Nat.zero_le _⟩ hl.1 (Nat.le_of_ble_eq_true rfl) rfl dX8_begins_21 (fun r u H locs hpq hP hS => ?_)
        obtain ⟨hr_, hu_⟩ := hpq
        have hr_ := hr_.symm
        have hu_ := hu_.symm
        subst hr_
        subst hu_
        have jn_3 : ∀ x_3 : Int32, x_3 = (if (b_in ((nI j).toInt64) 5 9) = true then (-9) else 0) → W p l e ({ frames := 1, cells := 0, slots := 0, locals := 25 } : Room) s m ([.ref (G.1 0)] : List Value).toArray below meth c H locs 0 0 (MQ below (va_Qv (fun u => u = w_begins σ) (xB G 24 (cM G)) (xA G 24 s.heap.size)) ([.ref (G.1 0)] : List Value).toArray s 0 0 (xA G 24 s.heap.size)) (F0 m 33 ls [.int x_3, .int (nI j), .ref (G.1 11)]) := by
          intro x_3 ex_3
          refine xiastN ha hP hS (cM_loc G) 11 (by decide) (fun τ => cM_11 G τ) j rfl (by omega) (by decide) dX8_begins_33 (fun H locs hP hS => ?_)
          refine lv_iinc (v := (nI (j + 1))) (lv' := [(1, .int (nI (j + 1))), (0, .ref (G.1 0))]) hx hb dX8_begins_34 hl (k := 0) rfl (nI_1 j) (by decide) rfl (fun ls hl => ?_)
          refine lv_goto (tgt := 2) hx hb dX8_begins_37 (by decide) ?_
          exact ih_2 (j + 1) (mU σj 11 j x_3) _ _ _ (by omega) (by omega) (by rw [e_σj]; exact mF_s _ _ _ _ (by simp [bg_f, u_1, ex_3])) hP hS (lv_sub hl [0, 1] rfl)
        refine lv_if_eq (tgt := 32) hx hb dX8_begins_24 (by decide) (fun c_3 => ?_) (fun c_3 => ?_)
        · have t_3 := b2i_f c_3
          have f_3 := bin_f t_3
          try simp only [Int32.toInt_toInt64, ll_0, ll_1, ll_2, ll_3, ll_4, ll_5, ll_9, ll_12, ll_20, ll_40, ll_57, ll_99, ll_2147483646] at f_3
          refine lv_iconst (v := 0) hx hb dX8_begins_32 (by decide) ?_
          exact jn_3 _ (if_neg (Bool.eq_false_iff.mp t_3)).symm
        · have t_3 := b2i_t c_3
          have f_3 := bin_t t_3
          try simp only [Int32.toInt_toInt64, ll_0, ll_1, ll_2, ll_3, ll_4, ll_5, ll_9, ll_12, ll_20, ll_40, ll_57, ll_99, ll_2147483646] at f_3
          refine lv_bipush (v := (-9)) hx hb dX8_begins_27 (by decide) ?_
          refine lv_goto (tgt := 33) hx hb dX8_begins_29 (by decide) ?_
          exact jn_3 _ (if_pos t_3).symm
  exact lp_2 (12 - 0 + 1) 0 σ _ _ _ (by omega) (by omega) (mF_0 _ _ _) hP hS (lv_sub hl [0, 1] rfl)
