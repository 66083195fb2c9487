/-! the law's own small methods -/
def a_part (v n : Int32) : Int32 := (v &&& 2147483647) - (v &&& 2147483647) / n * n
def a_cell (L : Nat) (xs : Nat → Int32) (k : Nat) : Int32 := if L = 0 then 7919 * nI k + 3 else ((xs (k % L) >>> ((nI k - nI k / 7 * 7) &&& 31)) ^^^ (nI k / nI L * 31)) ^^^ (nI k * 2654435)
def a_letter (k : Int32) : Int32 := if k = 0 then 112 else if k = 1 then 114 else if k = 2 then 108 else if k = 3 then 115 else if k = 4 then 100 else 107
section XS
variable {p : Program} {l : Launch} {e : Env} {R : Room} {s : State} {m : MethodId} {args : Array Value} {below : List Frame} {meth : Method} {c : Code} {H : Heap} {locs : List Loc} {cells slots : Nat} {Q : State → Prop}
variable {cc : ByteArray} {pc nL : Nat} {ls : Array Slot} {rest : List Value} {G : GT} {N : Nat} {own : String} {ret : Option FieldType}
theorem xsc_lt (h : xSC G (xA G N s.heap.size) s s.heap) : sB G < s.heap.size := by
  obtain ⟨⟨scr, q1, -⟩, -⟩ := h
  exact (Array.getElem?_eq_some_iff.mp q1).1
theorem xsclen (ha : Amb p c cc nL s args own m meth ret G N) (hS : va_S (xA G N s.heap.size) s.heap H locs) (hdg : decode cc pc = .ok (.arraylength, 1))
    (kk : W p l e R s m args below meth c H locs cells slots Q (F0 m (pc + 1) ls (.int (nI (sL G)) :: rest))) : W p l e R s m args below meth c H locs cells slots Q (F0 m pc ls (.ref (G.1 1000) :: rest)) := by
  obtain ⟨hx, hb, hml, hown, hts, -, -, hK, -, -, -, hsc⟩ := ha
  exact va_slen hx hb hsc.1 (xsc_lt hsc) hsc.2.1 hS hdg kk
theorem xscald (ha : Amb p c cc nL s args own m meth ret G N) (hS : va_S (xA G N s.heap.size) s.heap H locs) {i : Int32} (j : Nat) (hj : i = nI j) (hjn : j < sL G) (hdg : decode cc pc = .ok (.iaload, 1))
    (kk : W p l e R s m args below meth c H locs cells slots Q (F0 m (pc + 1) ls (.int (sF G j) :: rest))) : W p l e R s m args below meth c H locs cells slots Q (F0 m pc ls (.int i :: .ref (G.1 1000) :: rest)) := by
  obtain ⟨hx, hb, hml, hown, hts, -, -, hK, -, -, -, hsc⟩ := ha
  subst hj
  have h260 := hsc.2.2
  refine va_sld hx hb hsc.1 (xsc_lt hsc) hsc.2.1 hS (vp_in_nI hjn (by omega)) hdg ?_
  rw [nI_clamp (by omega)]
  exact kk
end XS
theorem pos_and (v : Int32) : 0 ≤ (v &&& 2147483647).toInt := by
  have h : (v &&& 2147483647).toBitVec.msb = false := by
    rw [Int32.toBitVec_and, BitVec.msb_and]
    have : (2147483647 : Int32).toBitVec.msb = false := by decide
    rw [this, Bool.and_false]
  have e : (v &&& 2147483647).toInt = (v &&& 2147483647).toBitVec.toInt := rfl
  rw [e, BitVec.toInt_eq_toNat_of_msb h]
  exact Int.natCast_nonneg _
theorem part_N (v : Int32) {n : Nat} (h0 : 0 < n) (hn : n < 2 ^ 31) : ∃ j, j < n ∧ a_part v (nI n) = nI j := by
  have ti : (nI n).toInt = (n : Int) := nI_toInt hn
  have q := (rem_i (a := v &&& 2147483647) (b := nI n) (pos_and v) (by omega)).2
  rw [ti] at q
  have l := Int.emod_lt_of_pos (v &&& 2147483647).toInt (show (0 : Int) < (n : Int) by omega)
  have g := Int.emod_nonneg (v &&& 2147483647).toInt (show (n : Int) ≠ 0 by omega)
  have hx : 0 ≤ (a_part v (nI n)).toInt := by unfold a_part; omega
  have e := ix_toInt hx
  refine ⟨ix (a_part v (nI n)), ?_, ix_nI hx⟩
  have : (a_part v (nI n)).toInt = (v &&& 2147483647).toInt % (n : Int) := q
  omega
theorem hd_X7_asked : kHd yX7_asked 0 := by decide +kernel
theorem hd_X7_put : kHd yX7_put 3 := by decide +kernel
theorem kw_L_9 : ∀ w ∈ k5V RL 9 yX7_put cX7_put 7 (some .int), w ∈ TB := tb_ins (by decide +kernel)
theorem kw_L_119 : ∀ w ∈ k5V RL 119 yX7_asked cX7_asked 1 (some .int), w ∈ TB := tb_ins (by decide +kernel)
set_option maxHeartbeats 4000000 in
set_option maxRecDepth 100000 in
theorem c_L_part (G : GT) (l : Launch) (σ : Mem) (v : Int32) (n : Int32) (hne : ¬ n = 0) : CI G 74 (cX G) l yL_part ({ frames := 0, cells := 0, slots := 0, locals := 0 } : Room) cL_part 2 (some .int) [.int v, .int n] σ (fun (r : Int32) u => r = a_part v n ∧ u = σ) := by
  intro sz
  refine xbegin (by decide) (Nat.le_of_ble_eq_true rfl) ?_
  intro p e s m below meth c ls hsz ha hP hl
  subst hsz
  have hx := ha.1
  have hb := ha.2.1
  have hS : va_S (xA G 74 s.heap.size) s.heap s.heap [] := va_S.rf
  have hl : lv_has ls 2 [(0, .int v), (1, .int n)] := hl
  have k_0 : (0 : Int32).toInt = 0 := by decide
  have k_2147483647 : (2147483647 : Int32).toInt = 2147483647 := by decide
  refine lv_iload_n hx hb dL_part_0 rfl (lv_at hl 0 rfl) ?_
  refine lv_ldc (v := 2147483647) hx hb ha.2.2.2.1 (ha.2.2.2.2.1 _ (tb_in (w := .constant RL 7 2147483647) (by decide +kernel))) dL_part_1 ?_
  refine lv_iand hx hb dL_part_3 ?_
  refine lv_iload_n hx hb dL_part_4 rfl (lv_at hl 1 rfl) ?_
  refine lv_irem hx hb dL_part_5 hne ?_
  exact xiret ha hP hS dL_part_6 ⟨by rfl, rfl⟩ rfl
set_option maxHeartbeats 4000000 in
set_option maxRecDepth 100000 in
theorem c_L_cell (G : GT) (l : Launch) (σ : Mem) (k : Nat) (hk : k < 1000) : CI G 74 (cX G) l yL_cell ({ frames := 0, cells := 0, slots := 0, locals := 0 } : Room) cL_cell 2 (some .int) [.ref (G.1 1000), .int (nI k)] σ (fun (r : Int32) u => r = a_cell (sL G) (sF G) k ∧ u = σ) := by
  intro sz
  refine xbegin (by decide) (Nat.le_of_ble_eq_true rfl) ?_
  intro p e s m below meth c ls hsz ha hP hl
  subst hsz
  have hx := ha.1
  have hb := ha.2.1
  have hS : va_S (xA G 74 s.heap.size) s.heap s.heap [] := va_S.rf
  have hl : lv_has ls 2 [(0, .ref (G.1 1000)), (1, .int (nI k))] := hl
  have k_0 : (0 : Int32).toInt = 0 := by decide
  have k_3 : (3 : Int32).toInt = 3 := by decide
  have k_4 : (4 : Int32).toInt = 4 := by decide
  have k_5 : (5 : Int32).toInt = 5 := by decide
  have k_6 : (6 : Int32).toInt = 6 := by decide
  have k_7 : (7 : Int32).toInt = 7 := by decide
  have k_31 : (31 : Int32).toInt = 31 := by decide
  have k_40 : (40 : Int32).toInt = 40 := by decide
  have k_60 : (60 : Int32).toInt = 60 := by decide
  have k_7919 : (7919 : Int32).toInt = 7919 := by decide
  have k_2654435 : (2654435 : Int32).toInt = 2654435 := by decide
  have hsl : sL G ≤ 260 := ha.2.2.2.2.2.2.2.2.2.2.2.2.2
  have hst : (nI (sL G)).toInt = (sL G : Int) := nI_toInt (by omega)
  refine lv_aload_n hx hb dL_cell_0 rfl (lv_at hl 0 rfl) ?_
  refine xsclen ha hS dL_cell_1 ?_
  refine lv_if_ne (tgt := 15) hx hb dL_cell_2 (by decide) (fun c_1 => ?_) (fun c_1 => ?_)
  · have t_1 := i_ne c_1
    have hsp : 0 < sL G := by omega
    refine lv_aload_n hx hb dL_cell_15 rfl (lv_at hl 0 rfl) ?_
    refine lv_iload_n hx hb dL_cell_16 rfl (lv_at hl 1 rfl) ?_
    refine lv_aload_n hx hb dL_cell_17 rfl (lv_at hl 0 rfl) ?_
    refine xsclen ha hS dL_cell_18 ?_
    refine lv_irem hx hb dL_cell_19 c_1 ?_
    refine xscald ha hS (k % sL G) (remn (by omega) (by omega) (by omega)) (Nat.mod_lt _ (by omega)) dL_cell_20 ?_
    refine lv_iload_n hx hb dL_cell_21 rfl (lv_at hl 1 rfl) ?_
    refine lv_bipush (v := 7) hx hb dL_cell_22 (by decide) ?_
    refine lv_irem hx hb dL_cell_24 (by decide) ?_
    refine lv_ishr hx hb dL_cell_25 ?_
    refine lv_iload_n hx hb dL_cell_26 rfl (lv_at hl 1 rfl) ?_
    refine lv_aload_n hx hb dL_cell_27 rfl (lv_at hl 0 rfl) ?_
    refine xsclen ha hS dL_cell_28 ?_
    refine lv_idiv hx hb dL_cell_29 c_1 ?_
    refine lv_bipush (v := 31) hx hb dL_cell_30 (by decide) ?_
    refine lv_imul hx hb dL_cell_32 ?_
    refine lv_ixor hx hb dL_cell_33 ?_
    refine lv_iload_n hx hb dL_cell_34 rfl (lv_at hl 1 rfl) ?_
    refine lv_ldc (v := 2654435) hx hb ha.2.2.2.1 (ha.2.2.2.2.1 _ (tb_in (w := .constant RL 8 2654435) (by decide +kernel))) dL_cell_35 ?_
    refine lv_imul hx hb dL_cell_37 ?_
    refine lv_ixor hx hb dL_cell_38 ?_
    exact xiret ha hP hS dL_cell_39 ⟨by unfold a_cell; first | (rw [if_neg (show ¬ sL G = 0 by omega)]; done) | rw [if_pos hsp], rfl⟩ rfl
  · have t_1 := i_eq c_1
    have hsp : sL G = 0 := by omega
    refine lv_sipush (v := 7919) hx hb dL_cell_5 (by decide) ?_
    refine lv_iload_n hx hb dL_cell_8 rfl (lv_at hl 1 rfl) ?_
    refine lv_imul hx hb dL_cell_9 ?_
    refine lv_iconst (v := 3) hx hb dL_cell_10 (by decide) ?_
    refine lv_iadd hx hb dL_cell_11 ?_
    refine lv_goto (tgt := 39) hx hb dL_cell_12 (by decide) ?_
    exact xiret ha hP hS dL_cell_39 ⟨by unfold a_cell; first | (rw [if_neg (show ¬ sL G = 0 by omega)]; done) | rw [if_pos hsp], rfl⟩ rfl
set_option maxHeartbeats 4000000 in
set_option maxRecDepth 100000 in
theorem c_L_letter (G : GT) (l : Launch) (σ : Mem) (k : Int32)  : CI G 74 (cX G) l yL_letter ({ frames := 0, cells := 0, slots := 0, locals := 0 } : Room) cL_letter 1 (some .int) [.int k] σ (fun (r : Int32) u => r = a_letter k ∧ u = σ) := by
  intro sz
  refine xbegin (by decide) (Nat.le_of_ble_eq_true rfl) ?_
  intro p e s m below meth c ls hsz ha hP hl
  subst hsz
  have hx := ha.1
  have hb := ha.2.1
  have hS : va_S (xA G 74 s.heap.size) s.heap s.heap [] := va_S.rf
  have hl : lv_has ls 1 [(0, .int k)] := hl
  have k_0 : (0 : Int32).toInt = 0 := by decide
  have k_1 : (1 : Int32).toInt = 1 := by decide
  have k_2 : (2 : Int32).toInt = 2 := by decide
  have k_3 : (3 : Int32).toInt = 3 := by decide
  have k_4 : (4 : Int32).toInt = 4 := by decide
  have k_100 : (100 : Int32).toInt = 100 := by decide
  have k_107 : (107 : Int32).toInt = 107 := by decide
  have k_108 : (108 : Int32).toInt = 108 := by decide
  have k_112 : (112 : Int32).toInt = 112 := by decide
  have k_114 : (114 : Int32).toInt = 114 := by decide
  have k_115 : (115 : Int32).toInt = 115 := by decide
  refine lv_iload_n hx hb dL_letter_0 rfl (lv_at hl 0 rfl) ?_
  refine lv_if_ne (tgt := 9) hx hb dL_letter_1 (by decide) (fun c_1 => ?_) (fun c_1 => ?_)
  · have t_1 := i_ne c_1
    refine lv_iload_n hx hb dL_letter_9 rfl (lv_at hl 0 rfl) ?_
    refine lv_iconst (v := 1) hx hb dL_letter_10 (by decide) ?_
    refine lv_icmp_ne (tgt := 19) hx hb dL_letter_11 (by decide) (fun c_2 => ?_) (fun c_2 => ?_)
    · have t_2 := i_ne c_2
      refine lv_iload_n hx hb dL_letter_19 rfl (lv_at hl 0 rfl) ?_
      refine lv_iconst (v := 2) hx hb dL_letter_20 (by decide) ?_
      refine lv_icmp_ne (tgt := 29) hx hb dL_letter_21 (by decide) (fun c_3 => ?_) (fun c_3 => ?_)
      · have t_3 := i_ne c_3
        refine lv_iload_n hx hb dL_letter_29 rfl (lv_at hl 0 rfl) ?_
        refine lv_iconst (v := 3) hx hb dL_letter_30 (by decide) ?_
        refine lv_icmp_ne (tgt := 39) hx hb dL_letter_31 (by decide) (fun c_4 => ?_) (fun c_4 => ?_)
        · have t_4 := i_ne c_4
          refine lv_iload_n hx hb dL_letter_39 rfl (lv_at hl 0 rfl) ?_
          refine lv_iconst (v := 4) hx hb dL_letter_40 (by decide) ?_
          have jn_5 : ∀ x_5 : Int32, x_5 = (if k = 4 then 100 else 107) → W p l e ({ frames := 0, cells := 0, slots := 0, locals := 0 } : Room) s m ([.int k] : List Value).toArray below meth c s.heap [] 0 0 (MQ below (va_Qi (fun (r : Int32) u => r = a_letter k ∧ u = σ) (xB G 74 (cX G)) (xA G 74 s.heap.size)) ([.int k] : List Value).toArray s 0 0 (xA G 74 s.heap.size)) (F0 m 51 ls [.int x_5]) := by
            intro x_5 ex_5
            exact xiret ha hP hS dL_letter_51 ⟨by simp [a_letter, i_leN, c_1, c_2, c_3, c_4, ex_5, -Int32.not_lt] <;> first | rfl | simp_all, rfl⟩ rfl
          refine lv_icmp_ne (tgt := 49) hx hb dL_letter_41 (by decide) (fun c_5 => ?_) (fun c_5 => ?_)
          · have t_5 := i_ne c_5
            refine lv_bipush (v := 107) hx hb dL_letter_49 (by decide) ?_
            exact jn_5 _ (if_neg c_5).symm
          · have t_5 := i_eq c_5
            refine lv_bipush (v := 100) hx hb dL_letter_44 (by decide) ?_
            refine lv_goto (tgt := 51) hx hb dL_letter_46 (by decide) ?_
            exact jn_5 _ (if_pos c_5).symm
        · have t_4 := i_eq c_4
          refine lv_bipush (v := 115) hx hb dL_letter_34 (by decide) ?_
          refine lv_goto (tgt := 51) hx hb dL_letter_36 (by decide) ?_
          exact xiret ha hP hS dL_letter_51 ⟨by simp [a_letter, i_leN, c_1, c_2, c_3, c_4, -Int32.not_lt] <;> first | rfl | simp_all, rfl⟩ rfl
      · have t_3 := i_eq c_3
        refine lv_bipush (v := 108) hx hb dL_letter_24 (by decide) ?_
        refine lv_goto (tgt := 51) hx hb dL_letter_26 (by decide) ?_
        exact xiret ha hP hS dL_letter_51 ⟨by simp [a_letter, i_leN, c_1, c_2, c_3, -Int32.not_lt] <;> first | rfl | simp_all, rfl⟩ rfl
    · have t_2 := i_eq c_2
      refine lv_bipush (v := 114) hx hb dL_letter_14 (by decide) ?_
      refine lv_goto (tgt := 51) hx hb dL_letter_16 (by decide) ?_
      exact xiret ha hP hS dL_letter_51 ⟨by simp [a_letter, i_leN, c_1, c_2, -Int32.not_lt] <;> first | rfl | simp_all, rfl⟩ rfl
  · have t_1 := i_eq c_1
    refine lv_bipush (v := 112) hx hb dL_letter_4 (by decide) ?_
    refine lv_goto (tgt := 51) hx hb dL_letter_6 (by decide) ?_
    exact xiret ha hP hS dL_letter_51 ⟨by simp [a_letter, i_leN, c_1, -Int32.not_lt] <;> first | rfl | simp_all, rfl⟩ rfl
set_option maxHeartbeats 4000000 in
set_option maxRecDepth 100000 in
theorem c_L_byte0 (G : GT) (l : Launch) (σ : Mem) (q : Int32) (b : Int32)  : CI G 74 (cX G) l yL_byte0 ({ frames := 3, cells := 0, slots := 0, locals := 69 } : Room) cL_byte0 3 (some .int) [.ref (G.1 0), .int q, .int b] σ (fun (r : Int32) u => r = (if (k_put σ 3 q b).1 = 1032 then q + 1 else -1000) ∧ u = (k_put σ 3 q b).2) := by
  intro sz
  refine xbegin (by decide) (Nat.le_of_ble_eq_true rfl) ?_
  intro p e s m below meth c ls hsz ha hP hl
  subst hsz
  have hx := ha.1
  have hb := ha.2.1
  have hS : va_S (xA G 74 s.heap.size) s.heap s.heap [] := va_S.rf
  have hl : lv_has ls 3 [(0, .ref (G.1 0)), (1, .int q), (2, .int b)] := hl
  have k_m1000 : (-1000 : Int32).toInt = -1000 := by decide
  have k_0 : (0 : Int32).toInt = 0 := by decide
  have k_1 : (1 : Int32).toInt = 1 := by decide
  have k_3 : (3 : Int32).toInt = 3 := by decide
  have k_1032 : (1032 : Int32).toInt = 1032 := by decide
  refine lv_aload_n hx hb dL_byte0_0 rfl (lv_at hl 0 rfl) ?_
  refine lv_iconst (v := 3) hx hb dL_byte0_1 (by decide) ?_
  refine lv_iload_n hx hb dL_byte0_2 rfl (lv_at hl 1 rfl) ?_
  refine lv_iload_n hx hb dL_byte0_3 rfl (lv_at hl 2 rfl) ?_
  refine xVi ha hP hS (y := yX7_put) (As := [.int 3, .int q, .int b]) (rest := []) 0 (by decide) (cX_0 G _) rfl rfl (c_X7_put G l σ 3 q b ) kw_L_9 hd_X7_put rfl ⟨rfl, rfl⟩ ⟨Nat.le_of_ble_eq_true rfl, Nat.le_of_ble_eq_true rfl⟩ ⟨Nat.zero_le _, Nat.zero_le _⟩ hl.1 (Nat.le_of_ble_eq_true rfl) rfl dL_byte0_4 (fun r u H locs hpq hP hS => ?_)
  obtain ⟨hr_, hu_⟩ := hpq
  have hr_ := hr_.symm
  have hu_ := hu_.symm
  subst hr_
  subst hu_
  refine lv_sipush (v := 1032) hx hb dL_byte0_7 (by decide) ?_
  have jn_1 : ∀ x_1 : Int32, x_1 = (if ((k_put σ 3 q b).1) = 1032 then (q + 1) else (-1000)) → W p l e ({ frames := 3, cells := 0, slots := 0, locals := 69 } : Room) s m ([.ref (G.1 0), .int q, .int b] : List Value).toArray below meth c H locs 0 0 (MQ below (va_Qi (fun (r : Int32) u => r = (if (k_put σ 3 q b).1 = 1032 then q + 1 else -1000) ∧ u = (k_put σ 3 q b).2) (xB G 74 (cX G)) (xA G 74 s.heap.size)) ([.ref (G.1 0), .int q, .int b] : List Value).toArray s 0 0 (xA G 74 s.heap.size)) (F0 m 22 ls [.int x_1]) := by
    intro x_1 ex_1
    exact xiret ha hP hS dL_byte0_22 ⟨by simp [i_leN, ex_1, -Int32.not_lt] <;> first | rfl | simp_all, (by simp [i_leN, ex_1, -Int32.not_lt] <;> first | rfl | simp_all)⟩ rfl
  refine lv_icmp_ne (tgt := 19) hx hb dL_byte0_10 (by decide) (fun c_1 => ?_) (fun c_1 => ?_)
  · have t_1 := i_ne c_1
    refine lv_sipush (v := (-1000)) hx hb dL_byte0_19 (by decide) ?_
    exact jn_1 _ (if_neg c_1).symm
  · have t_1 := i_eq c_1
    refine lv_iload_n hx hb dL_byte0_13 rfl (lv_at hl 1 rfl) ?_
    refine lv_iconst (v := 1) hx hb dL_byte0_14 (by decide) ?_
    refine lv_iadd hx hb dL_byte0_15 ?_
    refine lv_goto (tgt := 22) hx hb dL_byte0_16 (by decide) ?_
    exact jn_1 _ (if_pos c_1).symm
set_option maxHeartbeats 4000000 in
set_option maxRecDepth 100000 in
theorem c_L_many (G : GT) (l : Launch) (σ : Mem) (x : Int32)  : CI G 74 (cX G) l yL_many ({ frames := 0, cells := 0, slots := 0, locals := 0 } : Room) cL_many 3 (some .int) [.int x] σ (fun (r : Int32) u => r = a_many x ∧ u = σ) := by
  intro sz
  refine xbegin (by decide) (Nat.le_of_ble_eq_true rfl) ?_
  intro p e s m below meth c ls hsz ha hP hl
  subst hsz
  have hx := ha.1
  have hb := ha.2.1
  have hS : va_S (xA G 74 s.heap.size) s.heap s.heap [] := va_S.rf
  have hl : lv_has ls 3 [(0, .int x)] := hl
  have k_0 : (0 : Int32).toInt = 0 := by decide
  have k_1 : (1 : Int32).toInt = 1 := by decide
  have k_6 : (6 : Int32).toInt = 6 := by decide
  refine lv_iconst (v := 0) hx hb dL_many_0 (by decide) ?_
  refine lv_istore_n (lv' := [(1, .int 0), (0, .int x)]) hx hb dL_many_1 rfl hl (by decide) rfl (fun ls hl => ?_)
  refine lv_iconst (v := 0) hx hb dL_many_2 (by decide) ?_
  refine lv_istore_n (lv' := [(2, .int 0), (1, .int 0), (0, .int x)]) hx hb dL_many_3 rfl hl (by decide) rfl (fun ls hl => ?_)
  have lp_4 : ∀ (d j : Nat) (x1 : Int32) (H : Heap) (locs : List Loc) (ls : Array Slot), j ≤ 6 → 6 - j < d → x1 = a_sum (fun k => (x >>> (nI k &&& 31)) &&& 1) j → va_P G.2.1 vwCl (wl G 74 (cX G σ)) H → va_S (xA G 74 s.heap.size) s.heap H locs → lv_has ls 3 [(2, .int (nI j)), (1, .int x1), (0, .int x)] → W p l e ({ frames := 0, cells := 0, slots := 0, locals := 0 } : Room) s m ([.int x] : List Value).toArray below meth c H locs 0 0 (MQ below (va_Qi (fun (r : Int32) u => r = a_many x ∧ u = σ) (xB G 74 (cX G)) (xA G 74 s.heap.size)) ([.int x] : List Value).toArray s 0 0 (xA G 74 s.heap.size)) (F0 m 4 ls []) := by
    intro d
    induction d with
    | zero => intro j x1 H locs ls hj hd; exact absurd hd (Nat.not_lt_zero _)
    | succ d ih_4 =>
      intro j x1 H locs ls hj_j hd_j e_x1 hP hS hl
      have h31_j : (nI j).toInt = (j : Int) := nI_toInt (by omega)
      refine lv_iload_n hx hb dL_many_4 rfl (lv_at hl 0 rfl) ?_
      refine lv_bipush (v := 6) hx hb dL_many_5 (by decide) ?_
      refine lv_icmp_ge (tgt := 24) hx hb dL_many_7 (by decide) (fun c_1 => ?_) (fun c_1 => ?_)
      · have t_1 := i_le c_1
        have u_1 := u_le c_1
        obtain rfl : j = 6 := by omega
        refine lv_iload_n hx hb dL_many_24 rfl (lv_at hl 1 rfl) ?_
        exact xiret ha hP hS dL_many_25 ⟨by simp [a_many, i_leN, e_x1, u_1, -Int32.not_lt] <;> first | rfl | simp_all, rfl⟩ rfl
      · have t_1 := i_nle c_1
        have u_1 := u_nle c_1
        have hlt_j : j < 6 := by omega
        refine lv_iload_n hx hb dL_many_10 rfl (lv_at hl 1 rfl) ?_
        refine lv_iload_n hx hb dL_many_11 rfl (lv_at hl 2 rfl) ?_
        refine lv_iload_n hx hb dL_many_12 rfl (lv_at hl 0 rfl) ?_
        refine lv_ishr hx hb dL_many_13 ?_
        refine lv_iconst (v := 1) hx hb dL_many_14 (by decide) ?_
        refine lv_iand hx hb dL_many_15 ?_
        refine lv_iadd hx hb dL_many_16 ?_
        refine lv_istore_n (lv' := [(1, .int (x1 + ((x >>> (nI j &&& 31)) &&& 1))), (2, .int (nI j)), (0, .int x)]) hx hb dL_many_17 rfl hl (by decide) rfl (fun ls hl => ?_)
        refine lv_iinc (v := (nI (j + 1))) (lv' := [(2, .int (nI (j + 1))), (1, .int (x1 + ((x >>> (nI j &&& 31)) &&& 1))), (0, .int x)]) hx hb dL_many_18 hl (k := 1) rfl (nI_1 j) (by decide) rfl (fun ls hl => ?_)
        refine lv_goto (tgt := 4) hx hb dL_many_21 (by decide) ?_
        exact ih_4 (j + 1) (x1 + ((x >>> (nI j &&& 31)) &&& 1)) _ _ _ (by omega) (by omega) (by simp [a_sum, i_leN, e_x1, u_1, -Int32.not_lt] <;> first | rfl | simp_all) hP hS (lv_sub hl [0, 1, 2] rfl)
  exact lp_4 (6 - 0 + 1) 0 0 _ _ _ (by omega) (by omega) (by first | rfl | simp [a_sum, i_leN, -Int32.not_lt] <;> first | rfl | simp_all) hP hS (lv_sub hl [0, 1, 2] rfl)
set_option maxHeartbeats 4000000 in
set_option maxRecDepth 100000 in
theorem c_L_told1 (G : GT) (l : Launch) (σ : Mem)   : CI G 74 (cX G) l yL_told ({ frames := 1, cells := 0, slots := 0, locals := 20 } : Room) cL_told 2 (some .int) [.ref (G.1 0), .int 1] σ (fun (r : Int32) u => r = σ 0 1 ∧ u = σ) := by
  intro sz
  refine xbegin (by decide) (Nat.le_of_ble_eq_true rfl) ?_
  intro p e s m below meth c ls hsz ha hP hl
  subst hsz
  have hx := ha.1
  have hb := ha.2.1
  have hS : va_S (xA G 74 s.heap.size) s.heap s.heap [] := va_S.rf
  have hl : lv_has ls 2 [(0, .ref (G.1 0)), (1, .int 1)] := hl
  have k_m7777 : (-7777 : Int32).toInt = -7777 := by decide
  have k_0 : (0 : Int32).toInt = 0 := by decide
  have k_1 : (1 : Int32).toInt = 1 := by decide
  refine lv_iload_n hx hb dL_told_0 rfl (lv_at hl 1 rfl) ?_
  refine lv_iconst (v := 1) hx hb dL_told_1 (by decide) ?_
  refine lv_icmp_ne (tgt := 12) hx hb dL_told_2 (by decide) (fun c_1 => ?_) (fun c_1 => ?_)
  · have t_1 := i_ne c_1
    exact absurd c_1 (by decide)
  · have t_1 := i_eq c_1
    refine lv_aload_n hx hb dL_told_5 rfl (lv_at hl 0 rfl) ?_
    refine xVi ha hP hS (y := yX7_asked) (As := []) (rest := []) 0 (by decide) (cX_0 G _) rfl rfl (c_X7_asked G l σ  ) kw_L_119 hd_X7_asked rfl ⟨rfl, rfl⟩ ⟨Nat.le_of_ble_eq_true rfl, Nat.le_of_ble_eq_true rfl⟩ ⟨Nat.zero_le _, Nat.zero_le _⟩ hl.1 (Nat.le_of_ble_eq_true rfl) rfl dL_told_6 (fun r u H locs hpq hP hS => ?_)
    obtain ⟨hr_, hu_⟩ := hpq
    have hr_ := hr_.symm
    have hu_ := hu_.symm
    subst hr_
    subst hu_
    refine lv_goto (tgt := 15) hx hb dL_told_9 (by decide) ?_
    exact xiret ha hP hS dL_told_15 ⟨by simp [i_leN, -Int32.not_lt] <;> first | rfl | simp_all, rfl⟩ rfl
