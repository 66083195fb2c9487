theorem hd_X8_failing : kHd yX8_failing 0 := by decide +kernel
theorem hd_X8_layRow : kHd yX8_layRow 2 := by decide +kernel
theorem hd_X8_laySeating : kHd yX8_laySeating 2 := by decide +kernel
theorem hd_X8_power : kHd yX8_power 2 := by decide +kernel
theorem kw_X8_240 : ∀ w ∈ k5V RX8 240 yX8_layRow cX8_layRow 4 none, w ∈ TB := tb_ins (by decide +kernel)
theorem kw_X8_244 : ∀ w ∈ k5S RX8 244 yX8_power cX8_power 4 (some .int), w ∈ TB := tb_ins (by decide +kernel)
theorem kw_X8_247 : ∀ w ∈ k5V RX8 247 yX8_laySeating cX8_laySeating 8 (some .boolean), w ∈ TB := tb_ins (by decide +kernel)
theorem kw_X8_251 : ∀ w ∈ k5V RX8 251 yX8_failing cX8_failing 3 (some .int), w ∈ TB := tb_ins (by decide +kernel)
set_option maxHeartbeats 4000000 in
set_option maxRecDepth 100000 in
theorem c_X8_power (G : GT) (l : Launch) (σ : Mem) (bb : Int32) (many : Int32) (hmn : 0 ≤ many.toInt) : CI G 24 (cM G) l yX8_power ({ frames := 0, cells := 0, slots := 0, locals := 0 } : Room) cX8_power 4 (some .int) [.int bb, .int many] σ (fun (r : Int32) u => r = b_pow bb (ix many) ∧ u = σ) := by
  intro sz
  refine xbegin (by decide) (Nat.le_of_ble_eq_true rfl) ?_
  intro p e s m below meth c ls hsz ha hP hl
  subst hsz
  have hx := ha.1
  have hb := ha.2.1
  have hS : va_S (xA G 24 s.heap.size) s.heap s.heap [] := va_S.rf
  have hl : lv_has ls 4 [(0, .int bb), (1, .int many)] := hl
  have k_0 : (0 : Int32).toInt = 0 := by decide
  have k_1 : (1 : Int32).toInt = 1 := by decide
  have k_4 : (4 : Int32).toInt = 4 := by decide
  have k_5 : (5 : Int32).toInt = 5 := by decide
  have k_6 : (6 : Int32).toInt = 6 := by decide
  have hmx := ix_toInt hmn
  have hm7 : many.toInt < 2 ^ 31 := Int32.toInt_lt many
  refine lv_iconst (v := 1) hx hb dX8_power_0 (by decide) ?_
  refine lv_istore_n (lv' := [(2, .int 1), (0, .int bb), (1, .int many)]) hx hb dX8_power_1 rfl hl (by decide) rfl (fun ls hl => ?_)
  refine lv_iconst (v := 0) hx hb dX8_power_2 (by decide) ?_
  refine lv_istore_n (lv' := [(3, .int 0), (2, .int 1), (0, .int bb), (1, .int many)]) hx hb dX8_power_3 rfl hl (by decide) rfl (fun ls hl => ?_)
  have lp_4 : ∀ (d j : Nat) (x2 : Int32) (H : Heap) (locs : List Loc) (ls : Array Slot), j ≤ (ix many) → (ix many) - j < d → x2 = b_pow bb j → va_P G.2.1 vwCl (wl G 24 (cM G σ)) H → va_S (xA G 24 s.heap.size) s.heap H locs → lv_has ls 4 [(3, .int (nI j)), (2, .int x2), (0, .int bb), (1, .int many)] → W p l e ({ frames := 0, cells := 0, slots := 0, locals := 0 } : Room) s m ([.int bb, .int many] : List Value).toArray below meth c H locs 0 0 (MQ below (va_Qi (fun (r : Int32) u => r = b_pow bb (ix many) ∧ u = σ) (xB G 24 (cM G)) (xA G 24 s.heap.size)) ([.int bb, .int many] : List Value).toArray s 0 0 (xA G 24 s.heap.size)) (F0 m 4 ls []) := by
    intro d
    induction d with
    | zero => intro j x2 H locs ls hj hd; exact absurd hd (Nat.not_lt_zero _)
    | succ d ih_4 =>
      intro j x2 H locs ls hj_j hd_j e_x2 hP hS hl
      have h31_j : (nI j).toInt = (j : Int) := nI_toInt (by omega)
      refine lv_iload_n hx hb dX8_power_4 rfl (lv_at hl 0 rfl) ?_
      refine lv_iload_n hx hb dX8_power_5 rfl (lv_at hl 3 rfl) ?_
      refine lv_icmp_ge (tgt := 19) hx hb dX8_power_6 (by decide) (fun c_1 => ?_) (fun c_1 => ?_)
      · have t_1 := i_le c_1
        have u_1 := u_le c_1
        obtain rfl : j = (ix many) := by omega
        refine lv_iload_n hx hb dX8_power_19 rfl (lv_at hl 1 rfl) ?_
        exact xiret ha hP hS dX8_power_20 ⟨by exact e_x2, rfl⟩ rfl
      · have t_1 := i_nle c_1
        have u_1 := u_nle c_1
        have hlt_j : j < (ix many) := by omega
        refine lv_iload_n hx hb dX8_power_9 rfl (lv_at hl 1 rfl) ?_
        refine lv_iload_n hx hb dX8_power_10 rfl (lv_at hl 2 rfl) ?_
        refine lv_imul hx hb dX8_power_11 ?_
        refine lv_istore_n (lv' := [(2, .int (x2 * bb)), (3, .int (nI j)), (0, .int bb), (1, .int many)]) hx hb dX8_power_12 rfl hl (by decide) rfl (fun ls hl => ?_)
        refine lv_iinc (v := (nI (j + 1))) (lv' := [(3, .int (nI (j + 1))), (2, .int (x2 * bb)), (0, .int bb), (1, .int many)]) hx hb dX8_power_13 hl (k := 1) rfl (nI_1 j) (by decide) rfl (fun ls hl => ?_)
        refine lv_goto (tgt := 4) hx hb dX8_power_16 (by decide) ?_
        exact ih_4 (j + 1) (x2 * bb) _ _ _ (by omega) (by omega) (by rw [e_x2]; rfl) hP hS (lv_sub hl [0, 1, 2, 3] rfl)
  exact lp_4 ((ix many) - 0 + 1) 0 1 _ _ _ (by omega) (by omega) rfl hP hS (lv_sub hl [0, 1, 2, 3] rfl)
set_option maxHeartbeats 4000000 in
set_option maxRecDepth 100000 in
theorem c_X8_laySeating_1 (G : GT) (l : Launch) (σ : Mem) (P : PT) (cd : Nat) (hpb : PB P) (hPV : pM σ = P) (hcd : cd < 4000) : CI G 24 (cM G) l yX8_laySeating ({ frames := 2, cells := 0, slots := 0, locals := 42 } : Room) cX8_laySeating 8 (some .boolean) [.ref (G.1 0), .int (nI cd), .int 1] σ (fun (r : Int32) u => r = b2i (wlS P σ (nPl P + 1) cd 1 (nPe P)) ∧ u = w_lay P (nPl P + 1) cd 1 σ (nPe P)) := by
  intro sz
  refine xbegin (by decide) (Nat.le_of_ble_eq_true rfl) ?_
  intro p e s m below meth c ls hsz ha hP hl
  subst hsz
  have hx := ha.1
  have hb := ha.2.1
  have hS : va_S (xA G 24 s.heap.size) s.heap s.heap [] := va_S.rf
  have hl : lv_has ls 8 [(0, .ref (G.1 0)), (1, .int (nI cd)), (2, .int 1)] := hl
  have k_m9 : (-9 : Int32).toInt = -9 := by decide
  have k_0 : (0 : Int32).toInt = 0 := by decide
  have k_1 : (1 : Int32).toInt = 1 := by decide
  have k_4 : (4 : Int32).toInt = 4 := by decide
  have k_5 : (5 : Int32).toInt = 5 := by decide
  have k_6 : (6 : Int32).toInt = 6 := by decide
  have hPL := PB_pl hpb
  have hPE := PB_pe hpb
  have hp4 := PV_pl hpb hPV
  have hp5 := PV_pe hpb hPV
  have hp4n : σ 0 4 = nI (nPl P) := (PV_4 hPV).trans hPL.1
  have hp5n : σ 0 5 = nI (nPe P) := (PV_5 hPV).trans hPE.1
  refine lv_iload_n hx hb dX8_laySeating_0 rfl (lv_at hl 2 rfl) ?_
  refine lv_if_eq (tgt := 13) hx hb dX8_laySeating_1 (by decide) (fun c_1 => ?_) (fun c_1 => ?_)
  · have t_1 := i_eq c_1
    exact absurd c_1 (by decide)
  · have t_1 := i_ne c_1
    refine lv_aload_n hx hb dX8_laySeating_4 rfl (lv_at hl 0 rfl) ?_
    refine g8_163 ha hP 0 (by decide) (cM_0 G _) (v := .int (σ 0 4)) rfl dX8_laySeating_5 ?_
    refine lv_iconst (v := 1) hx hb dX8_laySeating_8 (by decide) ?_
    refine lv_iaddE (z := (nI (nPl P + 1))) hx hb dX8_laySeating_9 (nadd hp4n rfl) ?_
    refine lv_goto (tgt := 17) hx hb dX8_laySeating_10 (by decide) ?_
    refine lv_istore_n (lv' := [(3, .int (nI (nPl P + 1))), (0, .ref (G.1 0)), (1, .int (nI cd)), (2, .int 1)]) hx hb dX8_laySeating_17 rfl hl (by decide) rfl (fun ls hl => ?_)
    refine lv_iload_n hx hb dX8_laySeating_18 rfl (lv_at hl 2 rfl) ?_
    refine lv_istore (lv' := [(4, .int (nI cd)), (3, .int (nI (nPl P + 1))), (0, .ref (G.1 0)), (1, .int (nI cd)), (2, .int 1)]) hx hb dX8_laySeating_19 hl (by decide) rfl (fun ls hl => ?_)
    refine lv_iconst (v := 1) hx hb dX8_laySeating_21 (by decide) ?_
    refine lv_istore (lv' := [(5, .int 1), (4, .int (nI cd)), (3, .int (nI (nPl P + 1))), (0, .ref (G.1 0)), (1, .int (nI cd)), (2, .int 1)]) hx hb dX8_laySeating_22 hl (by decide) rfl (fun ls hl => ?_)
    refine lv_aload_n hx hb dX8_laySeating_24 rfl (lv_at hl 3 rfl) ?_
    refine g8_166 ha hP 0 (by decide) (cM_0 G _) (v := .int (σ 0 5)) rfl dX8_laySeating_25 ?_
    refine lv_iconst (v := 1) hx hb dX8_laySeating_28 (by decide) ?_
    refine lv_isubE (z := (nI (nPe P - 0) - 1)) hx hb dX8_laySeating_29 (by rw [hp5n]; rfl) ?_
    refine lv_istore (lv' := [(6, .int (nI (nPe P - 0) - 1)), (5, .int 1), (4, .int (nI cd)), (3, .int (nI (nPl P + 1))), (0, .ref (G.1 0)), (1, .int (nI cd)), (2, .int 1)]) hx hb dX8_laySeating_30 hl (by decide) rfl (fun ls hl => ?_)
    have lp_32 : ∀ (d j : Nat) (x4 : Int32) (x5 : Int32) (x6 : Int32) (τj : Mem) (H : Heap) (locs : List Loc) (ls : Array Slot), j ≤ (nPe P) → (nPe P) - j < d → x4 = nI (lf (nPl P + 1) cd j) → x5 = b2i (wlS P σ (nPl P + 1) cd 1 j) → x6 = nI (nPe P - j) - 1 → τj = w_lay P (nPl P + 1) cd 1 σ j → (pM τj = P) → va_P G.2.1 vwCl (wl G 24 (cM G τj)) H → va_S (xA G 24 s.heap.size) s.heap H locs → lv_has ls 8 [(6, .int x6), (5, .int x5), (4, .int x4), (3, .int (nI (nPl P + 1))), (0, .ref (G.1 0)), (1, .int (nI cd)), (2, .int 1)] → W p l e ({ frames := 2, cells := 0, slots := 0, locals := 42 } : Room) s m ([.ref (G.1 0), .int (nI cd), .int 1] : List Value).toArray below meth c H locs 0 0 (MQ below (va_Qi (fun (r : Int32) u => r = b2i (wlS P σ (nPl P + 1) cd 1 (nPe P)) ∧ u = w_lay P (nPl P + 1) cd 1 σ (nPe P)) (xB G 24 (cM G)) (xA G 24 s.heap.size)) ([.ref (G.1 0), .int (nI cd), .int 1] : List Value).toArray s 0 0 (xA G 24 s.heap.size)) (F0 m 32 ls []) := by
      intro d
      induction d with
      | zero => intro j x4 x5 x6 τj H locs ls hj hd; exact absurd hd (Nat.not_lt_zero _)
      | succ d ih_32 =>
        intro j x4 x5 x6 τj H locs ls hj_j hd_j e_x4 e_x5 e_x6 e_τj hPj hP hS hl
        have hx6 : x6.toInt = (nPe P : Int) - (j : Int) - 1 := by rw [e_x6]; exact down_i (by omega) hj_j
        have hlf := lf_le (nPl P + 1) cd j
        refine lv_iload hx hb dX8_laySeating_32 (lv_at hl 0 rfl) ?_
        refine lv_if_lt (tgt := 115) hx hb dX8_laySeating_34 (by decide) (fun c_2 => ?_) (fun c_2 => ?_)
        · have t_2 := i_lt c_2
          obtain rfl : j = (nPe P) := by omega
          refine lv_iload hx hb dX8_laySeating_115 (lv_at hl 1 rfl) ?_
          exact xzret ha hP hS (by rw [e_x5]; exact b2i_nar _) dX8_laySeating_117 ⟨by exact e_x5, (by exact e_τj)⟩ rfl
        · have t_2 := i_nlt c_2
          obtain ⟨i, hi⟩ : ∃ i, nPe P = j + i + 1 := ⟨nPe P - j - 1, by omega⟩
          obtain rfl : x6 = nI i := by rw [e_x6, show nPe P - j = i + 1 by omega, nI_pred]
          have hrr := Nat.mod_lt (lf (nPl P + 1) cd j) (show 0 < (nPl P + 1) by omega)
          have hup : ∀ v k, a_isUp P (sM (mU τj 12 (5 + i) v) 12) k = a_isUp P (sM σ 12) k := fun v k => a_isUp_c (show mU τj 12 (5 + i) v 12 4 = σ 12 4 by rw [mU_e, if_pos rfl, if_neg (by omega), e_τj, lay_4 _ _ _ _ _ (by omega)])
          refine lv_iload hx hb dX8_laySeating_37 (lv_at hl 2 rfl) ?_
          refine lv_iload_n hx hb dX8_laySeating_39 rfl (lv_at hl 3 rfl) ?_
          refine lv_iremE (z := (nI (lf (nPl P + 1) cd j % (nPl P + 1)))) hx hb dX8_laySeating_40 (nI_ne0 (by omega) (by omega)) (by rw [e_x4]; exact remn (by omega) (by omega) (by omega)) ?_
          refine lv_iload_n hx hb dX8_laySeating_41 rfl (lv_at hl 6 rfl) ?_
          refine lv_if_eq (tgt := 49) hx hb dX8_laySeating_42 (by decide) (fun c_3 => ?_) (fun c_3 => ?_)
          · have t_3 := i_eq c_3
            exact absurd c_3 (by decide)
          · have t_3 := i_ne c_3
            refine lv_iconst (v := 1) hx hb dX8_laySeating_45 (by decide) ?_
            refine lv_goto (tgt := 50) hx hb dX8_laySeating_46 (by decide) ?_
            refine lv_isub hx hb dX8_laySeating_50 ?_
            refine lv_istore (lv' := [(7, .int ((nI (lf (nPl P + 1) cd j % (nPl P + 1))) - 1)), (6, .int (nI i)), (5, .int x5), (4, .int x4), (3, .int (nI (nPl P + 1))), (0, .ref (G.1 0)), (1, .int (nI cd)), (2, .int 1)]) hx hb dX8_laySeating_51 hl (by decide) rfl (fun ls hl => ?_)
            refine lv_iload hx hb dX8_laySeating_53 (lv_at hl 3 rfl) ?_
            refine lv_iload_n hx hb dX8_laySeating_55 rfl (lv_at hl 4 rfl) ?_
            refine lv_idivE (z := (nI (lf (nPl P + 1) cd j / (nPl P + 1)))) hx hb dX8_laySeating_56 (nI_ne0 (by omega) (by omega)) (by rw [e_x4]; exact divn (by omega) (by omega) (by omega)) ?_
            refine lv_istore (lv' := [(4, .int (nI (lf (nPl P + 1) cd j / (nPl P + 1)))), (7, .int ((nI (lf (nPl P + 1) cd j % (nPl P + 1))) - 1)), (6, .int (nI i)), (5, .int x5), (3, .int (nI (nPl P + 1))), (0, .ref (G.1 0)), (1, .int (nI cd)), (2, .int 1)]) hx hb dX8_laySeating_57 hl (by decide) rfl (fun ls hl => ?_)
            refine lv_aload_n hx hb dX8_laySeating_59 rfl (lv_at hl 5 rfl) ?_
            refine g8_47 ha hP 0 (by decide) (cM_0 G _) (v := .ref (G.1 12)) rfl dX8_laySeating_60 ?_
            refine lv_iconst (v := 5) hx hb dX8_laySeating_63 (by decide) ?_
            refine lv_iload hx hb dX8_laySeating_64 (lv_at hl 2 rfl) ?_
            refine lv_iadd hx hb dX8_laySeating_66 ?_
            refine lv_iload hx hb dX8_laySeating_67 (lv_at hl 1 rfl) ?_
            have jn_4 : ∀ x_4 : Int32, x_4 = (if ((nI (lf (nPl P + 1) cd j % (nPl P + 1))) - 1) < 0 then (-9) else ((nI (lf (nPl P + 1) cd j % (nPl P + 1))) - 1)) → W p l e ({ frames := 2, cells := 0, slots := 0, locals := 42 } : Room) s m ([.ref (G.1 0), .int (nI cd), .int 1] : List Value).toArray below meth c H locs 0 0 (MQ below (va_Qi (fun (r : Int32) u => r = b2i (wlS P σ (nPl P + 1) cd 1 (nPe P)) ∧ u = w_lay P (nPl P + 1) cd 1 σ (nPe P)) (xB G 24 (cM G)) (xA G 24 s.heap.size)) ([.ref (G.1 0), .int (nI cd), .int 1] : List Value).toArray s 0 0 (xA G 24 s.heap.size)) (F0 m 79 ls [.int x_4, .int (5 + (nI i)), .ref (G.1 12)]) := by
              intro x_4 ex_4
              have hx_4 : x_4 = (dgt 1 (lf (nPl P + 1) cd j % (nPl P + 1))) := (by rw [ex_4]; rfl)
              clear ex_4
              subst hx_4
              refine xiastN ha hP hS (cM_loc G) 12 (by decide) (fun τ => cM_12 G τ) (5 + i) (nadd (rfl : (5 : Int32) = nI 5) rfl) (by omega) (by decide) dX8_laySeating_79 (fun H locs hP hS => ?_)
              refine lv_iload hx hb dX8_laySeating_80 (lv_at hl 3 rfl) ?_
              refine lv_if_eq (tgt := 106) hx hb dX8_laySeating_82 (by decide) (fun c_5 => ?_) (fun c_5 => ?_)
              · have t_5 := i_eq c_5
                have hb5 : wlS P σ (nPl P + 1) cd 1 j = false := b2i_f (e_x5.symm.trans c_5)
                refine lv_iconst (v := 0) hx hb dX8_laySeating_106 (by decide) ?_
                refine lv_istore (lv' := [(5, .int 0), (4, .int (nI (lf (nPl P + 1) cd j / (nPl P + 1)))), (7, .int ((nI (lf (nPl P + 1) cd j % (nPl P + 1))) - 1)), (6, .int (nI i)), (3, .int (nI (nPl P + 1))), (0, .ref (G.1 0)), (1, .int (nI cd)), (2, .int 1)]) hx hb dX8_laySeating_107 hl (by decide) rfl (fun ls hl => ?_)
                refine lv_iinc (v := (nI i + (-1))) (lv' := [(6, .int (nI i + (-1))), (5, .int 0), (4, .int (nI (lf (nPl P + 1) cd j / (nPl P + 1)))), (7, .int ((nI (lf (nPl P + 1) cd j % (nPl P + 1))) - 1)), (3, .int (nI (nPl P + 1))), (0, .ref (G.1 0)), (1, .int (nI cd)), (2, .int 1)]) hx hb dX8_laySeating_109 hl (k := 3) rfl rfl (by decide) rfl (fun ls hl => ?_)
                refine lv_goto (tgt := 32) hx hb dX8_laySeating_112 (by decide) ?_
                exact ih_32 (j + 1) (nI (lf (nPl P + 1) cd j / (nPl P + 1))) 0 (nI i + (-1)) (mU τj 12 (5 + i) (dgt 1 (lf (nPl P + 1) cd j % (nPl P + 1)))) _ _ _ (by omega) (by omega) rfl (by rw [show wlS P σ (nPl P + 1) cd 1 (j + 1) = (wlS P σ (nPl P + 1) cd 1 j && wl_ok P σ (nPl P + 1) cd 1 j) from rfl, hb5]; simp [b2i, wl_ok, c_2, c_5, i_leN, -Int32.not_lt, -Int32.sub_zero]) (by rw [show nPe P - (j + 1) = i by omega]; first | exact Int32.sub_eq_add_neg.symm | exact (Int32.sub_eq_add_neg _ _).symm | (apply Int32.toInt_inj.mp; simp [Int32.toInt_add, Int32.toInt_sub])) (by rw [e_τj]; exact lay_s hi) ((pM_mU _ _ _ (by decide)).trans hPj) hP hS (lv_sub hl [0, 1, 2, 4, 5, 6, 7] rfl)
              · have t_5 := i_ne c_5
                have hb5 : wlS P σ (nPl P + 1) cd 1 j = true := b2i_t (fun h => c_5 (e_x5.trans h))
                refine lv_iload hx hb dX8_laySeating_85 (lv_at hl 1 rfl) ?_
                refine lv_if_lt (tgt := 102) hx hb dX8_laySeating_87 (by decide) (fun c_6 => ?_) (fun c_6 => ?_)
                · have t_6 := i_lt c_6
                  refine lv_iconst (v := 1) hx hb dX8_laySeating_102 (by decide) ?_
                  refine lv_goto (tgt := 107) hx hb dX8_laySeating_103 (by decide) ?_
                  refine lv_istore (lv' := [(5, .int 1), (4, .int (nI (lf (nPl P + 1) cd j / (nPl P + 1)))), (7, .int ((nI (lf (nPl P + 1) cd j % (nPl P + 1))) - 1)), (6, .int (nI i)), (3, .int (nI (nPl P + 1))), (0, .ref (G.1 0)), (1, .int (nI cd)), (2, .int 1)]) hx hb dX8_laySeating_107 hl (by decide) rfl (fun ls hl => ?_)
                  refine lv_iinc (v := (nI i + (-1))) (lv' := [(6, .int (nI i + (-1))), (5, .int 1), (4, .int (nI (lf (nPl P + 1) cd j / (nPl P + 1)))), (7, .int ((nI (lf (nPl P + 1) cd j % (nPl P + 1))) - 1)), (3, .int (nI (nPl P + 1))), (0, .ref (G.1 0)), (1, .int (nI cd)), (2, .int 1)]) hx hb dX8_laySeating_109 hl (k := 3) rfl rfl (by decide) rfl (fun ls hl => ?_)
                  refine lv_goto (tgt := 32) hx hb dX8_laySeating_112 (by decide) ?_
                  exact ih_32 (j + 1) (nI (lf (nPl P + 1) cd j / (nPl P + 1))) 1 (nI i + (-1)) (mU τj 12 (5 + i) (dgt 1 (lf (nPl P + 1) cd j % (nPl P + 1)))) _ _ _ (by omega) (by omega) rfl (by rw [show wlS P σ (nPl P + 1) cd 1 (j + 1) = (wlS P σ (nPl P + 1) cd 1 j && wl_ok P σ (nPl P + 1) cd 1 j) from rfl, hb5]; simp [b2i, wl_ok, c_2, c_5, c_6, i_leN, -Int32.not_lt, -Int32.sub_zero]) (by rw [show nPe P - (j + 1) = i by omega]; first | exact Int32.sub_eq_add_neg.symm | exact (Int32.sub_eq_add_neg _ _).symm | (apply Int32.toInt_inj.mp; simp [Int32.toInt_add, Int32.toInt_sub])) (by rw [e_τj]; exact lay_s hi) ((pM_mU _ _ _ (by decide)).trans hPj) hP hS (lv_sub hl [0, 1, 2, 4, 5, 6, 7] rfl)
                · have t_6 := i_nlt c_6
                  refine lv_aload_n hx hb dX8_laySeating_90 rfl (lv_at hl 5 rfl) ?_
                  refine g8_47 ha hP 0 (by decide) (cM_0 G _) (v := .ref (G.1 12)) rfl dX8_laySeating_91 ?_
                  refine lv_iload hx hb dX8_laySeating_94 (lv_at hl 1 rfl) ?_
                  refine xSi ha hP hS (y := yX8_isUp) (As := [.ref (G.1 12), .int ((nI (lf (nPl P + 1) cd j % (nPl P + 1))) - 1)]) (rest := []) rfl (c_X8_isUp G l (mU τj 12 (5 + i) (dgt 1 (lf (nPl P + 1) cd j % (nPl P + 1)))) P 12 ((nI (lf (nPl P + 1) cd j % (nPl P + 1))) - 1) hpb ((pM_mU _ _ _ (by decide)).trans hPj) (by unfold oT; omega) (dg_1 hpb hrr (by assumption))) kw_X8_192 hd_X8_isUp rfl ⟨rfl, rfl⟩ ⟨Nat.le_of_ble_eq_true rfl, Nat.le_of_ble_eq_true rfl⟩ ⟨Nat.zero_le _, Nat.zero_le _⟩ hl.1 (Nat.le_of_ble_eq_true rfl) rfl dX8_laySeating_96 (fun r u H locs hpq hP hS => ?_)
                  obtain ⟨hr_, hu_⟩ := hpq
                  have hr_ := hr_.symm
                  have hu_ := hu_.symm
                  subst hr_
                  subst hu_
                  refine lv_if_eq (tgt := 106) hx hb dX8_laySeating_99 (by decide) (fun c_7 => ?_) (fun c_7 => ?_)
                  · have t_7 := b2i_f c_7
                    have t9 := t_7
                    rw [hup] at t9
                    refine lv_iconst (v := 0) hx hb dX8_laySeating_106 (by decide) ?_
                    refine lv_istore (lv' := [(5, .int 0), (4, .int (nI (lf (nPl P + 1) cd j / (nPl P + 1)))), (7, .int ((nI (lf (nPl P + 1) cd j % (nPl P + 1))) - 1)), (6, .int (nI i)), (3, .int (nI (nPl P + 1))), (0, .ref (G.1 0)), (1, .int (nI cd)), (2, .int 1)]) hx hb dX8_laySeating_107 hl (by decide) rfl (fun ls hl => ?_)
                    refine lv_iinc (v := (nI i + (-1))) (lv' := [(6, .int (nI i + (-1))), (5, .int 0), (4, .int (nI (lf (nPl P + 1) cd j / (nPl P + 1)))), (7, .int ((nI (lf (nPl P + 1) cd j % (nPl P + 1))) - 1)), (3, .int (nI (nPl P + 1))), (0, .ref (G.1 0)), (1, .int (nI cd)), (2, .int 1)]) hx hb dX8_laySeating_109 hl (k := 3) rfl rfl (by decide) rfl (fun ls hl => ?_)
                    refine lv_goto (tgt := 32) hx hb dX8_laySeating_112 (by decide) ?_
                    exact ih_32 (j + 1) (nI (lf (nPl P + 1) cd j / (nPl P + 1))) 0 (nI i + (-1)) (mU τj 12 (5 + i) (dgt 1 (lf (nPl P + 1) cd j % (nPl P + 1)))) _ _ _ (by omega) (by omega) rfl (by rw [show wlS P σ (nPl P + 1) cd 1 (j + 1) = (wlS P σ (nPl P + 1) cd 1 j && wl_ok P σ (nPl P + 1) cd 1 j) from rfl, hb5]; simp [b2i, wl_ok, c_2, c_5, c_6, t_7, t9, i_leN, -Int32.not_lt, -Int32.sub_zero]) (by rw [show nPe P - (j + 1) = i by omega]; first | exact Int32.sub_eq_add_neg.symm | exact (Int32.sub_eq_add_neg _ _).symm | (apply Int32.toInt_inj.mp; simp [Int32.toInt_add, Int32.toInt_sub])) (by rw [e_τj]; exact lay_s hi) ((pM_mU _ _ _ (by decide)).trans hPj) hP hS (lv_sub hl [0, 1, 2, 4, 5, 6, 7] rfl)
                  · have t_7 := b2i_t c_7
                    have t9 := t_7
                    rw [hup] at t9
                    refine lv_iconst (v := 1) hx hb dX8_laySeating_102 (by decide) ?_
                    refine lv_goto (tgt := 107) hx hb dX8_laySeating_103 (by decide) ?_
                    refine lv_istore (lv' := [(5, .int 1), (4, .int (nI (lf (nPl P + 1) cd j / (nPl P + 1)))), (7, .int ((nI (lf (nPl P + 1) cd j % (nPl P + 1))) - 1)), (6, .int (nI i)), (3, .int (nI (nPl P + 1))), (0, .ref (G.1 0)), (1, .int (nI cd)), (2, .int 1)]) hx hb dX8_laySeating_107 hl (by decide) rfl (fun ls hl => ?_)
                    refine lv_iinc (v := (nI i + (-1))) (lv' := [(6, .int (nI i + (-1))), (5, .int 1), (4, .int (nI (lf (nPl P + 1) cd j / (nPl P + 1)))), (7, .int ((nI (lf (nPl P + 1) cd j % (nPl P + 1))) - 1)), (3, .int (nI (nPl P + 1))), (0, .ref (G.1 0)), (1, .int (nI cd)), (2, .int 1)]) hx hb dX8_laySeating_109 hl (k := 3) rfl rfl (by decide) rfl (fun ls hl => ?_)
                    refine lv_goto (tgt := 32) hx hb dX8_laySeating_112 (by decide) ?_
                    exact ih_32 (j + 1) (nI (lf (nPl P + 1) cd j / (nPl P + 1))) 1 (nI i + (-1)) (mU τj 12 (5 + i) (dgt 1 (lf (nPl P + 1) cd j % (nPl P + 1)))) _ _ _ (by omega) (by omega) rfl (by rw [show wlS P σ (nPl P + 1) cd 1 (j + 1) = (wlS P σ (nPl P + 1) cd 1 j && wl_ok P σ (nPl P + 1) cd 1 j) from rfl, hb5]; simp [b2i, wl_ok, c_2, c_5, c_6, t_7, t9, i_leN, -Int32.not_lt, -Int32.sub_zero]) (by rw [show nPe P - (j + 1) = i by omega]; first | exact Int32.sub_eq_add_neg.symm | exact (Int32.sub_eq_add_neg _ _).symm | (apply Int32.toInt_inj.mp; simp [Int32.toInt_add, Int32.toInt_sub])) (by rw [e_τj]; exact lay_s hi) ((pM_mU _ _ _ (by decide)).trans hPj) hP hS (lv_sub hl [0, 1, 2, 4, 5, 6, 7] rfl)
            refine lv_if_ge (tgt := 77) hx hb dX8_laySeating_69 (by decide) (fun c_4 => ?_) (fun c_4 => ?_)
            · have t_4 := i_le c_4
              refine lv_iload hx hb dX8_laySeating_77 (lv_at hl 1 rfl) ?_
              exact jn_4 _ (if_neg (u_le c_4)).symm
            · have t_4 := i_nle c_4
              refine lv_bipush (v := (-9)) hx hb dX8_laySeating_72 (by decide) ?_
              refine lv_goto (tgt := 79) hx hb dX8_laySeating_74 (by decide) ?_
              exact jn_4 _ (if_pos (u_nle c_4)).symm
    exact lp_32 ((nPe P) - 0 + 1) 0 (nI cd) 1 (nI (nPe P - 0) - 1) σ _ _ _ (by omega) (by omega) rfl rfl rfl rfl hPV hP hS (lv_sub hl [0, 1, 2, 3, 4, 5, 6] rfl)
set_option maxHeartbeats 4000000 in
set_option maxRecDepth 100000 in
theorem c_X8_laySeating_0 (G : GT) (l : Launch) (σ : Mem) (P : PT) (cd : Nat) (hpb : PB P) (hPV : pM σ = P) (hcd : cd < 4000) (hp0 : 0 < nPl P) : CI G 24 (cM G) l yX8_laySeating ({ frames := 2, cells := 0, slots := 0, locals := 42 } : Room) cX8_laySeating 8 (some .boolean) [.ref (G.1 0), .int (nI cd), .int 0] σ (fun (r : Int32) u => r = b2i (wlS P σ (nPl P) cd 0 (nPe P)) ∧ u = w_lay P (nPl P) cd 0 σ (nPe P)) := by
  intro sz
  refine xbegin (by decide) (Nat.le_of_ble_eq_true rfl) ?_
  intro p e s m below meth c ls hsz ha hP hl
  subst hsz
  have hx := ha.1
  have hb := ha.2.1
  have hS : va_S (xA G 24 s.heap.size) s.heap s.heap [] := va_S.rf
  have hl : lv_has ls 8 [(0, .ref (G.1 0)), (1, .int (nI cd)), (2, .int 0)] := hl
  have k_m9 : (-9 : Int32).toInt = -9 := by decide
  have k_0 : (0 : Int32).toInt = 0 := by decide
  have k_1 : (1 : Int32).toInt = 1 := by decide
  have k_4 : (4 : Int32).toInt = 4 := by decide
  have k_5 : (5 : Int32).toInt = 5 := by decide
  have k_6 : (6 : Int32).toInt = 6 := by decide
  have hPL := PB_pl hpb
  have hPE := PB_pe hpb
  have hp4 := PV_pl hpb hPV
  have hp5 := PV_pe hpb hPV
  have hp4n : σ 0 4 = nI (nPl P) := (PV_4 hPV).trans hPL.1
  have hp5n : σ 0 5 = nI (nPe P) := (PV_5 hPV).trans hPE.1
  refine lv_iload_n hx hb dX8_laySeating_0 rfl (lv_at hl 2 rfl) ?_
  refine lv_if_eq (tgt := 13) hx hb dX8_laySeating_1 (by decide) (fun c_1 => ?_) (fun c_1 => ?_)
  · have t_1 := i_eq c_1
    refine lv_aload_n hx hb dX8_laySeating_13 rfl (lv_at hl 0 rfl) ?_
    refine g8_163 ha hP 0 (by decide) (cM_0 G _) (v := .int (σ 0 4)) rfl dX8_laySeating_14 ?_
    refine lv_istore_n (lv' := [(3, .int (σ 0 4)), (0, .ref (G.1 0)), (1, .int (nI cd)), (2, .int 0)]) hx hb dX8_laySeating_17 rfl hl (by decide) rfl (fun ls hl => ?_)
    have hsl_18 : (σ 0 4) = (nI (nPl P)) := hp4n
    rw [hsl_18] at hl
    refine lv_iload_n hx hb dX8_laySeating_18 rfl (lv_at hl 2 rfl) ?_
    refine lv_istore (lv' := [(4, .int (nI cd)), (3, .int (nI (nPl P))), (0, .ref (G.1 0)), (1, .int (nI cd)), (2, .int 0)]) hx hb dX8_laySeating_19 hl (by decide) rfl (fun ls hl => ?_)
    refine lv_iconst (v := 1) hx hb dX8_laySeating_21 (by decide) ?_
    refine lv_istore (lv' := [(5, .int 1), (4, .int (nI cd)), (3, .int (nI (nPl P))), (0, .ref (G.1 0)), (1, .int (nI cd)), (2, .int 0)]) hx hb dX8_laySeating_22 hl (by decide) rfl (fun ls hl => ?_)
    refine lv_aload_n hx hb dX8_laySeating_24 rfl (lv_at hl 3 rfl) ?_
    refine g8_166 ha hP 0 (by decide) (cM_0 G _) (v := .int (σ 0 5)) rfl dX8_laySeating_25 ?_
    refine lv_iconst (v := 1) hx hb dX8_laySeating_28 (by decide) ?_
    refine lv_isubE (z := (nI (nPe P - 0) - 1)) hx hb dX8_laySeating_29 (by rw [hp5n]; rfl) ?_
    refine lv_istore (lv' := [(6, .int (nI (nPe P - 0) - 1)), (5, .int 1), (4, .int (nI cd)), (3, .int (nI (nPl P))), (0, .ref (G.1 0)), (1, .int (nI cd)), (2, .int 0)]) hx hb dX8_laySeating_30 hl (by decide) rfl (fun ls hl => ?_)
    have lp_32 : ∀ (d j : Nat) (x4 : Int32) (x5 : Int32) (x6 : Int32) (τj : Mem) (H : Heap) (locs : List Loc) (ls : Array Slot), j ≤ (nPe P) → (nPe P) - j < d → x4 = nI (lf (nPl P) cd j) → x5 = b2i (wlS P σ (nPl P) cd 0 j) → x6 = nI (nPe P - j) - 1 → τj = w_lay P (nPl P) cd 0 σ j → (pM τj = P) → va_P G.2.1 vwCl (wl G 24 (cM G τj)) H → va_S (xA G 24 s.heap.size) s.heap H locs → lv_has ls 8 [(6, .int x6), (5, .int x5), (4, .int x4), (3, .int (nI (nPl P))), (0, .ref (G.1 0)), (1, .int (nI cd)), (2, .int 0)] → W p l e ({ frames := 2, cells := 0, slots := 0, locals := 42 } : Room) s m ([.ref (G.1 0), .int (nI cd), .int 0] : List Value).toArray below meth c H locs 0 0 (MQ below (va_Qi (fun (r : Int32) u => r = b2i (wlS P σ (nPl P) cd 0 (nPe P)) ∧ u = w_lay P (nPl P) cd 0 σ (nPe P)) (xB G 24 (cM G)) (xA G 24 s.heap.size)) ([.ref (G.1 0), .int (nI cd), .int 0] : List Value).toArray s 0 0 (xA G 24 s.heap.size)) (F0 m 32 ls []) := by
      intro d
      induction d with
      | zero => intro j x4 x5 x6 τj H locs ls hj hd; exact absurd hd (Nat.not_lt_zero _)
      | succ d ih_32 =>
        intro j x4 x5 x6 τj H locs ls hj_j hd_j e_x4 e_x5 e_x6 e_τj hPj hP hS hl
        have hx6 : x6.toInt = (nPe P : Int) - (j : Int) - 1 := by rw [e_x6]; exact down_i (by omega) hj_j
        have hlf := lf_le (nPl P) cd j
        refine lv_iload hx hb dX8_laySeating_32 (lv_at hl 0 rfl) ?_
        refine lv_if_lt (tgt := 115) hx hb dX8_laySeating_34 (by decide) (fun c_2 => ?_) (fun c_2 => ?_)
        · have t_2 := i_lt c_2
          obtain rfl : j = (nPe P) := by omega
          refine lv_iload hx hb dX8_laySeating_115 (lv_at hl 1 rfl) ?_
          exact xzret ha hP hS (by rw [e_x5]; exact b2i_nar _) dX8_laySeating_117 ⟨by exact e_x5, (by exact e_τj)⟩ rfl
        · have t_2 := i_nlt c_2
          obtain ⟨i, hi⟩ : ∃ i, nPe P = j + i + 1 := ⟨nPe P - j - 1, by omega⟩
          obtain rfl : x6 = nI i := by rw [e_x6, show nPe P - j = i + 1 by omega, nI_pred]
          have hrr := Nat.mod_lt (lf (nPl P) cd j) (show 0 < (nPl P) by omega)
          have hup : ∀ v k, a_isUp P (sM (mU τj 12 (5 + i) v) 12) k = a_isUp P (sM σ 12) k := fun v k => a_isUp_c (show mU τj 12 (5 + i) v 12 4 = σ 12 4 by rw [mU_e, if_pos rfl, if_neg (by omega), e_τj, lay_4 _ _ _ _ _ (by omega)])
          refine lv_iload hx hb dX8_laySeating_37 (lv_at hl 2 rfl) ?_
          refine lv_iload_n hx hb dX8_laySeating_39 rfl (lv_at hl 3 rfl) ?_
          refine lv_iremE (z := (nI (lf (nPl P) cd j % (nPl P)))) hx hb dX8_laySeating_40 (nI_ne0 (by omega) (by omega)) (by rw [e_x4]; exact remn (by omega) (by omega) (by omega)) ?_
          refine lv_iload_n hx hb dX8_laySeating_41 rfl (lv_at hl 6 rfl) ?_
          refine lv_if_eq (tgt := 49) hx hb dX8_laySeating_42 (by decide) (fun c_3 => ?_) (fun c_3 => ?_)
          · have t_3 := i_eq c_3
            refine lv_iconst (v := 0) hx hb dX8_laySeating_49 (by decide) ?_
            refine lv_isub hx hb dX8_laySeating_50 ?_
            refine lv_istore (lv' := [(7, .int ((nI (lf (nPl P) cd j % (nPl P))) - 0)), (6, .int (nI i)), (5, .int x5), (4, .int x4), (3, .int (nI (nPl P))), (0, .ref (G.1 0)), (1, .int (nI cd)), (2, .int 0)]) hx hb dX8_laySeating_51 hl (by decide) rfl (fun ls hl => ?_)
            refine lv_iload hx hb dX8_laySeating_53 (lv_at hl 3 rfl) ?_
            refine lv_iload_n hx hb dX8_laySeating_55 rfl (lv_at hl 4 rfl) ?_
            refine lv_idivE (z := (nI (lf (nPl P) cd j / (nPl P)))) hx hb dX8_laySeating_56 (nI_ne0 (by omega) (by omega)) (by rw [e_x4]; exact divn (by omega) (by omega) (by omega)) ?_
            refine lv_istore (lv' := [(4, .int (nI (lf (nPl P) cd j / (nPl P)))), (7, .int ((nI (lf (nPl P) cd j % (nPl P))) - 0)), (6, .int (nI i)), (5, .int x5), (3, .int (nI (nPl P))), (0, .ref (G.1 0)), (1, .int (nI cd)), (2, .int 0)]) hx hb dX8_laySeating_57 hl (by decide) rfl (fun ls hl => ?_)
            refine lv_aload_n hx hb dX8_laySeating_59 rfl (lv_at hl 5 rfl) ?_
            refine g8_47 ha hP 0 (by decide) (cM_0 G _) (v := .ref (G.1 12)) rfl dX8_laySeating_60 ?_
            refine lv_iconst (v := 5) hx hb dX8_laySeating_63 (by decide) ?_
            refine lv_iload hx hb dX8_laySeating_64 (lv_at hl 2 rfl) ?_
            refine lv_iadd hx hb dX8_laySeating_66 ?_
            refine lv_iload hx hb dX8_laySeating_67 (lv_at hl 1 rfl) ?_
            have jn_4 : ∀ x_4 : Int32, x_4 = (if ((nI (lf (nPl P) cd j % (nPl P))) - 0) < 0 then (-9) else ((nI (lf (nPl P) cd j % (nPl P))) - 0)) → W p l e ({ frames := 2, cells := 0, slots := 0, locals := 42 } : Room) s m ([.ref (G.1 0), .int (nI cd), .int 0] : List Value).toArray below meth c H locs 0 0 (MQ below (va_Qi (fun (r : Int32) u => r = b2i (wlS P σ (nPl P) cd 0 (nPe P)) ∧ u = w_lay P (nPl P) cd 0 σ (nPe P)) (xB G 24 (cM G)) (xA G 24 s.heap.size)) ([.ref (G.1 0), .int (nI cd), .int 0] : List Value).toArray s 0 0 (xA G 24 s.heap.size)) (F0 m 79 ls [.int x_4, .int (5 + (nI i)), .ref (G.1 12)]) := by
              intro x_4 ex_4
              have hx_4 : x_4 = (dgt 0 (lf (nPl P) cd j % (nPl P))) := (by rw [ex_4]; rfl)
              clear ex_4
              subst hx_4
              refine xiastN ha hP hS (cM_loc G) 12 (by decide) (fun τ => cM_12 G τ) (5 + i) (nadd (rfl : (5 : Int32) = nI 5) rfl) (by omega) (by decide) dX8_laySeating_79 (fun H locs hP hS => ?_)
              refine lv_iload hx hb dX8_laySeating_80 (lv_at hl 3 rfl) ?_
              refine lv_if_eq (tgt := 106) hx hb dX8_laySeating_82 (by decide) (fun c_5 => ?_) (fun c_5 => ?_)
              · have t_5 := i_eq c_5
                have hb5 : wlS P σ (nPl P) cd 0 j = false := b2i_f (e_x5.symm.trans c_5)
                refine lv_iconst (v := 0) hx hb dX8_laySeating_106 (by decide) ?_
                refine lv_istore (lv' := [(5, .int 0), (4, .int (nI (lf (nPl P) cd j / (nPl P)))), (7, .int ((nI (lf (nPl P) cd j % (nPl P))) - 0)), (6, .int (nI i)), (3, .int (nI (nPl P))), (0, .ref (G.1 0)), (1, .int (nI cd)), (2, .int 0)]) hx hb dX8_laySeating_107 hl (by decide) rfl (fun ls hl => ?_)
                refine lv_iinc (v := (nI i + (-1))) (lv' := [(6, .int (nI i + (-1))), (5, .int 0), (4, .int (nI (lf (nPl P) cd j / (nPl P)))), (7, .int ((nI (lf (nPl P) cd j % (nPl P))) - 0)), (3, .int (nI (nPl P))), (0, .ref (G.1 0)), (1, .int (nI cd)), (2, .int 0)]) hx hb dX8_laySeating_109 hl (k := 3) rfl rfl (by decide) rfl (fun ls hl => ?_)
                refine lv_goto (tgt := 32) hx hb dX8_laySeating_112 (by decide) ?_
                exact ih_32 (j + 1) (nI (lf (nPl P) cd j / (nPl P))) 0 (nI i + (-1)) (mU τj 12 (5 + i) (dgt 0 (lf (nPl P) cd j % (nPl P)))) _ _ _ (by omega) (by omega) rfl (by rw [show wlS P σ (nPl P) cd 0 (j + 1) = (wlS P σ (nPl P) cd 0 j && wl_ok P σ (nPl P) cd 0 j) from rfl, hb5]; simp [b2i, wl_ok, c_2, c_5, i_leN, -Int32.not_lt, -Int32.sub_zero]) (by rw [show nPe P - (j + 1) = i by omega]; first | exact Int32.sub_eq_add_neg.symm | exact (Int32.sub_eq_add_neg _ _).symm | (apply Int32.toInt_inj.mp; simp [Int32.toInt_add, Int32.toInt_sub])) (by rw [e_τj]; exact lay_s hi) ((pM_mU _ _ _ (by decide)).trans hPj) hP hS (lv_sub hl [0, 1, 2, 4, 5, 6, 7] rfl)
              · have t_5 := i_ne c_5
                have hb5 : wlS P σ (nPl P) cd 0 j = true := b2i_t (fun h => c_5 (e_x5.trans h))
                refine lv_iload hx hb dX8_laySeating_85 (lv_at hl 1 rfl) ?_
                refine lv_if_lt (tgt := 102) hx hb dX8_laySeating_87 (by decide) (fun c_6 => ?_) (fun c_6 => ?_)
                · have t_6 := i_lt c_6
                  refine lv_iconst (v := 1) hx hb dX8_laySeating_102 (by decide) ?_
                  refine lv_goto (tgt := 107) hx hb dX8_laySeating_103 (by decide) ?_
                  refine lv_istore (lv' := [(5, .int 1), (4, .int (nI (lf (nPl P) cd j / (nPl P)))), (7, .int ((nI (lf (nPl P) cd j % (nPl P))) - 0)), (6, .int (nI i)), (3, .int (nI (nPl P))), (0, .ref (G.1 0)), (1, .int (nI cd)), (2, .int 0)]) hx hb dX8_laySeating_107 hl (by decide) rfl (fun ls hl => ?_)
                  refine lv_iinc (v := (nI i + (-1))) (lv' := [(6, .int (nI i + (-1))), (5, .int 1), (4, .int (nI (lf (nPl P) cd j / (nPl P)))), (7, .int ((nI (lf (nPl P) cd j % (nPl P))) - 0)), (3, .int (nI (nPl P))), (0, .ref (G.1 0)), (1, .int (nI cd)), (2, .int 0)]) hx hb dX8_laySeating_109 hl (k := 3) rfl rfl (by decide) rfl (fun ls hl => ?_)
                  refine lv_goto (tgt := 32) hx hb dX8_laySeating_112 (by decide) ?_
                  exact ih_32 (j + 1) (nI (lf (nPl P) cd j / (nPl P))) 1 (nI i + (-1)) (mU τj 12 (5 + i) (dgt 0 (lf (nPl P) cd j % (nPl P)))) _ _ _ (by omega) (by omega) rfl (by rw [show wlS P σ (nPl P) cd 0 (j + 1) = (wlS P σ (nPl P) cd 0 j && wl_ok P σ (nPl P) cd 0 j) from rfl, hb5]; simp [b2i, wl_ok, c_2, c_5, c_6, i_leN, -Int32.not_lt, -Int32.sub_zero]) (by rw [show nPe P - (j + 1) = i by omega]; first | exact Int32.sub_eq_add_neg.symm | exact (Int32.sub_eq_add_neg _ _).symm | (apply Int32.toInt_inj.mp; simp [Int32.toInt_add, Int32.toInt_sub])) (by rw [e_τj]; exact lay_s hi) ((pM_mU _ _ _ (by decide)).trans hPj) hP hS (lv_sub hl [0, 1, 2, 4, 5, 6, 7] rfl)
                · have t_6 := i_nlt c_6
                  refine lv_aload_n hx hb dX8_laySeating_90 rfl (lv_at hl 5 rfl) ?_
                  refine g8_47 ha hP 0 (by decide) (cM_0 G _) (v := .ref (G.1 12)) rfl dX8_laySeating_91 ?_
                  refine lv_iload hx hb dX8_laySeating_94 (lv_at hl 1 rfl) ?_
                  refine xSi ha hP hS (y := yX8_isUp) (As := [.ref (G.1 12), .int ((nI (lf (nPl P) cd j % (nPl P))) - 0)]) (rest := []) rfl (c_X8_isUp G l (mU τj 12 (5 + i) (dgt 0 (lf (nPl P) cd j % (nPl P)))) P 12 ((nI (lf (nPl P) cd j % (nPl P))) - 0) hpb ((pM_mU _ _ _ (by decide)).trans hPj) (by unfold oT; omega) (dg_0 hpb hrr)) kw_X8_192 hd_X8_isUp rfl ⟨rfl, rfl⟩ ⟨Nat.le_of_ble_eq_true rfl, Nat.le_of_ble_eq_true rfl⟩ ⟨Nat.zero_le _, Nat.zero_le _⟩ hl.1 (Nat.le_of_ble_eq_true rfl) rfl dX8_laySeating_96 (fun r u H locs hpq hP hS => ?_)
                  obtain ⟨hr_, hu_⟩ := hpq
                  have hr_ := hr_.symm
                  have hu_ := hu_.symm
                  subst hr_
                  subst hu_
                  refine lv_if_eq (tgt := 106) hx hb dX8_laySeating_99 (by decide) (fun c_7 => ?_) (fun c_7 => ?_)
                  · have t_7 := b2i_f c_7
                    have t9 := t_7
                    rw [hup] at t9
                    refine lv_iconst (v := 0) hx hb dX8_laySeating_106 (by decide) ?_
                    refine lv_istore (lv' := [(5, .int 0), (4, .int (nI (lf (nPl P) cd j / (nPl P)))), (7, .int ((nI (lf (nPl P) cd j % (nPl P))) - 0)), (6, .int (nI i)), (3, .int (nI (nPl P))), (0, .ref (G.1 0)), (1, .int (nI cd)), (2, .int 0)]) hx hb dX8_laySeating_107 hl (by decide) rfl (fun ls hl => ?_)
                    refine lv_iinc (v := (nI i + (-1))) (lv' := [(6, .int (nI i + (-1))), (5, .int 0), (4, .int (nI (lf (nPl P) cd j / (nPl P)))), (7, .int ((nI (lf (nPl P) cd j % (nPl P))) - 0)), (3, .int (nI (nPl P))), (0, .ref (G.1 0)), (1, .int (nI cd)), (2, .int 0)]) hx hb dX8_laySeating_109 hl (k := 3) rfl rfl (by decide) rfl (fun ls hl => ?_)
                    refine lv_goto (tgt := 32) hx hb dX8_laySeating_112 (by decide) ?_
                    exact ih_32 (j + 1) (nI (lf (nPl P) cd j / (nPl P))) 0 (nI i + (-1)) (mU τj 12 (5 + i) (dgt 0 (lf (nPl P) cd j % (nPl P)))) _ _ _ (by omega) (by omega) rfl (by rw [show wlS P σ (nPl P) cd 0 (j + 1) = (wlS P σ (nPl P) cd 0 j && wl_ok P σ (nPl P) cd 0 j) from rfl, hb5]; simp [b2i, wl_ok, c_2, c_5, c_6, t_7, t9, i_leN, -Int32.not_lt, -Int32.sub_zero]) (by rw [show nPe P - (j + 1) = i by omega]; first | exact Int32.sub_eq_add_neg.symm | exact (Int32.sub_eq_add_neg _ _).symm | (apply Int32.toInt_inj.mp; simp [Int32.toInt_add, Int32.toInt_sub])) (by rw [e_τj]; exact lay_s hi) ((pM_mU _ _ _ (by decide)).trans hPj) hP hS (lv_sub hl [0, 1, 2, 4, 5, 6, 7] rfl)
                  · have t_7 := b2i_t c_7
                    have t9 := t_7
                    rw [hup] at t9
                    refine lv_iconst (v := 1) hx hb dX8_laySeating_102 (by decide) ?_
                    refine lv_goto (tgt := 107) hx hb dX8_laySeating_103 (by decide) ?_
                    refine lv_istore (lv' := [(5, .int 1), (4, .int (nI (lf (nPl P) cd j / (nPl P)))), (7, .int ((nI (lf (nPl P) cd j % (nPl P))) - 0)), (6, .int (nI i)), (3, .int (nI (nPl P))), (0, .ref (G.1 0)), (1, .int (nI cd)), (2, .int 0)]) hx hb dX8_laySeating_107 hl (by decide) rfl (fun ls hl => ?_)
                    refine lv_iinc (v := (nI i + (-1))) (lv' := [(6, .int (nI i + (-1))), (5, .int 1), (4, .int (nI (lf (nPl P) cd j / (nPl P)))), (7, .int ((nI (lf (nPl P) cd j % (nPl P))) - 0)), (3, .int (nI (nPl P))), (0, .ref (G.1 0)), (1, .int (nI cd)), (2, .int 0)]) hx hb dX8_laySeating_109 hl (k := 3) rfl rfl (by decide) rfl (fun ls hl => ?_)
                    refine lv_goto (tgt := 32) hx hb dX8_laySeating_112 (by decide) ?_
                    exact ih_32 (j + 1) (nI (lf (nPl P) cd j / (nPl P))) 1 (nI i + (-1)) (mU τj 12 (5 + i) (dgt 0 (lf (nPl P) cd j % (nPl P)))) _ _ _ (by omega) (by omega) rfl (by rw [show wlS P σ (nPl P) cd 0 (j + 1) = (wlS P σ (nPl P) cd 0 j && wl_ok P σ (nPl P) cd 0 j) from rfl, hb5]; simp [b2i, wl_ok, c_2, c_5, c_6, t_7, t9, i_leN, -Int32.not_lt, -Int32.sub_zero]) (by rw [show nPe P - (j + 1) = i by omega]; first | exact Int32.sub_eq_add_neg.symm | exact (Int32.sub_eq_add_neg _ _).symm | (apply Int32.toInt_inj.mp; simp [Int32.toInt_add, Int32.toInt_sub])) (by rw [e_τj]; exact lay_s hi) ((pM_mU _ _ _ (by decide)).trans hPj) hP hS (lv_sub hl [0, 1, 2, 4, 5, 6, 7] rfl)
            refine lv_if_ge (tgt := 77) hx hb dX8_laySeating_69 (by decide) (fun c_4 => ?_) (fun c_4 => ?_)
            · have t_4 := i_le c_4
              refine lv_iload hx hb dX8_laySeating_77 (lv_at hl 1 rfl) ?_
              exact jn_4 _ (if_neg (u_le c_4)).symm
            · have t_4 := i_nle c_4
              refine lv_bipush (v := (-9)) hx hb dX8_laySeating_72 (by decide) ?_
              refine lv_goto (tgt := 79) hx hb dX8_laySeating_74 (by decide) ?_
              exact jn_4 _ (if_pos (u_nle c_4)).symm
          · have t_3 := i_ne c_3
            exact absurd c_3 (by decide)
    exact lp_32 ((nPe P) - 0 + 1) 0 (nI cd) 1 (nI (nPe P - 0) - 1) σ _ _ _ (by omega) (by omega) rfl rfl rfl rfl hPV hP hS (lv_sub hl [0, 1, 2, 3, 4, 5, 6] rfl)
  · have t_1 := i_ne c_1
    exact absurd c_1 (by decide)
set_option maxHeartbeats 4000000 in
set_option maxRecDepth 100000 in
theorem c_X8_layRow (G : GT) (l : Launch) (σ : Mem) (ro : Int32) (many : Int32) (hro6 : a_in ro 6 = true) : CV G 24 (cM G) l yX8_layRow ({ frames := 0, cells := 0, slots := 0, locals := 0 } : Room) cX8_layRow 4 none [.ref (G.1 0), .int ro, .int many] σ (fun u => u = w_lrow σ (ix ro) many) := by
  intro sz
  refine xbegin (by decide) (Nat.le_of_ble_eq_true rfl) ?_
  intro p e s m below meth c ls hsz ha hP hl
  subst hsz
  have hx := ha.1
  have hb := ha.2.1
  have hS : va_S (xA G 24 s.heap.size) s.heap s.heap [] := va_S.rf
  have hl : lv_has ls 4 [(0, .ref (G.1 0)), (1, .int ro), (2, .int many)] := hl
  have k_0 : (0 : Int32).toInt = 0 := by decide
  have k_4 : (4 : Int32).toInt = 4 := by decide
  have k_5 : (5 : Int32).toInt = 5 := by decide
  have k_6 : (6 : Int32).toInt = 6 := by decide
  have k_40 : (40 : Int32).toInt = 40 := by decide
  have hro1 := in_t hro6
  refine lv_aload_n hx hb dX8_layRow_0 rfl (lv_at hl 0 rfl) ?_
  refine g8_13 ha hP 0 (by decide) (cM_0 G _) (v := .ref (G.1 2)) rfl dX8_layRow_1 ?_
  refine lv_iload_n hx hb dX8_layRow_4 rfl (lv_at hl 1 rfl) ?_
  refine lv_iload_n hx hb dX8_layRow_5 rfl (lv_at hl 2 rfl) ?_
  refine xiastN ha hP hS (cM_loc G) 2 (by decide) (fun τ => cM_2 G τ) (ix ro) (ix_nI (by omega)) (ix_lt (by omega) (by omega)) (by decide) dX8_layRow_6 (fun H locs hP hS => ?_)
  refine lv_iconst (v := 0) hx hb dX8_layRow_7 (by decide) ?_
  refine lv_istore_n (lv' := [(3, .int 0), (0, .ref (G.1 0)), (1, .int ro), (2, .int many)]) hx hb dX8_layRow_8 rfl hl (by decide) rfl (fun ls hl => ?_)
  have lp_9 : ∀ (d j : Nat) (τj : Mem) (H : Heap) (locs : List Loc) (ls : Array Slot), j ≤ 40 → 40 - j < d → τj = mG (mU σ 2 (ix ro) many) 1 (40 * ix ro) j (fun _ => 0) → va_P G.2.1 vwCl (wl G 24 (cM G τj)) H → va_S (xA G 24 s.heap.size) s.heap H locs → lv_has ls 4 [(3, .int (nI j)), (0, .ref (G.1 0)), (1, .int ro), (2, .int many)] → W p l e ({ frames := 0, cells := 0, slots := 0, locals := 0 } : Room) s m ([.ref (G.1 0), .int ro, .int many] : List Value).toArray below meth c H locs 0 0 (MQ below (va_Qv (fun u => u = w_lrow σ (ix ro) many) (xB G 24 (cM G)) (xA G 24 s.heap.size)) ([.ref (G.1 0), .int ro, .int many] : List Value).toArray s 0 0 (xA G 24 s.heap.size)) (F0 m 9 ls []) := by
    intro d
    induction d with
    | zero => intro j τj H locs ls hj hd; exact absurd hd (Nat.not_lt_zero _)
    | succ d ih_9 =>
      intro j τj H locs ls hj_j hd_j e_τj hP hS hl
      have h31_j : (nI j).toInt = (j : Int) := nI_toInt (by omega)
      refine lv_iload_n hx hb dX8_layRow_9 rfl (lv_at hl 0 rfl) ?_
      refine lv_bipush (v := 40) hx hb dX8_layRow_10 (by decide) ?_
      refine lv_icmp_ge (tgt := 33) hx hb dX8_layRow_12 (by decide) (fun c_1 => ?_) (fun c_1 => ?_)
      · have t_1 := i_le c_1
        have u_1 := u_le c_1
        obtain rfl : j = 40 := by omega
        exact xvret ha hP hS dX8_layRow_33 (by exact e_τj)
      · have t_1 := i_nle c_1
        have u_1 := u_nle c_1
        have hlt_j : j < 40 := by omega
        refine lv_aload_n hx hb dX8_layRow_15 rfl (lv_at hl 1 rfl) ?_
        refine g8_7 ha hP 0 (by decide) (cM_0 G _) (v := .ref (G.1 1)) rfl dX8_layRow_16 ?_
        refine lv_bipush (v := 40) hx hb dX8_layRow_19 (by decide) ?_
        refine lv_iload_n hx hb dX8_layRow_21 rfl (lv_at hl 2 rfl) ?_
        refine lv_imul hx hb dX8_layRow_22 ?_
        refine lv_iload_n hx hb dX8_layRow_23 rfl (lv_at hl 0 rfl) ?_
        refine lv_iadd hx hb dX8_layRow_24 ?_
        refine lv_iconst (v := 0) hx hb dX8_layRow_25 (by decide) ?_
        refine xiastN ha hP hS (cM_loc G) 1 (by decide) (fun τ => cM_1 G τ) ((40 * (ix ro)) + j) (nadd (nmul (rfl : (40 : Int32) = nI 40) (ix_nI (by omega))) rfl) (by have q_0 := ix_toInt (show (0 : Int) ≤ (ro).toInt by omega); omega) (by decide) dX8_layRow_26 (fun H locs hP hS => ?_)
        refine lv_iinc (v := (nI (j + 1))) (lv' := [(3, .int (nI (j + 1))), (0, .ref (G.1 0)), (1, .int ro), (2, .int many)]) hx hb dX8_layRow_27 hl (k := 0) rfl (nI_1 j) (by decide) rfl (fun ls hl => ?_)
        refine lv_goto (tgt := 9) hx hb dX8_layRow_30 (by decide) ?_
        exact ih_9 (j + 1) (mU τj 1 ((40 * (ix ro)) + j) 0) _ _ _ (by omega) (by omega) (by rw [e_τj]; exact mG_s _ _ _ _ _ rfl) hP hS (lv_sub hl [0, 1, 2, 3] rfl)
  exact lp_9 (40 - 0 + 1) 0 (mU σ 2 (ix ro) many) _ _ _ (by omega) (by omega) (mG_0 _ _ _ _) hP hS (lv_sub hl [0, 1, 2, 3] rfl)
set_option maxHeartbeats 4000000 in
set_option maxRecDepth 100000 in
theorem c_X8_best (G : GT) (l : Launch) (σ : Mem) (ro : Int32) (hpb : PB (pM σ)) : CI G 24 (cM G) l yX8_best ({ frames := 5, cells := 0, slots := 0, locals := 115 } : Room) cX8_best 4 (some .int) [.ref (G.1 0), .int ro] σ (fun (r : Int32) u => r = (n_best σ ro).1 ∧ u = (n_best σ ro).2) := by
  intro sz
  refine xbegin (by decide) (Nat.le_of_ble_eq_true rfl) ?_
  intro p e s m below meth c ls hsz ha hP hl
  subst hsz
  have hx := ha.1
  have hb := ha.2.1
  have hS : va_S (xA G 24 s.heap.size) s.heap s.heap [] := va_S.rf
  have hl : lv_has ls 4 [(0, .ref (G.1 0)), (1, .int ro)] := hl
  have k_m4 : (-4 : Int32).toInt = -4 := by decide
  have k_m1 : (-1 : Int32).toInt = -1 := by decide
  have k_0 : (0 : Int32).toInt = 0 := by decide
  have k_1 : (1 : Int32).toInt = 1 := by decide
  have k_4 : (4 : Int32).toInt = 4 := by decide
  have k_5 : (5 : Int32).toInt = 5 := by decide
  have k_6 : (6 : Int32).toInt = 6 := by decide
  have k_40 : (40 : Int32).toInt = 40 := by decide
  have hPL := PB_pl hpb
  have hPE := PB_pe hpb
  have hp4 := PV_pl hpb (rfl : pM σ = pM σ)
  have hp5 := PV_pe hpb (rfl : pM σ = pM σ)
  obtain ⟨NN, hNN, hNb⟩ : ∃ q, q = (nPl (pM σ) + 1) ^ nPe (pM σ) ∧ q ≤ 3125 := ⟨_, rfl, pw_le (by omega) (by omega)⟩
  refine lv_iload_n hx hb dX8_best_0 rfl (lv_at hl 1 rfl) ?_
  refine xSi ha hP hS (y := yX8_isRow) (As := [.int ro]) (rest := []) rfl (c_X8_isRow G l σ ro ) kw_X8_101 hd_X8_isRow rfl ⟨rfl, rfl⟩ ⟨Nat.le_of_ble_eq_true rfl, Nat.le_of_ble_eq_true rfl⟩ ⟨Nat.zero_le _, Nat.zero_le _⟩ hl.1 (Nat.le_of_ble_eq_true rfl) rfl dX8_best_1 (fun r u H locs hpq hP hS => ?_)
  obtain ⟨hr_, hu_⟩ := hpq
  have hr_ := hr_.symm
  have hu_ := hu_.symm
  subst hr_
  subst hu_
  refine lv_if_ne (tgt := 9) hx hb dX8_best_4 (by decide) (fun c_1 => ?_) (fun c_1 => ?_)
  · have t_1 := b2i_t c_1
    have f_1 := in_t t_1
    refine lv_aload_n hx hb dX8_best_9 rfl (lv_at hl 0 rfl) ?_
    refine g8_163 ha hP 0 (by decide) (cM_0 G _) (v := .int (σ 0 4)) rfl dX8_best_10 ?_
    refine lv_if_ne (tgt := 19) hx hb dX8_best_13 (by decide) (fun c_2 => ?_) (fun c_2 => ?_)
    · have t_2 := i_ne c_2
      refine lv_aload_n hx hb dX8_best_19 rfl (lv_at hl 0 rfl) ?_
      refine lv_iload_n hx hb dX8_best_20 rfl (lv_at hl 1 rfl) ?_
      refine lv_aload_n hx hb dX8_best_21 rfl (lv_at hl 0 rfl) ?_
      refine g8_166 ha hP 0 (by decide) (cM_0 G _) (v := .int (σ 0 5)) rfl dX8_best_22 ?_
      refine xVv ha hP hS (y := yX8_layRow) (As := [.int ro, .int (σ 0 5)]) (rest := []) 0 (by decide) (cM_0 G _) rfl rfl (c_X8_layRow G l σ ro (σ 0 5) (by assumption)) kw_X8_240 hd_X8_layRow rfl ⟨rfl, rfl⟩ ⟨Nat.le_of_ble_eq_true rfl, Nat.le_of_ble_eq_true rfl⟩ ⟨Nat.zero_le _, Nat.zero_le _⟩ hl.1 (Nat.le_of_ble_eq_true rfl) rfl dX8_best_25 (fun u H locs hpq hP hS => ?_)
      have hpq := hpq.symm
      subst hpq
      refine lv_iconst (v := (-1)) hx hb dX8_best_28 (by decide) ?_
      refine lv_istore_n (lv' := [(2, .int (-1)), (0, .ref (G.1 0)), (1, .int ro)]) hx hb dX8_best_29 rfl hl (by decide) rfl (fun ls hl => ?_)
      refine lv_aload_n hx hb dX8_best_30 rfl (lv_at hl 1 rfl) ?_
      refine xVv ha hP hS (y := yX8_layAside) (As := []) (rest := []) 0 (by decide) (cM_0 G _) rfl rfl (c_X8_layAside G l (w_lrow σ (ix ro) (σ 0 5))  ) kw_X8_232 hd_X8_layAside rfl ⟨rfl, rfl⟩ ⟨Nat.le_of_ble_eq_true rfl, Nat.le_of_ble_eq_true rfl⟩ ⟨Nat.zero_le _, Nat.zero_le _⟩ hl.1 (Nat.le_of_ble_eq_true rfl) rfl dX8_best_31 (fun u H locs hpq hP hS => ?_)
      have hpq := hpq.symm
      subst hpq
      refine lv_iconst (v := 0) hx hb dX8_best_34 (by decide) ?_
      refine lv_istore_n (lv' := [(3, .int 0), (2, .int (-1)), (0, .ref (G.1 0)), (1, .int ro)]) hx hb dX8_best_35 rfl hl (by decide) rfl (fun ls hl => ?_)
      have lp_36 : ∀ (d j : Nat) (x2 : Int32) (τj : Mem) (H : Heap) (locs : List Loc) (ls : Array Slot), j ≤ NN → NN - j < d → x2 = (bs (pM σ) (ix ro) (w_aside (w_lrow σ (ix ro) (σ 0 5))) j).1 → τj = (bs (pM σ) (ix ro) (w_aside (w_lrow σ (ix ro) (σ 0 5))) j).2 → (pM τj = pM σ) → va_P G.2.1 vwCl (wl G 24 (cM G τj)) H → va_S (xA G 24 s.heap.size) s.heap H locs → lv_has ls 4 [(3, .int (nI j)), (2, .int x2), (0, .ref (G.1 0)), (1, .int ro)] → W p l e ({ frames := 5, cells := 0, slots := 0, locals := 115 } : Room) s m ([.ref (G.1 0), .int ro] : List Value).toArray below meth c H locs 0 0 (MQ below (va_Qi (fun (r : Int32) u => r = (n_best σ ro).1 ∧ u = (n_best σ ro).2) (xB G 24 (cM G)) (xA G 24 s.heap.size)) ([.ref (G.1 0), .int ro] : List Value).toArray s 0 0 (xA G 24 s.heap.size)) (F0 m 36 ls []) := by
        intro d
        induction d with
        | zero => intro j x2 τj H locs ls hj hd; exact absurd hd (Nat.not_lt_zero _)
        | succ d ih_36 =>
          intro j x2 τj H locs ls hj_j hd_j e_x2 e_τj hPj hP hS hl
          have h31_j : (nI j).toInt = (j : Int) := nI_toInt (by omega)
          have hw4 : τj 0 4 = nI (nPl (pM σ)) := (PV_4 hPj).trans hPL.1
          have hw5 : τj 0 5 = nI (nPe (pM σ)) := (PV_5 hPj).trans hPE.1
          have hpw : b_pow ((τj 0 4) + 1) (ix (τj 0 5)) = nI NN := by rw [hw5, ix_of (by omega), nadd hw4 (rfl : (1 : Int32) = nI 1), b_pow_n, hNN]
          have hpwi : (b_pow ((τj 0 4) + 1) (ix (τj 0 5))).toInt = (NN : Int) := by rw [hpw]; exact nI_toInt (by omega)
          have hw5i : (τj 0 5).toInt = (nPe (pM σ) : Int) := by rw [hw5]; exact nI_toInt (by omega)
          refine lv_iload_n hx hb dX8_best_36 rfl (lv_at hl 0 rfl) ?_
          refine lv_aload_n hx hb dX8_best_37 rfl (lv_at hl 2 rfl) ?_
          refine g8_163 ha hP 0 (by decide) (cM_0 G _) (v := .int (τj 0 4)) rfl dX8_best_38 ?_
          refine lv_iconst (v := 1) hx hb dX8_best_41 (by decide) ?_
          refine lv_iadd hx hb dX8_best_42 ?_
          refine lv_aload_n hx hb dX8_best_43 rfl (lv_at hl 2 rfl) ?_
          refine g8_166 ha hP 0 (by decide) (cM_0 G _) (v := .int (τj 0 5)) rfl dX8_best_44 ?_
          refine xSi ha hP hS (y := yX8_power) (As := [.int ((τj 0 4) + 1), .int (τj 0 5)]) (rest := [.int (nI j)]) rfl (c_X8_power G l τj ((τj 0 4) + 1) (τj 0 5) (by omega)) kw_X8_244 hd_X8_power rfl ⟨rfl, rfl⟩ ⟨Nat.le_of_ble_eq_true rfl, Nat.le_of_ble_eq_true rfl⟩ ⟨Nat.zero_le _, Nat.zero_le _⟩ hl.1 (Nat.le_of_ble_eq_true rfl) rfl dX8_best_47 (fun r u H locs hpq hP hS => ?_)
          obtain ⟨hr_, hu_⟩ := hpq
          have hr_ := hr_.symm
          have hu_ := hu_.symm
          subst hr_
          subst hu_
          refine lv_icmp_ge (tgt := 116) hx hb dX8_best_50 (by decide) (fun c_3 => ?_) (fun c_3 => ?_)
          · have t_3 := i_le c_3
            have u_3 := u_le c_3
            obtain rfl : j = NN := by omega
            refine lv_iload_n hx hb dX8_best_116 rfl (lv_at hl 1 rfl) ?_
            exact xiret ha hP hS dX8_best_117 ⟨by rw [e_x2, hNN]; simp [n_best, t_1, c_2, u_3], (by rw [e_τj, hNN]; simp [n_best, t_1, c_2, u_3])⟩ rfl
          · have t_3 := i_nle c_3
            have u_3 := u_nle c_3
            have hlt_j : j < NN := by omega
            have hix : ix (τj 0 5) = nPe (pM σ) := by rw [hw5]; exact ix_of (by omega)
            refine lv_aload_n hx hb dX8_best_53 rfl (lv_at hl 2 rfl) ?_
            refine lv_iload_n hx hb dX8_best_54 rfl (lv_at hl 0 rfl) ?_
            refine lv_iconst (v := 1) hx hb dX8_best_55 (by decide) ?_
            refine xVi ha hP hS (y := yX8_laySeating) (As := [.int (nI j), .int 1]) (rest := []) 0 (by decide) (cM_0 G _) rfl rfl (c_X8_laySeating_1 G l τj (pM σ) j hpb hPj (by omega)) kw_X8_247 hd_X8_laySeating rfl ⟨rfl, rfl⟩ ⟨Nat.le_of_ble_eq_true rfl, Nat.le_of_ble_eq_true rfl⟩ ⟨Nat.zero_le _, Nat.zero_le _⟩ hl.1 (Nat.le_of_ble_eq_true rfl) rfl dX8_best_56 (fun r u H locs hpq hP hS => ?_)
            obtain ⟨hr_, hu_⟩ := hpq
            have hr_ := hr_.symm
            have hu_ := hu_.symm
            subst hr_
            subst hu_
            refine lv_if_eq (tgt := 110) hx hb dX8_best_59 (by decide) (fun c_4 => ?_) (fun c_4 => ?_)
            · have t_4 := b2i_f c_4
              refine lv_iinc (v := (nI (j + 1))) (lv' := [(3, .int (nI (j + 1))), (2, .int x2), (0, .ref (G.1 0)), (1, .int ro)]) hx hb dX8_best_110 hl (k := 0) rfl (nI_1 j) (by decide) rfl (fun ls hl => ?_)
              refine lv_goto (tgt := 36) hx hb dX8_best_113 (by decide) ?_
              exact ih_36 (j + 1) x2 (w_lay (pM σ) (nPl (pM σ) + 1) j 1 τj (nPe (pM σ))) _ _ _ (by omega) (by omega) (by rw [bs, bs_step, ← e_x2, ← e_τj]; simp [bsT, t_1, c_2, u_3, t_4]) (by rw [bs, bs_step, ← e_x2, ← e_τj]; first | (simp [bsT, hix9, t_1, c_2, u_3, t_4]; done) | simp [bsT, t_1, c_2, u_3, t_4]) ((pM_lay _ _ _ _ _ _).trans hPj) hP hS (lv_sub hl [0, 1, 2, 3] rfl)
            · have t_4 := b2i_t c_4
              refine lv_aload_n hx hb dX8_best_62 rfl (lv_at hl 2 rfl) ?_
              refine lv_aload_n hx hb dX8_best_63 rfl (lv_at hl 2 rfl) ?_
              refine g8_47 ha hP 0 (by decide) (cM_0 G _) (v := .ref (G.1 12)) rfl dX8_best_64 ?_
              refine xVi ha hP hS (y := yX8_highAll) (As := [.ref (G.1 12)]) (rest := []) 0 (by decide) (cM_0 G _) rfl rfl (c_X8_highAll G l (w_lay (pM σ) (nPl (pM σ) + 1) j 1 τj (nPe (pM σ))) (pM σ) 12 hpb ((pM_lay _ _ _ _ _ _).trans hPj) (by unfold oT; omega) (SV_lay1 hpb _ _)) kw_X8_237 hd_X8_highAll rfl ⟨rfl, rfl⟩ ⟨Nat.le_of_ble_eq_true rfl, Nat.le_of_ble_eq_true rfl⟩ ⟨Nat.zero_le _, Nat.zero_le _⟩ hl.1 (Nat.le_of_ble_eq_true rfl) rfl dX8_best_67 (fun r u H locs hpq hP hS => ?_)
              obtain ⟨hr_, hu_⟩ := hpq
              have hr_ := hr_.symm
              have hu_ := hu_.symm
              subst hr_
              subst hu_
              refine lv_iload_n hx hb dX8_best_70 rfl (lv_at hl 1 rfl) ?_
              refine lv_icmp_le (tgt := 110) hx hb dX8_best_71 (by decide) (fun c_5 => ?_) (fun c_5 => ?_)
              · have t_5 := i_le c_5
                have u_5 := u_le c_5
                refine lv_iinc (v := (nI (j + 1))) (lv' := [(3, .int (nI (j + 1))), (2, .int x2), (0, .ref (G.1 0)), (1, .int ro)]) hx hb dX8_best_110 hl (k := 0) rfl (nI_1 j) (by decide) rfl (fun ls hl => ?_)
                refine lv_goto (tgt := 36) hx hb dX8_best_113 (by decide) ?_
                exact ih_36 (j + 1) x2 (w_lay (pM σ) (nPl (pM σ) + 1) j 1 τj (nPe (pM σ))) _ _ _ (by omega) (by omega) (by rw [bs, bs_step, ← e_x2, ← e_τj]; simp [bsT, t_1, c_2, u_3, t_4, u_5]) (by rw [bs, bs_step, ← e_x2, ← e_τj]; first | (simp [bsT, hix9, t_1, c_2, u_3, t_4, u_5]; done) | simp [bsT, t_1, c_2, u_3, t_4, u_5]) ((pM_lay _ _ _ _ _ _).trans hPj) hP hS (lv_sub hl [0, 1, 2, 3] rfl)
              · have t_5 := i_nle c_5
                have u_5 := u_nle c_5
                refine lv_aload_n hx hb dX8_best_74 rfl (lv_at hl 2 rfl) ?_
                refine xVi ha hP hS (y := yX8_failing) (As := []) (rest := []) 0 (by decide) (cM_0 G _) rfl rfl (c_X8_failing G l (w_lay (pM σ) (nPl (pM σ) + 1) j 1 τj (nPe (pM σ))) (pM σ) hpb ((pM_lay _ _ _ _ _ _).trans hPj)) kw_X8_251 hd_X8_failing rfl ⟨rfl, rfl⟩ ⟨Nat.le_of_ble_eq_true rfl, Nat.le_of_ble_eq_true rfl⟩ ⟨Nat.zero_le _, Nat.zero_le _⟩ hl.1 (Nat.le_of_ble_eq_true rfl) rfl dX8_best_75 (fun r u H locs hpq hP hS => ?_)
                obtain ⟨hr_, hu_⟩ := hpq
                have hr_ := hr_.symm
                have hu_ := hu_.symm
                subst hr_
                subst hu_
                refine lv_if_ne (tgt := 110) hx hb dX8_best_78 (by decide) (fun c_6 => ?_) (fun c_6 => ?_)
                · have t_6 := i_ne c_6
                  refine lv_iinc (v := (nI (j + 1))) (lv' := [(3, .int (nI (j + 1))), (2, .int x2), (0, .ref (G.1 0)), (1, .int ro)]) hx hb dX8_best_110 hl (k := 0) rfl (nI_1 j) (by decide) rfl (fun ls hl => ?_)
                  refine lv_goto (tgt := 36) hx hb dX8_best_113 (by decide) ?_
                  exact ih_36 (j + 1) x2 (w_lay (pM σ) (nPl (pM σ) + 1) j 1 τj (nPe (pM σ))) _ _ _ (by omega) (by omega) (by rw [bs, bs_step, ← e_x2, ← e_τj]; simp [bsT, t_1, c_2, u_3, t_4, u_5, c_6]) (by rw [bs, bs_step, ← e_x2, ← e_τj]; first | (simp [bsT, hix9, t_1, c_2, u_3, t_4, u_5, c_6]; done) | simp [bsT, t_1, c_2, u_3, t_4, u_5, c_6]) ((pM_lay _ _ _ _ _ _).trans hPj) hP hS (lv_sub hl [0, 1, 2, 3] rfl)
                · have t_6 := i_eq c_6
                  have hv5 : (w_lay (pM σ) (nPl (pM σ) + 1) j 1 τj (nPe (pM σ))) 0 5 = τj 0 5 := by rw [lay_n _ _ _ _ _ (by decide)]
                  have hix9 : ix ((w_lay (pM σ) (nPl (pM σ) + 1) j 1 τj (nPe (pM σ))) 0 5) = nPe (pM σ) := by rw [hv5]; exact hix
                  have hv5i := i_eq hv5
                  have hro7 := in_t (show a_in ro 6 = true by assumption)
                  have hro8 := ix_toInt (show 0 ≤ ro.toInt by omega)
                  refine lv_aload_n hx hb dX8_best_81 rfl (lv_at hl 2 rfl) ?_
                  refine lv_aload_n hx hb dX8_best_82 rfl (lv_at hl 2 rfl) ?_
                  refine g8_47 ha hP 0 (by decide) (cM_0 G _) (v := .ref (G.1 12)) rfl dX8_best_83 ?_
                  refine xVi ha hP hS (y := yX8_highAll) (As := [.ref (G.1 12)]) (rest := []) 0 (by decide) (cM_0 G _) rfl rfl (c_X8_highAll G l (w_lay (pM σ) (nPl (pM σ) + 1) j 1 τj (nPe (pM σ))) (pM σ) 12 hpb ((pM_lay _ _ _ _ _ _).trans hPj) (by unfold oT; omega) (SV_lay1 hpb _ _)) kw_X8_237 hd_X8_highAll rfl ⟨rfl, rfl⟩ ⟨Nat.le_of_ble_eq_true rfl, Nat.le_of_ble_eq_true rfl⟩ ⟨Nat.zero_le _, Nat.zero_le _⟩ hl.1 (Nat.le_of_ble_eq_true rfl) rfl dX8_best_86 (fun r u H locs hpq hP hS => ?_)
                  obtain ⟨hr_, hu_⟩ := hpq
                  have hr_ := hr_.symm
                  have hu_ := hu_.symm
                  subst hr_
                  subst hu_
                  refine lv_istore_n (lv' := [(2, .int (a_highAll (pM σ) (sM (w_lay (pM σ) (nPl (pM σ) + 1) j 1 τj (nPe (pM σ))) 12))), (3, .int (nI j)), (0, .ref (G.1 0)), (1, .int ro)]) hx hb dX8_best_89 rfl hl (by decide) rfl (fun ls hl => ?_)
                  refine lv_aload_n hx hb dX8_best_90 rfl (lv_at hl 2 rfl) ?_
                  refine g8_47 ha hP 0 (by decide) (cM_0 G _) (v := .ref (G.1 12)) rfl dX8_best_91 ?_
                  refine lv_iconst (v := 5) hx hb dX8_best_94 (by decide) ?_
                  refine lv_aload_n hx hb dX8_best_95 rfl (lv_at hl 2 rfl) ?_
                  refine g8_7 ha hP 0 (by decide) (cM_0 G _) (v := .ref (G.1 1)) rfl dX8_best_96 ?_
                  refine lv_bipush (v := 40) hx hb dX8_best_99 (by decide) ?_
                  refine lv_iload_n hx hb dX8_best_101 rfl (lv_at hl 3 rfl) ?_
                  refine lv_imul hx hb dX8_best_102 ?_
                  refine lv_aload_n hx hb dX8_best_103 rfl (lv_at hl 2 rfl) ?_
                  refine g8_166 ha hP 0 (by decide) (cM_0 G _) (v := .int ((w_lay (pM σ) (nPl (pM σ) + 1) j 1 τj (nPe (pM σ))) 0 5)) rfl dX8_best_104 ?_
                  refine xSv ha hP hS (y := yX8_copies) (As := [.ref (G.1 12), .int 5, .ref (G.1 1), .int (40 * ro), .int ((w_lay (pM σ) (nPl (pM σ) + 1) j 1 τj (nPe (pM σ))) 0 5)]) (rest := []) rfl (c_X8_copies G l (w_lay (pM σ) (nPl (pM σ) + 1) j 1 τj (nPe (pM σ))) 12 1 12 240 5 (40 * (ix ro)) (ix ((w_lay (pM σ) (nPl (pM σ) + 1) j 1 τj (nPe (pM σ))) 0 5)) 5 (40 * ro) ((w_lay (pM σ) (nPl (pM σ) + 1) j 1 τj (nPe (pM σ))) 0 5) (by decide) (by decide) (by decide) (fun τ => cM_12 G τ) (fun τ => cM_1 G τ) (by decide) (by decide) (rfl : (5 : Int32) = nI 5) (nmul (rfl : (40 : Int32) = nI 40) (ix_nI (by omega))) (ix_nI (by omega)) (by omega) (by have q_0 := ix_toInt (show (0 : Int) ≤ (ro).toInt by omega); omega)) kw_X8_202 hd_X8_copies rfl ⟨rfl, rfl⟩ ⟨Nat.le_of_ble_eq_true rfl, Nat.le_of_ble_eq_true rfl⟩ ⟨Nat.zero_le _, Nat.zero_le _⟩ hl.1 (Nat.le_of_ble_eq_true rfl) rfl dX8_best_107 (fun u H locs hpq hP hS => ?_)
                  have hpq := hpq.symm
                  subst hpq
                  refine lv_iinc (v := (nI (j + 1))) (lv' := [(3, .int (nI (j + 1))), (2, .int (a_highAll (pM σ) (sM (w_lay (pM σ) (nPl (pM σ) + 1) j 1 τj (nPe (pM σ))) 12))), (0, .ref (G.1 0)), (1, .int ro)]) hx hb dX8_best_110 hl (k := 1) rfl (nI_1 j) (by decide) rfl (fun ls hl => ?_)
                  refine lv_goto (tgt := 36) hx hb dX8_best_113 (by decide) ?_
                  exact ih_36 (j + 1) (a_highAll (pM σ) (sM (w_lay (pM σ) (nPl (pM σ) + 1) j 1 τj (nPe (pM σ))) 12)) (mG (w_lay (pM σ) (nPl (pM σ) + 1) j 1 τj (nPe (pM σ))) 1 (40 * (ix ro)) (ix ((w_lay (pM σ) (nPl (pM σ) + 1) j 1 τj (nPe (pM σ))) 0 5)) (fun z => (w_lay (pM σ) (nPl (pM σ) + 1) j 1 τj (nPe (pM σ))) 12 (5 + z))) _ _ _ (by omega) (by omega) (by rw [bs, bs_step, ← e_x2, ← e_τj]; simp [bsT, t_1, c_2, u_3, t_4, u_5, c_6]) (by rw [bs, bs_step, ← e_x2, ← e_τj]; first | (simp [bsT, hix9, t_1, c_2, u_3, t_4, u_5, c_6]; done) | simp [bsT, t_1, c_2, u_3, t_4, u_5, c_6]) ((pM_mG _ _ _ _ (by decide)).trans ((pM_lay _ _ _ _ _ _).trans hPj)) hP hS (lv_sub hl [0, 1, 2, 3] rfl)
      exact lp_36 (NN - 0 + 1) 0 (-1) (w_aside (w_lrow σ (ix ro) (σ 0 5))) _ _ _ (by omega) (by omega) rfl rfl ((pM_aside _).trans ((pM_lrow _ _ _).trans rfl)) hP hS (lv_sub hl [0, 1, 2, 3] rfl)
    · have t_2 := i_eq c_2
      refine lv_bipush (v := (-4)) hx hb dX8_best_16 (by decide) ?_
      exact xiret ha hP hS dX8_best_18 ⟨by simp [n_best, t_1, c_2, i_leN, -Int32.not_lt], (by simp [n_best, t_1, c_2, i_leN, -Int32.not_lt])⟩ rfl
  · have t_1 := b2i_f c_1
    refine lv_iconst (v := (-1)) hx hb dX8_best_7 (by decide) ?_
    exact xiret ha hP hS dX8_best_8 ⟨by simp [n_best, t_1, i_leN, -Int32.not_lt], (by simp [n_best, t_1, i_leN, -Int32.not_lt])⟩ rfl
set_option maxHeartbeats 4000000 in
set_option maxRecDepth 100000 in
theorem c_X8_fewest (G : GT) (l : Launch) (σ : Mem)  (hpb : PB (pM σ)) : CI G 24 (cM G) l yX8_fewest ({ frames := 5, cells := 0, slots := 0, locals := 115 } : Room) cX8_fewest 6 (some .int) [.ref (G.1 0)] σ (fun (r : Int32) u => r = (n_few σ ).1 ∧ u = (n_few σ ).2) := by
  intro sz
  refine xbegin (by decide) (Nat.le_of_ble_eq_true rfl) ?_
  intro p e s m below meth c ls hsz ha hP hl
  subst hsz
  have hx := ha.1
  have hb := ha.2.1
  have hS : va_S (xA G 24 s.heap.size) s.heap s.heap [] := va_S.rf
  have hl : lv_has ls 6 [(0, .ref (G.1 0))] := hl
  have k_m9 : (-9 : Int32).toInt = -9 := by decide
  have k_m4 : (-4 : Int32).toInt = -4 := by decide
  have k_0 : (0 : Int32).toInt = 0 := by decide
  have k_1 : (1 : Int32).toInt = 1 := by decide
  have k_4 : (4 : Int32).toInt = 4 := by decide
  have k_5 : (5 : Int32).toInt = 5 := by decide
  have k_6 : (6 : Int32).toInt = 6 := by decide
  have k_1000000 : (1000000 : Int32).toInt = 1000000 := by decide
  have hPL := PB_pl hpb
  have hPE := PB_pe hpb
  have hp4 := PV_pl hpb (rfl : pM σ = pM σ)
  have hp5 := PV_pe hpb (rfl : pM σ = pM σ)
  obtain ⟨NN, hNN, hNb⟩ : ∃ q, q = nPl (pM σ) ^ nPe (pM σ) ∧ q ≤ 3125 := ⟨_, rfl, pw_le (by omega) (by omega)⟩
  refine lv_aload_n hx hb dX8_fewest_0 rfl (lv_at hl 0 rfl) ?_
  refine g8_163 ha hP 0 (by decide) (cM_0 G _) (v := .int (σ 0 4)) rfl dX8_fewest_1 ?_
  refine lv_if_ne (tgt := 10) hx hb dX8_fewest_4 (by decide) (fun c_1 => ?_) (fun c_1 => ?_)
  · have t_1 := i_ne c_1
    have hnz : 0 < nPl (pM σ) := by omega
    refine lv_ldc (v := 1000000) hx hb ha.2.2.2.1 (ha.2.2.2.2.1 _ (tb_in (w := .constant RX8 254 1000000) (by decide +kernel))) dX8_fewest_10 ?_
    refine lv_istore_n (lv' := [(1, .int 1000000), (0, .ref (G.1 0))]) hx hb dX8_fewest_12 rfl hl (by decide) rfl (fun ls hl => ?_)
    refine lv_iconst (v := 0) hx hb dX8_fewest_13 (by decide) ?_
    refine lv_istore_n (lv' := [(2, .int 0), (1, .int 1000000), (0, .ref (G.1 0))]) hx hb dX8_fewest_14 rfl hl (by decide) rfl (fun ls hl => ?_)
    refine lv_aload_n hx hb dX8_fewest_15 rfl (lv_at hl 2 rfl) ?_
    refine xVv ha hP hS (y := yX8_layAside) (As := []) (rest := []) 0 (by decide) (cM_0 G _) rfl rfl (c_X8_layAside G l σ  ) kw_X8_232 hd_X8_layAside rfl ⟨rfl, rfl⟩ ⟨Nat.le_of_ble_eq_true rfl, Nat.le_of_ble_eq_true rfl⟩ ⟨Nat.zero_le _, Nat.zero_le _⟩ hl.1 (Nat.le_of_ble_eq_true rfl) rfl dX8_fewest_16 (fun u H locs hpq hP hS => ?_)
    have hpq := hpq.symm
    subst hpq
    refine lv_iconst (v := 0) hx hb dX8_fewest_19 (by decide) ?_
    refine lv_istore_n (lv' := [(3, .int 0), (2, .int 0), (1, .int 1000000), (0, .ref (G.1 0))]) hx hb dX8_fewest_20 rfl hl (by decide) rfl (fun ls hl => ?_)
    have lp_21 : ∀ (d j : Nat) (x1 : Int32) (x2 : Int32) (τj : Mem) (H : Heap) (locs : List Loc) (ls : Array Slot), j ≤ NN → NN - j < d → x1 = (fw (pM σ) (w_aside σ) j).1 → x2 = (fw (pM σ) (w_aside σ) j).2.1 → τj = (fw (pM σ) (w_aside σ) j).2.2 → (pM τj = pM σ) → va_P G.2.1 vwCl (wl G 24 (cM G τj)) H → va_S (xA G 24 s.heap.size) s.heap H locs → lv_has ls 6 [(3, .int (nI j)), (2, .int x2), (1, .int x1), (0, .ref (G.1 0))] → W p l e ({ frames := 5, cells := 0, slots := 0, locals := 115 } : Room) s m ([.ref (G.1 0)] : List Value).toArray below meth c H locs 0 0 (MQ below (va_Qi (fun (r : Int32) u => r = (n_few σ ).1 ∧ u = (n_few σ ).2) (xB G 24 (cM G)) (xA G 24 s.heap.size)) ([.ref (G.1 0)] : List Value).toArray s 0 0 (xA G 24 s.heap.size)) (F0 m 21 ls []) := by
      intro d
      induction d with
      | zero => intro j x1 x2 τj H locs ls hj hd; exact absurd hd (Nat.not_lt_zero _)
      | succ d ih_21 =>
        intro j x1 x2 τj H locs ls hj_j hd_j e_x1 e_x2 e_τj hPj hP hS hl
        have h31_j : (nI j).toInt = (j : Int) := nI_toInt (by omega)
        have hw4 : τj 0 4 = nI (nPl (pM σ)) := (PV_4 hPj).trans hPL.1
        have hw5 : τj 0 5 = nI (nPe (pM σ)) := (PV_5 hPj).trans hPE.1
        have hpw : b_pow (τj 0 4) (ix (τj 0 5)) = nI NN := by rw [hw5, ix_of (by omega), hw4, b_pow_n, hNN]
        have hpwi : (b_pow (τj 0 4) (ix (τj 0 5))).toInt = (NN : Int) := by rw [hpw]; exact nI_toInt (by omega)
        have hw5i : (τj 0 5).toInt = (nPe (pM σ) : Int) := by rw [hw5]; exact nI_toInt (by omega)
        refine lv_iload_n hx hb dX8_fewest_21 rfl (lv_at hl 0 rfl) ?_
        refine lv_aload_n hx hb dX8_fewest_22 rfl (lv_at hl 3 rfl) ?_
        refine g8_163 ha hP 0 (by decide) (cM_0 G _) (v := .int (τj 0 4)) rfl dX8_fewest_23 ?_
        refine lv_aload_n hx hb dX8_fewest_26 rfl (lv_at hl 3 rfl) ?_
        refine g8_166 ha hP 0 (by decide) (cM_0 G _) (v := .int (τj 0 5)) rfl dX8_fewest_27 ?_
        refine xSi ha hP hS (y := yX8_power) (As := [.int (τj 0 4), .int (τj 0 5)]) (rest := [.int (nI j)]) rfl (c_X8_power G l τj (τj 0 4) (τj 0 5) (by omega)) kw_X8_244 hd_X8_power rfl ⟨rfl, rfl⟩ ⟨Nat.le_of_ble_eq_true rfl, Nat.le_of_ble_eq_true rfl⟩ ⟨Nat.zero_le _, Nat.zero_le _⟩ hl.1 (Nat.le_of_ble_eq_true rfl) rfl dX8_fewest_30 (fun r u H locs hpq hP hS => ?_)
        obtain ⟨hr_, hu_⟩ := hpq
        have hr_ := hr_.symm
        have hu_ := hu_.symm
        subst hr_
        subst hu_
        refine lv_icmp_ge (tgt := 153) hx hb dX8_fewest_33 (by decide) (fun c_2 => ?_) (fun c_2 => ?_)
        · have t_2 := i_le c_2
          have u_2 := u_le c_2
          obtain rfl : j = NN := by omega
          refine lv_iload_n hx hb dX8_fewest_153 rfl (lv_at hl 2 rfl) ?_
          refine lv_ldc (v := 1000000) hx hb ha.2.2.2.1 (ha.2.2.2.2.1 _ (tb_in (w := .constant RX8 254 1000000) (by decide +kernel))) dX8_fewest_154 ?_
          refine lv_icmp_ne (tgt := 164) hx hb dX8_fewest_156 (by decide) (fun c_3 => ?_) (fun c_3 => ?_)
          · have t_3 := i_ne c_3
            refine lv_aload_n hx hb dX8_fewest_164 rfl (lv_at hl 3 rfl) ?_
            refine lv_iload_n hx hb dX8_fewest_165 rfl (lv_at hl 2 rfl) ?_
            refine lv_iload_n hx hb dX8_fewest_166 rfl (lv_at hl 1 rfl) ?_
            refine xVi ha hP hS (y := yX8_answer) (As := [.int x1, .int x2]) (rest := []) 0 (by decide) (cM_0 G _) rfl rfl (c_X8_answer G l τj x1 x2 ) kw_X8_229 hd_X8_answer rfl ⟨rfl, rfl⟩ ⟨Nat.le_of_ble_eq_true rfl, Nat.le_of_ble_eq_true rfl⟩ ⟨Nat.zero_le _, Nat.zero_le _⟩ hl.1 (Nat.le_of_ble_eq_true rfl) rfl dX8_fewest_167 (fun r u H locs hpq hP hS => ?_)
            obtain ⟨hr_, hu_⟩ := hpq
            have hr_ := hr_.symm
            have hu_ := hu_.symm
            subst hr_
            subst hu_
            exact xiret ha hP hS dX8_fewest_170 ⟨by first | (rw [n_few, if_neg (by assumption), ← hNN, ← e_x1, if_pos (by assumption)]; done) | (rw [n_few, if_neg (by assumption), ← hNN, ← e_x1, if_neg (by assumption)]; done), (by first | (rw [n_few, if_neg (by assumption), ← hNN, ← e_x1, if_pos (by assumption)]; exact e_τj) | (rw [n_few, if_neg (by assumption), ← hNN, ← e_x1, if_neg (by assumption), ← e_τj, ← e_x2]; done))⟩ rfl
          · have t_3 := i_eq c_3
            refine lv_bipush (v := (-9)) hx hb dX8_fewest_159 (by decide) ?_
            refine lv_goto (tgt := 170) hx hb dX8_fewest_161 (by decide) ?_
            exact xiret ha hP hS dX8_fewest_170 ⟨by first | (rw [n_few, if_neg (by assumption), ← hNN, ← e_x1, if_pos (by assumption)]; done) | (rw [n_few, if_neg (by assumption), ← hNN, ← e_x1, if_neg (by assumption)]; done), (by first | (rw [n_few, if_neg (by assumption), ← hNN, ← e_x1, if_pos (by assumption)]; exact e_τj) | (rw [n_few, if_neg (by assumption), ← hNN, ← e_x1, if_neg (by assumption), ← e_τj, ← e_x2]; done))⟩ rfl
        · have t_2 := i_nle c_2
          have u_2 := u_nle c_2
          have hlt_j : j < NN := by omega
          refine lv_aload_n hx hb dX8_fewest_36 rfl (lv_at hl 3 rfl) ?_
          refine lv_iload_n hx hb dX8_fewest_37 rfl (lv_at hl 0 rfl) ?_
          refine lv_iconst (v := 0) hx hb dX8_fewest_38 (by decide) ?_
          refine xVi ha hP hS (y := yX8_laySeating) (As := [.int (nI j), .int 0]) (rest := []) 0 (by decide) (cM_0 G _) rfl rfl (c_X8_laySeating_0 G l τj (pM σ) j hpb hPj (by omega) hnz) kw_X8_247 hd_X8_laySeating rfl ⟨rfl, rfl⟩ ⟨Nat.le_of_ble_eq_true rfl, Nat.le_of_ble_eq_true rfl⟩ ⟨Nat.zero_le _, Nat.zero_le _⟩ hl.1 (Nat.le_of_ble_eq_true rfl) rfl dX8_fewest_39 (fun r u H locs hpq hP hS => ?_)
          obtain ⟨hr_, hu_⟩ := hpq
          have hr_ := hr_.symm
          have hu_ := hu_.symm
          subst hr_
          subst hu_
          refine lv_if_eq (tgt := 147) hx hb dX8_fewest_42 (by decide) (fun c_4 => ?_) (fun c_4 => ?_)
          · have t_4 := b2i_f c_4
            refine lv_iinc (v := (nI (j + 1))) (lv' := [(3, .int (nI (j + 1))), (2, .int x2), (1, .int x1), (0, .ref (G.1 0))]) hx hb dX8_fewest_147 hl (k := 0) rfl (nI_1 j) (by decide) rfl (fun ls hl => ?_)
            refine lv_goto (tgt := 21) hx hb dX8_fewest_150 (by decide) ?_
            exact ih_21 (j + 1) x1 x2 (w_lay (pM σ) (nPl (pM σ)) j 0 τj (nPe (pM σ))) _ _ _ (by omega) (by omega) (by rw [fw, fw_step, ← e_x1, ← e_x2, ← e_τj]; first | (simp [fwT, fw_bet, hfs, c_1, u_2, t_4, -Int32.not_lt]; done) | simp [fwT, fw_bet, c_1, u_2, t_4, -Int32.not_lt]) (by rw [fw, fw_step, ← e_x1, ← e_x2, ← e_τj]; first | (simp [fwT, fw_bet, hfs, c_1, u_2, t_4, -Int32.not_lt]; done) | simp [fwT, fw_bet, c_1, u_2, t_4, -Int32.not_lt]) (by rw [fw, fw_step, ← e_x1, ← e_x2, ← e_τj]; first | (simp [fwT, fw_bet, hfs, c_1, u_2, t_4, -Int32.not_lt]; done) | simp [fwT, fw_bet, c_1, u_2, t_4, -Int32.not_lt]) ((pM_lay _ _ _ _ _ _).trans hPj) hP hS (lv_sub hl [0, 1, 2, 3] rfl)
          · have t_4 := b2i_t c_4
            refine lv_aload_n hx hb dX8_fewest_45 rfl (lv_at hl 3 rfl) ?_
            refine xVi ha hP hS (y := yX8_failing) (As := []) (rest := []) 0 (by decide) (cM_0 G _) rfl rfl (c_X8_failing G l (w_lay (pM σ) (nPl (pM σ)) j 0 τj (nPe (pM σ))) (pM σ) hpb ((pM_lay _ _ _ _ _ _).trans hPj)) kw_X8_251 hd_X8_failing rfl ⟨rfl, rfl⟩ ⟨Nat.le_of_ble_eq_true rfl, Nat.le_of_ble_eq_true rfl⟩ ⟨Nat.zero_le _, Nat.zero_le _⟩ hl.1 (Nat.le_of_ble_eq_true rfl) rfl dX8_fewest_46 (fun r u H locs hpq hP hS => ?_)
            obtain ⟨hr_, hu_⟩ := hpq
            have hr_ := hr_.symm
            have hu_ := hu_.symm
            subst hr_
            subst hu_
            refine lv_if_ne (tgt := 147) hx hb dX8_fewest_49 (by decide) (fun c_5 => ?_) (fun c_5 => ?_)
            · have t_5 := i_ne c_5
              refine lv_iinc (v := (nI (j + 1))) (lv' := [(3, .int (nI (j + 1))), (2, .int x2), (1, .int x1), (0, .ref (G.1 0))]) hx hb dX8_fewest_147 hl (k := 0) rfl (nI_1 j) (by decide) rfl (fun ls hl => ?_)
              refine lv_goto (tgt := 21) hx hb dX8_fewest_150 (by decide) ?_
              exact ih_21 (j + 1) x1 x2 (w_lay (pM σ) (nPl (pM σ)) j 0 τj (nPe (pM σ))) _ _ _ (by omega) (by omega) (by rw [fw, fw_step, ← e_x1, ← e_x2, ← e_τj]; first | (simp [fwT, fw_bet, hfs, c_1, u_2, t_4, c_5, -Int32.not_lt]; done) | simp [fwT, fw_bet, c_1, u_2, t_4, c_5, -Int32.not_lt]) (by rw [fw, fw_step, ← e_x1, ← e_x2, ← e_τj]; first | (simp [fwT, fw_bet, hfs, c_1, u_2, t_4, c_5, -Int32.not_lt]; done) | simp [fwT, fw_bet, c_1, u_2, t_4, c_5, -Int32.not_lt]) (by rw [fw, fw_step, ← e_x1, ← e_x2, ← e_τj]; first | (simp [fwT, fw_bet, hfs, c_1, u_2, t_4, c_5, -Int32.not_lt]; done) | simp [fwT, fw_bet, c_1, u_2, t_4, c_5, -Int32.not_lt]) ((pM_lay _ _ _ _ _ _).trans hPj) hP hS (lv_sub hl [0, 1, 2, 3] rfl)
            · have t_5 := i_eq c_5
              have hv5 : (w_lay (pM σ) (nPl (pM σ)) j 0 τj (nPe (pM σ))) 0 5 = τj 0 5 := by rw [lay_n _ _ _ _ _ (by decide)]
              have hv5i := i_eq hv5
              refine lv_iconst (v := 0) hx hb dX8_fewest_52 (by decide) ?_
              refine lv_istore (lv' := [(4, .int 0), (3, .int (nI j)), (2, .int x2), (1, .int x1), (0, .ref (G.1 0))]) hx hb dX8_fewest_53 hl (by decide) rfl (fun ls hl => ?_)
              refine lv_iconst (v := 0) hx hb dX8_fewest_55 (by decide) ?_
              refine lv_istore (lv' := [(5, .int 0), (4, .int 0), (3, .int (nI j)), (2, .int x2), (1, .int x1), (0, .ref (G.1 0))]) hx hb dX8_fewest_56 hl (by decide) rfl (fun ls hl => ?_)
              have lp_58 : ∀ (d j1 : Nat) (x4 : Int32) (H : Heap) (locs : List Loc) (ls : Array Slot), j1 ≤ (nPe (pM σ)) → (nPe (pM σ)) - j1 < d → x4 = fwset (fwT (pM σ) j τj) j1 → va_P G.2.1 vwCl (wl G 24 (cM G (w_lay (pM σ) (nPl (pM σ)) j 0 τj (nPe (pM σ))))) H → va_S (xA G 24 s.heap.size) s.heap H locs → lv_has ls 6 [(5, .int (nI j1)), (4, .int x4), (3, .int (nI j)), (2, .int x2), (1, .int x1), (0, .ref (G.1 0))] → W p l e ({ frames := 5, cells := 0, slots := 0, locals := 115 } : Room) s m ([.ref (G.1 0)] : List Value).toArray below meth c H locs 0 0 (MQ below (va_Qi (fun (r : Int32) u => r = (n_few σ ).1 ∧ u = (n_few σ ).2) (xB G 24 (cM G)) (xA G 24 s.heap.size)) ([.ref (G.1 0)] : List Value).toArray s 0 0 (xA G 24 s.heap.size)) (F0 m 58 ls []) := by
                intro d
                induction d with
                | zero => intro j1 x4 H locs ls hj hd; exact absurd hd (Nat.not_lt_zero _)
                | succ d ih_58 =>
                  intro j1 x4 H locs ls hj_j1 hd_j1 e_x4 hP hS hl
                  have h31_j1 : (nI j1).toInt = (j1 : Int) := nI_toInt (by omega)
                  refine lv_iload hx hb dX8_fewest_58 (lv_at hl 0 rfl) ?_
                  refine lv_aload_n hx hb dX8_fewest_60 rfl (lv_at hl 5 rfl) ?_
                  refine g8_166 ha hP 0 (by decide) (cM_0 G _) (v := .int ((w_lay (pM σ) (nPl (pM σ)) j 0 τj (nPe (pM σ))) 0 5)) rfl dX8_fewest_61 ?_
                  refine lv_icmp_ge (tgt := 89) hx hb dX8_fewest_64 (by decide) (fun c_6 => ?_) (fun c_6 => ?_)
                  · have t_6 := i_le c_6
                    have u_6 := u_le c_6
                    obtain rfl : j1 = (nPe (pM σ)) := by omega
                    have hfs : fwset (w_lay (pM σ) (nPl (pM σ)) j 0 τj (nPe (pM σ))) (nPe (pM σ)) = x4 := e_x4.symm
                    have hclr : b_clr 33 x4 = true := by rw [e_x4]; exact clr_fw hpb hnz _ _
                    refine lv_iload hx hb dX8_fewest_89 (lv_at hl 1 rfl) ?_
                    refine xSi ha hP hS (y := yX8_bits) (As := [.int x4]) (rest := []) rfl (c_X8_bits G l (w_lay (pM σ) (nPl (pM σ)) j 0 τj (nPe (pM σ))) x4 hclr) kw_X8_255 hd_X8_bits rfl ⟨rfl, rfl⟩ ⟨Nat.le_of_ble_eq_true rfl, Nat.le_of_ble_eq_true rfl⟩ ⟨Nat.zero_le _, Nat.zero_le _⟩ hl.1 (Nat.le_of_ble_eq_true rfl) rfl dX8_fewest_91 (fun r u H locs hpq hP hS => ?_)
                    obtain ⟨hr_, hu_⟩ := hpq
                    have hr_ := hr_.symm
                    have hu_ := hu_.symm
                    subst hr_
                    subst hu_
                    refine lv_iload_n hx hb dX8_fewest_94 rfl (lv_at hl 4 rfl) ?_
                    refine lv_icmp_lt (tgt := 113) hx hb dX8_fewest_95 (by decide) (fun c_7 => ?_) (fun c_7 => ?_)
                    · have t_7 := i_lt c_7
                      refine lv_iconst (v := 1) hx hb dX8_fewest_113 (by decide) ?_
                      refine lv_goto (tgt := 118) hx hb dX8_fewest_114 (by decide) ?_
                      refine lv_istore (lv' := [(5, .int 1), (4, .int x4), (3, .int (nI j)), (2, .int x2), (1, .int x1), (0, .ref (G.1 0))]) hx hb dX8_fewest_118 hl (by decide) rfl (fun ls hl => ?_)
                      refine lv_iload hx hb dX8_fewest_120 (lv_at hl 0 rfl) ?_
                      refine lv_if_eq (tgt := 133) hx hb dX8_fewest_122 (by decide) (fun c_8 => ?_) (fun c_8 => ?_)
                      · have t_8 := i_eq c_8
                        exact absurd c_8 (by decide)
                      · have t_8 := i_ne c_8
                        refine lv_iload hx hb dX8_fewest_125 (lv_at hl 1 rfl) ?_
                        refine xSi ha hP hS (y := yX8_bits) (As := [.int x4]) (rest := []) rfl (c_X8_bits G l (w_lay (pM σ) (nPl (pM σ)) j 0 τj (nPe (pM σ))) x4 hclr) kw_X8_255 hd_X8_bits rfl ⟨rfl, rfl⟩ ⟨Nat.le_of_ble_eq_true rfl, Nat.le_of_ble_eq_true rfl⟩ ⟨Nat.zero_le _, Nat.zero_le _⟩ hl.1 (Nat.le_of_ble_eq_true rfl) rfl dX8_fewest_127 (fun r u H locs hpq hP hS => ?_)
                        obtain ⟨hr_, hu_⟩ := hpq
                        have hr_ := hr_.symm
                        have hu_ := hu_.symm
                        subst hr_
                        subst hu_
                        refine lv_goto (tgt := 134) hx hb dX8_fewest_130 (by decide) ?_
                        refine lv_istore_n (lv' := [(1, .int (b_cnt 33 x4)), (5, .int 1), (4, .int x4), (3, .int (nI j)), (2, .int x2), (0, .ref (G.1 0))]) hx hb dX8_fewest_134 rfl hl (by decide) rfl (fun ls hl => ?_)
                        refine lv_iload hx hb dX8_fewest_135 (lv_at hl 1 rfl) ?_
                        refine lv_if_eq (tgt := 145) hx hb dX8_fewest_137 (by decide) (fun c_9 => ?_) (fun c_9 => ?_)
                        · have t_9 := i_eq c_9
                          exact absurd c_9 (by decide)
                        · have t_9 := i_ne c_9
                          refine lv_iload hx hb dX8_fewest_140 (lv_at hl 2 rfl) ?_
                          refine lv_goto (tgt := 146) hx hb dX8_fewest_142 (by decide) ?_
                          refine lv_istore_n (lv' := [(2, .int x4), (1, .int (b_cnt 33 x4)), (5, .int 1), (4, .int x4), (3, .int (nI j)), (0, .ref (G.1 0))]) hx hb dX8_fewest_146 rfl hl (by decide) rfl (fun ls hl => ?_)
                          refine lv_iinc (v := (nI (j + 1))) (lv' := [(3, .int (nI (j + 1))), (2, .int x4), (1, .int (b_cnt 33 x4)), (5, .int 1), (4, .int x4), (0, .ref (G.1 0))]) hx hb dX8_fewest_147 hl (k := 4) rfl (nI_1 j) (by decide) rfl (fun ls hl => ?_)
                          refine lv_goto (tgt := 21) hx hb dX8_fewest_150 (by decide) ?_
                          exact ih_21 (j + 1) (b_cnt 33 x4) x4 (w_lay (pM σ) (nPl (pM σ)) j 0 τj (nPe (pM σ))) _ _ _ (by omega) (by omega) (by rw [fw, fw_step, ← e_x1, ← e_x2, ← e_τj]; first | (simp [fwT, fw_bet, hfs, c_1, u_2, t_4, c_5, u_6, c_7, -Int32.not_lt]; done) | simp [fwT, fw_bet, c_1, u_2, t_4, c_5, u_6, c_7, -Int32.not_lt]) (by rw [fw, fw_step, ← e_x1, ← e_x2, ← e_τj]; first | (simp [fwT, fw_bet, hfs, c_1, u_2, t_4, c_5, u_6, c_7, -Int32.not_lt]; done) | simp [fwT, fw_bet, c_1, u_2, t_4, c_5, u_6, c_7, -Int32.not_lt]) (by rw [fw, fw_step, ← e_x1, ← e_x2, ← e_τj]; first | (simp [fwT, fw_bet, hfs, c_1, u_2, t_4, c_5, u_6, c_7, -Int32.not_lt]; done) | simp [fwT, fw_bet, c_1, u_2, t_4, c_5, u_6, c_7, -Int32.not_lt]) ((pM_lay _ _ _ _ _ _).trans hPj) hP hS (lv_sub hl [0, 1, 2, 5] rfl)
                    · have t_7 := i_nlt c_7
                      refine lv_iload hx hb dX8_fewest_98 (lv_at hl 1 rfl) ?_
                      refine xSi ha hP hS (y := yX8_bits) (As := [.int x4]) (rest := []) rfl (c_X8_bits G l (w_lay (pM σ) (nPl (pM σ)) j 0 τj (nPe (pM σ))) x4 hclr) kw_X8_255 hd_X8_bits rfl ⟨rfl, rfl⟩ ⟨Nat.le_of_ble_eq_true rfl, Nat.le_of_ble_eq_true rfl⟩ ⟨Nat.zero_le _, Nat.zero_le _⟩ hl.1 (Nat.le_of_ble_eq_true rfl) rfl dX8_fewest_100 (fun r u H locs hpq hP hS => ?_)
                      obtain ⟨hr_, hu_⟩ := hpq
                      have hr_ := hr_.symm
                      have hu_ := hu_.symm
                      subst hr_
                      subst hu_
                      refine lv_iload_n hx hb dX8_fewest_103 rfl (lv_at hl 4 rfl) ?_
                      refine lv_icmp_ne (tgt := 117) hx hb dX8_fewest_104 (by decide) (fun c_10 => ?_) (fun c_10 => ?_)
                      · have t_10 := i_ne c_10
                        refine lv_iconst (v := 0) hx hb dX8_fewest_117 (by decide) ?_
                        refine lv_istore (lv' := [(5, .int 0), (4, .int x4), (3, .int (nI j)), (2, .int x2), (1, .int x1), (0, .ref (G.1 0))]) hx hb dX8_fewest_118 hl (by decide) rfl (fun ls hl => ?_)
                        refine lv_iload hx hb dX8_fewest_120 (lv_at hl 0 rfl) ?_
                        refine lv_if_eq (tgt := 133) hx hb dX8_fewest_122 (by decide) (fun c_11 => ?_) (fun c_11 => ?_)
                        · have t_11 := i_eq c_11
                          refine lv_iload_n hx hb dX8_fewest_133 rfl (lv_at hl 4 rfl) ?_
                          refine lv_istore_n (lv' := [(1, .int x1), (5, .int 0), (4, .int x4), (3, .int (nI j)), (2, .int x2), (0, .ref (G.1 0))]) hx hb dX8_fewest_134 rfl hl (by decide) rfl (fun ls hl => ?_)
                          refine lv_iload hx hb dX8_fewest_135 (lv_at hl 1 rfl) ?_
                          refine lv_if_eq (tgt := 145) hx hb dX8_fewest_137 (by decide) (fun c_12 => ?_) (fun c_12 => ?_)
                          · have t_12 := i_eq c_12
                            refine lv_iload_n hx hb dX8_fewest_145 rfl (lv_at hl 4 rfl) ?_
                            refine lv_istore_n (lv' := [(2, .int x2), (1, .int x1), (5, .int 0), (4, .int x4), (3, .int (nI j)), (0, .ref (G.1 0))]) hx hb dX8_fewest_146 rfl hl (by decide) rfl (fun ls hl => ?_)
                            refine lv_iinc (v := (nI (j + 1))) (lv' := [(3, .int (nI (j + 1))), (2, .int x2), (1, .int x1), (5, .int 0), (4, .int x4), (0, .ref (G.1 0))]) hx hb dX8_fewest_147 hl (k := 4) rfl (nI_1 j) (by decide) rfl (fun ls hl => ?_)
                            refine lv_goto (tgt := 21) hx hb dX8_fewest_150 (by decide) ?_
                            exact ih_21 (j + 1) x1 x2 (w_lay (pM σ) (nPl (pM σ)) j 0 τj (nPe (pM σ))) _ _ _ (by omega) (by omega) (by rw [fw, fw_step, ← e_x1, ← e_x2, ← e_τj]; first | (simp [fwT, fw_bet, hfs, c_1, u_2, t_4, c_5, u_6, c_7, c_10, -Int32.not_lt]; done) | simp [fwT, fw_bet, c_1, u_2, t_4, c_5, u_6, c_7, c_10, -Int32.not_lt]) (by rw [fw, fw_step, ← e_x1, ← e_x2, ← e_τj]; first | (simp [fwT, fw_bet, hfs, c_1, u_2, t_4, c_5, u_6, c_7, c_10, -Int32.not_lt]; done) | simp [fwT, fw_bet, c_1, u_2, t_4, c_5, u_6, c_7, c_10, -Int32.not_lt]) (by rw [fw, fw_step, ← e_x1, ← e_x2, ← e_τj]; first | (simp [fwT, fw_bet, hfs, c_1, u_2, t_4, c_5, u_6, c_7, c_10, -Int32.not_lt]; done) | simp [fwT, fw_bet, c_1, u_2, t_4, c_5, u_6, c_7, c_10, -Int32.not_lt]) ((pM_lay _ _ _ _ _ _).trans hPj) hP hS (lv_sub hl [0, 1, 2, 5] rfl)
                          · have t_12 := i_ne c_12
                            exact absurd c_12 (by decide)
                        · have t_11 := i_ne c_11
                          exact absurd c_11 (by decide)
                      · have t_10 := i_eq c_10
                        refine lv_iload hx hb dX8_fewest_107 (lv_at hl 1 rfl) ?_
                        refine lv_iload_n hx hb dX8_fewest_109 rfl (lv_at hl 3 rfl) ?_
                        refine lv_icmp_ge (tgt := 117) hx hb dX8_fewest_110 (by decide) (fun c_13 => ?_) (fun c_13 => ?_)
                        · have t_13 := i_le c_13
                          have u_13 := u_le c_13
                          refine lv_iconst (v := 0) hx hb dX8_fewest_117 (by decide) ?_
                          refine lv_istore (lv' := [(5, .int 0), (4, .int x4), (3, .int (nI j)), (2, .int x2), (1, .int x1), (0, .ref (G.1 0))]) hx hb dX8_fewest_118 hl (by decide) rfl (fun ls hl => ?_)
                          refine lv_iload hx hb dX8_fewest_120 (lv_at hl 0 rfl) ?_
                          refine lv_if_eq (tgt := 133) hx hb dX8_fewest_122 (by decide) (fun c_14 => ?_) (fun c_14 => ?_)
                          · have t_14 := i_eq c_14
                            refine lv_iload_n hx hb dX8_fewest_133 rfl (lv_at hl 4 rfl) ?_
                            refine lv_istore_n (lv' := [(1, .int x1), (5, .int 0), (4, .int x4), (3, .int (nI j)), (2, .int x2), (0, .ref (G.1 0))]) hx hb dX8_fewest_134 rfl hl (by decide) rfl (fun ls hl => ?_)
                            refine lv_iload hx hb dX8_fewest_135 (lv_at hl 1 rfl) ?_
                            refine lv_if_eq (tgt := 145) hx hb dX8_fewest_137 (by decide) (fun c_15 => ?_) (fun c_15 => ?_)
                            · have t_15 := i_eq c_15
                              refine lv_iload_n hx hb dX8_fewest_145 rfl (lv_at hl 4 rfl) ?_
                              refine lv_istore_n (lv' := [(2, .int x2), (1, .int x1), (5, .int 0), (4, .int x4), (3, .int (nI j)), (0, .ref (G.1 0))]) hx hb dX8_fewest_146 rfl hl (by decide) rfl (fun ls hl => ?_)
                              refine lv_iinc (v := (nI (j + 1))) (lv' := [(3, .int (nI (j + 1))), (2, .int x2), (1, .int x1), (5, .int 0), (4, .int x4), (0, .ref (G.1 0))]) hx hb dX8_fewest_147 hl (k := 4) rfl (nI_1 j) (by decide) rfl (fun ls hl => ?_)
                              refine lv_goto (tgt := 21) hx hb dX8_fewest_150 (by decide) ?_
                              exact ih_21 (j + 1) x1 x2 (w_lay (pM σ) (nPl (pM σ)) j 0 τj (nPe (pM σ))) _ _ _ (by omega) (by omega) (by rw [fw, fw_step, ← e_x1, ← e_x2, ← e_τj]; first | (simp [fwT, fw_bet, hfs, c_1, u_2, t_4, c_5, u_6, c_7, c_10, u_13, -Int32.not_lt]; done) | simp [fwT, fw_bet, c_1, u_2, t_4, c_5, u_6, c_7, c_10, u_13, -Int32.not_lt]) (by rw [fw, fw_step, ← e_x1, ← e_x2, ← e_τj]; first | (simp [fwT, fw_bet, hfs, c_1, u_2, t_4, c_5, u_6, c_7, c_10, u_13, -Int32.not_lt]; done) | simp [fwT, fw_bet, c_1, u_2, t_4, c_5, u_6, c_7, c_10, u_13, -Int32.not_lt]) (by rw [fw, fw_step, ← e_x1, ← e_x2, ← e_τj]; first | (simp [fwT, fw_bet, hfs, c_1, u_2, t_4, c_5, u_6, c_7, c_10, u_13, -Int32.not_lt]; done) | simp [fwT, fw_bet, c_1, u_2, t_4, c_5, u_6, c_7, c_10, u_13, -Int32.not_lt]) ((pM_lay _ _ _ _ _ _).trans hPj) hP hS (lv_sub hl [0, 1, 2, 5] rfl)
                            · have t_15 := i_ne c_15
                              exact absurd c_15 (by decide)
                          · have t_14 := i_ne c_14
                            exact absurd c_14 (by decide)
                        · have t_13 := i_nle c_13
                          have u_13 := u_nle c_13
                          refine lv_iconst (v := 1) hx hb dX8_fewest_113 (by decide) ?_
                          refine lv_goto (tgt := 118) hx hb dX8_fewest_114 (by decide) ?_
                          refine lv_istore (lv' := [(5, .int 1), (4, .int x4), (3, .int (nI j)), (2, .int x2), (1, .int x1), (0, .ref (G.1 0))]) hx hb dX8_fewest_118 hl (by decide) rfl (fun ls hl => ?_)
                          refine lv_iload hx hb dX8_fewest_120 (lv_at hl 0 rfl) ?_
                          refine lv_if_eq (tgt := 133) hx hb dX8_fewest_122 (by decide) (fun c_16 => ?_) (fun c_16 => ?_)
                          · have t_16 := i_eq c_16
                            exact absurd c_16 (by decide)
                          · have t_16 := i_ne c_16
                            refine lv_iload hx hb dX8_fewest_125 (lv_at hl 1 rfl) ?_
                            refine xSi ha hP hS (y := yX8_bits) (As := [.int x4]) (rest := []) rfl (c_X8_bits G l (w_lay (pM σ) (nPl (pM σ)) j 0 τj (nPe (pM σ))) x4 hclr) kw_X8_255 hd_X8_bits rfl ⟨rfl, rfl⟩ ⟨Nat.le_of_ble_eq_true rfl, Nat.le_of_ble_eq_true rfl⟩ ⟨Nat.zero_le _, Nat.zero_le _⟩ hl.1 (Nat.le_of_ble_eq_true rfl) rfl dX8_fewest_127 (fun r u H locs hpq hP hS => ?_)
                            obtain ⟨hr_, hu_⟩ := hpq
                            have hr_ := hr_.symm
                            have hu_ := hu_.symm
                            subst hr_
                            subst hu_
                            refine lv_goto (tgt := 134) hx hb dX8_fewest_130 (by decide) ?_
                            refine lv_istore_n (lv' := [(1, .int (b_cnt 33 x4)), (5, .int 1), (4, .int x4), (3, .int (nI j)), (2, .int x2), (0, .ref (G.1 0))]) hx hb dX8_fewest_134 rfl hl (by decide) rfl (fun ls hl => ?_)
                            refine lv_iload hx hb dX8_fewest_135 (lv_at hl 1 rfl) ?_
                            refine lv_if_eq (tgt := 145) hx hb dX8_fewest_137 (by decide) (fun c_17 => ?_) (fun c_17 => ?_)
                            · have t_17 := i_eq c_17
                              exact absurd c_17 (by decide)
                            · have t_17 := i_ne c_17
                              refine lv_iload hx hb dX8_fewest_140 (lv_at hl 2 rfl) ?_
                              refine lv_goto (tgt := 146) hx hb dX8_fewest_142 (by decide) ?_
                              refine lv_istore_n (lv' := [(2, .int x4), (1, .int (b_cnt 33 x4)), (5, .int 1), (4, .int x4), (3, .int (nI j)), (0, .ref (G.1 0))]) hx hb dX8_fewest_146 rfl hl (by decide) rfl (fun ls hl => ?_)
                              refine lv_iinc (v := (nI (j + 1))) (lv' := [(3, .int (nI (j + 1))), (2, .int x4), (1, .int (b_cnt 33 x4)), (5, .int 1), (4, .int x4), (0, .ref (G.1 0))]) hx hb dX8_fewest_147 hl (k := 4) rfl (nI_1 j) (by decide) rfl (fun ls hl => ?_)
                              refine lv_goto (tgt := 21) hx hb dX8_fewest_150 (by decide) ?_
                              exact ih_21 (j + 1) (b_cnt 33 x4) x4 (w_lay (pM σ) (nPl (pM σ)) j 0 τj (nPe (pM σ))) _ _ _ (by omega) (by omega) (by rw [fw, fw_step, ← e_x1, ← e_x2, ← e_τj]; first | (simp [fwT, fw_bet, hfs, c_1, u_2, t_4, c_5, u_6, c_7, c_10, u_13, -Int32.not_lt]; done) | simp [fwT, fw_bet, c_1, u_2, t_4, c_5, u_6, c_7, c_10, u_13, -Int32.not_lt]) (by rw [fw, fw_step, ← e_x1, ← e_x2, ← e_τj]; first | (simp [fwT, fw_bet, hfs, c_1, u_2, t_4, c_5, u_6, c_7, c_10, u_13, -Int32.not_lt]; done) | simp [fwT, fw_bet, c_1, u_2, t_4, c_5, u_6, c_7, c_10, u_13, -Int32.not_lt]) (by rw [fw, fw_step, ← e_x1, ← e_x2, ← e_τj]; first | (simp [fwT, fw_bet, hfs, c_1, u_2, t_4, c_5, u_6, c_7, c_10, u_13, -Int32.not_lt]; done) | simp [fwT, fw_bet, c_1, u_2, t_4, c_5, u_6, c_7, c_10, u_13, -Int32.not_lt]) ((pM_lay _ _ _ _ _ _).trans hPj) hP hS (lv_sub hl [0, 1, 2, 5] rfl)
                  · have t_6 := i_nle c_6
                    have u_6 := u_nle c_6
                    have hlt_j1 : j1 < nPe (pM σ) := by omega
                    refine lv_iload hx hb dX8_fewest_67 (lv_at hl 1 rfl) ?_
                    refine lv_iconst (v := 1) hx hb dX8_fewest_69 (by decide) ?_
                    refine lv_aload_n hx hb dX8_fewest_70 rfl (lv_at hl 5 rfl) ?_
                    refine g8_47 ha hP 0 (by decide) (cM_0 G _) (v := .ref (G.1 12)) rfl dX8_fewest_71 ?_
                    refine lv_iconst (v := 5) hx hb dX8_fewest_74 (by decide) ?_
                    refine lv_iload hx hb dX8_fewest_75 (lv_at hl 0 rfl) ?_
                    refine lv_iadd hx hb dX8_fewest_77 ?_
                    refine xialdN ha hP 12 (by decide) (cM_12 G _) (5 + j1) (nadd (rfl : (5 : Int32) = nI 5) rfl) (by omega) (by decide) dX8_fewest_78 ?_
                    refine lv_ishl hx hb dX8_fewest_79 ?_
                    refine lv_ior hx hb dX8_fewest_80 ?_
                    refine lv_istore (lv' := [(4, .int (x4 ||| (1 <<< (((w_lay (pM σ) (nPl (pM σ)) j 0 τj (nPe (pM σ))) 12 (5 + j1)) &&& 31)))), (5, .int (nI j1)), (3, .int (nI j)), (2, .int x2), (1, .int x1), (0, .ref (G.1 0))]) hx hb dX8_fewest_81 hl (by decide) rfl (fun ls hl => ?_)
                    refine lv_iinc (v := (nI (j1 + 1))) (lv' := [(5, .int (nI (j1 + 1))), (4, .int (x4 ||| (1 <<< (((w_lay (pM σ) (nPl (pM σ)) j 0 τj (nPe (pM σ))) 12 (5 + j1)) &&& 31)))), (3, .int (nI j)), (2, .int x2), (1, .int x1), (0, .ref (G.1 0))]) hx hb dX8_fewest_83 hl (k := 1) rfl (nI_1 j1) (by decide) rfl (fun ls hl => ?_)
                    refine lv_goto (tgt := 58) hx hb dX8_fewest_86 (by decide) ?_
                    exact ih_58 (j1 + 1) (x4 ||| (1 <<< (((w_lay (pM σ) (nPl (pM σ)) j 0 τj (nPe (pM σ))) 12 (5 + j1)) &&& 31))) _ _ _ (by omega) (by omega) (by rw [e_x4]; rfl) hP hS (lv_sub hl [0, 1, 2, 3, 4, 5] rfl)
              exact lp_58 ((nPe (pM σ)) - 0 + 1) 0 0 _ _ _ (by omega) (by omega) rfl hP hS (lv_sub hl [0, 1, 2, 3, 4, 5] rfl)
    exact lp_21 (NN - 0 + 1) 0 1000000 0 (w_aside σ) _ _ _ (by omega) (by omega) rfl rfl rfl ((pM_aside _).trans rfl) hP hS (lv_sub hl [0, 1, 2, 3] rfl)
  · have t_1 := i_eq c_1
    refine lv_bipush (v := (-4)) hx hb dX8_fewest_7 (by decide) ?_
    exact xiret ha hP hS dX8_fewest_9 ⟨by simp [n_few, c_1, i_leN, -Int32.not_lt], (by simp [n_few, c_1, i_leN, -Int32.not_lt])⟩ rfl
set_option maxHeartbeats 4000000 in
set_option maxRecDepth 100000 in
theorem c_X8_seated (G : GT) (l : Launch) (σ : Mem) (ro : Int32) (hpb : PB (pM σ)) (hrm : RM σ) : CI G 24 (cM G) l yX8_seated ({ frames := 5, cells := 0, slots := 0, locals := 115 } : Room) cX8_seated 4 (some .int) [.ref (G.1 0), .int ro] σ (fun (r : Int32) u => r = (n_seated σ ro).1 ∧ u = (n_seated σ ro).2) := by
  intro sz
  refine xbegin (by decide) (Nat.le_of_ble_eq_true rfl) ?_
  intro p e s m below meth c ls hsz ha hP hl
  subst hsz
  have hx := ha.1
  have hb := ha.2.1
  have hS : va_S (xA G 24 s.heap.size) s.heap s.heap [] := va_S.rf
  have hl : lv_has ls 4 [(0, .ref (G.1 0)), (1, .int ro)] := hl
  have k_m9 : (-9 : Int32).toInt = -9 := by decide
  have k_m4 : (-4 : Int32).toInt = -4 := by decide
  have k_m1 : (-1 : Int32).toInt = -1 := by decide
  have k_0 : (0 : Int32).toInt = 0 := by decide
  have k_1 : (1 : Int32).toInt = 1 := by decide
  have k_3 : (3 : Int32).toInt = 3 := by decide
  have k_4 : (4 : Int32).toInt = 4 := by decide
  have k_5 : (5 : Int32).toInt = 5 := by decide
  have k_6 : (6 : Int32).toInt = 6 := by decide
  have k_40 : (40 : Int32).toInt = 40 := by decide
  have hPL := PB_pl hpb
  have hPE := PB_pe hpb
  have hp4 := PV_pl hpb (rfl : pM σ = pM σ)
  have hp5 := PV_pe hpb (rfl : pM σ = pM σ)
  refine lv_iload_n hx hb dX8_seated_0 rfl (lv_at hl 1 rfl) ?_
  refine xSi ha hP hS (y := yX8_isRow) (As := [.int ro]) (rest := []) rfl (c_X8_isRow G l σ ro ) kw_X8_101 hd_X8_isRow rfl ⟨rfl, rfl⟩ ⟨Nat.le_of_ble_eq_true rfl, Nat.le_of_ble_eq_true rfl⟩ ⟨Nat.zero_le _, Nat.zero_le _⟩ hl.1 (Nat.le_of_ble_eq_true rfl) rfl dX8_seated_1 (fun r u H locs hpq hP hS => ?_)
  obtain ⟨hr_, hu_⟩ := hpq
  have hr_ := hr_.symm
  have hu_ := hu_.symm
  subst hr_
  subst hu_
  refine lv_if_ne (tgt := 9) hx hb dX8_seated_4 (by decide) (fun c_1 => ?_) (fun c_1 => ?_)
  · have t_1 := b2i_t c_1
    have f_1 := in_t t_1
    refine lv_aload_n hx hb dX8_seated_9 rfl (lv_at hl 0 rfl) ?_
    refine g8_163 ha hP 0 (by decide) (cM_0 G _) (v := .int (σ 0 4)) rfl dX8_seated_10 ?_
    refine lv_if_ne (tgt := 19) hx hb dX8_seated_13 (by decide) (fun c_2 => ?_) (fun c_2 => ?_)
    · have t_2 := i_ne c_2
      refine lv_aload_n hx hb dX8_seated_19 rfl (lv_at hl 0 rfl) ?_
      refine g8_13 ha hP 0 (by decide) (cM_0 G _) (v := .ref (G.1 2)) rfl dX8_seated_20 ?_
      refine lv_iload_n hx hb dX8_seated_23 rfl (lv_at hl 1 rfl) ?_
      refine xialdN ha hP 2 (by decide) (cM_2 G _) (ix ro) (ix_nI (by omega)) (ix_lt (by omega) (by omega)) (by decide) dX8_seated_24 ?_
      refine lv_if_ge (tgt := 34) hx hb dX8_seated_25 (by decide) (fun c_3 => ?_) (fun c_3 => ?_)
      · have t_3 := i_le c_3
        have u_3 := u_le c_3
        refine lv_aload_n hx hb dX8_seated_34 rfl (lv_at hl 0 rfl) ?_
        refine g8_13 ha hP 0 (by decide) (cM_0 G _) (v := .ref (G.1 2)) rfl dX8_seated_35 ?_
        refine lv_iload_n hx hb dX8_seated_38 rfl (lv_at hl 1 rfl) ?_
        refine xialdN ha hP 2 (by decide) (cM_2 G _) (ix ro) (ix_nI (by omega)) (ix_lt (by omega) (by omega)) (by decide) dX8_seated_39 ?_
        refine lv_aload_n hx hb dX8_seated_40 rfl (lv_at hl 0 rfl) ?_
        refine g8_166 ha hP 0 (by decide) (cM_0 G _) (v := .int (σ 0 5)) rfl dX8_seated_41 ?_
        refine lv_icmp_eq (tgt := 53) hx hb dX8_seated_44 (by decide) (fun c_4 => ?_) (fun c_4 => ?_)
        · have t_4 := i_eq c_4
          have hro7 := in_t (show a_in ro 6 = true by assumption)
          have hro8 := ix_toInt (show 0 ≤ ro.toInt by omega)
          refine lv_aload_n hx hb dX8_seated_53 rfl (lv_at hl 0 rfl) ?_
          refine xVv ha hP hS (y := yX8_layAside) (As := []) (rest := []) 0 (by decide) (cM_0 G _) rfl rfl (c_X8_layAside G l σ  ) kw_X8_232 hd_X8_layAside rfl ⟨rfl, rfl⟩ ⟨Nat.le_of_ble_eq_true rfl, Nat.le_of_ble_eq_true rfl⟩ ⟨Nat.zero_le _, Nat.zero_le _⟩ hl.1 (Nat.le_of_ble_eq_true rfl) rfl dX8_seated_54 (fun u H locs hpq hP hS => ?_)
          have hpq := hpq.symm
          subst hpq
          refine lv_iconst (v := 0) hx hb dX8_seated_57 (by decide) ?_
          refine lv_istore_n (lv' := [(2, .int 0), (0, .ref (G.1 0)), (1, .int ro)]) hx hb dX8_seated_58 rfl hl (by decide) rfl (fun ls hl => ?_)
          have lp_59 : ∀ (d j : Nat) (τj : Mem) (H : Heap) (locs : List Loc) (ls : Array Slot), j ≤ (nPe (pM σ)) → (nPe (pM σ)) - j < d → τj = w_sd σ (ix ro) j → (pM τj = pM σ) → (fstN (sdM_bad (pM σ) σ (ix ro)) j = j) → va_P G.2.1 vwCl (wl G 24 (cM G τj)) H → va_S (xA G 24 s.heap.size) s.heap H locs → lv_has ls 4 [(2, .int (nI j)), (0, .ref (G.1 0)), (1, .int ro)] → W p l e ({ frames := 5, cells := 0, slots := 0, locals := 115 } : Room) s m ([.ref (G.1 0), .int ro] : List Value).toArray below meth c H locs 0 0 (MQ below (va_Qi (fun (r : Int32) u => r = (n_seated σ ro).1 ∧ u = (n_seated σ ro).2) (xB G 24 (cM G)) (xA G 24 s.heap.size)) ([.ref (G.1 0), .int ro] : List Value).toArray s 0 0 (xA G 24 s.heap.size)) (F0 m 59 ls []) := by
            intro d
            induction d with
            | zero => intro j τj H locs ls hj hd; exact absurd hd (Nat.not_lt_zero _)
            | succ d ih_59 =>
              intro j τj H locs ls hj_j hd_j e_τj hPj hst hP hS hl
              have h31_j : (nI j).toInt = (j : Int) := nI_toInt (by omega)
              have hw5i : (τj 0 5).toInt = (nPe (pM σ) : Int) := PV_pe hpb hPj
              have hv1 : τj 1 (40 * ix ro + j) = σ 1 (40 * ix ro + j) := by rw [e_τj, w_sd_n _ _ _ (by decide)]
              have hup : ∀ k, a_isUp (pM σ) (sM τj 11) k = a_isUp (pM σ) (sM σ 11) k := fun k => by rw [sM_eq (show τj 11 = σ 11 by rw [e_τj, w_sd_n _ _ _ (by decide)])]
              refine lv_iload_n hx hb dX8_seated_59 rfl (lv_at hl 0 rfl) ?_
              refine lv_aload_n hx hb dX8_seated_60 rfl (lv_at hl 1 rfl) ?_
              refine g8_166 ha hP 0 (by decide) (cM_0 G _) (v := .int (τj 0 5)) rfl dX8_seated_61 ?_
              refine lv_icmp_ge (tgt := 125) hx hb dX8_seated_64 (by decide) (fun c_5 => ?_) (fun c_5 => ?_)
              · have t_5 := i_le c_5
                have u_5 := u_le c_5
                obtain rfl : j = (nPe (pM σ)) := by omega
                have hsvs : SV (pM σ) τj 12 := by rw [e_τj]; exact SV_sd hst
                refine lv_aload_n hx hb dX8_seated_125 rfl (lv_at hl 1 rfl) ?_
                refine lv_aload_n hx hb dX8_seated_126 rfl (lv_at hl 1 rfl) ?_
                refine xVi ha hP hS (y := yX8_failing) (As := []) (rest := [.ref (G.1 0)]) 0 (by decide) (cM_0 G _) rfl rfl (c_X8_failing G l τj (pM σ) hpb hPj) kw_X8_251 hd_X8_failing rfl ⟨rfl, rfl⟩ ⟨Nat.le_of_ble_eq_true rfl, Nat.le_of_ble_eq_true rfl⟩ ⟨Nat.zero_le _, Nat.zero_le _⟩ hl.1 (Nat.le_of_ble_eq_true rfl) rfl dX8_seated_127 (fun r u H locs hpq hP hS => ?_)
                obtain ⟨hr_, hu_⟩ := hpq
                have hr_ := hr_.symm
                have hu_ := hu_.symm
                subst hr_
                subst hu_
                refine lv_aload_n hx hb dX8_seated_130 rfl (lv_at hl 1 rfl) ?_
                refine lv_aload_n hx hb dX8_seated_131 rfl (lv_at hl 1 rfl) ?_
                refine g8_47 ha hP 0 (by decide) (cM_0 G _) (v := .ref (G.1 12)) rfl dX8_seated_132 ?_
                refine xVi ha hP hS (y := yX8_highAll) (As := [.ref (G.1 12)]) (rest := [.int (b_fail (pM σ) (sM τj 12)), .ref (G.1 0)]) 0 (by decide) (cM_0 G _) rfl rfl (c_X8_highAll G l τj (pM σ) 12 hpb hPj (by unfold oT; omega) hsvs) kw_X8_237 hd_X8_highAll rfl ⟨rfl, rfl⟩ ⟨Nat.le_of_ble_eq_true rfl, Nat.le_of_ble_eq_true rfl⟩ ⟨Nat.zero_le _, Nat.zero_le _⟩ hl.1 (Nat.le_of_ble_eq_true rfl) rfl dX8_seated_135 (fun r u H locs hpq hP hS => ?_)
                obtain ⟨hr_, hu_⟩ := hpq
                have hr_ := hr_.symm
                have hu_ := hu_.symm
                subst hr_
                subst hu_
                refine xVi ha hP hS (y := yX8_answer) (As := [.int (b_fail (pM σ) (sM τj 12)), .int (a_highAll (pM σ) (sM τj 12))]) (rest := []) 0 (by decide) (cM_0 G _) rfl rfl (c_X8_answer G l τj (b_fail (pM σ) (sM τj 12)) (a_highAll (pM σ) (sM τj 12)) ) kw_X8_229 hd_X8_answer rfl ⟨rfl, rfl⟩ ⟨Nat.le_of_ble_eq_true rfl, Nat.le_of_ble_eq_true rfl⟩ ⟨Nat.zero_le _, Nat.zero_le _⟩ hl.1 (Nat.le_of_ble_eq_true rfl) rfl dX8_seated_138 (fun r u H locs hpq hP hS => ?_)
                obtain ⟨hr_, hu_⟩ := hpq
                have hr_ := hr_.symm
                have hu_ := hu_.symm
                subst hr_
                subst hu_
                exact xiret ha hP hS dX8_seated_141 ⟨by rw [n_seated, if_pos (by assumption), if_neg (by assumption), if_neg (by assumption), if_pos (by assumption), if_pos hst, e_τj], (by rw [n_seated, if_pos (by assumption), if_neg (by assumption), if_neg (by assumption), if_pos (by assumption), if_pos hst, e_τj])⟩ rfl
              · have t_5 := i_nle c_5
                have u_5 := u_nle c_5
                have hlt_j : j < (nPe (pM σ)) := by omega
                refine lv_aload_n hx hb dX8_seated_67 rfl (lv_at hl 1 rfl) ?_
                refine g8_7 ha hP 0 (by decide) (cM_0 G _) (v := .ref (G.1 1)) rfl dX8_seated_68 ?_
                refine lv_bipush (v := 40) hx hb dX8_seated_71 (by decide) ?_
                refine lv_iload_n hx hb dX8_seated_73 rfl (lv_at hl 2 rfl) ?_
                refine lv_imul hx hb dX8_seated_74 ?_
                refine lv_iload_n hx hb dX8_seated_75 rfl (lv_at hl 0 rfl) ?_
                refine lv_iadd hx hb dX8_seated_76 ?_
                refine xialdN ha hP 1 (by decide) (cM_1 G _) ((40 * (ix ro)) + j) (nadd (nmul (rfl : (40 : Int32) = nI 40) (ix_nI (by omega))) rfl) (by have q_0 := ix_toInt (show (0 : Int) ≤ (ro).toInt by omega); omega) (by decide) dX8_seated_77 ?_
                refine lv_istore_n (lv' := [(3, .int (τj 1 ((40 * (ix ro)) + j))), (2, .int (nI j)), (0, .ref (G.1 0)), (1, .int ro)]) hx hb dX8_seated_78 rfl hl (by decide) rfl (fun ls hl => ?_)
                refine lv_iload_n hx hb dX8_seated_79 rfl (lv_at hl 0 rfl) ?_
                refine lv_bipush (v := (-9)) hx hb dX8_seated_80 (by decide) ?_
                refine lv_icmp_eq (tgt := 110) hx hb dX8_seated_82 (by decide) (fun c_6 => ?_) (fun c_6 => ?_)
                · have t_6 := i_eq c_6
                  refine lv_aload_n hx hb dX8_seated_110 rfl (lv_at hl 2 rfl) ?_
                  refine g8_47 ha hP 0 (by decide) (cM_0 G _) (v := .ref (G.1 12)) rfl dX8_seated_111 ?_
                  refine lv_iconst (v := 5) hx hb dX8_seated_114 (by decide) ?_
                  refine lv_iload_n hx hb dX8_seated_115 rfl (lv_at hl 1 rfl) ?_
                  refine lv_iadd hx hb dX8_seated_116 ?_
                  refine lv_iload_n hx hb dX8_seated_117 rfl (lv_at hl 0 rfl) ?_
                  refine xiastN ha hP hS (cM_loc G) 12 (by decide) (fun τ => cM_12 G τ) (5 + j) (nadd (rfl : (5 : Int32) = nI 5) rfl) (by omega) (by decide) dX8_seated_118 (fun H locs hP hS => ?_)
                  refine lv_iinc (v := (nI (j + 1))) (lv' := [(2, .int (nI (j + 1))), (3, .int (τj 1 ((40 * (ix ro)) + j))), (0, .ref (G.1 0)), (1, .int ro)]) hx hb dX8_seated_119 hl (k := 1) rfl (nI_1 j) (by decide) rfl (fun ls hl => ?_)
                  refine lv_goto (tgt := 59) hx hb dX8_seated_122 (by decide) ?_
                  exact ih_59 (j + 1) (mU τj 12 (5 + j) (τj 1 ((40 * (ix ro)) + j))) _ _ _ (by omega) (by omega) (by rw [e_τj]; unfold w_sd; exact mG_s _ _ _ _ _ (by rw [mG_n _ _ _ _ (by decide), w_aside_n _ (by decide)])) ((pM_mU _ _ _ (by decide)).trans hPj) (fstN_s hst (by simp only [sdM_bad]; rw [← hv1, ← hup]; simp [t_1, c_2, u_3, c_4, u_5, c_6])) hP hS (lv_sub hl [0, 2, 3] rfl)
                · have t_6 := i_ne c_6
                  refine lv_aload_n hx hb dX8_seated_85 rfl (lv_at hl 2 rfl) ?_
                  refine lv_iload_n hx hb dX8_seated_86 rfl (lv_at hl 0 rfl) ?_
                  refine xVi ha hP hS (y := yX8_isPole) (As := [.int (τj 1 ((40 * (ix ro)) + j))]) (rest := []) 0 (by decide) (cM_0 G _) rfl rfl (c_X8_isPole G l τj (pM σ) (τj 1 ((40 * (ix ro)) + j)) hpb hPj) kw_X8_206 hd_X8_isPole rfl ⟨rfl, rfl⟩ ⟨Nat.le_of_ble_eq_true rfl, Nat.le_of_ble_eq_true rfl⟩ ⟨Nat.zero_le _, Nat.zero_le _⟩ hl.1 (Nat.le_of_ble_eq_true rfl) rfl dX8_seated_87 (fun r u H locs hpq hP hS => ?_)
                  obtain ⟨hr_, hu_⟩ := hpq
                  have hr_ := hr_.symm
                  have hu_ := hu_.symm
                  subst hr_
                  subst hu_
                  refine lv_if_eq (tgt := 104) hx hb dX8_seated_90 (by decide) (fun c_7 => ?_) (fun c_7 => ?_)
                  · have t_7 := b2i_f c_7
                    have HB : (sdM_bad (pM σ) σ (ix ro)) j = true := by simp only [sdM_bad]; rw [← hv1, ← hup]; simp [t_1, c_2, u_3, c_4, u_5, c_6, t_7]
                    have HS := fstN_b hst HB (nPe (pM σ)) (by omega)
                    refine lv_aload_n hx hb dX8_seated_104 rfl (lv_at hl 2 rfl) ?_
                    refine lv_iconst (v := 3) hx hb dX8_seated_105 (by decide) ?_
                    refine xVi ha hP hS (y := yX8_found) (As := [.int 3]) (rest := []) 0 (by decide) (cM_0 G _) rfl rfl (c_X8_found G l τj 3 (by decide)) kw_X8_105 hd_X8_found rfl ⟨rfl, rfl⟩ ⟨Nat.le_of_ble_eq_true rfl, Nat.le_of_ble_eq_true rfl⟩ ⟨Nat.zero_le _, Nat.zero_le _⟩ hl.1 (Nat.le_of_ble_eq_true rfl) rfl dX8_seated_106 (fun r u H locs hpq hP hS => ?_)
                    obtain ⟨hr_, hu_⟩ := hpq
                    have hr_ := hr_.symm
                    have hu_ := hu_.symm
                    subst hr_
                    subst hu_
                    exact xiret ha hP hS dX8_seated_109 ⟨by rw [n_seated, if_pos (by assumption), if_neg (by assumption), if_neg (by assumption), if_pos (by assumption), if_neg (by rw [HS]; omega)], (by rw [n_seated, if_pos (by assumption), if_neg (by assumption), if_neg (by assumption), if_pos (by assumption), if_neg (by rw [HS]; omega), HS, e_τj])⟩ rfl
                  · have t_7 := b2i_t c_7
                    have f_7 := isPole_t t_7
                    refine lv_aload_n hx hb dX8_seated_93 rfl (lv_at hl 2 rfl) ?_
                    refine g8_44 ha hP 0 (by decide) (cM_0 G _) (v := .ref (G.1 11)) rfl dX8_seated_94 ?_
                    refine lv_iload_n hx hb dX8_seated_97 rfl (lv_at hl 0 rfl) ?_
                    refine xSi ha hP hS (y := yX8_isUp) (As := [.ref (G.1 11), .int (τj 1 ((40 * (ix ro)) + j))]) (rest := []) rfl (c_X8_isUp G l τj (pM σ) 11 (τj 1 ((40 * (ix ro)) + j)) hpb hPj (by unfold oT; omega) (by assumption)) kw_X8_192 hd_X8_isUp rfl ⟨rfl, rfl⟩ ⟨Nat.le_of_ble_eq_true rfl, Nat.le_of_ble_eq_true rfl⟩ ⟨Nat.zero_le _, Nat.zero_le _⟩ hl.1 (Nat.le_of_ble_eq_true rfl) rfl dX8_seated_98 (fun r u H locs hpq hP hS => ?_)
                    obtain ⟨hr_, hu_⟩ := hpq
                    have hr_ := hr_.symm
                    have hu_ := hu_.symm
                    subst hr_
                    subst hu_
                    refine lv_if_ne (tgt := 110) hx hb dX8_seated_101 (by decide) (fun c_8 => ?_) (fun c_8 => ?_)
                    · have t_8 := b2i_t c_8
                      refine lv_aload_n hx hb dX8_seated_110 rfl (lv_at hl 2 rfl) ?_
                      refine g8_47 ha hP 0 (by decide) (cM_0 G _) (v := .ref (G.1 12)) rfl dX8_seated_111 ?_
                      refine lv_iconst (v := 5) hx hb dX8_seated_114 (by decide) ?_
                      refine lv_iload_n hx hb dX8_seated_115 rfl (lv_at hl 1 rfl) ?_
                      refine lv_iadd hx hb dX8_seated_116 ?_
                      refine lv_iload_n hx hb dX8_seated_117 rfl (lv_at hl 0 rfl) ?_
                      refine xiastN ha hP hS (cM_loc G) 12 (by decide) (fun τ => cM_12 G τ) (5 + j) (nadd (rfl : (5 : Int32) = nI 5) rfl) (by omega) (by decide) dX8_seated_118 (fun H locs hP hS => ?_)
                      refine lv_iinc (v := (nI (j + 1))) (lv' := [(2, .int (nI (j + 1))), (3, .int (τj 1 ((40 * (ix ro)) + j))), (0, .ref (G.1 0)), (1, .int ro)]) hx hb dX8_seated_119 hl (k := 1) rfl (nI_1 j) (by decide) rfl (fun ls hl => ?_)
                      refine lv_goto (tgt := 59) hx hb dX8_seated_122 (by decide) ?_
                      exact ih_59 (j + 1) (mU τj 12 (5 + j) (τj 1 ((40 * (ix ro)) + j))) _ _ _ (by omega) (by omega) (by rw [e_τj]; unfold w_sd; exact mG_s _ _ _ _ _ (by rw [mG_n _ _ _ _ (by decide), w_aside_n _ (by decide)])) ((pM_mU _ _ _ (by decide)).trans hPj) (fstN_s hst (by simp only [sdM_bad]; rw [← hv1, ← hup]; simp [t_1, c_2, u_3, c_4, u_5, c_6, t_7, t_8])) hP hS (lv_sub hl [0, 2, 3] rfl)
                    · have t_8 := b2i_f c_8
                      have HB : (sdM_bad (pM σ) σ (ix ro)) j = true := by simp only [sdM_bad]; rw [← hv1, ← hup]; simp [t_1, c_2, u_3, c_4, u_5, c_6, t_7, t_8]
                      have HS := fstN_b hst HB (nPe (pM σ)) (by omega)
                      refine lv_aload_n hx hb dX8_seated_104 rfl (lv_at hl 2 rfl) ?_
                      refine lv_iconst (v := 3) hx hb dX8_seated_105 (by decide) ?_
                      refine xVi ha hP hS (y := yX8_found) (As := [.int 3]) (rest := []) 0 (by decide) (cM_0 G _) rfl rfl (c_X8_found G l τj 3 (by decide)) kw_X8_105 hd_X8_found rfl ⟨rfl, rfl⟩ ⟨Nat.le_of_ble_eq_true rfl, Nat.le_of_ble_eq_true rfl⟩ ⟨Nat.zero_le _, Nat.zero_le _⟩ hl.1 (Nat.le_of_ble_eq_true rfl) rfl dX8_seated_106 (fun r u H locs hpq hP hS => ?_)
                      obtain ⟨hr_, hu_⟩ := hpq
                      have hr_ := hr_.symm
                      have hu_ := hu_.symm
                      subst hr_
                      subst hu_
                      exact xiret ha hP hS dX8_seated_109 ⟨by rw [n_seated, if_pos (by assumption), if_neg (by assumption), if_neg (by assumption), if_pos (by assumption), if_neg (by rw [HS]; omega)], (by rw [n_seated, if_pos (by assumption), if_neg (by assumption), if_neg (by assumption), if_pos (by assumption), if_neg (by rw [HS]; omega), HS, e_τj])⟩ rfl
          exact lp_59 ((nPe (pM σ)) - 0 + 1) 0 (w_aside σ) _ _ _ (by omega) (by omega) (mG_0 _ _ _ _) ((pM_aside _).trans rfl) rfl hP hS (lv_sub hl [0, 1, 2] rfl)
        · have t_4 := i_ne c_4
          refine lv_aload_n hx hb dX8_seated_47 rfl (lv_at hl 0 rfl) ?_
          refine lv_iconst (v := 5) hx hb dX8_seated_48 (by decide) ?_
          refine xVi ha hP hS (y := yX8_found) (As := [.int 5]) (rest := []) 0 (by decide) (cM_0 G _) rfl rfl (c_X8_found G l σ 5 (by decide)) kw_X8_105 hd_X8_found rfl ⟨rfl, rfl⟩ ⟨Nat.le_of_ble_eq_true rfl, Nat.le_of_ble_eq_true rfl⟩ ⟨Nat.zero_le _, Nat.zero_le _⟩ hl.1 (Nat.le_of_ble_eq_true rfl) rfl dX8_seated_49 (fun r u H locs hpq hP hS => ?_)
          obtain ⟨hr_, hu_⟩ := hpq
          have hr_ := hr_.symm
          have hu_ := hu_.symm
          subst hr_
          subst hu_
          exact xiret ha hP hS dX8_seated_52 ⟨by simp [n_seated, t_1, c_2, u_3, c_4, i_leN, -Int32.not_lt], (by simp [n_seated, t_1, c_2, u_3, c_4, i_leN, -Int32.not_lt])⟩ rfl
      · have t_3 := i_nle c_3
        have u_3 := u_nle c_3
        refine lv_aload_n hx hb dX8_seated_28 rfl (lv_at hl 0 rfl) ?_
        refine lv_iconst (v := 1) hx hb dX8_seated_29 (by decide) ?_
        refine xVi ha hP hS (y := yX8_found) (As := [.int 1]) (rest := []) 0 (by decide) (cM_0 G _) rfl rfl (c_X8_found G l σ 1 (by decide)) kw_X8_105 hd_X8_found rfl ⟨rfl, rfl⟩ ⟨Nat.le_of_ble_eq_true rfl, Nat.le_of_ble_eq_true rfl⟩ ⟨Nat.zero_le _, Nat.zero_le _⟩ hl.1 (Nat.le_of_ble_eq_true rfl) rfl dX8_seated_30 (fun r u H locs hpq hP hS => ?_)
        obtain ⟨hr_, hu_⟩ := hpq
        have hr_ := hr_.symm
        have hu_ := hu_.symm
        subst hr_
        subst hu_
        exact xiret ha hP hS dX8_seated_33 ⟨by simp [n_seated, t_1, c_2, u_3, i_leN, -Int32.not_lt], (by simp [n_seated, t_1, c_2, u_3, i_leN, -Int32.not_lt])⟩ rfl
    · have t_2 := i_eq c_2
      refine lv_bipush (v := (-4)) hx hb dX8_seated_16 (by decide) ?_
      exact xiret ha hP hS dX8_seated_18 ⟨by simp [n_seated, t_1, c_2, i_leN, -Int32.not_lt], (by simp [n_seated, t_1, c_2, i_leN, -Int32.not_lt])⟩ rfl
  · have t_1 := b2i_f c_1
    refine lv_iconst (v := (-1)) hx hb dX8_seated_7 (by decide) ?_
    exact xiret ha hP hS dX8_seated_8 ⟨by simp [n_seated, t_1, i_leN, -Int32.not_lt], (by simp [n_seated, t_1, i_leN, -Int32.not_lt])⟩ rfl
