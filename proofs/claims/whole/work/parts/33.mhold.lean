theorem hd_X8_answer : kHd yX8_answer 2 := by decide +kernel
theorem hd_X8_bits : kHd yX8_bits 1 := by decide +kernel
theorem hd_X8_fits : kHd yX8_fits 4 := by decide +kernel
theorem hd_X8_highAll : kHd yX8_highAll 1 := by decide +kernel
theorem hd_X8_kindsBy : kHd yX8_kindsBy 2 := by decide +kernel
theorem hd_X8_layAside : kHd yX8_layAside 0 := by decide +kernel
theorem hd_X8_refusesTriples : kHd yX8_refusesTriples 1 := by decide +kernel
theorem kw_X8_229 : ∀ w ∈ k5V RX8 229 yX8_answer cX8_answer 3 (some .int), w ∈ TB := tb_ins (by decide +kernel)
theorem kw_X8_232 : ∀ w ∈ k5V RX8 232 yX8_layAside cX8_layAside 1 none, w ∈ TB := tb_ins (by decide +kernel)
theorem kw_X8_237 : ∀ w ∈ k5V RX8 237 yX8_highAll cX8_highAll 4 (some .int), w ∈ TB := tb_ins (by decide +kernel)
theorem kw_X8_263 : ∀ w ∈ k5V RX8 263 yX8_refusesTriples cX8_refusesTriples 3 (some .int), w ∈ TB := tb_ins (by decide +kernel)
theorem kw_X8_266 : ∀ w ∈ k5V RX8 266 yX8_fits cX8_fits 7 (some .boolean), w ∈ TB := tb_ins (by decide +kernel)
theorem kw_X8_270 : ∀ w ∈ k5V RX8 270 yX8_kindsBy cX8_kindsBy 5 (some .int), w ∈ TB := tb_ins (by decide +kernel)
theorem kw_X8_255 : ∀ w ∈ k5S RX8 255 yX8_bits cX8_bits 3 (some .int), w ∈ TB := tb_ins (by decide +kernel)
set_option maxHeartbeats 4000000 in
set_option maxRecDepth 100000 in
theorem c_X8_holds (G : GT) (l : Launch) (σ : Mem)  (hpb : PB (pM σ)) : CI G 24 (cM G) l yX8_holds ({ frames := 4, cells := 0, slots := 0, locals := 93 } : Room) cX8_holds 5 (some .int) [.ref (G.1 0)] σ (fun (r : Int32) u => r = (n_holds σ ).1 ∧ u = (n_holds σ ).2) := by
  intro sz
  refine xbegin (by decide) (Nat.le_of_ble_eq_true rfl) ?_
  intro p e s m below meth c ls hsz ha hP hl
  subst hsz
  have hx := ha.1
  have hb := ha.2.1
  have hS : va_S (xA G 24 s.heap.size) s.heap s.heap [] := va_S.rf
  have hl : lv_has ls 5 [(0, .ref (G.1 0))] := hl
  have k_m4 : (-4 : Int32).toInt = -4 := by decide
  have k_0 : (0 : Int32).toInt = 0 := by decide
  have k_1 : (1 : Int32).toInt = 1 := by decide
  have k_4 : (4 : Int32).toInt = 4 := by decide
  have k_5 : (5 : Int32).toInt = 5 := by decide
  have k_6 : (6 : Int32).toInt = 6 := by decide
  have hPL := PB_pl hpb
  have hPE := PB_pe hpb
  have hp4 := PV_pl hpb (rfl : pM σ = pM σ)
  have hp5 := PV_pe hpb (rfl : pM σ = pM σ)
  refine lv_aload_n hx hb dX8_holds_0 rfl (lv_at hl 0 rfl) ?_
  refine g8_163 ha hP 0 (by decide) (cM_0 G _) (v := .int (σ 0 4)) rfl dX8_holds_1 ?_
  refine lv_if_ne (tgt := 10) hx hb dX8_holds_4 (by decide) (fun c_1 => ?_) (fun c_1 => ?_)
  · have t_1 := i_ne c_1
    refine lv_iconst (v := 0) hx hb dX8_holds_10 (by decide) ?_
    refine lv_istore_n (lv' := [(1, .int 0), (0, .ref (G.1 0))]) hx hb dX8_holds_11 rfl hl (by decide) rfl (fun ls hl => ?_)
    refine lv_iconst (v := 0) hx hb dX8_holds_12 (by decide) ?_
    refine lv_istore_n (lv' := [(2, .int 0), (1, .int 0), (0, .ref (G.1 0))]) hx hb dX8_holds_13 rfl hl (by decide) rfl (fun ls hl => ?_)
    refine lv_iconst (v := 0) hx hb dX8_holds_14 (by decide) ?_
    refine lv_istore_n (lv' := [(3, .int 0), (2, .int 0), (1, .int 0), (0, .ref (G.1 0))]) hx hb dX8_holds_15 rfl hl (by decide) rfl (fun ls hl => ?_)
    have lp_16 : ∀ (d j : Nat) (x1 : Int32) (x2 : Int32) (H : Heap) (locs : List Loc) (ls : Array Slot), j ≤ (nPl (pM σ)) → (nPl (pM σ)) - j < d → x1 = a_bits (fun k => a_stands (pM σ) (sM σ 11) (nI k)) j → x2 = a_sum (fun k => if a_isUp (pM σ) (sM σ 11) (nI k) = true then (if a_load (pM σ) (sM σ 11) (nI k) ≤ a_bearsNow (pM σ) (sM σ 11) (nI k) then 0 else a_load (pM σ) (sM σ 11) (nI k) - a_bearsNow (pM σ) (sM σ 11) (nI k)) else 0) j → va_P G.2.1 vwCl (wl G 24 (cM G σ)) H → va_S (xA G 24 s.heap.size) s.heap H locs → lv_has ls 5 [(3, .int (nI j)), (2, .int x2), (1, .int x1), (0, .ref (G.1 0))] → W p l e ({ frames := 4, cells := 0, slots := 0, locals := 93 } : Room) s m ([.ref (G.1 0)] : List Value).toArray below meth c H locs 0 0 (MQ below (va_Qi (fun (r : Int32) u => r = (n_holds σ ).1 ∧ u = (n_holds σ ).2) (xB G 24 (cM G)) (xA G 24 s.heap.size)) ([.ref (G.1 0)] : List Value).toArray s 0 0 (xA G 24 s.heap.size)) (F0 m 16 ls []) := by
      intro d
      induction d with
      | zero => intro j x1 x2 H locs ls hj hd; exact absurd hd (Nat.not_lt_zero _)
      | succ d ih_16 =>
        intro j x1 x2 H locs ls hj_j hd_j e_x1 e_x2 hP hS hl
        have h31_j : (nI j).toInt = (j : Int) := nI_toInt (by omega)
        refine lv_iload_n hx hb dX8_holds_16 rfl (lv_at hl 0 rfl) ?_
        refine lv_aload_n hx hb dX8_holds_17 rfl (lv_at hl 3 rfl) ?_
        refine g8_163 ha hP 0 (by decide) (cM_0 G _) (v := .int (σ 0 4)) rfl dX8_holds_18 ?_
        refine lv_icmp_ge (tgt := 98) hx hb dX8_holds_21 (by decide) (fun c_2 => ?_) (fun c_2 => ?_)
        · have t_2 := i_le c_2
          have u_2 := u_le c_2
          obtain rfl : j = (nPl (pM σ)) := by omega
          refine lv_aload_n hx hb dX8_holds_98 rfl (lv_at hl 3 rfl) ?_
          refine lv_iload_n hx hb dX8_holds_99 rfl (lv_at hl 2 rfl) ?_
          refine lv_iload_n hx hb dX8_holds_100 rfl (lv_at hl 1 rfl) ?_
          refine xVi ha hP hS (y := yX8_answer) (As := [.int x1, .int x2]) (rest := []) 0 (by decide) (cM_0 G _) rfl rfl (c_X8_answer G l σ x1 x2 ) kw_X8_229 hd_X8_answer rfl ⟨rfl, rfl⟩ ⟨Nat.le_of_ble_eq_true rfl, Nat.le_of_ble_eq_true rfl⟩ ⟨Nat.zero_le _, Nat.zero_le _⟩ hl.1 (Nat.le_of_ble_eq_true rfl) rfl dX8_holds_101 (fun r u H locs hpq hP hS => ?_)
          obtain ⟨hr_, hu_⟩ := hpq
          have hr_ := hr_.symm
          have hu_ := hu_.symm
          subst hr_
          subst hu_
          exact xiret ha hP hS dX8_holds_104 ⟨by simp [n_holds, c_1, u_2]; exact e_x1, (by rw [e_x2]; simp [n_holds, b_exc, c_1, u_2])⟩ rfl
        · have t_2 := i_nle c_2
          have u_2 := u_nle c_2
          have hlt_j : j < (nPl (pM σ)) := by omega
          have hpo := pole_nI hpb (show j < nPl (pM σ) by omega)
          refine lv_aload_n hx hb dX8_holds_24 rfl (lv_at hl 3 rfl) ?_
          refine g8_44 ha hP 0 (by decide) (cM_0 G _) (v := .ref (G.1 11)) rfl dX8_holds_25 ?_
          refine lv_iload_n hx hb dX8_holds_28 rfl (lv_at hl 0 rfl) ?_
          refine xSi ha hP hS (y := yX8_isUp) (As := [.ref (G.1 11), .int (nI j)]) (rest := []) rfl (c_X8_isUp G l σ (pM σ) 11 (nI j) hpb rfl (by unfold oT; omega) hpo) kw_X8_192 hd_X8_isUp rfl ⟨rfl, rfl⟩ ⟨Nat.le_of_ble_eq_true rfl, Nat.le_of_ble_eq_true rfl⟩ ⟨Nat.zero_le _, Nat.zero_le _⟩ hl.1 (Nat.le_of_ble_eq_true rfl) rfl dX8_holds_29 (fun r u H locs hpq hP hS => ?_)
          obtain ⟨hr_, hu_⟩ := hpq
          have hr_ := hr_.symm
          have hu_ := hu_.symm
          subst hr_
          subst hu_
          refine lv_if_eq (tgt := 92) hx hb dX8_holds_32 (by decide) (fun c_3 => ?_) (fun c_3 => ?_)
          · have t_3 := b2i_f c_3
            refine lv_iinc (v := (nI (j + 1))) (lv' := [(3, .int (nI (j + 1))), (2, .int x2), (1, .int x1), (0, .ref (G.1 0))]) hx hb dX8_holds_92 hl (k := 0) rfl (nI_1 j) (by decide) rfl (fun ls hl => ?_)
            refine lv_goto (tgt := 16) hx hb dX8_holds_95 (by decide) ?_
            exact ih_16 (j + 1) x1 x2 _ _ _ (by omega) (by omega) (by rw [a_bits, ← e_x1]; simp [a_stands, c_1, u_2, t_3]; try simp_all) (by rw [a_sum, ← e_x2]; simp [c_1, u_2, t_3]; try simp_all) hP hS (lv_sub hl [0, 1, 2, 3] rfl)
          · have t_3 := b2i_t c_3
            refine lv_aload_n hx hb dX8_holds_35 rfl (lv_at hl 3 rfl) ?_
            refine lv_aload_n hx hb dX8_holds_36 rfl (lv_at hl 3 rfl) ?_
            refine g8_44 ha hP 0 (by decide) (cM_0 G _) (v := .ref (G.1 11)) rfl dX8_holds_37 ?_
            refine lv_iload_n hx hb dX8_holds_40 rfl (lv_at hl 0 rfl) ?_
            refine xVi ha hP hS (y := yX8_holdsOn) (As := [.ref (G.1 11), .int (nI j)]) (rest := []) 0 (by decide) (cM_0 G _) rfl rfl (c_X8_holdsOn G l σ (pM σ) 11 (nI j) hpb rfl (by unfold oT; omega) hpo) kw_X8_196 hd_X8_holdsOn rfl ⟨rfl, rfl⟩ ⟨Nat.le_of_ble_eq_true rfl, Nat.le_of_ble_eq_true rfl⟩ ⟨Nat.zero_le _, Nat.zero_le _⟩ hl.1 (Nat.le_of_ble_eq_true rfl) rfl dX8_holds_41 (fun r u H locs hpq hP hS => ?_)
            obtain ⟨hr_, hu_⟩ := hpq
            have hr_ := hr_.symm
            have hu_ := hu_.symm
            subst hr_
            subst hu_
            refine lv_istore (lv' := [(4, .int (b2i (decide (a_load (pM σ) (sM σ 11) (nI j) ≤ a_bearsNow (pM σ) (sM σ 11) (nI j))))), (3, .int (nI j)), (2, .int x2), (1, .int x1), (0, .ref (G.1 0))]) hx hb dX8_holds_44 hl (by decide) rfl (fun ls hl => ?_)
            refine lv_iload_n hx hb dX8_holds_46 rfl (lv_at hl 3 rfl) ?_
            refine lv_iload hx hb dX8_holds_47 (lv_at hl 0 rfl) ?_
            have jn_4 : ∀ x_4 : Int32, x_4 = (if (decide (a_load (pM σ) (sM σ 11) (nI j) ≤ a_bearsNow (pM σ) (sM σ 11) (nI j))) = true then ((1 <<< (nI j &&& 31)) : Int32) else (0 : Int32)) → W p l e ({ frames := 4, cells := 0, slots := 0, locals := 93 } : Room) s m ([.ref (G.1 0)] : List Value).toArray below meth c H locs 0 0 (MQ below (va_Qi (fun (r : Int32) u => r = (n_holds σ ).1 ∧ u = (n_holds σ ).2) (xB G 24 (cM G)) (xA G 24 s.heap.size)) ([.ref (G.1 0)] : List Value).toArray s 0 0 (xA G 24 s.heap.size)) (F0 m 59 ls [.int x_4, .int x1]) := by
              intro x_4 ex_4
              refine lv_ior hx hb dX8_holds_59 ?_
              refine lv_istore_n (lv' := [(1, .int (x1 ||| x_4)), (4, .int (b2i (decide (a_load (pM σ) (sM σ 11) (nI j) ≤ a_bearsNow (pM σ) (sM σ 11) (nI j))))), (3, .int (nI j)), (2, .int x2), (0, .ref (G.1 0))]) hx hb dX8_holds_60 rfl hl (by decide) rfl (fun ls hl => ?_)
              refine lv_iload_n hx hb dX8_holds_61 rfl (lv_at hl 3 rfl) ?_
              refine lv_iload hx hb dX8_holds_62 (lv_at hl 1 rfl) ?_
              refine lv_if_eq (tgt := 71) hx hb dX8_holds_64 (by decide) (fun c_5 => ?_) (fun c_5 => ?_)
              · have t_5 := b2i_f c_5
                have f_5 := of_decide_eq_false t_5
                refine lv_aload_n hx hb dX8_holds_71 rfl (lv_at hl 4 rfl) ?_
                refine lv_aload_n hx hb dX8_holds_72 rfl (lv_at hl 4 rfl) ?_
                refine g8_44 ha hP 0 (by decide) (cM_0 G _) (v := .ref (G.1 11)) rfl dX8_holds_73 ?_
                refine lv_iload_n hx hb dX8_holds_76 rfl (lv_at hl 2 rfl) ?_
                refine xVi ha hP hS (y := yX8_loadOn) (As := [.ref (G.1 11), .int (nI j)]) (rest := [.int x2]) 0 (by decide) (cM_0 G _) rfl rfl (c_X8_loadOn G l σ (pM σ) 11 (nI j) hpb rfl (by unfold oT; omega) hpo) kw_X8_185 hd_X8_loadOn rfl ⟨rfl, rfl⟩ ⟨Nat.le_of_ble_eq_true rfl, Nat.le_of_ble_eq_true rfl⟩ ⟨Nat.zero_le _, Nat.zero_le _⟩ hl.1 (Nat.le_of_ble_eq_true rfl) rfl dX8_holds_77 (fun r u H locs hpq hP hS => ?_)
                obtain ⟨hr_, hu_⟩ := hpq
                have hr_ := hr_.symm
                have hu_ := hu_.symm
                subst hr_
                subst hu_
                refine lv_aload_n hx hb dX8_holds_80 rfl (lv_at hl 4 rfl) ?_
                refine lv_aload_n hx hb dX8_holds_81 rfl (lv_at hl 4 rfl) ?_
                refine g8_44 ha hP 0 (by decide) (cM_0 G _) (v := .ref (G.1 11)) rfl dX8_holds_82 ?_
                refine lv_iload_n hx hb dX8_holds_85 rfl (lv_at hl 2 rfl) ?_
                refine xVi ha hP hS (y := yX8_bearsOn) (As := [.ref (G.1 11), .int (nI j)]) (rest := [.int (a_load (pM σ) (sM σ 11) (nI j)), .int x2]) 0 (by decide) (cM_0 G _) rfl rfl (c_X8_bearsOn G l σ (pM σ) 11 (nI j) hpb rfl (by unfold oT; omega) hpo) kw_X8_189 hd_X8_bearsOn rfl ⟨rfl, rfl⟩ ⟨Nat.le_of_ble_eq_true rfl, Nat.le_of_ble_eq_true rfl⟩ ⟨Nat.zero_le _, Nat.zero_le _⟩ hl.1 (Nat.le_of_ble_eq_true rfl) rfl dX8_holds_86 (fun r u H locs hpq hP hS => ?_)
                obtain ⟨hr_, hu_⟩ := hpq
                have hr_ := hr_.symm
                have hu_ := hu_.symm
                subst hr_
                subst hu_
                refine lv_isub hx hb dX8_holds_89 ?_
                refine lv_iadd hx hb dX8_holds_90 ?_
                refine lv_istore_n (lv' := [(2, .int (x2 + ((a_load (pM σ) (sM σ 11) (nI j)) - (a_bearsNow (pM σ) (sM σ 11) (nI j))))), (1, .int (x1 ||| x_4)), (4, .int (b2i (decide (a_load (pM σ) (sM σ 11) (nI j) ≤ a_bearsNow (pM σ) (sM σ 11) (nI j))))), (3, .int (nI j)), (0, .ref (G.1 0))]) hx hb dX8_holds_91 rfl hl (by decide) rfl (fun ls hl => ?_)
                refine lv_iinc (v := (nI (j + 1))) (lv' := [(3, .int (nI (j + 1))), (2, .int (x2 + ((a_load (pM σ) (sM σ 11) (nI j)) - (a_bearsNow (pM σ) (sM σ 11) (nI j))))), (1, .int (x1 ||| x_4)), (4, .int (b2i (decide (a_load (pM σ) (sM σ 11) (nI j) ≤ a_bearsNow (pM σ) (sM σ 11) (nI j))))), (0, .ref (G.1 0))]) hx hb dX8_holds_92 hl (k := 3) rfl (nI_1 j) (by decide) rfl (fun ls hl => ?_)
                refine lv_goto (tgt := 16) hx hb dX8_holds_95 (by decide) ?_
                exact ih_16 (j + 1) (x1 ||| x_4) (x2 + ((a_load (pM σ) (sM σ 11) (nI j)) - (a_bearsNow (pM σ) (sM σ 11) (nI j)))) _ _ _ (by omega) (by omega) (by rw [a_bits, ← e_x1]; simp [a_stands, c_1, u_2, t_3, ex_4, t_5, f_5]; try simp_all) (by rw [a_sum, ← e_x2]; simp [c_1, u_2, t_3, ex_4, t_5, f_5]; try simp_all) hP hS (lv_sub hl [0, 1, 2, 4] rfl)
              · have t_5 := b2i_t c_5
                have f_5 := of_decide_eq_true t_5
                refine lv_iconst (v := 0) hx hb dX8_holds_67 (by decide) ?_
                refine lv_goto (tgt := 90) hx hb dX8_holds_68 (by decide) ?_
                refine lv_iadd hx hb dX8_holds_90 ?_
                refine lv_istore_n (lv' := [(2, .int (x2 + 0)), (1, .int (x1 ||| x_4)), (4, .int (b2i (decide (a_load (pM σ) (sM σ 11) (nI j) ≤ a_bearsNow (pM σ) (sM σ 11) (nI j))))), (3, .int (nI j)), (0, .ref (G.1 0))]) hx hb dX8_holds_91 rfl hl (by decide) rfl (fun ls hl => ?_)
                refine lv_iinc (v := (nI (j + 1))) (lv' := [(3, .int (nI (j + 1))), (2, .int (x2 + 0)), (1, .int (x1 ||| x_4)), (4, .int (b2i (decide (a_load (pM σ) (sM σ 11) (nI j) ≤ a_bearsNow (pM σ) (sM σ 11) (nI j))))), (0, .ref (G.1 0))]) hx hb dX8_holds_92 hl (k := 3) rfl (nI_1 j) (by decide) rfl (fun ls hl => ?_)
                refine lv_goto (tgt := 16) hx hb dX8_holds_95 (by decide) ?_
                exact ih_16 (j + 1) (x1 ||| x_4) (x2 + 0) _ _ _ (by omega) (by omega) (by rw [a_bits, ← e_x1]; simp [a_stands, c_1, u_2, t_3, ex_4, t_5, f_5]; try simp_all) (by rw [a_sum, ← e_x2]; simp [c_1, u_2, t_3, ex_4, t_5, f_5]; try simp_all) hP hS (lv_sub hl [0, 1, 2, 4] rfl)
            refine lv_if_eq (tgt := 58) hx hb dX8_holds_49 (by decide) (fun c_4 => ?_) (fun c_4 => ?_)
            · have t_4 := b2i_f c_4
              have f_4 := of_decide_eq_false t_4
              refine lv_iconst (v := 0) hx hb dX8_holds_58 (by decide) ?_
              exact jn_4 _ (if_neg (Bool.eq_false_iff.mp t_4)).symm
            · have t_4 := b2i_t c_4
              have f_4 := of_decide_eq_true t_4
              refine lv_iconst (v := 1) hx hb dX8_holds_52 (by decide) ?_
              refine lv_iload_n hx hb dX8_holds_53 rfl (lv_at hl 1 rfl) ?_
              refine lv_ishl hx hb dX8_holds_54 ?_
              refine lv_goto (tgt := 59) hx hb dX8_holds_55 (by decide) ?_
              exact jn_4 _ (if_pos t_4).symm
    exact lp_16 ((nPl (pM σ)) - 0 + 1) 0 0 0 _ _ _ (by omega) (by omega) rfl rfl hP hS (lv_sub hl [0, 1, 2, 3] rfl)
  · have t_1 := i_eq c_1
    refine lv_bipush (v := (-4)) hx hb dX8_holds_7 (by decide) ?_
    exact xiret ha hP hS dX8_holds_9 ⟨by simp [n_holds, c_1, i_leN, -Int32.not_lt], (by simp [n_holds, c_1, i_leN, -Int32.not_lt])⟩ rfl
set_option maxHeartbeats 4000000 in
set_option maxRecDepth 100000 in
theorem c_X8_gives (G : GT) (l : Launch) (σ : Mem) (k : Int32) (hpb : PB (pM σ)) : CI G 24 (cM G) l yX8_gives ({ frames := 5, cells := 0, slots := 0, locals := 117 } : Room) cX8_gives 3 (some .int) [.ref (G.1 0), .int k] σ (fun (r : Int32) u => r = (n_gives σ k).1 ∧ u = (n_gives σ k).2) := by
  intro sz
  refine xbegin (by decide) (Nat.le_of_ble_eq_true rfl) ?_
  intro p e s m below meth c ls hsz ha hP hl
  subst hsz
  have hx := ha.1
  have hb := ha.2.1
  have hS : va_S (xA G 24 s.heap.size) s.heap s.heap [] := va_S.rf
  have hl : lv_has ls 3 [(0, .ref (G.1 0)), (1, .int k)] := hl
  have k_m9 : (-9 : Int32).toInt = -9 := by decide
  have k_m1 : (-1 : Int32).toInt = -1 := by decide
  have k_0 : (0 : Int32).toInt = 0 := by decide
  have k_1 : (1 : Int32).toInt = 1 := by decide
  have k_4 : (4 : Int32).toInt = 4 := by decide
  have k_5 : (5 : Int32).toInt = 5 := by decide
  have k_6 : (6 : Int32).toInt = 6 := by decide
  have k_41 : (41 : Int32).toInt = 41 := by decide
  have hPL := PB_pl hpb
  have hPE := PB_pe hpb
  have hp4 := PV_pl hpb (rfl : pM σ = pM σ)
  have hp5 := PV_pe hpb (rfl : pM σ = pM σ)
  refine lv_aload_n hx hb dX8_gives_0 rfl (lv_at hl 0 rfl) ?_
  refine lv_iload_n hx hb dX8_gives_1 rfl (lv_at hl 1 rfl) ?_
  refine xVi ha hP hS (y := yX8_isPole) (As := [.int k]) (rest := []) 0 (by decide) (cM_0 G _) rfl rfl (c_X8_isPole G l σ (pM σ) k hpb rfl) kw_X8_206 hd_X8_isPole rfl ⟨rfl, rfl⟩ ⟨Nat.le_of_ble_eq_true rfl, Nat.le_of_ble_eq_true rfl⟩ ⟨Nat.zero_le _, Nat.zero_le _⟩ hl.1 (Nat.le_of_ble_eq_true rfl) rfl dX8_gives_2 (fun r u H locs hpq hP hS => ?_)
  obtain ⟨hr_, hu_⟩ := hpq
  have hr_ := hr_.symm
  have hu_ := hu_.symm
  subst hr_
  subst hu_
  refine lv_if_ne (tgt := 10) hx hb dX8_gives_5 (by decide) (fun c_1 => ?_) (fun c_1 => ?_)
  · have t_1 := b2i_t c_1
    have f_1 := isPole_t t_1
    have hpk := t_1
    refine lv_aload_n hx hb dX8_gives_10 rfl (lv_at hl 0 rfl) ?_
    refine xVv ha hP hS (y := yX8_layAside) (As := []) (rest := []) 0 (by decide) (cM_0 G _) rfl rfl (c_X8_layAside G l σ  ) kw_X8_232 hd_X8_layAside rfl ⟨rfl, rfl⟩ ⟨Nat.le_of_ble_eq_true rfl, Nat.le_of_ble_eq_true rfl⟩ ⟨Nat.zero_le _, Nat.zero_le _⟩ hl.1 (Nat.le_of_ble_eq_true rfl) rfl dX8_gives_11 (fun u H locs hpq hP hS => ?_)
    have hpq := hpq.symm
    subst hpq
    refine lv_iconst (v := 1) hx hb dX8_gives_14 (by decide) ?_
    refine lv_istore_n (lv' := [(2, .int 1), (0, .ref (G.1 0)), (1, .int k)]) hx hb dX8_gives_15 rfl hl (by decide) rfl (fun ls hl => ?_)
    have lp_16 : ∀ (d j : Nat) (τj : Mem) (H : Heap) (locs : List Loc) (ls : Array Slot), j ≤ 40 → 40 - j < d → τj = yM (pM σ) σ j → (pM τj = pM σ) → (fstN (gf (pM σ) σ k) j = j) → va_P G.2.1 vwCl (wl G 24 (cM G τj)) H → va_S (xA G 24 s.heap.size) s.heap H locs → lv_has ls 3 [(2, .int (nI (j + 1))), (0, .ref (G.1 0)), (1, .int k)] → W p l e ({ frames := 5, cells := 0, slots := 0, locals := 117 } : Room) s m ([.ref (G.1 0), .int k] : List Value).toArray below meth c H locs 0 0 (MQ below (va_Qi (fun (r : Int32) u => r = (n_gives σ k).1 ∧ u = (n_gives σ k).2) (xB G 24 (cM G)) (xA G 24 s.heap.size)) ([.ref (G.1 0), .int k] : List Value).toArray s 0 0 (xA G 24 s.heap.size)) (F0 m 16 ls []) := by
      intro d
      induction d with
      | zero => intro j τj H locs ls hj hd; exact absurd hd (Nat.not_lt_zero _)
      | succ d ih_16 =>
        intro j τj H locs ls hj_j hd_j e_τj hPj hst hP hS hl
        have h31_j : (nI j).toInt = (j : Int) := nI_toInt (by omega)
        have h32_j : (nI (j + 1)).toInt = ((j + 1 : Nat) : Int) := nI_toInt (by omega)
        refine lv_iload_n hx hb dX8_gives_16 rfl (lv_at hl 0 rfl) ?_
        refine lv_bipush (v := 41) hx hb dX8_gives_17 (by decide) ?_
        refine lv_icmp_ge (tgt := 45) hx hb dX8_gives_19 (by decide) (fun c_2 => ?_) (fun c_2 => ?_)
        · have t_2 := i_le c_2
          have u_2 := u_le c_2
          have hj40 : j = 40 := by omega
          have hst40 := hst
          rw [hj40] at hst40
          refine lv_bipush (v := (-9)) hx hb dX8_gives_45 (by decide) ?_
          exact xiret ha hP hS dX8_gives_47 ⟨by rw [n_gives, if_pos hpk, if_pos hst40], (by rw [n_gives, if_pos hpk, if_pos hst40, e_τj, hj40])⟩ rfl
        · have t_2 := i_nle c_2
          have u_2 := u_nle c_2
          have hlt_j : j < 40 := by omega
          refine lv_aload_n hx hb dX8_gives_22 rfl (lv_at hl 1 rfl) ?_
          refine lv_aload_n hx hb dX8_gives_23 rfl (lv_at hl 1 rfl) ?_
          refine g8_47 ha hP 0 (by decide) (cM_0 G _) (v := .ref (G.1 12)) rfl dX8_gives_24 ?_
          refine xVi ha hP hS (y := yX8_yearGoes) (As := [.ref (G.1 12)]) (rest := []) 0 (by decide) (cM_0 G _) rfl rfl (c_X8_yearGoes G l τj (pM σ) 12 hpb hPj (by unfold oT; omega)) kw_X8_223 hd_X8_yearGoes rfl ⟨rfl, rfl⟩ ⟨Nat.le_of_ble_eq_true rfl, Nat.le_of_ble_eq_true rfl⟩ ⟨Nat.zero_le _, Nat.zero_le _⟩ hl.1 (Nat.le_of_ble_eq_true rfl) rfl dX8_gives_27 (fun r u H locs hpq hP hS => ?_)
          obtain ⟨hr_, hu_⟩ := hpq
          have hr_ := hr_.symm
          have hu_ := hu_.symm
          subst hr_
          subst hu_
          refine lv_iload_n hx hb dX8_gives_30 rfl (lv_at hl 2 rfl) ?_
          refine xSi ha hP hS (y := yX8_has) (As := [.int (y_gave (pM σ) (sM τj 12)), .int k]) (rest := []) rfl (c_X8_has G l (w_year (pM σ) τj 12) (y_gave (pM σ) (sM τj 12)) k ) kw_X8_181 hd_X8_has rfl ⟨rfl, rfl⟩ ⟨Nat.le_of_ble_eq_true rfl, Nat.le_of_ble_eq_true rfl⟩ ⟨Nat.zero_le _, Nat.zero_le _⟩ hl.1 (Nat.le_of_ble_eq_true rfl) rfl dX8_gives_31 (fun r u H locs hpq hP hS => ?_)
          obtain ⟨hr_, hu_⟩ := hpq
          have hr_ := hr_.symm
          have hu_ := hu_.symm
          subst hr_
          subst hu_
          refine lv_if_eq (tgt := 39) hx hb dX8_gives_34 (by decide) (fun c_3 => ?_) (fun c_3 => ?_)
          · have t_3 := b2i_f c_3
            refine lv_iinc (v := (nI ((j + 1) + 1))) (lv' := [(2, .int (nI ((j + 1) + 1))), (0, .ref (G.1 0)), (1, .int k)]) hx hb dX8_gives_39 hl (k := 0) rfl (nI_1 (j + 1)) (by decide) rfl (fun ls hl => ?_)
            refine lv_goto (tgt := 16) hx hb dX8_gives_42 (by decide) ?_
            exact ih_16 (j + 1) (w_year (pM σ) τj 12) _ _ _ (by omega) (by omega) (by rw [e_τj]; rfl) ((pM_year _ _ (by unfold oT; omega)).trans hPj) (fstN_s hst (by rw [gf, ← e_τj]; assumption)) hP hS (lv_sub hl [0, 1, 2] rfl)
          · have t_3 := b2i_t c_3
            have HB : (gf (pM σ) σ k) j = true := by rw [gf, ← e_τj]; assumption
            have HS := fstN_b hst HB 40 (by omega)
            refine lv_iload_n hx hb dX8_gives_37 rfl (lv_at hl 0 rfl) ?_
            exact xiret ha hP hS dX8_gives_38 ⟨by rw [n_gives, if_pos hpk, if_neg (by rw [HS]; omega), HS], (by rw [n_gives, if_pos hpk, if_neg (by rw [HS]; omega), HS, e_τj]; rfl)⟩ rfl
    exact lp_16 (40 - 0 + 1) 0 (w_aside σ) _ _ _ (by omega) (by omega) rfl ((pM_aside _).trans rfl) rfl hP hS (lv_sub hl [0, 1, 2] rfl)
  · have t_1 := b2i_f c_1
    refine lv_iconst (v := (-1)) hx hb dX8_gives_8 (by decide) ?_
    exact xiret ha hP hS dX8_gives_9 ⟨by simp [n_gives, t_1, i_leN, -Int32.not_lt], (by simp [n_gives, t_1, i_leN, -Int32.not_lt])⟩ rfl
set_option maxHeartbeats 4000000 in
set_option maxRecDepth 100000 in
theorem c_X8_later (G : GT) (l : Launch) (σ : Mem) (n : Int32) (hpb : PB (pM σ)) (hsv : SV (pM σ) σ 11) : CI G 24 (cM G) l yX8_later ({ frames := 5, cells := 0, slots := 0, locals := 117 } : Room) cX8_later 4 (some .int) [.ref (G.1 0), .int n] σ (fun (r : Int32) u => r = (n_later σ n).1 ∧ u = (n_later σ n).2) := by
  intro sz
  refine xbegin (by decide) (Nat.le_of_ble_eq_true rfl) ?_
  intro p e s m below meth c ls hsz ha hP hl
  subst hsz
  have hx := ha.1
  have hb := ha.2.1
  have hS : va_S (xA G 24 s.heap.size) s.heap s.heap [] := va_S.rf
  have hl : lv_has ls 4 [(0, .ref (G.1 0)), (1, .int n)] := hl
  have k_m4 : (-4 : Int32).toInt = -4 := by decide
  have k_m1 : (-1 : Int32).toInt = -1 := by decide
  have k_0 : (0 : Int32).toInt = 0 := by decide
  have k_4 : (4 : Int32).toInt = 4 := by decide
  have k_5 : (5 : Int32).toInt = 5 := by decide
  have k_6 : (6 : Int32).toInt = 6 := by decide
  have hPL := PB_pl hpb
  have hPE := PB_pe hpb
  have hp4 := PV_pl hpb (rfl : pM σ = pM σ)
  have hp5 := PV_pe hpb (rfl : pM σ = pM σ)
  refine lv_iload_n hx hb dX8_later_0 rfl (lv_at hl 1 rfl) ?_
  refine lv_i2l (v := n.toInt64) hx hb dX8_later_1 rfl ?_
  refine lv_lconst (v := 0) hx hb dX8_later_2 (by decide) ?_
  refine lv_ldc2 (v := 40) hx hb ha.2.2.2.1 (ha.2.2.2.2.1 _ (tb_in (w := .constantLong RX8 235 40) (by decide +kernel))) dX8_later_3 ?_
  refine xSi ha hP hS (y := yX8_in) (As := [.long n.toInt64, .long 0, .long 40]) (rest := []) rfl (c_X8_in G l σ n.toInt64 0 40 ) kw_X8_95 hd_X8_in rfl ⟨rfl, rfl⟩ ⟨Nat.le_of_ble_eq_true rfl, Nat.le_of_ble_eq_true rfl⟩ ⟨Nat.zero_le _, Nat.zero_le _⟩ hl.1 (Nat.le_of_ble_eq_true rfl) rfl dX8_later_6 (fun r u H locs hpq hP hS => ?_)
  obtain ⟨hr_, hu_⟩ := hpq
  have hr_ := hr_.symm
  have hu_ := hu_.symm
  subst hr_
  subst hu_
  refine lv_if_ne (tgt := 14) hx hb dX8_later_9 (by decide) (fun c_1 => ?_) (fun c_1 => ?_)
  · have t_1 := b2i_t c_1
    have f_1 := bin_t t_1
    try simp only [Int32.toInt_toInt64, ll_0, ll_1, ll_2, ll_3, ll_4, ll_5, ll_9, ll_12, ll_20, ll_40, ll_57, ll_99, ll_2147483646] at f_1
    refine lv_aload_n hx hb dX8_later_14 rfl (lv_at hl 0 rfl) ?_
    refine g8_163 ha hP 0 (by decide) (cM_0 G _) (v := .int (σ 0 4)) rfl dX8_later_15 ?_
    refine lv_if_ne (tgt := 24) hx hb dX8_later_18 (by decide) (fun c_2 => ?_) (fun c_2 => ?_)
    · have t_2 := i_ne c_2
      refine lv_aload_n hx hb dX8_later_24 rfl (lv_at hl 0 rfl) ?_
      refine xVv ha hP hS (y := yX8_layAside) (As := []) (rest := []) 0 (by decide) (cM_0 G _) rfl rfl (c_X8_layAside G l σ  ) kw_X8_232 hd_X8_layAside rfl ⟨rfl, rfl⟩ ⟨Nat.le_of_ble_eq_true rfl, Nat.le_of_ble_eq_true rfl⟩ ⟨Nat.zero_le _, Nat.zero_le _⟩ hl.1 (Nat.le_of_ble_eq_true rfl) rfl dX8_later_25 (fun u H locs hpq hP hS => ?_)
      have hpq := hpq.symm
      subst hpq
      have hni := ix_toInt (show 0 ≤ n.toInt by omega)
      refine lv_iconst (v := 0) hx hb dX8_later_28 (by decide) ?_
      refine lv_istore_n (lv' := [(2, .int 0), (0, .ref (G.1 0)), (1, .int n)]) hx hb dX8_later_29 rfl hl (by decide) rfl (fun ls hl => ?_)
      have lp_30 : ∀ (d j : Nat) (τj : Mem) (H : Heap) (locs : List Loc) (ls : Array Slot), j ≤ (ix n) → (ix n) - j < d → τj = yM (pM σ) σ j → (pM τj = pM σ) → va_P G.2.1 vwCl (wl G 24 (cM G τj)) H → va_S (xA G 24 s.heap.size) s.heap H locs → lv_has ls 4 [(2, .int (nI j)), (0, .ref (G.1 0)), (1, .int n)] → W p l e ({ frames := 5, cells := 0, slots := 0, locals := 117 } : Room) s m ([.ref (G.1 0), .int n] : List Value).toArray below meth c H locs 0 0 (MQ below (va_Qi (fun (r : Int32) u => r = (n_later σ n).1 ∧ u = (n_later σ n).2) (xB G 24 (cM G)) (xA G 24 s.heap.size)) ([.ref (G.1 0), .int n] : List Value).toArray s 0 0 (xA G 24 s.heap.size)) (F0 m 30 ls []) := by
        intro d
        induction d with
        | zero => intro j τj H locs ls hj hd; exact absurd hd (Nat.not_lt_zero _)
        | succ d ih_30 =>
          intro j τj H locs ls hj_j hd_j e_τj hPj hP hS hl
          have h31_j : (nI j).toInt = (j : Int) := nI_toInt (by omega)
          have hni := ix_toInt (show 0 ≤ n.toInt by omega)
          refine lv_iload_n hx hb dX8_later_30 rfl (lv_at hl 0 rfl) ?_
          refine lv_iload_n hx hb dX8_later_31 rfl (lv_at hl 2 rfl) ?_
          refine lv_icmp_ge (tgt := 50) hx hb dX8_later_32 (by decide) (fun c_3 => ?_) (fun c_3 => ?_)
          · have t_3 := i_le c_3
            have u_3 := u_le c_3
            obtain rfl : j = (ix n) := by omega
            have hsvn : SV (pM σ) τj 12 := by rw [e_τj]; exact SV_yM hPL.2.1 hPE.2.1 hsv _
            refine lv_aload_n hx hb dX8_later_50 rfl (lv_at hl 1 rfl) ?_
            refine lv_aload_n hx hb dX8_later_51 rfl (lv_at hl 1 rfl) ?_
            refine lv_aload_n hx hb dX8_later_52 rfl (lv_at hl 1 rfl) ?_
            refine g8_47 ha hP 0 (by decide) (cM_0 G _) (v := .ref (G.1 12)) rfl dX8_later_53 ?_
            refine xVi ha hP hS (y := yX8_highAll) (As := [.ref (G.1 12)]) (rest := [.ref (G.1 0)]) 0 (by decide) (cM_0 G _) rfl rfl (c_X8_highAll G l τj (pM σ) 12 hpb hPj (by unfold oT; omega) (by first | assumption | omega)) kw_X8_237 hd_X8_highAll rfl ⟨rfl, rfl⟩ ⟨Nat.le_of_ble_eq_true rfl, Nat.le_of_ble_eq_true rfl⟩ ⟨Nat.zero_le _, Nat.zero_le _⟩ hl.1 (Nat.le_of_ble_eq_true rfl) rfl dX8_later_56 (fun r u H locs hpq hP hS => ?_)
            obtain ⟨hr_, hu_⟩ := hpq
            have hr_ := hr_.symm
            have hu_ := hu_.symm
            subst hr_
            subst hu_
            refine lv_aload_n hx hb dX8_later_59 rfl (lv_at hl 1 rfl) ?_
            refine g8_47 ha hP 0 (by decide) (cM_0 G _) (v := .ref (G.1 12)) rfl dX8_later_60 ?_
            refine lv_iconst (v := 4) hx hb dX8_later_63 (by decide) ?_
            refine xialdN ha hP 12 (by decide) (cM_12 G _) 4 (by decide) (by decide) (by decide) dX8_later_64 ?_
            refine xVi ha hP hS (y := yX8_answer) (As := [.int (a_highAll (pM σ) (sM τj 12)), .int (τj 12 4)]) (rest := []) 0 (by decide) (cM_0 G _) rfl rfl (c_X8_answer G l τj (a_highAll (pM σ) (sM τj 12)) (τj 12 4) ) kw_X8_229 hd_X8_answer rfl ⟨rfl, rfl⟩ ⟨Nat.le_of_ble_eq_true rfl, Nat.le_of_ble_eq_true rfl⟩ ⟨Nat.zero_le _, Nat.zero_le _⟩ hl.1 (Nat.le_of_ble_eq_true rfl) rfl dX8_later_65 (fun r u H locs hpq hP hS => ?_)
            obtain ⟨hr_, hu_⟩ := hpq
            have hr_ := hr_.symm
            have hu_ := hu_.symm
            subst hr_
            subst hu_
            exact xiret ha hP hS dX8_later_68 ⟨by rw [e_τj]; simp [n_later, t_1, c_2, u_3], (by rw [e_τj]; simp [n_later, t_1, c_2, u_3])⟩ rfl
          · have t_3 := i_nle c_3
            have u_3 := u_nle c_3
            have hlt_j : j < (ix n) := by omega
            refine lv_aload_n hx hb dX8_later_35 rfl (lv_at hl 1 rfl) ?_
            refine lv_aload_n hx hb dX8_later_36 rfl (lv_at hl 1 rfl) ?_
            refine g8_47 ha hP 0 (by decide) (cM_0 G _) (v := .ref (G.1 12)) rfl dX8_later_37 ?_
            refine xVi ha hP hS (y := yX8_yearGoes) (As := [.ref (G.1 12)]) (rest := []) 0 (by decide) (cM_0 G _) rfl rfl (c_X8_yearGoes G l τj (pM σ) 12 hpb hPj (by unfold oT; omega)) kw_X8_223 hd_X8_yearGoes rfl ⟨rfl, rfl⟩ ⟨Nat.le_of_ble_eq_true rfl, Nat.le_of_ble_eq_true rfl⟩ ⟨Nat.zero_le _, Nat.zero_le _⟩ hl.1 (Nat.le_of_ble_eq_true rfl) rfl dX8_later_40 (fun r u H locs hpq hP hS => ?_)
            obtain ⟨hr_, hu_⟩ := hpq
            have hr_ := hr_.symm
            have hu_ := hu_.symm
            subst hr_
            subst hu_
            refine lv_istore_n (lv' := [(3, .int (y_gave (pM σ) (sM τj 12))), (2, .int (nI j)), (0, .ref (G.1 0)), (1, .int n)]) hx hb dX8_later_43 rfl hl (by decide) rfl (fun ls hl => ?_)
            refine lv_iinc (v := (nI (j + 1))) (lv' := [(2, .int (nI (j + 1))), (3, .int (y_gave (pM σ) (sM τj 12))), (0, .ref (G.1 0)), (1, .int n)]) hx hb dX8_later_44 hl (k := 1) rfl (nI_1 j) (by decide) rfl (fun ls hl => ?_)
            refine lv_goto (tgt := 30) hx hb dX8_later_47 (by decide) ?_
            exact ih_30 (j + 1) (w_year (pM σ) τj 12) _ _ _ (by omega) (by omega) (by rw [e_τj]; rfl) ((pM_year _ _ (by unfold oT; omega)).trans hPj) hP hS (lv_sub hl [0, 2, 3] rfl)
      exact lp_30 ((ix n) - 0 + 1) 0 (w_aside σ) _ _ _ (by omega) (by omega) rfl ((pM_aside _).trans rfl) hP hS (lv_sub hl [0, 1, 2] rfl)
    · have t_2 := i_eq c_2
      refine lv_bipush (v := (-4)) hx hb dX8_later_21 (by decide) ?_
      exact xiret ha hP hS dX8_later_23 ⟨by simp [n_later, t_1, c_2, i_leN, -Int32.not_lt], (by simp [n_later, t_1, c_2, i_leN, -Int32.not_lt])⟩ rfl
  · have t_1 := b2i_f c_1
    have f_1 := bin_f t_1
    try simp only [Int32.toInt_toInt64, ll_0, ll_1, ll_2, ll_3, ll_4, ll_5, ll_9, ll_12, ll_20, ll_40, ll_57, ll_99, ll_2147483646] at f_1
    refine lv_iconst (v := (-1)) hx hb dX8_later_12 (by decide) ?_
    exact xiret ha hP hS dX8_later_13 ⟨by simp [n_later, t_1, i_leN, -Int32.not_lt], (by simp [n_later, t_1, i_leN, -Int32.not_lt])⟩ rfl
set_option maxHeartbeats 4000000 in
set_option maxRecDepth 100000 in
theorem c_X8_failing (G : GT) (l : Launch) (σ : Mem) (P : PT) (hpb : PB P) (hPV : pM σ = P) : CI G 24 (cM G) l yX8_failing ({ frames := 4, cells := 0, slots := 0, locals := 93 } : Room) cX8_failing 3 (some .int) [.ref (G.1 0)] σ (fun (r : Int32) u => r = b_fail P (sM σ 12) ∧ u = σ) := by
  intro sz
  refine xbegin (by decide) (Nat.le_of_ble_eq_true rfl) ?_
  intro p e s m below meth c ls hsz ha hP hl
  subst hsz
  have hx := ha.1
  have hb := ha.2.1
  have hS : va_S (xA G 24 s.heap.size) s.heap s.heap [] := va_S.rf
  have hl : lv_has ls 3 [(0, .ref (G.1 0))] := hl
  have k_0 : (0 : Int32).toInt = 0 := by decide
  have k_1 : (1 : Int32).toInt = 1 := by decide
  have k_4 : (4 : Int32).toInt = 4 := by decide
  have k_5 : (5 : Int32).toInt = 5 := by decide
  have k_6 : (6 : Int32).toInt = 6 := by decide
  have hPL := PB_pl hpb
  have hPE := PB_pe hpb
  have hp4 := PV_pl hpb hPV
  have hp5 := PV_pe hpb hPV
  refine lv_iconst (v := 0) hx hb dX8_failing_0 (by decide) ?_
  refine lv_istore_n (lv' := [(1, .int 0), (0, .ref (G.1 0))]) hx hb dX8_failing_1 rfl hl (by decide) rfl (fun ls hl => ?_)
  refine lv_iconst (v := 0) hx hb dX8_failing_2 (by decide) ?_
  refine lv_istore_n (lv' := [(2, .int 0), (1, .int 0), (0, .ref (G.1 0))]) hx hb dX8_failing_3 rfl hl (by decide) rfl (fun ls hl => ?_)
  have lp_4 : ∀ (d j : Nat) (x1 : Int32) (H : Heap) (locs : List Loc) (ls : Array Slot), j ≤ (nPl P) → (nPl P) - j < d → x1 = a_sum (fun k => if a_isUp P (sM σ 12) (nI k) = true then (if a_load P (sM σ 12) (nI k) ≤ a_bearsNow P (sM σ 12) (nI k) then 0 else 1) else 0) j → va_P G.2.1 vwCl (wl G 24 (cM G σ)) H → va_S (xA G 24 s.heap.size) s.heap H locs → lv_has ls 3 [(2, .int (nI j)), (1, .int x1), (0, .ref (G.1 0))] → W p l e ({ frames := 4, cells := 0, slots := 0, locals := 93 } : Room) s m ([.ref (G.1 0)] : List Value).toArray below meth c H locs 0 0 (MQ below (va_Qi (fun (r : Int32) u => r = b_fail P (sM σ 12) ∧ u = σ) (xB G 24 (cM G)) (xA G 24 s.heap.size)) ([.ref (G.1 0)] : List Value).toArray s 0 0 (xA G 24 s.heap.size)) (F0 m 4 ls []) := by
    intro d
    induction d with
    | zero => intro j x1 H locs ls hj hd; exact absurd hd (Nat.not_lt_zero _)
    | succ d ih_4 =>
      intro j x1 H locs ls hj_j hd_j e_x1 hP hS hl
      have h31_j : (nI j).toInt = (j : Int) := nI_toInt (by omega)
      refine lv_iload_n hx hb dX8_failing_4 rfl (lv_at hl 0 rfl) ?_
      refine lv_aload_n hx hb dX8_failing_5 rfl (lv_at hl 2 rfl) ?_
      refine g8_163 ha hP 0 (by decide) (cM_0 G _) (v := .int (σ 0 4)) rfl dX8_failing_6 ?_
      refine lv_icmp_ge (tgt := 49) hx hb dX8_failing_9 (by decide) (fun c_1 => ?_) (fun c_1 => ?_)
      · have t_1 := i_le c_1
        have u_1 := u_le c_1
        obtain rfl : j = (nPl P) := by omega
        refine lv_iload_n hx hb dX8_failing_49 rfl (lv_at hl 1 rfl) ?_
        exact xiret ha hP hS dX8_failing_50 ⟨by exact e_x1, rfl⟩ rfl
      · have t_1 := i_nle c_1
        have u_1 := u_nle c_1
        have hlt_j : j < (nPl P) := by omega
        have hpo := pole_nI hpb hlt_j
        refine lv_iload_n hx hb dX8_failing_12 rfl (lv_at hl 1 rfl) ?_
        refine lv_aload_n hx hb dX8_failing_13 rfl (lv_at hl 2 rfl) ?_
        refine g8_47 ha hP 0 (by decide) (cM_0 G _) (v := .ref (G.1 12)) rfl dX8_failing_14 ?_
        refine lv_iload_n hx hb dX8_failing_17 rfl (lv_at hl 0 rfl) ?_
        refine xSi ha hP hS (y := yX8_isUp) (As := [.ref (G.1 12), .int (nI j)]) (rest := [.int x1]) rfl (c_X8_isUp G l σ P 12 (nI j) hpb hPV (by unfold oT; omega) hpo) kw_X8_192 hd_X8_isUp rfl ⟨rfl, rfl⟩ ⟨Nat.le_of_ble_eq_true rfl, Nat.le_of_ble_eq_true rfl⟩ ⟨Nat.zero_le _, Nat.zero_le _⟩ hl.1 (Nat.le_of_ble_eq_true rfl) rfl dX8_failing_18 (fun r u H locs hpq hP hS => ?_)
        obtain ⟨hr_, hu_⟩ := hpq
        have hr_ := hr_.symm
        have hu_ := hu_.symm
        subst hr_
        subst hu_
        refine lv_if_eq (tgt := 40) hx hb dX8_failing_21 (by decide) (fun c_2 => ?_) (fun c_2 => ?_)
        · have t_2 := b2i_f c_2
          refine lv_iconst (v := 0) hx hb dX8_failing_40 (by decide) ?_
          refine lv_iadd hx hb dX8_failing_41 ?_
          refine lv_istore_n (lv' := [(1, .int (x1 + 0)), (2, .int (nI j)), (0, .ref (G.1 0))]) hx hb dX8_failing_42 rfl hl (by decide) rfl (fun ls hl => ?_)
          refine lv_iinc (v := (nI (j + 1))) (lv' := [(2, .int (nI (j + 1))), (1, .int (x1 + 0)), (0, .ref (G.1 0))]) hx hb dX8_failing_43 hl (k := 1) rfl (nI_1 j) (by decide) rfl (fun ls hl => ?_)
          refine lv_goto (tgt := 4) hx hb dX8_failing_46 (by decide) ?_
          exact ih_4 (j + 1) (x1 + 0) _ _ _ (by omega) (by omega) (by rw [a_sum, ← e_x1]; simp [u_1, t_2]; try simp_all) hP hS (lv_sub hl [0, 1, 2] rfl)
        · have t_2 := b2i_t c_2
          refine lv_aload_n hx hb dX8_failing_24 rfl (lv_at hl 2 rfl) ?_
          refine lv_aload_n hx hb dX8_failing_25 rfl (lv_at hl 2 rfl) ?_
          refine g8_47 ha hP 0 (by decide) (cM_0 G _) (v := .ref (G.1 12)) rfl dX8_failing_26 ?_
          refine lv_iload_n hx hb dX8_failing_29 rfl (lv_at hl 0 rfl) ?_
          refine xVi ha hP hS (y := yX8_holdsOn) (As := [.ref (G.1 12), .int (nI j)]) (rest := [.int x1]) 0 (by decide) (cM_0 G _) rfl rfl (c_X8_holdsOn G l σ P 12 (nI j) hpb hPV (by unfold oT; omega) hpo) kw_X8_196 hd_X8_holdsOn rfl ⟨rfl, rfl⟩ ⟨Nat.le_of_ble_eq_true rfl, Nat.le_of_ble_eq_true rfl⟩ ⟨Nat.zero_le _, Nat.zero_le _⟩ hl.1 (Nat.le_of_ble_eq_true rfl) rfl dX8_failing_30 (fun r u H locs hpq hP hS => ?_)
          obtain ⟨hr_, hu_⟩ := hpq
          have hr_ := hr_.symm
          have hu_ := hu_.symm
          subst hr_
          subst hu_
          have jn_3 : ∀ x_3 : Int32, x_3 = (if (decide (a_load P (sM σ 12) (nI j) ≤ a_bearsNow P (sM σ 12) (nI j))) = true then 0 else 1) → W p l e ({ frames := 4, cells := 0, slots := 0, locals := 93 } : Room) s m ([.ref (G.1 0)] : List Value).toArray below meth c H locs 0 0 (MQ below (va_Qi (fun (r : Int32) u => r = b_fail P (sM σ 12) ∧ u = σ) (xB G 24 (cM G)) (xA G 24 s.heap.size)) ([.ref (G.1 0)] : List Value).toArray s 0 0 (xA G 24 s.heap.size)) (F0 m 41 ls [.int x_3, .int x1]) := by
            intro x_3 ex_3
            refine lv_iadd hx hb dX8_failing_41 ?_
            refine lv_istore_n (lv' := [(1, .int (x1 + x_3)), (2, .int (nI j)), (0, .ref (G.1 0))]) hx hb dX8_failing_42 rfl hl (by decide) rfl (fun ls hl => ?_)
            refine lv_iinc (v := (nI (j + 1))) (lv' := [(2, .int (nI (j + 1))), (1, .int (x1 + x_3)), (0, .ref (G.1 0))]) hx hb dX8_failing_43 hl (k := 1) rfl (nI_1 j) (by decide) rfl (fun ls hl => ?_)
            refine lv_goto (tgt := 4) hx hb dX8_failing_46 (by decide) ?_
            exact ih_4 (j + 1) (x1 + x_3) _ _ _ (by omega) (by omega) (by rw [a_sum, ← e_x1]; simp [u_1, t_2, ex_3]; try simp_all) hP hS (lv_sub hl [0, 1, 2] rfl)
          refine lv_if_ne (tgt := 40) hx hb dX8_failing_33 (by decide) (fun c_3 => ?_) (fun c_3 => ?_)
          · have t_3 := b2i_t c_3
            have f_3 := of_decide_eq_true t_3
            refine lv_iconst (v := 0) hx hb dX8_failing_40 (by decide) ?_
            exact jn_3 _ (if_pos t_3).symm
          · have t_3 := b2i_f c_3
            have f_3 := of_decide_eq_false t_3
            refine lv_iconst (v := 1) hx hb dX8_failing_36 (by decide) ?_
            refine lv_goto (tgt := 41) hx hb dX8_failing_37 (by decide) ?_
            exact jn_3 _ (if_neg (Bool.eq_false_iff.mp t_3)).symm
  exact lp_4 ((nPl P) - 0 + 1) 0 0 _ _ _ (by omega) (by omega) rfl hP hS (lv_sub hl [0, 1, 2] rfl)
set_option maxHeartbeats 4000000 in
set_option maxRecDepth 100000 in
theorem c_X8_refusesTriples (G : GT) (l : Launch) (σ : Mem) (ro : Int32) (hrm : RM σ) (hro6 : a_in ro 6 = true) : CI G 24 (cM G) l yX8_refusesTriples ({ frames := 1, cells := 0, slots := 0, locals := 25 } : Room) cX8_refusesTriples 3 (some .int) [.ref (G.1 0), .int ro] σ (fun (r : Int32) u => r = (n_ref σ ro).1 ∧ u = (n_ref σ ro).2) := by
  intro sz
  refine xbegin (by decide) (Nat.le_of_ble_eq_true rfl) ?_
  intro p e s m below meth c ls hsz ha hP hl
  subst hsz
  have hx := ha.1
  have hb := ha.2.1
  have hS : va_S (xA G 24 s.heap.size) s.heap s.heap [] := va_S.rf
  have hl : lv_has ls 3 [(0, .ref (G.1 0)), (1, .int ro)] := hl
  have k_0 : (0 : Int32).toInt = 0 := by decide
  have k_1 : (1 : Int32).toInt = 1 := by decide
  have k_2 : (2 : Int32).toInt = 2 := by decide
  have k_3 : (3 : Int32).toInt = 3 := by decide
  have k_4 : (4 : Int32).toInt = 4 := by decide
  have k_5 : (5 : Int32).toInt = 5 := by decide
  have k_6 : (6 : Int32).toInt = 6 := by decide
  have k_40 : (40 : Int32).toInt = 40 := by decide
  have hro1 := in_t hro6
  have hr1 := hrm.1 (ix ro) (ix_lt (by omega) (by omega))
  have hc0 := ix_cases (σ 2 (ix ro))
  have hro := ix_toInt (show 0 ≤ ro.toInt by omega)
  have htn : tNM σ (ix ro) ≤ 14 := by unfold tNM; omega
  have htd : 3 * tNM σ (ix ro) < ix (σ 2 (ix ro)) + 3 ∧ ix (σ 2 (ix ro)) ≤ 3 * tNM σ (ix ro) := by unfold tNM; omega
  refine lv_aload_n hx hb dX8_refusesTriples_0 rfl (lv_at hl 0 rfl) ?_
  refine g8_13 ha hP 0 (by decide) (cM_0 G _) (v := .ref (G.1 2)) rfl dX8_refusesTriples_1 ?_
  refine lv_iload_n hx hb dX8_refusesTriples_4 rfl (lv_at hl 1 rfl) ?_
  refine xialdN ha hP 2 (by decide) (cM_2 G _) (ix ro) (ix_nI (by omega)) (ix_lt (by omega) (by omega)) (by decide) dX8_refusesTriples_5 ?_
  refine lv_if_ge (tgt := 15) hx hb dX8_refusesTriples_6 (by decide) (fun c_1 => ?_) (fun c_1 => ?_)
  · have t_1 := i_le c_1
    have u_1 := u_le c_1
    refine lv_aload_n hx hb dX8_refusesTriples_15 rfl (lv_at hl 0 rfl) ?_
    refine g8_13 ha hP 0 (by decide) (cM_0 G _) (v := .ref (G.1 2)) rfl dX8_refusesTriples_16 ?_
    refine lv_iload_n hx hb dX8_refusesTriples_19 rfl (lv_at hl 1 rfl) ?_
    refine xialdN ha hP 2 (by decide) (cM_2 G _) (ix ro) (ix_nI (by omega)) (ix_lt (by omega) (by omega)) (by decide) dX8_refusesTriples_20 ?_
    refine lv_iconst (v := 3) hx hb dX8_refusesTriples_21 (by decide) ?_
    refine lv_irem hx hb dX8_refusesTriples_22 (by decide) ?_
    refine lv_if_eq (tgt := 32) hx hb dX8_refusesTriples_23 (by decide) (fun c_2 => ?_) (fun c_2 => ?_)
    · have t_2 := i_eq c_2
      have ht3 := tN_3 (show ¬ σ 2 (ix ro) < 0 by assumption) (show σ 2 (ix ro) - σ 2 (ix ro) / 3 * 3 = 0 by assumption)
      refine lv_bipush (v := 40) hx hb dX8_refusesTriples_32 (by decide) ?_
      refine lv_iload_n hx hb dX8_refusesTriples_34 rfl (lv_at hl 1 rfl) ?_
      refine lv_imulE (z := (nI (40 * ix ro))) hx hb dX8_refusesTriples_35 (nmul (rfl : (40 : Int32) = nI 40) (ix_nI (by omega))) ?_
      refine lv_istore_n (lv' := [(2, .int (nI (40 * ix ro))), (0, .ref (G.1 0)), (1, .int ro)]) hx hb dX8_refusesTriples_36 rfl hl (by decide) rfl (fun ls hl => ?_)
      have lp_37 : ∀ (d j : Nat)  (H : Heap) (locs : List Loc) (ls : Array Slot), j ≤ (tNM σ (ix ro)) → (tNM σ (ix ro)) - j < d → (fstN (rt_bad σ (ix ro)) j = j) → va_P G.2.1 vwCl (wl G 24 (cM G σ)) H → va_S (xA G 24 s.heap.size) s.heap H locs → lv_has ls 3 [(2, .int (nI (40 * ix ro + 3 * j))), (0, .ref (G.1 0)), (1, .int ro)] → W p l e ({ frames := 1, cells := 0, slots := 0, locals := 25 } : Room) s m ([.ref (G.1 0), .int ro] : List Value).toArray below meth c H locs 0 0 (MQ below (va_Qi (fun (r : Int32) u => r = (n_ref σ ro).1 ∧ u = (n_ref σ ro).2) (xB G 24 (cM G)) (xA G 24 s.heap.size)) ([.ref (G.1 0), .int ro] : List Value).toArray s 0 0 (xA G 24 s.heap.size)) (F0 m 37 ls []) := by
        intro d
        induction d with
        | zero => intro j  H locs ls hj hd; exact absurd hd (Nat.not_lt_zero _)
        | succ d ih_37 =>
          intro j  H locs ls hj_j hd_j hst hP hS hl
          have h31_j : (nI j).toInt = (j : Int) := nI_toInt (by omega)
          have h3_j : (nI (40 * ix ro + 3 * j)).toInt = ((40 * ix ro + 3 * j : Nat) : Int) := nI_toInt (by omega)
          have h4_j : (nI (40 * ix ro + ix (σ 2 (ix ro)))).toInt = ((40 * ix ro + ix (σ 2 (ix ro)) : Nat) : Int) := nI_toInt (by omega)
          refine lv_iload_n hx hb dX8_refusesTriples_37 rfl (lv_at hl 0 rfl) ?_
          refine lv_bipush (v := 40) hx hb dX8_refusesTriples_38 (by decide) ?_
          refine lv_iload_n hx hb dX8_refusesTriples_40 rfl (lv_at hl 2 rfl) ?_
          refine lv_imulE (z := (nI (40 * ix ro))) hx hb dX8_refusesTriples_41 (nmul (rfl : (40 : Int32) = nI 40) (ix_nI (by omega))) ?_
          refine lv_aload_n hx hb dX8_refusesTriples_42 rfl (lv_at hl 1 rfl) ?_
          refine g8_13 ha hP 0 (by decide) (cM_0 G _) (v := .ref (G.1 2)) rfl dX8_refusesTriples_43 ?_
          refine lv_iload_n hx hb dX8_refusesTriples_46 rfl (lv_at hl 2 rfl) ?_
          refine xialdN ha hP 2 (by decide) (cM_2 G _) (ix ro) (ix_nI (by omega)) (ix_lt (by omega) (by omega)) (by decide) dX8_refusesTriples_47 ?_
          refine lv_iaddE (z := (nI (40 * ix ro + ix (σ 2 (ix ro))))) hx hb dX8_refusesTriples_48 (nadd rfl (ix_nI (by omega))) ?_
          refine lv_icmp_ge (tgt := 117) hx hb dX8_refusesTriples_49 (by decide) (fun c_3 => ?_) (fun c_3 => ?_)
          · have t_3 := i_le c_3
            have u_3 := u_le c_3
            obtain rfl : j = tNM σ (ix ro) := by omega
            refine lv_iconst (v := 0) hx hb dX8_refusesTriples_117 (by decide) ?_
            exact xiret ha hP hS dX8_refusesTriples_118 ⟨by rw [n_ref, if_neg (by assumption), if_pos (by assumption), if_pos hst], (by rw [n_ref, if_neg (by assumption), if_pos (by assumption), if_pos hst])⟩ rfl
          · have t_3 := i_nle c_3
            have u_3 := u_nle c_3
            have hlt_j : j < (tNM σ (ix ro)) := by omega
            refine lv_aload_n hx hb dX8_refusesTriples_52 rfl (lv_at hl 1 rfl) ?_
            refine g8_7 ha hP 0 (by decide) (cM_0 G _) (v := .ref (G.1 1)) rfl dX8_refusesTriples_53 ?_
            refine lv_iload_n hx hb dX8_refusesTriples_56 rfl (lv_at hl 0 rfl) ?_
            refine xialdN ha hP 1 (by decide) (cM_1 G _) (40 * ix ro + 3 * j) rfl (by omega) (by decide) dX8_refusesTriples_57 ?_
            refine lv_i2l (v := (σ 1 (40 * ix ro + 3 * j)).toInt64) hx hb dX8_refusesTriples_58 rfl ?_
            refine lv_lconst (v := 0) hx hb dX8_refusesTriples_59 (by decide) ?_
            refine lv_ldc2 (v := 20) hx hb ha.2.2.2.1 (ha.2.2.2.2.1 _ (tb_in (w := .constantLong RX8 215 20) (by decide +kernel))) dX8_refusesTriples_60 ?_
            refine xSi ha hP hS (y := yX8_in) (As := [.long ((σ 1 (40 * ix ro + 3 * j)).toInt64), .long 0, .long 20]) (rest := []) rfl (c_X8_in G l σ ((σ 1 (40 * ix ro + 3 * j)).toInt64) 0 20 ) kw_X8_95 hd_X8_in rfl ⟨rfl, rfl⟩ ⟨Nat.le_of_ble_eq_true rfl, Nat.le_of_ble_eq_true rfl⟩ ⟨Nat.zero_le _, Nat.zero_le _⟩ hl.1 (Nat.le_of_ble_eq_true rfl) rfl dX8_refusesTriples_63 (fun r u H locs hpq hP hS => ?_)
            obtain ⟨hr_, hu_⟩ := hpq
            have hr_ := hr_.symm
            have hu_ := hu_.symm
            subst hr_
            subst hu_
            refine lv_if_eq (tgt := 105) hx hb dX8_refusesTriples_66 (by decide) (fun c_4 => ?_) (fun c_4 => ?_)
            · have t_4 := b2i_f c_4
              have f_4 := bin_f t_4
              try simp only [Int32.toInt_toInt64, ll_0, ll_1, ll_2, ll_3, ll_4, ll_5, ll_9, ll_12, ll_20, ll_40, ll_57, ll_99, ll_2147483646] at f_4
              have HB : rt_bad σ (ix ro) j = true := by simp [rt_bad, u_1, c_2, u_3, t_4]
              have HS := fstN_b hst HB (tNM σ (ix ro)) (by omega)
              refine lv_aload_n hx hb dX8_refusesTriples_105 rfl (lv_at hl 1 rfl) ?_
              refine lv_iconst (v := 3) hx hb dX8_refusesTriples_106 (by decide) ?_
              refine xVi ha hP hS (y := yX8_found) (As := [.int 3]) (rest := []) 0 (by decide) (cM_0 G _) rfl rfl (c_X8_found G l σ 3 (by decide)) kw_X8_105 hd_X8_found rfl ⟨rfl, rfl⟩ ⟨Nat.le_of_ble_eq_true rfl, Nat.le_of_ble_eq_true rfl⟩ ⟨Nat.zero_le _, Nat.zero_le _⟩ hl.1 (Nat.le_of_ble_eq_true rfl) rfl dX8_refusesTriples_107 (fun r u H locs hpq hP hS => ?_)
              obtain ⟨hr_, hu_⟩ := hpq
              have hr_ := hr_.symm
              have hu_ := hu_.symm
              subst hr_
              subst hu_
              exact xiret ha hP hS dX8_refusesTriples_110 ⟨by rw [n_ref, if_neg (by assumption), if_pos (by assumption), if_neg (by rw [HS]; omega)], (by rw [n_ref, if_neg (by assumption), if_pos (by assumption), if_neg (by rw [HS]; omega)])⟩ rfl
            · have t_4 := b2i_t c_4
              have f_4 := bin_t t_4
              try simp only [Int32.toInt_toInt64, ll_0, ll_1, ll_2, ll_3, ll_4, ll_5, ll_9, ll_12, ll_20, ll_40, ll_57, ll_99, ll_2147483646] at f_4
              refine lv_aload_n hx hb dX8_refusesTriples_69 rfl (lv_at hl 1 rfl) ?_
              refine g8_7 ha hP 0 (by decide) (cM_0 G _) (v := .ref (G.1 1)) rfl dX8_refusesTriples_70 ?_
              refine lv_iload_n hx hb dX8_refusesTriples_73 rfl (lv_at hl 0 rfl) ?_
              refine lv_iconst (v := 1) hx hb dX8_refusesTriples_74 (by decide) ?_
              refine lv_iaddE (z := (nI ((40 * ix ro + 3 * j) + 1))) hx hb dX8_refusesTriples_75 (nI_1 (40 * ix ro + 3 * j)) ?_
              refine xialdN ha hP 1 (by decide) (cM_1 G _) ((40 * ix ro + 3 * j) + 1) rfl (by omega) (by decide) dX8_refusesTriples_76 ?_
              refine lv_i2l (v := (σ 1 ((40 * ix ro + 3 * j) + 1)).toInt64) hx hb dX8_refusesTriples_77 rfl ?_
              refine lv_lconst (v := 0) hx hb dX8_refusesTriples_78 (by decide) ?_
              refine lv_ldc2 (v := 99) hx hb ha.2.2.2.1 (ha.2.2.2.2.1 _ (tb_in (w := .constantLong RX8 261 99) (by decide +kernel))) dX8_refusesTriples_79 ?_
              refine xSi ha hP hS (y := yX8_in) (As := [.long ((σ 1 ((40 * ix ro + 3 * j) + 1)).toInt64), .long 0, .long 99]) (rest := []) rfl (c_X8_in G l σ ((σ 1 ((40 * ix ro + 3 * j) + 1)).toInt64) 0 99 ) kw_X8_95 hd_X8_in rfl ⟨rfl, rfl⟩ ⟨Nat.le_of_ble_eq_true rfl, Nat.le_of_ble_eq_true rfl⟩ ⟨Nat.zero_le _, Nat.zero_le _⟩ hl.1 (Nat.le_of_ble_eq_true rfl) rfl dX8_refusesTriples_82 (fun r u H locs hpq hP hS => ?_)
              obtain ⟨hr_, hu_⟩ := hpq
              have hr_ := hr_.symm
              have hu_ := hu_.symm
              subst hr_
              subst hu_
              refine lv_if_eq (tgt := 105) hx hb dX8_refusesTriples_85 (by decide) (fun c_5 => ?_) (fun c_5 => ?_)
              · have t_5 := b2i_f c_5
                have f_5 := bin_f t_5
                try simp only [Int32.toInt_toInt64, ll_0, ll_1, ll_2, ll_3, ll_4, ll_5, ll_9, ll_12, ll_20, ll_40, ll_57, ll_99, ll_2147483646] at f_5
                have HB : rt_bad σ (ix ro) j = true := by simp [rt_bad, u_1, c_2, u_3, t_4, t_5]
                have HS := fstN_b hst HB (tNM σ (ix ro)) (by omega)
                refine lv_aload_n hx hb dX8_refusesTriples_105 rfl (lv_at hl 1 rfl) ?_
                refine lv_iconst (v := 3) hx hb dX8_refusesTriples_106 (by decide) ?_
                refine xVi ha hP hS (y := yX8_found) (As := [.int 3]) (rest := []) 0 (by decide) (cM_0 G _) rfl rfl (c_X8_found G l σ 3 (by decide)) kw_X8_105 hd_X8_found rfl ⟨rfl, rfl⟩ ⟨Nat.le_of_ble_eq_true rfl, Nat.le_of_ble_eq_true rfl⟩ ⟨Nat.zero_le _, Nat.zero_le _⟩ hl.1 (Nat.le_of_ble_eq_true rfl) rfl dX8_refusesTriples_107 (fun r u H locs hpq hP hS => ?_)
                obtain ⟨hr_, hu_⟩ := hpq
                have hr_ := hr_.symm
                have hu_ := hu_.symm
                subst hr_
                subst hu_
                exact xiret ha hP hS dX8_refusesTriples_110 ⟨by rw [n_ref, if_neg (by assumption), if_pos (by assumption), if_neg (by rw [HS]; omega)], (by rw [n_ref, if_neg (by assumption), if_pos (by assumption), if_neg (by rw [HS]; omega)])⟩ rfl
              · have t_5 := b2i_t c_5
                have f_5 := bin_t t_5
                try simp only [Int32.toInt_toInt64, ll_0, ll_1, ll_2, ll_3, ll_4, ll_5, ll_9, ll_12, ll_20, ll_40, ll_57, ll_99, ll_2147483646] at f_5
                refine lv_aload_n hx hb dX8_refusesTriples_88 rfl (lv_at hl 1 rfl) ?_
                refine g8_7 ha hP 0 (by decide) (cM_0 G _) (v := .ref (G.1 1)) rfl dX8_refusesTriples_89 ?_
                refine lv_iload_n hx hb dX8_refusesTriples_92 rfl (lv_at hl 0 rfl) ?_
                refine lv_iconst (v := 2) hx hb dX8_refusesTriples_93 (by decide) ?_
                refine lv_iaddE (z := (nI ((40 * ix ro + 3 * j) + 2))) hx hb dX8_refusesTriples_94 (nI_add (40 * ix ro + 3 * j) 2) ?_
                refine xialdN ha hP 1 (by decide) (cM_1 G _) ((40 * ix ro + 3 * j) + 2) rfl (by omega) (by decide) dX8_refusesTriples_95 ?_
                refine lv_i2l (v := (σ 1 ((40 * ix ro + 3 * j) + 2)).toInt64) hx hb dX8_refusesTriples_96 rfl ?_
                refine lv_lconst (v := 0) hx hb dX8_refusesTriples_97 (by decide) ?_
                refine lv_lconst (v := 1) hx hb dX8_refusesTriples_98 (by decide) ?_
                refine xSi ha hP hS (y := yX8_in) (As := [.long ((σ 1 ((40 * ix ro + 3 * j) + 2)).toInt64), .long 0, .long 1]) (rest := []) rfl (c_X8_in G l σ ((σ 1 ((40 * ix ro + 3 * j) + 2)).toInt64) 0 1 ) kw_X8_95 hd_X8_in rfl ⟨rfl, rfl⟩ ⟨Nat.le_of_ble_eq_true rfl, Nat.le_of_ble_eq_true rfl⟩ ⟨Nat.zero_le _, Nat.zero_le _⟩ hl.1 (Nat.le_of_ble_eq_true rfl) rfl dX8_refusesTriples_99 (fun r u H locs hpq hP hS => ?_)
                obtain ⟨hr_, hu_⟩ := hpq
                have hr_ := hr_.symm
                have hu_ := hu_.symm
                subst hr_
                subst hu_
                refine lv_if_ne (tgt := 111) hx hb dX8_refusesTriples_102 (by decide) (fun c_6 => ?_) (fun c_6 => ?_)
                · have t_6 := b2i_t c_6
                  have f_6 := bin_t t_6
                  try simp only [Int32.toInt_toInt64, ll_0, ll_1, ll_2, ll_3, ll_4, ll_5, ll_9, ll_12, ll_20, ll_40, ll_57, ll_99, ll_2147483646] at f_6
                  refine lv_iinc (v := (nI (40 * ix ro + 3 * (j + 1)))) (lv' := [(2, .int (nI (40 * ix ro + 3 * (j + 1)))), (0, .ref (G.1 0)), (1, .int ro)]) hx hb dX8_refusesTriples_111 hl (k := 0) rfl (by rw [show 40 * ix ro + 3 * (j + 1) = 40 * ix ro + 3 * j + 3 by omega]; exact nI_add (40 * ix ro + 3 * j) 3) (by decide) rfl (fun ls hl => ?_)
                  refine lv_goto (tgt := 37) hx hb dX8_refusesTriples_114 (by decide) ?_
                  exact ih_37 (j + 1)  _ _ _ (by omega) (by omega) (fstN_s hst (by simp [rt_bad, u_1, c_2, u_3, t_4, t_5, t_6])) hP hS (lv_sub hl [0, 1, 2] rfl)
                · have t_6 := b2i_f c_6
                  have f_6 := bin_f t_6
                  try simp only [Int32.toInt_toInt64, ll_0, ll_1, ll_2, ll_3, ll_4, ll_5, ll_9, ll_12, ll_20, ll_40, ll_57, ll_99, ll_2147483646] at f_6
                  have HB : rt_bad σ (ix ro) j = true := by simp [rt_bad, u_1, c_2, u_3, t_4, t_5, t_6]
                  have HS := fstN_b hst HB (tNM σ (ix ro)) (by omega)
                  refine lv_aload_n hx hb dX8_refusesTriples_105 rfl (lv_at hl 1 rfl) ?_
                  refine lv_iconst (v := 3) hx hb dX8_refusesTriples_106 (by decide) ?_
                  refine xVi ha hP hS (y := yX8_found) (As := [.int 3]) (rest := []) 0 (by decide) (cM_0 G _) rfl rfl (c_X8_found G l σ 3 (by decide)) kw_X8_105 hd_X8_found rfl ⟨rfl, rfl⟩ ⟨Nat.le_of_ble_eq_true rfl, Nat.le_of_ble_eq_true rfl⟩ ⟨Nat.zero_le _, Nat.zero_le _⟩ hl.1 (Nat.le_of_ble_eq_true rfl) rfl dX8_refusesTriples_107 (fun r u H locs hpq hP hS => ?_)
                  obtain ⟨hr_, hu_⟩ := hpq
                  have hr_ := hr_.symm
                  have hu_ := hu_.symm
                  subst hr_
                  subst hu_
                  exact xiret ha hP hS dX8_refusesTriples_110 ⟨by rw [n_ref, if_neg (by assumption), if_pos (by assumption), if_neg (by rw [HS]; omega)], (by rw [n_ref, if_neg (by assumption), if_pos (by assumption), if_neg (by rw [HS]; omega)])⟩ rfl
      exact lp_37 ((tNM σ (ix ro)) - 0 + 1) 0  _ _ _ (by omega) (by omega) rfl hP hS (lv_sub hl [0, 1, 2] rfl)
    · have t_2 := i_ne c_2
      refine lv_aload_n hx hb dX8_refusesTriples_26 rfl (lv_at hl 0 rfl) ?_
      refine lv_iconst (v := 5) hx hb dX8_refusesTriples_27 (by decide) ?_
      refine xVi ha hP hS (y := yX8_found) (As := [.int 5]) (rest := []) 0 (by decide) (cM_0 G _) rfl rfl (c_X8_found G l σ 5 (by decide)) kw_X8_105 hd_X8_found rfl ⟨rfl, rfl⟩ ⟨Nat.le_of_ble_eq_true rfl, Nat.le_of_ble_eq_true rfl⟩ ⟨Nat.zero_le _, Nat.zero_le _⟩ hl.1 (Nat.le_of_ble_eq_true rfl) rfl dX8_refusesTriples_28 (fun r u H locs hpq hP hS => ?_)
      obtain ⟨hr_, hu_⟩ := hpq
      have hr_ := hr_.symm
      have hu_ := hu_.symm
      subst hr_
      subst hu_
      exact xiret ha hP hS dX8_refusesTriples_31 ⟨by simp [n_ref, u_1, c_2, i_leN, -Int32.not_lt], (by simp [n_ref, u_1, c_2, i_leN, -Int32.not_lt])⟩ rfl
  · have t_1 := i_nle c_1
    have u_1 := u_nle c_1
    refine lv_aload_n hx hb dX8_refusesTriples_9 rfl (lv_at hl 0 rfl) ?_
    refine lv_iconst (v := 1) hx hb dX8_refusesTriples_10 (by decide) ?_
    refine xVi ha hP hS (y := yX8_found) (As := [.int 1]) (rest := []) 0 (by decide) (cM_0 G _) rfl rfl (c_X8_found G l σ 1 (by decide)) kw_X8_105 hd_X8_found rfl ⟨rfl, rfl⟩ ⟨Nat.le_of_ble_eq_true rfl, Nat.le_of_ble_eq_true rfl⟩ ⟨Nat.zero_le _, Nat.zero_le _⟩ hl.1 (Nat.le_of_ble_eq_true rfl) rfl dX8_refusesTriples_11 (fun r u H locs hpq hP hS => ?_)
    obtain ⟨hr_, hu_⟩ := hpq
    have hr_ := hr_.symm
    have hu_ := hu_.symm
    subst hr_
    subst hu_
    exact xiret ha hP hS dX8_refusesTriples_14 ⟨by simp [n_ref, u_1, i_leN, -Int32.not_lt], (by simp [n_ref, u_1, i_leN, -Int32.not_lt])⟩ rfl
set_option maxHeartbeats 4000000 in
set_option maxRecDepth 100000 in
theorem c_X8_fits (G : GT) (l : Launch) (σ : Mem) (P : PT) (kind : Int32) (k : Int32) (strong : Int32) (ro : Int32) (hpb : PB P) (hPV : pM σ = P) (hk : a_isPole P k = true) (hrm : RM σ) (hro6 : a_in ro 6 = true) (ht3 : 3 * tNM σ (ix ro) = ix (σ 2 (ix ro))) (hz0 : ¬ σ 2 (ix ro) < 0) : CI G 24 (cM G) l yX8_fits ({ frames := 1, cells := 0, slots := 0, locals := 26 } : Room) cX8_fits 7 (some .boolean) [.ref (G.1 0), .int kind, .int k, .int strong, .int ro] σ (fun (r : Int32) u => r = b2i (b_fits P σ kind k strong (ix ro)) ∧ u = σ) := by
  intro sz
  refine xbegin (by decide) (Nat.le_of_ble_eq_true rfl) ?_
  intro p e s m below meth c ls hsz ha hP hl
  subst hsz
  have hx := ha.1
  have hb := ha.2.1
  have hS : va_S (xA G 24 s.heap.size) s.heap s.heap [] := va_S.rf
  have hl : lv_has ls 7 [(0, .ref (G.1 0)), (1, .int kind), (2, .int k), (3, .int strong), (4, .int ro)] := hl
  have k_0 : (0 : Int32).toInt = 0 := by decide
  have k_1 : (1 : Int32).toInt = 1 := by decide
  have k_2 : (2 : Int32).toInt = 2 := by decide
  have k_4 : (4 : Int32).toInt = 4 := by decide
  have k_5 : (5 : Int32).toInt = 5 := by decide
  have k_6 : (6 : Int32).toInt = 6 := by decide
  have k_40 : (40 : Int32).toInt = 40 := by decide
  have hPL := PB_pl hpb
  have hPE := PB_pe hpb
  have hp4 := PV_pl hpb hPV
  have hp5 := PV_pe hpb hPV
  have hro1 := in_t hro6
  have hr1 := hrm.1 (ix ro) (ix_lt (by omega) (by omega))
  have hc0 := ix_cases (σ 2 (ix ro))
  have hro := ix_toInt (show 0 ≤ ro.toInt by omega)
  have htn : tNM σ (ix ro) ≤ 14 := by unfold tNM; omega
  have htd : 3 * tNM σ (ix ro) < ix (σ 2 (ix ro)) + 3 ∧ ix (σ 2 (ix ro)) ≤ 3 * tNM σ (ix ro) := by unfold tNM; omega
  have hk1 := isPole_t hk
  obtain ⟨p6, p7, p8, p9, p10⟩ := pM_c hPV
  have hz1 := i_nlt hz0
  refine lv_iconst (v := 1) hx hb dX8_fits_0 (by decide) ?_
  refine lv_istore (lv' := [(5, .int 1), (0, .ref (G.1 0)), (1, .int kind), (2, .int k), (3, .int strong), (4, .int ro)]) hx hb dX8_fits_1 hl (by decide) rfl (fun ls hl => ?_)
  refine lv_bipush (v := 40) hx hb dX8_fits_3 (by decide) ?_
  refine lv_iload hx hb dX8_fits_5 (lv_at hl 5 rfl) ?_
  refine lv_imulE (z := (nI (40 * ix ro))) hx hb dX8_fits_7 (nmul (rfl : (40 : Int32) = nI 40) (ix_nI (by omega))) ?_
  refine lv_istore (lv' := [(6, .int (nI (40 * ix ro))), (5, .int 1), (0, .ref (G.1 0)), (1, .int kind), (2, .int k), (3, .int strong), (4, .int ro)]) hx hb dX8_fits_8 hl (by decide) rfl (fun ls hl => ?_)
  have lp_10 : ∀ (d j : Nat) (x5 : Int32) (H : Heap) (locs : List Loc) (ls : Array Slot), j ≤ (tNM σ (ix ro)) → (tNM σ (ix ro)) - j < d → x5 = b2i (all_b (ft_ok P σ kind k strong (ix ro)) j) → va_P G.2.1 vwCl (wl G 24 (cM G σ)) H → va_S (xA G 24 s.heap.size) s.heap H locs → lv_has ls 7 [(6, .int (nI (40 * ix ro + 3 * j))), (5, .int x5), (0, .ref (G.1 0)), (1, .int kind), (2, .int k), (3, .int strong), (4, .int ro)] → W p l e ({ frames := 1, cells := 0, slots := 0, locals := 26 } : Room) s m ([.ref (G.1 0), .int kind, .int k, .int strong, .int ro] : List Value).toArray below meth c H locs 0 0 (MQ below (va_Qi (fun (r : Int32) u => r = b2i (b_fits P σ kind k strong (ix ro)) ∧ u = σ) (xB G 24 (cM G)) (xA G 24 s.heap.size)) ([.ref (G.1 0), .int kind, .int k, .int strong, .int ro] : List Value).toArray s 0 0 (xA G 24 s.heap.size)) (F0 m 10 ls []) := by
    intro d
    induction d with
    | zero => intro j x5 H locs ls hj hd; exact absurd hd (Nat.not_lt_zero _)
    | succ d ih_10 =>
      intro j x5 H locs ls hj_j hd_j e_x5 hP hS hl
      have h31_j : (nI j).toInt = (j : Int) := nI_toInt (by omega)
      have h3_j : (nI (40 * ix ro + 3 * j)).toInt = ((40 * ix ro + 3 * j : Nat) : Int) := nI_toInt (by omega)
      have h4_j : (nI (40 * ix ro + ix (σ 2 (ix ro)))).toInt = ((40 * ix ro + ix (σ 2 (ix ro)) : Nat) : Int) := nI_toInt (by omega)
      refine lv_iload hx hb dX8_fits_10 (lv_at hl 0 rfl) ?_
      refine lv_bipush (v := 40) hx hb dX8_fits_12 (by decide) ?_
      refine lv_iload hx hb dX8_fits_14 (lv_at hl 6 rfl) ?_
      refine lv_imulE (z := (nI (40 * ix ro))) hx hb dX8_fits_16 (nmul (rfl : (40 : Int32) = nI 40) (ix_nI (by omega))) ?_
      refine lv_aload_n hx hb dX8_fits_17 rfl (lv_at hl 2 rfl) ?_
      refine g8_13 ha hP 0 (by decide) (cM_0 G _) (v := .ref (G.1 2)) rfl dX8_fits_18 ?_
      refine lv_iload hx hb dX8_fits_21 (lv_at hl 6 rfl) ?_
      refine xialdN ha hP 2 (by decide) (cM_2 G _) (ix ro) (ix_nI (by omega)) (ix_lt (by omega) (by omega)) (by decide) dX8_fits_23 ?_
      refine lv_iaddE (z := (nI (40 * ix ro + ix (σ 2 (ix ro))))) hx hb dX8_fits_24 (nadd rfl (ix_nI (by omega))) ?_
      refine lv_icmp_ge (tgt := 102) hx hb dX8_fits_25 (by decide) (fun c_1 => ?_) (fun c_1 => ?_)
      · have t_1 := i_le c_1
        have u_1 := u_le c_1
        obtain rfl : j = tNM σ (ix ro) := by omega
        refine lv_iload hx hb dX8_fits_102 (lv_at hl 1 rfl) ?_
        exact xzret ha hP hS (by rw [e_x5]; exact b2i_nar _) dX8_fits_104 ⟨by exact e_x5, rfl⟩ rfl
      · have t_1 := i_nle c_1
        have u_1 := u_nle c_1
        have hlt_j : j < (tNM σ (ix ro)) := by omega
        refine lv_iload hx hb dX8_fits_28 (lv_at hl 1 rfl) ?_
        refine lv_if_eq (tgt := 93) hx hb dX8_fits_30 (by decide) (fun c_2 => ?_) (fun c_2 => ?_)
        · have t_2 := i_eq c_2
          have hb5 : all_b (ft_ok P σ kind k strong (ix ro)) j = false := b2i_f (e_x5.symm.trans c_2)
          refine lv_iconst (v := 0) hx hb dX8_fits_93 (by decide) ?_
          refine lv_istore (lv' := [(5, .int 0), (6, .int (nI (40 * ix ro + 3 * j))), (0, .ref (G.1 0)), (1, .int kind), (2, .int k), (3, .int strong), (4, .int ro)]) hx hb dX8_fits_94 hl (by decide) rfl (fun ls hl => ?_)
          refine lv_iinc (v := (nI (40 * ix ro + 3 * (j + 1)))) (lv' := [(6, .int (nI (40 * ix ro + 3 * (j + 1)))), (5, .int 0), (0, .ref (G.1 0)), (1, .int kind), (2, .int k), (3, .int strong), (4, .int ro)]) hx hb dX8_fits_96 hl (k := 1) rfl (by rw [show 40 * ix ro + 3 * (j + 1) = 40 * ix ro + 3 * j + 3 by omega]; exact nI_add (40 * ix ro + 3 * j) 3) (by decide) rfl (fun ls hl => ?_)
          refine lv_goto (tgt := 10) hx hb dX8_fits_99 (by decide) ?_
          exact ih_10 (j + 1) 0 _ _ _ (by omega) (by omega) (by rw [all_b, hb5]; simp [b2i, ft_ok, p7, u_1, c_2]) hP hS (lv_sub hl [0, 1, 2, 3, 4, 5, 6] rfl)
        · have t_2 := i_ne c_2
          have hb5 : all_b (ft_ok P σ kind k strong (ix ro)) j = true := b2i_t (fun h => c_2 (e_x5.trans h))
          refine lv_iload_n hx hb dX8_fits_33 rfl (lv_at hl 3 rfl) ?_
          refine lv_aload_n hx hb dX8_fits_34 rfl (lv_at hl 2 rfl) ?_
          refine g8_32 ha hP 0 (by decide) (cM_0 G _) (v := .ref (G.1 7)) rfl dX8_fits_35 ?_
          refine lv_iload_n hx hb dX8_fits_38 rfl (lv_at hl 4 rfl) ?_
          refine xialdN ha hP 7 (by decide) (cM_7 G _) (ix k) (ix_nI (by omega)) (ix_lt (by omega) (by omega)) (by decide) dX8_fits_39 ?_
          refine lv_iload_n hx hb dX8_fits_40 rfl (lv_at hl 5 rfl) ?_
          refine lv_aload_n hx hb dX8_fits_41 rfl (lv_at hl 2 rfl) ?_
          refine g8_7 ha hP 0 (by decide) (cM_0 G _) (v := .ref (G.1 1)) rfl dX8_fits_42 ?_
          refine lv_iload hx hb dX8_fits_45 (lv_at hl 0 rfl) ?_
          refine xialdN ha hP 1 (by decide) (cM_1 G _) (40 * ix ro + 3 * j) rfl (by omega) (by decide) dX8_fits_47 ?_
          refine xSi ha hP hS (y := yX8_bearsBy) (As := [.int kind, .int (σ 7 (ix k)), .int strong, .int (σ 1 (40 * ix ro + 3 * j))]) (rest := []) rfl (c_X8_bearsBy G l σ kind (σ 7 (ix k)) strong (σ 1 (40 * ix ro + 3 * j)) ) kw_X8_169 hd_X8_bearsBy rfl ⟨rfl, rfl⟩ ⟨Nat.le_of_ble_eq_true rfl, Nat.le_of_ble_eq_true rfl⟩ ⟨Nat.zero_le _, Nat.zero_le _⟩ hl.1 (Nat.le_of_ble_eq_true rfl) rfl dX8_fits_48 (fun r u H locs hpq hP hS => ?_)
          obtain ⟨hr_, hu_⟩ := hpq
          have hr_ := hr_.symm
          have hu_ := hu_.symm
          subst hr_
          subst hu_
          refine lv_aload_n hx hb dX8_fits_51 rfl (lv_at hl 2 rfl) ?_
          refine g8_7 ha hP 0 (by decide) (cM_0 G _) (v := .ref (G.1 1)) rfl dX8_fits_52 ?_
          refine lv_iload hx hb dX8_fits_55 (lv_at hl 0 rfl) ?_
          refine lv_iconst (v := 1) hx hb dX8_fits_57 (by decide) ?_
          refine lv_iaddE (z := (nI ((40 * ix ro + 3 * j) + 1))) hx hb dX8_fits_58 (nI_1 (40 * ix ro + 3 * j)) ?_
          refine xialdN ha hP 1 (by decide) (cM_1 G _) ((40 * ix ro + 3 * j) + 1) rfl (by omega) (by decide) dX8_fits_59 ?_
          have jn_3 : ∀ x_3 : Int32, x_3 = (if (a_bearing kind (σ 7 (ix k)) strong (σ 1 (40 * ix ro + 3 * j))) < (σ 1 ((40 * ix ro + 3 * j) + 1)) then 0 else 1) → W p l e ({ frames := 1, cells := 0, slots := 0, locals := 26 } : Room) s m ([.ref (G.1 0), .int kind, .int k, .int strong, .int ro] : List Value).toArray below meth c H locs 0 0 (MQ below (va_Qi (fun (r : Int32) u => r = b2i (b_fits P σ kind k strong (ix ro)) ∧ u = σ) (xB G 24 (cM G)) (xA G 24 s.heap.size)) ([.ref (G.1 0), .int kind, .int k, .int strong, .int ro] : List Value).toArray s 0 0 (xA G 24 s.heap.size)) (F0 m 68 ls [.int x_3]) := by
            intro x_3 ex_3
            refine lv_aload_n hx hb dX8_fits_68 rfl (lv_at hl 2 rfl) ?_
            refine g8_7 ha hP 0 (by decide) (cM_0 G _) (v := .ref (G.1 1)) rfl dX8_fits_69 ?_
            refine lv_iload hx hb dX8_fits_72 (lv_at hl 0 rfl) ?_
            refine lv_iconst (v := 2) hx hb dX8_fits_74 (by decide) ?_
            refine lv_iaddE (z := (nI ((40 * ix ro + 3 * j) + 2))) hx hb dX8_fits_75 (nI_add (40 * ix ro + 3 * j) 2) ?_
            refine xialdN ha hP 1 (by decide) (cM_1 G _) ((40 * ix ro + 3 * j) + 2) rfl (by omega) (by decide) dX8_fits_76 ?_
            refine lv_iconst (v := 1) hx hb dX8_fits_77 (by decide) ?_
            have jn_4 : ∀ x_4 : Int32, x_4 = (if (σ 1 ((40 * ix ro + 3 * j) + 2)) = 1 then 1 else 0) → W p l e ({ frames := 1, cells := 0, slots := 0, locals := 26 } : Room) s m ([.ref (G.1 0), .int kind, .int k, .int strong, .int ro] : List Value).toArray below meth c H locs 0 0 (MQ below (va_Qi (fun (r : Int32) u => r = b2i (b_fits P σ kind k strong (ix ro)) ∧ u = σ) (xB G 24 (cM G)) (xA G 24 s.heap.size)) ([.ref (G.1 0), .int kind, .int k, .int strong, .int ro] : List Value).toArray s 0 0 (xA G 24 s.heap.size)) (F0 m 86 ls [.int x_4, .int x_3]) := by
              intro x_4 ex_4
              have jn_5 : ∀ x_5 : Int32, x_5 = (if x_3 = x_4 then 1 else 0) → W p l e ({ frames := 1, cells := 0, slots := 0, locals := 26 } : Room) s m ([.ref (G.1 0), .int kind, .int k, .int strong, .int ro] : List Value).toArray below meth c H locs 0 0 (MQ below (va_Qi (fun (r : Int32) u => r = b2i (b_fits P σ kind k strong (ix ro)) ∧ u = σ) (xB G 24 (cM G)) (xA G 24 s.heap.size)) ([.ref (G.1 0), .int kind, .int k, .int strong, .int ro] : List Value).toArray s 0 0 (xA G 24 s.heap.size)) (F0 m 94 ls [.int x_5]) := by
                intro x_5 ex_5
                refine lv_istore (lv' := [(5, .int x_5), (6, .int (nI (40 * ix ro + 3 * j))), (0, .ref (G.1 0)), (1, .int kind), (2, .int k), (3, .int strong), (4, .int ro)]) hx hb dX8_fits_94 hl (by decide) rfl (fun ls hl => ?_)
                refine lv_iinc (v := (nI (40 * ix ro + 3 * (j + 1)))) (lv' := [(6, .int (nI (40 * ix ro + 3 * (j + 1)))), (5, .int x_5), (0, .ref (G.1 0)), (1, .int kind), (2, .int k), (3, .int strong), (4, .int ro)]) hx hb dX8_fits_96 hl (k := 1) rfl (by rw [show 40 * ix ro + 3 * (j + 1) = 40 * ix ro + 3 * j + 3 by omega]; exact nI_add (40 * ix ro + 3 * j) 3) (by decide) rfl (fun ls hl => ?_)
                refine lv_goto (tgt := 10) hx hb dX8_fits_99 (by decide) ?_
                exact ih_10 (j + 1) x_5 _ _ _ (by omega) (by omega) (by rw [all_b, hb5]; simp [b2i, ft_ok, p7, u_1, c_2, ex_3, ex_4, ex_5]) hP hS (lv_sub hl [0, 1, 2, 3, 4, 5, 6] rfl)
              refine lv_icmp_ne (tgt := 93) hx hb dX8_fits_86 (by decide) (fun c_5 => ?_) (fun c_5 => ?_)
              · have t_5 := i_ne c_5
                refine lv_iconst (v := 0) hx hb dX8_fits_93 (by decide) ?_
                exact jn_5 _ (if_neg c_5).symm
              · have t_5 := i_eq c_5
                refine lv_iconst (v := 1) hx hb dX8_fits_89 (by decide) ?_
                refine lv_goto (tgt := 94) hx hb dX8_fits_90 (by decide) ?_
                exact jn_5 _ (if_pos c_5).symm
            refine lv_icmp_ne (tgt := 85) hx hb dX8_fits_78 (by decide) (fun c_4 => ?_) (fun c_4 => ?_)
            · have t_4 := i_ne c_4
              refine lv_iconst (v := 0) hx hb dX8_fits_85 (by decide) ?_
              exact jn_4 _ (if_neg c_4).symm
            · have t_4 := i_eq c_4
              refine lv_iconst (v := 1) hx hb dX8_fits_81 (by decide) ?_
              refine lv_goto (tgt := 86) hx hb dX8_fits_82 (by decide) ?_
              exact jn_4 _ (if_pos c_4).symm
          refine lv_icmp_lt (tgt := 67) hx hb dX8_fits_60 (by decide) (fun c_3 => ?_) (fun c_3 => ?_)
          · have t_3 := i_lt c_3
            refine lv_iconst (v := 0) hx hb dX8_fits_67 (by decide) ?_
            exact jn_3 _ (if_pos c_3).symm
          · have t_3 := i_nlt c_3
            refine lv_iconst (v := 1) hx hb dX8_fits_63 (by decide) ?_
            refine lv_goto (tgt := 68) hx hb dX8_fits_64 (by decide) ?_
            exact jn_3 _ (if_neg c_3).symm
  exact lp_10 ((tNM σ (ix ro)) - 0 + 1) 0 1 _ _ _ (by omega) (by omega) rfl hP hS (lv_sub hl [0, 1, 2, 3, 4, 5, 6] rfl)
set_option maxHeartbeats 4000000 in
set_option maxRecDepth 100000 in
theorem c_X8_strengths (G : GT) (l : Launch) (σ : Mem) (k : Int32) (ro : Int32) (hpb : PB (pM σ)) (hrm : RM σ) : CI G 24 (cM G) l yX8_strengths ({ frames := 2, cells := 0, slots := 0, locals := 52 } : Room) cX8_strengths 8 (some .int) [.ref (G.1 0), .int k, .int ro] σ (fun (r : Int32) u => r = (n_str σ k ro).1 ∧ u = (n_str σ k ro).2) := by
  intro sz
  refine xbegin (by decide) (Nat.le_of_ble_eq_true rfl) ?_
  intro p e s m below meth c ls hsz ha hP hl
  subst hsz
  have hx := ha.1
  have hb := ha.2.1
  have hS : va_S (xA G 24 s.heap.size) s.heap s.heap [] := va_S.rf
  have hl : lv_has ls 8 [(0, .ref (G.1 0)), (1, .int k), (2, .int ro)] := hl
  have k_m9 : (-9 : Int32).toInt = -9 := by decide
  have k_m1 : (-1 : Int32).toInt = -1 := by decide
  have k_0 : (0 : Int32).toInt = 0 := by decide
  have k_1 : (1 : Int32).toInt = 1 := by decide
  have k_4 : (4 : Int32).toInt = 4 := by decide
  have k_5 : (5 : Int32).toInt = 5 := by decide
  have k_6 : (6 : Int32).toInt = 6 := by decide
  have k_60 : (60 : Int32).toInt = 60 := by decide
  have hPL := PB_pl hpb
  have hPE := PB_pe hpb
  have hp4 := PV_pl hpb (rfl : pM σ = pM σ)
  have hp5 := PV_pe hpb (rfl : pM σ = pM σ)
  refine lv_aload_n hx hb dX8_strengths_0 rfl (lv_at hl 0 rfl) ?_
  refine lv_iload_n hx hb dX8_strengths_1 rfl (lv_at hl 1 rfl) ?_
  refine xVi ha hP hS (y := yX8_isPole) (As := [.int k]) (rest := []) 0 (by decide) (cM_0 G _) rfl rfl (c_X8_isPole G l σ (pM σ) k hpb rfl) kw_X8_206 hd_X8_isPole rfl ⟨rfl, rfl⟩ ⟨Nat.le_of_ble_eq_true rfl, Nat.le_of_ble_eq_true rfl⟩ ⟨Nat.zero_le _, Nat.zero_le _⟩ hl.1 (Nat.le_of_ble_eq_true rfl) rfl dX8_strengths_2 (fun r u H locs hpq hP hS => ?_)
  obtain ⟨hr_, hu_⟩ := hpq
  have hr_ := hr_.symm
  have hu_ := hu_.symm
  subst hr_
  subst hu_
  refine lv_if_eq (tgt := 15) hx hb dX8_strengths_5 (by decide) (fun c_1 => ?_) (fun c_1 => ?_)
  · have t_1 := b2i_f c_1
    refine lv_iconst (v := (-1)) hx hb dX8_strengths_15 (by decide) ?_
    exact xiret ha hP hS dX8_strengths_16 ⟨by simp [n_str, t_1, i_leN, -Int32.not_lt], (by simp [n_str, t_1, i_leN, -Int32.not_lt])⟩ rfl
  · have t_1 := b2i_t c_1
    have f_1 := isPole_t t_1
    refine lv_iload_n hx hb dX8_strengths_8 rfl (lv_at hl 2 rfl) ?_
    refine xSi ha hP hS (y := yX8_isRow) (As := [.int ro]) (rest := []) rfl (c_X8_isRow G l σ ro ) kw_X8_101 hd_X8_isRow rfl ⟨rfl, rfl⟩ ⟨Nat.le_of_ble_eq_true rfl, Nat.le_of_ble_eq_true rfl⟩ ⟨Nat.zero_le _, Nat.zero_le _⟩ hl.1 (Nat.le_of_ble_eq_true rfl) rfl dX8_strengths_9 (fun r u H locs hpq hP hS => ?_)
    obtain ⟨hr_, hu_⟩ := hpq
    have hr_ := hr_.symm
    have hu_ := hu_.symm
    subst hr_
    subst hu_
    refine lv_if_ne (tgt := 17) hx hb dX8_strengths_12 (by decide) (fun c_2 => ?_) (fun c_2 => ?_)
    · have t_2 := b2i_t c_2
      have f_2 := in_t t_2
      refine lv_aload_n hx hb dX8_strengths_17 rfl (lv_at hl 0 rfl) ?_
      refine lv_iload_n hx hb dX8_strengths_18 rfl (lv_at hl 2 rfl) ?_
      refine xVi ha hP hS (y := yX8_refusesTriples) (As := [.int ro]) (rest := []) 0 (by decide) (cM_0 G _) rfl rfl (c_X8_refusesTriples G l σ ro hrm (by assumption)) kw_X8_263 hd_X8_refusesTriples rfl ⟨rfl, rfl⟩ ⟨Nat.le_of_ble_eq_true rfl, Nat.le_of_ble_eq_true rfl⟩ ⟨Nat.zero_le _, Nat.zero_le _⟩ hl.1 (Nat.le_of_ble_eq_true rfl) rfl dX8_strengths_19 (fun r u H locs hpq hP hS => ?_)
      obtain ⟨hr_, hu_⟩ := hpq
      have hr_ := hr_.symm
      have hu_ := hu_.symm
      subst hr_
      subst hu_
      refine lv_istore_n (lv' := [(3, .int ((n_ref σ ro).1)), (0, .ref (G.1 0)), (1, .int k), (2, .int ro)]) hx hb dX8_strengths_22 rfl hl (by decide) rfl (fun ls hl => ?_)
      refine lv_iload_n hx hb dX8_strengths_23 rfl (lv_at hl 0 rfl) ?_
      refine lv_if_eq (tgt := 29) hx hb dX8_strengths_24 (by decide) (fun c_3 => ?_) (fun c_3 => ?_)
      · have t_3 := i_eq c_3
        have hsm_29 : ((n_ref σ ro).2) = σ := (ref_0 (by assumption)).1
        rw [hsm_29] at hP
        have hrf := ref_0 (show (n_ref σ ro).1 = 0 by assumption)
        refine lv_iconst (v := 0) hx hb dX8_strengths_29 (by decide) ?_
        refine lv_istore (lv' := [(4, .int 0), (3, .int ((n_ref σ ro).1)), (0, .ref (G.1 0)), (1, .int k), (2, .int ro)]) hx hb dX8_strengths_30 hl (by decide) rfl (fun ls hl => ?_)
        refine lv_iconst (v := 0) hx hb dX8_strengths_32 (by decide) ?_
        refine lv_istore (lv' := [(5, .int 0), (4, .int 0), (3, .int ((n_ref σ ro).1)), (0, .ref (G.1 0)), (1, .int k), (2, .int ro)]) hx hb dX8_strengths_33 hl (by decide) rfl (fun ls hl => ?_)
        refine lv_bipush (v := 60) hx hb dX8_strengths_35 (by decide) ?_
        refine lv_istore (lv' := [(6, .int 60), (5, .int 0), (4, .int 0), (3, .int ((n_ref σ ro).1)), (0, .ref (G.1 0)), (1, .int k), (2, .int ro)]) hx hb dX8_strengths_37 hl (by decide) rfl (fun ls hl => ?_)
        have lp_39 : ∀ (d j : Nat) (x4 : Int32) (x5 : Int32) (x6 : Int32) (H : Heap) (locs : List Loc) (ls : Array Slot), j ≤ 61 → 61 - j < d → x4 = sg_many (sg_f (pM σ) σ k (ix ro)) j → x5 = sg_least (sg_f (pM σ) σ k (ix ro)) j → x6 = nI (61 - j) - 1 → va_P G.2.1 vwCl (wl G 24 (cM G σ)) H → va_S (xA G 24 s.heap.size) s.heap H locs → lv_has ls 8 [(6, .int x6), (5, .int x5), (4, .int x4), (3, .int ((n_ref σ ro).1)), (0, .ref (G.1 0)), (1, .int k), (2, .int ro)] → W p l e ({ frames := 2, cells := 0, slots := 0, locals := 52 } : Room) s m ([.ref (G.1 0), .int k, .int ro] : List Value).toArray below meth c H locs 0 0 (MQ below (va_Qi (fun (r : Int32) u => r = (n_str σ k ro).1 ∧ u = (n_str σ k ro).2) (xB G 24 (cM G)) (xA G 24 s.heap.size)) ([.ref (G.1 0), .int k, .int ro] : List Value).toArray s 0 0 (xA G 24 s.heap.size)) (F0 m 39 ls []) := by
          intro d
          induction d with
          | zero => intro j x4 x5 x6 H locs ls hj hd; exact absurd hd (Nat.not_lt_zero _)
          | succ d ih_39 =>
            intro j x4 x5 x6 H locs ls hj_j hd_j e_x4 e_x5 e_x6 hP hS hl
            have hx6 : x6.toInt = (61 : Int) - (j : Int) - 1 := by rw [e_x6]; exact down_i (n := 61) (by omega) hj_j
            refine lv_iload hx hb dX8_strengths_39 (lv_at hl 0 rfl) ?_
            refine lv_if_lt (tgt := 95) hx hb dX8_strengths_41 (by decide) (fun c_4 => ?_) (fun c_4 => ?_)
            · have t_4 := i_lt c_4
              obtain rfl : j = 61 := by omega
              refine lv_iload hx hb dX8_strengths_95 (lv_at hl 2 rfl) ?_
              refine lv_if_ne (tgt := 105) hx hb dX8_strengths_97 (by decide) (fun c_5 => ?_) (fun c_5 => ?_)
              · have t_5 := i_ne c_5
                refine lv_aload_n hx hb dX8_strengths_105 rfl (lv_at hl 4 rfl) ?_
                refine lv_iload hx hb dX8_strengths_106 (lv_at hl 2 rfl) ?_
                refine lv_iload hx hb dX8_strengths_108 (lv_at hl 1 rfl) ?_
                refine xVi ha hP hS (y := yX8_answer) (As := [.int x4, .int x5]) (rest := []) 0 (by decide) (cM_0 G _) rfl rfl (c_X8_answer G l σ x4 x5 ) kw_X8_229 hd_X8_answer rfl ⟨rfl, rfl⟩ ⟨Nat.le_of_ble_eq_true rfl, Nat.le_of_ble_eq_true rfl⟩ ⟨Nat.zero_le _, Nat.zero_le _⟩ hl.1 (Nat.le_of_ble_eq_true rfl) rfl dX8_strengths_110 (fun r u H locs hpq hP hS => ?_)
                obtain ⟨hr_, hu_⟩ := hpq
                have hr_ := hr_.symm
                have hu_ := hu_.symm
                subst hr_
                subst hu_
                exact xiret ha hP hS dX8_strengths_113 ⟨by simp [n_str, ← e_x4, ← e_x5, t_1, t_2, c_3, c_4, c_5], (by simp [n_str, ← e_x4, ← e_x5, t_1, t_2, c_3, c_4, c_5])⟩ rfl
              · have t_5 := i_eq c_5
                refine lv_bipush (v := (-9)) hx hb dX8_strengths_100 (by decide) ?_
                refine lv_goto (tgt := 113) hx hb dX8_strengths_102 (by decide) ?_
                exact xiret ha hP hS dX8_strengths_113 ⟨by simp [n_str, ← e_x4, ← e_x5, t_1, t_2, c_3, c_4, c_5], (by simp [n_str, ← e_x4, ← e_x5, t_1, t_2, c_3, c_4, c_5])⟩ rfl
            · have t_4 := i_nlt c_4
              have hlt_j : j < 61 := by omega
              obtain rfl : x6 = nI (60 - j) := by rw [e_x6, show 61 - j = (60 - j) + 1 by omega, nI_pred]
              have hfj : (sg_f (pM σ) σ k (ix ro)) j = b_fits (pM σ) σ (σ 6 (ix k)) k (nI (60 - j)) (ix ro) := rfl
              refine lv_aload_n hx hb dX8_strengths_44 rfl (lv_at hl 4 rfl) ?_
              refine lv_aload_n hx hb dX8_strengths_45 rfl (lv_at hl 4 rfl) ?_
              refine g8_29 ha hP 0 (by decide) (cM_0 G _) (v := .ref (G.1 6)) rfl dX8_strengths_46 ?_
              refine lv_iload_n hx hb dX8_strengths_49 rfl (lv_at hl 5 rfl) ?_
              refine xialdN ha hP 6 (by decide) (cM_6 G _) (ix k) (ix_nI (by omega)) (ix_lt (by omega) (by omega)) (by decide) dX8_strengths_50 ?_
              refine lv_iload_n hx hb dX8_strengths_51 rfl (lv_at hl 5 rfl) ?_
              refine lv_iload hx hb dX8_strengths_52 (lv_at hl 0 rfl) ?_
              refine lv_iload_n hx hb dX8_strengths_54 rfl (lv_at hl 6 rfl) ?_
              refine xVi ha hP hS (y := yX8_fits) (As := [.int (σ 6 (ix k)), .int k, .int (nI (60 - j)), .int ro]) (rest := []) 0 (by decide) (cM_0 G _) rfl rfl (c_X8_fits G l σ (pM σ) (σ 6 (ix k)) k (nI (60 - j)) ro hpb rfl (by assumption) hrm (by assumption) (tN_3 hrf.2.1 hrf.2.2.1) hrf.2.1) kw_X8_266 hd_X8_fits rfl ⟨rfl, rfl⟩ ⟨Nat.le_of_ble_eq_true rfl, Nat.le_of_ble_eq_true rfl⟩ ⟨Nat.zero_le _, Nat.zero_le _⟩ hl.1 (Nat.le_of_ble_eq_true rfl) rfl dX8_strengths_55 (fun r u H locs hpq hP hS => ?_)
              obtain ⟨hr_, hu_⟩ := hpq
              have hr_ := hr_.symm
              have hu_ := hu_.symm
              subst hr_
              subst hu_
              refine lv_istore (lv' := [(7, .int (b2i (b_fits (pM σ) σ (σ 6 (ix k)) k (nI (60 - j)) (ix ro)))), (6, .int (nI (60 - j))), (5, .int x5), (4, .int x4), (3, .int ((n_ref σ ro).1)), (0, .ref (G.1 0)), (1, .int k), (2, .int ro)]) hx hb dX8_strengths_58 hl (by decide) rfl (fun ls hl => ?_)
              refine lv_iload hx hb dX8_strengths_60 (lv_at hl 3 rfl) ?_
              refine lv_iload hx hb dX8_strengths_62 (lv_at hl 0 rfl) ?_
              have jn_6 : ∀ x_6 : Int32, x_6 = (if (b_fits (pM σ) σ (σ 6 (ix k)) k (nI (60 - j)) (ix ro)) = true then 1 else 0) → W p l e ({ frames := 2, cells := 0, slots := 0, locals := 52 } : Room) s m ([.ref (G.1 0), .int k, .int ro] : List Value).toArray below meth c H locs 0 0 (MQ below (va_Qi (fun (r : Int32) u => r = (n_str σ k ro).1 ∧ u = (n_str σ k ro).2) (xB G 24 (cM G)) (xA G 24 s.heap.size)) ([.ref (G.1 0), .int k, .int ro] : List Value).toArray s 0 0 (xA G 24 s.heap.size)) (F0 m 72 ls [.int x_6, .int x4]) := by
                intro x_6 ex_6
                refine lv_iadd hx hb dX8_strengths_72 ?_
                refine lv_istore (lv' := [(4, .int (x4 + x_6)), (7, .int (b2i (b_fits (pM σ) σ (σ 6 (ix k)) k (nI (60 - j)) (ix ro)))), (6, .int (nI (60 - j))), (5, .int x5), (3, .int ((n_ref σ ro).1)), (0, .ref (G.1 0)), (1, .int k), (2, .int ro)]) hx hb dX8_strengths_73 hl (by decide) rfl (fun ls hl => ?_)
                refine lv_iload hx hb dX8_strengths_75 (lv_at hl 1 rfl) ?_
                have jn_7 : ∀ x_7 : Int32, x_7 = (if (b_fits (pM σ) σ (σ 6 (ix k)) k (nI (60 - j)) (ix ro)) = true then (nI (60 - j)) else x5) → W p l e ({ frames := 2, cells := 0, slots := 0, locals := 52 } : Room) s m ([.ref (G.1 0), .int k, .int ro] : List Value).toArray below meth c H locs 0 0 (MQ below (va_Qi (fun (r : Int32) u => r = (n_str σ k ro).1 ∧ u = (n_str σ k ro).2) (xB G 24 (cM G)) (xA G 24 s.heap.size)) ([.ref (G.1 0), .int k, .int ro] : List Value).toArray s 0 0 (xA G 24 s.heap.size)) (F0 m 87 ls [.int x_7]) := by
                  intro x_7 ex_7
                  refine lv_istore (lv' := [(5, .int x_7), (4, .int (x4 + x_6)), (7, .int (b2i (b_fits (pM σ) σ (σ 6 (ix k)) k (nI (60 - j)) (ix ro)))), (6, .int (nI (60 - j))), (3, .int ((n_ref σ ro).1)), (0, .ref (G.1 0)), (1, .int k), (2, .int ro)]) hx hb dX8_strengths_87 hl (by decide) rfl (fun ls hl => ?_)
                  refine lv_iinc (v := (nI (60 - j) + (-1))) (lv' := [(6, .int (nI (60 - j) + (-1))), (5, .int x_7), (4, .int (x4 + x_6)), (7, .int (b2i (b_fits (pM σ) σ (σ 6 (ix k)) k (nI (60 - j)) (ix ro)))), (3, .int ((n_ref σ ro).1)), (0, .ref (G.1 0)), (1, .int k), (2, .int ro)]) hx hb dX8_strengths_89 hl (k := 3) rfl rfl (by decide) rfl (fun ls hl => ?_)
                  refine lv_goto (tgt := 39) hx hb dX8_strengths_92 (by decide) ?_
                  exact ih_39 (j + 1) (x4 + x_6) x_7 (nI (60 - j) + (-1)) _ _ _ (by omega) (by omega) (by rw [sg_many, ← e_x4, hfj]; simp [t_1, t_2, c_3, c_4, ex_6, ex_7]) (by rw [sg_least, ← e_x5, hfj]; simp [t_1, t_2, c_3, c_4, ex_6, ex_7]) (by rw [show 61 - (j + 1) = 60 - j by omega]; first | exact Int32.sub_eq_add_neg.symm | exact (Int32.sub_eq_add_neg _ _).symm | (apply Int32.toInt_inj.mp; simp [Int32.toInt_add, Int32.toInt_sub])) hP hS (lv_sub hl [0, 1, 2, 4, 5, 6, 7] rfl)
                refine lv_if_eq (tgt := 85) hx hb dX8_strengths_77 (by decide) (fun c_7 => ?_) (fun c_7 => ?_)
                · have t_7 := b2i_f c_7
                  refine lv_iload hx hb dX8_strengths_85 (lv_at hl 3 rfl) ?_
                  exact jn_7 _ (if_neg (Bool.eq_false_iff.mp t_7)).symm
                · have t_7 := b2i_t c_7
                  refine lv_iload hx hb dX8_strengths_80 (lv_at hl 2 rfl) ?_
                  refine lv_goto (tgt := 87) hx hb dX8_strengths_82 (by decide) ?_
                  exact jn_7 _ (if_pos t_7).symm
              refine lv_if_eq (tgt := 71) hx hb dX8_strengths_64 (by decide) (fun c_6 => ?_) (fun c_6 => ?_)
              · have t_6 := b2i_f c_6
                refine lv_iconst (v := 0) hx hb dX8_strengths_71 (by decide) ?_
                exact jn_6 _ (if_neg (Bool.eq_false_iff.mp t_6)).symm
              · have t_6 := b2i_t c_6
                refine lv_iconst (v := 1) hx hb dX8_strengths_67 (by decide) ?_
                refine lv_goto (tgt := 72) hx hb dX8_strengths_68 (by decide) ?_
                exact jn_6 _ (if_pos t_6).symm
        exact lp_39 (61 - 0 + 1) 0 0 0 60 _ _ _ (by omega) (by omega) rfl rfl rfl hP hS (lv_sub hl [0, 1, 2, 3, 4, 5, 6] rfl)
      · have t_3 := i_ne c_3
        refine lv_iload_n hx hb dX8_strengths_27 rfl (lv_at hl 0 rfl) ?_
        exact xiret ha hP hS dX8_strengths_28 ⟨by simp [n_str, t_1, t_2, c_3, i_leN, -Int32.not_lt], (by simp [n_str, t_1, t_2, c_3, i_leN, -Int32.not_lt])⟩ rfl
    · have t_2 := b2i_f c_2
      refine lv_iconst (v := (-1)) hx hb dX8_strengths_15 (by decide) ?_
      exact xiret ha hP hS dX8_strengths_16 ⟨by simp [n_str, t_1, t_2, i_leN, -Int32.not_lt], (by simp [n_str, t_1, t_2, i_leN, -Int32.not_lt])⟩ rfl
set_option maxHeartbeats 4000000 in
set_option maxRecDepth 100000 in
theorem c_X8_kindsBy (G : GT) (l : Launch) (σ : Mem) (P : PT) (k : Int32) (ro : Int32) (hpb : PB P) (hPV : pM σ = P) (hk : a_isPole P k = true) (hrm : RM σ) (hro6 : a_in ro 6 = true) (ht3 : 3 * tNM σ (ix ro) = ix (σ 2 (ix ro))) (hz0 : ¬ σ 2 (ix ro) < 0) : CI G 24 (cM G) l yX8_kindsBy ({ frames := 2, cells := 0, slots := 0, locals := 52 } : Room) cX8_kindsBy 5 (some .int) [.ref (G.1 0), .int k, .int ro] σ (fun (r : Int32) u => r = b_kindsBy P σ k (ix ro) ∧ u = σ) := by
  intro sz
  refine xbegin (by decide) (Nat.le_of_ble_eq_true rfl) ?_
  intro p e s m below meth c ls hsz ha hP hl
  subst hsz
  have hx := ha.1
  have hb := ha.2.1
  have hS : va_S (xA G 24 s.heap.size) s.heap s.heap [] := va_S.rf
  have hl : lv_has ls 5 [(0, .ref (G.1 0)), (1, .int k), (2, .int ro)] := hl
  have k_0 : (0 : Int32).toInt = 0 := by decide
  have k_1 : (1 : Int32).toInt = 1 := by decide
  have k_4 : (4 : Int32).toInt = 4 := by decide
  have k_5 : (5 : Int32).toInt = 5 := by decide
  have k_6 : (6 : Int32).toInt = 6 := by decide
  have hPL := PB_pl hpb
  have hPE := PB_pe hpb
  have hp4 := PV_pl hpb hPV
  have hp5 := PV_pe hpb hPV
  have hk1 := isPole_t hk
  obtain ⟨p6, p7, p8, p9, p10⟩ := pM_c hPV
  refine lv_iconst (v := 0) hx hb dX8_kindsBy_0 (by decide) ?_
  refine lv_istore_n (lv' := [(3, .int 0), (0, .ref (G.1 0)), (1, .int k), (2, .int ro)]) hx hb dX8_kindsBy_1 rfl hl (by decide) rfl (fun ls hl => ?_)
  refine lv_iconst (v := 0) hx hb dX8_kindsBy_2 (by decide) ?_
  refine lv_istore (lv' := [(4, .int 0), (3, .int 0), (0, .ref (G.1 0)), (1, .int k), (2, .int ro)]) hx hb dX8_kindsBy_3 hl (by decide) rfl (fun ls hl => ?_)
  have lp_5 : ∀ (d j : Nat) (x3 : Int32) (H : Heap) (locs : List Loc) (ls : Array Slot), j ≤ 6 → 6 - j < d → x3 = a_bits (fun d => b_fits P σ (nI d) k (P 3 (ix k)) (ix ro)) j → va_P G.2.1 vwCl (wl G 24 (cM G σ)) H → va_S (xA G 24 s.heap.size) s.heap H locs → lv_has ls 5 [(4, .int (nI j)), (3, .int x3), (0, .ref (G.1 0)), (1, .int k), (2, .int ro)] → W p l e ({ frames := 2, cells := 0, slots := 0, locals := 52 } : Room) s m ([.ref (G.1 0), .int k, .int ro] : List Value).toArray below meth c H locs 0 0 (MQ below (va_Qi (fun (r : Int32) u => r = b_kindsBy P σ k (ix ro) ∧ u = σ) (xB G 24 (cM G)) (xA G 24 s.heap.size)) ([.ref (G.1 0), .int k, .int ro] : List Value).toArray s 0 0 (xA G 24 s.heap.size)) (F0 m 5 ls []) := by
    intro d
    induction d with
    | zero => intro j x3 H locs ls hj hd; exact absurd hd (Nat.not_lt_zero _)
    | succ d ih_5 =>
      intro j x3 H locs ls hj_j hd_j e_x3 hP hS hl
      have h31_j : (nI j).toInt = (j : Int) := nI_toInt (by omega)
      refine lv_iload hx hb dX8_kindsBy_5 (lv_at hl 0 rfl) ?_
      refine lv_bipush (v := 6) hx hb dX8_kindsBy_7 (by decide) ?_
      refine lv_icmp_ge (tgt := 46) hx hb dX8_kindsBy_9 (by decide) (fun c_1 => ?_) (fun c_1 => ?_)
      · have t_1 := i_le c_1
        have u_1 := u_le c_1
        obtain rfl : j = 6 := by omega
        refine lv_iload_n hx hb dX8_kindsBy_46 rfl (lv_at hl 1 rfl) ?_
        exact xiret ha hP hS dX8_kindsBy_47 ⟨by exact e_x3, rfl⟩ rfl
      · have t_1 := i_nle c_1
        have u_1 := u_nle c_1
        have hlt_j : j < 6 := by omega
        refine lv_iload_n hx hb dX8_kindsBy_12 rfl (lv_at hl 1 rfl) ?_
        refine lv_aload_n hx hb dX8_kindsBy_13 rfl (lv_at hl 2 rfl) ?_
        refine lv_iload hx hb dX8_kindsBy_14 (lv_at hl 0 rfl) ?_
        refine lv_iload_n hx hb dX8_kindsBy_16 rfl (lv_at hl 3 rfl) ?_
        refine lv_aload_n hx hb dX8_kindsBy_17 rfl (lv_at hl 2 rfl) ?_
        refine g8_35 ha hP 0 (by decide) (cM_0 G _) (v := .ref (G.1 8)) rfl dX8_kindsBy_18 ?_
        refine lv_iload_n hx hb dX8_kindsBy_21 rfl (lv_at hl 3 rfl) ?_
        refine xialdN ha hP 8 (by decide) (cM_8 G _) (ix k) (ix_nI (by omega)) (ix_lt (by omega) (by omega)) (by decide) dX8_kindsBy_22 ?_
        refine lv_iload_n hx hb dX8_kindsBy_23 rfl (lv_at hl 4 rfl) ?_
        refine xVi ha hP hS (y := yX8_fits) (As := [.int (nI j), .int k, .int (σ 8 (ix k)), .int ro]) (rest := [.int x3]) 0 (by decide) (cM_0 G _) rfl rfl (c_X8_fits G l σ P (nI j) k (σ 8 (ix k)) ro hpb hPV hk hrm hro6 ht3 hz0) kw_X8_266 hd_X8_fits rfl ⟨rfl, rfl⟩ ⟨Nat.le_of_ble_eq_true rfl, Nat.le_of_ble_eq_true rfl⟩ ⟨Nat.zero_le _, Nat.zero_le _⟩ hl.1 (Nat.le_of_ble_eq_true rfl) rfl dX8_kindsBy_24 (fun r u H locs hpq hP hS => ?_)
        obtain ⟨hr_, hu_⟩ := hpq
        have hr_ := hr_.symm
        have hu_ := hu_.symm
        subst hr_
        subst hu_
        have jn_2 : ∀ x_2 : Int32, x_2 = (if (b_fits P σ (nI j) k (σ 8 (ix k)) (ix ro)) = true then ((1 <<< (nI j &&& 31)) : Int32) else (0 : Int32)) → W p l e ({ frames := 2, cells := 0, slots := 0, locals := 52 } : Room) s m ([.ref (G.1 0), .int k, .int ro] : List Value).toArray below meth c H locs 0 0 (MQ below (va_Qi (fun (r : Int32) u => r = b_kindsBy P σ k (ix ro) ∧ u = σ) (xB G 24 (cM G)) (xA G 24 s.heap.size)) ([.ref (G.1 0), .int k, .int ro] : List Value).toArray s 0 0 (xA G 24 s.heap.size)) (F0 m 38 ls [.int x_2, .int x3]) := by
          intro x_2 ex_2
          refine lv_ior hx hb dX8_kindsBy_38 ?_
          refine lv_istore_n (lv' := [(3, .int (x3 ||| x_2)), (4, .int (nI j)), (0, .ref (G.1 0)), (1, .int k), (2, .int ro)]) hx hb dX8_kindsBy_39 rfl hl (by decide) rfl (fun ls hl => ?_)
          refine lv_iinc (v := (nI (j + 1))) (lv' := [(4, .int (nI (j + 1))), (3, .int (x3 ||| x_2)), (0, .ref (G.1 0)), (1, .int k), (2, .int ro)]) hx hb dX8_kindsBy_40 hl (k := 1) rfl (nI_1 j) (by decide) rfl (fun ls hl => ?_)
          refine lv_goto (tgt := 5) hx hb dX8_kindsBy_43 (by decide) ?_
          exact ih_5 (j + 1) (x3 ||| x_2) _ _ _ (by omega) (by omega) (by rw [a_bits, ← e_x3, ← p8]; simp [u_1, ex_2]; try (split <;> simp)) hP hS (lv_sub hl [0, 1, 2, 3, 4] rfl)
        refine lv_if_eq (tgt := 37) hx hb dX8_kindsBy_27 (by decide) (fun c_2 => ?_) (fun c_2 => ?_)
        · have t_2 := b2i_f c_2
          refine lv_iconst (v := 0) hx hb dX8_kindsBy_37 (by decide) ?_
          exact jn_2 _ (if_neg (Bool.eq_false_iff.mp t_2)).symm
        · have t_2 := b2i_t c_2
          refine lv_iconst (v := 1) hx hb dX8_kindsBy_30 (by decide) ?_
          refine lv_iload hx hb dX8_kindsBy_31 (lv_at hl 0 rfl) ?_
          refine lv_ishl hx hb dX8_kindsBy_33 ?_
          refine lv_goto (tgt := 38) hx hb dX8_kindsBy_34 (by decide) ?_
          exact jn_2 _ (if_pos t_2).symm
  exact lp_5 (6 - 0 + 1) 0 0 _ _ _ (by omega) (by omega) rfl hP hS (lv_sub hl [0, 1, 2, 3, 4] rfl)
set_option maxHeartbeats 4000000 in
set_option maxRecDepth 100000 in
theorem c_X8_kinds (G : GT) (l : Launch) (σ : Mem) (k : Int32) (ro : Int32) (hpb : PB (pM σ)) (hrm : RM σ) : CI G 24 (cM G) l yX8_kinds ({ frames := 3, cells := 0, slots := 0, locals := 76 } : Room) cX8_kinds 4 (some .int) [.ref (G.1 0), .int k, .int ro] σ (fun (r : Int32) u => r = (n_kinds σ k ro).1 ∧ u = (n_kinds σ k ro).2) := by
  intro sz
  refine xbegin (by decide) (Nat.le_of_ble_eq_true rfl) ?_
  intro p e s m below meth c ls hsz ha hP hl
  subst hsz
  have hx := ha.1
  have hb := ha.2.1
  have hS : va_S (xA G 24 s.heap.size) s.heap s.heap [] := va_S.rf
  have hl : lv_has ls 4 [(0, .ref (G.1 0)), (1, .int k), (2, .int ro)] := hl
  have k_m1 : (-1 : Int32).toInt = -1 := by decide
  have k_0 : (0 : Int32).toInt = 0 := by decide
  have k_4 : (4 : Int32).toInt = 4 := by decide
  have k_5 : (5 : Int32).toInt = 5 := by decide
  have k_6 : (6 : Int32).toInt = 6 := by decide
  have hPL := PB_pl hpb
  have hPE := PB_pe hpb
  have hp4 := PV_pl hpb (rfl : pM σ = pM σ)
  have hp5 := PV_pe hpb (rfl : pM σ = pM σ)
  refine lv_aload_n hx hb dX8_kinds_0 rfl (lv_at hl 0 rfl) ?_
  refine lv_iload_n hx hb dX8_kinds_1 rfl (lv_at hl 1 rfl) ?_
  refine xVi ha hP hS (y := yX8_isPole) (As := [.int k]) (rest := []) 0 (by decide) (cM_0 G _) rfl rfl (c_X8_isPole G l σ (pM σ) k hpb rfl) kw_X8_206 hd_X8_isPole rfl ⟨rfl, rfl⟩ ⟨Nat.le_of_ble_eq_true rfl, Nat.le_of_ble_eq_true rfl⟩ ⟨Nat.zero_le _, Nat.zero_le _⟩ hl.1 (Nat.le_of_ble_eq_true rfl) rfl dX8_kinds_2 (fun r u H locs hpq hP hS => ?_)
  obtain ⟨hr_, hu_⟩ := hpq
  have hr_ := hr_.symm
  have hu_ := hu_.symm
  subst hr_
  subst hu_
  refine lv_if_eq (tgt := 15) hx hb dX8_kinds_5 (by decide) (fun c_1 => ?_) (fun c_1 => ?_)
  · have t_1 := b2i_f c_1
    refine lv_iconst (v := (-1)) hx hb dX8_kinds_15 (by decide) ?_
    exact xiret ha hP hS dX8_kinds_16 ⟨by simp [n_kinds, t_1, i_leN, -Int32.not_lt], (by simp [n_kinds, t_1, i_leN, -Int32.not_lt])⟩ rfl
  · have t_1 := b2i_t c_1
    have f_1 := isPole_t t_1
    refine lv_iload_n hx hb dX8_kinds_8 rfl (lv_at hl 2 rfl) ?_
    refine xSi ha hP hS (y := yX8_isRow) (As := [.int ro]) (rest := []) rfl (c_X8_isRow G l σ ro ) kw_X8_101 hd_X8_isRow rfl ⟨rfl, rfl⟩ ⟨Nat.le_of_ble_eq_true rfl, Nat.le_of_ble_eq_true rfl⟩ ⟨Nat.zero_le _, Nat.zero_le _⟩ hl.1 (Nat.le_of_ble_eq_true rfl) rfl dX8_kinds_9 (fun r u H locs hpq hP hS => ?_)
    obtain ⟨hr_, hu_⟩ := hpq
    have hr_ := hr_.symm
    have hu_ := hu_.symm
    subst hr_
    subst hu_
    refine lv_if_ne (tgt := 17) hx hb dX8_kinds_12 (by decide) (fun c_2 => ?_) (fun c_2 => ?_)
    · have t_2 := b2i_t c_2
      have f_2 := in_t t_2
      refine lv_aload_n hx hb dX8_kinds_17 rfl (lv_at hl 0 rfl) ?_
      refine lv_iload_n hx hb dX8_kinds_18 rfl (lv_at hl 2 rfl) ?_
      refine xVi ha hP hS (y := yX8_refusesTriples) (As := [.int ro]) (rest := []) 0 (by decide) (cM_0 G _) rfl rfl (c_X8_refusesTriples G l σ ro hrm (by assumption)) kw_X8_263 hd_X8_refusesTriples rfl ⟨rfl, rfl⟩ ⟨Nat.le_of_ble_eq_true rfl, Nat.le_of_ble_eq_true rfl⟩ ⟨Nat.zero_le _, Nat.zero_le _⟩ hl.1 (Nat.le_of_ble_eq_true rfl) rfl dX8_kinds_19 (fun r u H locs hpq hP hS => ?_)
      obtain ⟨hr_, hu_⟩ := hpq
      have hr_ := hr_.symm
      have hu_ := hu_.symm
      subst hr_
      subst hu_
      refine lv_istore_n (lv' := [(3, .int ((n_ref σ ro).1)), (0, .ref (G.1 0)), (1, .int k), (2, .int ro)]) hx hb dX8_kinds_22 rfl hl (by decide) rfl (fun ls hl => ?_)
      refine lv_iload_n hx hb dX8_kinds_23 rfl (lv_at hl 0 rfl) ?_
      refine lv_if_eq (tgt := 31) hx hb dX8_kinds_24 (by decide) (fun c_3 => ?_) (fun c_3 => ?_)
      · have t_3 := i_eq c_3
        have hsm_31 : ((n_ref σ ro).2) = σ := (ref_0 (by assumption)).1
        rw [hsm_31] at hP
        have hrf := ref_0 (show (n_ref σ ro).1 = 0 by assumption)
        refine lv_aload_n hx hb dX8_kinds_31 rfl (lv_at hl 1 rfl) ?_
        refine lv_iload_n hx hb dX8_kinds_32 rfl (lv_at hl 2 rfl) ?_
        refine lv_iload_n hx hb dX8_kinds_33 rfl (lv_at hl 3 rfl) ?_
        refine xVi ha hP hS (y := yX8_kindsBy) (As := [.int k, .int ro]) (rest := []) 0 (by decide) (cM_0 G _) rfl rfl (c_X8_kindsBy G l σ (pM σ) k ro hpb rfl (by assumption) hrm (by assumption) (tN_3 hrf.2.1 hrf.2.2.1) hrf.2.1) kw_X8_270 hd_X8_kindsBy rfl ⟨rfl, rfl⟩ ⟨Nat.le_of_ble_eq_true rfl, Nat.le_of_ble_eq_true rfl⟩ ⟨Nat.zero_le _, Nat.zero_le _⟩ hl.1 (Nat.le_of_ble_eq_true rfl) rfl dX8_kinds_34 (fun r u H locs hpq hP hS => ?_)
        obtain ⟨hr_, hu_⟩ := hpq
        have hr_ := hr_.symm
        have hu_ := hu_.symm
        subst hr_
        subst hu_
        exact xiret ha hP hS dX8_kinds_37 ⟨by simp [n_kinds, t_1, t_2, c_3, i_leN, -Int32.not_lt], (by simp [n_kinds, t_1, t_2, c_3, i_leN, -Int32.not_lt])⟩ rfl
      · have t_3 := i_ne c_3
        refine lv_iload_n hx hb dX8_kinds_27 rfl (lv_at hl 0 rfl) ?_
        refine lv_goto (tgt := 37) hx hb dX8_kinds_28 (by decide) ?_
        exact xiret ha hP hS dX8_kinds_37 ⟨by simp [n_kinds, t_1, t_2, c_3, i_leN, -Int32.not_lt], (by simp [n_kinds, t_1, t_2, c_3, i_leN, -Int32.not_lt])⟩ rfl
    · have t_2 := b2i_f c_2
      refine lv_iconst (v := (-1)) hx hb dX8_kinds_15 (by decide) ?_
      exact xiret ha hP hS dX8_kinds_16 ⟨by simp [n_kinds, t_1, t_2, i_leN, -Int32.not_lt], (by simp [n_kinds, t_1, t_2, i_leN, -Int32.not_lt])⟩ rfl
set_option maxHeartbeats 4000000 in
set_option maxRecDepth 100000 in
theorem c_X8_test (G : GT) (l : Launch) (σ : Mem) (k : Int32) (ro : Int32) (hpb : PB (pM σ)) (hrm : RM σ) : CI G 24 (cM G) l yX8_test ({ frames := 3, cells := 0, slots := 0, locals := 76 } : Room) cX8_test 10 (some .int) [.ref (G.1 0), .int k, .int ro] σ (fun (r : Int32) u => r = (n_test σ k ro).1 ∧ u = (n_test σ k ro).2) := by
  intro sz
  refine xbegin (by decide) (Nat.le_of_ble_eq_true rfl) ?_
  intro p e s m below meth c ls hsz ha hP hl
  subst hsz
  have hx := ha.1
  have hb := ha.2.1
  have hS : va_S (xA G 24 s.heap.size) s.heap s.heap [] := va_S.rf
  have hl : lv_has ls 10 [(0, .ref (G.1 0)), (1, .int k), (2, .int ro)] := hl
  have k_m9 : (-9 : Int32).toInt = -9 := by decide
  have k_m1 : (-1 : Int32).toInt = -1 := by decide
  have k_0 : (0 : Int32).toInt = 0 := by decide
  have k_1 : (1 : Int32).toInt = 1 := by decide
  have k_4 : (4 : Int32).toInt = 4 := by decide
  have k_5 : (5 : Int32).toInt = 5 := by decide
  have k_6 : (6 : Int32).toInt = 6 := by decide
  have k_100 : (100 : Int32).toInt = 100 := by decide
  have k_1000000 : (1000000 : Int32).toInt = 1000000 := by decide
  have hPL := PB_pl hpb
  have hPE := PB_pe hpb
  have hp4 := PV_pl hpb (rfl : pM σ = pM σ)
  have hp5 := PV_pe hpb (rfl : pM σ = pM σ)
  refine lv_aload_n hx hb dX8_test_0 rfl (lv_at hl 0 rfl) ?_
  refine lv_iload_n hx hb dX8_test_1 rfl (lv_at hl 1 rfl) ?_
  refine xVi ha hP hS (y := yX8_isPole) (As := [.int k]) (rest := []) 0 (by decide) (cM_0 G _) rfl rfl (c_X8_isPole G l σ (pM σ) k hpb rfl) kw_X8_206 hd_X8_isPole rfl ⟨rfl, rfl⟩ ⟨Nat.le_of_ble_eq_true rfl, Nat.le_of_ble_eq_true rfl⟩ ⟨Nat.zero_le _, Nat.zero_le _⟩ hl.1 (Nat.le_of_ble_eq_true rfl) rfl dX8_test_2 (fun r u H locs hpq hP hS => ?_)
  obtain ⟨hr_, hu_⟩ := hpq
  have hr_ := hr_.symm
  have hu_ := hu_.symm
  subst hr_
  subst hu_
  refine lv_if_eq (tgt := 15) hx hb dX8_test_5 (by decide) (fun c_1 => ?_) (fun c_1 => ?_)
  · have t_1 := b2i_f c_1
    refine lv_iconst (v := (-1)) hx hb dX8_test_15 (by decide) ?_
    exact xiret ha hP hS dX8_test_16 ⟨by simp [n_test, t_1, i_leN, -Int32.not_lt], (by simp [n_test, t_1, i_leN, -Int32.not_lt])⟩ rfl
  · have t_1 := b2i_t c_1
    have f_1 := isPole_t t_1
    refine lv_iload_n hx hb dX8_test_8 rfl (lv_at hl 2 rfl) ?_
    refine xSi ha hP hS (y := yX8_isRow) (As := [.int ro]) (rest := []) rfl (c_X8_isRow G l σ ro ) kw_X8_101 hd_X8_isRow rfl ⟨rfl, rfl⟩ ⟨Nat.le_of_ble_eq_true rfl, Nat.le_of_ble_eq_true rfl⟩ ⟨Nat.zero_le _, Nat.zero_le _⟩ hl.1 (Nat.le_of_ble_eq_true rfl) rfl dX8_test_9 (fun r u H locs hpq hP hS => ?_)
    obtain ⟨hr_, hu_⟩ := hpq
    have hr_ := hr_.symm
    have hu_ := hu_.symm
    subst hr_
    subst hu_
    refine lv_if_ne (tgt := 17) hx hb dX8_test_12 (by decide) (fun c_2 => ?_) (fun c_2 => ?_)
    · have t_2 := b2i_t c_2
      have f_2 := in_t t_2
      refine lv_aload_n hx hb dX8_test_17 rfl (lv_at hl 0 rfl) ?_
      refine lv_iload_n hx hb dX8_test_18 rfl (lv_at hl 2 rfl) ?_
      refine xVi ha hP hS (y := yX8_refusesTriples) (As := [.int ro]) (rest := []) 0 (by decide) (cM_0 G _) rfl rfl (c_X8_refusesTriples G l σ ro hrm (by assumption)) kw_X8_263 hd_X8_refusesTriples rfl ⟨rfl, rfl⟩ ⟨Nat.le_of_ble_eq_true rfl, Nat.le_of_ble_eq_true rfl⟩ ⟨Nat.zero_le _, Nat.zero_le _⟩ hl.1 (Nat.le_of_ble_eq_true rfl) rfl dX8_test_19 (fun r u H locs hpq hP hS => ?_)
      obtain ⟨hr_, hu_⟩ := hpq
      have hr_ := hr_.symm
      have hu_ := hu_.symm
      subst hr_
      subst hu_
      refine lv_istore_n (lv' := [(3, .int ((n_ref σ ro).1)), (0, .ref (G.1 0)), (1, .int k), (2, .int ro)]) hx hb dX8_test_22 rfl hl (by decide) rfl (fun ls hl => ?_)
      refine lv_iload_n hx hb dX8_test_23 rfl (lv_at hl 0 rfl) ?_
      refine lv_if_eq (tgt := 29) hx hb dX8_test_24 (by decide) (fun c_3 => ?_) (fun c_3 => ?_)
      · have t_3 := i_eq c_3
        have hsm_29 : ((n_ref σ ro).2) = σ := (ref_0 (by assumption)).1
        rw [hsm_29] at hP
        have hrf := ref_0 (show (n_ref σ ro).1 = 0 by assumption)
        refine lv_aload_n hx hb dX8_test_29 rfl (lv_at hl 1 rfl) ?_
        refine lv_iload_n hx hb dX8_test_30 rfl (lv_at hl 2 rfl) ?_
        refine lv_iload_n hx hb dX8_test_31 rfl (lv_at hl 3 rfl) ?_
        refine xVi ha hP hS (y := yX8_kindsBy) (As := [.int k, .int ro]) (rest := []) 0 (by decide) (cM_0 G _) rfl rfl (c_X8_kindsBy G l σ (pM σ) k ro hpb rfl (by assumption) hrm (by assumption) (tN_3 hrf.2.1 hrf.2.2.1) hrf.2.1) kw_X8_270 hd_X8_kindsBy rfl ⟨rfl, rfl⟩ ⟨Nat.le_of_ble_eq_true rfl, Nat.le_of_ble_eq_true rfl⟩ ⟨Nat.zero_le _, Nat.zero_le _⟩ hl.1 (Nat.le_of_ble_eq_true rfl) rfl dX8_test_32 (fun r u H locs hpq hP hS => ?_)
        obtain ⟨hr_, hu_⟩ := hpq
        have hr_ := hr_.symm
        have hu_ := hu_.symm
        subst hr_
        subst hu_
        refine lv_istore (lv' := [(4, .int (b_kindsBy (pM σ) σ k (ix ro))), (3, .int ((n_ref σ ro).1)), (0, .ref (G.1 0)), (1, .int k), (2, .int ro)]) hx hb dX8_test_35 hl (by decide) rfl (fun ls hl => ?_)
        refine lv_iconst (v := 0) hx hb dX8_test_37 (by decide) ?_
        refine lv_istore (lv' := [(5, .int 0), (4, .int (b_kindsBy (pM σ) σ k (ix ro))), (3, .int ((n_ref σ ro).1)), (0, .ref (G.1 0)), (1, .int k), (2, .int ro)]) hx hb dX8_test_38 hl (by decide) rfl (fun ls hl => ?_)
        refine lv_ldc (v := 1000000) hx hb ha.2.2.2.1 (ha.2.2.2.2.1 _ (tb_in (w := .constant RX8 254 1000000) (by decide +kernel))) dX8_test_40 ?_
        refine lv_istore (lv' := [(6, .int 1000000), (5, .int 0), (4, .int (b_kindsBy (pM σ) σ k (ix ro))), (3, .int ((n_ref σ ro).1)), (0, .ref (G.1 0)), (1, .int k), (2, .int ro)]) hx hb dX8_test_42 hl (by decide) rfl (fun ls hl => ?_)
        refine lv_iconst (v := 0) hx hb dX8_test_44 (by decide) ?_
        refine lv_istore (lv' := [(7, .int 0), (6, .int 1000000), (5, .int 0), (4, .int (b_kindsBy (pM σ) σ k (ix ro))), (3, .int ((n_ref σ ro).1)), (0, .ref (G.1 0)), (1, .int k), (2, .int ro)]) hx hb dX8_test_45 hl (by decide) rfl (fun ls hl => ?_)
        have lp_47 : ∀ (d j : Nat) (x5 : Int32) (x6 : Int32) (H : Heap) (locs : List Loc) (ls : Array Slot), j ≤ 100 → 100 - j < d → x5 = tt_best (tt_part (pM σ) σ k (b_kindsBy (pM σ) σ k (ix ro))) j → x6 = tt_least (tt_part (pM σ) σ k (b_kindsBy (pM σ) σ k (ix ro))) j → va_P G.2.1 vwCl (wl G 24 (cM G σ)) H → va_S (xA G 24 s.heap.size) s.heap H locs → lv_has ls 10 [(7, .int (nI j)), (6, .int x6), (5, .int x5), (4, .int (b_kindsBy (pM σ) σ k (ix ro))), (3, .int ((n_ref σ ro).1)), (0, .ref (G.1 0)), (1, .int k), (2, .int ro)] → W p l e ({ frames := 3, cells := 0, slots := 0, locals := 76 } : Room) s m ([.ref (G.1 0), .int k, .int ro] : List Value).toArray below meth c H locs 0 0 (MQ below (va_Qi (fun (r : Int32) u => r = (n_test σ k ro).1 ∧ u = (n_test σ k ro).2) (xB G 24 (cM G)) (xA G 24 s.heap.size)) ([.ref (G.1 0), .int k, .int ro] : List Value).toArray s 0 0 (xA G 24 s.heap.size)) (F0 m 47 ls []) := by
          intro d
          induction d with
          | zero => intro j x5 x6 H locs ls hj hd; exact absurd hd (Nat.not_lt_zero _)
          | succ d ih_47 =>
            intro j x5 x6 H locs ls hj_j hd_j e_x5 e_x6 hP hS hl
            have h31_j : (nI j).toInt = (j : Int) := nI_toInt (by omega)
            refine lv_iload hx hb dX8_test_47 (lv_at hl 0 rfl) ?_
            refine lv_bipush (v := 100) hx hb dX8_test_49 (by decide) ?_
            refine lv_icmp_ge (tgt := 179) hx hb dX8_test_51 (by decide) (fun c_4 => ?_) (fun c_4 => ?_)
            · have t_4 := i_le c_4
              have u_4 := u_le c_4
              obtain rfl : j = 100 := by omega
              refine lv_iload hx hb dX8_test_179 (lv_at hl 3 rfl) ?_
              refine lv_if_ne (tgt := 189) hx hb dX8_test_181 (by decide) (fun c_5 => ?_) (fun c_5 => ?_)
              · have t_5 := i_ne c_5
                refine lv_aload_n hx hb dX8_test_189 rfl (lv_at hl 5 rfl) ?_
                refine lv_iload hx hb dX8_test_190 (lv_at hl 2 rfl) ?_
                refine lv_iload hx hb dX8_test_192 (lv_at hl 1 rfl) ?_
                refine xVi ha hP hS (y := yX8_answer) (As := [.int x5, .int x6]) (rest := []) 0 (by decide) (cM_0 G _) rfl rfl (c_X8_answer G l σ x5 x6 ) kw_X8_229 hd_X8_answer rfl ⟨rfl, rfl⟩ ⟨Nat.le_of_ble_eq_true rfl, Nat.le_of_ble_eq_true rfl⟩ ⟨Nat.zero_le _, Nat.zero_le _⟩ hl.1 (Nat.le_of_ble_eq_true rfl) rfl dX8_test_194 (fun r u H locs hpq hP hS => ?_)
                obtain ⟨hr_, hu_⟩ := hpq
                have hr_ := hr_.symm
                have hu_ := hu_.symm
                subst hr_
                subst hu_
                exact xiret ha hP hS dX8_test_197 ⟨by simp [n_test, ← e_x5, ← e_x6, t_1, t_2, c_3, u_4, c_5], (by simp [n_test, ← e_x5, ← e_x6, t_1, t_2, c_3, u_4, c_5])⟩ rfl
              · have t_5 := i_eq c_5
                refine lv_bipush (v := (-9)) hx hb dX8_test_184 (by decide) ?_
                refine lv_goto (tgt := 197) hx hb dX8_test_186 (by decide) ?_
                exact xiret ha hP hS dX8_test_197 ⟨by simp [n_test, ← e_x5, ← e_x6, t_1, t_2, c_3, u_4, c_5], (by simp [n_test, ← e_x5, ← e_x6, t_1, t_2, c_3, u_4, c_5])⟩ rfl
            · have t_4 := i_nle c_4
              have u_4 := u_nle c_4
              have hlt_j : j < 100 := by omega
              refine lv_iconst (v := 0) hx hb dX8_test_54 (by decide) ?_
              refine lv_istore (lv' := [(8, .int 0), (7, .int (nI j)), (6, .int x6), (5, .int x5), (4, .int (b_kindsBy (pM σ) σ k (ix ro))), (3, .int ((n_ref σ ro).1)), (0, .ref (G.1 0)), (1, .int k), (2, .int ro)]) hx hb dX8_test_55 hl (by decide) rfl (fun ls hl => ?_)
              refine lv_iconst (v := 0) hx hb dX8_test_57 (by decide) ?_
              refine lv_istore (lv' := [(9, .int 0), (8, .int 0), (7, .int (nI j)), (6, .int x6), (5, .int x5), (4, .int (b_kindsBy (pM σ) σ k (ix ro))), (3, .int ((n_ref σ ro).1)), (0, .ref (G.1 0)), (1, .int k), (2, .int ro)]) hx hb dX8_test_58 hl (by decide) rfl (fun ls hl => ?_)
              have lp_60 : ∀ (d j1 : Nat) (x8 : Int32) (H : Heap) (locs : List Loc) (ls : Array Slot), j1 ≤ 6 → 6 - j1 < d → x8 = a_sum (fun d => if b_has (b_kindsBy (pM σ) σ k (ix ro)) (nI d) = true then (if a_bearing (nI d) ((pM σ) 2 (ix k)) ((pM σ) 3 (ix k)) (σ 11 (ix k)) < nI j then 0 else 1) else 0) j1 → va_P G.2.1 vwCl (wl G 24 (cM G σ)) H → va_S (xA G 24 s.heap.size) s.heap H locs → lv_has ls 10 [(9, .int (nI j1)), (8, .int x8), (7, .int (nI j)), (6, .int x6), (5, .int x5), (4, .int (b_kindsBy (pM σ) σ k (ix ro))), (3, .int ((n_ref σ ro).1)), (0, .ref (G.1 0)), (1, .int k), (2, .int ro)] → W p l e ({ frames := 3, cells := 0, slots := 0, locals := 76 } : Room) s m ([.ref (G.1 0), .int k, .int ro] : List Value).toArray below meth c H locs 0 0 (MQ below (va_Qi (fun (r : Int32) u => r = (n_test σ k ro).1 ∧ u = (n_test σ k ro).2) (xB G 24 (cM G)) (xA G 24 s.heap.size)) ([.ref (G.1 0), .int k, .int ro] : List Value).toArray s 0 0 (xA G 24 s.heap.size)) (F0 m 60 ls []) := by
                intro d
                induction d with
                | zero => intro j1 x8 H locs ls hj hd; exact absurd hd (Nat.not_lt_zero _)
                | succ d ih_60 =>
                  intro j1 x8 H locs ls hj_j1 hd_j1 e_x8 hP hS hl
                  have h31_j1 : (nI j1).toInt = (j1 : Int) := nI_toInt (by omega)
                  refine lv_iload hx hb dX8_test_60 (lv_at hl 0 rfl) ?_
                  refine lv_bipush (v := 6) hx hb dX8_test_62 (by decide) ?_
                  refine lv_icmp_ge (tgt := 113) hx hb dX8_test_64 (by decide) (fun c_6 => ?_) (fun c_6 => ?_)
                  · have t_6 := i_le c_6
                    have u_6 := u_le c_6
                    obtain rfl : j1 = 6 := by omega
                    have hh : tt_hold (pM σ) σ k (b_kindsBy (pM σ) σ k (ix ro)) (nI j) = x8 := e_x8.symm
                    refine lv_iload hx hb dX8_test_113 (lv_at hl 1 rfl) ?_
                    refine lv_iload hx hb dX8_test_115 (lv_at hl 5 rfl) ?_
                    refine xSi ha hP hS (y := yX8_bits) (As := [.int (b_kindsBy (pM σ) σ k (ix ro))]) (rest := [.int x8]) rfl (c_X8_bits G l σ (b_kindsBy (pM σ) σ k (ix ro)) (clr_bits _ (by decide))) kw_X8_255 hd_X8_bits rfl ⟨rfl, rfl⟩ ⟨Nat.le_of_ble_eq_true rfl, Nat.le_of_ble_eq_true rfl⟩ ⟨Nat.zero_le _, Nat.zero_le _⟩ hl.1 (Nat.le_of_ble_eq_true rfl) rfl dX8_test_117 (fun r u H locs hpq hP hS => ?_)
                    obtain ⟨hr_, hu_⟩ := hpq
                    have hr_ := hr_.symm
                    have hu_ := hu_.symm
                    subst hr_
                    subst hu_
                    refine lv_iload hx hb dX8_test_120 (lv_at hl 1 rfl) ?_
                    refine lv_isub hx hb dX8_test_122 ?_
                    refine lv_icmp_le (tgt := 131) hx hb dX8_test_123 (by decide) (fun c_7 => ?_) (fun c_7 => ?_)
                    · have t_7 := i_le c_7
                      have u_7 := u_le c_7
                      refine lv_iload hx hb dX8_test_131 (lv_at hl 5 rfl) ?_
                      refine xSi ha hP hS (y := yX8_bits) (As := [.int (b_kindsBy (pM σ) σ k (ix ro))]) (rest := []) rfl (c_X8_bits G l σ (b_kindsBy (pM σ) σ k (ix ro)) (clr_bits _ (by decide))) kw_X8_255 hd_X8_bits rfl ⟨rfl, rfl⟩ ⟨Nat.le_of_ble_eq_true rfl, Nat.le_of_ble_eq_true rfl⟩ ⟨Nat.zero_le _, Nat.zero_le _⟩ hl.1 (Nat.le_of_ble_eq_true rfl) rfl dX8_test_133 (fun r u H locs hpq hP hS => ?_)
                      obtain ⟨hr_, hu_⟩ := hpq
                      have hr_ := hr_.symm
                      have hu_ := hu_.symm
                      subst hr_
                      subst hu_
                      refine lv_iload hx hb dX8_test_136 (lv_at hl 1 rfl) ?_
                      refine lv_isub hx hb dX8_test_138 ?_
                      refine lv_istore (lv' := [(9, .int ((b_cnt 33 (b_kindsBy (pM σ) σ k (ix ro))) - x8)), (8, .int x8), (7, .int (nI j)), (6, .int x6), (5, .int x5), (4, .int (b_kindsBy (pM σ) σ k (ix ro))), (3, .int ((n_ref σ ro).1)), (0, .ref (G.1 0)), (1, .int k), (2, .int ro)]) hx hb dX8_test_139 hl (by decide) rfl (fun ls hl => ?_)
                      refine lv_iload hx hb dX8_test_141 (lv_at hl 0 rfl) ?_
                      refine lv_iload hx hb dX8_test_143 (lv_at hl 3 rfl) ?_
                      have jn_8 : ∀ x_8 : Int32, x_8 = (if ((b_cnt 33 (b_kindsBy (pM σ) σ k (ix ro))) - x8) < x6 then nI j else x5) → W p l e ({ frames := 3, cells := 0, slots := 0, locals := 76 } : Room) s m ([.ref (G.1 0), .int k, .int ro] : List Value).toArray below meth c H locs 0 0 (MQ below (va_Qi (fun (r : Int32) u => r = (n_test σ k ro).1 ∧ u = (n_test σ k ro).2) (xB G 24 (cM G)) (xA G 24 s.heap.size)) ([.ref (G.1 0), .int k, .int ro] : List Value).toArray s 0 0 (xA G 24 s.heap.size)) (F0 m 155 ls [.int x_8]) := by
                        intro x_8 ex_8
                        refine lv_istore (lv' := [(5, .int x_8), (9, .int ((b_cnt 33 (b_kindsBy (pM σ) σ k (ix ro))) - x8)), (8, .int x8), (7, .int (nI j)), (6, .int x6), (4, .int (b_kindsBy (pM σ) σ k (ix ro))), (3, .int ((n_ref σ ro).1)), (0, .ref (G.1 0)), (1, .int k), (2, .int ro)]) hx hb dX8_test_155 hl (by decide) rfl (fun ls hl => ?_)
                        refine lv_iload hx hb dX8_test_157 (lv_at hl 1 rfl) ?_
                        refine lv_iload hx hb dX8_test_159 (lv_at hl 4 rfl) ?_
                        have jn_9 : ∀ x_9 : Int32, x_9 = (if ((b_cnt 33 (b_kindsBy (pM σ) σ k (ix ro))) - x8) < x6 then ((b_cnt 33 (b_kindsBy (pM σ) σ k (ix ro))) - x8) else x6) → W p l e ({ frames := 3, cells := 0, slots := 0, locals := 76 } : Room) s m ([.ref (G.1 0), .int k, .int ro] : List Value).toArray below meth c H locs 0 0 (MQ below (va_Qi (fun (r : Int32) u => r = (n_test σ k ro).1 ∧ u = (n_test σ k ro).2) (xB G 24 (cM G)) (xA G 24 s.heap.size)) ([.ref (G.1 0), .int k, .int ro] : List Value).toArray s 0 0 (xA G 24 s.heap.size)) (F0 m 171 ls [.int x_9]) := by
                          intro x_9 ex_9
                          refine lv_istore (lv' := [(6, .int x_9), (5, .int x_8), (9, .int ((b_cnt 33 (b_kindsBy (pM σ) σ k (ix ro))) - x8)), (8, .int x8), (7, .int (nI j)), (4, .int (b_kindsBy (pM σ) σ k (ix ro))), (3, .int ((n_ref σ ro).1)), (0, .ref (G.1 0)), (1, .int k), (2, .int ro)]) hx hb dX8_test_171 hl (by decide) rfl (fun ls hl => ?_)
                          refine lv_iinc (v := (nI (j + 1))) (lv' := [(7, .int (nI (j + 1))), (6, .int x_9), (5, .int x_8), (9, .int ((b_cnt 33 (b_kindsBy (pM σ) σ k (ix ro))) - x8)), (8, .int x8), (4, .int (b_kindsBy (pM σ) σ k (ix ro))), (3, .int ((n_ref σ ro).1)), (0, .ref (G.1 0)), (1, .int k), (2, .int ro)]) hx hb dX8_test_173 hl (k := 4) rfl (nI_1 j) (by decide) rfl (fun ls hl => ?_)
                          refine lv_goto (tgt := 47) hx hb dX8_test_176 (by decide) ?_
                          exact ih_47 (j + 1) x_8 x_9 _ _ _ (by omega) (by omega) (by rw [tt_best, ← e_x5, ← e_x6]; simp [tt_part, hh, t_1, t_2, c_3, u_4, u_6, u_7, ex_8, ex_9]) (by rw [tt_least, ← e_x6]; simp [tt_part, hh, t_1, t_2, c_3, u_4, u_6, u_7, ex_8, ex_9]) hP hS (lv_sub hl [0, 1, 2, 5, 6, 7, 8, 9] rfl)
                        refine lv_icmp_ge (tgt := 169) hx hb dX8_test_161 (by decide) (fun c_9 => ?_) (fun c_9 => ?_)
                        · have t_9 := i_le c_9
                          refine lv_iload hx hb dX8_test_169 (lv_at hl 4 rfl) ?_
                          exact jn_9 _ (if_neg (u_le c_9)).symm
                        · have t_9 := i_nle c_9
                          refine lv_iload hx hb dX8_test_164 (lv_at hl 1 rfl) ?_
                          refine lv_goto (tgt := 171) hx hb dX8_test_166 (by decide) ?_
                          exact jn_9 _ (if_pos (u_nle c_9)).symm
                      refine lv_icmp_ge (tgt := 153) hx hb dX8_test_145 (by decide) (fun c_8 => ?_) (fun c_8 => ?_)
                      · have t_8 := i_le c_8
                        refine lv_iload hx hb dX8_test_153 (lv_at hl 4 rfl) ?_
                        exact jn_8 _ (if_neg (u_le c_8)).symm
                      · have t_8 := i_nle c_8
                        refine lv_iload hx hb dX8_test_148 (lv_at hl 2 rfl) ?_
                        refine lv_goto (tgt := 155) hx hb dX8_test_150 (by decide) ?_
                        exact jn_8 _ (if_pos (u_nle c_8)).symm
                    · have t_7 := i_nle c_7
                      have u_7 := u_nle c_7
                      refine lv_iload hx hb dX8_test_126 (lv_at hl 1 rfl) ?_
                      refine lv_goto (tgt := 139) hx hb dX8_test_128 (by decide) ?_
                      refine lv_istore (lv' := [(9, .int x8), (8, .int x8), (7, .int (nI j)), (6, .int x6), (5, .int x5), (4, .int (b_kindsBy (pM σ) σ k (ix ro))), (3, .int ((n_ref σ ro).1)), (0, .ref (G.1 0)), (1, .int k), (2, .int ro)]) hx hb dX8_test_139 hl (by decide) rfl (fun ls hl => ?_)
                      refine lv_iload hx hb dX8_test_141 (lv_at hl 0 rfl) ?_
                      refine lv_iload hx hb dX8_test_143 (lv_at hl 3 rfl) ?_
                      have jn_10 : ∀ x_10 : Int32, x_10 = (if x8 < x6 then nI j else x5) → W p l e ({ frames := 3, cells := 0, slots := 0, locals := 76 } : Room) s m ([.ref (G.1 0), .int k, .int ro] : List Value).toArray below meth c H locs 0 0 (MQ below (va_Qi (fun (r : Int32) u => r = (n_test σ k ro).1 ∧ u = (n_test σ k ro).2) (xB G 24 (cM G)) (xA G 24 s.heap.size)) ([.ref (G.1 0), .int k, .int ro] : List Value).toArray s 0 0 (xA G 24 s.heap.size)) (F0 m 155 ls [.int x_10]) := by
                        intro x_10 ex_10
                        refine lv_istore (lv' := [(5, .int x_10), (9, .int x8), (8, .int x8), (7, .int (nI j)), (6, .int x6), (4, .int (b_kindsBy (pM σ) σ k (ix ro))), (3, .int ((n_ref σ ro).1)), (0, .ref (G.1 0)), (1, .int k), (2, .int ro)]) hx hb dX8_test_155 hl (by decide) rfl (fun ls hl => ?_)
                        refine lv_iload hx hb dX8_test_157 (lv_at hl 1 rfl) ?_
                        refine lv_iload hx hb dX8_test_159 (lv_at hl 4 rfl) ?_
                        have jn_11 : ∀ x_11 : Int32, x_11 = (if x8 < x6 then x8 else x6) → W p l e ({ frames := 3, cells := 0, slots := 0, locals := 76 } : Room) s m ([.ref (G.1 0), .int k, .int ro] : List Value).toArray below meth c H locs 0 0 (MQ below (va_Qi (fun (r : Int32) u => r = (n_test σ k ro).1 ∧ u = (n_test σ k ro).2) (xB G 24 (cM G)) (xA G 24 s.heap.size)) ([.ref (G.1 0), .int k, .int ro] : List Value).toArray s 0 0 (xA G 24 s.heap.size)) (F0 m 171 ls [.int x_11]) := by
                          intro x_11 ex_11
                          refine lv_istore (lv' := [(6, .int x_11), (5, .int x_10), (9, .int x8), (8, .int x8), (7, .int (nI j)), (4, .int (b_kindsBy (pM σ) σ k (ix ro))), (3, .int ((n_ref σ ro).1)), (0, .ref (G.1 0)), (1, .int k), (2, .int ro)]) hx hb dX8_test_171 hl (by decide) rfl (fun ls hl => ?_)
                          refine lv_iinc (v := (nI (j + 1))) (lv' := [(7, .int (nI (j + 1))), (6, .int x_11), (5, .int x_10), (9, .int x8), (8, .int x8), (4, .int (b_kindsBy (pM σ) σ k (ix ro))), (3, .int ((n_ref σ ro).1)), (0, .ref (G.1 0)), (1, .int k), (2, .int ro)]) hx hb dX8_test_173 hl (k := 4) rfl (nI_1 j) (by decide) rfl (fun ls hl => ?_)
                          refine lv_goto (tgt := 47) hx hb dX8_test_176 (by decide) ?_
                          exact ih_47 (j + 1) x_10 x_11 _ _ _ (by omega) (by omega) (by rw [tt_best, ← e_x5, ← e_x6]; simp [tt_part, hh, t_1, t_2, c_3, u_4, u_6, u_7, ex_10, ex_11]) (by rw [tt_least, ← e_x6]; simp [tt_part, hh, t_1, t_2, c_3, u_4, u_6, u_7, ex_10, ex_11]) hP hS (lv_sub hl [0, 1, 2, 5, 6, 7, 8, 9] rfl)
                        refine lv_icmp_ge (tgt := 169) hx hb dX8_test_161 (by decide) (fun c_11 => ?_) (fun c_11 => ?_)
                        · have t_11 := i_le c_11
                          refine lv_iload hx hb dX8_test_169 (lv_at hl 4 rfl) ?_
                          exact jn_11 _ (if_neg (u_le c_11)).symm
                        · have t_11 := i_nle c_11
                          refine lv_iload hx hb dX8_test_164 (lv_at hl 1 rfl) ?_
                          refine lv_goto (tgt := 171) hx hb dX8_test_166 (by decide) ?_
                          exact jn_11 _ (if_pos (u_nle c_11)).symm
                      refine lv_icmp_ge (tgt := 153) hx hb dX8_test_145 (by decide) (fun c_10 => ?_) (fun c_10 => ?_)
                      · have t_10 := i_le c_10
                        refine lv_iload hx hb dX8_test_153 (lv_at hl 4 rfl) ?_
                        exact jn_10 _ (if_neg (u_le c_10)).symm
                      · have t_10 := i_nle c_10
                        refine lv_iload hx hb dX8_test_148 (lv_at hl 2 rfl) ?_
                        refine lv_goto (tgt := 155) hx hb dX8_test_150 (by decide) ?_
                        exact jn_10 _ (if_pos (u_nle c_10)).symm
                  · have t_6 := i_nle c_6
                    have u_6 := u_nle c_6
                    have hlt_j1 : j1 < 6 := by omega
                    refine lv_iload hx hb dX8_test_67 (lv_at hl 1 rfl) ?_
                    refine lv_iload hx hb dX8_test_69 (lv_at hl 5 rfl) ?_
                    refine lv_iload hx hb dX8_test_71 (lv_at hl 0 rfl) ?_
                    refine xSi ha hP hS (y := yX8_has) (As := [.int (b_kindsBy (pM σ) σ k (ix ro)), .int (nI j1)]) (rest := [.int x8]) rfl (c_X8_has G l σ (b_kindsBy (pM σ) σ k (ix ro)) (nI j1) ) kw_X8_181 hd_X8_has rfl ⟨rfl, rfl⟩ ⟨Nat.le_of_ble_eq_true rfl, Nat.le_of_ble_eq_true rfl⟩ ⟨Nat.zero_le _, Nat.zero_le _⟩ hl.1 (Nat.le_of_ble_eq_true rfl) rfl dX8_test_73 (fun r u H locs hpq hP hS => ?_)
                    obtain ⟨hr_, hu_⟩ := hpq
                    have hr_ := hr_.symm
                    have hu_ := hu_.symm
                    subst hr_
                    subst hu_
                    refine lv_if_eq (tgt := 103) hx hb dX8_test_76 (by decide) (fun c_12 => ?_) (fun c_12 => ?_)
                    · have t_12 := b2i_f c_12
                      refine lv_iconst (v := 0) hx hb dX8_test_103 (by decide) ?_
                      refine lv_iadd hx hb dX8_test_104 ?_
                      refine lv_istore (lv' := [(8, .int (x8 + 0)), (9, .int (nI j1)), (7, .int (nI j)), (6, .int x6), (5, .int x5), (4, .int (b_kindsBy (pM σ) σ k (ix ro))), (3, .int ((n_ref σ ro).1)), (0, .ref (G.1 0)), (1, .int k), (2, .int ro)]) hx hb dX8_test_105 hl (by decide) rfl (fun ls hl => ?_)
                      refine lv_iinc (v := (nI (j1 + 1))) (lv' := [(9, .int (nI (j1 + 1))), (8, .int (x8 + 0)), (7, .int (nI j)), (6, .int x6), (5, .int x5), (4, .int (b_kindsBy (pM σ) σ k (ix ro))), (3, .int ((n_ref σ ro).1)), (0, .ref (G.1 0)), (1, .int k), (2, .int ro)]) hx hb dX8_test_107 hl (k := 1) rfl (nI_1 j1) (by decide) rfl (fun ls hl => ?_)
                      refine lv_goto (tgt := 60) hx hb dX8_test_110 (by decide) ?_
                      exact ih_60 (j1 + 1) (x8 + 0) _ _ _ (by omega) (by omega) (by rw [a_sum, ← e_x8]; simp [t_1, t_2, c_3, u_4, u_6, t_12]) hP hS (lv_sub hl [0, 1, 2, 3, 4, 5, 6, 7, 8, 9] rfl)
                    · have t_12 := b2i_t c_12
                      refine lv_aload_n hx hb dX8_test_79 rfl (lv_at hl 7 rfl) ?_
                      refine lv_iload hx hb dX8_test_80 (lv_at hl 0 rfl) ?_
                      refine lv_iload_n hx hb dX8_test_82 rfl (lv_at hl 8 rfl) ?_
                      refine lv_aload_n hx hb dX8_test_83 rfl (lv_at hl 7 rfl) ?_
                      refine g8_44 ha hP 0 (by decide) (cM_0 G _) (v := .ref (G.1 11)) rfl dX8_test_84 ?_
                      refine lv_iconst (v := 0) hx hb dX8_test_87 (by decide) ?_
                      refine lv_iload_n hx hb dX8_test_88 rfl (lv_at hl 8 rfl) ?_
                      refine lv_iadd hx hb dX8_test_89 ?_
                      refine xialdN ha hP 11 (by decide) (cM_11 G _) (0 + (ix k)) (nadd (rfl : (0 : Int32) = nI 0) (ix_nI (by omega))) (by have q_0 := ix_toInt (show (0 : Int) ≤ (k).toInt by omega); omega) (by decide) dX8_test_90 ?_
                      refine xVi ha hP hS (y := yX8_bearsAs) (As := [.int (nI j1), .int k, .int (σ 11 (0 + (ix k)))]) (rest := [.int x8]) 0 (by decide) (cM_0 G _) rfl rfl (c_X8_bearsAs G l σ (pM σ) (nI j1) k (σ 11 (0 + (ix k))) hpb rfl (by assumption)) kw_X8_173 hd_X8_bearsAs rfl ⟨rfl, rfl⟩ ⟨Nat.le_of_ble_eq_true rfl, Nat.le_of_ble_eq_true rfl⟩ ⟨Nat.zero_le _, Nat.zero_le _⟩ hl.1 (Nat.le_of_ble_eq_true rfl) rfl dX8_test_91 (fun r u H locs hpq hP hS => ?_)
                      obtain ⟨hr_, hu_⟩ := hpq
                      have hr_ := hr_.symm
                      have hu_ := hu_.symm
                      subst hr_
                      subst hu_
                      refine lv_iload hx hb dX8_test_94 (lv_at hl 2 rfl) ?_
                      have jn_13 : ∀ x_13 : Int32, x_13 = (if (a_bearing (nI j1) ((pM σ) 2 (ix k)) ((pM σ) 3 (ix k)) (σ 11 (0 + (ix k)))) < nI j then 0 else 1) → W p l e ({ frames := 3, cells := 0, slots := 0, locals := 76 } : Room) s m ([.ref (G.1 0), .int k, .int ro] : List Value).toArray below meth c H locs 0 0 (MQ below (va_Qi (fun (r : Int32) u => r = (n_test σ k ro).1 ∧ u = (n_test σ k ro).2) (xB G 24 (cM G)) (xA G 24 s.heap.size)) ([.ref (G.1 0), .int k, .int ro] : List Value).toArray s 0 0 (xA G 24 s.heap.size)) (F0 m 104 ls [.int x_13, .int x8]) := by
                        intro x_13 ex_13
                        refine lv_iadd hx hb dX8_test_104 ?_
                        refine lv_istore (lv' := [(8, .int (x8 + x_13)), (9, .int (nI j1)), (7, .int (nI j)), (6, .int x6), (5, .int x5), (4, .int (b_kindsBy (pM σ) σ k (ix ro))), (3, .int ((n_ref σ ro).1)), (0, .ref (G.1 0)), (1, .int k), (2, .int ro)]) hx hb dX8_test_105 hl (by decide) rfl (fun ls hl => ?_)
                        refine lv_iinc (v := (nI (j1 + 1))) (lv' := [(9, .int (nI (j1 + 1))), (8, .int (x8 + x_13)), (7, .int (nI j)), (6, .int x6), (5, .int x5), (4, .int (b_kindsBy (pM σ) σ k (ix ro))), (3, .int ((n_ref σ ro).1)), (0, .ref (G.1 0)), (1, .int k), (2, .int ro)]) hx hb dX8_test_107 hl (k := 1) rfl (nI_1 j1) (by decide) rfl (fun ls hl => ?_)
                        refine lv_goto (tgt := 60) hx hb dX8_test_110 (by decide) ?_
                        exact ih_60 (j1 + 1) (x8 + x_13) _ _ _ (by omega) (by omega) (by rw [a_sum, ← e_x8]; simp [t_1, t_2, c_3, u_4, u_6, t_12, ex_13]) hP hS (lv_sub hl [0, 1, 2, 3, 4, 5, 6, 7, 8, 9] rfl)
                      refine lv_icmp_lt (tgt := 103) hx hb dX8_test_96 (by decide) (fun c_13 => ?_) (fun c_13 => ?_)
                      · have t_13 := i_lt c_13
                        refine lv_iconst (v := 0) hx hb dX8_test_103 (by decide) ?_
                        exact jn_13 _ (if_pos c_13).symm
                      · have t_13 := i_nlt c_13
                        refine lv_iconst (v := 1) hx hb dX8_test_99 (by decide) ?_
                        refine lv_goto (tgt := 104) hx hb dX8_test_100 (by decide) ?_
                        exact jn_13 _ (if_neg c_13).symm
              exact lp_60 (6 - 0 + 1) 0 0 _ _ _ (by omega) (by omega) rfl hP hS (lv_sub hl [0, 1, 2, 3, 4, 5, 6, 7, 8, 9] rfl)
        exact lp_47 (100 - 0 + 1) 0 0 1000000 _ _ _ (by omega) (by omega) rfl rfl hP hS (lv_sub hl [0, 1, 2, 3, 4, 5, 6, 7] rfl)
      · have t_3 := i_ne c_3
        refine lv_iload_n hx hb dX8_test_27 rfl (lv_at hl 0 rfl) ?_
        exact xiret ha hP hS dX8_test_28 ⟨by simp [n_test, t_1, t_2, c_3, i_leN, -Int32.not_lt], (by simp [n_test, t_1, t_2, c_3, i_leN, -Int32.not_lt])⟩ rfl
    · have t_2 := b2i_f c_2
      refine lv_iconst (v := (-1)) hx hb dX8_test_15 (by decide) ?_
      exact xiret ha hP hS dX8_test_16 ⟨by simp [n_test, t_1, t_2, i_leN, -Int32.not_lt], (by simp [n_test, t_1, t_2, i_leN, -Int32.not_lt])⟩ rfl
