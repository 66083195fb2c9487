theorem hd_X4_apply : kHd yX4_apply 1 := by decide +kernel
theorem hd_X4_begin : kHd yX4_begin 0 := by decide +kernel
theorem hd_X4_comeDown : kHd yX4_comeDown 1 := by decide +kernel
theorem hd_X4_goUp : kHd yX4_goUp 2 := by decide +kernel
theorem hd_X4_passYear : kHd yX4_passYear 0 := by decide +kernel
theorem hd_X4_renew : kHd yX4_renew 1 := by decide +kernel
theorem hd_X7_worn : kHd yX7_worn 2 := by decide +kernel
theorem kw_X4_85 : ∀ w ∈ k5N yX7_worn cX7_worn 2 (some .int), w ∈ TB := tb_ins (by decide +kernel)
theorem kw_X4_47 : ∀ w ∈ k5V RX4 47 yX4_goUp cX4_goUp 3 (some .int), w ∈ TB := tb_ins (by decide +kernel)
theorem kw_X4_51 : ∀ w ∈ k5V RX4 51 yX4_comeDown cX4_comeDown 3 (some .int), w ∈ TB := tb_ins (by decide +kernel)
theorem kw_X4_54 : ∀ w ∈ k5V RX4 54 yX4_renew cX4_renew 3 (some .int), w ∈ TB := tb_ins (by decide +kernel)
theorem kw_X4_57 : ∀ w ∈ k5V RX4 57 yX4_passYear cX4_passYear 4 (some .int), w ∈ TB := tb_ins (by decide +kernel)
theorem kw_X4_32 : ∀ w ∈ k5V RX4 32 yX4_begin cX4_begin 2 none, w ∈ TB := tb_ins (by decide +kernel)
theorem kw_X4_43 : ∀ w ∈ k5V RX4 43 yX4_apply cX4_apply 4 (some .int), w ∈ TB := tb_ins (by decide +kernel)
set_option maxHeartbeats 4000000 in
set_option maxRecDepth 100000 in
theorem c_X4_passYear (G : GT) (l : Launch) (σ : Mem) (o : Nat) (ho : oSc o) (hp : PO 33 σ) : CI G 74 (cX G) l yX4_passYear ({ frames := 3, cells := 0, slots := 0, locals := 68 } : Room) cX4_passYear 4 (some .int) [.ref (G.1 o)] σ (fun (r : Int32) u => r = y_gave (vP σ 33) (vS σ o) ∧ u = m_year σ o) := by
  intro sz
  refine xbegin (by decide) (Nat.le_of_ble_eq_true rfl) ?_
  intro p e s m below meth c ls hsz ha hP hl
  subst hsz
  have hx := ha.1
  have hb := ha.2.1
  have hS : va_S (xA G 74 s.heap.size) s.heap s.heap [] := va_S.rf
  have hl : lv_has ls 4 [(0, .ref (G.1 o))] := hl
  have k_m9 : (-9 : Int32).toInt = -9 := by decide
  have k_0 : (0 : Int32).toInt = 0 := by decide
  have k_1 : (1 : Int32).toInt = 1 := by decide
  obtain ⟨hn, hn4, hnt⟩ := PO_pl hp
  obtain ⟨hm, hm4, hmt⟩ := PO_pe hp
  refine lv_iconst (v := 0) hx hb dX4_passYear_0 (by decide) ?_
  refine lv_istore_n (lv' := [(1, .int 0), (0, .ref (G.1 o))]) hx hb dX4_passYear_1 rfl hl (by decide) rfl (fun ls hl => ?_)
  refine lv_iconst (v := 0) hx hb dX4_passYear_2 (by decide) ?_
  refine lv_istore_n (lv' := [(2, .int 0), (1, .int 0), (0, .ref (G.1 o))]) hx hb dX4_passYear_3 rfl hl (by decide) rfl (fun ls hl => ?_)
  have lp_4 : ∀ (d j : Nat) (x1 : Int32) (σj : Mem) (H : Heap) (locs : List Loc) (ls : Array Slot), j ≤ (ix (σ 33 0)) → (ix (σ 33 0)) - j < d → x1 = a_bits (y_gives (vP σ 33) (vS σ o)) j → σj = mF σ (o + 1) j (y_wear (vP σ 33) (vS σ o)) → PO 33 σj → va_P G.2.1 vwCl (wl G 74 (cX G σj)) H → va_S (xA G 74 s.heap.size) s.heap H locs → lv_has ls 4 [(2, .int (nI j)), (1, .int x1), (0, .ref (G.1 o))] → W p l e ({ frames := 3, cells := 0, slots := 0, locals := 68 } : Room) s m ([.ref (G.1 o)] : List Value).toArray below meth c H locs 0 0 (MQ below (va_Qi (fun (r : Int32) u => r = y_gave (vP σ 33) (vS σ o) ∧ u = m_year σ o) (xB G 74 (cX G)) (xA G 74 s.heap.size)) ([.ref (G.1 o)] : List Value).toArray s 0 0 (xA G 74 s.heap.size)) (F0 m 4 ls []) := by
    intro d
    induction d with
    | zero => intro j x1 σj H locs ls hj hd; exact absurd hd (Nat.not_lt_zero _)
    | succ d ih_4 =>
      intro j x1 σj H locs ls hj_j hd_j e_x1 e_σj hpj hP hS hl
      have h31_j : (nI j).toInt = (j : Int) := nI_toInt (by omega)
      have hq1 : ∀ k, a_load (vP σ 33) (vS σ o) k = a_load (vP σj 33) (vS σj o) k := by intro k; rw [e_σj, vP_mF _ _ _ (by have := ho; unfold oSc at this; omega)]; exact a_load_c (fun i => by simp [vS_2, mF_e])
      have hq2 : ∀ k, a_isUp (vP σ 33) (vS σ o) k = a_isUp (vP σj 33) (vS σj o) k := by intro k; rw [e_σj, vP_mF _ _ _ (by have := ho; unfold oSc at this; omega)]; exact a_isUp_c (by simp [vS_0, mF_e])
      have hq3 : a_bearsNow (vP σ 33) (vS σ o) (nI j) = a_bearsNow (vP σj 33) (vS σj o) (nI j) := by rw [e_σj, vP_mF _ _ _ (by have := ho; unfold oSc at this; omega)]; exact a_bearsNow_c (by rw [ix_of (by omega), vS_1, vS_1, mF_at])
      have hq4 : σ (o + 1) j = σj (o + 1) j := by rw [e_σj, mF_at]
      have hz : σj 33 = σ 33 := by rw [e_σj]; exact mF_n _ _ _ (by have := ho; unfold oSc at this; omega)
      have hz2 : (σj 33 0).toInt = (ix (σ 33 0) : Int) := by rw [hz]; exact hnt
      refine lv_iload_n hx hb dX4_passYear_4 rfl (lv_at hl 0 rfl) ?_
      refine lv_aload_n hx hb dX4_passYear_5 rfl (lv_at hl 2 rfl) ?_
      refine g4_18 ha hP o (oSc_lt0 ho) (sSc ho) (v := .ref (G.1 33)) rfl dX4_passYear_6 ?_
      refine g4_76 ha hP 33 (by decide) (cX_33 G _) (v := .int (σj 33 0)) rfl dX4_passYear_9 ?_
      refine lv_icmp_ge (tgt := 85) hx hb dX4_passYear_12 (by decide) (fun c_1 => ?_) (fun c_1 => ?_)
      · have t_1 := i_le c_1
        have u_1 := u_le c_1
        obtain rfl : j = (ix (σ 33 0)) := by omega
        have hg : y_gave (vP σ 33) (vS σ o) = x1 := e_x1.symm
        refine lv_iconst (v := 0) hx hb dX4_passYear_85 (by decide) ?_
        refine lv_istore_n (lv' := [(2, .int 0), (1, .int x1), (0, .ref (G.1 o))]) hx hb dX4_passYear_86 rfl hl (by decide) rfl (fun ls hl => ?_)
        have lp_87 : ∀ (d j1 : Nat) (τj : Mem) (H : Heap) (locs : List Loc) (ls : Array Slot), j1 ≤ (ix (σ 33 1)) → (ix (σ 33 1)) - j1 < d → τj = mF (mF σ (o + 1) (ix (σ 33 0)) (y_wear (vP σ 33) (vS σ o))) (o + 2) j1 (y_seat (vP σ 33) (vS σ o) (y_gave (vP σ 33) (vS σ o))) → PO 33 τj → va_P G.2.1 vwCl (wl G 74 (cX G τj)) H → va_S (xA G 74 s.heap.size) s.heap H locs → lv_has ls 4 [(2, .int (nI j1)), (1, .int x1), (0, .ref (G.1 o))] → W p l e ({ frames := 3, cells := 0, slots := 0, locals := 68 } : Room) s m ([.ref (G.1 o)] : List Value).toArray below meth c H locs 0 0 (MQ below (va_Qi (fun (r : Int32) u => r = y_gave (vP σ 33) (vS σ o) ∧ u = m_year σ o) (xB G 74 (cX G)) (xA G 74 s.heap.size)) ([.ref (G.1 o)] : List Value).toArray s 0 0 (xA G 74 s.heap.size)) (F0 m 87 ls []) := by
          intro d
          induction d with
          | zero => intro j1 τj H locs ls hj hd; exact absurd hd (Nat.not_lt_zero _)
          | succ d ih_87 =>
            intro j1 τj H locs ls hj_j1 hd_j1 e_τj hpk hP hS hl
            have h31_j1 : (nI j1).toInt = (j1 : Int) := nI_toInt (by omega)
            have hq5 : a_isSeated (vP σ 33) (vS σ o) (nI j1) = a_isSeated (vP τj 33) (vS τj o) (nI j1) := by rw [e_τj, vP_mF _ _ _ (by have := ho; unfold oSc at this; omega), vP_mF _ _ _ (by have := ho; unfold oSc at this; omega)]; unfold a_isSeated; rw [ix_of (by omega), vS_2, vS_2, mF_at, mF_n _ _ _ (by omega)]
            have hq6 : σ (o + 2) j1 = τj (o + 2) j1 := by rw [e_τj, mF_at, mF_n _ _ _ (by omega)]
            have hz3 : τj 33 = σ 33 := by rw [e_τj, mF_n _ _ _ (by have := ho; unfold oSc at this; omega), mF_n _ _ _ (by have := ho; unfold oSc at this; omega)]
            have hz4 : (τj 33 1).toInt = (ix (σ 33 1) : Int) := by rw [hz3]; exact hmt
            refine lv_iload_n hx hb dX4_passYear_87 rfl (lv_at hl 0 rfl) ?_
            refine lv_aload_n hx hb dX4_passYear_88 rfl (lv_at hl 2 rfl) ?_
            refine g4_18 ha hP o (oSc_lt0 ho) (sSc ho) (v := .ref (G.1 33)) rfl dX4_passYear_89 ?_
            refine g4_89 ha hP 33 (by decide) (cX_33 G _) (v := .int (τj 33 1)) rfl dX4_passYear_92 ?_
            refine lv_icmp_ge (tgt := 134) hx hb dX4_passYear_95 (by decide) (fun c_2 => ?_) (fun c_2 => ?_)
            · have t_2 := i_le c_2
              have u_2 := u_le c_2
              obtain rfl : j1 = (ix (σ 33 1)) := by omega
              refine lv_aload_n hx hb dX4_passYear_134 rfl (lv_at hl 2 rfl) ?_
              refine lv_dup hx hb dX4_passYear_135 rfl ?_
              refine g4_22 ha hP o (oSc_lt0 ho) (sSc ho) (v := .int (τj o 0)) rfl dX4_passYear_136 ?_
              refine lv_iload_n hx hb dX4_passYear_139 rfl (lv_at hl 1 rfl) ?_
              refine lv_ior hx hb dX4_passYear_140 ?_
              refine p4_22 ha hP hS (cX_loc G) o (oSc_lt0 ho) (sSc ho) (x := ((τj o 0) ||| x1)) (Nat.le_of_ble_eq_true rfl) (mU τj o 0 ((τj o 0) ||| x1)) (fun q hq => mU_n _ _ _ hq) (sSc_p0 ho) dX4_passYear_141 (fun H locs hP hS => ?_)
              refine lv_aload_n hx hb dX4_passYear_144 rfl (lv_at hl 2 rfl) ?_
              refine lv_dup hx hb dX4_passYear_145 rfl ?_
              refine g4_26 ha hP o (oSc_lt0 ho) (sSc ho) (v := .int ((mU τj o 0 ((τj o 0) ||| x1)) o 1)) rfl dX4_passYear_146 ?_
              refine lv_iconst (v := 1) hx hb dX4_passYear_149 (by decide) ?_
              refine lv_iadd hx hb dX4_passYear_150 ?_
              refine p4_26 ha hP hS (cX_loc G) o (oSc_lt0 ho) (sSc ho) (x := (((mU τj o 0 ((τj o 0) ||| x1)) o 1) + 1)) (Nat.le_of_ble_eq_true rfl) (mU (mU τj o 0 ((τj o 0) ||| x1)) o 1 (((mU τj o 0 ((τj o 0) ||| x1)) o 1) + 1)) (fun q hq => mU_n _ _ _ hq) (sSc_p1 ho) dX4_passYear_151 (fun H locs hP hS => ?_)
              refine lv_iload_n hx hb dX4_passYear_154 rfl (lv_at hl 1 rfl) ?_
              exact xiret ha hP hS dX4_passYear_155 ⟨by exact hg.symm, (by rw [e_τj]; simp [m_year, mU_e, mF_e, hg, nPl, nPe, vP_0])⟩ rfl
            · have t_2 := i_nle c_2
              have u_2 := u_nle c_2
              have hlt_j1 : j1 < (ix (σ 33 1)) := by omega
              refine lv_aload_n hx hb dX4_passYear_98 rfl (lv_at hl 2 rfl) ?_
              refine lv_iload_n hx hb dX4_passYear_99 rfl (lv_at hl 0 rfl) ?_
              refine xVi ha hP hS (As := [.int (nI j1)]) (rest := []) o (oSc_lt0 ho) (sSc ho) rfl rfl (c_X4_isSeated G l τj o (nI j1) ho) kw_X4_92 hd_X4_isSeated rfl ⟨rfl, rfl⟩ ⟨Nat.le_of_ble_eq_true rfl, Nat.le_of_ble_eq_true rfl⟩ ⟨Nat.zero_le _, Nat.zero_le _⟩ hl.1 (Nat.le_of_ble_eq_true rfl) rfl dX4_passYear_100 (fun r u H locs hpq hP hS => ?_)
              obtain ⟨hr_, hu_⟩ := hpq
              have hr_ := hr_.symm
              have hu_ := hu_.symm
              subst hr_
              subst hu_
              refine lv_if_eq (tgt := 128) hx hb dX4_passYear_103 (by decide) (fun c_3 => ?_) (fun c_3 => ?_)
              · have t_3 := b2i_f c_3
                refine lv_iinc (v := (nI (j1 + 1))) (lv' := [(2, .int (nI (j1 + 1))), (1, .int x1), (0, .ref (G.1 o))]) hx hb dX4_passYear_128 hl (k := 0) rfl (nI_1 j1) (by decide) rfl (fun ls hl => ?_)
                refine lv_goto (tgt := 87) hx hb dX4_passYear_131 (by decide) ?_
                exact ih_87 (j1 + 1) τj _ _ _ (by omega) (by omega) (by rw [e_τj]; first | (refine mF_k _ _ _ _ ?_; rw [mF_n _ _ _ (by omega)]; simp [y_seat, vS_2, hq5, hq6, hg, u_1, u_2, t_3, i_leN, -Int32.not_lt]) | (refine mF_s _ _ _ _ ?_; simp [y_seat, vS_2, hq5, hq6, hg, u_1, u_2, t_3, i_leN, -Int32.not_lt])) hpk hP hS (lv_sub hl [0, 1, 2] rfl)
              · have t_3 := b2i_t c_3
                refine lv_iload_n hx hb dX4_passYear_106 rfl (lv_at hl 1 rfl) ?_
                refine lv_aload_n hx hb dX4_passYear_107 rfl (lv_at hl 2 rfl) ?_
                refine g4_15 ha hP o (oSc_lt0 ho) (sSc ho) (v := .ref (G.1 (o + 2))) rfl dX4_passYear_108 ?_
                refine lv_iload_n hx hb dX4_passYear_111 rfl (lv_at hl 0 rfl) ?_
                refine xialdN ha hP (o + 2) (oSc_lt2 ho) (sSc2 ho) j1 rfl (by omega) (by decide) dX4_passYear_112 ?_
                refine lv_ishr hx hb dX4_passYear_113 ?_
                refine lv_iconst (v := 1) hx hb dX4_passYear_114 (by decide) ?_
                refine lv_iand hx hb dX4_passYear_115 ?_
                refine lv_iconst (v := 1) hx hb dX4_passYear_116 (by decide) ?_
                refine lv_icmp_ne (tgt := 128) hx hb dX4_passYear_117 (by decide) (fun c_4 => ?_) (fun c_4 => ?_)
                · have t_4 := i_ne c_4
                  refine lv_iinc (v := (nI (j1 + 1))) (lv' := [(2, .int (nI (j1 + 1))), (1, .int x1), (0, .ref (G.1 o))]) hx hb dX4_passYear_128 hl (k := 0) rfl (nI_1 j1) (by decide) rfl (fun ls hl => ?_)
                  refine lv_goto (tgt := 87) hx hb dX4_passYear_131 (by decide) ?_
                  exact ih_87 (j1 + 1) τj _ _ _ (by omega) (by omega) (by rw [e_τj]; first | (refine mF_k _ _ _ _ ?_; rw [mF_n _ _ _ (by omega)]; simp [y_seat, vS_2, hq5, hq6, hg, u_1, u_2, t_3, c_4, i_leN, -Int32.not_lt]) | (refine mF_s _ _ _ _ ?_; simp [y_seat, vS_2, hq5, hq6, hg, u_1, u_2, t_3, c_4, i_leN, -Int32.not_lt])) hpk hP hS (lv_sub hl [0, 1, 2] rfl)
                · have t_4 := i_eq c_4
                  refine lv_aload_n hx hb dX4_passYear_120 rfl (lv_at hl 2 rfl) ?_
                  refine g4_15 ha hP o (oSc_lt0 ho) (sSc ho) (v := .ref (G.1 (o + 2))) rfl dX4_passYear_121 ?_
                  refine lv_iload_n hx hb dX4_passYear_124 rfl (lv_at hl 0 rfl) ?_
                  refine lv_bipush (v := (-9)) hx hb dX4_passYear_125 (by decide) ?_
                  refine xiastN ha hP hS (cX_loc G) (o + 2) (oSc_lt2 ho) (fun τ => sSc2 ho) j1 rfl (by omega) (by decide) dX4_passYear_127 (fun H locs hP hS => ?_)
                  refine lv_iinc (v := (nI (j1 + 1))) (lv' := [(2, .int (nI (j1 + 1))), (1, .int x1), (0, .ref (G.1 o))]) hx hb dX4_passYear_128 hl (k := 0) rfl (nI_1 j1) (by decide) rfl (fun ls hl => ?_)
                  refine lv_goto (tgt := 87) hx hb dX4_passYear_131 (by decide) ?_
                  exact ih_87 (j1 + 1) (mU τj (o + 2) j1 (-9)) _ _ _ (by omega) (by omega) (by rw [e_τj]; first | (refine mF_k _ _ _ _ ?_; rw [mF_n _ _ _ (by omega)]; simp [y_seat, vS_2, hq5, hq6, hg, u_1, u_2, t_3, c_4, i_leN, -Int32.not_lt]) | (refine mF_s _ _ _ _ ?_; simp [y_seat, vS_2, hq5, hq6, hg, u_1, u_2, t_3, c_4, i_leN, -Int32.not_lt])) (PO_mU hpk (by have := ho; unfold oSc at this; omega)) hP hS (lv_sub hl [0, 1, 2] rfl)
        exact lp_87 ((ix (σ 33 1)) - 0 + 1) 0 σj _ _ _ (by omega) (by omega) (by rw [e_σj]; exact mF_0 _ _ _) hpj hP hS (lv_sub hl [0, 1, 2] rfl)
      · have t_1 := i_nle c_1
        have u_1 := u_nle c_1
        have hlt_j : j < (ix (σ 33 0)) := by omega
        refine lv_aload_n hx hb dX4_passYear_15 rfl (lv_at hl 2 rfl) ?_
        refine lv_iload_n hx hb dX4_passYear_16 rfl (lv_at hl 0 rfl) ?_
        refine xVi ha hP hS (As := [.int (nI j)]) (rest := []) o (oSc_lt0 ho) (sSc ho) rfl rfl (c_X4_loadOn G l σj o (nI j) ho hpj) kw_X4_67 hd_X4_loadOn rfl ⟨rfl, rfl⟩ ⟨Nat.le_of_ble_eq_true rfl, Nat.le_of_ble_eq_true rfl⟩ ⟨Nat.zero_le _, Nat.zero_le _⟩ hl.1 (Nat.le_of_ble_eq_true rfl) rfl dX4_passYear_17 (fun r u H locs hpq hP hS => ?_)
        obtain ⟨hr_, hu_⟩ := hpq
        have hr_ := hr_.symm
        have hu_ := hu_.symm
        subst hr_
        subst hu_
        refine lv_istore_n (lv' := [(3, .int (a_load (vP σj 33) (vS σj o) (nI j))), (2, .int (nI j)), (1, .int x1), (0, .ref (G.1 o))]) hx hb dX4_passYear_20 rfl hl (by decide) rfl (fun ls hl => ?_)
        refine lv_aload_n hx hb dX4_passYear_21 rfl (lv_at hl 3 rfl) ?_
        refine lv_iload_n hx hb dX4_passYear_22 rfl (lv_at hl 1 rfl) ?_
        refine xVi ha hP hS (As := [.int (nI j)]) (rest := []) o (oSc_lt0 ho) (sSc ho) rfl rfl (c_X4_isUp G l σj o (nI j) ho) kw_X4_79 hd_X4_isUp rfl ⟨rfl, rfl⟩ ⟨Nat.le_of_ble_eq_true rfl, Nat.le_of_ble_eq_true rfl⟩ ⟨Nat.zero_le _, Nat.zero_le _⟩ hl.1 (Nat.le_of_ble_eq_true rfl) rfl dX4_passYear_23 (fun r u H locs hpq hP hS => ?_)
        obtain ⟨hr_, hu_⟩ := hpq
        have hr_ := hr_.symm
        have hu_ := hu_.symm
        subst hr_
        subst hu_
        refine lv_if_eq (tgt := 47) hx hb dX4_passYear_26 (by decide) (fun c_5 => ?_) (fun c_5 => ?_)
        · have t_5 := b2i_f c_5
          refine lv_aload_n hx hb dX4_passYear_47 rfl (lv_at hl 3 rfl) ?_
          refine lv_iload_n hx hb dX4_passYear_48 rfl (lv_at hl 1 rfl) ?_
          refine xVi ha hP hS (As := [.int (nI j)]) (rest := []) o (oSc_lt0 ho) (sSc ho) rfl rfl (c_X4_isUp G l σj o (nI j) ho) kw_X4_79 hd_X4_isUp rfl ⟨rfl, rfl⟩ ⟨Nat.le_of_ble_eq_true rfl, Nat.le_of_ble_eq_true rfl⟩ ⟨Nat.zero_le _, Nat.zero_le _⟩ hl.1 (Nat.le_of_ble_eq_true rfl) rfl dX4_passYear_49 (fun r u H locs hpq hP hS => ?_)
          obtain ⟨hr_, hu_⟩ := hpq
          have hr_ := hr_.symm
          have hu_ := hu_.symm
          subst hr_
          subst hu_
          refine lv_if_eq (tgt := 79) hx hb dX4_passYear_52 (by decide) (fun c_6 => ?_) (fun c_6 => ?_)
          · have t_6 := b2i_f c_6
            refine lv_iinc (v := (nI (j + 1))) (lv' := [(2, .int (nI (j + 1))), (3, .int (a_load (vP σj 33) (vS σj o) (nI j))), (1, .int x1), (0, .ref (G.1 o))]) hx hb dX4_passYear_79 hl (k := 1) rfl (nI_1 j) (by decide) rfl (fun ls hl => ?_)
            refine lv_goto (tgt := 4) hx hb dX4_passYear_82 (by decide) ?_
            exact ih_4 (j + 1) x1 σj _ _ _ (by omega) (by omega) (by simp [a_bits, y_gives, hq1, hq2, hq3, i_leN, e_x1, u_1, t_5, t_6, -Int32.not_lt] <;> first | rfl | simp_all) (by rw [e_σj]; first | (refine mF_k _ _ _ _ ?_; simp [y_wear, vS_1, hq1, hq2, hq3, hq4, e_x1, u_1, t_5, t_6, i_leN, -Int32.not_lt]) | (refine mF_s _ _ _ _ ?_; rw [mF_at]; simp [y_wear, vS_1, hq1, hq2, hq3, hq4, e_x1, u_1, t_5, t_6, i_leN, -Int32.not_lt])) hpj hP hS (lv_sub hl [0, 2, 3] rfl)
          · have t_6 := b2i_t c_6
            exact absurd (t_5.symm.trans t_6) (by decide)
        · have t_5 := b2i_t c_5
          refine lv_iload_n hx hb dX4_passYear_29 rfl (lv_at hl 0 rfl) ?_
          refine lv_aload_n hx hb dX4_passYear_30 rfl (lv_at hl 3 rfl) ?_
          refine lv_iload_n hx hb dX4_passYear_31 rfl (lv_at hl 1 rfl) ?_
          refine xVi ha hP hS (As := [.int (nI j)]) (rest := [.int (a_load (vP σj 33) (vS σj o) (nI j))]) o (oSc_lt0 ho) (sSc ho) rfl rfl (c_X4_bearsNow G l σj o (nI j) ho hpj) kw_X4_82 hd_X4_bearsNow rfl ⟨rfl, rfl⟩ ⟨Nat.le_of_ble_eq_true rfl, Nat.le_of_ble_eq_true rfl⟩ ⟨Nat.zero_le _, Nat.zero_le _⟩ hl.1 (Nat.le_of_ble_eq_true rfl) rfl dX4_passYear_32 (fun r u H locs hpq hP hS => ?_)
          obtain ⟨hr_, hu_⟩ := hpq
          have hr_ := hr_.symm
          have hu_ := hu_.symm
          subst hr_
          subst hu_
          refine lv_icmp_le (tgt := 47) hx hb dX4_passYear_35 (by decide) (fun c_7 => ?_) (fun c_7 => ?_)
          · have t_7 := i_le c_7
            have u_7 := u_le c_7
            refine lv_aload_n hx hb dX4_passYear_47 rfl (lv_at hl 3 rfl) ?_
            refine lv_iload_n hx hb dX4_passYear_48 rfl (lv_at hl 1 rfl) ?_
            refine xVi ha hP hS (As := [.int (nI j)]) (rest := []) o (oSc_lt0 ho) (sSc ho) rfl rfl (c_X4_isUp G l σj o (nI j) ho) kw_X4_79 hd_X4_isUp rfl ⟨rfl, rfl⟩ ⟨Nat.le_of_ble_eq_true rfl, Nat.le_of_ble_eq_true rfl⟩ ⟨Nat.zero_le _, Nat.zero_le _⟩ hl.1 (Nat.le_of_ble_eq_true rfl) rfl dX4_passYear_49 (fun r u H locs hpq hP hS => ?_)
            obtain ⟨hr_, hu_⟩ := hpq
            have hr_ := hr_.symm
            have hu_ := hu_.symm
            subst hr_
            subst hu_
            refine lv_if_eq (tgt := 79) hx hb dX4_passYear_52 (by decide) (fun c_8 => ?_) (fun c_8 => ?_)
            · have t_8 := b2i_f c_8
              exact absurd (t_5.symm.trans t_8) (by decide)
            · have t_8 := b2i_t c_8
              refine lv_aload_n hx hb dX4_passYear_55 rfl (lv_at hl 3 rfl) ?_
              refine g4_9 ha hP o (oSc_lt0 ho) (sSc ho) (v := .ref (G.1 (o + 1))) rfl dX4_passYear_56 ?_
              refine lv_iload_n hx hb dX4_passYear_59 rfl (lv_at hl 1 rfl) ?_
              refine lv_aload_n hx hb dX4_passYear_60 rfl (lv_at hl 3 rfl) ?_
              refine g4_9 ha hP o (oSc_lt0 ho) (sSc ho) (v := .ref (G.1 (o + 1))) rfl dX4_passYear_61 ?_
              refine lv_iload_n hx hb dX4_passYear_64 rfl (lv_at hl 1 rfl) ?_
              refine xialdN ha hP (o + 1) (oSc_lt1 ho) (sSc1 ho) j rfl (by omega) (by decide) dX4_passYear_65 ?_
              refine lv_iload_n hx hb dX4_passYear_66 rfl (lv_at hl 0 rfl) ?_
              have jn_9 : ∀ x_9 : Int32, x_9 = (if 0 < (a_load (vP σj 33) (vS σj o) (nI j)) then 1 else 0) → W p l e ({ frames := 3, cells := 0, slots := 0, locals := 68 } : Room) s m ([.ref (G.1 o)] : List Value).toArray below meth c H locs 0 0 (MQ below (va_Qi (fun (r : Int32) u => r = y_gave (vP σ 33) (vS σ o) ∧ u = m_year σ o) (xB G 74 (cX G)) (xA G 74 s.heap.size)) ([.ref (G.1 o)] : List Value).toArray s 0 0 (xA G 74 s.heap.size)) (F0 m 75 ls [.int x_9, .int (σj (o + 1) j), .int (nI j), .ref (G.1 (o + 1))]) := by
                intro x_9 ex_9
                refine xNi ha hP hS (As := [.int (σj (o + 1) j), .int x_9]) (rest := [.int (nI j), .ref (G.1 (o + 1))]) "PoleNave" (nb_in (by decide +kernel)) (c_X7_worn G l σj (σj (o + 1) j) x_9 ) kw_X4_85 hd_X7_worn rfl ⟨rfl, rfl⟩ ⟨Nat.le_of_ble_eq_true rfl, Nat.le_of_ble_eq_true rfl⟩ ⟨Nat.zero_le _, Nat.zero_le _⟩ hl.1 (Nat.le_of_ble_eq_true rfl) rfl dX4_passYear_75 (fun r u H locs hpq hP hS => ?_)
                obtain ⟨hr_, hu_⟩ := hpq
                have hr_ := hr_.symm
                have hu_ := hu_.symm
                subst hr_
                subst hu_
                refine xiastN ha hP hS (cX_loc G) (o + 1) (oSc_lt1 ho) (fun τ => sSc1 ho) j rfl (by omega) (by decide) dX4_passYear_78 (fun H locs hP hS => ?_)
                refine lv_iinc (v := (nI (j + 1))) (lv' := [(2, .int (nI (j + 1))), (3, .int (a_load (vP σj 33) (vS σj o) (nI j))), (1, .int x1), (0, .ref (G.1 o))]) hx hb dX4_passYear_79 hl (k := 1) rfl (nI_1 j) (by decide) rfl (fun ls hl => ?_)
                refine lv_goto (tgt := 4) hx hb dX4_passYear_82 (by decide) ?_
                exact ih_4 (j + 1) x1 (mU σj (o + 1) j (a_worn (σj (o + 1) j) x_9)) _ _ _ (by omega) (by omega) (by simp [a_bits, y_gives, hq1, hq2, hq3, i_leN, e_x1, u_1, t_5, u_7, t_8, ex_9, -Int32.not_lt] <;> first | rfl | simp_all) (by rw [e_σj]; first | (refine mF_k _ _ _ _ ?_; simp [y_wear, vS_1, hq1, hq2, hq3, hq4, e_x1, u_1, t_5, u_7, t_8, ex_9, i_leN, -Int32.not_lt]) | (refine mF_s _ _ _ _ ?_; rw [mF_at]; simp [y_wear, vS_1, hq1, hq2, hq3, hq4, e_x1, u_1, t_5, u_7, t_8, ex_9, i_leN, -Int32.not_lt])) (PO_mU hpj (by have := ho; unfold oSc at this; omega)) hP hS (lv_sub hl [0, 2, 3] rfl)
              refine lv_if_le (tgt := 74) hx hb dX4_passYear_67 (by decide) (fun c_9 => ?_) (fun c_9 => ?_)
              · have t_9 := i_le c_9
                refine lv_iconst (v := 0) hx hb dX4_passYear_74 (by decide) ?_
                exact jn_9 _ (if_neg (u_le c_9)).symm
              · have t_9 := i_nle c_9
                refine lv_iconst (v := 1) hx hb dX4_passYear_70 (by decide) ?_
                refine lv_goto (tgt := 75) hx hb dX4_passYear_71 (by decide) ?_
                exact jn_9 _ (if_pos (u_nle c_9)).symm
          · have t_7 := i_nle c_7
            have u_7 := u_nle c_7
            refine lv_iload_n hx hb dX4_passYear_38 rfl (lv_at hl 2 rfl) ?_
            refine lv_iconst (v := 1) hx hb dX4_passYear_39 (by decide) ?_
            refine lv_iload_n hx hb dX4_passYear_40 rfl (lv_at hl 1 rfl) ?_
            refine lv_ishl hx hb dX4_passYear_41 ?_
            refine lv_ior hx hb dX4_passYear_42 ?_
            refine lv_istore_n (lv' := [(1, .int (x1 ||| (1 <<< (nI j &&& 31)))), (3, .int (a_load (vP σj 33) (vS σj o) (nI j))), (2, .int (nI j)), (0, .ref (G.1 o))]) hx hb dX4_passYear_43 rfl hl (by decide) rfl (fun ls hl => ?_)
            refine lv_goto (tgt := 79) hx hb dX4_passYear_44 (by decide) ?_
            refine lv_iinc (v := (nI (j + 1))) (lv' := [(2, .int (nI (j + 1))), (1, .int (x1 ||| (1 <<< (nI j &&& 31)))), (3, .int (a_load (vP σj 33) (vS σj o) (nI j))), (0, .ref (G.1 o))]) hx hb dX4_passYear_79 hl (k := 2) rfl (nI_1 j) (by decide) rfl (fun ls hl => ?_)
            refine lv_goto (tgt := 4) hx hb dX4_passYear_82 (by decide) ?_
            exact ih_4 (j + 1) (x1 ||| (1 <<< (nI j &&& 31))) σj _ _ _ (by omega) (by omega) (by simp [a_bits, y_gives, hq1, hq2, hq3, i_leN, e_x1, u_1, t_5, u_7, -Int32.not_lt] <;> first | rfl | simp_all) (by rw [e_σj]; first | (refine mF_k _ _ _ _ ?_; simp [y_wear, vS_1, hq1, hq2, hq3, hq4, e_x1, u_1, t_5, u_7, i_leN, -Int32.not_lt]) | (refine mF_s _ _ _ _ ?_; rw [mF_at]; simp [y_wear, vS_1, hq1, hq2, hq3, hq4, e_x1, u_1, t_5, u_7, i_leN, -Int32.not_lt])) hpj hP hS (lv_sub hl [0, 1, 3] rfl)
  exact lp_4 ((ix (σ 33 0)) - 0 + 1) 0 0 σ _ _ _ (by omega) (by omega) (by first | rfl | simp [a_bits, y_gives, hq1, hq2, hq3, i_leN, -Int32.not_lt] <;> first | rfl | simp_all) (mF_0 _ _ _) hp hP hS (lv_sub hl [0, 1, 2] rfl)
set_option maxHeartbeats 4000000 in
set_option maxRecDepth 100000 in
theorem c_X4_apply (G : GT) (l : Launch) (σ : Mem) (o : Nat) (d : Int32) (ho : oSc o) (hp : PO 33 σ) : CI G 74 (cX G) l yX4_apply ({ frames := 4, cells := 0, slots := 0, locals := 91 } : Room) cX4_apply 4 (some .int) [.ref (G.1 o), .int d] σ (fun (r : Int32) u => r = a_apply σ o d ∧ u = m_apply σ o d) := by
  intro sz
  refine xbegin (by decide) (Nat.le_of_ble_eq_true rfl) ?_
  intro p e s m below meth c ls hsz ha hP hl
  subst hsz
  have hx := ha.1
  have hb := ha.2.1
  have hS : va_S (xA G 74 s.heap.size) s.heap s.heap [] := va_S.rf
  have hl : lv_has ls 4 [(0, .ref (G.1 o)), (1, .int d)] := hl
  have k_0 : (0 : Int32).toInt = 0 := by decide
  have k_1 : (1 : Int32).toInt = 1 := by decide
  have k_10 : (10 : Int32).toInt = 10 := by decide
  have k_100 : (100 : Int32).toInt = 100 := by decide
  refine lv_iload_n hx hb dX4_apply_0 rfl (lv_at hl 1 rfl) ?_
  refine lv_bipush (v := 10) hx hb dX4_apply_1 (by decide) ?_
  refine lv_idiv hx hb dX4_apply_3 (by decide) ?_
  refine lv_bipush (v := 10) hx hb dX4_apply_4 (by decide) ?_
  refine lv_irem hx hb dX4_apply_6 (by decide) ?_
  refine lv_istore_n (lv' := [(2, .int ((d / 10) - (d / 10) / 10 * 10)), (0, .ref (G.1 o)), (1, .int d)]) hx hb dX4_apply_7 rfl hl (by decide) rfl (fun ls hl => ?_)
  refine lv_iload_n hx hb dX4_apply_8 rfl (lv_at hl 2 rfl) ?_
  refine lv_bipush (v := 10) hx hb dX4_apply_9 (by decide) ?_
  refine lv_irem hx hb dX4_apply_11 (by decide) ?_
  refine lv_istore_n (lv' := [(3, .int (d - d / 10 * 10)), (2, .int ((d / 10) - (d / 10) / 10 * 10)), (0, .ref (G.1 o)), (1, .int d)]) hx hb dX4_apply_12 rfl hl (by decide) rfl (fun ls hl => ?_)
  refine lv_iload_n hx hb dX4_apply_13 rfl (lv_at hl 3 rfl) ?_
  refine lv_bipush (v := 100) hx hb dX4_apply_14 (by decide) ?_
  refine lv_idiv hx hb dX4_apply_16 (by decide) ?_
  by_cases c_1 : (d / 100) = 0
  · refine lv_tableIn (tgt := 48) hx hb dX4_apply_17 (by rw [c_1]; decide) (by rw [c_1]; decide) (off := 31) (by rw [c_1]; rfl) (by decide) ?_
    refine lv_aload_n hx hb dX4_apply_48 rfl (lv_at hl 2 rfl) ?_
    refine lv_iload_n hx hb dX4_apply_49 rfl (lv_at hl 1 rfl) ?_
    refine lv_iload_n hx hb dX4_apply_50 rfl (lv_at hl 0 rfl) ?_
    refine xVi ha hP hS (As := [.int ((d / 10) - (d / 10) / 10 * 10), .int (d - d / 10 * 10)]) (rest := []) o (oSc_lt0 ho) (sSc ho) rfl rfl (c_X4_goUp G l σ o ((d / 10) - (d / 10) / 10 * 10) (d - d / 10 * 10) ho hp) kw_X4_47 hd_X4_goUp rfl ⟨rfl, rfl⟩ ⟨Nat.le_of_ble_eq_true rfl, Nat.le_of_ble_eq_true rfl⟩ ⟨Nat.zero_le _, Nat.zero_le _⟩ hl.1 (Nat.le_of_ble_eq_true rfl) rfl dX4_apply_51 (fun r u H locs hpq hP hS => ?_)
    obtain ⟨hr_, hu_⟩ := hpq
    have hr_ := hr_.symm
    have hu_ := hu_.symm
    subst hr_
    subst hu_
    exact xiret ha hP hS dX4_apply_54 ⟨by simp [a_apply, dI, dK, c_1, i_leN, -Int32.not_lt, mU_e] <;> first | rfl | simp_all, (by simp [m_apply, dI, dK, c_1])⟩ rfl
  by_cases c_2 : (d / 100) = 1
  · refine lv_tableIn (tgt := 55) hx hb dX4_apply_17 (by rw [c_2]; decide) (by rw [c_2]; decide) (off := 38) (by rw [c_2]; rfl) (by decide) ?_
    refine lv_aload_n hx hb dX4_apply_55 rfl (lv_at hl 2 rfl) ?_
    refine lv_iload_n hx hb dX4_apply_56 rfl (lv_at hl 1 rfl) ?_
    refine xVi ha hP hS (As := [.int ((d / 10) - (d / 10) / 10 * 10)]) (rest := []) o (oSc_lt0 ho) (sSc ho) rfl rfl (c_X4_comeDown G l σ o ((d / 10) - (d / 10) / 10 * 10) ho hp) kw_X4_51 hd_X4_comeDown rfl ⟨rfl, rfl⟩ ⟨Nat.le_of_ble_eq_true rfl, Nat.le_of_ble_eq_true rfl⟩ ⟨Nat.zero_le _, Nat.zero_le _⟩ hl.1 (Nat.le_of_ble_eq_true rfl) rfl dX4_apply_57 (fun r u H locs hpq hP hS => ?_)
    obtain ⟨hr_, hu_⟩ := hpq
    have hr_ := hr_.symm
    have hu_ := hu_.symm
    subst hr_
    subst hu_
    exact xiret ha hP hS dX4_apply_60 ⟨by simp [a_apply, dI, dK, c_1, c_2, i_leN, -Int32.not_lt, mU_e] <;> first | rfl | simp_all, (by simp [m_apply, dI, dK, c_1, c_2])⟩ rfl
  by_cases c_3 : (d / 100) = 2
  · refine lv_tableIn (tgt := 61) hx hb dX4_apply_17 (by rw [c_3]; decide) (by rw [c_3]; decide) (off := 44) (by rw [c_3]; rfl) (by decide) ?_
    refine lv_aload_n hx hb dX4_apply_61 rfl (lv_at hl 2 rfl) ?_
    refine lv_iload_n hx hb dX4_apply_62 rfl (lv_at hl 0 rfl) ?_
    refine xVi ha hP hS (As := [.int (d - d / 10 * 10)]) (rest := []) o (oSc_lt0 ho) (sSc ho) rfl rfl (c_X4_renew G l σ o (d - d / 10 * 10) ho hp) kw_X4_54 hd_X4_renew rfl ⟨rfl, rfl⟩ ⟨Nat.le_of_ble_eq_true rfl, Nat.le_of_ble_eq_true rfl⟩ ⟨Nat.zero_le _, Nat.zero_le _⟩ hl.1 (Nat.le_of_ble_eq_true rfl) rfl dX4_apply_63 (fun r u H locs hpq hP hS => ?_)
    obtain ⟨hr_, hu_⟩ := hpq
    have hr_ := hr_.symm
    have hu_ := hu_.symm
    subst hr_
    subst hu_
    exact xiret ha hP hS dX4_apply_66 ⟨by simp [a_apply, dI, dK, c_1, c_2, c_3, i_leN, -Int32.not_lt, mU_e] <;> first | rfl | simp_all, (by simp [m_apply, dI, dK, c_1, c_2, c_3])⟩ rfl
  by_cases c_4 : (d / 100) = 3
  · refine lv_tableIn (tgt := 67) hx hb dX4_apply_17 (by rw [c_4]; decide) (by rw [c_4]; decide) (off := 50) (by rw [c_4]; rfl) (by decide) ?_
    refine lv_aload_n hx hb dX4_apply_67 rfl (lv_at hl 2 rfl) ?_
    refine lv_dup hx hb dX4_apply_68 rfl ?_
    refine g4_29 ha hP o (oSc_lt0 ho) (sSc ho) (v := .int (σ o 2)) rfl dX4_apply_69 ?_
    refine lv_iconst (v := 1) hx hb dX4_apply_72 (by decide) ?_
    refine lv_iadd hx hb dX4_apply_73 ?_
    refine p4_29 ha hP hS (cX_loc G) o (oSc_lt0 ho) (sSc ho) (x := ((σ o 2) + 1)) (Nat.le_of_ble_eq_true rfl) (mU σ o 2 ((σ o 2) + 1)) (fun q hq => mU_n _ _ _ hq) (sSc_p2 ho) dX4_apply_74 (fun H locs hP hS => ?_)
    refine lv_aload_n hx hb dX4_apply_77 rfl (lv_at hl 2 rfl) ?_
    refine g4_29 ha hP o (oSc_lt0 ho) (sSc ho) (v := .int ((mU σ o 2 ((σ o 2) + 1)) o 2)) rfl dX4_apply_78 ?_
    exact xiret ha hP hS dX4_apply_81 ⟨by simp [a_apply, dI, dK, c_1, c_2, c_3, c_4, i_leN, -Int32.not_lt, mU_e] <;> first | rfl | simp_all, (by simp [m_apply, dI, dK, c_1, c_2, c_3, c_4])⟩ rfl
  have t_1 := i_ne c_1
  have t_2 := i_ne c_2
  have t_3 := i_ne c_3
  have t_4 := i_ne c_4
  have kk_1 : (0 : Int32).toInt = 0 := by decide
  have kk_2 : (1 : Int32).toInt = 1 := by decide
  have kk_3 : (2 : Int32).toInt = 2 := by decide
  have kk_4 : (3 : Int32).toInt = 3 := by decide
  refine lv_tableOut (tgt := 82) hx hb dX4_apply_17 (by omega) (by decide) ?_
  refine lv_aload_n hx hb dX4_apply_82 rfl (lv_at hl 2 rfl) ?_
  refine xVi ha hP hS (As := []) (rest := []) o (oSc_lt0 ho) (sSc ho) rfl rfl (c_X4_passYear G l σ o ho hp) kw_X4_57 hd_X4_passYear rfl ⟨rfl, rfl⟩ ⟨Nat.le_of_ble_eq_true rfl, Nat.le_of_ble_eq_true rfl⟩ ⟨Nat.zero_le _, Nat.zero_le _⟩ hl.1 (Nat.le_of_ble_eq_true rfl) rfl dX4_apply_83 (fun r u H locs hpq hP hS => ?_)
  obtain ⟨hr_, hu_⟩ := hpq
  have hr_ := hr_.symm
  have hu_ := hu_.symm
  subst hr_
  subst hu_
  exact xiret ha hP hS dX4_apply_86 ⟨by simp [a_apply, dI, dK, c_1, c_2, c_3, c_4, i_leN, -Int32.not_lt, mU_e] <;> first | rfl | simp_all, (by simp [m_apply, dI, dK, c_1, c_2, c_3, c_4])⟩ rfl
set_option maxHeartbeats 4000000 in
set_option maxRecDepth 100000 in
theorem c_X4_replay (G : GT) (l : Launch) (σ : Mem)  (hp : PO 33 σ) : CV G 74 (cX G) l yX4_replay ({ frames := 5, cells := 0, slots := 0, locals := 114 } : Room) cX4_replay 3 none [.ref (G.1 45), .ref (G.1 25)] σ (fun u => u = m_replay σ) := by
  intro sz
  refine xbegin (by decide) (Nat.le_of_ble_eq_true rfl) ?_
  intro p e s m below meth c ls hsz ha hP hl
  subst hsz
  have hx := ha.1
  have hb := ha.2.1
  have hS : va_S (xA G 74 s.heap.size) s.heap s.heap [] := va_S.rf
  have hl : lv_has ls 3 [(0, .ref (G.1 45)), (1, .ref (G.1 25))] := hl
  have k_0 : (0 : Int32).toInt = 0 := by decide
  have k_40 : (40 : Int32).toInt = 40 := by decide
  have hc := ix_cases (σ 25 0)
  refine lv_aload_n hx hb dX4_replay_0 rfl (lv_at hl 0 rfl) ?_
  refine xVv ha hP hS (As := []) (rest := []) 45 (by decide) (cX_45 G _) rfl rfl (c_X4_begin G l σ 45 (by unfold oSc; omega)) kw_X4_32 hd_X4_begin rfl ⟨rfl, rfl⟩ ⟨Nat.le_of_ble_eq_true rfl, Nat.le_of_ble_eq_true rfl⟩ ⟨Nat.zero_le _, Nat.zero_le _⟩ hl.1 (Nat.le_of_ble_eq_true rfl) rfl dX4_replay_1 (fun u H locs hpq hP hS => ?_)
  have hpq := hpq.symm
  subst hpq
  refine lv_iconst (v := 0) hx hb dX4_replay_4 (by decide) ?_
  refine lv_istore_n (lv' := [(2, .int 0), (0, .ref (G.1 45)), (1, .ref (G.1 25))]) hx hb dX4_replay_5 rfl hl (by decide) rfl (fun ls hl => ?_)
  have lp_6 : ∀ (d j : Nat) (σj : Mem) (H : Heap) (locs : List Loc) (ls : Array Slot), j ≤ (min (ix (σ 25 0)) 40) → (min (ix (σ 25 0)) 40) - j < d → σj = m_replayN σ j → PO 33 σj → va_P G.2.1 vwCl (wl G 74 (cX G σj)) H → va_S (xA G 74 s.heap.size) s.heap H locs → lv_has ls 3 [(2, .int (nI j)), (0, .ref (G.1 45)), (1, .ref (G.1 25))] → W p l e ({ frames := 5, cells := 0, slots := 0, locals := 114 } : Room) s m ([.ref (G.1 45), .ref (G.1 25)] : List Value).toArray below meth c H locs 0 0 (MQ below (va_Qv (fun u => u = m_replay σ) (xB G 74 (cX G)) (xA G 74 s.heap.size)) ([.ref (G.1 45), .ref (G.1 25)] : List Value).toArray s 0 0 (xA G 74 s.heap.size)) (F0 m 6 ls []) := by
    intro d
    induction d with
    | zero => intro j σj H locs ls hj hd; exact absurd hd (Nat.not_lt_zero _)
    | succ d ih_6 =>
      intro j σj H locs ls hj_j hd_j e_σj hpj hP hS hl
      have h31_j : (nI j).toInt = (j : Int) := nI_toInt (by omega)
      have hz : σj 25 0 = σ 25 0 := by rw [e_σj, m_replayN_n σ (by decide) (by decide) (by decide)]
      have hz2 := i_eq hz
      refine lv_iload_n hx hb dX4_replay_6 rfl (lv_at hl 0 rfl) ?_
      refine lv_aload_n hx hb dX4_replay_7 rfl (lv_at hl 2 rfl) ?_
      refine g4_35 ha hP 25 (by decide) (cX_25 G _) (v := .int (σj 25 0)) rfl dX4_replay_8 ?_
      refine lv_icmp_ge (tgt := 37) hx hb dX4_replay_11 (by decide) (fun c_1 => ?_) (fun c_1 => ?_)
      · have t_1 := i_le c_1
        have u_1 := u_le c_1
        obtain rfl : j = (min (ix (σ 25 0)) 40) := by omega
        exact xvret ha hP hS dX4_replay_37 (by exact e_σj)
      · have t_1 := i_nle c_1
        have u_1 := u_nle c_1
        refine lv_iload_n hx hb dX4_replay_14 rfl (lv_at hl 0 rfl) ?_
        refine lv_bipush (v := 40) hx hb dX4_replay_15 (by decide) ?_
        refine lv_icmp_ge (tgt := 37) hx hb dX4_replay_17 (by decide) (fun c_2 => ?_) (fun c_2 => ?_)
        · have t_2 := i_le c_2
          have u_2 := u_le c_2
          obtain rfl : j = (min (ix (σ 25 0)) 40) := by omega
          exact xvret ha hP hS dX4_replay_37 (by exact e_σj)
        · have t_2 := i_nle c_2
          have u_2 := u_nle c_2
          refine lv_aload_n hx hb dX4_replay_20 rfl (lv_at hl 1 rfl) ?_
          refine lv_aload_n hx hb dX4_replay_21 rfl (lv_at hl 2 rfl) ?_
          refine g4_40 ha hP 25 (by decide) (cX_25 G _) (v := .ref (G.1 26)) rfl dX4_replay_22 ?_
          refine lv_iload_n hx hb dX4_replay_25 rfl (lv_at hl 0 rfl) ?_
          refine xialdN ha hP 26 (by decide) (cX_26 G _) j rfl (by omega) (by decide) dX4_replay_26 ?_
          refine xVi ha hP hS (As := [.int (σj 26 j)]) (rest := []) 45 (by decide) (cX_45 G _) rfl rfl (c_X4_apply G l σj 45 (σj 26 j) (by unfold oSc; omega) hpj) kw_X4_43 hd_X4_apply rfl ⟨rfl, rfl⟩ ⟨Nat.le_of_ble_eq_true rfl, Nat.le_of_ble_eq_true rfl⟩ ⟨Nat.zero_le _, Nat.zero_le _⟩ hl.1 (Nat.le_of_ble_eq_true rfl) rfl dX4_replay_27 (fun r u H locs hpq hP hS => ?_)
          obtain ⟨hr_, hu_⟩ := hpq
          have hr_ := hr_.symm
          have hu_ := hu_.symm
          subst hr_
          subst hu_
          refine lv_pop hx hb dX4_replay_30 rfl ?_
          refine lv_iinc (v := (nI (j + 1))) (lv' := [(2, .int (nI (j + 1))), (0, .ref (G.1 45)), (1, .ref (G.1 25))]) hx hb dX4_replay_31 hl (k := 0) rfl (nI_1 j) (by decide) rfl (fun ls hl => ?_)
          refine lv_goto (tgt := 6) hx hb dX4_replay_34 (by decide) ?_
          exact ih_6 (j + 1) (m_apply σj 45 (σj 26 j)) _ _ _ (by omega) (by omega) (by rw [e_σj]; show m_apply _ _ _ = m_apply _ _ _; rw [m_replayN_n σ (by decide) (by decide) (by decide)]) (PO_apply hpj (by decide)) hP hS (lv_sub hl [0, 1, 2] rfl)
  exact lp_6 ((min (ix (σ 25 0)) 40) - 0 + 1) 0 (m_begin σ 45) _ _ _ (by omega) (by omega) rfl (PO_replayN hp 0) hP hS (lv_sub hl [0, 1, 2] rfl)
set_option maxHeartbeats 4000000 in
set_option maxRecDepth 100000 in
theorem c_J6_bitCount_0f7a4 (G : GT) (l : Launch) (σ : Mem) (x : Int32)  : CI G 74 (cX G) l yJ6_bitCount_0f7a4 ({ frames := 0, cells := 0, slots := 0, locals := 0 } : Room) cJ6_bitCount_0f7a4 1 (some .int) [.int x] σ (fun (r : Int32) u => r = a_pop x ∧ u = σ) := by
  intro sz
  refine xbegin (by decide) (Nat.le_of_ble_eq_true rfl) ?_
  intro p e s m below meth c ls hsz ha hP hl
  subst hsz
  have hx := ha.1
  have hb := ha.2.1
  have hS : va_S (xA G 74 s.heap.size) s.heap s.heap [] := va_S.rf
  have hl : lv_has ls 1 [(0, .int x)] := hl
  have k_0 : (0 : Int32).toInt = 0 := by decide
  have k_1 : (1 : Int32).toInt = 1 := by decide
  have k_2 : (2 : Int32).toInt = 2 := by decide
  have k_4 : (4 : Int32).toInt = 4 := by decide
  have k_8 : (8 : Int32).toInt = 8 := by decide
  have k_16 : (16 : Int32).toInt = 16 := by decide
  have k_63 : (63 : Int32).toInt = 63 := by decide
  have k_252645135 : (252645135 : Int32).toInt = 252645135 := by decide
  have k_858993459 : (858993459 : Int32).toInt = 858993459 := by decide
  have k_1431655765 : (1431655765 : Int32).toInt = 1431655765 := by decide
  refine lv_iload_n hx hb dJ6_bitCount_0f7a4_0 rfl (lv_at hl 0 rfl) ?_
  refine lv_iload_n hx hb dJ6_bitCount_0f7a4_1 rfl (lv_at hl 0 rfl) ?_
  refine lv_iconst (v := 1) hx hb dJ6_bitCount_0f7a4_2 (by decide) ?_
  refine lv_iushr (v := (x.toUInt32 >>> ((1 : Int32).toUInt32 &&& Int32.toUInt32 31)).toInt32) hx hb dJ6_bitCount_0f7a4_3 rfl ?_
  refine lv_ldcw (v := 1431655765) hx hb ha.2.2.2.1 (ha.2.2.2.2.1 _ (tb_in (w := .constant RJ6 265 1431655765) (by decide +kernel))) dJ6_bitCount_0f7a4_4 ?_
  refine lv_iand hx hb dJ6_bitCount_0f7a4_7 ?_
  refine lv_isub hx hb dJ6_bitCount_0f7a4_8 ?_
  refine lv_istore_n (lv' := [(0, .int (x - ((x.toUInt32 >>> ((1 : Int32).toUInt32 &&& Int32.toUInt32 31)).toInt32 &&& 1431655765)))]) hx hb dJ6_bitCount_0f7a4_9 rfl hl (by decide) rfl (fun ls hl => ?_)
  refine lv_iload_n hx hb dJ6_bitCount_0f7a4_10 rfl (lv_at hl 0 rfl) ?_
  refine lv_ldcw (v := 858993459) hx hb ha.2.2.2.1 (ha.2.2.2.2.1 _ (tb_in (w := .constant RJ6 266 858993459) (by decide +kernel))) dJ6_bitCount_0f7a4_11 ?_
  refine lv_iand hx hb dJ6_bitCount_0f7a4_14 ?_
  refine lv_iload_n hx hb dJ6_bitCount_0f7a4_15 rfl (lv_at hl 0 rfl) ?_
  refine lv_iconst (v := 2) hx hb dJ6_bitCount_0f7a4_16 (by decide) ?_
  refine lv_iushr (v := ((x - ((x.toUInt32 >>> ((1 : Int32).toUInt32 &&& Int32.toUInt32 31)).toInt32 &&& 1431655765)).toUInt32 >>> ((2 : Int32).toUInt32 &&& Int32.toUInt32 31)).toInt32) hx hb dJ6_bitCount_0f7a4_17 rfl ?_
  refine lv_ldcw (v := 858993459) hx hb ha.2.2.2.1 (ha.2.2.2.2.1 _ (tb_in (w := .constant RJ6 266 858993459) (by decide +kernel))) dJ6_bitCount_0f7a4_18 ?_
  refine lv_iand hx hb dJ6_bitCount_0f7a4_21 ?_
  refine lv_iadd hx hb dJ6_bitCount_0f7a4_22 ?_
  refine lv_istore_n (lv' := [(0, .int (((x - ((x.toUInt32 >>> ((1 : Int32).toUInt32 &&& Int32.toUInt32 31)).toInt32 &&& 1431655765)) &&& 858993459) + (((x - ((x.toUInt32 >>> ((1 : Int32).toUInt32 &&& Int32.toUInt32 31)).toInt32 &&& 1431655765)).toUInt32 >>> ((2 : Int32).toUInt32 &&& Int32.toUInt32 31)).toInt32 &&& 858993459)))]) hx hb dJ6_bitCount_0f7a4_23 rfl hl (by decide) rfl (fun ls hl => ?_)
  refine lv_iload_n hx hb dJ6_bitCount_0f7a4_24 rfl (lv_at hl 0 rfl) ?_
  refine lv_iload_n hx hb dJ6_bitCount_0f7a4_25 rfl (lv_at hl 0 rfl) ?_
  refine lv_iconst (v := 4) hx hb dJ6_bitCount_0f7a4_26 (by decide) ?_
  refine lv_iushr (v := ((((x - ((x.toUInt32 >>> ((1 : Int32).toUInt32 &&& Int32.toUInt32 31)).toInt32 &&& 1431655765)) &&& 858993459) + (((x - ((x.toUInt32 >>> ((1 : Int32).toUInt32 &&& Int32.toUInt32 31)).toInt32 &&& 1431655765)).toUInt32 >>> ((2 : Int32).toUInt32 &&& Int32.toUInt32 31)).toInt32 &&& 858993459)).toUInt32 >>> ((4 : Int32).toUInt32 &&& Int32.toUInt32 31)).toInt32) hx hb dJ6_bitCount_0f7a4_27 rfl ?_
  refine lv_iadd hx hb dJ6_bitCount_0f7a4_28 ?_
  refine lv_ldcw (v := 252645135) hx hb ha.2.2.2.1 (ha.2.2.2.2.1 _ (tb_in (w := .constant RJ6 267 252645135) (by decide +kernel))) dJ6_bitCount_0f7a4_29 ?_
  refine lv_iand hx hb dJ6_bitCount_0f7a4_32 ?_
  refine lv_istore_n (lv' := [(0, .int (((((x - ((x.toUInt32 >>> ((1 : Int32).toUInt32 &&& Int32.toUInt32 31)).toInt32 &&& 1431655765)) &&& 858993459) + (((x - ((x.toUInt32 >>> ((1 : Int32).toUInt32 &&& Int32.toUInt32 31)).toInt32 &&& 1431655765)).toUInt32 >>> ((2 : Int32).toUInt32 &&& Int32.toUInt32 31)).toInt32 &&& 858993459)) + ((((x - ((x.toUInt32 >>> ((1 : Int32).toUInt32 &&& Int32.toUInt32 31)).toInt32 &&& 1431655765)) &&& 858993459) + (((x - ((x.toUInt32 >>> ((1 : Int32).toUInt32 &&& Int32.toUInt32 31)).toInt32 &&& 1431655765)).toUInt32 >>> ((2 : Int32).toUInt32 &&& Int32.toUInt32 31)).toInt32 &&& 858993459)).toUInt32 >>> ((4 : Int32).toUInt32 &&& Int32.toUInt32 31)).toInt32) &&& 252645135))]) hx hb dJ6_bitCount_0f7a4_33 rfl hl (by decide) rfl (fun ls hl => ?_)
  refine lv_iload_n hx hb dJ6_bitCount_0f7a4_34 rfl (lv_at hl 0 rfl) ?_
  refine lv_iload_n hx hb dJ6_bitCount_0f7a4_35 rfl (lv_at hl 0 rfl) ?_
  refine lv_bipush (v := 8) hx hb dJ6_bitCount_0f7a4_36 (by decide) ?_
  refine lv_iushr (v := ((((((x - ((x.toUInt32 >>> ((1 : Int32).toUInt32 &&& Int32.toUInt32 31)).toInt32 &&& 1431655765)) &&& 858993459) + (((x - ((x.toUInt32 >>> ((1 : Int32).toUInt32 &&& Int32.toUInt32 31)).toInt32 &&& 1431655765)).toUInt32 >>> ((2 : Int32).toUInt32 &&& Int32.toUInt32 31)).toInt32 &&& 858993459)) + ((((x - ((x.toUInt32 >>> ((1 : Int32).toUInt32 &&& Int32.toUInt32 31)).toInt32 &&& 1431655765)) &&& 858993459) + (((x - ((x.toUInt32 >>> ((1 : Int32).toUInt32 &&& Int32.toUInt32 31)).toInt32 &&& 1431655765)).toUInt32 >>> ((2 : Int32).toUInt32 &&& Int32.toUInt32 31)).toInt32 &&& 858993459)).toUInt32 >>> ((4 : Int32).toUInt32 &&& Int32.toUInt32 31)).toInt32) &&& 252645135).toUInt32 >>> ((8 : Int32).toUInt32 &&& Int32.toUInt32 31)).toInt32) hx hb dJ6_bitCount_0f7a4_38 rfl ?_
  refine lv_iadd hx hb dJ6_bitCount_0f7a4_39 ?_
  refine lv_istore_n (lv' := [(0, .int ((((((x - ((x.toUInt32 >>> ((1 : Int32).toUInt32 &&& Int32.toUInt32 31)).toInt32 &&& 1431655765)) &&& 858993459) + (((x - ((x.toUInt32 >>> ((1 : Int32).toUInt32 &&& Int32.toUInt32 31)).toInt32 &&& 1431655765)).toUInt32 >>> ((2 : Int32).toUInt32 &&& Int32.toUInt32 31)).toInt32 &&& 858993459)) + ((((x - ((x.toUInt32 >>> ((1 : Int32).toUInt32 &&& Int32.toUInt32 31)).toInt32 &&& 1431655765)) &&& 858993459) + (((x - ((x.toUInt32 >>> ((1 : Int32).toUInt32 &&& Int32.toUInt32 31)).toInt32 &&& 1431655765)).toUInt32 >>> ((2 : Int32).toUInt32 &&& Int32.toUInt32 31)).toInt32 &&& 858993459)).toUInt32 >>> ((4 : Int32).toUInt32 &&& Int32.toUInt32 31)).toInt32) &&& 252645135) + ((((((x - ((x.toUInt32 >>> ((1 : Int32).toUInt32 &&& Int32.toUInt32 31)).toInt32 &&& 1431655765)) &&& 858993459) + (((x - ((x.toUInt32 >>> ((1 : Int32).toUInt32 &&& Int32.toUInt32 31)).toInt32 &&& 1431655765)).toUInt32 >>> ((2 : Int32).toUInt32 &&& Int32.toUInt32 31)).toInt32 &&& 858993459)) + ((((x - ((x.toUInt32 >>> ((1 : Int32).toUInt32 &&& Int32.toUInt32 31)).toInt32 &&& 1431655765)) &&& 858993459) + (((x - ((x.toUInt32 >>> ((1 : Int32).toUInt32 &&& Int32.toUInt32 31)).toInt32 &&& 1431655765)).toUInt32 >>> ((2 : Int32).toUInt32 &&& Int32.toUInt32 31)).toInt32 &&& 858993459)).toUInt32 >>> ((4 : Int32).toUInt32 &&& Int32.toUInt32 31)).toInt32) &&& 252645135).toUInt32 >>> ((8 : Int32).toUInt32 &&& Int32.toUInt32 31)).toInt32))]) hx hb dJ6_bitCount_0f7a4_40 rfl hl (by decide) rfl (fun ls hl => ?_)
  refine lv_iload_n hx hb dJ6_bitCount_0f7a4_41 rfl (lv_at hl 0 rfl) ?_
  refine lv_iload_n hx hb dJ6_bitCount_0f7a4_42 rfl (lv_at hl 0 rfl) ?_
  refine lv_bipush (v := 16) hx hb dJ6_bitCount_0f7a4_43 (by decide) ?_
  refine lv_iushr (v := (((((((x - ((x.toUInt32 >>> ((1 : Int32).toUInt32 &&& Int32.toUInt32 31)).toInt32 &&& 1431655765)) &&& 858993459) + (((x - ((x.toUInt32 >>> ((1 : Int32).toUInt32 &&& Int32.toUInt32 31)).toInt32 &&& 1431655765)).toUInt32 >>> ((2 : Int32).toUInt32 &&& Int32.toUInt32 31)).toInt32 &&& 858993459)) + ((((x - ((x.toUInt32 >>> ((1 : Int32).toUInt32 &&& Int32.toUInt32 31)).toInt32 &&& 1431655765)) &&& 858993459) + (((x - ((x.toUInt32 >>> ((1 : Int32).toUInt32 &&& Int32.toUInt32 31)).toInt32 &&& 1431655765)).toUInt32 >>> ((2 : Int32).toUInt32 &&& Int32.toUInt32 31)).toInt32 &&& 858993459)).toUInt32 >>> ((4 : Int32).toUInt32 &&& Int32.toUInt32 31)).toInt32) &&& 252645135) + ((((((x - ((x.toUInt32 >>> ((1 : Int32).toUInt32 &&& Int32.toUInt32 31)).toInt32 &&& 1431655765)) &&& 858993459) + (((x - ((x.toUInt32 >>> ((1 : Int32).toUInt32 &&& Int32.toUInt32 31)).toInt32 &&& 1431655765)).toUInt32 >>> ((2 : Int32).toUInt32 &&& Int32.toUInt32 31)).toInt32 &&& 858993459)) + ((((x - ((x.toUInt32 >>> ((1 : Int32).toUInt32 &&& Int32.toUInt32 31)).toInt32 &&& 1431655765)) &&& 858993459) + (((x - ((x.toUInt32 >>> ((1 : Int32).toUInt32 &&& Int32.toUInt32 31)).toInt32 &&& 1431655765)).toUInt32 >>> ((2 : Int32).toUInt32 &&& Int32.toUInt32 31)).toInt32 &&& 858993459)).toUInt32 >>> ((4 : Int32).toUInt32 &&& Int32.toUInt32 31)).toInt32) &&& 252645135).toUInt32 >>> ((8 : Int32).toUInt32 &&& Int32.toUInt32 31)).toInt32).toUInt32 >>> ((16 : Int32).toUInt32 &&& Int32.toUInt32 31)).toInt32) hx hb dJ6_bitCount_0f7a4_45 rfl ?_
  refine lv_iadd hx hb dJ6_bitCount_0f7a4_46 ?_
  refine lv_istore_n (lv' := [(0, .int (((((((x - ((x.toUInt32 >>> ((1 : Int32).toUInt32 &&& Int32.toUInt32 31)).toInt32 &&& 1431655765)) &&& 858993459) + (((x - ((x.toUInt32 >>> ((1 : Int32).toUInt32 &&& Int32.toUInt32 31)).toInt32 &&& 1431655765)).toUInt32 >>> ((2 : Int32).toUInt32 &&& Int32.toUInt32 31)).toInt32 &&& 858993459)) + ((((x - ((x.toUInt32 >>> ((1 : Int32).toUInt32 &&& Int32.toUInt32 31)).toInt32 &&& 1431655765)) &&& 858993459) + (((x - ((x.toUInt32 >>> ((1 : Int32).toUInt32 &&& Int32.toUInt32 31)).toInt32 &&& 1431655765)).toUInt32 >>> ((2 : Int32).toUInt32 &&& Int32.toUInt32 31)).toInt32 &&& 858993459)).toUInt32 >>> ((4 : Int32).toUInt32 &&& Int32.toUInt32 31)).toInt32) &&& 252645135) + ((((((x - ((x.toUInt32 >>> ((1 : Int32).toUInt32 &&& Int32.toUInt32 31)).toInt32 &&& 1431655765)) &&& 858993459) + (((x - ((x.toUInt32 >>> ((1 : Int32).toUInt32 &&& Int32.toUInt32 31)).toInt32 &&& 1431655765)).toUInt32 >>> ((2 : Int32).toUInt32 &&& Int32.toUInt32 31)).toInt32 &&& 858993459)) + ((((x - ((x.toUInt32 >>> ((1 : Int32).toUInt32 &&& Int32.toUInt32 31)).toInt32 &&& 1431655765)) &&& 858993459) + (((x - ((x.toUInt32 >>> ((1 : Int32).toUInt32 &&& Int32.toUInt32 31)).toInt32 &&& 1431655765)).toUInt32 >>> ((2 : Int32).toUInt32 &&& Int32.toUInt32 31)).toInt32 &&& 858993459)).toUInt32 >>> ((4 : Int32).toUInt32 &&& Int32.toUInt32 31)).toInt32) &&& 252645135).toUInt32 >>> ((8 : Int32).toUInt32 &&& Int32.toUInt32 31)).toInt32) + (((((((x - ((x.toUInt32 >>> ((1 : Int32).toUInt32 &&& Int32.toUInt32 31)).toInt32 &&& 1431655765)) &&& 858993459) + (((x - ((x.toUInt32 >>> ((1 : Int32).toUInt32 &&& Int32.toUInt32 31)).toInt32 &&& 1431655765)).toUInt32 >>> ((2 : Int32).toUInt32 &&& Int32.toUInt32 31)).toInt32 &&& 858993459)) + ((((x - ((x.toUInt32 >>> ((1 : Int32).toUInt32 &&& Int32.toUInt32 31)).toInt32 &&& 1431655765)) &&& 858993459) + (((x - ((x.toUInt32 >>> ((1 : Int32).toUInt32 &&& Int32.toUInt32 31)).toInt32 &&& 1431655765)).toUInt32 >>> ((2 : Int32).toUInt32 &&& Int32.toUInt32 31)).toInt32 &&& 858993459)).toUInt32 >>> ((4 : Int32).toUInt32 &&& Int32.toUInt32 31)).toInt32) &&& 252645135) + ((((((x - ((x.toUInt32 >>> ((1 : Int32).toUInt32 &&& Int32.toUInt32 31)).toInt32 &&& 1431655765)) &&& 858993459) + (((x - ((x.toUInt32 >>> ((1 : Int32).toUInt32 &&& Int32.toUInt32 31)).toInt32 &&& 1431655765)).toUInt32 >>> ((2 : Int32).toUInt32 &&& Int32.toUInt32 31)).toInt32 &&& 858993459)) + ((((x - ((x.toUInt32 >>> ((1 : Int32).toUInt32 &&& Int32.toUInt32 31)).toInt32 &&& 1431655765)) &&& 858993459) + (((x - ((x.toUInt32 >>> ((1 : Int32).toUInt32 &&& Int32.toUInt32 31)).toInt32 &&& 1431655765)).toUInt32 >>> ((2 : Int32).toUInt32 &&& Int32.toUInt32 31)).toInt32 &&& 858993459)).toUInt32 >>> ((4 : Int32).toUInt32 &&& Int32.toUInt32 31)).toInt32) &&& 252645135).toUInt32 >>> ((8 : Int32).toUInt32 &&& Int32.toUInt32 31)).toInt32).toUInt32 >>> ((16 : Int32).toUInt32 &&& Int32.toUInt32 31)).toInt32))]) hx hb dJ6_bitCount_0f7a4_47 rfl hl (by decide) rfl (fun ls hl => ?_)
  refine lv_iload_n hx hb dJ6_bitCount_0f7a4_48 rfl (lv_at hl 0 rfl) ?_
  refine lv_bipush (v := 63) hx hb dJ6_bitCount_0f7a4_49 (by decide) ?_
  refine lv_iand hx hb dJ6_bitCount_0f7a4_51 ?_
  exact xiret ha hP hS dJ6_bitCount_0f7a4_52 ⟨by rfl, rfl⟩ rfl
