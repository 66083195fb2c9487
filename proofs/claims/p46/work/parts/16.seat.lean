theorem hd_J6_bitCount_0f7a4 : kHd yJ6_bitCount_0f7a4 1 := by decide +kernel
theorem hd_X6_seatHighest : kHd yX6_seatHighest 3 := by decide +kernel
theorem kw_X6_47 : ∀ w ∈ k5V RX6 47 yX2_highOn cX2_highOn 3 (some .int), w ∈ TB := tb_ins (by decide +kernel)
theorem kw_X6_34 : ∀ w ∈ k5V RX6 34 yX4_isUp cX4_isUp 2 (some .boolean), w ∈ TB := tb_ins (by decide +kernel)
theorem kw_X6_40 : ∀ w ∈ k5V RX6 40 yX4_bearsNow cX4_bearsNow 2 (some .int), w ∈ TB := tb_ins (by decide +kernel)
theorem kw_X6_75 : ∀ w ∈ k5S RX6 75 yJ6_bitCount_0f7a4 cJ6_bitCount_0f7a4 1 (some .int), w ∈ TB := tb_ins (by decide +kernel)
theorem kw_X6_68 : ∀ w ∈ k5S RX6 68 yX6_seatHighest cX6_seatHighest 5 none, w ∈ TB := tb_ins (by decide +kernel)
theorem kw_X6_72 : ∀ w ∈ k5V RX6 72 yX2_loadBy cX2_loadBy 3 (some .int), w ∈ TB := tb_ins (by decide +kernel)
set_option maxHeartbeats 4000000 in
set_option maxRecDepth 100000 in
theorem c_X6_begin (G : GT) (l : Launch) (σ : Mem)  (hp : PO 33 σ) : CV G 74 (cX G) l yX6_begin ({ frames := 3, cells := 0, slots := 0, locals := 68 } : Room) cX6_begin 5 none [.ref (G.1 51), .ref (G.1 45)] σ (fun u => u = m_sBegin σ) := by
  intro sz
  refine xbegin (by decide) (Nat.le_of_ble_eq_true rfl) ?_
  intro p e s m below meth c ls hsz ha hP hl
  subst hsz
  have hx := ha.1
  have hb := ha.2.1
  have hS : va_S (xA G 74 s.heap.size) s.heap s.heap [] := va_S.rf
  have hl : lv_has ls 5 [(0, .ref (G.1 51)), (1, .ref (G.1 45))] := hl
  have k_m9 : (-9 : Int32).toInt = -9 := by decide
  have k_m1 : (-1 : Int32).toInt = -1 := by decide
  have k_0 : (0 : Int32).toInt = 0 := by decide
  have k_1 : (1 : Int32).toInt = 1 := by decide
  obtain ⟨hn, hn4, hnt⟩ := PO_pl hp
  obtain ⟨hm, hm4, hmt⟩ := PO_pe hp
  refine lv_iconst (v := 0) hx hb dX6_begin_0 (by decide) ?_
  refine lv_istore_n (lv' := [(2, .int 0), (0, .ref (G.1 51)), (1, .ref (G.1 45))]) hx hb dX6_begin_1 rfl hl (by decide) rfl (fun ls hl => ?_)
  have lp_2 : ∀ (d j : Nat) (σj : Mem) (H : Heap) (locs : List Loc) (ls : Array Slot), j ≤ (ix (σ 33 0)) → (ix (σ 33 0)) - j < d → σj = mF σ 52 j (s_spare (vP σ 33) (vS σ 45)) → (PO 33 σj) → (vP σj 33 = (vP σ 33)) → (vS σj 45 = (vS σ 45)) → va_P G.2.1 vwCl (wl G 74 (cX G σj)) H → va_S (xA G 74 s.heap.size) s.heap H locs → lv_has ls 5 [(2, .int (nI j)), (0, .ref (G.1 51)), (1, .ref (G.1 45))] → W p l e ({ frames := 3, cells := 0, slots := 0, locals := 68 } : Room) s m ([.ref (G.1 51), .ref (G.1 45)] : List Value).toArray below meth c H locs 0 0 (MQ below (va_Qv (fun u => u = m_sBegin σ) (xB G 74 (cX G)) (xA G 74 s.heap.size)) ([.ref (G.1 51), .ref (G.1 45)] : List Value).toArray s 0 0 (xA G 74 s.heap.size)) (F0 m 2 ls []) := by
    intro d
    induction d with
    | zero => intro j σj H locs ls hj hd; exact absurd hd (Nat.not_lt_zero _)
    | succ d ih_2 =>
      intro j σj H locs ls hj_j hd_j e_σj hpj hPj hSj hP hS hl
      have h31_j : (nI j).toInt = (j : Int) := nI_toInt (by omega)
      have hz : σj 33 = σ 33 := by rw [e_σj]; exact mF_n _ _ _ (by decide)
      have hz2 : (σj 33 0).toInt = (ix (σ 33 0) : Int) := by rw [hz]; exact hnt
      have hz3 : (σj 33 1).toInt = (ix (σ 33 1) : Int) := by rw [hz]; exact hmt
      refine lv_iload_n hx hb dX6_begin_2 rfl (lv_at hl 0 rfl) ?_
      refine lv_aload_n hx hb dX6_begin_3 rfl (lv_at hl 1 rfl) ?_
      refine g6_24 ha hP 51 (by decide) (cX_51 G _) (v := .ref (G.1 33)) rfl dX6_begin_4 ?_
      refine g6_28 ha hP 33 (by decide) (cX_33 G _) (v := .int (σj 33 0)) rfl dX6_begin_7 ?_
      refine lv_icmp_ge (tgt := 42) hx hb dX6_begin_10 (by decide) (fun c_1 => ?_) (fun c_1 => ?_)
      · have t_1 := i_le c_1
        have u_1 := u_le c_1
        obtain rfl : j = (ix (σ 33 0)) := by omega
        refine lv_aload_n hx hb dX6_begin_42 rfl (lv_at hl 1 rfl) ?_
        refine g6_15 ha hP 51 (by decide) (cX_51 G _) (v := .ref (G.1 53)) rfl dX6_begin_43 ?_
        refine lv_aload_n hx hb dX6_begin_46 rfl (lv_at hl 1 rfl) ?_
        refine g6_24 ha hP 51 (by decide) (cX_51 G _) (v := .ref (G.1 33)) rfl dX6_begin_47 ?_
        refine g6_44 ha hP 33 (by decide) (cX_33 G _) (v := .int (σj 33 1)) rfl dX6_begin_50 ?_
        refine lv_iconst (v := 0) hx hb dX6_begin_53 (by decide) ?_
        refine xiastN ha hP hS (cX_loc G) 53 (by decide) (fun τ => cX_53 G τ) (ix (σj 33 1)) (ix_nI (by omega)) (ix_lt (by omega) (by omega)) (by decide) dX6_begin_54 (fun H locs hP hS => ?_)
        refine lv_aload_n hx hb dX6_begin_55 rfl (lv_at hl 1 rfl) ?_
        refine g6_24 ha hP 51 (by decide) (cX_51 G _) (v := .ref (G.1 33)) rfl dX6_begin_56 ?_
        refine g6_44 ha hP 33 (by decide) (cX_33 G _) (v := .int ((mU σj 53 (ix (σj 33 1)) 0) 33 1)) rfl dX6_begin_59 ?_
        refine lv_iconst (v := 1) hx hb dX6_begin_62 (by decide) ?_
        refine lv_isub hx hb dX6_begin_63 ?_
        refine lv_istore_n (lv' := [(2, .int (((mU σj 53 (ix (σj 33 1)) 0) 33 1) - 1)), (0, .ref (G.1 51)), (1, .ref (G.1 45))]) hx hb dX6_begin_64 rfl hl (by decide) rfl (fun ls hl => ?_)
        have lp_65 : ∀ (d j1 : Nat) (x2 : Int32) (τj : Mem) (H : Heap) (locs : List Loc) (ls : Array Slot), j1 ≤ (ix (σ 33 1)) → (ix (σ 33 1)) - j1 < d → x2 = nI (ix (σ 33 1) - j1) - 1 → τj = mD (mF σ 52 (ix (σ 33 0)) (s_spare (vP σ 33) (vS σ 45))) 53 (ix (σ 33 1)) j1 (s_hv (vP σ 33) (mF σ 52 (ix (σ 33 0)) (s_spare (vP σ 33) (vS σ 45)) 52) (ix (σ 33 1))) → (PO 33 τj) → (vP τj 33 = (vP σ 33)) → va_P G.2.1 vwCl (wl G 74 (cX G τj)) H → va_S (xA G 74 s.heap.size) s.heap H locs → lv_has ls 5 [(2, .int x2), (0, .ref (G.1 51)), (1, .ref (G.1 45))] → W p l e ({ frames := 3, cells := 0, slots := 0, locals := 68 } : Room) s m ([.ref (G.1 51), .ref (G.1 45)] : List Value).toArray below meth c H locs 0 0 (MQ below (va_Qv (fun u => u = m_sBegin σ) (xB G 74 (cX G)) (xA G 74 s.heap.size)) ([.ref (G.1 51), .ref (G.1 45)] : List Value).toArray s 0 0 (xA G 74 s.heap.size)) (F0 m 65 ls []) := by
          intro d
          induction d with
          | zero => intro j1 x2 τj H locs ls hj hd; exact absurd hd (Nat.not_lt_zero _)
          | succ d ih_65 =>
            intro j1 x2 τj H locs ls hj_j1 hd_j1 e_x2 e_τj hpk hPk hP hS hl
            have hx2 : x2.toInt = (ix (σ 33 1) : Int) - (j1 : Int) - 1 := by rw [e_x2]; exact down_i (by omega) hj_j1
            have hw : τj 33 = σ 33 := by rw [e_τj, mD_n _ _ _ _ (by decide), mF_n _ _ _ (by decide)]
            have hw2 : (τj 33 0).toInt = (ix (σ 33 0) : Int) := by rw [hw]; exact hnt
            refine lv_iload_n hx hb dX6_begin_65 rfl (lv_at hl 0 rfl) ?_
            refine lv_if_lt (tgt := 143) hx hb dX6_begin_66 (by decide) (fun c_2 => ?_) (fun c_2 => ?_)
            · have t_2 := i_lt c_2
              obtain rfl : j1 = (ix (σ 33 1)) := by omega
              refine lv_aload_n hx hb dX6_begin_143 rfl (lv_at hl 1 rfl) ?_
              refine lv_iconst (v := (-1)) hx hb dX6_begin_144 (by decide) ?_
              refine p6_56 ha hP hS (cX_loc G) 51 (by decide) (cX_51 G _) (x := (-1)) (Nat.le_of_ble_eq_true rfl) (mU τj 51 0 (-1)) (fun q hq => mU_n _ _ _ hq) (cX_p51_0 G _ _) dX6_begin_145 (fun H locs hP hS => ?_)
              refine lv_aload_n hx hb dX6_begin_148 rfl (lv_at hl 1 rfl) ?_
              refine lv_bipush (v := (-9)) hx hb dX6_begin_149 (by decide) ?_
              refine p6_59 ha hP hS (cX_loc G) 51 (by decide) (cX_51 G _) (x := (-9)) (Nat.le_of_ble_eq_true rfl) (mU (mU τj 51 0 (-1)) 51 1 (-9)) (fun q hq => mU_n _ _ _ hq) (cX_p51_1 G _ _) dX6_begin_151 (fun H locs hP hS => ?_)
              exact xvret ha hP hS dX6_begin_154 (by rw [e_τj]; rfl)
            · have t_2 := i_nlt c_2
              obtain ⟨i, hi⟩ : ∃ i, ix (σ 33 1) = j1 + i + 1 := ⟨ix (σ 33 1) - j1 - 1, by omega⟩
              obtain rfl : x2 = nI i := by rw [e_x2, show ix (σ 33 1) - j1 = i + 1 by omega, nI_pred]
              refine lv_iconst (v := 0) hx hb dX6_begin_69 (by decide) ?_
              refine lv_istore_n (lv' := [(3, .int 0), (2, .int (nI i)), (0, .ref (G.1 51)), (1, .ref (G.1 45))]) hx hb dX6_begin_70 rfl hl (by decide) rfl (fun ls hl => ?_)
              refine lv_iconst (v := 0) hx hb dX6_begin_71 (by decide) ?_
              refine lv_istore (lv' := [(4, .int 0), (3, .int 0), (2, .int (nI i)), (0, .ref (G.1 51)), (1, .ref (G.1 45))]) hx hb dX6_begin_72 hl (by decide) rfl (fun ls hl => ?_)
              have lp_74 : ∀ (d j2 : Nat) (x3 : Int32) (H : Heap) (locs : List Loc) (ls : Array Slot), j2 ≤ (ix (σ 33 0)) → (ix (σ 33 0)) - j2 < d → x3 = s_hm (vP σ 33) (mF σ 52 (ix (σ 33 0)) (s_spare (vP σ 33) (vS σ 45)) 52) i j2 → va_P G.2.1 vwCl (wl G 74 (cX G τj)) H → va_S (xA G 74 s.heap.size) s.heap H locs → lv_has ls 5 [(4, .int (nI j2)), (3, .int x3), (2, .int (nI i)), (0, .ref (G.1 51)), (1, .ref (G.1 45))] → W p l e ({ frames := 3, cells := 0, slots := 0, locals := 68 } : Room) s m ([.ref (G.1 51), .ref (G.1 45)] : List Value).toArray below meth c H locs 0 0 (MQ below (va_Qv (fun u => u = m_sBegin σ) (xB G 74 (cX G)) (xA G 74 s.heap.size)) ([.ref (G.1 51), .ref (G.1 45)] : List Value).toArray s 0 0 (xA G 74 s.heap.size)) (F0 m 74 ls []) := by
                intro d
                induction d with
                | zero => intro j2 x3 H locs ls hj hd; exact absurd hd (Nat.not_lt_zero _)
                | succ d ih_74 =>
                  intro j2 x3 H locs ls hj_j2 hd_j2 e_x3 hP hS hl
                  have h31_j2 : (nI j2).toInt = (j2 : Int) := nI_toInt (by omega)
                  have hy : mF σ 52 (ix (σ 33 0)) (s_spare (vP σ 33) (vS σ 45)) 52 j2 = τj 52 j2 := by rw [e_τj, mD_n _ _ _ _ (by decide)]
                  refine lv_iload hx hb dX6_begin_74 (lv_at hl 0 rfl) ?_
                  refine lv_aload_n hx hb dX6_begin_76 rfl (lv_at hl 3 rfl) ?_
                  refine g6_24 ha hP 51 (by decide) (cX_51 G _) (v := .ref (G.1 33)) rfl dX6_begin_77 ?_
                  refine g6_28 ha hP 33 (by decide) (cX_33 G _) (v := .int (τj 33 0)) rfl dX6_begin_80 ?_
                  refine lv_icmp_ge (tgt := 121) hx hb dX6_begin_83 (by decide) (fun c_3 => ?_) (fun c_3 => ?_)
                  · have t_3 := i_le c_3
                    have u_3 := u_le c_3
                    obtain rfl : j2 = (ix (σ 33 0)) := by omega
                    refine lv_aload_n hx hb dX6_begin_121 rfl (lv_at hl 3 rfl) ?_
                    refine g6_15 ha hP 51 (by decide) (cX_51 G _) (v := .ref (G.1 53)) rfl dX6_begin_122 ?_
                    refine lv_iload_n hx hb dX6_begin_125 rfl (lv_at hl 2 rfl) ?_
                    refine lv_aload_n hx hb dX6_begin_126 rfl (lv_at hl 3 rfl) ?_
                    refine g6_15 ha hP 51 (by decide) (cX_51 G _) (v := .ref (G.1 53)) rfl dX6_begin_127 ?_
                    refine lv_iload_n hx hb dX6_begin_130 rfl (lv_at hl 2 rfl) ?_
                    refine lv_iconst (v := 1) hx hb dX6_begin_131 (by decide) ?_
                    refine lv_iaddE (z := (nI (i + 1))) hx hb dX6_begin_132 (nI_1 i) ?_
                    refine xialdN ha hP 53 (by decide) (cX_53 G _) (i + 1) rfl (by omega) (by decide) dX6_begin_133 ?_
                    refine lv_iload_n hx hb dX6_begin_134 rfl (lv_at hl 1 rfl) ?_
                    refine lv_iadd hx hb dX6_begin_135 ?_
                    refine xiastN ha hP hS (cX_loc G) 53 (by decide) (fun τ => cX_53 G τ) i rfl (by omega) (by decide) dX6_begin_136 (fun H locs hP hS => ?_)
                    refine lv_iinc (v := (nI i + (-1))) (lv' := [(2, .int (nI i + (-1))), (4, .int (nI (ix (σ 33 0)))), (3, .int x3), (0, .ref (G.1 51)), (1, .ref (G.1 45))]) hx hb dX6_begin_137 hl (k := 2) rfl rfl (by decide) rfl (fun ls hl => ?_)
                    refine lv_goto (tgt := 65) hx hb dX6_begin_140 (by decide) ?_
                    exact ih_65 (j1 + 1) (nI i + (-1)) (mU τj 53 i ((τj 53 (i + 1)) + x3)) _ _ _ (by omega) (by omega) (by rw [show ix (σ 33 1) - (j1 + 1) = i by omega]; first | exact Int32.sub_eq_add_neg.symm | exact (Int32.sub_eq_add_neg _ _).symm | (apply Int32.toInt_inj.mp; simp [Int32.toInt_add, Int32.toInt_sub])) (by rw [e_τj]; refine mD_s _ _ _ _ _ hi ?_; rw [mD_e, if_pos rfl, if_pos (by omega), e_x3, show ix (σ 33 1) - (i + 1) = j1 by omega, s_hv, show ix (σ 33 1) - j1 - 1 = i by omega]; rfl) (PO_mU hpk (by decide)) ((vP_mU _ _ _ (by decide)).trans hPk) hP hS (lv_sub hl [0, 3, 4] rfl)
                  · have t_3 := i_nle c_3
                    have u_3 := u_nle c_3
                    have hlt_j2 : j2 < (ix (σ 33 0)) := by omega
                    refine lv_aload_n hx hb dX6_begin_86 rfl (lv_at hl 3 rfl) ?_
                    refine g6_9 ha hP 51 (by decide) (cX_51 G _) (v := .ref (G.1 52)) rfl dX6_begin_87 ?_
                    refine lv_iload hx hb dX6_begin_90 (lv_at hl 0 rfl) ?_
                    refine xialdN ha hP 52 (by decide) (cX_52 G _) j2 rfl (by omega) (by decide) dX6_begin_92 ?_
                    refine lv_if_le (tgt := 113) hx hb dX6_begin_93 (by decide) (fun c_4 => ?_) (fun c_4 => ?_)
                    · have t_4 := i_le c_4
                      have u_4 := u_le c_4
                      refine lv_iload_n hx hb dX6_begin_113 rfl (lv_at hl 1 rfl) ?_
                      refine lv_istore_n (lv' := [(3, .int x3), (4, .int (nI j2)), (2, .int (nI i)), (0, .ref (G.1 51)), (1, .ref (G.1 45))]) hx hb dX6_begin_114 rfl hl (by decide) rfl (fun ls hl => ?_)
                      refine lv_iinc (v := (nI (j2 + 1))) (lv' := [(4, .int (nI (j2 + 1))), (3, .int x3), (2, .int (nI i)), (0, .ref (G.1 51)), (1, .ref (G.1 45))]) hx hb dX6_begin_115 hl (k := 1) rfl (nI_1 j2) (by decide) rfl (fun ls hl => ?_)
                      refine lv_goto (tgt := 74) hx hb dX6_begin_118 (by decide) ?_
                      exact ih_74 (j2 + 1) x3 _ _ _ (by omega) (by omega) (by rw [e_x3]; simp [s_hm, hy, u_1, c_2, u_3, u_4, i_leN, -Int32.not_lt]) hP hS (lv_sub hl [0, 1, 2, 3, 4] rfl)
                    · have t_4 := i_nle c_4
                      have u_4 := u_nle c_4
                      refine lv_iload_n hx hb dX6_begin_96 rfl (lv_at hl 1 rfl) ?_
                      refine lv_aload_n hx hb dX6_begin_97 rfl (lv_at hl 3 rfl) ?_
                      refine g6_24 ha hP 51 (by decide) (cX_51 G _) (v := .ref (G.1 33)) rfl dX6_begin_98 ?_
                      refine lv_iload_n hx hb dX6_begin_101 rfl (lv_at hl 2 rfl) ?_
                      refine lv_iload hx hb dX6_begin_102 (lv_at hl 0 rfl) ?_
                      refine xVi ha hP hS (y := yX2_highOn) (As := [.int (nI i), .int (nI j2)]) (rest := [.int x3]) 33 (by decide) (cX_33 G _) rfl rfl (c_X2_highOn G l τj 33 (nI i) (nI j2) (by unfold oPl; omega) hpk) kw_X6_47 hd_X2_highOn rfl ⟨rfl, rfl⟩ ⟨Nat.le_of_ble_eq_true rfl, Nat.le_of_ble_eq_true rfl⟩ ⟨Nat.zero_le _, Nat.zero_le _⟩ hl.1 (Nat.le_of_ble_eq_true rfl) rfl dX6_begin_104 (fun r u H locs hpq hP hS => ?_)
                      obtain ⟨hr_, hu_⟩ := hpq
                      have hr_ := hr_.symm
                      have hu_ := hu_.symm
                      subst hr_
                      subst hu_
                      rw [hPk]
                      refine xmmax ha (tb_in (w := .methodLink RX6 51 Lib.Math.max.name) (by decide +kernel)) hl.1 (by decide) (Nat.le_of_ble_eq_true rfl) ⟨Nat.zero_le _, Nat.zero_le _⟩ dX6_begin_107 ?_
                      refine lv_goto (tgt := 114) hx hb dX6_begin_110 (by decide) ?_
                      refine lv_istore_n (lv' := [(3, .int (imax x3 (a_high (vP σ 33) (nI i) (nI j2)))), (4, .int (nI j2)), (2, .int (nI i)), (0, .ref (G.1 51)), (1, .ref (G.1 45))]) hx hb dX6_begin_114 rfl hl (by decide) rfl (fun ls hl => ?_)
                      refine lv_iinc (v := (nI (j2 + 1))) (lv' := [(4, .int (nI (j2 + 1))), (3, .int (imax x3 (a_high (vP σ 33) (nI i) (nI j2)))), (2, .int (nI i)), (0, .ref (G.1 51)), (1, .ref (G.1 45))]) hx hb dX6_begin_115 hl (k := 1) rfl (nI_1 j2) (by decide) rfl (fun ls hl => ?_)
                      refine lv_goto (tgt := 74) hx hb dX6_begin_118 (by decide) ?_
                      exact ih_74 (j2 + 1) (imax x3 (a_high (vP σ 33) (nI i) (nI j2))) _ _ _ (by omega) (by omega) (by rw [e_x3]; simp [s_hm, hy, u_1, c_2, u_3, u_4, i_leN, -Int32.not_lt]) hP hS (lv_sub hl [0, 1, 2, 3, 4] rfl)
              exact lp_74 ((ix (σ 33 0)) - 0 + 1) 0 0 _ _ _ (by omega) (by omega) rfl hP hS (lv_sub hl [0, 1, 2, 3, 4] rfl)
        exact lp_65 ((ix (σ 33 1)) - 0 + 1) 0 (((mU σj 53 (ix (σj 33 1)) 0) 33 1) - 1) (mU σj 53 (ix (σj 33 1)) 0) _ _ _ (by omega) (by omega) (by show σj 33 1 - 1 = nI (ix (σ 33 1)) - 1; rw [hz, ← hm]) (by rw [e_σj, show ix (mF σ 52 (ix (σ 33 0)) (s_spare (vP σ 33) (vS σ 45)) 33 1) = ix (σ 33 1) from rfl]; exact mD_0 _ _ _ _ rfl) ((fun h => PO_mU h (by decide)) hpj) ((vP_mU _ _ _ (by decide)).trans hPj) hP hS (lv_sub hl [0, 1, 2] rfl)
      · have t_1 := i_nle c_1
        have u_1 := u_nle c_1
        have hlt_j : j < (ix (σ 33 0)) := by omega
        refine lv_aload_n hx hb dX6_begin_13 rfl (lv_at hl 1 rfl) ?_
        refine g6_9 ha hP 51 (by decide) (cX_51 G _) (v := .ref (G.1 52)) rfl dX6_begin_14 ?_
        refine lv_iload_n hx hb dX6_begin_17 rfl (lv_at hl 0 rfl) ?_
        refine lv_aload_n hx hb dX6_begin_18 rfl (lv_at hl 2 rfl) ?_
        refine lv_iload_n hx hb dX6_begin_19 rfl (lv_at hl 0 rfl) ?_
        refine xVi ha hP hS (y := yX4_isUp) (As := [.int (nI j)]) (rest := [.int (nI j), .ref (G.1 52)]) 45 (by decide) (cX_45 G _) rfl rfl (c_X4_isUp G l σj 45 (nI j) (by unfold oSc; omega)) kw_X6_34 hd_X4_isUp rfl ⟨rfl, rfl⟩ ⟨Nat.le_of_ble_eq_true rfl, Nat.le_of_ble_eq_true rfl⟩ ⟨Nat.zero_le _, Nat.zero_le _⟩ hl.1 (Nat.le_of_ble_eq_true rfl) rfl dX6_begin_20 (fun r u H locs hpq hP hS => ?_)
        obtain ⟨hr_, hu_⟩ := hpq
        have hr_ := hr_.symm
        have hu_ := hu_.symm
        subst hr_
        subst hu_
        rw [hPj]
        rw [hSj]
        refine lv_if_eq (tgt := 34) hx hb dX6_begin_23 (by decide) (fun c_5 => ?_) (fun c_5 => ?_)
        · have t_5 := b2i_f c_5
          refine lv_iconst (v := 0) hx hb dX6_begin_34 (by decide) ?_
          refine xiastN ha hP hS (cX_loc G) 52 (by decide) (fun τ => cX_52 G τ) j rfl (by omega) (by decide) dX6_begin_35 (fun H locs hP hS => ?_)
          refine lv_iinc (v := (nI (j + 1))) (lv' := [(2, .int (nI (j + 1))), (0, .ref (G.1 51)), (1, .ref (G.1 45))]) hx hb dX6_begin_36 hl (k := 0) rfl (nI_1 j) (by decide) rfl (fun ls hl => ?_)
          refine lv_goto (tgt := 2) hx hb dX6_begin_39 (by decide) ?_
          exact ih_2 (j + 1) (mU σj 52 j 0) _ _ _ (by omega) (by omega) (by rw [e_σj]; refine mF_s _ _ _ _ ?_; simp [s_spare, u_1, t_5]) (PO_mU hpj (by decide)) ((vP_mU _ _ _ (by decide)).trans hPj) ((vS_mU _ _ _ (by decide)).trans hSj) hP hS (lv_sub hl [0, 1, 2] rfl)
        · have t_5 := b2i_t c_5
          refine lv_aload_n hx hb dX6_begin_26 rfl (lv_at hl 2 rfl) ?_
          refine lv_iload_n hx hb dX6_begin_27 rfl (lv_at hl 0 rfl) ?_
          refine xVi ha hP hS (y := yX4_bearsNow) (As := [.int (nI j)]) (rest := [.int (nI j), .ref (G.1 52)]) 45 (by decide) (cX_45 G _) rfl rfl (c_X4_bearsNow G l σj 45 (nI j) (by unfold oSc; omega) hpj) kw_X6_40 hd_X4_bearsNow rfl ⟨rfl, rfl⟩ ⟨Nat.le_of_ble_eq_true rfl, Nat.le_of_ble_eq_true rfl⟩ ⟨Nat.zero_le _, Nat.zero_le _⟩ hl.1 (Nat.le_of_ble_eq_true rfl) rfl dX6_begin_28 (fun r u H locs hpq hP hS => ?_)
          obtain ⟨hr_, hu_⟩ := hpq
          have hr_ := hr_.symm
          have hu_ := hu_.symm
          subst hr_
          subst hu_
          rw [hPj]
          rw [hSj]
          refine lv_goto (tgt := 35) hx hb dX6_begin_31 (by decide) ?_
          refine xiastN ha hP hS (cX_loc G) 52 (by decide) (fun τ => cX_52 G τ) j rfl (by omega) (by decide) dX6_begin_35 (fun H locs hP hS => ?_)
          refine lv_iinc (v := (nI (j + 1))) (lv' := [(2, .int (nI (j + 1))), (0, .ref (G.1 51)), (1, .ref (G.1 45))]) hx hb dX6_begin_36 hl (k := 0) rfl (nI_1 j) (by decide) rfl (fun ls hl => ?_)
          refine lv_goto (tgt := 2) hx hb dX6_begin_39 (by decide) ?_
          exact ih_2 (j + 1) (mU σj 52 j (a_bearsNow (vP σ 33) (vS σ 45) (nI j))) _ _ _ (by omega) (by omega) (by rw [e_σj]; refine mF_s _ _ _ _ ?_; simp [s_spare, u_1, t_5]) (PO_mU hpj (by decide)) ((vP_mU _ _ _ (by decide)).trans hPj) ((vS_mU _ _ _ (by decide)).trans hSj) hP hS (lv_sub hl [0, 1, 2] rfl)
  exact lp_2 ((ix (σ 33 0)) - 0 + 1) 0 σ _ _ _ (by omega) (by omega) (mF_0 _ _ _) hp rfl rfl hP hS (lv_sub hl [0, 1, 2] rfl)
set_option maxHeartbeats 4000000 in
set_option maxRecDepth 100000 in
theorem c_X6_offer (G : GT) (l : Launch) (σ : Mem) (used : Int32)  : CV G 74 (cX G) l yX6_offer ({ frames := 1, cells := 0, slots := 0, locals := 20 } : Room) cX6_offer 3 none [.ref (G.1 51), .int used] σ (fun u => u = m_offer σ used) := by
  intro sz
  refine xbegin (by decide) (Nat.le_of_ble_eq_true rfl) ?_
  intro p e s m below meth c ls hsz ha hP hl
  subst hsz
  have hx := ha.1
  have hb := ha.2.1
  have hS : va_S (xA G 74 s.heap.size) s.heap s.heap [] := va_S.rf
  have hl : lv_has ls 3 [(0, .ref (G.1 51)), (1, .int used)] := hl
  have k_m9 : (-9 : Int32).toInt = -9 := by decide
  have k_0 : (0 : Int32).toInt = 0 := by decide
  refine lv_iload_n hx hb dX6_offer_0 rfl (lv_at hl 1 rfl) ?_
  refine xJi ha hP hS (y := yJ6_bitCount_0f7a4) (As := [.int used]) (rest := []) (c_J6_bitCount_0f7a4 G l σ used ) kw_X6_75 hd_J6_bitCount_0f7a4 rfl ⟨rfl, rfl⟩ ⟨Nat.le_of_ble_eq_true rfl, Nat.le_of_ble_eq_true rfl⟩ ⟨Nat.zero_le _, Nat.zero_le _⟩ hl.1 (Nat.le_of_ble_eq_true rfl) rfl dX6_offer_1 (fun r u H locs hpq hP hS => ?_)
  obtain ⟨hr_, hu_⟩ := hpq
  have hr_ := hr_.symm
  have hu_ := hu_.symm
  subst hr_
  subst hu_
  refine lv_aload_n hx hb dX6_offer_4 rfl (lv_at hl 0 rfl) ?_
  refine g6_59 ha hP 51 (by decide) (cX_51 G _) (v := .int (σ 51 1)) rfl dX6_offer_5 ?_
  refine xJi ha hP hS (y := yJ6_bitCount_0f7a4) (As := [.int (σ 51 1)]) (rest := [.int (a_pop used)]) (c_J6_bitCount_0f7a4 G l σ (σ 51 1) ) kw_X6_75 hd_J6_bitCount_0f7a4 rfl ⟨rfl, rfl⟩ ⟨Nat.le_of_ble_eq_true rfl, Nat.le_of_ble_eq_true rfl⟩ ⟨Nat.zero_le _, Nat.zero_le _⟩ hl.1 (Nat.le_of_ble_eq_true rfl) rfl dX6_offer_8 (fun r u H locs hpq hP hS => ?_)
  obtain ⟨hr_, hu_⟩ := hpq
  have hr_ := hr_.symm
  have hu_ := hu_.symm
  subst hr_
  subst hu_
  refine lv_isub hx hb dX6_offer_11 ?_
  refine lv_istore_n (lv' := [(2, .int ((a_pop used) - (a_pop (σ 51 1)))), (0, .ref (G.1 51)), (1, .int used)]) hx hb dX6_offer_12 rfl hl (by decide) rfl (fun ls hl => ?_)
  refine lv_aload_n hx hb dX6_offer_13 rfl (lv_at hl 1 rfl) ?_
  refine g6_59 ha hP 51 (by decide) (cX_51 G _) (v := .int (σ 51 1)) rfl dX6_offer_14 ?_
  refine lv_bipush (v := (-9)) hx hb dX6_offer_17 (by decide) ?_
  refine lv_icmp_eq (tgt := 38) hx hb dX6_offer_19 (by decide) (fun c_1 => ?_) (fun c_1 => ?_)
  · have t_1 := i_eq c_1
    refine lv_aload_n hx hb dX6_offer_38 rfl (lv_at hl 1 rfl) ?_
    refine lv_iload_n hx hb dX6_offer_39 rfl (lv_at hl 2 rfl) ?_
    refine p6_59 ha hP hS (cX_loc G) 51 (by decide) (cX_51 G _) (x := used) (Nat.le_of_ble_eq_true rfl) (mU σ 51 1 used) (fun q hq => mU_n _ _ _ hq) (cX_p51_1 G _ _) dX6_offer_40 (fun H locs hP hS => ?_)
    exact xvret ha hP hS dX6_offer_43 (by simp [m_offer, i_leN, c_1, -Int32.not_lt] <;> first | rfl | simp_all)
  · have t_1 := i_ne c_1
    refine lv_iload_n hx hb dX6_offer_22 rfl (lv_at hl 0 rfl) ?_
    refine lv_if_lt (tgt := 38) hx hb dX6_offer_23 (by decide) (fun c_2 => ?_) (fun c_2 => ?_)
    · have t_2 := i_lt c_2
      refine lv_aload_n hx hb dX6_offer_38 rfl (lv_at hl 1 rfl) ?_
      refine lv_iload_n hx hb dX6_offer_39 rfl (lv_at hl 2 rfl) ?_
      refine p6_59 ha hP hS (cX_loc G) 51 (by decide) (cX_51 G _) (x := used) (Nat.le_of_ble_eq_true rfl) (mU σ 51 1 used) (fun q hq => mU_n _ _ _ hq) (cX_p51_1 G _ _) dX6_offer_40 (fun H locs hP hS => ?_)
      exact xvret ha hP hS dX6_offer_43 (by simp [m_offer, i_leN, c_1, c_2, -Int32.not_lt] <;> first | rfl | simp_all)
    · have t_2 := i_nlt c_2
      refine lv_iload_n hx hb dX6_offer_26 rfl (lv_at hl 0 rfl) ?_
      refine lv_if_ne (tgt := 43) hx hb dX6_offer_27 (by decide) (fun c_3 => ?_) (fun c_3 => ?_)
      · have t_3 := i_ne c_3
        exact xvret ha hP hS dX6_offer_43 (by simp [m_offer, i_leN, c_1, c_2, c_3, -Int32.not_lt] <;> first | rfl | simp_all)
      · have t_3 := i_eq c_3
        refine lv_iload_n hx hb dX6_offer_30 rfl (lv_at hl 2 rfl) ?_
        refine lv_aload_n hx hb dX6_offer_31 rfl (lv_at hl 1 rfl) ?_
        refine g6_59 ha hP 51 (by decide) (cX_51 G _) (v := .int (σ 51 1)) rfl dX6_offer_32 ?_
        refine lv_icmp_ge (tgt := 43) hx hb dX6_offer_35 (by decide) (fun c_4 => ?_) (fun c_4 => ?_)
        · have t_4 := i_le c_4
          have u_4 := u_le c_4
          exact xvret ha hP hS dX6_offer_43 (by simp [m_offer, i_leN, c_1, c_2, c_3, u_4, -Int32.not_lt] <;> first | rfl | simp_all)
        · have t_4 := i_nle c_4
          have u_4 := u_nle c_4
          refine lv_aload_n hx hb dX6_offer_38 rfl (lv_at hl 1 rfl) ?_
          refine lv_iload_n hx hb dX6_offer_39 rfl (lv_at hl 2 rfl) ?_
          refine p6_59 ha hP hS (cX_loc G) 51 (by decide) (cX_51 G _) (x := used) (Nat.le_of_ble_eq_true rfl) (mU σ 51 1 used) (fun q hq => mU_n _ _ _ hq) (cX_p51_1 G _ _) dX6_offer_40 (fun H locs hP hS => ?_)
          exact xvret ha hP hS dX6_offer_43 (by simp [m_offer, i_leN, c_1, c_2, c_3, u_4, -Int32.not_lt] <;> first | rfl | simp_all)
set_option maxHeartbeats 4000000 in
set_option maxRecDepth 100000 in
theorem c_X6_seatHighest_0 (G : GT) (l : Launch) (σ : Mem) (P : PT) (i : Nat) (high : Int32) (hp : PO 33 σ) (hPP : vP σ 33 = P) (hd : nPe P = i) : CV G 74 (cX G) l yX6_seatHighest ({ frames := 0 + 2, cells := 0, slots := 0, locals := 24 * (0) + 44 } : Room) cX6_seatHighest 5 none [.ref (G.1 51), .int (nI i), .int high] σ (fun u => u = s_high P 0 σ i high) := by
  intro sz
  refine xbegin (by decide) (Nat.le_of_ble_eq_true rfl) ?_
  intro p e s m below meth c ls hsz ha hP hl
  subst hsz
  have hx := ha.1
  have hb := ha.2.1
  have hS : va_S (xA G 74 s.heap.size) s.heap s.heap [] := va_S.rf
  have hl : lv_has ls 5 [(0, .ref (G.1 51)), (1, .int (nI i)), (2, .int high)] := hl
  have k_m9 : (-9 : Int32).toInt = -9 := by decide
  have k_0 : (0 : Int32).toInt = 0 := by decide
  have k_1 : (1 : Int32).toInt = 1 := by decide
  have k_5 : (5 : Int32).toInt = 5 := by decide
  have hnn := nPe_of hPP
  have hmm := nPl_of hPP
  obtain ⟨hn, hn4, hnt⟩ := PO_pe hp
  have hi31 : (nI i).toInt = (i : Int) := nI_toInt (by omega)
  refine lv_iload_n hx hb dX6_seatHighest_0 rfl (lv_at hl 1 rfl) ?_
  refine lv_aload_n hx hb dX6_seatHighest_1 rfl (lv_at hl 0 rfl) ?_
  refine g6_24 ha hP 51 (by decide) (cX_51 G _) (v := .ref (G.1 33)) rfl dX6_seatHighest_2 ?_
  refine g6_44 ha hP 33 (by decide) (cX_33 G _) (v := .int (σ 33 1)) rfl dX6_seatHighest_5 ?_
  refine lv_icmp_ge (tgt := 16) hx hb dX6_seatHighest_8 (by decide) (fun c_1 => ?_) (fun c_1 => ?_)
  · have t_1 := i_le c_1
    have u_1 := u_le c_1
    refine lv_iload_n hx hb dX6_seatHighest_16 rfl (lv_at hl 2 rfl) ?_
    refine lv_aload_n hx hb dX6_seatHighest_17 rfl (lv_at hl 0 rfl) ?_
    refine g6_56 ha hP 51 (by decide) (cX_51 G _) (v := .int (σ 51 0)) rfl dX6_seatHighest_18 ?_
    refine lv_icmp_le (tgt := 43) hx hb dX6_seatHighest_21 (by decide) (fun c_2 => ?_) (fun c_2 => ?_)
    · have t_2 := i_le c_2
      have u_2 := u_le c_2
      exact xvret ha hP hS dX6_seatHighest_43 (by simp [s_high, s_leaf, u_1, u_2] <;> rfl)
    · have t_2 := i_nle c_2
      have u_2 := u_nle c_2
      refine lv_aload_n hx hb dX6_seatHighest_24 rfl (lv_at hl 0 rfl) ?_
      refine lv_iload_n hx hb dX6_seatHighest_25 rfl (lv_at hl 2 rfl) ?_
      refine p6_56 ha hP hS (cX_loc G) 51 (by decide) (cX_51 G _) (x := high) (Nat.le_of_ble_eq_true rfl) (mU σ 51 0 high) (fun q hq => mU_n _ _ _ hq) (cX_p51_0 G _ _) dX6_seatHighest_26 (fun H locs hP hS => ?_)
      refine lv_aload_n hx hb dX6_seatHighest_29 rfl (lv_at hl 0 rfl) ?_
      refine g6_18 ha hP 51 (by decide) (cX_51 G _) (v := .ref (G.1 54)) rfl dX6_seatHighest_30 ?_
      refine lv_iconst (v := 0) hx hb dX6_seatHighest_33 (by decide) ?_
      refine lv_aload_n hx hb dX6_seatHighest_34 rfl (lv_at hl 0 rfl) ?_
      refine g6_21 ha hP 51 (by decide) (cX_51 G _) (v := .ref (G.1 55)) rfl dX6_seatHighest_35 ?_
      refine lv_iconst (v := 0) hx hb dX6_seatHighest_38 (by decide) ?_
      refine lv_iconst (v := 5) hx hb dX6_seatHighest_39 (by decide) ?_
      refine xcopy0 ha hP hS (cX_loc G) (tb_in (w := .methodLink RX6 62 arraycopyName) (by decide +kernel)) 54 55 (by decide) (by decide) (n0 := 5) (n1 := 5) (fun τ => cX_54 G τ) (fun τ => cX_55 G τ) (k := 5) (by decide) (by decide) (by decide) rfl (by decide) (Nat.le_of_ble_eq_true rfl) hl.1 dX6_seatHighest_40 (fun H locs hP hS => ?_)
      exact xvret ha hP hS dX6_seatHighest_43 (by simp [s_high, s_leaf, u_1, u_2] <;> rfl)
  · have t_1 := i_nle c_1
    have u_1 := u_nle c_1
    exfalso; omega
set_option maxHeartbeats 4000000 in
set_option maxRecDepth 100000 in
theorem c_X6_seatHighest_s (G : GT) (l : Launch) (σ : Mem) (w : Nat) (P : PT) (i : Nat) (high : Int32) (hp : PO 33 σ) (hPP : vP σ 33 = P) (hd : nPe P = i + (w + 1)) (ih : ∀ (τ : Mem) (high1 : Int32), PO 33 τ → vP τ 33 = P → CV G 74 (cX G) l yX6_seatHighest ({ frames := w + 2, cells := 0, slots := 0, locals := 24 * (w) + 44 } : Room) cX6_seatHighest 5 none [.ref (G.1 51), .int (nI (i + 1)), .int high1] τ (fun u => u = s_high P w τ (i + 1) high1)) : CV G 74 (cX G) l yX6_seatHighest ({ frames := (w + 1) + 2, cells := 0, slots := 0, locals := 24 * ((w + 1)) + 44 } : Room) cX6_seatHighest 5 none [.ref (G.1 51), .int (nI i), .int high] σ (fun u => u = s_high P (w + 1) σ i high) := by
  intro sz
  refine xbegin (by decide) (Nat.le_of_ble_eq_true rfl) ?_
  intro p e s m below meth c ls hsz ha hP hl
  subst hsz
  have hx := ha.1
  have hb := ha.2.1
  have hS : va_S (xA G 74 s.heap.size) s.heap s.heap [] := va_S.rf
  have hl : lv_has ls 5 [(0, .ref (G.1 51)), (1, .int (nI i)), (2, .int high)] := hl
  have k_m9 : (-9 : Int32).toInt = -9 := by decide
  have k_0 : (0 : Int32).toInt = 0 := by decide
  have k_1 : (1 : Int32).toInt = 1 := by decide
  have k_5 : (5 : Int32).toInt = 5 := by decide
  have hnn := nPe_of hPP
  have hmm := nPl_of hPP
  obtain ⟨hn, hn4, hnt⟩ := PO_pe hp
  have hi31 : (nI i).toInt = (i : Int) := nI_toInt (by omega)
  obtain ⟨hk, hk4, hkt⟩ := PO_pl hp
  refine lv_iload_n hx hb dX6_seatHighest_0 rfl (lv_at hl 1 rfl) ?_
  refine lv_aload_n hx hb dX6_seatHighest_1 rfl (lv_at hl 0 rfl) ?_
  refine g6_24 ha hP 51 (by decide) (cX_51 G _) (v := .ref (G.1 33)) rfl dX6_seatHighest_2 ?_
  refine g6_44 ha hP 33 (by decide) (cX_33 G _) (v := .int (σ 33 1)) rfl dX6_seatHighest_5 ?_
  refine lv_icmp_ge (tgt := 16) hx hb dX6_seatHighest_8 (by decide) (fun c_1 => ?_) (fun c_1 => ?_)
  · have t_1 := i_le c_1
    have u_1 := u_le c_1
    exfalso; omega
  · have t_1 := i_nle c_1
    have u_1 := u_nle c_1
    refine lv_iload_n hx hb dX6_seatHighest_11 rfl (lv_at hl 1 rfl) ?_
    refine lv_iconst (v := 5) hx hb dX6_seatHighest_12 (by decide) ?_
    refine lv_icmp_lt (tgt := 44) hx hb dX6_seatHighest_13 (by decide) (fun c_2 => ?_) (fun c_2 => ?_)
    · have t_2 := i_lt c_2
      refine lv_iload_n hx hb dX6_seatHighest_44 rfl (lv_at hl 2 rfl) ?_
      refine lv_aload_n hx hb dX6_seatHighest_45 rfl (lv_at hl 0 rfl) ?_
      refine g6_15 ha hP 51 (by decide) (cX_51 G _) (v := .ref (G.1 53)) rfl dX6_seatHighest_46 ?_
      refine lv_iload_n hx hb dX6_seatHighest_49 rfl (lv_at hl 1 rfl) ?_
      refine xialdN ha hP 53 (by decide) (cX_53 G _) i rfl (by omega) (by decide) dX6_seatHighest_50 ?_
      refine lv_iadd hx hb dX6_seatHighest_51 ?_
      refine lv_aload_n hx hb dX6_seatHighest_52 rfl (lv_at hl 0 rfl) ?_
      refine g6_56 ha hP 51 (by decide) (cX_51 G _) (v := .int (σ 51 0)) rfl dX6_seatHighest_53 ?_
      refine lv_icmp_gt (tgt := 60) hx hb dX6_seatHighest_56 (by decide) (fun c_3 => ?_) (fun c_3 => ?_)
      · have t_3 := i_lt c_3
        refine lv_aload_n hx hb dX6_seatHighest_60 rfl (lv_at hl 0 rfl) ?_
        refine g6_18 ha hP 51 (by decide) (cX_51 G _) (v := .ref (G.1 54)) rfl dX6_seatHighest_61 ?_
        refine lv_iload_n hx hb dX6_seatHighest_64 rfl (lv_at hl 1 rfl) ?_
        refine lv_bipush (v := (-9)) hx hb dX6_seatHighest_65 (by decide) ?_
        refine xiastN ha hP hS (cX_loc G) 54 (by decide) (fun τ => cX_54 G τ) i rfl (by omega) (by decide) dX6_seatHighest_67 (fun H locs hP hS => ?_)
        refine lv_aload_n hx hb dX6_seatHighest_68 rfl (lv_at hl 0 rfl) ?_
        refine lv_iload_n hx hb dX6_seatHighest_69 rfl (lv_at hl 1 rfl) ?_
        refine lv_iconst (v := 1) hx hb dX6_seatHighest_70 (by decide) ?_
        refine lv_iaddE (z := (nI (i + 1))) hx hb dX6_seatHighest_71 (nI_1 i) ?_
        refine lv_iload_n hx hb dX6_seatHighest_72 rfl (lv_at hl 2 rfl) ?_
        refine xSv ha hP hS (y := yX6_seatHighest) (As := [.ref (G.1 51), .int (nI (i + 1)), .int high]) (rest := []) rfl (ih (mU σ 54 i (-9)) high (PO_mU hp (by decide)) ((vP_mU _ _ _ (by decide)).trans hPP)) kw_X6_68 hd_X6_seatHighest rfl ⟨rfl, rfl⟩ ⟨by dsimp only; omega, by dsimp only; omega⟩ ⟨Nat.zero_le _, Nat.zero_le _⟩ hl.1 (Nat.le_of_ble_eq_true rfl) rfl dX6_seatHighest_73 (fun u H locs hpq hP hS => ?_)
        have hpq := hpq.symm
        subst hpq
        refine lv_iconst (v := 0) hx hb dX6_seatHighest_76 (by decide) ?_
        refine lv_istore_n (lv' := [(3, .int 0), (0, .ref (G.1 51)), (1, .int (nI i)), (2, .int high)]) hx hb dX6_seatHighest_77 rfl hl (by decide) rfl (fun ls hl => ?_)
        have lp_78 : ∀ (d j : Nat) (τj : Mem) (H : Heap) (locs : List Loc) (ls : Array Slot), j ≤ (ix (σ 33 0)) → (ix (σ 33 0)) - j < d → τj = forM (s_hiK P w i high) j (s_high P w (mU σ 54 i (-9)) (i + 1) high) → (PO 33 τj) → (vP τj 33 = P) → va_P G.2.1 vwCl (wl G 74 (cX G τj)) H → va_S (xA G 74 s.heap.size) s.heap H locs → lv_has ls 5 [(3, .int (nI j)), (0, .ref (G.1 51)), (1, .int (nI i)), (2, .int high)] → W p l e ({ frames := (w + 1) + 2, cells := 0, slots := 0, locals := 24 * ((w + 1)) + 44 } : Room) s m ([.ref (G.1 51), .int (nI i), .int high] : List Value).toArray below meth c H locs 0 0 (MQ below (va_Qv (fun u => u = s_high P (w + 1) σ i high) (xB G 74 (cX G)) (xA G 74 s.heap.size)) ([.ref (G.1 51), .int (nI i), .int high] : List Value).toArray s 0 0 (xA G 74 s.heap.size)) (F0 m 78 ls []) := by
          intro d
          induction d with
          | zero => intro j τj H locs ls hj hd; exact absurd hd (Nat.not_lt_zero _)
          | succ d ih_78 =>
            intro j τj H locs ls hj_j hd_j e_τj hpj hPj hP hS hl
            have h31_j : (nI j).toInt = (j : Int) := nI_toInt (by omega)
            have hz := nPl_of hPj
            have hz2 := PO_pl hpj
            have hz3 : (τj 33 0).toInt = (ix (σ 33 0) : Int) := by rw [hz2.2.2, ← hz, hmm]
            refine lv_iload_n hx hb dX6_seatHighest_78 rfl (lv_at hl 0 rfl) ?_
            refine lv_aload_n hx hb dX6_seatHighest_79 rfl (lv_at hl 1 rfl) ?_
            refine g6_24 ha hP 51 (by decide) (cX_51 G _) (v := .ref (G.1 33)) rfl dX6_seatHighest_80 ?_
            refine g6_28 ha hP 33 (by decide) (cX_33 G _) (v := .int (τj 33 0)) rfl dX6_seatHighest_83 ?_
            refine lv_icmp_ge (tgt := 164) hx hb dX6_seatHighest_86 (by decide) (fun c_4 => ?_) (fun c_4 => ?_)
            · have t_4 := i_le c_4
              have u_4 := u_le c_4
              obtain rfl : j = (ix (σ 33 0)) := by omega
              exact xvret ha hP hS dX6_seatHighest_164 (by first | (rw [s_high_s]; simp [u_1, c_2, c_3, u_4, i_leN, -Int32.not_lt]; done) | (rw [s_high_s, if_pos (by assumption), e_τj, hmm]))
            · have t_4 := i_nle c_4
              have u_4 := u_nle c_4
              have hlt_j : j < (ix (σ 33 0)) := by omega
              refine lv_aload_n hx hb dX6_seatHighest_89 rfl (lv_at hl 1 rfl) ?_
              refine g6_24 ha hP 51 (by decide) (cX_51 G _) (v := .ref (G.1 33)) rfl dX6_seatHighest_90 ?_
              refine lv_iload_n hx hb dX6_seatHighest_93 rfl (lv_at hl 2 rfl) ?_
              refine lv_iload_n hx hb dX6_seatHighest_94 rfl (lv_at hl 0 rfl) ?_
              refine xVi ha hP hS (y := yX2_loadBy) (As := [.int (nI i), .int (nI j)]) (rest := []) 33 (by decide) (cX_33 G _) rfl rfl (c_X2_loadBy G l τj 33 (nI i) (nI j) (by unfold oPl; omega) hpj) kw_X6_72 hd_X2_loadBy rfl ⟨rfl, rfl⟩ ⟨by dsimp only; omega, by dsimp only; omega⟩ ⟨Nat.zero_le _, Nat.zero_le _⟩ hl.1 (Nat.le_of_ble_eq_true rfl) rfl dX6_seatHighest_95 (fun r u H locs hpq hP hS => ?_)
              obtain ⟨hr_, hu_⟩ := hpq
              have hr_ := hr_.symm
              have hu_ := hu_.symm
              subst hr_
              subst hu_
              rw [hPj]
              refine lv_istore (lv' := [(4, .int (a_loadBy P (nI i) (nI j))), (3, .int (nI j)), (0, .ref (G.1 51)), (1, .int (nI i)), (2, .int high)]) hx hb dX6_seatHighest_98 hl (by decide) rfl (fun ls hl => ?_)
              refine lv_iload hx hb dX6_seatHighest_100 (lv_at hl 0 rfl) ?_
              refine lv_aload_n hx hb dX6_seatHighest_102 rfl (lv_at hl 2 rfl) ?_
              refine g6_9 ha hP 51 (by decide) (cX_51 G _) (v := .ref (G.1 52)) rfl dX6_seatHighest_103 ?_
              refine lv_iload_n hx hb dX6_seatHighest_106 rfl (lv_at hl 1 rfl) ?_
              refine xialdN ha hP 52 (by decide) (cX_52 G _) j rfl (by omega) (by decide) dX6_seatHighest_107 ?_
              refine lv_icmp_gt (tgt := 158) hx hb dX6_seatHighest_108 (by decide) (fun c_5 => ?_) (fun c_5 => ?_)
              · have t_5 := i_lt c_5
                refine lv_iinc (v := (nI (j + 1))) (lv' := [(3, .int (nI (j + 1))), (4, .int (a_loadBy P (nI i) (nI j))), (0, .ref (G.1 51)), (1, .int (nI i)), (2, .int high)]) hx hb dX6_seatHighest_158 hl (k := 1) rfl (nI_1 j) (by decide) rfl (fun ls hl => ?_)
                refine lv_goto (tgt := 78) hx hb dX6_seatHighest_161 (by decide) ?_
                exact ih_78 (j + 1) τj _ _ _ (by omega) (by omega) (by rw [show forM (s_hiK P w i high) (j + 1) (s_high P w (mU σ 54 i (-9)) (i + 1) high) = (s_hiK P w i high) j (forM (s_hiK P w i high) j (s_high P w (mU σ 54 i (-9)) (i + 1) high)) from rfl, ← e_τj]; simp [s_hiK, u_1, c_2, c_3, u_4, c_5, i_leN, mU_e, -Int32.not_lt]) hpj hPj hP hS (lv_sub hl [0, 2, 3, 4] rfl)
              · have t_5 := i_nlt c_5
                refine lv_aload_n hx hb dX6_seatHighest_111 rfl (lv_at hl 2 rfl) ?_
                refine g6_18 ha hP 51 (by decide) (cX_51 G _) (v := .ref (G.1 54)) rfl dX6_seatHighest_112 ?_
                refine lv_iload_n hx hb dX6_seatHighest_115 rfl (lv_at hl 3 rfl) ?_
                refine lv_iload_n hx hb dX6_seatHighest_116 rfl (lv_at hl 1 rfl) ?_
                refine xiastN ha hP hS (cX_loc G) 54 (by decide) (fun τ => cX_54 G τ) i rfl (by omega) (by decide) dX6_seatHighest_117 (fun H locs hP hS => ?_)
                refine lv_aload_n hx hb dX6_seatHighest_118 rfl (lv_at hl 2 rfl) ?_
                refine g6_9 ha hP 51 (by decide) (cX_51 G _) (v := .ref (G.1 52)) rfl dX6_seatHighest_119 ?_
                refine lv_iload_n hx hb dX6_seatHighest_122 rfl (lv_at hl 1 rfl) ?_
                refine lv_dup2_11 hx hb dX6_seatHighest_123 rfl rfl ?_
                refine xialdN ha hP 52 (by decide) (cX_52 G _) j rfl (by omega) (by decide) dX6_seatHighest_124 ?_
                refine lv_iload hx hb dX6_seatHighest_125 (lv_at hl 0 rfl) ?_
                refine lv_isub hx hb dX6_seatHighest_127 ?_
                refine xiastN ha hP hS (cX_loc G) 52 (by decide) (fun τ => cX_52 G τ) j rfl (by omega) (by decide) dX6_seatHighest_128 (fun H locs hP hS => ?_)
                refine lv_aload_n hx hb dX6_seatHighest_129 rfl (lv_at hl 2 rfl) ?_
                refine lv_iload_n hx hb dX6_seatHighest_130 rfl (lv_at hl 3 rfl) ?_
                refine lv_iconst (v := 1) hx hb dX6_seatHighest_131 (by decide) ?_
                refine lv_iaddE (z := (nI (i + 1))) hx hb dX6_seatHighest_132 (nI_1 i) ?_
                refine lv_iload_n hx hb dX6_seatHighest_133 rfl (lv_at hl 4 rfl) ?_
                refine lv_aload_n hx hb dX6_seatHighest_134 rfl (lv_at hl 2 rfl) ?_
                refine g6_24 ha hP 51 (by decide) (cX_51 G _) (v := .ref (G.1 33)) rfl dX6_seatHighest_135 ?_
                refine lv_iload_n hx hb dX6_seatHighest_138 rfl (lv_at hl 3 rfl) ?_
                refine lv_iload_n hx hb dX6_seatHighest_139 rfl (lv_at hl 1 rfl) ?_
                refine xVi ha hP hS (y := yX2_highOn) (As := [.int (nI i), .int (nI j)]) (rest := [.int high, .int (nI (i + 1)), .ref (G.1 51)]) 33 (by decide) (cX_33 G _) rfl rfl (c_X2_highOn G l (mU (mU τj 54 i (nI j)) 52 j (((mU τj 54 i (nI j)) 52 j) - (a_loadBy P (nI i) (nI j)))) 33 (nI i) (nI j) (by unfold oPl; omega) (PO_mU (PO_mU hpj (by decide)) (by decide))) kw_X6_47 hd_X2_highOn rfl ⟨rfl, rfl⟩ ⟨by dsimp only; omega, by dsimp only; omega⟩ ⟨Nat.zero_le _, Nat.zero_le _⟩ hl.1 (Nat.le_of_ble_eq_true rfl) rfl dX6_seatHighest_140 (fun r u H locs hpq hP hS => ?_)
                obtain ⟨hr_, hu_⟩ := hpq
                have hr_ := hr_.symm
                have hu_ := hu_.symm
                subst hr_
                subst hu_
                rw [((vP_mU _ _ _ (by decide)).trans ((vP_mU _ _ _ (by decide)).trans hPj))]
                refine lv_iadd hx hb dX6_seatHighest_143 ?_
                refine xSv ha hP hS (y := yX6_seatHighest) (As := [.ref (G.1 51), .int (nI (i + 1)), .int (high + (a_high P (nI i) (nI j)))]) (rest := []) rfl (ih (mU (mU τj 54 i (nI j)) 52 j (((mU τj 54 i (nI j)) 52 j) - (a_loadBy P (nI i) (nI j)))) (high + (a_high P (nI i) (nI j))) (PO_mU (PO_mU hpj (by decide)) (by decide)) ((vP_mU _ _ _ (by decide)).trans ((vP_mU _ _ _ (by decide)).trans hPj))) kw_X6_68 hd_X6_seatHighest rfl ⟨rfl, rfl⟩ ⟨by dsimp only; omega, by dsimp only; omega⟩ ⟨Nat.zero_le _, Nat.zero_le _⟩ hl.1 (Nat.le_of_ble_eq_true rfl) rfl dX6_seatHighest_144 (fun u H locs hpq hP hS => ?_)
                have hpq := hpq.symm
                subst hpq
                refine lv_aload_n hx hb dX6_seatHighest_147 rfl (lv_at hl 2 rfl) ?_
                refine g6_9 ha hP 51 (by decide) (cX_51 G _) (v := .ref (G.1 52)) rfl dX6_seatHighest_148 ?_
                refine lv_iload_n hx hb dX6_seatHighest_151 rfl (lv_at hl 1 rfl) ?_
                refine lv_dup2_11 hx hb dX6_seatHighest_152 rfl rfl ?_
                refine xialdN ha hP 52 (by decide) (cX_52 G _) j rfl (by omega) (by decide) dX6_seatHighest_153 ?_
                refine lv_iload hx hb dX6_seatHighest_154 (lv_at hl 0 rfl) ?_
                refine lv_iadd hx hb dX6_seatHighest_156 ?_
                refine xiastN ha hP hS (cX_loc G) 52 (by decide) (fun τ => cX_52 G τ) j rfl (by omega) (by decide) dX6_seatHighest_157 (fun H locs hP hS => ?_)
                refine lv_iinc (v := (nI (j + 1))) (lv' := [(3, .int (nI (j + 1))), (4, .int (a_loadBy P (nI i) (nI j))), (0, .ref (G.1 51)), (1, .int (nI i)), (2, .int high)]) hx hb dX6_seatHighest_158 hl (k := 1) rfl (nI_1 j) (by decide) rfl (fun ls hl => ?_)
                refine lv_goto (tgt := 78) hx hb dX6_seatHighest_161 (by decide) ?_
                exact ih_78 (j + 1) (mU (s_high P w (mU (mU τj 54 i (nI j)) 52 j (((mU τj 54 i (nI j)) 52 j) - (a_loadBy P (nI i) (nI j)))) (i + 1) (high + (a_high P (nI i) (nI j)))) 52 j (((s_high P w (mU (mU τj 54 i (nI j)) 52 j (((mU τj 54 i (nI j)) 52 j) - (a_loadBy P (nI i) (nI j)))) (i + 1) (high + (a_high P (nI i) (nI j)))) 52 j) + (a_loadBy P (nI i) (nI j)))) _ _ _ (by omega) (by omega) (by rw [show forM (s_hiK P w i high) (j + 1) (s_high P w (mU σ 54 i (-9)) (i + 1) high) = (s_hiK P w i high) j (forM (s_hiK P w i high) j (s_high P w (mU σ 54 i (-9)) (i + 1) high)) from rfl, ← e_τj]; simp [s_hiK, u_1, c_2, c_3, u_4, c_5, i_leN, mU_e, -Int32.not_lt]) (PO_mU (PO_s_high _ _ _ (PO_mU (PO_mU hpj (by decide)) (by decide))) (by decide)) ((vP_mU _ _ _ (by decide)).trans (s_high_P _ _ _ ((vP_mU _ _ _ (by decide)).trans ((vP_mU _ _ _ (by decide)).trans hPj)))) hP hS (lv_sub hl [0, 2, 3, 4] rfl)
        exact lp_78 ((ix (σ 33 0)) - 0 + 1) 0 (s_high P w (mU σ 54 i (-9)) (i + 1) high) _ _ _ (by omega) (by omega) rfl (PO_s_high _ _ _ (PO_mU hp (by decide))) (s_high_P _ _ _ ((vP_mU _ _ _ (by decide)).trans hPP)) hP hS (lv_sub hl [0, 1, 2, 3] rfl)
      · have t_3 := i_nlt c_3
        exact xvret ha hP hS dX6_seatHighest_59 (by first | (rw [s_high_s]; simp [u_1, c_2, c_3, i_leN, -Int32.not_lt]; done) | (rw [s_high_s, if_pos (by assumption), e_τj, hmm]))
    · have t_2 := i_nlt c_2
      exfalso; omega
theorem c_X6_seatHighest (G : GT) (l : Launch) (P : PT) : ∀ (d : Nat) (σ : Mem) (i : Nat) (high : Int32), PO 33 σ → vP σ 33 = P → nPe P = i + d → CV G 74 (cX G) l yX6_seatHighest ({ frames := d + 2, cells := 0, slots := 0, locals := 24 * (d) + 44 } : Room) cX6_seatHighest 5 none [.ref (G.1 51), .int (nI i), .int high] σ (fun u => u = s_high P d σ i high)
  | 0, σ, i, high, hp, hP, hd => c_X6_seatHighest_0 G l σ P i high hp hP hd
  | d + 1, σ, i, high, hp, hP, hd => c_X6_seatHighest_s G l σ d P i high hp hP hd (fun τ h hp1 hP1 => c_X6_seatHighest G l P d τ (i + 1) h hp1 hP1 (by omega))
