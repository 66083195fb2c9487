theorem hd_X6_offer : kHd yX6_offer 1 := by decide +kernel
theorem hd_X6_seatAll : kHd yX6_seatAll 3 := by decide +kernel
theorem kw_X6_80 : ∀ w ∈ k5V RX6 80 yX6_offer cX6_offer 3 none, w ∈ TB := tb_ins (by decide +kernel)
theorem kw_X6_84 : ∀ w ∈ k5S RX6 84 yX6_seatAll cX6_seatAll 5 none, w ∈ TB := tb_ins (by decide +kernel)
set_option maxHeartbeats 4000000 in
set_option maxRecDepth 100000 in
theorem c_X6_seatAll_0 (G : GT) (l : Launch) (σ : Mem) (P : PT) (i : Nat) (used : Int32) (hp : PO 33 σ) (hPP : vP σ 33 = P) (hd : nPe P = i) : CV G 74 (cX G) l yX6_seatAll ({ frames := 0 + 2, cells := 0, slots := 0, locals := 24 * (0) + 44 } : Room) cX6_seatAll 5 none [.ref (G.1 51), .int (nI i), .int used] σ (fun u => u = s_all P 0 σ i used) := by
  intro sz
  refine xbegin (by decide) (Nat.le_of_ble_eq_true rfl) ?_
  intro p e s m below meth c ls hsz ha hP hl
  subst hsz
  have hx := ha.1
  have hb := ha.2.1
  have hS : va_S (xA G 74 s.heap.size) s.heap s.heap [] := va_S.rf
  have hl : lv_has ls 5 [(0, .ref (G.1 51)), (1, .int (nI i)), (2, .int used)] := hl
  have k_m9 : (-9 : Int32).toInt = -9 := by decide
  have k_0 : (0 : Int32).toInt = 0 := by decide
  have k_1 : (1 : Int32).toInt = 1 := by decide
  have k_5 : (5 : Int32).toInt = 5 := by decide
  have hnn := nPe_of hPP
  have hmm := nPl_of hPP
  obtain ⟨hn, hn4, hnt⟩ := PO_pe hp
  have hi31 : (nI i).toInt = (i : Int) := nI_toInt (by omega)
  refine lv_aload_n hx hb dX6_seatAll_0 rfl (lv_at hl 0 rfl) ?_
  refine g6_59 ha hP 51 (by decide) (cX_51 G _) (v := .int (σ 51 1)) rfl dX6_seatAll_1 ?_
  refine lv_bipush (v := (-9)) hx hb dX6_seatAll_4 (by decide) ?_
  refine lv_icmp_eq (tgt := 24) hx hb dX6_seatAll_6 (by decide) (fun c_1 => ?_) (fun c_1 => ?_)
  · have t_1 := i_eq c_1
    refine lv_iload_n hx hb dX6_seatAll_24 rfl (lv_at hl 1 rfl) ?_
    refine lv_aload_n hx hb dX6_seatAll_25 rfl (lv_at hl 0 rfl) ?_
    refine g6_24 ha hP 51 (by decide) (cX_51 G _) (v := .ref (G.1 33)) rfl dX6_seatAll_26 ?_
    refine g6_44 ha hP 33 (by decide) (cX_33 G _) (v := .int (σ 33 1)) rfl dX6_seatAll_29 ?_
    refine lv_icmp_ge (tgt := 40) hx hb dX6_seatAll_32 (by decide) (fun c_2 => ?_) (fun c_2 => ?_)
    · have t_2 := i_le c_2
      have u_2 := u_le c_2
      refine lv_aload_n hx hb dX6_seatAll_40 rfl (lv_at hl 0 rfl) ?_
      refine lv_iload_n hx hb dX6_seatAll_41 rfl (lv_at hl 2 rfl) ?_
      refine xVv ha hP hS (y := yX6_offer) (As := [.int used]) (rest := []) 51 (by decide) (cX_51 G _) rfl rfl (c_X6_offer G l σ used ) kw_X6_80 hd_X6_offer rfl ⟨rfl, rfl⟩ ⟨Nat.le_of_ble_eq_true rfl, Nat.le_of_ble_eq_true rfl⟩ ⟨Nat.zero_le _, Nat.zero_le _⟩ hl.1 (Nat.le_of_ble_eq_true rfl) rfl dX6_seatAll_42 (fun u H locs hpq hP hS => ?_)
      have hpq := hpq.symm
      subst hpq
      exact xvret ha hP hS dX6_seatAll_45 (by simp [s_all, s_allCut, c_1, u_2, i_leN, -Int32.not_lt] <;> first | rfl | simp_all)
    · have t_2 := i_nle c_2
      have u_2 := u_nle c_2
      exfalso; omega
  · have t_1 := i_ne c_1
    refine lv_iload_n hx hb dX6_seatAll_9 rfl (lv_at hl 2 rfl) ?_
    refine xJi ha hP hS (y := yJ6_bitCount_0f7a4) (As := [.int used]) (rest := []) (c_J6_bitCount_0f7a4 G l σ used ) kw_X6_75 hd_J6_bitCount_0f7a4 rfl ⟨rfl, rfl⟩ ⟨Nat.le_of_ble_eq_true rfl, Nat.le_of_ble_eq_true rfl⟩ ⟨Nat.zero_le _, Nat.zero_le _⟩ hl.1 (Nat.le_of_ble_eq_true rfl) rfl dX6_seatAll_10 (fun r u H locs hpq hP hS => ?_)
    obtain ⟨hr_, hu_⟩ := hpq
    have hr_ := hr_.symm
    have hu_ := hu_.symm
    subst hr_
    subst hu_
    refine lv_aload_n hx hb dX6_seatAll_13 rfl (lv_at hl 0 rfl) ?_
    refine g6_59 ha hP 51 (by decide) (cX_51 G _) (v := .int (σ 51 1)) rfl dX6_seatAll_14 ?_
    refine xJi ha hP hS (y := yJ6_bitCount_0f7a4) (As := [.int (σ 51 1)]) (rest := [.int (a_pop used)]) (c_J6_bitCount_0f7a4 G l σ (σ 51 1) ) kw_X6_75 hd_J6_bitCount_0f7a4 rfl ⟨rfl, rfl⟩ ⟨Nat.le_of_ble_eq_true rfl, Nat.le_of_ble_eq_true rfl⟩ ⟨Nat.zero_le _, Nat.zero_le _⟩ hl.1 (Nat.le_of_ble_eq_true rfl) rfl dX6_seatAll_17 (fun r u H locs hpq hP hS => ?_)
    obtain ⟨hr_, hu_⟩ := hpq
    have hr_ := hr_.symm
    have hu_ := hu_.symm
    subst hr_
    subst hu_
    refine lv_icmp_le (tgt := 24) hx hb dX6_seatAll_20 (by decide) (fun c_3 => ?_) (fun c_3 => ?_)
    · have t_3 := i_le c_3
      have u_3 := u_le c_3
      refine lv_iload_n hx hb dX6_seatAll_24 rfl (lv_at hl 1 rfl) ?_
      refine lv_aload_n hx hb dX6_seatAll_25 rfl (lv_at hl 0 rfl) ?_
      refine g6_24 ha hP 51 (by decide) (cX_51 G _) (v := .ref (G.1 33)) rfl dX6_seatAll_26 ?_
      refine g6_44 ha hP 33 (by decide) (cX_33 G _) (v := .int (σ 33 1)) rfl dX6_seatAll_29 ?_
      refine lv_icmp_ge (tgt := 40) hx hb dX6_seatAll_32 (by decide) (fun c_4 => ?_) (fun c_4 => ?_)
      · have t_4 := i_le c_4
        have u_4 := u_le c_4
        refine lv_aload_n hx hb dX6_seatAll_40 rfl (lv_at hl 0 rfl) ?_
        refine lv_iload_n hx hb dX6_seatAll_41 rfl (lv_at hl 2 rfl) ?_
        refine xVv ha hP hS (y := yX6_offer) (As := [.int used]) (rest := []) 51 (by decide) (cX_51 G _) rfl rfl (c_X6_offer G l σ used ) kw_X6_80 hd_X6_offer rfl ⟨rfl, rfl⟩ ⟨Nat.le_of_ble_eq_true rfl, Nat.le_of_ble_eq_true rfl⟩ ⟨Nat.zero_le _, Nat.zero_le _⟩ hl.1 (Nat.le_of_ble_eq_true rfl) rfl dX6_seatAll_42 (fun u H locs hpq hP hS => ?_)
        have hpq := hpq.symm
        subst hpq
        exact xvret ha hP hS dX6_seatAll_45 (by simp [s_all, s_allCut, c_1, u_3, u_4, i_leN, -Int32.not_lt] <;> first | rfl | simp_all)
      · have t_4 := i_nle c_4
        have u_4 := u_nle c_4
        exfalso; omega
    · have t_3 := i_nle c_3
      have u_3 := u_nle c_3
      exact xvret ha hP hS dX6_seatAll_23 (by simp [s_all, s_allCut, c_1, u_3, i_leN, -Int32.not_lt] <;> first | rfl | simp_all)
set_option maxHeartbeats 4000000 in
set_option maxRecDepth 100000 in
theorem c_X6_seatAll_s (G : GT) (l : Launch) (σ : Mem) (w : Nat) (P : PT) (i : Nat) (used : Int32) (hp : PO 33 σ) (hPP : vP σ 33 = P) (hd : nPe P = i + (w + 1)) (ih : ∀ (τ : Mem) (used1 : Int32), PO 33 τ → vP τ 33 = P → CV G 74 (cX G) l yX6_seatAll ({ frames := w + 2, cells := 0, slots := 0, locals := 24 * (w) + 44 } : Room) cX6_seatAll 5 none [.ref (G.1 51), .int (nI (i + 1)), .int used1] τ (fun u => u = s_all P w τ (i + 1) used1)) : CV G 74 (cX G) l yX6_seatAll ({ frames := (w + 1) + 2, cells := 0, slots := 0, locals := 24 * ((w + 1)) + 44 } : Room) cX6_seatAll 5 none [.ref (G.1 51), .int (nI i), .int used] σ (fun u => u = s_all P (w + 1) σ i used) := by
  intro sz
  refine xbegin (by decide) (Nat.le_of_ble_eq_true rfl) ?_
  intro p e s m below meth c ls hsz ha hP hl
  subst hsz
  have hx := ha.1
  have hb := ha.2.1
  have hS : va_S (xA G 74 s.heap.size) s.heap s.heap [] := va_S.rf
  have hl : lv_has ls 5 [(0, .ref (G.1 51)), (1, .int (nI i)), (2, .int used)] := hl
  have k_m9 : (-9 : Int32).toInt = -9 := by decide
  have k_0 : (0 : Int32).toInt = 0 := by decide
  have k_1 : (1 : Int32).toInt = 1 := by decide
  have k_5 : (5 : Int32).toInt = 5 := by decide
  have hnn := nPe_of hPP
  have hmm := nPl_of hPP
  obtain ⟨hn, hn4, hnt⟩ := PO_pe hp
  have hi31 : (nI i).toInt = (i : Int) := nI_toInt (by omega)
  obtain ⟨hk, hk4, hkt⟩ := PO_pl hp
  refine lv_aload_n hx hb dX6_seatAll_0 rfl (lv_at hl 0 rfl) ?_
  refine g6_59 ha hP 51 (by decide) (cX_51 G _) (v := .int (σ 51 1)) rfl dX6_seatAll_1 ?_
  refine lv_bipush (v := (-9)) hx hb dX6_seatAll_4 (by decide) ?_
  refine lv_icmp_eq (tgt := 24) hx hb dX6_seatAll_6 (by decide) (fun c_1 => ?_) (fun c_1 => ?_)
  · have t_1 := i_eq c_1
    refine lv_iload_n hx hb dX6_seatAll_24 rfl (lv_at hl 1 rfl) ?_
    refine lv_aload_n hx hb dX6_seatAll_25 rfl (lv_at hl 0 rfl) ?_
    refine g6_24 ha hP 51 (by decide) (cX_51 G _) (v := .ref (G.1 33)) rfl dX6_seatAll_26 ?_
    refine g6_44 ha hP 33 (by decide) (cX_33 G _) (v := .int (σ 33 1)) rfl dX6_seatAll_29 ?_
    refine lv_icmp_ge (tgt := 40) hx hb dX6_seatAll_32 (by decide) (fun c_2 => ?_) (fun c_2 => ?_)
    · have t_2 := i_le c_2
      have u_2 := u_le c_2
      exfalso; omega
    · have t_2 := i_nle c_2
      have u_2 := u_nle c_2
      refine lv_iload_n hx hb dX6_seatAll_35 rfl (lv_at hl 1 rfl) ?_
      refine lv_iconst (v := 5) hx hb dX6_seatAll_36 (by decide) ?_
      refine lv_icmp_lt (tgt := 46) hx hb dX6_seatAll_37 (by decide) (fun c_3 => ?_) (fun c_3 => ?_)
      · have t_3 := i_lt c_3
        refine lv_iconst (v := 0) hx hb dX6_seatAll_46 (by decide) ?_
        refine lv_istore_n (lv' := [(3, .int 0), (0, .ref (G.1 51)), (1, .int (nI i)), (2, .int used)]) hx hb dX6_seatAll_47 rfl hl (by decide) rfl (fun ls hl => ?_)
        have lp_48 : ∀ (d j : Nat) (τj : Mem) (H : Heap) (locs : List Loc) (ls : Array Slot), j ≤ (ix (σ 33 0)) → (ix (σ 33 0)) - j < d → τj = forM (s_allK P w i used) j σ → (PO 33 τj) → (vP τj 33 = P) → va_P G.2.1 vwCl (wl G 74 (cX G τj)) H → va_S (xA G 74 s.heap.size) s.heap H locs → lv_has ls 5 [(3, .int (nI j)), (0, .ref (G.1 51)), (1, .int (nI i)), (2, .int used)] → W p l e ({ frames := (w + 1) + 2, cells := 0, slots := 0, locals := 24 * ((w + 1)) + 44 } : Room) s m ([.ref (G.1 51), .int (nI i), .int used] : List Value).toArray below meth c H locs 0 0 (MQ below (va_Qv (fun u => u = s_all P (w + 1) σ i used) (xB G 74 (cX G)) (xA G 74 s.heap.size)) ([.ref (G.1 51), .int (nI i), .int used] : List Value).toArray s 0 0 (xA G 74 s.heap.size)) (F0 m 48 ls []) := by
          intro d
          induction d with
          | zero => intro j τj H locs ls hj hd; exact absurd hd (Nat.not_lt_zero _)
          | succ d ih_48 =>
            intro j τj H locs ls hj_j hd_j e_τj hpj hPj hP hS hl
            have h31_j : (nI j).toInt = (j : Int) := nI_toInt (by omega)
            have hz := nPl_of hPj
            have hz2 := PO_pl hpj
            have hz3 : (τj 33 0).toInt = (ix (σ 33 0) : Int) := by rw [hz2.2.2, ← hz, hmm]
            refine lv_iload_n hx hb dX6_seatAll_48 rfl (lv_at hl 0 rfl) ?_
            refine lv_aload_n hx hb dX6_seatAll_49 rfl (lv_at hl 1 rfl) ?_
            refine g6_24 ha hP 51 (by decide) (cX_51 G _) (v := .ref (G.1 33)) rfl dX6_seatAll_50 ?_
            refine g6_28 ha hP 33 (by decide) (cX_33 G _) (v := .int (τj 33 0)) rfl dX6_seatAll_53 ?_
            refine lv_icmp_ge (tgt := 121) hx hb dX6_seatAll_56 (by decide) (fun c_4 => ?_) (fun c_4 => ?_)
            · have t_4 := i_le c_4
              have u_4 := u_le c_4
              obtain rfl : j = (ix (σ 33 0)) := by omega
              exact xvret ha hP hS dX6_seatAll_121 (by first | (rw [s_all_s]; simp [s_allCut, c_1, u_2, c_3, u_4, i_leN, -Int32.not_lt]; done) | (rw [s_all_s, if_neg (by simp [s_allCut, c_1, u_2, c_3, u_4, i_leN, -Int32.not_lt]), e_τj, hmm]))
            · have t_4 := i_nle c_4
              have u_4 := u_nle c_4
              have hlt_j : j < (ix (σ 33 0)) := by omega
              refine lv_aload_n hx hb dX6_seatAll_59 rfl (lv_at hl 1 rfl) ?_
              refine g6_24 ha hP 51 (by decide) (cX_51 G _) (v := .ref (G.1 33)) rfl dX6_seatAll_60 ?_
              refine lv_iload_n hx hb dX6_seatAll_63 rfl (lv_at hl 2 rfl) ?_
              refine lv_iload_n hx hb dX6_seatAll_64 rfl (lv_at hl 0 rfl) ?_
              refine xVi ha hP hS (y := yX2_loadBy) (As := [.int (nI i), .int (nI j)]) (rest := []) 33 (by decide) (cX_33 G _) rfl rfl (c_X2_loadBy G l τj 33 (nI i) (nI j) (by unfold oPl; omega) hpj) kw_X6_72 hd_X2_loadBy rfl ⟨rfl, rfl⟩ ⟨by dsimp only; omega, by dsimp only; omega⟩ ⟨Nat.zero_le _, Nat.zero_le _⟩ hl.1 (Nat.le_of_ble_eq_true rfl) rfl dX6_seatAll_65 (fun r u H locs hpq hP hS => ?_)
              obtain ⟨hr_, hu_⟩ := hpq
              have hr_ := hr_.symm
              have hu_ := hu_.symm
              subst hr_
              subst hu_
              rw [hPj]
              refine lv_istore (lv' := [(4, .int (a_loadBy P (nI i) (nI j))), (3, .int (nI j)), (0, .ref (G.1 51)), (1, .int (nI i)), (2, .int used)]) hx hb dX6_seatAll_68 hl (by decide) rfl (fun ls hl => ?_)
              refine lv_iload hx hb dX6_seatAll_70 (lv_at hl 0 rfl) ?_
              refine lv_aload_n hx hb dX6_seatAll_72 rfl (lv_at hl 2 rfl) ?_
              refine g6_9 ha hP 51 (by decide) (cX_51 G _) (v := .ref (G.1 52)) rfl dX6_seatAll_73 ?_
              refine lv_iload_n hx hb dX6_seatAll_76 rfl (lv_at hl 1 rfl) ?_
              refine xialdN ha hP 52 (by decide) (cX_52 G _) j rfl (by omega) (by decide) dX6_seatAll_77 ?_
              refine lv_icmp_gt (tgt := 115) hx hb dX6_seatAll_78 (by decide) (fun c_5 => ?_) (fun c_5 => ?_)
              · have t_5 := i_lt c_5
                refine lv_iinc (v := (nI (j + 1))) (lv' := [(3, .int (nI (j + 1))), (4, .int (a_loadBy P (nI i) (nI j))), (0, .ref (G.1 51)), (1, .int (nI i)), (2, .int used)]) hx hb dX6_seatAll_115 hl (k := 1) rfl (nI_1 j) (by decide) rfl (fun ls hl => ?_)
                refine lv_goto (tgt := 48) hx hb dX6_seatAll_118 (by decide) ?_
                exact ih_48 (j + 1) τj _ _ _ (by omega) (by omega) (by rw [show forM (s_allK P w i used) (j + 1) σ = (s_allK P w i used) j (forM (s_allK P w i used) j σ) from rfl, ← e_τj]; simp [s_allK, c_1, u_2, c_3, u_4, c_5, i_leN, mU_e, -Int32.not_lt]) hpj hPj hP hS (lv_sub hl [0, 2, 3, 4] rfl)
              · have t_5 := i_nlt c_5
                refine lv_aload_n hx hb dX6_seatAll_81 rfl (lv_at hl 2 rfl) ?_
                refine g6_9 ha hP 51 (by decide) (cX_51 G _) (v := .ref (G.1 52)) rfl dX6_seatAll_82 ?_
                refine lv_iload_n hx hb dX6_seatAll_85 rfl (lv_at hl 1 rfl) ?_
                refine lv_dup2_11 hx hb dX6_seatAll_86 rfl rfl ?_
                refine xialdN ha hP 52 (by decide) (cX_52 G _) j rfl (by omega) (by decide) dX6_seatAll_87 ?_
                refine lv_iload hx hb dX6_seatAll_88 (lv_at hl 0 rfl) ?_
                refine lv_isub hx hb dX6_seatAll_90 ?_
                refine xiastN ha hP hS (cX_loc G) 52 (by decide) (fun τ => cX_52 G τ) j rfl (by omega) (by decide) dX6_seatAll_91 (fun H locs hP hS => ?_)
                refine lv_aload_n hx hb dX6_seatAll_92 rfl (lv_at hl 2 rfl) ?_
                refine lv_iload_n hx hb dX6_seatAll_93 rfl (lv_at hl 3 rfl) ?_
                refine lv_iconst (v := 1) hx hb dX6_seatAll_94 (by decide) ?_
                refine lv_iaddE (z := (nI (i + 1))) hx hb dX6_seatAll_95 (nI_1 i) ?_
                refine lv_iload_n hx hb dX6_seatAll_96 rfl (lv_at hl 4 rfl) ?_
                refine lv_iconst (v := 1) hx hb dX6_seatAll_97 (by decide) ?_
                refine lv_iload_n hx hb dX6_seatAll_98 rfl (lv_at hl 1 rfl) ?_
                refine lv_ishl hx hb dX6_seatAll_99 ?_
                refine lv_ior hx hb dX6_seatAll_100 ?_
                refine xSv ha hP hS (y := yX6_seatAll) (As := [.ref (G.1 51), .int (nI (i + 1)), .int (used ||| (1 <<< (nI j &&& 31)))]) (rest := []) rfl (ih (mU τj 52 j ((τj 52 j) - (a_loadBy P (nI i) (nI j)))) (used ||| (1 <<< (nI j &&& 31))) (PO_mU hpj (by decide)) ((vP_mU _ _ _ (by decide)).trans hPj)) kw_X6_84 hd_X6_seatAll rfl ⟨rfl, rfl⟩ ⟨by dsimp only; omega, by dsimp only; omega⟩ ⟨Nat.zero_le _, Nat.zero_le _⟩ hl.1 (Nat.le_of_ble_eq_true rfl) rfl dX6_seatAll_101 (fun u H locs hpq hP hS => ?_)
                have hpq := hpq.symm
                subst hpq
                refine lv_aload_n hx hb dX6_seatAll_104 rfl (lv_at hl 2 rfl) ?_
                refine g6_9 ha hP 51 (by decide) (cX_51 G _) (v := .ref (G.1 52)) rfl dX6_seatAll_105 ?_
                refine lv_iload_n hx hb dX6_seatAll_108 rfl (lv_at hl 1 rfl) ?_
                refine lv_dup2_11 hx hb dX6_seatAll_109 rfl rfl ?_
                refine xialdN ha hP 52 (by decide) (cX_52 G _) j rfl (by omega) (by decide) dX6_seatAll_110 ?_
                refine lv_iload hx hb dX6_seatAll_111 (lv_at hl 0 rfl) ?_
                refine lv_iadd hx hb dX6_seatAll_113 ?_
                refine xiastN ha hP hS (cX_loc G) 52 (by decide) (fun τ => cX_52 G τ) j rfl (by omega) (by decide) dX6_seatAll_114 (fun H locs hP hS => ?_)
                refine lv_iinc (v := (nI (j + 1))) (lv' := [(3, .int (nI (j + 1))), (4, .int (a_loadBy P (nI i) (nI j))), (0, .ref (G.1 51)), (1, .int (nI i)), (2, .int used)]) hx hb dX6_seatAll_115 hl (k := 1) rfl (nI_1 j) (by decide) rfl (fun ls hl => ?_)
                refine lv_goto (tgt := 48) hx hb dX6_seatAll_118 (by decide) ?_
                exact ih_48 (j + 1) (mU (s_all P w (mU τj 52 j ((τj 52 j) - (a_loadBy P (nI i) (nI j)))) (i + 1) (used ||| (1 <<< (nI j &&& 31)))) 52 j (((s_all P w (mU τj 52 j ((τj 52 j) - (a_loadBy P (nI i) (nI j)))) (i + 1) (used ||| (1 <<< (nI j &&& 31)))) 52 j) + (a_loadBy P (nI i) (nI j)))) _ _ _ (by omega) (by omega) (by rw [show forM (s_allK P w i used) (j + 1) σ = (s_allK P w i used) j (forM (s_allK P w i used) j σ) from rfl, ← e_τj]; simp [s_allK, c_1, u_2, c_3, u_4, c_5, i_leN, mU_e, -Int32.not_lt]) (PO_mU (PO_s_all _ _ _ (PO_mU hpj (by decide))) (by decide)) ((vP_mU _ _ _ (by decide)).trans (s_all_P _ _ _ ((vP_mU _ _ _ (by decide)).trans hPj))) hP hS (lv_sub hl [0, 2, 3, 4] rfl)
        exact lp_48 ((ix (σ 33 0)) - 0 + 1) 0 σ _ _ _ (by omega) (by omega) rfl hp hPP hP hS (lv_sub hl [0, 1, 2, 3] rfl)
      · have t_3 := i_nlt c_3
        exfalso; omega
  · have t_1 := i_ne c_1
    refine lv_iload_n hx hb dX6_seatAll_9 rfl (lv_at hl 2 rfl) ?_
    refine xJi ha hP hS (y := yJ6_bitCount_0f7a4) (As := [.int used]) (rest := []) (c_J6_bitCount_0f7a4 G l σ used ) kw_X6_75 hd_J6_bitCount_0f7a4 rfl ⟨rfl, rfl⟩ ⟨by dsimp only; omega, by dsimp only; omega⟩ ⟨Nat.zero_le _, Nat.zero_le _⟩ hl.1 (Nat.le_of_ble_eq_true rfl) rfl dX6_seatAll_10 (fun r u H locs hpq hP hS => ?_)
    obtain ⟨hr_, hu_⟩ := hpq
    have hr_ := hr_.symm
    have hu_ := hu_.symm
    subst hr_
    subst hu_
    refine lv_aload_n hx hb dX6_seatAll_13 rfl (lv_at hl 0 rfl) ?_
    refine g6_59 ha hP 51 (by decide) (cX_51 G _) (v := .int (σ 51 1)) rfl dX6_seatAll_14 ?_
    refine xJi ha hP hS (y := yJ6_bitCount_0f7a4) (As := [.int (σ 51 1)]) (rest := [.int (a_pop used)]) (c_J6_bitCount_0f7a4 G l σ (σ 51 1) ) kw_X6_75 hd_J6_bitCount_0f7a4 rfl ⟨rfl, rfl⟩ ⟨by dsimp only; omega, by dsimp only; omega⟩ ⟨Nat.zero_le _, Nat.zero_le _⟩ hl.1 (Nat.le_of_ble_eq_true rfl) rfl dX6_seatAll_17 (fun r u H locs hpq hP hS => ?_)
    obtain ⟨hr_, hu_⟩ := hpq
    have hr_ := hr_.symm
    have hu_ := hu_.symm
    subst hr_
    subst hu_
    refine lv_icmp_le (tgt := 24) hx hb dX6_seatAll_20 (by decide) (fun c_6 => ?_) (fun c_6 => ?_)
    · have t_6 := i_le c_6
      have u_6 := u_le c_6
      refine lv_iload_n hx hb dX6_seatAll_24 rfl (lv_at hl 1 rfl) ?_
      refine lv_aload_n hx hb dX6_seatAll_25 rfl (lv_at hl 0 rfl) ?_
      refine g6_24 ha hP 51 (by decide) (cX_51 G _) (v := .ref (G.1 33)) rfl dX6_seatAll_26 ?_
      refine g6_44 ha hP 33 (by decide) (cX_33 G _) (v := .int (σ 33 1)) rfl dX6_seatAll_29 ?_
      refine lv_icmp_ge (tgt := 40) hx hb dX6_seatAll_32 (by decide) (fun c_7 => ?_) (fun c_7 => ?_)
      · have t_7 := i_le c_7
        have u_7 := u_le c_7
        exfalso; omega
      · have t_7 := i_nle c_7
        have u_7 := u_nle c_7
        refine lv_iload_n hx hb dX6_seatAll_35 rfl (lv_at hl 1 rfl) ?_
        refine lv_iconst (v := 5) hx hb dX6_seatAll_36 (by decide) ?_
        refine lv_icmp_lt (tgt := 46) hx hb dX6_seatAll_37 (by decide) (fun c_8 => ?_) (fun c_8 => ?_)
        · have t_8 := i_lt c_8
          refine lv_iconst (v := 0) hx hb dX6_seatAll_46 (by decide) ?_
          refine lv_istore_n (lv' := [(3, .int 0), (0, .ref (G.1 51)), (1, .int (nI i)), (2, .int used)]) hx hb dX6_seatAll_47 rfl hl (by decide) rfl (fun ls hl => ?_)
          have lp_48 : ∀ (d j : Nat) (τj : Mem) (H : Heap) (locs : List Loc) (ls : Array Slot), j ≤ (ix (σ 33 0)) → (ix (σ 33 0)) - j < d → τj = forM (s_allK P w i used) j σ → (PO 33 τj) → (vP τj 33 = P) → va_P G.2.1 vwCl (wl G 74 (cX G τj)) H → va_S (xA G 74 s.heap.size) s.heap H locs → lv_has ls 5 [(3, .int (nI j)), (0, .ref (G.1 51)), (1, .int (nI i)), (2, .int used)] → W p l e ({ frames := (w + 1) + 2, cells := 0, slots := 0, locals := 24 * ((w + 1)) + 44 } : Room) s m ([.ref (G.1 51), .int (nI i), .int used] : List Value).toArray below meth c H locs 0 0 (MQ below (va_Qv (fun u => u = s_all P (w + 1) σ i used) (xB G 74 (cX G)) (xA G 74 s.heap.size)) ([.ref (G.1 51), .int (nI i), .int used] : List Value).toArray s 0 0 (xA G 74 s.heap.size)) (F0 m 48 ls []) := by
            intro d
            induction d with
            | zero => intro j τj H locs ls hj hd; exact absurd hd (Nat.not_lt_zero _)
            | succ d ih_48 =>
              intro j τj H locs ls hj_j hd_j e_τj hpj hPj hP hS hl
              have h31_j : (nI j).toInt = (j : Int) := nI_toInt (by omega)
              have hz := nPl_of hPj
              have hz2 := PO_pl hpj
              have hz3 : (τj 33 0).toInt = (ix (σ 33 0) : Int) := by rw [hz2.2.2, ← hz, hmm]
              refine lv_iload_n hx hb dX6_seatAll_48 rfl (lv_at hl 0 rfl) ?_
              refine lv_aload_n hx hb dX6_seatAll_49 rfl (lv_at hl 1 rfl) ?_
              refine g6_24 ha hP 51 (by decide) (cX_51 G _) (v := .ref (G.1 33)) rfl dX6_seatAll_50 ?_
              refine g6_28 ha hP 33 (by decide) (cX_33 G _) (v := .int (τj 33 0)) rfl dX6_seatAll_53 ?_
              refine lv_icmp_ge (tgt := 121) hx hb dX6_seatAll_56 (by decide) (fun c_9 => ?_) (fun c_9 => ?_)
              · have t_9 := i_le c_9
                have u_9 := u_le c_9
                obtain rfl : j = (ix (σ 33 0)) := by omega
                exact xvret ha hP hS dX6_seatAll_121 (by first | (rw [s_all_s]; simp [s_allCut, c_1, u_6, u_7, c_8, u_9, i_leN, -Int32.not_lt]; done) | (rw [s_all_s, if_neg (by simp [s_allCut, c_1, u_6, u_7, c_8, u_9, i_leN, -Int32.not_lt]), e_τj, hmm]))
              · have t_9 := i_nle c_9
                have u_9 := u_nle c_9
                have hlt_j : j < (ix (σ 33 0)) := by omega
                refine lv_aload_n hx hb dX6_seatAll_59 rfl (lv_at hl 1 rfl) ?_
                refine g6_24 ha hP 51 (by decide) (cX_51 G _) (v := .ref (G.1 33)) rfl dX6_seatAll_60 ?_
                refine lv_iload_n hx hb dX6_seatAll_63 rfl (lv_at hl 2 rfl) ?_
                refine lv_iload_n hx hb dX6_seatAll_64 rfl (lv_at hl 0 rfl) ?_
                refine xVi ha hP hS (y := yX2_loadBy) (As := [.int (nI i), .int (nI j)]) (rest := []) 33 (by decide) (cX_33 G _) rfl rfl (c_X2_loadBy G l τj 33 (nI i) (nI j) (by unfold oPl; omega) hpj) kw_X6_72 hd_X2_loadBy rfl ⟨rfl, rfl⟩ ⟨by dsimp only; omega, by dsimp only; omega⟩ ⟨Nat.zero_le _, Nat.zero_le _⟩ hl.1 (Nat.le_of_ble_eq_true rfl) rfl dX6_seatAll_65 (fun r u H locs hpq hP hS => ?_)
                obtain ⟨hr_, hu_⟩ := hpq
                have hr_ := hr_.symm
                have hu_ := hu_.symm
                subst hr_
                subst hu_
                rw [hPj]
                refine lv_istore (lv' := [(4, .int (a_loadBy P (nI i) (nI j))), (3, .int (nI j)), (0, .ref (G.1 51)), (1, .int (nI i)), (2, .int used)]) hx hb dX6_seatAll_68 hl (by decide) rfl (fun ls hl => ?_)
                refine lv_iload hx hb dX6_seatAll_70 (lv_at hl 0 rfl) ?_
                refine lv_aload_n hx hb dX6_seatAll_72 rfl (lv_at hl 2 rfl) ?_
                refine g6_9 ha hP 51 (by decide) (cX_51 G _) (v := .ref (G.1 52)) rfl dX6_seatAll_73 ?_
                refine lv_iload_n hx hb dX6_seatAll_76 rfl (lv_at hl 1 rfl) ?_
                refine xialdN ha hP 52 (by decide) (cX_52 G _) j rfl (by omega) (by decide) dX6_seatAll_77 ?_
                refine lv_icmp_gt (tgt := 115) hx hb dX6_seatAll_78 (by decide) (fun c_10 => ?_) (fun c_10 => ?_)
                · have t_10 := i_lt c_10
                  refine lv_iinc (v := (nI (j + 1))) (lv' := [(3, .int (nI (j + 1))), (4, .int (a_loadBy P (nI i) (nI j))), (0, .ref (G.1 51)), (1, .int (nI i)), (2, .int used)]) hx hb dX6_seatAll_115 hl (k := 1) rfl (nI_1 j) (by decide) rfl (fun ls hl => ?_)
                  refine lv_goto (tgt := 48) hx hb dX6_seatAll_118 (by decide) ?_
                  exact ih_48 (j + 1) τj _ _ _ (by omega) (by omega) (by rw [show forM (s_allK P w i used) (j + 1) σ = (s_allK P w i used) j (forM (s_allK P w i used) j σ) from rfl, ← e_τj]; simp [s_allK, c_1, u_6, u_7, c_8, u_9, c_10, i_leN, mU_e, -Int32.not_lt]) hpj hPj hP hS (lv_sub hl [0, 2, 3, 4] rfl)
                · have t_10 := i_nlt c_10
                  refine lv_aload_n hx hb dX6_seatAll_81 rfl (lv_at hl 2 rfl) ?_
                  refine g6_9 ha hP 51 (by decide) (cX_51 G _) (v := .ref (G.1 52)) rfl dX6_seatAll_82 ?_
                  refine lv_iload_n hx hb dX6_seatAll_85 rfl (lv_at hl 1 rfl) ?_
                  refine lv_dup2_11 hx hb dX6_seatAll_86 rfl rfl ?_
                  refine xialdN ha hP 52 (by decide) (cX_52 G _) j rfl (by omega) (by decide) dX6_seatAll_87 ?_
                  refine lv_iload hx hb dX6_seatAll_88 (lv_at hl 0 rfl) ?_
                  refine lv_isub hx hb dX6_seatAll_90 ?_
                  refine xiastN ha hP hS (cX_loc G) 52 (by decide) (fun τ => cX_52 G τ) j rfl (by omega) (by decide) dX6_seatAll_91 (fun H locs hP hS => ?_)
                  refine lv_aload_n hx hb dX6_seatAll_92 rfl (lv_at hl 2 rfl) ?_
                  refine lv_iload_n hx hb dX6_seatAll_93 rfl (lv_at hl 3 rfl) ?_
                  refine lv_iconst (v := 1) hx hb dX6_seatAll_94 (by decide) ?_
                  refine lv_iaddE (z := (nI (i + 1))) hx hb dX6_seatAll_95 (nI_1 i) ?_
                  refine lv_iload_n hx hb dX6_seatAll_96 rfl (lv_at hl 4 rfl) ?_
                  refine lv_iconst (v := 1) hx hb dX6_seatAll_97 (by decide) ?_
                  refine lv_iload_n hx hb dX6_seatAll_98 rfl (lv_at hl 1 rfl) ?_
                  refine lv_ishl hx hb dX6_seatAll_99 ?_
                  refine lv_ior hx hb dX6_seatAll_100 ?_
                  refine xSv ha hP hS (y := yX6_seatAll) (As := [.ref (G.1 51), .int (nI (i + 1)), .int (used ||| (1 <<< (nI j &&& 31)))]) (rest := []) rfl (ih (mU τj 52 j ((τj 52 j) - (a_loadBy P (nI i) (nI j)))) (used ||| (1 <<< (nI j &&& 31))) (PO_mU hpj (by decide)) ((vP_mU _ _ _ (by decide)).trans hPj)) kw_X6_84 hd_X6_seatAll rfl ⟨rfl, rfl⟩ ⟨by dsimp only; omega, by dsimp only; omega⟩ ⟨Nat.zero_le _, Nat.zero_le _⟩ hl.1 (Nat.le_of_ble_eq_true rfl) rfl dX6_seatAll_101 (fun u H locs hpq hP hS => ?_)
                  have hpq := hpq.symm
                  subst hpq
                  refine lv_aload_n hx hb dX6_seatAll_104 rfl (lv_at hl 2 rfl) ?_
                  refine g6_9 ha hP 51 (by decide) (cX_51 G _) (v := .ref (G.1 52)) rfl dX6_seatAll_105 ?_
                  refine lv_iload_n hx hb dX6_seatAll_108 rfl (lv_at hl 1 rfl) ?_
                  refine lv_dup2_11 hx hb dX6_seatAll_109 rfl rfl ?_
                  refine xialdN ha hP 52 (by decide) (cX_52 G _) j rfl (by omega) (by decide) dX6_seatAll_110 ?_
                  refine lv_iload hx hb dX6_seatAll_111 (lv_at hl 0 rfl) ?_
                  refine lv_iadd hx hb dX6_seatAll_113 ?_
                  refine xiastN ha hP hS (cX_loc G) 52 (by decide) (fun τ => cX_52 G τ) j rfl (by omega) (by decide) dX6_seatAll_114 (fun H locs hP hS => ?_)
                  refine lv_iinc (v := (nI (j + 1))) (lv' := [(3, .int (nI (j + 1))), (4, .int (a_loadBy P (nI i) (nI j))), (0, .ref (G.1 51)), (1, .int (nI i)), (2, .int used)]) hx hb dX6_seatAll_115 hl (k := 1) rfl (nI_1 j) (by decide) rfl (fun ls hl => ?_)
                  refine lv_goto (tgt := 48) hx hb dX6_seatAll_118 (by decide) ?_
                  exact ih_48 (j + 1) (mU (s_all P w (mU τj 52 j ((τj 52 j) - (a_loadBy P (nI i) (nI j)))) (i + 1) (used ||| (1 <<< (nI j &&& 31)))) 52 j (((s_all P w (mU τj 52 j ((τj 52 j) - (a_loadBy P (nI i) (nI j)))) (i + 1) (used ||| (1 <<< (nI j &&& 31)))) 52 j) + (a_loadBy P (nI i) (nI j)))) _ _ _ (by omega) (by omega) (by rw [show forM (s_allK P w i used) (j + 1) σ = (s_allK P w i used) j (forM (s_allK P w i used) j σ) from rfl, ← e_τj]; simp [s_allK, c_1, u_6, u_7, c_8, u_9, c_10, i_leN, mU_e, -Int32.not_lt]) (PO_mU (PO_s_all _ _ _ (PO_mU hpj (by decide))) (by decide)) ((vP_mU _ _ _ (by decide)).trans (s_all_P _ _ _ ((vP_mU _ _ _ (by decide)).trans hPj))) hP hS (lv_sub hl [0, 2, 3, 4] rfl)
          exact lp_48 ((ix (σ 33 0)) - 0 + 1) 0 σ _ _ _ (by omega) (by omega) rfl hp hPP hP hS (lv_sub hl [0, 1, 2, 3] rfl)
        · have t_8 := i_nlt c_8
          exfalso; omega
    · have t_6 := i_nle c_6
      have u_6 := u_nle c_6
      exact xvret ha hP hS dX6_seatAll_23 (by first | (rw [s_all_s]; simp [s_allCut, c_1, u_6, i_leN, -Int32.not_lt]; done) | (rw [s_all_s, if_neg (by simp [s_allCut, c_1, u_6, i_leN, -Int32.not_lt]), e_τj, hmm]))
theorem c_X6_seatAll (G : GT) (l : Launch) (P : PT) : ∀ (d : Nat) (σ : Mem) (i : Nat) (used : Int32), PO 33 σ → vP σ 33 = P → nPe P = i + d → CV G 74 (cX G) l yX6_seatAll ({ frames := d + 2, cells := 0, slots := 0, locals := 24 * (d) + 44 } : Room) cX6_seatAll 5 none [.ref (G.1 51), .int (nI i), .int used] σ (fun u => u = s_all P d σ i used)
  | 0, σ, i, used, hp, hP, hd => c_X6_seatAll_0 G l σ P i used hp hP hd
  | d + 1, σ, i, used, hp, hP, hd => c_X6_seatAll_s G l σ d P i used hp hP hd (fun τ h hp1 hP1 => c_X6_seatAll G l P d τ (i + 1) h hp1 hP1 (by omega))
