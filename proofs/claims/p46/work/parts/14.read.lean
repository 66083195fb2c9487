theorem hd_X2_figure : kHd yX2_figure 2 := by decide +kernel
theorem hd_X2_kindOf : kHd yX2_kindOf 1 := by decide +kernel
theorem hd_X2_readOne : kHd yX2_readOne 2 := by decide +kernel
theorem hd_X2_readPole : kHd yX2_readPole 3 := by decide +kernel
theorem hd_X3_get : kHd yX3_get 1 := by decide +kernel
theorem kw_X2_39 : ∀ w ∈ k5V RX2 39 yX3_get cX3_get 2 (some .int), w ∈ TB := tb_ins (by decide +kernel)
theorem kw_X2_54 : ∀ w ∈ k5S RX2 54 yX2_figure cX2_figure 3 (some .int), w ∈ TB := tb_ins (by decide +kernel)
theorem kw_X2_47 : ∀ w ∈ k5S RX2 47 yX2_kindOf cX2_kindOf 2 (some .int), w ∈ TB := tb_ins (by decide +kernel)
theorem kw_X2_50 : ∀ w ∈ k5V RX2 50 yX2_readPole cX2_readPole 7 (some .int), w ∈ TB := tb_ins (by decide +kernel)
theorem kw_X2_43 : ∀ w ∈ k5V RX2 43 yX2_readOne cX2_readOne 5 (some .int), w ∈ TB := tb_ins (by decide +kernel)
set_option maxHeartbeats 4000000 in
set_option maxRecDepth 100000 in
theorem c_X2_kindOf (G : GT) (l : Launch) (σ : Mem) (x : Int32)  : CI G 74 (cX G) l yX2_kindOf ({ frames := 0, cells := 0, slots := 0, locals := 0 } : Room) cX2_kindOf 2 (some .int) [.int x] σ (fun (r : Int32) u => r = a_kind x ∧ u = σ) := by
  intro sz
  refine xbegin (by decide) (Nat.le_of_ble_eq_true rfl) ?_
  intro p e s m below meth c ls hsz ha hP hl
  subst hsz
  have hx := ha.1
  have hb := ha.2.1
  have hS : va_S (xA G 74 s.heap.size) s.heap s.heap [] := va_S.rf
  have hl : lv_has ls 2 [(0, .int x)] := hl
  have k_m1 : (-1 : Int32).toInt = -1 := by decide
  have k_0 : (0 : Int32).toInt = 0 := by decide
  have k_3 : (3 : Int32).toInt = 3 := by decide
  have k_4 : (4 : Int32).toInt = 4 := by decide
  have k_5 : (5 : Int32).toInt = 5 := by decide
  have k_6 : (6 : Int32).toInt = 6 := by decide
  have k_40 : (40 : Int32).toInt = 40 := by decide
  have k_60 : (60 : Int32).toInt = 60 := by decide
  obtain ⟨kl, hkz, hkc, hka⟩ := ha.2.2.2.2.2.2.2.2.2.2.1
  have hkl : va_X kl 6 klF s s.heap ∧ ¬ xA G 74 s.heap.size kl := ⟨hkc, hka⟩
  refine lv_iconst (v := 0) hx hb dX2_kindOf_0 (by decide) ?_
  refine lv_istore_n (lv' := [(1, .int 0), (0, .int x)]) hx hb dX2_kindOf_1 rfl hl (by decide) rfl (fun ls hl => ?_)
  have lp_2 : ∀ (d j : Nat)  (H : Heap) (locs : List Loc) (ls : Array Slot), j ≤ 6 → 6 - j < d → (∀ q, q < j → ¬ klF q = x) → va_P G.2.1 vwCl (wl G 74 (cX G σ)) H → va_S (xA G 74 s.heap.size) s.heap H locs → lv_has ls 2 [(1, .int (nI j)), (0, .int x)] → W p l e ({ frames := 0, cells := 0, slots := 0, locals := 0 } : Room) s m ([.int x] : List Value).toArray below meth c H locs 0 0 (MQ below (va_Qi (fun (r : Int32) u => r = a_kind x ∧ u = σ) (xB G 74 (cX G)) (xA G 74 s.heap.size)) ([.int x] : List Value).toArray s 0 0 (xA G 74 s.heap.size)) (F0 m 2 ls []) := by
    intro d
    induction d with
    | zero => intro j  H locs ls hj hd; exact absurd hd (Nat.not_lt_zero _)
    | succ d ih_2 =>
      intro j  H locs ls hj_j hd_j hno hP hS hl
      have h31_j : (nI j).toInt = (j : Int) := nI_toInt (by omega)
      refine lv_iload_n hx hb dX2_kindOf_2 rfl (lv_at hl 0 rfl) ?_
      refine xklget ha hS hkz (nb_in (by decide +kernel) : Cond.fieldLinkNest RX2 57 "PoleNave" "KIND_LETTERS" "[I" "PoleNave" ∈ NB) dX2_kindOf_3 ?_
      refine xkllen ha hS hkl dX2_kindOf_6 ?_
      refine lv_icmp_ge (tgt := 27) hx hb dX2_kindOf_7 (by decide) (fun c_1 => ?_) (fun c_1 => ?_)
      · have t_1 := i_le c_1
        have u_1 := u_le c_1
        obtain rfl : j = 6 := by omega
        refine lv_iconst (v := (-1)) hx hb dX2_kindOf_27 (by decide) ?_
        exact xiret ha hP hS dX2_kindOf_28 ⟨by exact a_kind_no hno, rfl⟩ rfl
      · have t_1 := i_nle c_1
        have u_1 := u_nle c_1
        have hlt_j : j < 6 := by omega
        refine xklget ha hS hkz (nb_in (by decide +kernel) : Cond.fieldLinkNest RX2 57 "PoleNave" "KIND_LETTERS" "[I" "PoleNave" ∈ NB) dX2_kindOf_10 ?_
        refine lv_iload_n hx hb dX2_kindOf_13 rfl (lv_at hl 0 rfl) ?_
        refine xklald ha hS hkl j rfl (by omega) dX2_kindOf_14 ?_
        refine lv_iload_n hx hb dX2_kindOf_15 rfl (lv_at hl 1 rfl) ?_
        refine lv_icmp_ne (tgt := 21) hx hb dX2_kindOf_16 (by decide) (fun c_2 => ?_) (fun c_2 => ?_)
        · have t_2 := i_ne c_2
          refine lv_iinc (v := (nI (j + 1))) (lv' := [(1, .int (nI (j + 1))), (0, .int x)]) hx hb dX2_kindOf_21 hl (k := 0) rfl (nI_1 j) (by decide) rfl (fun ls hl => ?_)
          refine lv_goto (tgt := 2) hx hb dX2_kindOf_24 (by decide) ?_
          exact ih_2 (j + 1)  _ _ _ (by omega) (by omega) (fun q h => by rcases Nat.lt_or_ge q j with h1 | h1; exact hno q h1; rw [show q = j by omega]; assumption) hP hS (lv_sub hl [0, 1] rfl)
        · have t_2 := i_eq c_2
          refine lv_iload_n hx hb dX2_kindOf_19 rfl (lv_at hl 0 rfl) ?_
          exact xiret ha hP hS dX2_kindOf_20 ⟨by exact a_kind_at hlt_j (by assumption), rfl⟩ rfl
  exact lp_2 (6 - 0 + 1) 0  _ _ _ (by omega) (by omega) (fun q h => absurd h (Nat.not_lt_zero _)) hP hS (lv_sub hl [0, 1] rfl)
set_option maxHeartbeats 4000000 in
set_option maxRecDepth 100000 in
theorem c_X2_figure (G : GT) (l : Launch) (σ : Mem) (t : Nat) (i : Int32) (ht : oRow t) : CI G 74 (cX G) l yX2_figure ({ frames := 2, cells := 0, slots := 0, locals := 42 } : Room) cX2_figure 3 (some .int) [.ref (G.1 t), .int i] σ (fun (r : Int32) u => r = a_fig σ t i ∧ u = σ) := by
  intro sz
  refine xbegin (by decide) (Nat.le_of_ble_eq_true rfl) ?_
  intro p e s m below meth c ls hsz ha hP hl
  subst hsz
  have hx := ha.1
  have hb := ha.2.1
  have hS : va_S (xA G 74 s.heap.size) s.heap s.heap [] := va_S.rf
  have hl : lv_has ls 3 [(0, .ref (G.1 t)), (1, .int i)] := hl
  have k_m1 : (-1 : Int32).toInt = -1 := by decide
  have k_0 : (0 : Int32).toInt = 0 := by decide
  have k_48 : (48 : Int32).toInt = 48 := by decide
  have k_57 : (57 : Int32).toInt = 57 := by decide
  refine lv_aload_n hx hb dX2_figure_0 rfl (lv_at hl 0 rfl) ?_
  refine lv_iload_n hx hb dX2_figure_1 rfl (lv_at hl 1 rfl) ?_
  refine xVi ha hP hS (y := yX3_get) (As := [.int i]) (rest := []) t (oRow_lt0 ht) (sRow ht) rfl rfl (c_X3_get G l σ t i ht) kw_X2_39 hd_X3_get rfl ⟨rfl, rfl⟩ ⟨Nat.le_of_ble_eq_true rfl, Nat.le_of_ble_eq_true rfl⟩ ⟨Nat.zero_le _, Nat.zero_le _⟩ hl.1 (Nat.le_of_ble_eq_true rfl) rfl dX2_figure_2 (fun r u H locs hpq hP hS => ?_)
  obtain ⟨hr_, hu_⟩ := hpq
  have hr_ := hr_.symm
  have hu_ := hu_.symm
  subst hr_
  subst hu_
  refine lv_istore_n (lv' := [(2, .int (a_get σ t i)), (0, .ref (G.1 t)), (1, .int i)]) hx hb dX2_figure_5 rfl hl (by decide) rfl (fun ls hl => ?_)
  refine lv_iload_n hx hb dX2_figure_6 rfl (lv_at hl 0 rfl) ?_
  refine lv_bipush (v := 48) hx hb dX2_figure_7 (by decide) ?_
  refine lv_icmp_lt (tgt := 25) hx hb dX2_figure_9 (by decide) (fun c_1 => ?_) (fun c_1 => ?_)
  · have t_1 := i_lt c_1
    refine lv_iconst (v := (-1)) hx hb dX2_figure_25 (by decide) ?_
    exact xiret ha hP hS dX2_figure_26 ⟨by simp [a_fig, i_leN, c_1, -Int32.not_lt] <;> first | rfl | simp_all, rfl⟩ rfl
  · have t_1 := i_nlt c_1
    refine lv_iload_n hx hb dX2_figure_12 rfl (lv_at hl 0 rfl) ?_
    refine lv_bipush (v := 57) hx hb dX2_figure_13 (by decide) ?_
    have jn_2 : ∀ x_2 : Int32, x_2 = (if 57 < (a_get σ t i) then (-1) else ((a_get σ t i) - 48)) → W p l e ({ frames := 2, cells := 0, slots := 0, locals := 42 } : Room) s m ([.ref (G.1 t), .int i] : List Value).toArray below meth c H locs 0 0 (MQ below (va_Qi (fun (r : Int32) u => r = a_fig σ t i ∧ u = σ) (xB G 74 (cX G)) (xA G 74 s.heap.size)) ([.ref (G.1 t), .int i] : List Value).toArray s 0 0 (xA G 74 s.heap.size)) (F0 m 26 ls [.int x_2]) := by
      intro x_2 ex_2
      exact xiret ha hP hS dX2_figure_26 ⟨by simp [a_fig, i_leN, c_1, ex_2, -Int32.not_lt] <;> first | rfl | simp_all, rfl⟩ rfl
    refine lv_icmp_gt (tgt := 25) hx hb dX2_figure_15 (by decide) (fun c_2 => ?_) (fun c_2 => ?_)
    · have t_2 := i_lt c_2
      refine lv_iconst (v := (-1)) hx hb dX2_figure_25 (by decide) ?_
      exact jn_2 _ (if_pos c_2).symm
    · have t_2 := i_nlt c_2
      refine lv_iload_n hx hb dX2_figure_18 rfl (lv_at hl 0 rfl) ?_
      refine lv_bipush (v := 48) hx hb dX2_figure_19 (by decide) ?_
      refine lv_isub hx hb dX2_figure_21 ?_
      refine lv_goto (tgt := 26) hx hb dX2_figure_22 (by decide) ?_
      exact jn_2 _ (if_neg c_2).symm
set_option maxHeartbeats 4000000 in
set_option maxRecDepth 100000 in
theorem c_X2_readPole (G : GT) (l : Launch) (σ : Mem) (o : Nat) (t : Nat) (i : Int32) (kind : Int32) (ho : oPl o) (ht : oRow t) (hp : PO o σ) : CI G 74 (cX G) l yX2_readPole ({ frames := 3, cells := 0, slots := 0, locals := 64 } : Room) cX2_readPole 7 (some .int) [.ref (G.1 o), .ref (G.1 t), .int i, .int kind] σ (fun (r : Int32) u => r = a_rPole σ o t i kind ∧ u = m_rPole σ o t i kind) := by
  intro sz
  refine xbegin (by decide) (Nat.le_of_ble_eq_true rfl) ?_
  intro p e s m below meth c ls hsz ha hP hl
  subst hsz
  have hx := ha.1
  have hb := ha.2.1
  have hS : va_S (xA G 74 s.heap.size) s.heap s.heap [] := va_S.rf
  have hl : lv_has ls 7 [(0, .ref (G.1 o)), (1, .ref (G.1 t)), (2, .int i), (3, .int kind)] := hl
  have k_m9 : (-9 : Int32).toInt = -9 := by decide
  have k_0 : (0 : Int32).toInt = 0 := by decide
  have k_1 : (1 : Int32).toInt = 1 := by decide
  have k_2 : (2 : Int32).toInt = 2 := by decide
  have k_3 : (3 : Int32).toInt = 3 := by decide
  have k_4 : (4 : Int32).toInt = 4 := by decide
  have k_10 : (10 : Int32).toInt = 10 := by decide
  have k_60 : (60 : Int32).toInt = 60 := by decide
  have hp0 := hp.1
  refine lv_aload_n hx hb dX2_readPole_0 rfl (lv_at hl 1 rfl) ?_
  refine lv_iload_n hx hb dX2_readPole_1 rfl (lv_at hl 2 rfl) ?_
  refine lv_iconst (v := 1) hx hb dX2_readPole_2 (by decide) ?_
  refine lv_iadd hx hb dX2_readPole_3 ?_
  refine xSi ha hP hS (y := yX2_figure) (As := [.ref (G.1 t), .int (i + 1)]) (rest := []) rfl (c_X2_figure G l σ t (i + 1) ht) kw_X2_54 hd_X2_figure rfl ⟨rfl, rfl⟩ ⟨Nat.le_of_ble_eq_true rfl, Nat.le_of_ble_eq_true rfl⟩ ⟨Nat.zero_le _, Nat.zero_le _⟩ hl.1 (Nat.le_of_ble_eq_true rfl) rfl dX2_readPole_4 (fun r u H locs hpq hP hS => ?_)
  obtain ⟨hr_, hu_⟩ := hpq
  have hr_ := hr_.symm
  have hu_ := hu_.symm
  subst hr_
  subst hu_
  refine lv_istore (lv' := [(4, .int (a_fig σ t (i + 1))), (0, .ref (G.1 o)), (1, .ref (G.1 t)), (2, .int i), (3, .int kind)]) hx hb dX2_readPole_7 hl (by decide) rfl (fun ls hl => ?_)
  refine lv_aload_n hx hb dX2_readPole_9 rfl (lv_at hl 2 rfl) ?_
  refine lv_iload_n hx hb dX2_readPole_10 rfl (lv_at hl 3 rfl) ?_
  refine lv_iconst (v := 2) hx hb dX2_readPole_11 (by decide) ?_
  refine lv_iadd hx hb dX2_readPole_12 ?_
  refine xSi ha hP hS (y := yX2_figure) (As := [.ref (G.1 t), .int (i + 2)]) (rest := []) rfl (c_X2_figure G l σ t (i + 2) ht) kw_X2_54 hd_X2_figure rfl ⟨rfl, rfl⟩ ⟨Nat.le_of_ble_eq_true rfl, Nat.le_of_ble_eq_true rfl⟩ ⟨Nat.zero_le _, Nat.zero_le _⟩ hl.1 (Nat.le_of_ble_eq_true rfl) rfl dX2_readPole_13 (fun r u H locs hpq hP hS => ?_)
  obtain ⟨hr_, hu_⟩ := hpq
  have hr_ := hr_.symm
  have hu_ := hu_.symm
  subst hr_
  subst hu_
  refine lv_istore (lv' := [(5, .int (a_fig σ t (i + 2))), (4, .int (a_fig σ t (i + 1))), (0, .ref (G.1 o)), (1, .ref (G.1 t)), (2, .int i), (3, .int kind)]) hx hb dX2_readPole_16 hl (by decide) rfl (fun ls hl => ?_)
  refine lv_aload_n hx hb dX2_readPole_18 rfl (lv_at hl 3 rfl) ?_
  refine lv_iload_n hx hb dX2_readPole_19 rfl (lv_at hl 4 rfl) ?_
  refine lv_iconst (v := 3) hx hb dX2_readPole_20 (by decide) ?_
  refine lv_iadd hx hb dX2_readPole_21 ?_
  refine xSi ha hP hS (y := yX2_figure) (As := [.ref (G.1 t), .int (i + 3)]) (rest := []) rfl (c_X2_figure G l σ t (i + 3) ht) kw_X2_54 hd_X2_figure rfl ⟨rfl, rfl⟩ ⟨Nat.le_of_ble_eq_true rfl, Nat.le_of_ble_eq_true rfl⟩ ⟨Nat.zero_le _, Nat.zero_le _⟩ hl.1 (Nat.le_of_ble_eq_true rfl) rfl dX2_readPole_22 (fun r u H locs hpq hP hS => ?_)
  obtain ⟨hr_, hu_⟩ := hpq
  have hr_ := hr_.symm
  have hu_ := hu_.symm
  subst hr_
  subst hu_
  refine lv_istore (lv' := [(6, .int (a_fig σ t (i + 3))), (5, .int (a_fig σ t (i + 2))), (4, .int (a_fig σ t (i + 1))), (0, .ref (G.1 o)), (1, .ref (G.1 t)), (2, .int i), (3, .int kind)]) hx hb dX2_readPole_25 hl (by decide) rfl (fun ls hl => ?_)
  refine lv_iload_n hx hb dX2_readPole_27 rfl (lv_at hl 6 rfl) ?_
  refine lv_if_lt (tgt := 39) hx hb dX2_readPole_28 (by decide) (fun c_1 => ?_) (fun c_1 => ?_)
  · have t_1 := i_lt c_1
    refine lv_iload_n hx hb dX2_readPole_39 rfl (lv_at hl 5 rfl) ?_
    exact xiret ha hP hS dX2_readPole_40 ⟨by simp [a_rPole, m_rPole, mU_e, i_leN, c_1, -Int32.not_lt] <;> first | rfl | simp_all, (by simp [a_rPole, m_rPole, mU_e, i_leN, c_1, -Int32.not_lt] <;> first | rfl | simp_all)⟩ rfl
  · have t_1 := i_nlt c_1
    refine lv_aload_n hx hb dX2_readPole_31 rfl (lv_at hl 3 rfl) ?_
    refine g2_27 ha hP o (oPl_lt0 ho) (sPl ho) (v := .int (σ o 0)) rfl dX2_readPole_32 ?_
    refine lv_iconst (v := 4) hx hb dX2_readPole_35 (by decide) ?_
    refine lv_icmp_lt (tgt := 41) hx hb dX2_readPole_36 (by decide) (fun c_2 => ?_) (fun c_2 => ?_)
    · have t_2 := i_lt c_2
      refine lv_iload hx hb dX2_readPole_41 (lv_at hl 2 rfl) ?_
      refine lv_iconst (v := 1) hx hb dX2_readPole_43 (by decide) ?_
      refine lv_icmp_ge (tgt := 51) hx hb dX2_readPole_44 (by decide) (fun c_3 => ?_) (fun c_3 => ?_)
      · have t_3 := i_le c_3
        have u_3 := u_le c_3
        refine lv_iload hx hb dX2_readPole_51 (lv_at hl 1 rfl) ?_
        refine lv_if_ge (tgt := 60) hx hb dX2_readPole_53 (by decide) (fun c_4 => ?_) (fun c_4 => ?_)
        · have t_4 := i_le c_4
          have u_4 := u_le c_4
          refine lv_iload hx hb dX2_readPole_60 (lv_at hl 0 rfl) ?_
          refine lv_if_ge (tgt := 69) hx hb dX2_readPole_62 (by decide) (fun c_5 => ?_) (fun c_5 => ?_)
          · have t_5 := i_le c_5
            have u_5 := u_le c_5
            refine lv_bipush (v := 10) hx hb dX2_readPole_69 (by decide) ?_
            refine lv_iload hx hb dX2_readPole_71 (lv_at hl 1 rfl) ?_
            refine lv_imul hx hb dX2_readPole_73 ?_
            refine lv_iload hx hb dX2_readPole_74 (lv_at hl 0 rfl) ?_
            refine lv_iadd hx hb dX2_readPole_76 ?_
            refine lv_bipush (v := 60) hx hb dX2_readPole_77 (by decide) ?_
            refine lv_icmp_le (tgt := 86) hx hb dX2_readPole_79 (by decide) (fun c_6 => ?_) (fun c_6 => ?_)
            · have t_6 := i_le c_6
              have u_6 := u_le c_6
              refine lv_aload_n hx hb dX2_readPole_86 rfl (lv_at hl 3 rfl) ?_
              refine g2_9 ha hP o (oPl_lt0 ho) (sPl ho) (v := .ref (G.1 (o + 1))) rfl dX2_readPole_87 ?_
              refine lv_aload_n hx hb dX2_readPole_90 rfl (lv_at hl 3 rfl) ?_
              refine g2_27 ha hP o (oPl_lt0 ho) (sPl ho) (v := .int (σ o 0)) rfl dX2_readPole_91 ?_
              refine lv_iload_n hx hb dX2_readPole_94 rfl (lv_at hl 6 rfl) ?_
              refine xiastN ha hP hS (cX_loc G) (o + 1) (oPl_lt1 ho) (fun τ => sPl1 ho) (ix (σ o 0)) (ix_nI (by omega)) (ix_lt (by omega) (by omega)) (by decide) dX2_readPole_95 (fun H locs hP hS => ?_)
              refine lv_aload_n hx hb dX2_readPole_96 rfl (lv_at hl 3 rfl) ?_
              refine g2_15 ha hP o (oPl_lt0 ho) (sPl ho) (v := .ref (G.1 (o + 2))) rfl dX2_readPole_97 ?_
              refine lv_aload_n hx hb dX2_readPole_100 rfl (lv_at hl 3 rfl) ?_
              refine g2_27 ha hP o (oPl_lt0 ho) (sPl ho) (v := .int ((mU σ (o + 1) (ix (σ o 0)) kind) o 0)) rfl dX2_readPole_101 ?_
              refine lv_iload hx hb dX2_readPole_104 (lv_at hl 2 rfl) ?_
              refine xiastN ha hP hS (cX_loc G) (o + 2) (oPl_lt2 ho) (fun τ => sPl2 ho) (ix (σ o 0)) (by rw [mU_n _ _ _ (by omega)]; exact ix_nI (by omega)) (ix_lt (by omega) (by omega)) (by decide) dX2_readPole_106 (fun H locs hP hS => ?_)
              refine lv_aload_n hx hb dX2_readPole_107 rfl (lv_at hl 3 rfl) ?_
              refine g2_18 ha hP o (oPl_lt0 ho) (sPl ho) (v := .ref (G.1 (o + 3))) rfl dX2_readPole_108 ?_
              refine lv_aload_n hx hb dX2_readPole_111 rfl (lv_at hl 3 rfl) ?_
              refine g2_27 ha hP o (oPl_lt0 ho) (sPl ho) (v := .int ((mU (mU σ (o + 1) (ix (σ o 0)) kind) (o + 2) (ix (σ o 0)) (a_fig σ t (i + 1))) o 0)) rfl dX2_readPole_112 ?_
              refine lv_bipush (v := 10) hx hb dX2_readPole_115 (by decide) ?_
              refine lv_iload hx hb dX2_readPole_117 (lv_at hl 1 rfl) ?_
              refine lv_imul hx hb dX2_readPole_119 ?_
              refine lv_iload hx hb dX2_readPole_120 (lv_at hl 0 rfl) ?_
              refine lv_iadd hx hb dX2_readPole_122 ?_
              refine xiastN ha hP hS (cX_loc G) (o + 3) (oPl_lt3 ho) (fun τ => sPl3 ho) (ix (σ o 0)) (by rw [mU_n _ _ _ (by omega), mU_n _ _ _ (by omega)]; exact ix_nI (by omega)) (ix_lt (by omega) (by omega)) (by decide) dX2_readPole_123 (fun H locs hP hS => ?_)
              refine lv_aload_n hx hb dX2_readPole_124 rfl (lv_at hl 3 rfl) ?_
              refine lv_dup hx hb dX2_readPole_125 rfl ?_
              refine g2_27 ha hP o (oPl_lt0 ho) (sPl ho) (v := .int ((mU (mU (mU σ (o + 1) (ix (σ o 0)) kind) (o + 2) (ix (σ o 0)) (a_fig σ t (i + 1))) (o + 3) (ix (σ o 0)) ((10 * (a_fig σ t (i + 2))) + (a_fig σ t (i + 3)))) o 0)) rfl dX2_readPole_126 ?_
              refine lv_iconst (v := 1) hx hb dX2_readPole_129 (by decide) ?_
              refine lv_iadd hx hb dX2_readPole_130 ?_
              refine p2_27 ha hP hS (cX_loc G) o (oPl_lt0 ho) (sPl ho) (x := (((mU (mU (mU σ (o + 1) (ix (σ o 0)) kind) (o + 2) (ix (σ o 0)) (a_fig σ t (i + 1))) (o + 3) (ix (σ o 0)) ((10 * (a_fig σ t (i + 2))) + (a_fig σ t (i + 3)))) o 0) + 1)) (Nat.le_of_ble_eq_true rfl) (mU (mU (mU (mU σ (o + 1) (ix (σ o 0)) kind) (o + 2) (ix (σ o 0)) (a_fig σ t (i + 1))) (o + 3) (ix (σ o 0)) ((10 * (a_fig σ t (i + 2))) + (a_fig σ t (i + 3)))) o 0 (((mU (mU (mU σ (o + 1) (ix (σ o 0)) kind) (o + 2) (ix (σ o 0)) (a_fig σ t (i + 1))) (o + 3) (ix (σ o 0)) ((10 * (a_fig σ t (i + 2))) + (a_fig σ t (i + 3)))) o 0) + 1)) (fun q hq => mU_n _ _ _ hq) (sPl_p0 ho) dX2_readPole_131 (fun H locs hP hS => ?_)
              refine lv_bipush (v := (-9)) hx hb dX2_readPole_134 (by decide) ?_
              exact xiret ha hP hS dX2_readPole_136 ⟨by simp [a_rPole, m_rPole, mU_e, i_leN, c_1, c_2, u_3, u_4, u_5, u_6, -Int32.not_lt] <;> first | rfl | simp_all, (by simp [a_rPole, m_rPole, mU_e, i_leN, c_1, c_2, u_3, u_4, u_5, u_6, -Int32.not_lt] <;> first | rfl | simp_all)⟩ rfl
            · have t_6 := i_nle c_6
              have u_6 := u_nle c_6
              refine lv_iload_n hx hb dX2_readPole_82 rfl (lv_at hl 5 rfl) ?_
              refine lv_iconst (v := 2) hx hb dX2_readPole_83 (by decide) ?_
              refine lv_iadd hx hb dX2_readPole_84 ?_
              exact xiret ha hP hS dX2_readPole_85 ⟨by simp [a_rPole, m_rPole, mU_e, i_leN, c_1, c_2, u_3, u_4, u_5, u_6, -Int32.not_lt] <;> first | rfl | simp_all, (by simp [a_rPole, m_rPole, mU_e, i_leN, c_1, c_2, u_3, u_4, u_5, u_6, -Int32.not_lt] <;> first | rfl | simp_all)⟩ rfl
          · have t_5 := i_nle c_5
            have u_5 := u_nle c_5
            refine lv_iload_n hx hb dX2_readPole_65 rfl (lv_at hl 5 rfl) ?_
            refine lv_iconst (v := 3) hx hb dX2_readPole_66 (by decide) ?_
            refine lv_iadd hx hb dX2_readPole_67 ?_
            exact xiret ha hP hS dX2_readPole_68 ⟨by simp [a_rPole, m_rPole, mU_e, i_leN, c_1, c_2, u_3, u_4, u_5, -Int32.not_lt] <;> first | rfl | simp_all, (by simp [a_rPole, m_rPole, mU_e, i_leN, c_1, c_2, u_3, u_4, u_5, -Int32.not_lt] <;> first | rfl | simp_all)⟩ rfl
        · have t_4 := i_nle c_4
          have u_4 := u_nle c_4
          refine lv_iload_n hx hb dX2_readPole_56 rfl (lv_at hl 5 rfl) ?_
          refine lv_iconst (v := 2) hx hb dX2_readPole_57 (by decide) ?_
          refine lv_iadd hx hb dX2_readPole_58 ?_
          exact xiret ha hP hS dX2_readPole_59 ⟨by simp [a_rPole, m_rPole, mU_e, i_leN, c_1, c_2, u_3, u_4, -Int32.not_lt] <;> first | rfl | simp_all, (by simp [a_rPole, m_rPole, mU_e, i_leN, c_1, c_2, u_3, u_4, -Int32.not_lt] <;> first | rfl | simp_all)⟩ rfl
      · have t_3 := i_nle c_3
        have u_3 := u_nle c_3
        refine lv_iload_n hx hb dX2_readPole_47 rfl (lv_at hl 5 rfl) ?_
        refine lv_iconst (v := 1) hx hb dX2_readPole_48 (by decide) ?_
        refine lv_iadd hx hb dX2_readPole_49 ?_
        exact xiret ha hP hS dX2_readPole_50 ⟨by simp [a_rPole, m_rPole, mU_e, i_leN, c_1, c_2, u_3, -Int32.not_lt] <;> first | rfl | simp_all, (by simp [a_rPole, m_rPole, mU_e, i_leN, c_1, c_2, u_3, -Int32.not_lt] <;> first | rfl | simp_all)⟩ rfl
    · have t_2 := i_nlt c_2
      refine lv_iload_n hx hb dX2_readPole_39 rfl (lv_at hl 5 rfl) ?_
      exact xiret ha hP hS dX2_readPole_40 ⟨by simp [a_rPole, m_rPole, mU_e, i_leN, c_1, c_2, -Int32.not_lt] <;> first | rfl | simp_all, (by simp [a_rPole, m_rPole, mU_e, i_leN, c_1, c_2, -Int32.not_lt] <;> first | rfl | simp_all)⟩ rfl
set_option maxHeartbeats 4000000 in
set_option maxRecDepth 100000 in
theorem c_X2_readOne (G : GT) (l : Launch) (σ : Mem) (o : Nat) (t : Nat) (i : Int32) (ho : oPl o) (ht : oRow t) (hp : PO o σ) : CI G 74 (cX G) l yX2_readOne ({ frames := 3, cells := 0, slots := 0, locals := 64 } : Room) cX2_readOne 5 (some .int) [.ref (G.1 o), .ref (G.1 t), .int i] σ (fun (r : Int32) u => r = a_rOne σ o t i ∧ u = m_rOne σ o t i) := by
  intro sz
  refine xbegin (by decide) (Nat.le_of_ble_eq_true rfl) ?_
  intro p e s m below meth c ls hsz ha hP hl
  subst hsz
  have hx := ha.1
  have hb := ha.2.1
  have hS : va_S (xA G 74 s.heap.size) s.heap s.heap [] := va_S.rf
  have hl : lv_has ls 5 [(0, .ref (G.1 o)), (1, .ref (G.1 t)), (2, .int i)] := hl
  have k_m9 : (-9 : Int32).toInt = -9 := by decide
  have k_0 : (0 : Int32).toInt = 0 := by decide
  have k_1 : (1 : Int32).toInt = 1 := by decide
  have k_2 : (2 : Int32).toInt = 2 := by decide
  have k_5 : (5 : Int32).toInt = 5 := by decide
  have hp0 := hp.2.2.1
  refine lv_aload_n hx hb dX2_readOne_0 rfl (lv_at hl 1 rfl) ?_
  refine lv_iload_n hx hb dX2_readOne_1 rfl (lv_at hl 2 rfl) ?_
  refine lv_iconst (v := 1) hx hb dX2_readOne_2 (by decide) ?_
  refine lv_iadd hx hb dX2_readOne_3 ?_
  refine xSi ha hP hS (y := yX2_figure) (As := [.ref (G.1 t), .int (i + 1)]) (rest := []) rfl (c_X2_figure G l σ t (i + 1) ht) kw_X2_54 hd_X2_figure rfl ⟨rfl, rfl⟩ ⟨Nat.le_of_ble_eq_true rfl, Nat.le_of_ble_eq_true rfl⟩ ⟨Nat.zero_le _, Nat.zero_le _⟩ hl.1 (Nat.le_of_ble_eq_true rfl) rfl dX2_readOne_4 (fun r u H locs hpq hP hS => ?_)
  obtain ⟨hr_, hu_⟩ := hpq
  have hr_ := hr_.symm
  have hu_ := hu_.symm
  subst hr_
  subst hu_
  refine lv_istore_n (lv' := [(3, .int (a_fig σ t (i + 1))), (0, .ref (G.1 o)), (1, .ref (G.1 t)), (2, .int i)]) hx hb dX2_readOne_7 rfl hl (by decide) rfl (fun ls hl => ?_)
  refine lv_aload_n hx hb dX2_readOne_8 rfl (lv_at hl 2 rfl) ?_
  refine lv_iload_n hx hb dX2_readOne_9 rfl (lv_at hl 3 rfl) ?_
  refine lv_iconst (v := 2) hx hb dX2_readOne_10 (by decide) ?_
  refine lv_iadd hx hb dX2_readOne_11 ?_
  refine xSi ha hP hS (y := yX2_figure) (As := [.ref (G.1 t), .int (i + 2)]) (rest := []) rfl (c_X2_figure G l σ t (i + 2) ht) kw_X2_54 hd_X2_figure rfl ⟨rfl, rfl⟩ ⟨Nat.le_of_ble_eq_true rfl, Nat.le_of_ble_eq_true rfl⟩ ⟨Nat.zero_le _, Nat.zero_le _⟩ hl.1 (Nat.le_of_ble_eq_true rfl) rfl dX2_readOne_12 (fun r u H locs hpq hP hS => ?_)
  obtain ⟨hr_, hu_⟩ := hpq
  have hr_ := hr_.symm
  have hu_ := hu_.symm
  subst hr_
  subst hu_
  refine lv_istore (lv' := [(4, .int (a_fig σ t (i + 2))), (3, .int (a_fig σ t (i + 1))), (0, .ref (G.1 o)), (1, .ref (G.1 t)), (2, .int i)]) hx hb dX2_readOne_15 hl (by decide) rfl (fun ls hl => ?_)
  refine lv_aload_n hx hb dX2_readOne_17 rfl (lv_at hl 2 rfl) ?_
  refine g2_31 ha hP o (oPl_lt0 ho) (sPl ho) (v := .int (σ o 1)) rfl dX2_readOne_18 ?_
  refine lv_iconst (v := 5) hx hb dX2_readOne_21 (by decide) ?_
  refine lv_icmp_lt (tgt := 27) hx hb dX2_readOne_22 (by decide) (fun c_1 => ?_) (fun c_1 => ?_)
  · have t_1 := i_lt c_1
    refine lv_iload_n hx hb dX2_readOne_27 rfl (lv_at hl 1 rfl) ?_
    refine lv_iconst (v := 1) hx hb dX2_readOne_28 (by decide) ?_
    refine lv_icmp_ge (tgt := 36) hx hb dX2_readOne_29 (by decide) (fun c_2 => ?_) (fun c_2 => ?_)
    · have t_2 := i_le c_2
      have u_2 := u_le c_2
      refine lv_iload hx hb dX2_readOne_36 (lv_at hl 0 rfl) ?_
      refine lv_if_ge (tgt := 45) hx hb dX2_readOne_38 (by decide) (fun c_3 => ?_) (fun c_3 => ?_)
      · have t_3 := i_le c_3
        have u_3 := u_le c_3
        refine lv_aload_n hx hb dX2_readOne_45 rfl (lv_at hl 2 rfl) ?_
        refine g2_21 ha hP o (oPl_lt0 ho) (sPl ho) (v := .ref (G.1 (o + 4))) rfl dX2_readOne_46 ?_
        refine lv_aload_n hx hb dX2_readOne_49 rfl (lv_at hl 2 rfl) ?_
        refine g2_31 ha hP o (oPl_lt0 ho) (sPl ho) (v := .int (σ o 1)) rfl dX2_readOne_50 ?_
        refine lv_iload_n hx hb dX2_readOne_53 rfl (lv_at hl 1 rfl) ?_
        refine xiastN ha hP hS (cX_loc G) (o + 4) (oPl_lt4 ho) (fun τ => sPl4 ho) (ix (σ o 1)) (ix_nI (by omega)) (ix_lt (by omega) (by omega)) (by decide) dX2_readOne_54 (fun H locs hP hS => ?_)
        refine lv_aload_n hx hb dX2_readOne_55 rfl (lv_at hl 2 rfl) ?_
        refine g2_24 ha hP o (oPl_lt0 ho) (sPl ho) (v := .ref (G.1 (o + 5))) rfl dX2_readOne_56 ?_
        refine lv_aload_n hx hb dX2_readOne_59 rfl (lv_at hl 2 rfl) ?_
        refine g2_31 ha hP o (oPl_lt0 ho) (sPl ho) (v := .int ((mU σ (o + 4) (ix (σ o 1)) (a_fig σ t (i + 1))) o 1)) rfl dX2_readOne_60 ?_
        refine lv_iload hx hb dX2_readOne_63 (lv_at hl 0 rfl) ?_
        refine xiastN ha hP hS (cX_loc G) (o + 5) (oPl_lt5 ho) (fun τ => sPl5 ho) (ix (σ o 1)) (by rw [mU_n _ _ _ (by omega)]; exact ix_nI (by omega)) (ix_lt (by omega) (by omega)) (by decide) dX2_readOne_65 (fun H locs hP hS => ?_)
        refine lv_aload_n hx hb dX2_readOne_66 rfl (lv_at hl 2 rfl) ?_
        refine lv_dup hx hb dX2_readOne_67 rfl ?_
        refine g2_31 ha hP o (oPl_lt0 ho) (sPl ho) (v := .int ((mU (mU σ (o + 4) (ix (σ o 1)) (a_fig σ t (i + 1))) (o + 5) (ix (σ o 1)) (a_fig σ t (i + 2))) o 1)) rfl dX2_readOne_68 ?_
        refine lv_iconst (v := 1) hx hb dX2_readOne_71 (by decide) ?_
        refine lv_iadd hx hb dX2_readOne_72 ?_
        refine p2_31 ha hP hS (cX_loc G) o (oPl_lt0 ho) (sPl ho) (x := (((mU (mU σ (o + 4) (ix (σ o 1)) (a_fig σ t (i + 1))) (o + 5) (ix (σ o 1)) (a_fig σ t (i + 2))) o 1) + 1)) (Nat.le_of_ble_eq_true rfl) (mU (mU (mU σ (o + 4) (ix (σ o 1)) (a_fig σ t (i + 1))) (o + 5) (ix (σ o 1)) (a_fig σ t (i + 2))) o 1 (((mU (mU σ (o + 4) (ix (σ o 1)) (a_fig σ t (i + 1))) (o + 5) (ix (σ o 1)) (a_fig σ t (i + 2))) o 1) + 1)) (fun q hq => mU_n _ _ _ hq) (sPl_p1 ho) dX2_readOne_73 (fun H locs hP hS => ?_)
        refine lv_bipush (v := (-9)) hx hb dX2_readOne_76 (by decide) ?_
        exact xiret ha hP hS dX2_readOne_78 ⟨by simp [a_rOne, m_rOne, mU_e, i_leN, c_1, u_2, u_3, -Int32.not_lt] <;> first | rfl | simp_all, (by simp [a_rOne, m_rOne, mU_e, i_leN, c_1, u_2, u_3, -Int32.not_lt] <;> first | rfl | simp_all)⟩ rfl
      · have t_3 := i_nle c_3
        have u_3 := u_nle c_3
        refine lv_iload_n hx hb dX2_readOne_41 rfl (lv_at hl 4 rfl) ?_
        refine lv_iconst (v := 2) hx hb dX2_readOne_42 (by decide) ?_
        refine lv_iadd hx hb dX2_readOne_43 ?_
        exact xiret ha hP hS dX2_readOne_44 ⟨by simp [a_rOne, m_rOne, mU_e, i_leN, c_1, u_2, u_3, -Int32.not_lt] <;> first | rfl | simp_all, (by simp [a_rOne, m_rOne, mU_e, i_leN, c_1, u_2, u_3, -Int32.not_lt] <;> first | rfl | simp_all)⟩ rfl
    · have t_2 := i_nle c_2
      have u_2 := u_nle c_2
      refine lv_iload_n hx hb dX2_readOne_32 rfl (lv_at hl 4 rfl) ?_
      refine lv_iconst (v := 1) hx hb dX2_readOne_33 (by decide) ?_
      refine lv_iadd hx hb dX2_readOne_34 ?_
      exact xiret ha hP hS dX2_readOne_35 ⟨by simp [a_rOne, m_rOne, mU_e, i_leN, c_1, u_2, -Int32.not_lt] <;> first | rfl | simp_all, (by simp [a_rOne, m_rOne, mU_e, i_leN, c_1, u_2, -Int32.not_lt] <;> first | rfl | simp_all)⟩ rfl
  · have t_1 := i_nlt c_1
    refine lv_iload_n hx hb dX2_readOne_25 rfl (lv_at hl 4 rfl) ?_
    exact xiret ha hP hS dX2_readOne_26 ⟨by simp [a_rOne, m_rOne, mU_e, i_leN, c_1, -Int32.not_lt] <;> first | rfl | simp_all, (by simp [a_rOne, m_rOne, mU_e, i_leN, c_1, -Int32.not_lt] <;> first | rfl | simp_all)⟩ rfl
set_option maxHeartbeats 4000000 in
set_option maxRecDepth 100000 in
theorem c_X2_read (G : GT) (l : Launch) (σ : Mem) (o : Nat) (t : Nat) (ho : oPl o) (ht : oRow t) (hs60 : (σ t 0).toInt ≤ 60) : CI G 74 (cX G) l yX2_read ({ frames := 4, cells := 0, slots := 0, locals := 90 } : Room) cX2_read 5 (some .int) [.ref (G.1 o), .ref (G.1 t)] σ (fun (r : Int32) u => r = (rd0 o t σ).1 ∧ u = (rd0 o t σ).2) := by
  intro sz
  refine xbegin (by decide) (Nat.le_of_ble_eq_true rfl) ?_
  intro p e s m below meth c ls hsz ha hP hl
  subst hsz
  have hx := ha.1
  have hb := ha.2.1
  have hS : va_S (xA G 74 s.heap.size) s.heap s.heap [] := va_S.rf
  have hl : lv_has ls 5 [(0, .ref (G.1 o)), (1, .ref (G.1 t))] := hl
  have k_m9 : (-9 : Int32).toInt = -9 := by decide
  have k_0 : (0 : Int32).toInt = 0 := by decide
  have k_32 : (32 : Int32).toInt = 32 := by decide
  have k_109 : (109 : Int32).toInt = 109 := by decide
  have hot : t < o := by unfold oPl oRow at *; omega
  refine lv_aload_n hx hb dX2_read_0 rfl (lv_at hl 0 rfl) ?_
  refine lv_iconst (v := 0) hx hb dX2_read_1 (by decide) ?_
  refine p2_27 ha hP hS (cX_loc G) o (oPl_lt0 ho) (sPl ho) (x := 0) (Nat.le_of_ble_eq_true rfl) (mU σ o 0 0) (fun q hq => mU_n _ _ _ hq) (sPl_p0 ho) dX2_read_2 (fun H locs hP hS => ?_)
  refine lv_aload_n hx hb dX2_read_5 rfl (lv_at hl 0 rfl) ?_
  refine lv_iconst (v := 0) hx hb dX2_read_6 (by decide) ?_
  refine p2_31 ha hP hS (cX_loc G) o (oPl_lt0 ho) (sPl ho) (x := 0) (Nat.le_of_ble_eq_true rfl) (mU (mU σ o 0 0) o 1 0) (fun q hq => mU_n _ _ _ hq) (sPl_p1 ho) dX2_read_7 (fun H locs hP hS => ?_)
  refine lv_iconst (v := 0) hx hb dX2_read_10 (by decide) ?_
  refine lv_istore_n (lv' := [(2, .int 0), (0, .ref (G.1 o)), (1, .ref (G.1 t))]) hx hb dX2_read_11 rfl hl (by decide) rfl (fun ls hl => ?_)
  have lp_12 : ∀ (d j : Nat) (σj : Mem) (H : Heap) (locs : List Loc) (ls : Array Slot), j ≤ 64 → 64 - j < d → (PO o σj) → (σj t 0 = σ t 0) → (rd o t d σj (nI j) = rd0 o t σ) → va_P G.2.1 vwCl (wl G 74 (cX G σj)) H → va_S (xA G 74 s.heap.size) s.heap H locs → lv_has ls 5 [(2, .int (nI j)), (0, .ref (G.1 o)), (1, .ref (G.1 t))] → W p l e ({ frames := 4, cells := 0, slots := 0, locals := 90 } : Room) s m ([.ref (G.1 o), .ref (G.1 t)] : List Value).toArray below meth c H locs 0 0 (MQ below (va_Qi (fun (r : Int32) u => r = (rd0 o t σ).1 ∧ u = (rd0 o t σ).2) (xB G 74 (cX G)) (xA G 74 s.heap.size)) ([.ref (G.1 o), .ref (G.1 t)] : List Value).toArray s 0 0 (xA G 74 s.heap.size)) (F0 m 12 ls []) := by
    intro d
    induction d with
    | zero => intro j σj H locs ls hj hd; exact absurd hd (Nat.not_lt_zero _)
    | succ d ih_12 =>
      intro j σj H locs ls hj_j hd_j hpj hsz hR hP hS hl
      have h31_j : (nI j).toInt = (j : Int) := nI_toInt (by omega)
      have hsz2 := i_eq hsz
      refine lv_iload_n hx hb dX2_read_12 rfl (lv_at hl 0 rfl) ?_
      refine lv_aload_n hx hb dX2_read_13 rfl (lv_at hl 2 rfl) ?_
      refine g2_34 ha hP t (oRow_lt0 ht) (sRow ht) (v := .int (σj t 0)) rfl dX2_read_14 ?_
      refine lv_icmp_ge (tgt := 90) hx hb dX2_read_17 (by decide) (fun c_1 => ?_) (fun c_1 => ?_)
      · have t_1 := i_le c_1
        have u_1 := u_le c_1
        refine lv_aload_n hx hb dX2_read_90 rfl (lv_at hl 1 rfl) ?_
        refine g2_27 ha hP o (oPl_lt0 ho) (sPl ho) (v := .int (σj o 0)) rfl dX2_read_91 ?_
        refine lv_if_eq (tgt := 104) hx hb dX2_read_94 (by decide) (fun c_2 => ?_) (fun c_2 => ?_)
        · have t_2 := i_eq c_2
          refine lv_aload_n hx hb dX2_read_104 rfl (lv_at hl 2 rfl) ?_
          refine g2_34 ha hP t (oRow_lt0 ht) (sRow ht) (v := .int (σj t 0)) rfl dX2_read_105 ?_
          refine lv_goto (tgt := 113) hx hb dX2_read_108 (by decide) ?_
          exact xiret ha hP hS dX2_read_113 ⟨by rw [← hR, rd]; simp [i_leN, u_1, c_2, -Int32.not_lt], (by rw [← hR, rd]; simp [i_leN, u_1, c_2, -Int32.not_lt])⟩ rfl
        · have t_2 := i_ne c_2
          refine lv_aload_n hx hb dX2_read_97 rfl (lv_at hl 1 rfl) ?_
          refine g2_31 ha hP o (oPl_lt0 ho) (sPl ho) (v := .int (σj o 1)) rfl dX2_read_98 ?_
          have jn_3 : ∀ x_3 : Int32, x_3 = (if (σj o 1) = 0 then (σj t 0) else (-9)) → W p l e ({ frames := 4, cells := 0, slots := 0, locals := 90 } : Room) s m ([.ref (G.1 o), .ref (G.1 t)] : List Value).toArray below meth c H locs 0 0 (MQ below (va_Qi (fun (r : Int32) u => r = (rd0 o t σ).1 ∧ u = (rd0 o t σ).2) (xB G 74 (cX G)) (xA G 74 s.heap.size)) ([.ref (G.1 o), .ref (G.1 t)] : List Value).toArray s 0 0 (xA G 74 s.heap.size)) (F0 m 113 ls [.int x_3]) := by
            intro x_3 ex_3
            exact xiret ha hP hS dX2_read_113 ⟨by rw [← hR, rd]; simp [i_leN, u_1, c_2, ex_3, -Int32.not_lt], (by rw [← hR, rd]; simp [i_leN, u_1, c_2, ex_3, -Int32.not_lt])⟩ rfl
          refine lv_if_ne (tgt := 111) hx hb dX2_read_101 (by decide) (fun c_3 => ?_) (fun c_3 => ?_)
          · have t_3 := i_ne c_3
            refine lv_bipush (v := (-9)) hx hb dX2_read_111 (by decide) ?_
            exact jn_3 _ (if_neg c_3).symm
          · have t_3 := i_eq c_3
            refine lv_aload_n hx hb dX2_read_104 rfl (lv_at hl 2 rfl) ?_
            refine g2_34 ha hP t (oRow_lt0 ht) (sRow ht) (v := .int (σj t 0)) rfl dX2_read_105 ?_
            refine lv_goto (tgt := 113) hx hb dX2_read_108 (by decide) ?_
            exact jn_3 _ (if_pos c_3).symm
      · have t_1 := i_nle c_1
        have u_1 := u_nle c_1
        have hlt_j : j < 60 := by omega
        refine lv_aload_n hx hb dX2_read_20 rfl (lv_at hl 2 rfl) ?_
        refine lv_iload_n hx hb dX2_read_21 rfl (lv_at hl 0 rfl) ?_
        refine xVi ha hP hS (y := yX3_get) (As := [.int (nI j)]) (rest := []) t (oRow_lt0 ht) (sRow ht) rfl rfl (c_X3_get G l σj t (nI j) ht) kw_X2_39 hd_X3_get rfl ⟨rfl, rfl⟩ ⟨Nat.le_of_ble_eq_true rfl, Nat.le_of_ble_eq_true rfl⟩ ⟨Nat.zero_le _, Nat.zero_le _⟩ hl.1 (Nat.le_of_ble_eq_true rfl) rfl dX2_read_22 (fun r u H locs hpq hP hS => ?_)
        obtain ⟨hr_, hu_⟩ := hpq
        have hr_ := hr_.symm
        have hu_ := hu_.symm
        subst hr_
        subst hu_
        refine lv_istore_n (lv' := [(3, .int (a_get σj t (nI j))), (2, .int (nI j)), (0, .ref (G.1 o)), (1, .ref (G.1 t))]) hx hb dX2_read_25 rfl hl (by decide) rfl (fun ls hl => ?_)
        refine lv_bipush (v := (-9)) hx hb dX2_read_26 (by decide) ?_
        refine lv_istore (lv' := [(4, .int (-9)), (3, .int (a_get σj t (nI j))), (2, .int (nI j)), (0, .ref (G.1 o)), (1, .ref (G.1 t))]) hx hb dX2_read_28 hl (by decide) rfl (fun ls hl => ?_)
        refine lv_iload_n hx hb dX2_read_30 rfl (lv_at hl 1 rfl) ?_
        refine lv_bipush (v := 32) hx hb dX2_read_31 (by decide) ?_
        refine lv_icmp_ne (tgt := 42) hx hb dX2_read_33 (by decide) (fun c_4 => ?_) (fun c_4 => ?_)
        · have t_4 := i_ne c_4
          refine lv_iload_n hx hb dX2_read_42 rfl (lv_at hl 1 rfl) ?_
          refine lv_bipush (v := 109) hx hb dX2_read_43 (by decide) ?_
          refine lv_icmp_ne (tgt := 62) hx hb dX2_read_45 (by decide) (fun c_5 => ?_) (fun c_5 => ?_)
          · have t_5 := i_ne c_5
            refine lv_aload_n hx hb dX2_read_62 rfl (lv_at hl 3 rfl) ?_
            refine lv_aload_n hx hb dX2_read_63 rfl (lv_at hl 4 rfl) ?_
            refine lv_iload_n hx hb dX2_read_64 rfl (lv_at hl 2 rfl) ?_
            refine lv_iload_n hx hb dX2_read_65 rfl (lv_at hl 1 rfl) ?_
            refine xSi ha hP hS (y := yX2_kindOf) (As := [.int (a_get σj t (nI j))]) (rest := [.int (nI j), .ref (G.1 t), .ref (G.1 o)]) rfl (c_X2_kindOf G l σj (a_get σj t (nI j)) ) kw_X2_47 hd_X2_kindOf rfl ⟨rfl, rfl⟩ ⟨Nat.le_of_ble_eq_true rfl, Nat.le_of_ble_eq_true rfl⟩ ⟨Nat.zero_le _, Nat.zero_le _⟩ hl.1 (Nat.le_of_ble_eq_true rfl) rfl dX2_read_66 (fun r u H locs hpq hP hS => ?_)
            obtain ⟨hr_, hu_⟩ := hpq
            have hr_ := hr_.symm
            have hu_ := hu_.symm
            subst hr_
            subst hu_
            refine xVi ha hP hS (y := yX2_readPole) (As := [.ref (G.1 t), .int (nI j), .int (a_kind (a_get σj t (nI j)))]) (rest := []) o (oPl_lt0 ho) (sPl ho) rfl rfl (c_X2_readPole G l σj o t (nI j) (a_kind (a_get σj t (nI j))) ho ht hpj) kw_X2_50 hd_X2_readPole rfl ⟨rfl, rfl⟩ ⟨Nat.le_of_ble_eq_true rfl, Nat.le_of_ble_eq_true rfl⟩ ⟨Nat.zero_le _, Nat.zero_le _⟩ hl.1 (Nat.le_of_ble_eq_true rfl) rfl dX2_read_69 (fun r u H locs hpq hP hS => ?_)
            obtain ⟨hr_, hu_⟩ := hpq
            have hr_ := hr_.symm
            have hu_ := hu_.symm
            subst hr_
            subst hu_
            refine lv_istore (lv' := [(4, .int (a_rPole σj o t (nI j) (a_kind (a_get σj t (nI j))))), (3, .int (a_get σj t (nI j))), (2, .int (nI j)), (0, .ref (G.1 o)), (1, .ref (G.1 t))]) hx hb dX2_read_72 hl (by decide) rfl (fun ls hl => ?_)
            refine lv_iinc (v := (nI (j + 4))) (lv' := [(2, .int (nI (j + 4))), (4, .int (a_rPole σj o t (nI j) (a_kind (a_get σj t (nI j))))), (3, .int (a_get σj t (nI j))), (0, .ref (G.1 o)), (1, .ref (G.1 t))]) hx hb dX2_read_74 hl (k := 2) rfl (nI_add j 4) (by decide) rfl (fun ls hl => ?_)
            refine lv_iload hx hb dX2_read_77 (lv_at hl 1 rfl) ?_
            refine lv_bipush (v := (-9)) hx hb dX2_read_79 (by decide) ?_
            refine lv_icmp_eq (tgt := 87) hx hb dX2_read_81 (by decide) (fun c_6 => ?_) (fun c_6 => ?_)
            · have t_6 := i_eq c_6
              refine lv_goto (tgt := 12) hx hb dX2_read_87 (by decide) ?_
              exact ih_12 (j + 4) (m_rPole σj o t (nI j) (a_kind (a_get σj t (nI j)))) _ _ _ (by omega) (by omega) (PO_rPole hpj _ _ _) (by first | exact hsz | (rw [m_rOne_n _ _ _ _ (by omega)]; exact hsz) | (rw [m_rPole_n _ _ _ _ _ (by omega)]; exact hsz)) (by rw [← hR, rd]; simp [i_leN, u_1, c_4, c_5, c_6, -Int32.not_lt]; first | rw [nI_1] | rw [← nI_add _ 3]; rfl | rw [← nI_add _ 4]; rfl) hP hS (lv_sub hl [0, 3, 4] rfl)
            · have t_6 := i_ne c_6
              refine lv_iload hx hb dX2_read_84 (lv_at hl 1 rfl) ?_
              exact xiret ha hP hS dX2_read_86 ⟨by rw [← hR, rd]; simp [i_leN, u_1, c_4, c_5, c_6, -Int32.not_lt], (by rw [← hR, rd]; simp [i_leN, u_1, c_4, c_5, c_6, -Int32.not_lt])⟩ rfl
          · have t_5 := i_eq c_5
            refine lv_aload_n hx hb dX2_read_48 rfl (lv_at hl 3 rfl) ?_
            refine lv_aload_n hx hb dX2_read_49 rfl (lv_at hl 4 rfl) ?_
            refine lv_iload_n hx hb dX2_read_50 rfl (lv_at hl 2 rfl) ?_
            refine xVi ha hP hS (y := yX2_readOne) (As := [.ref (G.1 t), .int (nI j)]) (rest := []) o (oPl_lt0 ho) (sPl ho) rfl rfl (c_X2_readOne G l σj o t (nI j) ho ht hpj) kw_X2_43 hd_X2_readOne rfl ⟨rfl, rfl⟩ ⟨Nat.le_of_ble_eq_true rfl, Nat.le_of_ble_eq_true rfl⟩ ⟨Nat.zero_le _, Nat.zero_le _⟩ hl.1 (Nat.le_of_ble_eq_true rfl) rfl dX2_read_51 (fun r u H locs hpq hP hS => ?_)
            obtain ⟨hr_, hu_⟩ := hpq
            have hr_ := hr_.symm
            have hu_ := hu_.symm
            subst hr_
            subst hu_
            refine lv_istore (lv' := [(4, .int (a_rOne σj o t (nI j))), (3, .int (a_get σj t (nI j))), (2, .int (nI j)), (0, .ref (G.1 o)), (1, .ref (G.1 t))]) hx hb dX2_read_54 hl (by decide) rfl (fun ls hl => ?_)
            refine lv_iinc (v := (nI (j + 3))) (lv' := [(2, .int (nI (j + 3))), (4, .int (a_rOne σj o t (nI j))), (3, .int (a_get σj t (nI j))), (0, .ref (G.1 o)), (1, .ref (G.1 t))]) hx hb dX2_read_56 hl (k := 2) rfl (nI_add j 3) (by decide) rfl (fun ls hl => ?_)
            refine lv_goto (tgt := 77) hx hb dX2_read_59 (by decide) ?_
            refine lv_iload hx hb dX2_read_77 (lv_at hl 1 rfl) ?_
            refine lv_bipush (v := (-9)) hx hb dX2_read_79 (by decide) ?_
            refine lv_icmp_eq (tgt := 87) hx hb dX2_read_81 (by decide) (fun c_7 => ?_) (fun c_7 => ?_)
            · have t_7 := i_eq c_7
              refine lv_goto (tgt := 12) hx hb dX2_read_87 (by decide) ?_
              exact ih_12 (j + 3) (m_rOne σj o t (nI j)) _ _ _ (by omega) (by omega) (PO_rOne hpj _ _) (by first | exact hsz | (rw [m_rOne_n _ _ _ _ (by omega)]; exact hsz) | (rw [m_rPole_n _ _ _ _ _ (by omega)]; exact hsz)) (by rw [← hR, rd]; simp [i_leN, u_1, c_4, c_5, c_7, -Int32.not_lt]; first | rw [nI_1] | rw [← nI_add _ 3]; rfl | rw [← nI_add _ 4]; rfl) hP hS (lv_sub hl [0, 3, 4] rfl)
            · have t_7 := i_ne c_7
              refine lv_iload hx hb dX2_read_84 (lv_at hl 1 rfl) ?_
              exact xiret ha hP hS dX2_read_86 ⟨by rw [← hR, rd]; simp [i_leN, u_1, c_4, c_5, c_7, -Int32.not_lt], (by rw [← hR, rd]; simp [i_leN, u_1, c_4, c_5, c_7, -Int32.not_lt])⟩ rfl
        · have t_4 := i_eq c_4
          refine lv_iinc (v := (nI (j + 1))) (lv' := [(2, .int (nI (j + 1))), (4, .int (-9)), (3, .int (a_get σj t (nI j))), (0, .ref (G.1 o)), (1, .ref (G.1 t))]) hx hb dX2_read_36 hl (k := 2) rfl (nI_1 j) (by decide) rfl (fun ls hl => ?_)
          refine lv_goto (tgt := 77) hx hb dX2_read_39 (by decide) ?_
          refine lv_iload hx hb dX2_read_77 (lv_at hl 1 rfl) ?_
          refine lv_bipush (v := (-9)) hx hb dX2_read_79 (by decide) ?_
          refine lv_icmp_eq (tgt := 87) hx hb dX2_read_81 (by decide) (fun c_8 => ?_) (fun c_8 => ?_)
          · have t_8 := i_eq c_8
            refine lv_goto (tgt := 12) hx hb dX2_read_87 (by decide) ?_
            exact ih_12 (j + 1) σj _ _ _ (by omega) (by omega) hpj (by first | exact hsz | (rw [m_rOne_n _ _ _ _ (by omega)]; exact hsz) | (rw [m_rPole_n _ _ _ _ _ (by omega)]; exact hsz)) (by rw [← hR, rd]; simp [i_leN, u_1, c_4, -Int32.not_lt]; first | rw [nI_1] | rw [← nI_add _ 3]; rfl | rw [← nI_add _ 4]; rfl) hP hS (lv_sub hl [0, 3, 4] rfl)
          · have t_8 := i_ne c_8
            exact absurd c_8 (by decide)
  exact lp_12 (64 - 0 + 1) 0 (mU (mU σ o 0 0) o 1 0) _ _ _ (by omega) (by omega) (PO_00 o σ) (by rw [mU_n _ _ _ (by omega), mU_n _ _ _ (by omega)]) rfl hP hS (lv_sub hl [0, 1, 2] rfl)
