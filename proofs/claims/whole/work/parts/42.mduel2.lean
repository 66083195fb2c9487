theorem hd_X8_nextMove : kHd yX8_nextMove 1 := by decide +kernel
theorem hd_X8_opens : kHd yX8_opens 1 := by decide +kernel
theorem hd_X8_weighs : kHd yX8_weighs 2 := by decide +kernel
theorem kw_X8_282 : ∀ w ∈ k5V RX8 282 yX8_opens cX8_opens 2 none, w ∈ TB := tb_ins (by decide +kernel)
theorem kw_X8_292 : ∀ w ∈ k5V RX8 292 yX8_weighs cX8_weighs 4 none, w ∈ TB := tb_ins (by decide +kernel)
theorem kw_X8_286 : ∀ w ∈ k5V RX8 286 yX8_nextMove cX8_nextMove 3 (some .boolean), w ∈ TB := tb_ins (by decide +kernel)
set_option maxHeartbeats 800000 in
set_option maxRecDepth 100000 in
theorem c_X8_duel (G : GT) (l : Launch) (σ : Mem) (n : Int32) (hpb : PB (pM σ)) (hsv : SV (pM σ) σ 11) (F : Nat) (res : Int32 × Mem) (hpl : b_in n.toInt64 0 4 = true → ¬ σ 0 4 = 0 → dmO (pM σ) n F (w_open (w_aside σ) 0) 0 0 = some res) : CI G 24 (cM G) l yX8_duel ({ frames := 5, cells := 0, slots := 0, locals := 116 } : Room) cX8_duel 4 (some .int) [.ref (G.1 0), .int n] σ (fun (r : Int32) u => r = (if b_in n.toInt64 0 4 = true then (if σ 0 4 = 0 then -4 else res.1) else -1) ∧ u = (if b_in n.toInt64 0 4 = true then (if σ 0 4 = 0 then σ else res.2) else σ)) := by
  intro sz
  refine xbegin (by decide) (Nat.le_of_ble_eq_true rfl) ?_
  intro p e s m below meth c ls hsz ha hP hl
  subst hsz
  have hx := ha.1
  have hb := ha.2.1
  have hS : va_S (xA G 24 s.heap.size) s.heap s.heap [] := va_S.rf
  have hl : lv_has ls 4 [(0, .ref (G.1 0)), (1, .int n)] := hl
  have k_m4 : (-4 : Int32).toInt = -4 := by decide
  have k_m1 : (-1 : Int32).toInt = -1 := by decide
  have k_0 : (0 : Int32).toInt = 0 := by decide
  have k_4 : (4 : Int32).toInt = 4 := by decide
  have k_5 : (5 : Int32).toInt = 5 := by decide
  have k_6 : (6 : Int32).toInt = 6 := by decide
  have hPL := PB_pl hpb
  have hPE := PB_pe hpb
  have hp4 := PV_pl hpb (rfl : pM σ = pM σ)
  have hp5 := PV_pe hpb (rfl : pM σ = pM σ)
  refine lv_iload_n hx hb dX8_duel_0 rfl (lv_at hl 1 rfl) ?_
  refine lv_i2l (v := n.toInt64) hx hb dX8_duel_1 rfl ?_
  refine lv_lconst (v := 0) hx hb dX8_duel_2 (by decide) ?_
  refine lv_ldc2 (v := 4) hx hb ha.2.2.2.1 (ha.2.2.2.2.1 _ (tb_in (w := .constantLong RX8 280 4) (by decide +kernel))) dX8_duel_3 ?_
  refine xSi ha hP hS (y := yX8_in) (As := [.long n.toInt64, .long 0, .long 4]) (rest := []) rfl (c_X8_in G l σ n.toInt64 0 4 ) kw_X8_95 hd_X8_in rfl ⟨rfl, rfl⟩ ⟨Nat.le_of_ble_eq_true rfl, Nat.le_of_ble_eq_true rfl⟩ ⟨Nat.zero_le _, Nat.zero_le _⟩ hl.1 (Nat.le_of_ble_eq_true rfl) rfl dX8_duel_6 (fun r u H locs hpq hP hS => ?_)
  obtain ⟨hr_, hu_⟩ := hpq
  have hr_ := hr_.symm
  have hu_ := hu_.symm
  subst hr_
  subst hu_
  refine lv_if_ne (tgt := 14) hx hb dX8_duel_9 (by decide) (fun c_1 => ?_) (fun c_1 => ?_)
  · have t_1 := b2i_t c_1
    have f_1 := bin_t t_1
    try simp only [Int32.toInt_toInt64, ll_0, ll_1, ll_2, ll_3, ll_4, ll_5, ll_9, ll_12, ll_20, ll_40, ll_57, ll_99, ll_2147483646] at f_1
    refine lv_aload_n hx hb dX8_duel_14 rfl (lv_at hl 0 rfl) ?_
    refine g8_163 ha hP 0 (by decide) (cM_0 G _) (v := .int (σ 0 4)) rfl dX8_duel_15 ?_
    refine lv_if_ne (tgt := 24) hx hb dX8_duel_18 (by decide) (fun c_2 => ?_) (fun c_2 => ?_)
    · have t_2 := i_ne c_2
      have hp0 : 0 < nPl (pM σ) := by omega
      have hF := hpl (by assumption) (by assumption)
      have hsva := SV_aside hPE.2.1 hsv
      refine lv_aload_n hx hb dX8_duel_24 rfl (lv_at hl 0 rfl) ?_
      refine xVv ha hP hS (y := yX8_layAside) (As := []) (rest := []) 0 (by decide) (cM_0 G _) rfl rfl (c_X8_layAside G l σ  ) kw_X8_232 hd_X8_layAside rfl ⟨rfl, rfl⟩ ⟨Nat.le_of_ble_eq_true rfl, Nat.le_of_ble_eq_true rfl⟩ ⟨Nat.zero_le _, Nat.zero_le _⟩ hl.1 (Nat.le_of_ble_eq_true rfl) rfl dX8_duel_25 (fun u H locs hpq hP hS => ?_)
      have hpq := hpq.symm
      subst hpq
      refine lv_iconst (v := 0) hx hb dX8_duel_28 (by decide) ?_
      refine lv_istore_n (lv' := [(2, .int 0), (0, .ref (G.1 0)), (1, .int n)]) hx hb dX8_duel_29 rfl hl (by decide) rfl (fun ls hl => ?_)
      refine lv_aload_n hx hb dX8_duel_30 rfl (lv_at hl 1 rfl) ?_
      refine lv_iconst (v := 0) hx hb dX8_duel_31 (by decide) ?_
      refine xVv ha hP hS (y := yX8_opens) (As := [.int 0]) (rest := []) 0 (by decide) (cM_0 G _) rfl rfl (c_X8_opens G l (w_aside σ) (pM σ) 0 hpb ((pM_aside _).trans rfl) (⟨by omega, by omega⟩)) kw_X8_282 hd_X8_opens rfl ⟨rfl, rfl⟩ ⟨Nat.le_of_ble_eq_true rfl, Nat.le_of_ble_eq_true rfl⟩ ⟨Nat.zero_le _, Nat.zero_le _⟩ hl.1 (Nat.le_of_ble_eq_true rfl) rfl dX8_duel_32 (fun u H locs hpq hP hS => ?_)
      have hpq := hpq.symm
      subst hpq
      refine lv_iconst (v := 0) hx hb dX8_duel_35 (by decide) ?_
      refine lv_istore_n (lv' := [(3, .int 0), (2, .int 0), (0, .ref (G.1 0)), (1, .int n)]) hx hb dX8_duel_36 rfl hl (by decide) rfl (fun ls hl => ?_)
      have lp_37 : ∀ (d j : Nat) (x2 : Int32) (x3 : Int32) (τj : Mem) (H : Heap) (locs : List Loc) (ls : Array Slot), j ≤ F → F - j < d → x2 = x2 → x3 = x3 → (pM τj = pM σ) → (-1 ≤ x2.toInt ∧ x2.toInt ≤ n.toInt) → (DI (pM σ) τj x2) → (dmO (pM σ) n (F - j) τj x2 x3 = some res) → va_P G.2.1 vwCl (wl G 24 (cM G τj)) H → va_S (xA G 24 s.heap.size) s.heap H locs → lv_has ls 4 [(3, .int x3), (2, .int x2), (0, .ref (G.1 0)), (1, .int n)] → W p l e ({ frames := 5, cells := 0, slots := 0, locals := 116 } : Room) s m ([.ref (G.1 0), .int n] : List Value).toArray below meth c H locs 0 0 (MQ below (va_Qi (fun (r : Int32) u => r = (if b_in n.toInt64 0 4 = true then (if σ 0 4 = 0 then -4 else res.1) else -1) ∧ u = (if b_in n.toInt64 0 4 = true then (if σ 0 4 = 0 then σ else res.2) else σ)) (xB G 24 (cM G)) (xA G 24 s.heap.size)) ([.ref (G.1 0), .int n] : List Value).toArray s 0 0 (xA G 24 s.heap.size)) (F0 m 37 ls []) := by
        intro d
        induction d with
        | zero => intro j x2 x3 τj H locs ls hj hd; exact absurd hd (Nat.not_lt_zero _)
        | succ d ih_37 =>
          intro j x2 x3 τj H locs ls hj_j hd_j e_x2 e_x3 hPj hxr hDI hR hP hS hl
          refine lv_iload_n hx hb dX8_duel_37 rfl (lv_at hl 1 rfl) ?_
          refine lv_if_lt (tgt := 100) hx hb dX8_duel_38 (by decide) (fun c_3 => ?_) (fun c_3 => ?_)
          · have t_3 := i_lt c_3
            have hlt0 := c_3
            have hres : res = (x3, τj) := by cases hj9 : F - j with | zero => (rw [hj9, dmO] at hR; cases hR) | succ f => (rw [hj9, dmO, if_pos hlt0] at hR; exact (Option.some.inj hR).symm)
            refine lv_iload_n hx hb dX8_duel_100 rfl (lv_at hl 0 rfl) ?_
            exact xiret ha hP hS dX8_duel_101 ⟨by simp [t_1, c_2, c_3, hres], (by simp [t_1, c_2, c_3, hres])⟩ rfl
          · have t_3 := i_nlt c_3
            have hge0 := c_3
            obtain ⟨f, hf⟩ : ∃ f, F - j = f + 1 := by cases hj9 : F - j with | zero => (rw [hj9, dmO] at hR; cases hR) | succ f => exact ⟨f, rfl⟩
            rw [hf, dmO, if_neg hge0] at hR
            have hff : F - (j + 1) = f := by omega
            have hxx := ix_toInt (show 0 ≤ x2.toInt by omega)
            have hxn := ix_nI (show 0 ≤ x2.toInt by omega)
            have hdq := hDI.2 (ix x2) (by omega)
            rw [← hxn] at hdq
            have htx : 0 ≤ x2.toInt ∧ x2.toInt ≤ 4 := ⟨by omega, by omega⟩
            have hdmm : Hid (-1 ≤ (τj 21 (ix x2)).toInt ∧ (τj 21 (ix x2)).toInt ≤ (b_most (pM σ) x2).toInt) := ⟨hdq.1, hdq.2.1⟩
            clear hdq
            refine lv_iload_n hx hb dX8_duel_41 rfl (lv_at hl 1 rfl) ?_
            refine lv_iload_n hx hb dX8_duel_42 rfl (lv_at hl 3 rfl) ?_
            refine lv_icmp_ge (tgt := 65) hx hb dX8_duel_43 (by decide) (fun c_4 => ?_) (fun c_4 => ?_)
            · have t_4 := i_le c_4
              have u_4 := u_le c_4
              refine lv_iload_n hx hb dX8_duel_65 rfl (lv_at hl 1 rfl) ?_
              refine lv_iload_n hx hb dX8_duel_66 rfl (lv_at hl 3 rfl) ?_
              refine lv_icmp_ne (tgt := 77) hx hb dX8_duel_67 (by decide) (fun c_5 => ?_) (fun c_5 => ?_)
              · have t_5 := i_ne c_5
                skip
                exact absurd (Int.le_antisymm hxr.2 t_4) t_5
              · have t_5 := i_eq c_5
                refine lv_aload_n hx hb dX8_duel_70 rfl (lv_at hl 2 rfl) ?_
                refine xVi ha hP hS (y := yX8_worth) (As := []) (rest := []) 0 (by decide) (cM_0 G _) rfl rfl (c_X8_worth G l τj (pM σ) hpb hPj hDI.1) kw_X8_289 hd_X8_worth rfl ⟨rfl, rfl⟩ ⟨Nat.le_of_ble_eq_true rfl, Nat.le_of_ble_eq_true rfl⟩ ⟨Nat.zero_le _, Nat.zero_le _⟩ hl.1 (Nat.le_of_ble_eq_true rfl) rfl dX8_duel_71 (fun r u H locs hpq hP hS => ?_)
                obtain ⟨hr_, hu_⟩ := hpq
                have hr_ := hr_.symm
                have hu_ := hu_.symm
                subst hr_
                subst hu_
                refine lv_goto (tgt := 83) hx hb dX8_duel_74 (by decide) ?_
                refine lv_istore_n (lv' := [(3, .int (b_worth (pM σ) (sM τj 12))), (2, .int x2), (0, .ref (G.1 0)), (1, .int n)]) hx hb dX8_duel_83 rfl hl (by decide) rfl (fun ls hl => ?_)
                obtain ⟨y, hy0⟩ : ∃ y, y = x2 + (-1) := ⟨_, rfl⟩
                have hyi : y.toInt = x2.toInt - 1 := by rw [hy0, Int32.toInt_add, show (-1 : Int32).toInt = -1 by decide]; exact Int.bmod_eq_of_le (by omega) (by omega)
                rw [← hy0] at hR
                refine lv_iinc (v := y) (lv' := [(2, .int y), (3, .int (b_worth (pM σ) (sM τj 12))), (0, .ref (G.1 0)), (1, .int n)]) hx hb dX8_duel_84 hl (k := 1) rfl hy0.symm (by decide) rfl (fun ls hl => ?_)
                refine lv_iload_n hx hb dX8_duel_87 rfl (lv_at hl 0 rfl) ?_
                refine lv_if_lt (tgt := 37) hx hb dX8_duel_88 (by decide) (fun c_6 => ?_) (fun c_6 => ?_)
                · have t_6 := i_lt c_6
                  have hDIn := (DW_leaf htx.1 htx.2 hDI).1
                  rw [← hy0] at hDIn
                  exact ih_37 (j + 1) y (b_worth (pM σ) (sM τj 12)) τj _ _ _ (by omega) (by omega) rfl rfl hPj ⟨by omega, by omega⟩ hDIn (by rw [hff]; simpa [t_1, c_2, c_3, u_4, c_5, c_6, -Int32.not_lt] using hR) hP hS (lv_sub hl [1, 0, 2, 3] rfl)
                · have t_6 := i_nlt c_6
                  have hDW := DW_leaf htx.1 htx.2 hDI
                  rw [← hy0] at hDW
                  have hy := ix_toInt (show 0 ≤ y.toInt by omega)
                  have hyn := ix_nI (show 0 ≤ y.toInt by omega)
                  have htw : 0 ≤ y.toInt ∧ y.toInt ≤ 4 := ⟨by omega, by omega⟩
                  have hdq := hDW.1.2 (ix y) (by omega)
                  rw [← hyn] at hdq
                  have hdww : Hid ((τj 21 (ix y)).toInt ≤ (b_most (pM σ) y).toInt) := hdq.2.1
                  clear hdq
                  have hDIn := DI_wg (came := b_worth (pM σ) (sM τj 12)) htw.1 hDW
                  refine lv_aload_n hx hb dX8_duel_91 rfl (lv_at hl 2 rfl) ?_
                  refine lv_iload_n hx hb dX8_duel_92 rfl (lv_at hl 0 rfl) ?_
                  refine lv_iload_n hx hb dX8_duel_93 rfl (lv_at hl 1 rfl) ?_
                  refine xVv ha hP hS (y := yX8_weighs) (As := [.int y, .int (b_worth (pM σ) (sM τj 12))]) (rest := []) 0 (by decide) (cM_0 G _) rfl rfl (c_X8_weighs G l τj (pM σ) y (b_worth (pM σ) (sM τj 12)) hpb hPj htw hp0 hdww) kw_X8_292 hd_X8_weighs rfl ⟨rfl, rfl⟩ ⟨Nat.le_of_ble_eq_true rfl, Nat.le_of_ble_eq_true rfl⟩ ⟨Nat.zero_le _, Nat.zero_le _⟩ hl.1 (Nat.le_of_ble_eq_true rfl) rfl dX8_duel_94 (fun u H locs hpq hP hS => ?_)
                  have hpq := hpq.symm
                  subst hpq
                  refine lv_goto (tgt := 37) hx hb dX8_duel_97 (by decide) ?_
                  exact ih_37 (j + 1) y (b_worth (pM σ) (sM τj 12)) (w_wg (pM σ) τj y (b_worth (pM σ) (sM τj 12))) _ _ _ (by omega) (by omega) rfl rfl ((pM_wg _ _ _ _).trans hPj) ⟨by omega, by omega⟩ hDIn (by rw [hff]; simpa [t_1, c_2, c_3, u_4, c_5, c_6, -Int32.not_lt] using hR) hP hS (lv_sub hl [1, 0, 2, 3] rfl)
            · have t_4 := i_nle c_4
              have u_4 := u_nle c_4
              refine lv_aload_n hx hb dX8_duel_46 rfl (lv_at hl 2 rfl) ?_
              refine lv_iload_n hx hb dX8_duel_47 rfl (lv_at hl 1 rfl) ?_
              refine xVi ha hP hS (y := yX8_nextMove) (As := [.int x2]) (rest := []) 0 (by decide) (cM_0 G _) rfl rfl (c_X8_nextMove G l τj (pM σ) x2 hpb hPj htx hp0 hdmm.1 hdmm.2) kw_X8_286 hd_X8_nextMove rfl ⟨rfl, rfl⟩ ⟨Nat.le_of_ble_eq_true rfl, Nat.le_of_ble_eq_true rfl⟩ ⟨Nat.zero_le _, Nat.zero_le _⟩ hl.1 (Nat.le_of_ble_eq_true rfl) rfl dX8_duel_48 (fun r u H locs hpq hP hS => ?_)
              obtain ⟨hr_, hu_⟩ := hpq
              have hr_ := hr_.symm
              have hu_ := hu_.symm
              subst hr_
              subst hu_
              refine lv_if_eq (tgt := 65) hx hb dX8_duel_51 (by decide) (fun c_7 => ?_) (fun c_7 => ?_)
              · have t_7 := b2i_f c_7
                refine lv_iload_n hx hb dX8_duel_65 rfl (lv_at hl 1 rfl) ?_
                refine lv_iload_n hx hb dX8_duel_66 rfl (lv_at hl 3 rfl) ?_
                refine lv_icmp_ne (tgt := 77) hx hb dX8_duel_67 (by decide) (fun c_8 => ?_) (fun c_8 => ?_)
                · have t_8 := i_ne c_8
                  clear t_8
                  refine lv_aload_n hx hb dX8_duel_77 rfl (lv_at hl 2 rfl) ?_
                  refine g8_77 ha hP 0 (by decide) (cM_0 G _) (v := .ref (G.1 22)) rfl dX8_duel_78 ?_
                  refine lv_iload_n hx hb dX8_duel_81 rfl (lv_at hl 1 rfl) ?_
                  refine xialdN ha hP 22 (by decide) (cM_22 G _) (ix x2) (ix_nI (by omega)) (ix_lt (by omega) (by omega)) (by decide) dX8_duel_82 ?_
                  refine lv_istore_n (lv' := [(3, .int (((nm (pM σ) τj x2).2) 22 (ix x2))), (2, .int x2), (0, .ref (G.1 0)), (1, .int n)]) hx hb dX8_duel_83 rfl hl (by decide) rfl (fun ls hl => ?_)
                  obtain ⟨y, hy0⟩ : ∃ y, y = x2 + (-1) := ⟨_, rfl⟩
                  have hyi : y.toInt = x2.toInt - 1 := by rw [hy0, Int32.toInt_add, show (-1 : Int32).toInt = -1 by decide]; exact Int.bmod_eq_of_le (by omega) (by omega)
                  rw [← hy0] at hR
                  refine lv_iinc (v := y) (lv' := [(2, .int y), (3, .int (((nm (pM σ) τj x2).2) 22 (ix x2))), (0, .ref (G.1 0)), (1, .int n)]) hx hb dX8_duel_84 hl (k := 1) rfl hy0.symm (by decide) rfl (fun ls hl => ?_)
                  refine lv_iload_n hx hb dX8_duel_87 rfl (lv_at hl 0 rfl) ?_
                  refine lv_if_lt (tgt := 37) hx hb dX8_duel_88 (by decide) (fun c_9 => ?_) (fun c_9 => ?_)
                  · have t_9 := i_lt c_9
                    have hDIn := (DW_nm hpb hp0 htx.1 htx.2 hDI).1
                    rw [← hy0] at hDIn
                    exact ih_37 (j + 1) y (((nm (pM σ) τj x2).2) 22 (ix x2)) ((nm (pM σ) τj x2).2) _ _ _ (by omega) (by omega) rfl rfl ((pM_nm _ _ _).trans hPj) ⟨by omega, by omega⟩ hDIn (by rw [hff]; simpa [t_1, c_2, c_3, u_4, t_7, c_8, c_9, -Int32.not_lt] using hR) hP hS (lv_sub hl [1, 0, 2, 3] rfl)
                  · have t_9 := i_nlt c_9
                    have hDW := DW_nm hpb hp0 htx.1 htx.2 hDI
                    rw [← hy0] at hDW
                    have hy := ix_toInt (show 0 ≤ y.toInt by omega)
                    have hyn := ix_nI (show 0 ≤ y.toInt by omega)
                    have htw : 0 ≤ y.toInt ∧ y.toInt ≤ 4 := ⟨by omega, by omega⟩
                    have hdq := hDW.1.2 (ix y) (by omega)
                    rw [← hyn] at hdq
                    have hdww : Hid (((nm (pM σ) τj x2).2 21 (ix y)).toInt ≤ (b_most (pM σ) y).toInt) := hdq.2.1
                    clear hdq
                    have hDIn := DI_wg (came := (nm (pM σ) τj x2).2 22 (ix x2)) htw.1 hDW
                    refine lv_aload_n hx hb dX8_duel_91 rfl (lv_at hl 2 rfl) ?_
                    refine lv_iload_n hx hb dX8_duel_92 rfl (lv_at hl 0 rfl) ?_
                    refine lv_iload_n hx hb dX8_duel_93 rfl (lv_at hl 1 rfl) ?_
                    refine xVv ha hP hS (y := yX8_weighs) (As := [.int y, .int (((nm (pM σ) τj x2).2) 22 (ix x2))]) (rest := []) 0 (by decide) (cM_0 G _) rfl rfl (c_X8_weighs G l ((nm (pM σ) τj x2).2) (pM σ) y (((nm (pM σ) τj x2).2) 22 (ix x2)) hpb ((pM_nm _ _ _).trans hPj) htw hp0 hdww) kw_X8_292 hd_X8_weighs rfl ⟨rfl, rfl⟩ ⟨Nat.le_of_ble_eq_true rfl, Nat.le_of_ble_eq_true rfl⟩ ⟨Nat.zero_le _, Nat.zero_le _⟩ hl.1 (Nat.le_of_ble_eq_true rfl) rfl dX8_duel_94 (fun u H locs hpq hP hS => ?_)
                    have hpq := hpq.symm
                    subst hpq
                    refine lv_goto (tgt := 37) hx hb dX8_duel_97 (by decide) ?_
                    exact ih_37 (j + 1) y (((nm (pM σ) τj x2).2) 22 (ix x2)) (w_wg (pM σ) ((nm (pM σ) τj x2).2) y (((nm (pM σ) τj x2).2) 22 (ix x2))) _ _ _ (by omega) (by omega) rfl rfl ((pM_wg _ _ _ _).trans ((pM_nm _ _ _).trans hPj)) ⟨by omega, by omega⟩ hDIn (by rw [hff]; simpa [t_1, c_2, c_3, u_4, t_7, c_8, c_9, -Int32.not_lt] using hR) hP hS (lv_sub hl [1, 0, 2, 3] rfl)
                · have t_8 := i_eq c_8
                  exact absurd t_8 (Int.ne_of_lt t_4)
              · have t_7 := b2i_t c_7
                have hDIn := DI_down hpb hp0 (by omega) (by omega) hDI t_7
                obtain ⟨z, hz0⟩ : ∃ z, z = x2 + 1 := ⟨_, rfl⟩
                have hzi : z.toInt = x2.toInt + 1 := by rw [hz0, Int32.toInt_add, show (1 : Int32).toInt = 1 by decide]; exact Int.bmod_eq_of_le (by omega) (by omega)
                rw [← hz0] at hR hDIn
                refine lv_iinc (v := z) (lv' := [(2, .int z), (3, .int x3), (0, .ref (G.1 0)), (1, .int n)]) hx hb dX8_duel_54 hl (k := 1) rfl hz0.symm (by decide) rfl (fun ls hl => ?_)
                refine lv_aload_n hx hb dX8_duel_57 rfl (lv_at hl 2 rfl) ?_
                refine lv_iload_n hx hb dX8_duel_58 rfl (lv_at hl 0 rfl) ?_
                refine xVv ha hP hS (y := yX8_opens) (As := [.int z]) (rest := []) 0 (by decide) (cM_0 G _) rfl rfl (c_X8_opens G l ((nm (pM σ) τj x2).2) (pM σ) z hpb ((pM_nm _ _ _).trans hPj) (⟨by omega, by omega⟩)) kw_X8_282 hd_X8_opens rfl ⟨rfl, rfl⟩ ⟨Nat.le_of_ble_eq_true rfl, Nat.le_of_ble_eq_true rfl⟩ ⟨Nat.zero_le _, Nat.zero_le _⟩ hl.1 (Nat.le_of_ble_eq_true rfl) rfl dX8_duel_59 (fun u H locs hpq hP hS => ?_)
                have hpq := hpq.symm
                subst hpq
                refine lv_goto (tgt := 37) hx hb dX8_duel_62 (by decide) ?_
                exact ih_37 (j + 1) z x3 (w_open ((nm (pM σ) τj x2).2) z) _ _ _ (by omega) (by omega) rfl rfl ((pM_open _ _).trans ((pM_nm _ _ _).trans hPj)) ⟨by omega, by omega⟩ hDIn (by rw [hff]; simpa [t_1, c_2, c_3, u_4, t_7, -Int32.not_lt] using hR) hP hS (lv_sub hl [1, 0, 2, 3] rfl)
      exact lp_37 (F - 0 + 1) 0 0 0 (w_open (w_aside σ) 0) _ _ _ (by omega) (by omega) rfl rfl ((pM_open _ _).trans ((pM_aside _).trans rfl)) ⟨by decide, by omega⟩ (DI_0 hpb hsva) hF hP hS (lv_sub hl [0, 1, 2, 3] rfl)
    · have t_2 := i_eq c_2
      refine lv_bipush (v := (-4)) hx hb dX8_duel_21 (by decide) ?_
      exact xiret ha hP hS dX8_duel_23 ⟨by simp [t_1, c_2], (by simp [t_1, c_2])⟩ rfl
  · have t_1 := b2i_f c_1
    have f_1 := bin_f t_1
    try simp only [Int32.toInt_toInt64, ll_0, ll_1, ll_2, ll_3, ll_4, ll_5, ll_9, ll_12, ll_20, ll_40, ll_57, ll_99, ll_2147483646] at f_1
    refine lv_iconst (v := (-1)) hx hb dX8_duel_12 (by decide) ?_
    exact xiret ha hP hS dX8_duel_13 ⟨by simp [t_1], (by simp [t_1])⟩ rfl
