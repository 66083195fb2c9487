theorem hd_X8_lacingsBy : kHd yX8_lacingsBy 2 := by decide +kernel
theorem kw_X8_258 : ∀ w ∈ k5V RX8 258 yX8_lacingsBy cX8_lacingsBy 6 (some .int), w ∈ TB := tb_ins (by decide +kernel)
set_option maxHeartbeats 4000000 in
set_option maxRecDepth 100000 in
theorem c_X8_lacingsBy (G : GT) (l : Launch) (σ : Mem) (P : PT) (cd : Nat) (n : Int32) (hpb : PB P) (hPV : pM σ = P) (hcd : cd < 4000) (hn5 : 0 ≤ n.toInt ∧ n.toInt ≤ 5) : CI G 24 (cM G) l yX8_lacingsBy ({ frames := 5, cells := 0, slots := 0, locals := 117 } : Room) cX8_lacingsBy 6 (some .int) [.ref (G.1 0), .int (nI cd), .int n] σ (fun (r : Int32) u => r = (n_lac P σ cd (ix n)).1 ∧ u = (n_lac P σ cd (ix n)).2) := by
  intro sz
  refine xbegin (by decide) (Nat.le_of_ble_eq_true rfl) ?_
  intro p e s m below meth c ls hsz ha hP hl
  subst hsz
  have hx := ha.1
  have hb := ha.2.1
  have hS : va_S (xA G 24 s.heap.size) s.heap s.heap [] := va_S.rf
  have hl : lv_has ls 6 [(0, .ref (G.1 0)), (1, .int (nI cd)), (2, .int n)] := hl
  have k_0 : (0 : Int32).toInt = 0 := by decide
  have k_1 : (1 : Int32).toInt = 1 := by decide
  have k_4 : (4 : Int32).toInt = 4 := by decide
  have k_5 : (5 : Int32).toInt = 5 := by decide
  have k_6 : (6 : Int32).toInt = 6 := by decide
  have k_1000000 : (1000000 : Int32).toInt = 1000000 := by decide
  have hPL := PB_pl hpb
  have hPE := PB_pe hpb
  have hp4 := PV_pl hpb hPV
  have hp5 := PV_pe hpb hPV
  have hni := ix_toInt hn5.1
  have hnI := ix_nI hn5.1
  refine lv_iload_n hx hb dX8_lacingsBy_0 rfl (lv_at hl 1 rfl) ?_
  refine lv_istore_n (lv' := [(3, .int (nI cd)), (0, .ref (G.1 0)), (1, .int (nI cd)), (2, .int n)]) hx hb dX8_lacingsBy_1 rfl hl (by decide) rfl (fun ls hl => ?_)
  refine lv_iconst (v := 0) hx hb dX8_lacingsBy_2 (by decide) ?_
  refine lv_istore (lv' := [(4, .int 0), (3, .int (nI cd)), (0, .ref (G.1 0)), (1, .int (nI cd)), (2, .int n)]) hx hb dX8_lacingsBy_3 hl (by decide) rfl (fun ls hl => ?_)
  refine lv_iload_n hx hb dX8_lacingsBy_5 rfl (lv_at hl 4 rfl) ?_
  refine lv_iconst (v := 1) hx hb dX8_lacingsBy_6 (by decide) ?_
  refine lv_isub hx hb dX8_lacingsBy_7 ?_
  refine lv_istore (lv' := [(5, .int (n - 1)), (4, .int 0), (3, .int (nI cd)), (0, .ref (G.1 0)), (1, .int (nI cd)), (2, .int n)]) hx hb dX8_lacingsBy_8 hl (by decide) rfl (fun ls hl => ?_)
  have lp_10 : ∀ (d j : Nat) (x3 : Int32) (x4 : Int32) (x5 : Int32) (σj : Mem) (H : Heap) (locs : List Loc) (ls : Array Slot), j ≤ (ix n) → (ix n) - j < d → x3 = nI (lf (nPl P + 1) cd j) → x4 = lacm P cd j → x5 = nI (ix n - j) - 1 → σj = w_lac P cd σ (ix n) j → (pM σj = P) → va_P G.2.1 vwCl (wl G 24 (cM G σj)) H → va_S (xA G 24 s.heap.size) s.heap H locs → lv_has ls 6 [(5, .int x5), (4, .int x4), (3, .int x3), (0, .ref (G.1 0)), (1, .int (nI cd)), (2, .int n)] → W p l e ({ frames := 5, cells := 0, slots := 0, locals := 117 } : Room) s m ([.ref (G.1 0), .int (nI cd), .int n] : List Value).toArray below meth c H locs 0 0 (MQ below (va_Qi (fun (r : Int32) u => r = (n_lac P σ cd (ix n)).1 ∧ u = (n_lac P σ cd (ix n)).2) (xB G 24 (cM G)) (xA G 24 s.heap.size)) ([.ref (G.1 0), .int (nI cd), .int n] : List Value).toArray s 0 0 (xA G 24 s.heap.size)) (F0 m 10 ls []) := by
    intro d
    induction d with
    | zero => intro j x3 x4 x5 σj H locs ls hj hd; exact absurd hd (Nat.not_lt_zero _)
    | succ d ih_10 =>
      intro j x3 x4 x5 σj H locs ls hj_j hd_j e_x3 e_x4 e_x5 e_σj hPj hP hS hl
      have hx5 : x5.toInt = (ix n : Int) - (j : Int) - 1 := by rw [e_x5]; exact down_i (by omega) hj_j
      have hlf := lf_le (nPl P + 1) cd j
      have hw4 : σj 0 4 = nI (nPl P) := (PV_4 hPj).trans hPL.1
      refine lv_iload hx hb dX8_lacingsBy_10 (lv_at hl 0 rfl) ?_
      refine lv_if_lt (tgt := 67) hx hb dX8_lacingsBy_12 (by decide) (fun c_1 => ?_) (fun c_1 => ?_)
      · have t_1 := i_lt c_1
        obtain rfl : j = (ix n) := by omega
        refine lv_aload_n hx hb dX8_lacingsBy_67 rfl (lv_at hl 3 rfl) ?_
        refine xVv ha hP hS (y := yX8_layAside) (As := []) (rest := []) 0 (by decide) (cM_0 G _) rfl rfl (c_X8_layAside G l σj  ) kw_X8_232 hd_X8_layAside rfl ⟨rfl, rfl⟩ ⟨Nat.le_of_ble_eq_true rfl, Nat.le_of_ble_eq_true rfl⟩ ⟨Nat.zero_le _, Nat.zero_le _⟩ hl.1 (Nat.le_of_ble_eq_true rfl) rfl dX8_lacingsBy_68 (fun u H locs hpq hP hS => ?_)
        have hpq := hpq.symm
        subst hpq
        refine lv_iconst (v := 0) hx hb dX8_lacingsBy_71 (by decide) ?_
        refine lv_istore (lv' := [(5, .int 0), (4, .int x4), (3, .int x3), (0, .ref (G.1 0)), (1, .int (nI cd)), (2, .int n)]) hx hb dX8_lacingsBy_72 hl (by decide) rfl (fun ls hl => ?_)
        have lp_74 : ∀ (d j1 : Nat) (τj : Mem) (H : Heap) (locs : List Loc) (ls : Array Slot), j1 ≤ (ix n) → (ix n) - j1 < d → τj = lb P (w_lac P cd σ (ix n) (ix n)) j1 → (pM τj = P) → (fstN (lbad P (w_lac P cd σ (ix n) (ix n))) j1 = j1) → va_P G.2.1 vwCl (wl G 24 (cM G τj)) H → va_S (xA G 24 s.heap.size) s.heap H locs → lv_has ls 6 [(5, .int (nI j1)), (4, .int x4), (0, .ref (G.1 0)), (1, .int (nI cd)), (2, .int n)] → W p l e ({ frames := 5, cells := 0, slots := 0, locals := 117 } : Room) s m ([.ref (G.1 0), .int (nI cd), .int n] : List Value).toArray below meth c H locs 0 0 (MQ below (va_Qi (fun (r : Int32) u => r = (n_lac P σ cd (ix n)).1 ∧ u = (n_lac P σ cd (ix n)).2) (xB G 24 (cM G)) (xA G 24 s.heap.size)) ([.ref (G.1 0), .int (nI cd), .int n] : List Value).toArray s 0 0 (xA G 24 s.heap.size)) (F0 m 74 ls []) := by
          intro d
          induction d with
          | zero => intro j1 τj H locs ls hj hd; exact absurd hd (Nat.not_lt_zero _)
          | succ d ih_74 =>
            intro j1 τj H locs ls hj_j1 hd_j1 e_τj hPk hst hP hS hl
            have h31_j1 : (nI j1).toInt = (j1 : Int) := nI_toInt (by omega)
            have hl20 : τj 20 j1 = (w_lac P cd σ (ix n) (ix n)) 20 j1 := by rw [e_τj, lb_n _ _ (by decide)]
            refine lv_iload hx hb dX8_lacingsBy_74 (lv_at hl 0 rfl) ?_
            refine lv_iload_n hx hb dX8_lacingsBy_76 rfl (lv_at hl 4 rfl) ?_
            refine lv_icmp_ge (tgt := 145) hx hb dX8_lacingsBy_77 (by decide) (fun c_2 => ?_) (fun c_2 => ?_)
            · have t_2 := i_le c_2
              have u_2 := u_le c_2
              obtain rfl : j1 = (ix n) := by omega
              refine lv_iload hx hb dX8_lacingsBy_145 (lv_at hl 1 rfl) ?_
              exact xiret ha hP hS dX8_lacingsBy_147 ⟨by rw [n_lac, if_pos hst]; exact e_x4, (by rw [n_lac, if_pos hst]; exact e_τj)⟩ rfl
            · have t_2 := i_nle c_2
              have u_2 := u_nle c_2
              have hlt_j1 : j1 < (ix n) := by omega
              have hlp : ¬ τj 20 j1 < 0 → a_isPole P (τj 20 j1) = true := fun hn0 => by have e1 := hl20.trans (lac_at P cd σ (ix n) (ix n) (Nat.le_refl _) j1 hlt_j1 (by omega)); rw [e1] at hn0 ⊢; exact dg_1 hpb (Nat.mod_lt _ (by omega)) hn0
              refine lv_aload_n hx hb dX8_lacingsBy_80 rfl (lv_at hl 2 rfl) ?_
              refine g8_71 ha hP 0 (by decide) (cM_0 G _) (v := .ref (G.1 20)) rfl dX8_lacingsBy_81 ?_
              refine lv_iload hx hb dX8_lacingsBy_84 (lv_at hl 0 rfl) ?_
              refine xialdN ha hP 20 (by decide) (cM_20 G _) j1 rfl (by omega) (by decide) dX8_lacingsBy_86 ?_
              refine lv_if_lt (tgt := 125) hx hb dX8_lacingsBy_87 (by decide) (fun c_3 => ?_) (fun c_3 => ?_)
              · have t_3 := i_lt c_3
                refine lv_aload_n hx hb dX8_lacingsBy_125 rfl (lv_at hl 2 rfl) ?_
                refine lv_aload_n hx hb dX8_lacingsBy_126 rfl (lv_at hl 2 rfl) ?_
                refine g8_47 ha hP 0 (by decide) (cM_0 G _) (v := .ref (G.1 12)) rfl dX8_lacingsBy_127 ?_
                refine xVi ha hP hS (y := yX8_yearGoes) (As := [.ref (G.1 12)]) (rest := []) 0 (by decide) (cM_0 G _) rfl rfl (c_X8_yearGoes G l τj P 12 hpb hPk (by unfold oT; omega)) kw_X8_223 hd_X8_yearGoes rfl ⟨rfl, rfl⟩ ⟨Nat.le_of_ble_eq_true rfl, Nat.le_of_ble_eq_true rfl⟩ ⟨Nat.zero_le _, Nat.zero_le _⟩ hl.1 (Nat.le_of_ble_eq_true rfl) rfl dX8_lacingsBy_130 (fun r u H locs hpq hP hS => ?_)
                obtain ⟨hr_, hu_⟩ := hpq
                have hr_ := hr_.symm
                have hu_ := hu_.symm
                subst hr_
                subst hu_
                refine lv_if_eq (tgt := 139) hx hb dX8_lacingsBy_133 (by decide) (fun c_4 => ?_) (fun c_4 => ?_)
                · have t_4 := i_eq c_4
                  refine lv_iinc (v := (nI (j1 + 1))) (lv' := [(5, .int (nI (j1 + 1))), (4, .int x4), (0, .ref (G.1 0)), (1, .int (nI cd)), (2, .int n)]) hx hb dX8_lacingsBy_139 hl (k := 0) rfl (nI_1 j1) (by decide) rfl (fun ls hl => ?_)
                  refine lv_goto (tgt := 74) hx hb dX8_lacingsBy_142 (by decide) ?_
                  exact ih_74 (j1 + 1) (w_year P τj 12) _ _ _ (by omega) (by omega) (by rw [lb, ← hl20, ← e_τj]; simp [c_1, u_2, c_3, c_4, -Int32.not_lt, -Nat.zero_add]) ((pM_year _ _ (by unfold oT; omega)).trans hPk) (fstN_s hst (by unfold lbad; rw [← hl20, ← e_τj]; simp [c_1, u_2, c_3, c_4, -Int32.not_lt, -Nat.zero_add])) hP hS (lv_sub hl [0, 1, 2, 3, 4] rfl)
                · have t_4 := i_ne c_4
                  have HB : (lbad P (w_lac P cd σ (ix n) (ix n))) j1 = true := by unfold lbad; rw [← hl20, ← e_τj]; simp [c_1, u_2, c_3, c_4, -Int32.not_lt, -Nat.zero_add]
                  have HS := fstN_b hst HB (ix n) (by omega)
                  refine lv_ldc (v := 1000000) hx hb ha.2.2.2.1 (ha.2.2.2.2.1 _ (tb_in (w := .constant RX8 254 1000000) (by decide +kernel))) dX8_lacingsBy_136 ?_
                  exact xiret ha hP hS dX8_lacingsBy_138 ⟨by rw [n_lac, if_neg (by rw [HS]; omega)], (by rw [n_lac, if_neg (by rw [HS]; omega), HS]; show _ = lend _ _ _; unfold lend; rw [lb, ← hl20, ← e_τj]; simp [c_1, u_2, c_3, c_4, -Int32.not_lt, -Nat.zero_add])⟩ rfl
              · have t_3 := i_nlt c_3
                have hpk := hlp (by assumption)
                have hpk1 := isPole_t hpk
                refine lv_aload_n hx hb dX8_lacingsBy_90 rfl (lv_at hl 2 rfl) ?_
                refine g8_47 ha hP 0 (by decide) (cM_0 G _) (v := .ref (G.1 12)) rfl dX8_lacingsBy_91 ?_
                refine lv_aload_n hx hb dX8_lacingsBy_94 rfl (lv_at hl 2 rfl) ?_
                refine g8_71 ha hP 0 (by decide) (cM_0 G _) (v := .ref (G.1 20)) rfl dX8_lacingsBy_95 ?_
                refine lv_iload hx hb dX8_lacingsBy_98 (lv_at hl 0 rfl) ?_
                refine xialdN ha hP 20 (by decide) (cM_20 G _) j1 rfl (by omega) (by decide) dX8_lacingsBy_100 ?_
                refine xSi ha hP hS (y := yX8_isUp) (As := [.ref (G.1 12), .int (τj 20 j1)]) (rest := []) rfl (c_X8_isUp G l τj P 12 (τj 20 j1) hpb hPk (by unfold oT; omega) hpk) kw_X8_192 hd_X8_isUp rfl ⟨rfl, rfl⟩ ⟨Nat.le_of_ble_eq_true rfl, Nat.le_of_ble_eq_true rfl⟩ ⟨Nat.zero_le _, Nat.zero_le _⟩ hl.1 (Nat.le_of_ble_eq_true rfl) rfl dX8_lacingsBy_101 (fun r u H locs hpq hP hS => ?_)
                obtain ⟨hr_, hu_⟩ := hpq
                have hr_ := hr_.symm
                have hu_ := hu_.symm
                subst hr_
                subst hu_
                refine lv_if_ne (tgt := 110) hx hb dX8_lacingsBy_104 (by decide) (fun c_5 => ?_) (fun c_5 => ?_)
                · have t_5 := b2i_t c_5
                  refine lv_aload_n hx hb dX8_lacingsBy_110 rfl (lv_at hl 2 rfl) ?_
                  refine g8_47 ha hP 0 (by decide) (cM_0 G _) (v := .ref (G.1 12)) rfl dX8_lacingsBy_111 ?_
                  refine lv_iconst (v := 0) hx hb dX8_lacingsBy_114 (by decide) ?_
                  refine lv_aload_n hx hb dX8_lacingsBy_115 rfl (lv_at hl 2 rfl) ?_
                  refine g8_71 ha hP 0 (by decide) (cM_0 G _) (v := .ref (G.1 20)) rfl dX8_lacingsBy_116 ?_
                  refine lv_iload hx hb dX8_lacingsBy_119 (lv_at hl 0 rfl) ?_
                  refine xialdN ha hP 20 (by decide) (cM_20 G _) j1 rfl (by omega) (by decide) dX8_lacingsBy_121 ?_
                  refine lv_iadd hx hb dX8_lacingsBy_122 ?_
                  refine lv_iconst (v := 0) hx hb dX8_lacingsBy_123 (by decide) ?_
                  refine xiastN ha hP hS (cM_loc G) 12 (by decide) (fun τ => cM_12 G τ) (0 + (ix (τj 20 j1))) (nadd (rfl : (0 : Int32) = nI 0) (ix_nI (by omega))) (by have q_0 := ix_toInt (show (0 : Int) ≤ (τj 20 j1).toInt by omega); omega) (by decide) dX8_lacingsBy_124 (fun H locs hP hS => ?_)
                  refine lv_aload_n hx hb dX8_lacingsBy_125 rfl (lv_at hl 2 rfl) ?_
                  refine lv_aload_n hx hb dX8_lacingsBy_126 rfl (lv_at hl 2 rfl) ?_
                  refine g8_47 ha hP 0 (by decide) (cM_0 G _) (v := .ref (G.1 12)) rfl dX8_lacingsBy_127 ?_
                  refine xVi ha hP hS (y := yX8_yearGoes) (As := [.ref (G.1 12)]) (rest := []) 0 (by decide) (cM_0 G _) rfl rfl (c_X8_yearGoes G l (mU τj 12 (0 + (ix (τj 20 j1))) 0) P 12 hpb ((pM_mU _ _ _ (by decide)).trans hPk) (by unfold oT; omega)) kw_X8_223 hd_X8_yearGoes rfl ⟨rfl, rfl⟩ ⟨Nat.le_of_ble_eq_true rfl, Nat.le_of_ble_eq_true rfl⟩ ⟨Nat.zero_le _, Nat.zero_le _⟩ hl.1 (Nat.le_of_ble_eq_true rfl) rfl dX8_lacingsBy_130 (fun r u H locs hpq hP hS => ?_)
                  obtain ⟨hr_, hu_⟩ := hpq
                  have hr_ := hr_.symm
                  have hu_ := hu_.symm
                  subst hr_
                  subst hu_
                  refine lv_if_eq (tgt := 139) hx hb dX8_lacingsBy_133 (by decide) (fun c_6 => ?_) (fun c_6 => ?_)
                  · have t_6 := i_eq c_6
                    refine lv_iinc (v := (nI (j1 + 1))) (lv' := [(5, .int (nI (j1 + 1))), (4, .int x4), (0, .ref (G.1 0)), (1, .int (nI cd)), (2, .int n)]) hx hb dX8_lacingsBy_139 hl (k := 0) rfl (nI_1 j1) (by decide) rfl (fun ls hl => ?_)
                    refine lv_goto (tgt := 74) hx hb dX8_lacingsBy_142 (by decide) ?_
                    exact ih_74 (j1 + 1) (w_year P (mU τj 12 (0 + (ix (τj 20 j1))) 0) 12) _ _ _ (by omega) (by omega) (by rw [lb, ← hl20, ← e_τj]; simp [c_1, u_2, c_3, t_5, c_6, -Int32.not_lt, -Nat.zero_add]) ((pM_year _ _ (by unfold oT; omega)).trans ((pM_mU _ _ _ (by decide)).trans hPk)) (fstN_s hst (by unfold lbad; rw [← hl20, ← e_τj]; simp [c_1, u_2, c_3, t_5, c_6, -Int32.not_lt, -Nat.zero_add])) hP hS (lv_sub hl [0, 1, 2, 3, 4] rfl)
                  · have t_6 := i_ne c_6
                    have HB : (lbad P (w_lac P cd σ (ix n) (ix n))) j1 = true := by unfold lbad; rw [← hl20, ← e_τj]; simp [c_1, u_2, c_3, t_5, c_6, -Int32.not_lt, -Nat.zero_add]
                    have HS := fstN_b hst HB (ix n) (by omega)
                    refine lv_ldc (v := 1000000) hx hb ha.2.2.2.1 (ha.2.2.2.2.1 _ (tb_in (w := .constant RX8 254 1000000) (by decide +kernel))) dX8_lacingsBy_136 ?_
                    exact xiret ha hP hS dX8_lacingsBy_138 ⟨by rw [n_lac, if_neg (by rw [HS]; omega)], (by rw [n_lac, if_neg (by rw [HS]; omega), HS]; show _ = lend _ _ _; unfold lend; rw [lb, ← hl20, ← e_τj]; simp [c_1, u_2, c_3, t_5, c_6, -Int32.not_lt, -Nat.zero_add])⟩ rfl
                · have t_5 := b2i_f c_5
                  have HB : (lbad P (w_lac P cd σ (ix n) (ix n))) j1 = true := by unfold lbad; rw [← hl20, ← e_τj]; simp [c_1, u_2, c_3, t_5, -Int32.not_lt, -Nat.zero_add]
                  have HS := fstN_b hst HB (ix n) (by omega)
                  refine lv_ldc (v := 1000000) hx hb ha.2.2.2.1 (ha.2.2.2.2.1 _ (tb_in (w := .constant RX8 254 1000000) (by decide +kernel))) dX8_lacingsBy_107 ?_
                  exact xiret ha hP hS dX8_lacingsBy_109 ⟨by rw [n_lac, if_neg (by rw [HS]; omega)], (by rw [n_lac, if_neg (by rw [HS]; omega), HS]; show _ = lend _ _ _; unfold lend; rw [← hl20, ← e_τj]; simp [c_1, u_2, c_3, t_5, -Int32.not_lt, -Nat.zero_add])⟩ rfl
        exact lp_74 ((ix n) - 0 + 1) 0 (w_aside σj) _ _ _ (by omega) (by omega) (by rw [e_σj]; rfl) ((pM_aside _).trans hPj) rfl hP hS (lv_sub hl [0, 1, 3, 4, 5] rfl)
      · have t_1 := i_nlt c_1
        obtain ⟨i, hi⟩ : ∃ i, ix n = j + i + 1 := ⟨ix n - j - 1, by omega⟩
        obtain rfl : x5 = nI i := by rw [e_x5, show ix n - j = i + 1 by omega, nI_pred]
        refine lv_aload_n hx hb dX8_lacingsBy_15 rfl (lv_at hl 3 rfl) ?_
        refine g8_71 ha hP 0 (by decide) (cM_0 G _) (v := .ref (G.1 20)) rfl dX8_lacingsBy_16 ?_
        refine lv_iload hx hb dX8_lacingsBy_19 (lv_at hl 0 rfl) ?_
        refine lv_iload_n hx hb dX8_lacingsBy_21 rfl (lv_at hl 2 rfl) ?_
        refine lv_aload_n hx hb dX8_lacingsBy_22 rfl (lv_at hl 3 rfl) ?_
        refine g8_163 ha hP 0 (by decide) (cM_0 G _) (v := .int (σj 0 4)) rfl dX8_lacingsBy_23 ?_
        refine lv_iconst (v := 1) hx hb dX8_lacingsBy_26 (by decide) ?_
        refine lv_iaddE (z := (nI (nPl P + 1))) hx hb dX8_lacingsBy_27 (nadd hw4 rfl) ?_
        refine lv_iremE (z := (nI (lf (nPl P + 1) cd j % (nPl P + 1)))) hx hb dX8_lacingsBy_28 (nI_ne0 (by omega) (by omega)) (by rw [e_x3]; exact remn (by omega) (by omega) (by omega)) ?_
        refine lv_iconst (v := 1) hx hb dX8_lacingsBy_29 (by decide) ?_
        refine lv_isub hx hb dX8_lacingsBy_30 ?_
        refine xiastN ha hP hS (cM_loc G) 20 (by decide) (fun τ => cM_20 G τ) i rfl (by omega) (by decide) dX8_lacingsBy_31 (fun H locs hP hS => ?_)
        refine lv_iload_n hx hb dX8_lacingsBy_32 rfl (lv_at hl 2 rfl) ?_
        refine lv_aload_n hx hb dX8_lacingsBy_33 rfl (lv_at hl 3 rfl) ?_
        refine g8_163 ha hP 0 (by decide) (cM_0 G _) (v := .int (σj 0 4)) rfl dX8_lacingsBy_34 ?_
        refine lv_iconst (v := 1) hx hb dX8_lacingsBy_37 (by decide) ?_
        refine lv_iaddE (z := (nI (nPl P + 1))) hx hb dX8_lacingsBy_38 (nadd hw4 rfl) ?_
        refine lv_idivE (z := (nI (lf (nPl P + 1) cd j / (nPl P + 1)))) hx hb dX8_lacingsBy_39 (nI_ne0 (by omega) (by omega)) (by rw [e_x3]; exact divn (by omega) (by omega) (by omega)) ?_
        refine lv_istore_n (lv' := [(3, .int (nI (lf (nPl P + 1) cd j / (nPl P + 1)))), (5, .int (nI i)), (4, .int x4), (0, .ref (G.1 0)), (1, .int (nI cd)), (2, .int n)]) hx hb dX8_lacingsBy_40 rfl hl (by decide) rfl (fun ls hl => ?_)
        refine lv_iload hx hb dX8_lacingsBy_41 (lv_at hl 2 rfl) ?_
        refine lv_aload_n hx hb dX8_lacingsBy_43 rfl (lv_at hl 3 rfl) ?_
        refine g8_71 ha hP 0 (by decide) (cM_0 G _) (v := .ref (G.1 20)) rfl dX8_lacingsBy_44 ?_
        refine lv_iload hx hb dX8_lacingsBy_47 (lv_at hl 1 rfl) ?_
        refine xialdN ha hP 20 (by decide) (cM_20 G _) i rfl (by omega) (by decide) dX8_lacingsBy_49 ?_
        have jn_7 : ∀ x_7 : Int32, x_7 = (if ((mU σj 20 i ((nI (lf (nPl P + 1) cd j % (nPl P + 1))) - 1)) 20 i) < 0 then 0 else 1) → W p l e ({ frames := 5, cells := 0, slots := 0, locals := 117 } : Room) s m ([.ref (G.1 0), .int (nI cd), .int n] : List Value).toArray below meth c H locs 0 0 (MQ below (va_Qi (fun (r : Int32) u => r = (n_lac P σ cd (ix n)).1 ∧ u = (n_lac P σ cd (ix n)).2) (xB G 24 (cM G)) (xA G 24 s.heap.size)) ([.ref (G.1 0), .int (nI cd), .int n] : List Value).toArray s 0 0 (xA G 24 s.heap.size)) (F0 m 58 ls [.int x_7, .int x4]) := by
          intro x_7 ex_7
          refine lv_iadd hx hb dX8_lacingsBy_58 ?_
          refine lv_istore (lv' := [(4, .int (x4 + x_7)), (3, .int (nI (lf (nPl P + 1) cd j / (nPl P + 1)))), (5, .int (nI i)), (0, .ref (G.1 0)), (1, .int (nI cd)), (2, .int n)]) hx hb dX8_lacingsBy_59 hl (by decide) rfl (fun ls hl => ?_)
          refine lv_iinc (v := (nI i + (-1))) (lv' := [(5, .int (nI i + (-1))), (4, .int (x4 + x_7)), (3, .int (nI (lf (nPl P + 1) cd j / (nPl P + 1)))), (0, .ref (G.1 0)), (1, .int (nI cd)), (2, .int n)]) hx hb dX8_lacingsBy_61 hl (k := 2) rfl rfl (by decide) rfl (fun ls hl => ?_)
          refine lv_goto (tgt := 10) hx hb dX8_lacingsBy_64 (by decide) ?_
          exact ih_10 (j + 1) (nI (lf (nPl P + 1) cd j / (nPl P + 1))) (x4 + x_7) (nI i + (-1)) (mU σj 20 i ((nI (lf (nPl P + 1) cd j % (nPl P + 1))) - 1)) _ _ _ (by omega) (by omega) rfl (by rw [lacm, ← e_x4]; simp [c_1, ex_7, mU_e]) (by rw [show ix n - (j + 1) = i by omega]; first | exact Int32.sub_eq_add_neg.symm | exact (Int32.sub_eq_add_neg _ _).symm | (apply Int32.toInt_inj.mp; simp [Int32.toInt_add, Int32.toInt_sub])) (by rw [e_σj]; exact lac_s hi) ((pM_mU _ _ _ (by decide)).trans hPj) hP hS (lv_sub hl [0, 1, 2, 3, 4, 5] rfl)
        refine lv_if_ge (tgt := 57) hx hb dX8_lacingsBy_50 (by decide) (fun c_7 => ?_) (fun c_7 => ?_)
        · have t_7 := i_le c_7
          refine lv_iconst (v := 1) hx hb dX8_lacingsBy_57 (by decide) ?_
          exact jn_7 _ (if_neg (u_le c_7)).symm
        · have t_7 := i_nle c_7
          refine lv_iconst (v := 0) hx hb dX8_lacingsBy_53 (by decide) ?_
          refine lv_goto (tgt := 58) hx hb dX8_lacingsBy_54 (by decide) ?_
          exact jn_7 _ (if_pos (u_nle c_7)).symm
  exact lp_10 ((ix n) - 0 + 1) 0 (nI cd) 0 (n - 1) σ _ _ _ (by omega) (by omega) rfl rfl (congrArg (fun z => z - 1) hnI) rfl hPV hP hS (lv_sub hl [0, 1, 2, 3, 4, 5] rfl)
set_option maxHeartbeats 4000000 in
set_option maxRecDepth 100000 in
theorem c_X8_laces (G : GT) (l : Launch) (σ : Mem) (n : Int32) (ro : Int32) (hpb : PB (pM σ)) : CI G 24 (cM G) l yX8_laces ({ frames := 6, cells := 0, slots := 0, locals := 142 } : Room) cX8_laces 7 (some .int) [.ref (G.1 0), .int n, .int ro] σ (fun (r : Int32) u => r = (n_laces σ n ro).1 ∧ u = (n_laces σ n ro).2) := by
  intro sz
  refine xbegin (by decide) (Nat.le_of_ble_eq_true rfl) ?_
  intro p e s m below meth c ls hsz ha hP hl
  subst hsz
  have hx := ha.1
  have hb := ha.2.1
  have hS : va_S (xA G 24 s.heap.size) s.heap s.heap [] := va_S.rf
  have hl : lv_has ls 7 [(0, .ref (G.1 0)), (1, .int n), (2, .int ro)] := hl
  have k_m9 : (-9 : Int32).toInt = -9 := by decide
  have k_m4 : (-4 : Int32).toInt = -4 := by decide
  have k_m1 : (-1 : Int32).toInt = -1 := by decide
  have k_0 : (0 : Int32).toInt = 0 := by decide
  have k_1 : (1 : Int32).toInt = 1 := by decide
  have k_4 : (4 : Int32).toInt = 4 := by decide
  have k_5 : (5 : Int32).toInt = 5 := by decide
  have k_6 : (6 : Int32).toInt = 6 := by decide
  have k_40 : (40 : Int32).toInt = 40 := by decide
  have k_1000000 : (1000000 : Int32).toInt = 1000000 := by decide
  have hPL := PB_pl hpb
  have hPE := PB_pe hpb
  have hp4 := PV_pl hpb (rfl : pM σ = pM σ)
  have hp5 := PV_pe hpb (rfl : pM σ = pM σ)
  refine lv_iload_n hx hb dX8_laces_0 rfl (lv_at hl 1 rfl) ?_
  refine lv_i2l (v := n.toInt64) hx hb dX8_laces_1 rfl ?_
  refine lv_lconst (v := 0) hx hb dX8_laces_2 (by decide) ?_
  refine lv_ldc2 (v := 5) hx hb ha.2.2.2.1 (ha.2.2.2.2.1 _ (tb_in (w := .constantLong RX8 93 5) (by decide +kernel))) dX8_laces_3 ?_
  refine xSi ha hP hS (y := yX8_in) (As := [.long n.toInt64, .long 0, .long 5]) (rest := []) rfl (c_X8_in G l σ n.toInt64 0 5 ) kw_X8_95 hd_X8_in rfl ⟨rfl, rfl⟩ ⟨Nat.le_of_ble_eq_true rfl, Nat.le_of_ble_eq_true rfl⟩ ⟨Nat.zero_le _, Nat.zero_le _⟩ hl.1 (Nat.le_of_ble_eq_true rfl) rfl dX8_laces_6 (fun r u H locs hpq hP hS => ?_)
  obtain ⟨hr_, hu_⟩ := hpq
  have hr_ := hr_.symm
  have hu_ := hu_.symm
  subst hr_
  subst hu_
  refine lv_if_eq (tgt := 19) hx hb dX8_laces_9 (by decide) (fun c_1 => ?_) (fun c_1 => ?_)
  · have t_1 := b2i_f c_1
    have f_1 := bin_f t_1
    try simp only [Int32.toInt_toInt64, ll_0, ll_1, ll_2, ll_3, ll_4, ll_5, ll_9, ll_12, ll_20, ll_40, ll_57, ll_99, ll_2147483646] at f_1
    refine lv_iconst (v := (-1)) hx hb dX8_laces_19 (by decide) ?_
    exact xiret ha hP hS dX8_laces_20 ⟨by simp [n_laces, t_1, i_leN, -Int32.not_lt], (by simp [n_laces, t_1, i_leN, -Int32.not_lt])⟩ rfl
  · have t_1 := b2i_t c_1
    have f_1 := bin_t t_1
    try simp only [Int32.toInt_toInt64, ll_0, ll_1, ll_2, ll_3, ll_4, ll_5, ll_9, ll_12, ll_20, ll_40, ll_57, ll_99, ll_2147483646] at f_1
    refine lv_iload_n hx hb dX8_laces_12 rfl (lv_at hl 2 rfl) ?_
    refine xSi ha hP hS (y := yX8_isRow) (As := [.int ro]) (rest := []) rfl (c_X8_isRow G l σ ro ) kw_X8_101 hd_X8_isRow rfl ⟨rfl, rfl⟩ ⟨Nat.le_of_ble_eq_true rfl, Nat.le_of_ble_eq_true rfl⟩ ⟨Nat.zero_le _, Nat.zero_le _⟩ hl.1 (Nat.le_of_ble_eq_true rfl) rfl dX8_laces_13 (fun r u H locs hpq hP hS => ?_)
    obtain ⟨hr_, hu_⟩ := hpq
    have hr_ := hr_.symm
    have hu_ := hu_.symm
    subst hr_
    subst hu_
    refine lv_if_ne (tgt := 21) hx hb dX8_laces_16 (by decide) (fun c_2 => ?_) (fun c_2 => ?_)
    · have t_2 := b2i_t c_2
      have f_2 := in_t t_2
      refine lv_aload_n hx hb dX8_laces_21 rfl (lv_at hl 0 rfl) ?_
      refine g8_163 ha hP 0 (by decide) (cM_0 G _) (v := .int (σ 0 4)) rfl dX8_laces_22 ?_
      refine lv_if_ne (tgt := 31) hx hb dX8_laces_25 (by decide) (fun c_3 => ?_) (fun c_3 => ?_)
      · have t_3 := i_ne c_3
        have hni := ix_toInt (show 0 ≤ n.toInt by omega)
        have hnI := ix_nI (show 0 ≤ n.toInt by omega)
        obtain ⟨NN, hNN, hNb⟩ : ∃ q, q = (nPl (pM σ) + 1) ^ ix n ∧ q ≤ 3125 := ⟨_, rfl, pw_le (by omega) (by omega)⟩
        have hro7 := in_t (show a_in ro 6 = true by assumption)
        have hro8 := ix_toInt (show 0 ≤ ro.toInt by omega)
        refine lv_ldc (v := 1000000) hx hb ha.2.2.2.1 (ha.2.2.2.2.1 _ (tb_in (w := .constant RX8 254 1000000) (by decide +kernel))) dX8_laces_31 ?_
        refine lv_istore_n (lv' := [(3, .int 1000000), (0, .ref (G.1 0)), (1, .int n), (2, .int ro)]) hx hb dX8_laces_33 rfl hl (by decide) rfl (fun ls hl => ?_)
        refine lv_iconst (v := 0) hx hb dX8_laces_34 (by decide) ?_
        refine lv_istore (lv' := [(4, .int 0), (3, .int 1000000), (0, .ref (G.1 0)), (1, .int n), (2, .int ro)]) hx hb dX8_laces_35 hl (by decide) rfl (fun ls hl => ?_)
        refine lv_iconst (v := 0) hx hb dX8_laces_37 (by decide) ?_
        refine lv_istore (lv' := [(5, .int 0), (4, .int 0), (3, .int 1000000), (0, .ref (G.1 0)), (1, .int n), (2, .int ro)]) hx hb dX8_laces_38 hl (by decide) rfl (fun ls hl => ?_)
        have lp_40 : ∀ (d j : Nat) (x3 : Int32) (x4 : Int32) (τj : Mem) (H : Heap) (locs : List Loc) (ls : Array Slot), j ≤ NN → NN - j < d → x3 = (lcs (pM σ) (ix n) σ j).1 → x4 = (lcs (pM σ) (ix n) σ j).2.1 → τj = (lcs (pM σ) (ix n) σ j).2.2 → (pM τj = pM σ) → va_P G.2.1 vwCl (wl G 24 (cM G τj)) H → va_S (xA G 24 s.heap.size) s.heap H locs → lv_has ls 7 [(5, .int (nI j)), (4, .int x4), (3, .int x3), (0, .ref (G.1 0)), (1, .int n), (2, .int ro)] → W p l e ({ frames := 6, cells := 0, slots := 0, locals := 142 } : Room) s m ([.ref (G.1 0), .int n, .int ro] : List Value).toArray below meth c H locs 0 0 (MQ below (va_Qi (fun (r : Int32) u => r = (n_laces σ n ro).1 ∧ u = (n_laces σ n ro).2) (xB G 24 (cM G)) (xA G 24 s.heap.size)) ([.ref (G.1 0), .int n, .int ro] : List Value).toArray s 0 0 (xA G 24 s.heap.size)) (F0 m 40 ls []) := by
          intro d
          induction d with
          | zero => intro j x3 x4 τj H locs ls hj hd; exact absurd hd (Nat.not_lt_zero _)
          | succ d ih_40 =>
            intro j x3 x4 τj H locs ls hj_j hd_j e_x3 e_x4 e_τj hPj hP hS hl
            have h31_j : (nI j).toInt = (j : Int) := nI_toInt (by omega)
            have hw4 : τj 0 4 = nI (nPl (pM σ)) := (PV_4 hPj).trans hPL.1
            have hpw : b_pow ((τj 0 4) + 1) (ix n) = nI NN := by rw [nadd hw4 (rfl : (1 : Int32) = nI 1), b_pow_n, hNN]
            have hpwi : (b_pow ((τj 0 4) + 1) (ix n)).toInt = (NN : Int) := by rw [hpw]; exact nI_toInt (by omega)
            refine lv_iload hx hb dX8_laces_40 (lv_at hl 0 rfl) ?_
            refine lv_aload_n hx hb dX8_laces_42 rfl (lv_at hl 3 rfl) ?_
            refine g8_163 ha hP 0 (by decide) (cM_0 G _) (v := .int (τj 0 4)) rfl dX8_laces_43 ?_
            refine lv_iconst (v := 1) hx hb dX8_laces_46 (by decide) ?_
            refine lv_iadd hx hb dX8_laces_47 ?_
            refine lv_iload_n hx hb dX8_laces_48 rfl (lv_at hl 4 rfl) ?_
            refine xSi ha hP hS (y := yX8_power) (As := [.int ((τj 0 4) + 1), .int n]) (rest := [.int (nI j)]) rfl (c_X8_power G l τj ((τj 0 4) + 1) n (by omega)) kw_X8_244 hd_X8_power rfl ⟨rfl, rfl⟩ ⟨Nat.le_of_ble_eq_true rfl, Nat.le_of_ble_eq_true rfl⟩ ⟨Nat.zero_le _, Nat.zero_le _⟩ hl.1 (Nat.le_of_ble_eq_true rfl) rfl dX8_laces_49 (fun r u H locs hpq hP hS => ?_)
            obtain ⟨hr_, hu_⟩ := hpq
            have hr_ := hr_.symm
            have hu_ := hu_.symm
            subst hr_
            subst hu_
            refine lv_icmp_ge (tgt := 98) hx hb dX8_laces_52 (by decide) (fun c_4 => ?_) (fun c_4 => ?_)
            · have t_4 := i_le c_4
              have u_4 := u_le c_4
              obtain rfl : NN = j := by omega -- obtain rfl : j = 
              obtain ⟨bc, hbc, hx4⟩ : ∃ b, b ≤ NN ∧ x4 = nI b := by rw [e_x4]; exact lcs_best _ _ _ _
              have hsl_98 : x4 = (nI bc) := hx4
              rw [hsl_98] at hl
              refine lv_iload_n hx hb dX8_laces_98 rfl (lv_at hl 2 rfl) ?_
              refine lv_ldc (v := 1000000) hx hb ha.2.2.2.1 (ha.2.2.2.2.1 _ (tb_in (w := .constant RX8 254 1000000) (by decide +kernel))) dX8_laces_99 ?_
              refine lv_icmp_ne (tgt := 107) hx hb dX8_laces_101 (by decide) (fun c_5 => ?_) (fun c_5 => ?_)
              · have t_5 := i_ne c_5
                refine lv_aload_n hx hb dX8_laces_107 rfl (lv_at hl 3 rfl) ?_
                refine lv_iload_n hx hb dX8_laces_108 rfl (lv_at hl 5 rfl) ?_
                refine lv_iload_n hx hb dX8_laces_109 rfl (lv_at hl 4 rfl) ?_
                refine xVv ha hP hS (y := yX8_layRow) (As := [.int ro, .int n]) (rest := []) 0 (by decide) (cM_0 G _) rfl rfl (c_X8_layRow G l τj ro n (by assumption)) kw_X8_240 hd_X8_layRow rfl ⟨rfl, rfl⟩ ⟨Nat.le_of_ble_eq_true rfl, Nat.le_of_ble_eq_true rfl⟩ ⟨Nat.zero_le _, Nat.zero_le _⟩ hl.1 (Nat.le_of_ble_eq_true rfl) rfl dX8_laces_110 (fun u H locs hpq hP hS => ?_)
                have hpq := hpq.symm
                subst hpq
                refine lv_aload_n hx hb dX8_laces_113 rfl (lv_at hl 3 rfl) ?_
                refine lv_iload hx hb dX8_laces_114 (lv_at hl 1 rfl) ?_
                refine lv_iload_n hx hb dX8_laces_116 rfl (lv_at hl 4 rfl) ?_
                refine xVi ha hP hS (y := yX8_lacingsBy) (As := [.int (nI bc), .int n]) (rest := []) 0 (by decide) (cM_0 G _) rfl rfl (c_X8_lacingsBy G l (w_lrow τj (ix ro) n) (pM σ) bc n hpb ((pM_lrow _ _ _).trans hPj) (by omega) (⟨by omega, by omega⟩)) kw_X8_258 hd_X8_lacingsBy rfl ⟨rfl, rfl⟩ ⟨Nat.le_of_ble_eq_true rfl, Nat.le_of_ble_eq_true rfl⟩ ⟨Nat.zero_le _, Nat.zero_le _⟩ hl.1 (Nat.le_of_ble_eq_true rfl) rfl dX8_laces_117 (fun r u H locs hpq hP hS => ?_)
                obtain ⟨hr_, hu_⟩ := hpq
                have hr_ := hr_.symm
                have hu_ := hu_.symm
                subst hr_
                subst hu_
                refine lv_istore (lv' := [(5, .int ((n_lac (pM σ) (w_lrow τj (ix ro) n) bc (ix n)).1)), (4, .int (nI bc)), (3, .int x3), (0, .ref (G.1 0)), (1, .int n), (2, .int ro)]) hx hb dX8_laces_120 hl (by decide) rfl (fun ls hl => ?_)
                refine lv_iconst (v := 0) hx hb dX8_laces_122 (by decide) ?_
                refine lv_istore (lv' := [(6, .int 0), (5, .int ((n_lac (pM σ) (w_lrow τj (ix ro) n) bc (ix n)).1)), (4, .int (nI bc)), (3, .int x3), (0, .ref (G.1 0)), (1, .int n), (2, .int ro)]) hx hb dX8_laces_123 hl (by decide) rfl (fun ls hl => ?_)
                have lp_125 : ∀ (d j1 : Nat) (μj : Mem) (H : Heap) (locs : List Loc) (ls : Array Slot), j1 ≤ (ix n) → (ix n) - j1 < d → μj = mG (n_lac (pM σ) (w_lrow (lcs (pM σ) (ix n) σ NN).2.2 (ix ro) n) bc (ix n)).2 1 (40 * ix ro) j1 (fun y => lcv ((n_lac (pM σ) (w_lrow (lcs (pM σ) (ix n) σ NN).2.2 (ix ro) n) bc (ix n)).2 20 y)) → va_P G.2.1 vwCl (wl G 24 (cM G μj)) H → va_S (xA G 24 s.heap.size) s.heap H locs → lv_has ls 7 [(6, .int (nI j1)), (3, .int x3), (0, .ref (G.1 0)), (1, .int n), (2, .int ro)] → W p l e ({ frames := 6, cells := 0, slots := 0, locals := 142 } : Room) s m ([.ref (G.1 0), .int n, .int ro] : List Value).toArray below meth c H locs 0 0 (MQ below (va_Qi (fun (r : Int32) u => r = (n_laces σ n ro).1 ∧ u = (n_laces σ n ro).2) (xB G 24 (cM G)) (xA G 24 s.heap.size)) ([.ref (G.1 0), .int n, .int ro] : List Value).toArray s 0 0 (xA G 24 s.heap.size)) (F0 m 125 ls []) := by
                  intro d
                  induction d with
                  | zero => intro j1 μj H locs ls hj hd; exact absurd hd (Nat.not_lt_zero _)
                  | succ d ih_125 =>
                    intro j1 μj H locs ls hj_j1 hd_j1 e_μj hP hS hl
                    have h31_j1 : (nI j1).toInt = (j1 : Int) := nI_toInt (by omega)
                    have h20 : μj 20 = (n_lac (pM σ) (w_lrow (lcs (pM σ) (ix n) σ NN).2.2 (ix ro) n) bc (ix n)).2 20 := by rw [e_μj]; exact mG_n _ _ _ _ (by decide)
                    refine lv_iload hx hb dX8_laces_125 (lv_at hl 0 rfl) ?_
                    refine lv_iload_n hx hb dX8_laces_127 rfl (lv_at hl 3 rfl) ?_
                    refine lv_icmp_ge (tgt := 171) hx hb dX8_laces_128 (by decide) (fun c_6 => ?_) (fun c_6 => ?_)
                    · have t_6 := i_le c_6
                      have u_6 := u_le c_6
                      obtain rfl : j1 = (ix n) := by omega
                      refine lv_iload_n hx hb dX8_laces_171 rfl (lv_at hl 1 rfl) ?_
                      exact xiret ha hP hS dX8_laces_172 ⟨by rw [n_laces, if_pos (by assumption), if_pos (by assumption), if_neg (by assumption), ← hNN, ← e_x3, if_neg (by assumption)], (by rw [n_laces, if_pos (by assumption), if_pos (by assumption), if_neg (by assumption), ← hNN, ← e_x3, if_neg (by assumption)]; show _ = lfin _ _ _ _; unfold lfin; rw [← e_x4, hx4, ix_of (by omega)]; exact e_μj)⟩ rfl
                    · have t_6 := i_nle c_6
                      have u_6 := u_nle c_6
                      have hlt_j1 : j1 < (ix n) := by omega
                      refine lv_aload_n hx hb dX8_laces_131 rfl (lv_at hl 2 rfl) ?_
                      refine g8_7 ha hP 0 (by decide) (cM_0 G _) (v := .ref (G.1 1)) rfl dX8_laces_132 ?_
                      refine lv_bipush (v := 40) hx hb dX8_laces_135 (by decide) ?_
                      refine lv_iload_n hx hb dX8_laces_137 rfl (lv_at hl 4 rfl) ?_
                      refine lv_imul hx hb dX8_laces_138 ?_
                      refine lv_iload hx hb dX8_laces_139 (lv_at hl 0 rfl) ?_
                      refine lv_iadd hx hb dX8_laces_141 ?_
                      refine lv_aload_n hx hb dX8_laces_142 rfl (lv_at hl 2 rfl) ?_
                      refine g8_71 ha hP 0 (by decide) (cM_0 G _) (v := .ref (G.1 20)) rfl dX8_laces_143 ?_
                      refine lv_iload hx hb dX8_laces_146 (lv_at hl 0 rfl) ?_
                      refine xialdN ha hP 20 (by decide) (cM_20 G _) j1 rfl (by omega) (by decide) dX8_laces_148 ?_
                      have jn_7 : ∀ x_7 : Int32, x_7 = (if (μj 20 j1) < 0 then (-9) else (μj 20 j1)) → W p l e ({ frames := 6, cells := 0, slots := 0, locals := 142 } : Room) s m ([.ref (G.1 0), .int n, .int ro] : List Value).toArray below meth c H locs 0 0 (MQ below (va_Qi (fun (r : Int32) u => r = (n_laces σ n ro).1 ∧ u = (n_laces σ n ro).2) (xB G 24 (cM G)) (xA G 24 s.heap.size)) ([.ref (G.1 0), .int n, .int ro] : List Value).toArray s 0 0 (xA G 24 s.heap.size)) (F0 m 164 ls [.int x_7, .int ((40 * ro) + nI j1), .ref (G.1 1)]) := by
                        intro x_7 ex_7
                        have hx_7 : x_7 = (lcv (μj 20 j1)) := (by rw [ex_7]; rfl)
                        clear ex_7
                        subst hx_7
                        refine xiastN ha hP hS (cM_loc G) 1 (by decide) (fun τ => cM_1 G τ) ((40 * (ix ro)) + j1) (nadd (nmul (rfl : (40 : Int32) = nI 40) (ix_nI (by omega))) rfl) (by have q_0 := ix_toInt (show (0 : Int) ≤ (ro).toInt by omega); omega) (by decide) dX8_laces_164 (fun H locs hP hS => ?_)
                        refine lv_iinc (v := (nI (j1 + 1))) (lv' := [(6, .int (nI (j1 + 1))), (3, .int x3), (0, .ref (G.1 0)), (1, .int n), (2, .int ro)]) hx hb dX8_laces_165 hl (k := 0) rfl (nI_1 j1) (by decide) rfl (fun ls hl => ?_)
                        refine lv_goto (tgt := 125) hx hb dX8_laces_168 (by decide) ?_
                        exact ih_125 (j1 + 1) (mU μj 1 ((40 * (ix ro)) + j1) (lcv (μj 20 j1))) _ _ _ (by omega) (by omega) (by rw [e_μj]; refine mG_s _ _ _ _ _ ?_; rw [mG_n _ _ _ _ (by decide)]) hP hS (lv_sub hl [0, 1, 2, 3, 4] rfl)
                      refine lv_if_ge (tgt := 157) hx hb dX8_laces_149 (by decide) (fun c_7 => ?_) (fun c_7 => ?_)
                      · have t_7 := i_le c_7
                        refine lv_aload_n hx hb dX8_laces_157 rfl (lv_at hl 2 rfl) ?_
                        refine g8_71 ha hP 0 (by decide) (cM_0 G _) (v := .ref (G.1 20)) rfl dX8_laces_158 ?_
                        refine lv_iload hx hb dX8_laces_161 (lv_at hl 0 rfl) ?_
                        refine xialdN ha hP 20 (by decide) (cM_20 G _) j1 rfl (by omega) (by decide) dX8_laces_163 ?_
                        exact jn_7 _ (if_neg (u_le c_7)).symm
                      · have t_7 := i_nle c_7
                        refine lv_bipush (v := (-9)) hx hb dX8_laces_152 (by decide) ?_
                        refine lv_goto (tgt := 164) hx hb dX8_laces_154 (by decide) ?_
                        exact jn_7 _ (if_pos (u_nle c_7)).symm
                exact lp_125 ((ix n) - 0 + 1) 0 ((n_lac (pM σ) (w_lrow τj (ix ro) n) bc (ix n)).2) _ _ _ (by omega) (by omega) (by rw [e_τj]; exact mG_0 _ _ _ _) hP hS (lv_sub hl [0, 3, 4, 5, 6] rfl)
              · have t_5 := i_eq c_5
                refine lv_bipush (v := (-9)) hx hb dX8_laces_104 (by decide) ?_
                exact xiret ha hP hS dX8_laces_106 ⟨by rw [n_laces, if_pos (by assumption), if_pos (by assumption), if_neg (by assumption), ← hNN, ← e_x3, if_pos (by assumption)], (by rw [n_laces, if_pos (by assumption), if_pos (by assumption), if_neg (by assumption), ← hNN, ← e_x3, if_pos (by assumption)]; exact e_τj)⟩ rfl
            · have t_4 := i_nle c_4
              have u_4 := u_nle c_4
              have hlt_j : j < NN := by omega
              refine lv_aload_n hx hb dX8_laces_55 rfl (lv_at hl 3 rfl) ?_
              refine lv_iload hx hb dX8_laces_56 (lv_at hl 0 rfl) ?_
              refine lv_iload_n hx hb dX8_laces_58 rfl (lv_at hl 4 rfl) ?_
              refine xVi ha hP hS (y := yX8_lacingsBy) (As := [.int (nI j), .int n]) (rest := []) 0 (by decide) (cM_0 G _) rfl rfl (c_X8_lacingsBy G l τj (pM σ) j n hpb hPj (by omega) (⟨by omega, by omega⟩)) kw_X8_258 hd_X8_lacingsBy rfl ⟨rfl, rfl⟩ ⟨Nat.le_of_ble_eq_true rfl, Nat.le_of_ble_eq_true rfl⟩ ⟨Nat.zero_le _, Nat.zero_le _⟩ hl.1 (Nat.le_of_ble_eq_true rfl) rfl dX8_laces_59 (fun r u H locs hpq hP hS => ?_)
              obtain ⟨hr_, hu_⟩ := hpq
              have hr_ := hr_.symm
              have hu_ := hu_.symm
              subst hr_
              subst hu_
              refine lv_istore (lv' := [(6, .int ((n_lac (pM σ) τj j (ix n)).1)), (5, .int (nI j)), (4, .int x4), (3, .int x3), (0, .ref (G.1 0)), (1, .int n), (2, .int ro)]) hx hb dX8_laces_62 hl (by decide) rfl (fun ls hl => ?_)
              refine lv_iload hx hb dX8_laces_64 (lv_at hl 0 rfl) ?_
              refine lv_iload_n hx hb dX8_laces_66 rfl (lv_at hl 3 rfl) ?_
              have jn_8 : ∀ x_8 : Int32, x_8 = (if ((n_lac (pM σ) τj j (ix n)).1) < x3 then nI j else x4) → W p l e ({ frames := 6, cells := 0, slots := 0, locals := 142 } : Room) s m ([.ref (G.1 0), .int n, .int ro] : List Value).toArray below meth c H locs 0 0 (MQ below (va_Qi (fun (r : Int32) u => r = (n_laces σ n ro).1 ∧ u = (n_laces σ n ro).2) (xB G 24 (cM G)) (xA G 24 s.heap.size)) ([.ref (G.1 0), .int n, .int ro] : List Value).toArray s 0 0 (xA G 24 s.heap.size)) (F0 m 77 ls [.int x_8]) := by
                intro x_8 ex_8
                refine lv_istore (lv' := [(4, .int x_8), (6, .int ((n_lac (pM σ) τj j (ix n)).1)), (5, .int (nI j)), (3, .int x3), (0, .ref (G.1 0)), (1, .int n), (2, .int ro)]) hx hb dX8_laces_77 hl (by decide) rfl (fun ls hl => ?_)
                refine lv_iload hx hb dX8_laces_79 (lv_at hl 1 rfl) ?_
                refine lv_iload_n hx hb dX8_laces_81 rfl (lv_at hl 3 rfl) ?_
                have jn_9 : ∀ x_9 : Int32, x_9 = (if ((n_lac (pM σ) τj j (ix n)).1) < x3 then ((n_lac (pM σ) τj j (ix n)).1) else x3) → W p l e ({ frames := 6, cells := 0, slots := 0, locals := 142 } : Room) s m ([.ref (G.1 0), .int n, .int ro] : List Value).toArray below meth c H locs 0 0 (MQ below (va_Qi (fun (r : Int32) u => r = (n_laces σ n ro).1 ∧ u = (n_laces σ n ro).2) (xB G 24 (cM G)) (xA G 24 s.heap.size)) ([.ref (G.1 0), .int n, .int ro] : List Value).toArray s 0 0 (xA G 24 s.heap.size)) (F0 m 91 ls [.int x_9]) := by
                  intro x_9 ex_9
                  refine lv_istore_n (lv' := [(3, .int x_9), (4, .int x_8), (6, .int ((n_lac (pM σ) τj j (ix n)).1)), (5, .int (nI j)), (0, .ref (G.1 0)), (1, .int n), (2, .int ro)]) hx hb dX8_laces_91 rfl hl (by decide) rfl (fun ls hl => ?_)
                  refine lv_iinc (v := (nI (j + 1))) (lv' := [(5, .int (nI (j + 1))), (3, .int x_9), (4, .int x_8), (6, .int ((n_lac (pM σ) τj j (ix n)).1)), (0, .ref (G.1 0)), (1, .int n), (2, .int ro)]) hx hb dX8_laces_92 hl (k := 3) rfl (nI_1 j) (by decide) rfl (fun ls hl => ?_)
                  refine lv_goto (tgt := 40) hx hb dX8_laces_95 (by decide) ?_
                  exact ih_40 (j + 1) x_9 x_8 ((n_lac (pM σ) τj j (ix n)).2) _ _ _ (by omega) (by omega) (by rw [lcs, lcs_step, ← e_x3, ← e_τj]; simp [t_1, t_2, c_3, u_4, ex_8, ex_9]) (by rw [lcs, lcs_step, ← e_x3, ← e_x4, ← e_τj]; simp [t_1, t_2, c_3, u_4, ex_8, ex_9]) (by rw [lcs, lcs_step, ← e_τj]) ((pM_nlac _ _ _ _).trans hPj) hP hS (lv_sub hl [0, 2, 1, 4, 5, 6] rfl)
                refine lv_icmp_ge (tgt := 90) hx hb dX8_laces_82 (by decide) (fun c_9 => ?_) (fun c_9 => ?_)
                · have t_9 := i_le c_9
                  refine lv_iload_n hx hb dX8_laces_90 rfl (lv_at hl 3 rfl) ?_
                  exact jn_9 _ (if_neg (u_le c_9)).symm
                · have t_9 := i_nle c_9
                  refine lv_iload hx hb dX8_laces_85 (lv_at hl 1 rfl) ?_
                  refine lv_goto (tgt := 91) hx hb dX8_laces_87 (by decide) ?_
                  exact jn_9 _ (if_pos (u_nle c_9)).symm
              refine lv_icmp_ge (tgt := 75) hx hb dX8_laces_67 (by decide) (fun c_8 => ?_) (fun c_8 => ?_)
              · have t_8 := i_le c_8
                refine lv_iload hx hb dX8_laces_75 (lv_at hl 2 rfl) ?_
                exact jn_8 _ (if_neg (u_le c_8)).symm
              · have t_8 := i_nle c_8
                refine lv_iload hx hb dX8_laces_70 (lv_at hl 1 rfl) ?_
                refine lv_goto (tgt := 77) hx hb dX8_laces_72 (by decide) ?_
                exact jn_8 _ (if_pos (u_nle c_8)).symm
        exact lp_40 (NN - 0 + 1) 0 1000000 0 σ _ _ _ (by omega) (by omega) rfl rfl rfl rfl hP hS (lv_sub hl [0, 1, 2, 3, 4, 5] rfl)
      · have t_3 := i_eq c_3
        refine lv_bipush (v := (-4)) hx hb dX8_laces_28 (by decide) ?_
        exact xiret ha hP hS dX8_laces_30 ⟨by simp [n_laces, t_1, t_2, c_3, i_leN, -Int32.not_lt], (by simp [n_laces, t_1, t_2, c_3, i_leN, -Int32.not_lt])⟩ rfl
    · have t_2 := b2i_f c_2
      refine lv_iconst (v := (-1)) hx hb dX8_laces_19 (by decide) ?_
      exact xiret ha hP hS dX8_laces_20 ⟨by simp [n_laces, t_1, t_2, i_leN, -Int32.not_lt], (by simp [n_laces, t_1, t_2, i_leN, -Int32.not_lt])⟩ rfl
