theorem hd_X8_count : kHd yX8_count 1 := by decide +kernel
theorem kw_X8_326 : ∀ w ∈ k5V RX8 326 yX8_count cX8_count 2 (some .int), w ∈ TB := tb_ins (by decide +kernel)
set_option maxHeartbeats 800000 in
set_option maxRecDepth 100000 in
theorem c_X8_digest (G : GT) (l : Launch) (σ : Mem)  (hpb : PB (pM σ)) (hsv : SV (pM σ) σ 11) (hrm : RM σ) : CL G 24 (cM G) l yX8_digest ({ frames := 3, cells := 0, slots := 0, locals := 71 } : Room) cX8_digest 5 (some .long) [.ref (G.1 0)] σ (fun (r : Int64) u => r = n_dig (pM σ) σ ∧ u = σ) := by
  intro sz
  refine xbegin (by decide) (Nat.le_of_ble_eq_true rfl) ?_
  intro p e s m below meth c ls hsz ha hP hl
  subst hsz
  have hx := ha.1
  have hb := ha.2.1
  have hS : va_S (xA G 24 s.heap.size) s.heap s.heap [] := va_S.rf
  have hl : lv_has ls 5 [(0, .ref (G.1 0))] := hl
  have k_0 : (0 : Int32).toInt = 0 := by decide
  have k_1 : (1 : Int32).toInt = 1 := by decide
  have k_3 : (3 : Int32).toInt = 3 := by decide
  have k_4 : (4 : Int32).toInt = 4 := by decide
  have k_5 : (5 : Int32).toInt = 5 := by decide
  have k_6 : (6 : Int32).toInt = 6 := by decide
  have k_12 : (12 : Int32).toInt = 12 := by decide
  have k_40 : (40 : Int32).toInt = 40 := by decide
  have k_60 : (60 : Int32).toInt = 60 := by decide
  have k_493 : (493 : Int32).toInt = 493 := by decide
  have hPL := PB_pl hpb
  have hPE := PB_pe hpb
  have hp4 := PV_pl hpb (rfl : pM σ = pM σ)
  have hp5 := PV_pe hpb (rfl : pM σ = pM σ)
  refine lv_ldc2 (v := 17) hx hb ha.2.2.2.1 (ha.2.2.2.2.1 _ (tb_in (w := .constantLong RX8 322 17) (by decide +kernel))) dX8_digest_0 ?_
  refine lv_lstore_n (lv' := [(1, .long 17), (0, .ref (G.1 0))]) hx hb dX8_digest_3 rfl hl (by decide) rfl (fun ls hl => ?_)
  refine lv_iconst (v := 0) hx hb dX8_digest_4 (by decide) ?_
  refine lv_istore_n (lv' := [(3, .int 0), (1, .long 17), (0, .ref (G.1 0))]) hx hb dX8_digest_5 rfl hl (by decide) rfl (fun ls hl => ?_)
  have lp_6 : ∀ (d j : Nat) (x0 : Int64) (H : Heap) (locs : List Loc) (ls : Array Slot), j ≤ 12 → 12 - j < d → x0 = foldL (fun w => n_count (pM σ) σ (nI w)) 17 j → va_P G.2.1 vwCl (wl G 24 (cM G σ)) H → va_S (xA G 24 s.heap.size) s.heap H locs → lv_has ls 5 [(3, .int (nI j)), (1, .long x0), (0, .ref (G.1 0))] → W p l e ({ frames := 3, cells := 0, slots := 0, locals := 71 } : Room) s m ([.ref (G.1 0)] : List Value).toArray below meth c H locs 0 0 (MQ below (va_Ql (fun (r : Int64) u => r = n_dig (pM σ) σ ∧ u = σ) (xB G 24 (cM G)) (xA G 24 s.heap.size)) ([.ref (G.1 0)] : List Value).toArray s 0 0 (xA G 24 s.heap.size)) (F0 m 6 ls []) := by
    intro d
    induction d with
    | zero => intro j x0 H locs ls hj hd; exact absurd hd (Nat.not_lt_zero _)
    | succ d ih_6 =>
      intro j x0 H locs ls hj_j hd_j e_x0 hP hS hl
      have h31_j : (nI j).toInt = (j : Int) := nI_toInt (by omega)
      refine lv_iload_n hx hb dX8_digest_6 rfl (lv_at hl 0 rfl) ?_
      refine lv_bipush (v := 12) hx hb dX8_digest_7 (by decide) ?_
      refine lv_icmp_ge (tgt := 31) hx hb dX8_digest_9 (by decide) (fun c_1 => ?_) (fun c_1 => ?_)
      · have t_1 := i_le c_1
        have u_1 := u_le c_1
        obtain rfl : j = 12 := by omega
        refine lv_iconst (v := 0) hx hb dX8_digest_31 (by decide) ?_
        refine lv_istore_n (lv' := [(3, .int 0), (1, .long x0), (0, .ref (G.1 0))]) hx hb dX8_digest_32 rfl hl (by decide) rfl (fun ls hl => ?_)
        have lp_33 : ∀ (d j1 : Nat) (x1 : Int64) (H : Heap) (locs : List Loc) (ls : Array Slot), j1 ≤ (nPl (pM σ)) → (nPl (pM σ)) - j1 < d → x1 = foldLL (dm_pole (pM σ) σ) (foldL (fun w => n_count (pM σ) σ (nI w)) 17 12) j1 → va_P G.2.1 vwCl (wl G 24 (cM G σ)) H → va_S (xA G 24 s.heap.size) s.heap H locs → lv_has ls 5 [(3, .int (nI j1)), (1, .long x1), (0, .ref (G.1 0))] → W p l e ({ frames := 3, cells := 0, slots := 0, locals := 71 } : Room) s m ([.ref (G.1 0)] : List Value).toArray below meth c H locs 0 0 (MQ below (va_Ql (fun (r : Int64) u => r = n_dig (pM σ) σ ∧ u = σ) (xB G 24 (cM G)) (xA G 24 s.heap.size)) ([.ref (G.1 0)] : List Value).toArray s 0 0 (xA G 24 s.heap.size)) (F0 m 33 ls []) := by
          intro d
          induction d with
          | zero => intro j1 x1 H locs ls hj hd; exact absurd hd (Nat.not_lt_zero _)
          | succ d ih_33 =>
            intro j1 x1 H locs ls hj_j1 hd_j1 e_x1 hP hS hl
            have h31_j1 : (nI j1).toInt = (j1 : Int) := nI_toInt (by omega)
            refine lv_iload_n hx hb dX8_digest_33 rfl (lv_at hl 0 rfl) ?_
            refine lv_aload_n hx hb dX8_digest_34 rfl (lv_at hl 2 rfl) ?_
            refine g8_163 ha hP 0 (by decide) (cM_0 G _) (v := .int (σ 0 4)) rfl dX8_digest_35 ?_
            refine lv_icmp_ge (tgt := 162) hx hb dX8_digest_38 (by decide) (fun c_2 => ?_) (fun c_2 => ?_)
            · have t_2 := i_le c_2
              have u_2 := u_le c_2
              obtain rfl : j1 = (nPl (pM σ)) := by omega
              refine lv_iconst (v := 0) hx hb dX8_digest_162 (by decide) ?_
              refine lv_istore_n (lv' := [(3, .int 0), (1, .long x1), (0, .ref (G.1 0))]) hx hb dX8_digest_163 rfl hl (by decide) rfl (fun ls hl => ?_)
              have lp_164 : ∀ (d j2 : Nat) (x2 : Int64) (H : Heap) (locs : List Loc) (ls : Array Slot), j2 ≤ (nPe (pM σ)) → (nPe (pM σ)) - j2 < d → x2 = foldLL (dm_one (pM σ) σ) (foldLL (dm_pole (pM σ) σ) (foldL (fun w => n_count (pM σ) σ (nI w)) 17 12) (nPl (pM σ))) j2 → va_P G.2.1 vwCl (wl G 24 (cM G σ)) H → va_S (xA G 24 s.heap.size) s.heap H locs → lv_has ls 5 [(3, .int (nI j2)), (1, .long x2), (0, .ref (G.1 0))] → W p l e ({ frames := 3, cells := 0, slots := 0, locals := 71 } : Room) s m ([.ref (G.1 0)] : List Value).toArray below meth c H locs 0 0 (MQ below (va_Ql (fun (r : Int64) u => r = n_dig (pM σ) σ ∧ u = σ) (xB G 24 (cM G)) (xA G 24 s.heap.size)) ([.ref (G.1 0)] : List Value).toArray s 0 0 (xA G 24 s.heap.size)) (F0 m 164 ls []) := by
                intro d
                induction d with
                | zero => intro j2 x2 H locs ls hj hd; exact absurd hd (Nat.not_lt_zero _)
                | succ d ih_164 =>
                  intro j2 x2 H locs ls hj_j2 hd_j2 e_x2 hP hS hl
                  have h31_j2 : (nI j2).toInt = (j2 : Int) := nI_toInt (by omega)
                  refine lv_iload_n hx hb dX8_digest_164 rfl (lv_at hl 0 rfl) ?_
                  refine lv_aload_n hx hb dX8_digest_165 rfl (lv_at hl 2 rfl) ?_
                  refine g8_166 ha hP 0 (by decide) (cM_0 G _) (v := .int (σ 0 5)) rfl dX8_digest_166 ?_
                  refine lv_icmp_ge (tgt := 237) hx hb dX8_digest_169 (by decide) (fun c_3 => ?_) (fun c_3 => ?_)
                  · have t_3 := i_le c_3
                    have u_3 := u_le c_3
                    obtain rfl : j2 = (nPe (pM σ)) := by omega
                    refine lv_iconst (v := 0) hx hb dX8_digest_237 (by decide) ?_
                    refine lv_istore_n (lv' := [(3, .int 0), (1, .long x2), (0, .ref (G.1 0))]) hx hb dX8_digest_238 rfl hl (by decide) rfl (fun ls hl => ?_)
                    have lp_239 : ∀ (d j3 : Nat) (x3 : Int64) (H : Heap) (locs : List Loc) (ls : Array Slot), j3 ≤ 3 → 3 - j3 < d → x3 = foldL (fun k => σ 14 (493 * k)) (foldLL (dm_one (pM σ) σ) (foldLL (dm_pole (pM σ) σ) (foldL (fun w => n_count (pM σ) σ (nI w)) 17 12) (nPl (pM σ))) (nPe (pM σ))) j3 → va_P G.2.1 vwCl (wl G 24 (cM G σ)) H → va_S (xA G 24 s.heap.size) s.heap H locs → lv_has ls 5 [(3, .int (nI j3)), (1, .long x3), (0, .ref (G.1 0))] → W p l e ({ frames := 3, cells := 0, slots := 0, locals := 71 } : Room) s m ([.ref (G.1 0)] : List Value).toArray below meth c H locs 0 0 (MQ below (va_Ql (fun (r : Int64) u => r = n_dig (pM σ) σ ∧ u = σ) (xB G 24 (cM G)) (xA G 24 s.heap.size)) ([.ref (G.1 0)] : List Value).toArray s 0 0 (xA G 24 s.heap.size)) (F0 m 239 ls []) := by
                      intro d
                      induction d with
                      | zero => intro j3 x3 H locs ls hj hd; exact absurd hd (Nat.not_lt_zero _)
                      | succ d ih_239 =>
                        intro j3 x3 H locs ls hj_j3 hd_j3 e_x3 hP hS hl
                        have h31_j3 : (nI j3).toInt = (j3 : Int) := nI_toInt (by omega)
                        refine lv_iload_n hx hb dX8_digest_239 rfl (lv_at hl 0 rfl) ?_
                        refine lv_iconst (v := 3) hx hb dX8_digest_240 (by decide) ?_
                        refine lv_icmp_ge (tgt := 268) hx hb dX8_digest_241 (by decide) (fun c_4 => ?_) (fun c_4 => ?_)
                        · have t_4 := i_le c_4
                          have u_4 := u_le c_4
                          obtain rfl : j3 = 3 := by omega
                          refine lv_iconst (v := 0) hx hb dX8_digest_268 (by decide) ?_
                          refine lv_istore_n (lv' := [(3, .int 0), (1, .long x3), (0, .ref (G.1 0))]) hx hb dX8_digest_269 rfl hl (by decide) rfl (fun ls hl => ?_)
                          have lp_270 : ∀ (d j4 : Nat) (x4 : Int64) (H : Heap) (locs : List Loc) (ls : Array Slot), j4 ≤ 6 → 6 - j4 < d → x4 = foldLL (dm_row σ 2 1 40) (foldL (fun k => σ 14 (493 * k)) (foldLL (dm_one (pM σ) σ) (foldLL (dm_pole (pM σ) σ) (foldL (fun w => n_count (pM σ) σ (nI w)) 17 12) (nPl (pM σ))) (nPe (pM σ))) 3) j4 → va_P G.2.1 vwCl (wl G 24 (cM G σ)) H → va_S (xA G 24 s.heap.size) s.heap H locs → lv_has ls 5 [(3, .int (nI j4)), (1, .long x4), (0, .ref (G.1 0))] → W p l e ({ frames := 3, cells := 0, slots := 0, locals := 71 } : Room) s m ([.ref (G.1 0)] : List Value).toArray below meth c H locs 0 0 (MQ below (va_Ql (fun (r : Int64) u => r = n_dig (pM σ) σ ∧ u = σ) (xB G 24 (cM G)) (xA G 24 s.heap.size)) ([.ref (G.1 0)] : List Value).toArray s 0 0 (xA G 24 s.heap.size)) (F0 m 270 ls []) := by
                            intro d
                            induction d with
                            | zero => intro j4 x4 H locs ls hj hd; exact absurd hd (Nat.not_lt_zero _)
                            | succ d ih_270 =>
                              intro j4 x4 H locs ls hj_j4 hd_j4 e_x4 hP hS hl
                              have h31_j4 : (nI j4).toInt = (j4 : Int) := nI_toInt (by omega)
                              refine lv_iload_n hx hb dX8_digest_270 rfl (lv_at hl 0 rfl) ?_
                              refine lv_bipush (v := 6) hx hb dX8_digest_271 (by decide) ?_
                              refine lv_icmp_ge (tgt := 336) hx hb dX8_digest_273 (by decide) (fun c_5 => ?_) (fun c_5 => ?_)
                              · have t_5 := i_le c_5
                                have u_5 := u_le c_5
                                obtain rfl : j4 = 6 := by omega
                                refine lv_iconst (v := 0) hx hb dX8_digest_336 (by decide) ?_
                                refine lv_istore_n (lv' := [(3, .int 0), (1, .long x4), (0, .ref (G.1 0))]) hx hb dX8_digest_337 rfl hl (by decide) rfl (fun ls hl => ?_)
                                have lp_338 : ∀ (d j6 : Nat) (x6 : Int64) (H : Heap) (locs : List Loc) (ls : Array Slot), j6 ≤ 4 → 4 - j6 < d → x6 = foldLL (dm_row σ 4 3 60) (foldLL (dm_row σ 2 1 40) (foldL (fun k => σ 14 (493 * k)) (foldLL (dm_one (pM σ) σ) (foldLL (dm_pole (pM σ) σ) (foldL (fun w => n_count (pM σ) σ (nI w)) 17 12) (nPl (pM σ))) (nPe (pM σ))) 3) 6) j6 → va_P G.2.1 vwCl (wl G 24 (cM G σ)) H → va_S (xA G 24 s.heap.size) s.heap H locs → lv_has ls 5 [(3, .int (nI j6)), (1, .long x6), (0, .ref (G.1 0))] → W p l e ({ frames := 3, cells := 0, slots := 0, locals := 71 } : Room) s m ([.ref (G.1 0)] : List Value).toArray below meth c H locs 0 0 (MQ below (va_Ql (fun (r : Int64) u => r = n_dig (pM σ) σ ∧ u = σ) (xB G 24 (cM G)) (xA G 24 s.heap.size)) ([.ref (G.1 0)] : List Value).toArray s 0 0 (xA G 24 s.heap.size)) (F0 m 338 ls []) := by
                                  intro d
                                  induction d with
                                  | zero => intro j6 x6 H locs ls hj hd; exact absurd hd (Nat.not_lt_zero _)
                                  | succ d ih_338 =>
                                    intro j6 x6 H locs ls hj_j6 hd_j6 e_x6 hP hS hl
                                    have h31_j6 : (nI j6).toInt = (j6 : Int) := nI_toInt (by omega)
                                    refine lv_iload_n hx hb dX8_digest_338 rfl (lv_at hl 0 rfl) ?_
                                    refine lv_iconst (v := 4) hx hb dX8_digest_339 (by decide) ?_
                                    refine lv_icmp_ge (tgt := 403) hx hb dX8_digest_340 (by decide) (fun c_6 => ?_) (fun c_6 => ?_)
                                    · have t_6 := i_le c_6
                                      have u_6 := u_le c_6
                                      obtain rfl : j6 = 4 := by omega
                                      refine lv_lload_n hx hb dX8_digest_403 rfl (lv_at hl 1 rfl) ?_
                                      exact xlret ha hP hS dX8_digest_404 ⟨by rw [e_x6]; rfl, rfl⟩ rfl
                                    · have t_6 := i_nle c_6
                                      have u_6 := u_nle c_6
                                      have hlt_j6 : j6 < 4 := by omega
                                      have hc6 := ix_cases (σ 4 j6)
                                      have hz6 := hrm.2 j6 hlt_j6
                                      refine lv_ldc2 (v := 31) hx hb ha.2.2.2.1 (ha.2.2.2.2.1 _ (tb_in (w := .constantLong RX8 324 31) (by decide +kernel))) dX8_digest_343 ?_
                                      refine lv_lload_n hx hb dX8_digest_346 rfl (lv_at hl 1 rfl) ?_
                                      refine lv_lmul hx hb dX8_digest_347 ?_
                                      refine lv_aload_n hx hb dX8_digest_348 rfl (lv_at hl 2 rfl) ?_
                                      refine g8_19 ha hP 0 (by decide) (cM_0 G _) (v := .ref (G.1 4)) rfl dX8_digest_349 ?_
                                      refine lv_iload_n hx hb dX8_digest_352 rfl (lv_at hl 0 rfl) ?_
                                      refine xialdN ha hP 4 (by decide) (cM_4 G _) j6 rfl (by omega) (by decide) dX8_digest_353 ?_
                                      refine lv_i2l (v := (σ 4 j6).toInt64) hx hb dX8_digest_354 rfl ?_
                                      refine lv_ladd hx hb dX8_digest_355 ?_
                                      refine lv_lstore_n (lv' := [(1, .long ((31 * x6) + (σ 4 j6).toInt64)), (3, .int (nI j6)), (0, .ref (G.1 0))]) hx hb dX8_digest_356 rfl hl (by decide) rfl (fun ls hl => ?_)
                                      refine lv_iconst (v := 0) hx hb dX8_digest_357 (by decide) ?_
                                      refine lv_istore (lv' := [(4, .int 0), (1, .long ((31 * x6) + (σ 4 j6).toInt64)), (3, .int (nI j6)), (0, .ref (G.1 0))]) hx hb dX8_digest_358 hl (by decide) rfl (fun ls hl => ?_)
                                      have lp_360 : ∀ (d j7 : Nat) (x7 : Int64) (H : Heap) (locs : List Loc) (ls : Array Slot), j7 ≤ (ix (σ 4 j6)) → (ix (σ 4 j6)) - j7 < d → x7 = foldL (fun i => σ 3 (60 * j6 + i)) (31 * x6 + (σ 4 j6).toInt64) j7 → va_P G.2.1 vwCl (wl G 24 (cM G σ)) H → va_S (xA G 24 s.heap.size) s.heap H locs → lv_has ls 5 [(4, .int (nI j7)), (1, .long x7), (3, .int (nI j6)), (0, .ref (G.1 0))] → W p l e ({ frames := 3, cells := 0, slots := 0, locals := 71 } : Room) s m ([.ref (G.1 0)] : List Value).toArray below meth c H locs 0 0 (MQ below (va_Ql (fun (r : Int64) u => r = n_dig (pM σ) σ ∧ u = σ) (xB G 24 (cM G)) (xA G 24 s.heap.size)) ([.ref (G.1 0)] : List Value).toArray s 0 0 (xA G 24 s.heap.size)) (F0 m 360 ls []) := by
                                        intro d
                                        induction d with
                                        | zero => intro j7 x7 H locs ls hj hd; exact absurd hd (Nat.not_lt_zero _)
                                        | succ d ih_360 =>
                                          intro j7 x7 H locs ls hj_j7 hd_j7 e_x7 hP hS hl
                                          have h31_j7 : (nI j7).toInt = (j7 : Int) := nI_toInt (by omega)
                                          refine lv_iload hx hb dX8_digest_360 (lv_at hl 0 rfl) ?_
                                          refine lv_aload_n hx hb dX8_digest_362 rfl (lv_at hl 3 rfl) ?_
                                          refine g8_19 ha hP 0 (by decide) (cM_0 G _) (v := .ref (G.1 4)) rfl dX8_digest_363 ?_
                                          refine lv_iload_n hx hb dX8_digest_366 rfl (lv_at hl 2 rfl) ?_
                                          refine xialdN ha hP 4 (by decide) (cM_4 G _) j6 rfl (by omega) (by decide) dX8_digest_367 ?_
                                          refine lv_icmp_ge (tgt := 397) hx hb dX8_digest_368 (by decide) (fun c_7 => ?_) (fun c_7 => ?_)
                                          · have t_7 := i_le c_7
                                            have u_7 := u_le c_7
                                            obtain rfl : j7 = (ix (σ 4 j6)) := by omega
                                            refine lv_iinc (v := (nI (j6 + 1))) (lv' := [(3, .int (nI (j6 + 1))), (4, .int (nI (ix (σ 4 j6)))), (1, .long x7), (0, .ref (G.1 0))]) hx hb dX8_digest_397 hl (k := 2) rfl (nI_1 j6) (by decide) rfl (fun ls hl => ?_)
                                            refine lv_goto (tgt := 338) hx hb dX8_digest_400 (by decide) ?_
                                            exact ih_338 (j6 + 1) x7 _ _ _ (by omega) (by omega) (by rw [foldLL, ← e_x6, dm_row, e_x7]) hP hS (lv_sub hl [0, 2, 3] rfl)
                                          · have t_7 := i_nle c_7
                                            have u_7 := u_nle c_7
                                            have hlt_j7 : j7 < (ix (σ 4 j6)) := by omega
                                            refine lv_ldc2 (v := 31) hx hb ha.2.2.2.1 (ha.2.2.2.2.1 _ (tb_in (w := .constantLong RX8 324 31) (by decide +kernel))) dX8_digest_371 ?_
                                            refine lv_lload_n hx hb dX8_digest_374 rfl (lv_at hl 1 rfl) ?_
                                            refine lv_lmul hx hb dX8_digest_375 ?_
                                            refine lv_aload_n hx hb dX8_digest_376 rfl (lv_at hl 3 rfl) ?_
                                            refine g8_16 ha hP 0 (by decide) (cM_0 G _) (v := .ref (G.1 3)) rfl dX8_digest_377 ?_
                                            refine lv_bipush (v := 60) hx hb dX8_digest_380 (by decide) ?_
                                            refine lv_iload_n hx hb dX8_digest_382 rfl (lv_at hl 2 rfl) ?_
                                            refine lv_imul hx hb dX8_digest_383 ?_
                                            refine lv_iload hx hb dX8_digest_384 (lv_at hl 0 rfl) ?_
                                            refine lv_iadd hx hb dX8_digest_386 ?_
                                            refine xialdN ha hP 3 (by decide) (cM_3 G _) ((60 * j6) + j7) (nadd (nmul (rfl : (60 : Int32) = nI 60) rfl) rfl) (by omega) (by decide) dX8_digest_387 ?_
                                            refine lv_i2l (v := (σ 3 ((60 * j6) + j7)).toInt64) hx hb dX8_digest_388 rfl ?_
                                            refine lv_ladd hx hb dX8_digest_389 ?_
                                            refine lv_lstore_n (lv' := [(1, .long ((31 * x7) + (σ 3 ((60 * j6) + j7)).toInt64)), (4, .int (nI j7)), (3, .int (nI j6)), (0, .ref (G.1 0))]) hx hb dX8_digest_390 rfl hl (by decide) rfl (fun ls hl => ?_)
                                            refine lv_iinc (v := (nI (j7 + 1))) (lv' := [(4, .int (nI (j7 + 1))), (1, .long ((31 * x7) + (σ 3 ((60 * j6) + j7)).toInt64)), (3, .int (nI j6)), (0, .ref (G.1 0))]) hx hb dX8_digest_391 hl (k := 1) rfl (nI_1 j7) (by decide) rfl (fun ls hl => ?_)
                                            refine lv_goto (tgt := 360) hx hb dX8_digest_394 (by decide) ?_
                                            exact ih_360 (j7 + 1) ((31 * x7) + (σ 3 ((60 * j6) + j7)).toInt64) _ _ _ (by omega) (by omega) (by rw [foldL, ← e_x7]) hP hS (lv_sub hl [0, 1, 2, 3] rfl)
                                      exact lp_360 ((ix (σ 4 j6)) - 0 + 1) 0 ((31 * x6) + (σ 4 j6).toInt64) _ _ _ (by omega) (by omega) rfl hP hS (lv_sub hl [0, 1, 2, 3] rfl)
                                exact lp_338 (4 - 0 + 1) 0 x4 _ _ _ (by omega) (by omega) (e_x4.trans (fLL_0 _ _)) hP hS (lv_sub hl [0, 1, 2] rfl)
                              · have t_5 := i_nle c_5
                                have u_5 := u_nle c_5
                                have hlt_j4 : j4 < 6 := by omega
                                have hc4 := ix_cases (σ 2 j4)
                                have hz4 := hrm.1 j4 hlt_j4
                                refine lv_ldc2 (v := 31) hx hb ha.2.2.2.1 (ha.2.2.2.2.1 _ (tb_in (w := .constantLong RX8 324 31) (by decide +kernel))) dX8_digest_276 ?_
                                refine lv_lload_n hx hb dX8_digest_279 rfl (lv_at hl 1 rfl) ?_
                                refine lv_lmul hx hb dX8_digest_280 ?_
                                refine lv_aload_n hx hb dX8_digest_281 rfl (lv_at hl 2 rfl) ?_
                                refine g8_13 ha hP 0 (by decide) (cM_0 G _) (v := .ref (G.1 2)) rfl dX8_digest_282 ?_
                                refine lv_iload_n hx hb dX8_digest_285 rfl (lv_at hl 0 rfl) ?_
                                refine xialdN ha hP 2 (by decide) (cM_2 G _) j4 rfl (by omega) (by decide) dX8_digest_286 ?_
                                refine lv_i2l (v := (σ 2 j4).toInt64) hx hb dX8_digest_287 rfl ?_
                                refine lv_ladd hx hb dX8_digest_288 ?_
                                refine lv_lstore_n (lv' := [(1, .long ((31 * x4) + (σ 2 j4).toInt64)), (3, .int (nI j4)), (0, .ref (G.1 0))]) hx hb dX8_digest_289 rfl hl (by decide) rfl (fun ls hl => ?_)
                                refine lv_iconst (v := 0) hx hb dX8_digest_290 (by decide) ?_
                                refine lv_istore (lv' := [(4, .int 0), (1, .long ((31 * x4) + (σ 2 j4).toInt64)), (3, .int (nI j4)), (0, .ref (G.1 0))]) hx hb dX8_digest_291 hl (by decide) rfl (fun ls hl => ?_)
                                have lp_293 : ∀ (d j5 : Nat) (x5 : Int64) (H : Heap) (locs : List Loc) (ls : Array Slot), j5 ≤ (ix (σ 2 j4)) → (ix (σ 2 j4)) - j5 < d → x5 = foldL (fun i => σ 1 (40 * j4 + i)) (31 * x4 + (σ 2 j4).toInt64) j5 → va_P G.2.1 vwCl (wl G 24 (cM G σ)) H → va_S (xA G 24 s.heap.size) s.heap H locs → lv_has ls 5 [(4, .int (nI j5)), (1, .long x5), (3, .int (nI j4)), (0, .ref (G.1 0))] → W p l e ({ frames := 3, cells := 0, slots := 0, locals := 71 } : Room) s m ([.ref (G.1 0)] : List Value).toArray below meth c H locs 0 0 (MQ below (va_Ql (fun (r : Int64) u => r = n_dig (pM σ) σ ∧ u = σ) (xB G 24 (cM G)) (xA G 24 s.heap.size)) ([.ref (G.1 0)] : List Value).toArray s 0 0 (xA G 24 s.heap.size)) (F0 m 293 ls []) := by
                                  intro d
                                  induction d with
                                  | zero => intro j5 x5 H locs ls hj hd; exact absurd hd (Nat.not_lt_zero _)
                                  | succ d ih_293 =>
                                    intro j5 x5 H locs ls hj_j5 hd_j5 e_x5 hP hS hl
                                    have h31_j5 : (nI j5).toInt = (j5 : Int) := nI_toInt (by omega)
                                    refine lv_iload hx hb dX8_digest_293 (lv_at hl 0 rfl) ?_
                                    refine lv_aload_n hx hb dX8_digest_295 rfl (lv_at hl 3 rfl) ?_
                                    refine g8_13 ha hP 0 (by decide) (cM_0 G _) (v := .ref (G.1 2)) rfl dX8_digest_296 ?_
                                    refine lv_iload_n hx hb dX8_digest_299 rfl (lv_at hl 2 rfl) ?_
                                    refine xialdN ha hP 2 (by decide) (cM_2 G _) j4 rfl (by omega) (by decide) dX8_digest_300 ?_
                                    refine lv_icmp_ge (tgt := 330) hx hb dX8_digest_301 (by decide) (fun c_8 => ?_) (fun c_8 => ?_)
                                    · have t_8 := i_le c_8
                                      have u_8 := u_le c_8
                                      obtain rfl : j5 = (ix (σ 2 j4)) := by omega
                                      refine lv_iinc (v := (nI (j4 + 1))) (lv' := [(3, .int (nI (j4 + 1))), (4, .int (nI (ix (σ 2 j4)))), (1, .long x5), (0, .ref (G.1 0))]) hx hb dX8_digest_330 hl (k := 2) rfl (nI_1 j4) (by decide) rfl (fun ls hl => ?_)
                                      refine lv_goto (tgt := 270) hx hb dX8_digest_333 (by decide) ?_
                                      exact ih_270 (j4 + 1) x5 _ _ _ (by omega) (by omega) (by rw [foldLL, ← e_x4, dm_row, e_x5]) hP hS (lv_sub hl [0, 2, 3] rfl)
                                    · have t_8 := i_nle c_8
                                      have u_8 := u_nle c_8
                                      have hlt_j5 : j5 < (ix (σ 2 j4)) := by omega
                                      refine lv_ldc2 (v := 31) hx hb ha.2.2.2.1 (ha.2.2.2.2.1 _ (tb_in (w := .constantLong RX8 324 31) (by decide +kernel))) dX8_digest_304 ?_
                                      refine lv_lload_n hx hb dX8_digest_307 rfl (lv_at hl 1 rfl) ?_
                                      refine lv_lmul hx hb dX8_digest_308 ?_
                                      refine lv_aload_n hx hb dX8_digest_309 rfl (lv_at hl 3 rfl) ?_
                                      refine g8_7 ha hP 0 (by decide) (cM_0 G _) (v := .ref (G.1 1)) rfl dX8_digest_310 ?_
                                      refine lv_bipush (v := 40) hx hb dX8_digest_313 (by decide) ?_
                                      refine lv_iload_n hx hb dX8_digest_315 rfl (lv_at hl 2 rfl) ?_
                                      refine lv_imul hx hb dX8_digest_316 ?_
                                      refine lv_iload hx hb dX8_digest_317 (lv_at hl 0 rfl) ?_
                                      refine lv_iadd hx hb dX8_digest_319 ?_
                                      refine xialdN ha hP 1 (by decide) (cM_1 G _) ((40 * j4) + j5) (nadd (nmul (rfl : (40 : Int32) = nI 40) rfl) rfl) (by omega) (by decide) dX8_digest_320 ?_
                                      refine lv_i2l (v := (σ 1 ((40 * j4) + j5)).toInt64) hx hb dX8_digest_321 rfl ?_
                                      refine lv_ladd hx hb dX8_digest_322 ?_
                                      refine lv_lstore_n (lv' := [(1, .long ((31 * x5) + (σ 1 ((40 * j4) + j5)).toInt64)), (4, .int (nI j5)), (3, .int (nI j4)), (0, .ref (G.1 0))]) hx hb dX8_digest_323 rfl hl (by decide) rfl (fun ls hl => ?_)
                                      refine lv_iinc (v := (nI (j5 + 1))) (lv' := [(4, .int (nI (j5 + 1))), (1, .long ((31 * x5) + (σ 1 ((40 * j4) + j5)).toInt64)), (3, .int (nI j4)), (0, .ref (G.1 0))]) hx hb dX8_digest_324 hl (k := 1) rfl (nI_1 j5) (by decide) rfl (fun ls hl => ?_)
                                      refine lv_goto (tgt := 293) hx hb dX8_digest_327 (by decide) ?_
                                      exact ih_293 (j5 + 1) ((31 * x5) + (σ 1 ((40 * j4) + j5)).toInt64) _ _ _ (by omega) (by omega) (by rw [foldL, ← e_x5]) hP hS (lv_sub hl [0, 1, 2, 3] rfl)
                                exact lp_293 ((ix (σ 2 j4)) - 0 + 1) 0 ((31 * x4) + (σ 2 j4).toInt64) _ _ _ (by omega) (by omega) rfl hP hS (lv_sub hl [0, 1, 2, 3] rfl)
                          exact lp_270 (6 - 0 + 1) 0 x3 _ _ _ (by omega) (by omega) (e_x3.trans (fLL_0 _ _)) hP hS (lv_sub hl [0, 1, 2] rfl)
                        · have t_4 := i_nle c_4
                          have u_4 := u_nle c_4
                          have hlt_j3 : j3 < 3 := by omega
                          refine lv_ldc2 (v := 31) hx hb ha.2.2.2.1 (ha.2.2.2.2.1 _ (tb_in (w := .constantLong RX8 324 31) (by decide +kernel))) dX8_digest_244 ?_
                          refine lv_lload_n hx hb dX8_digest_247 rfl (lv_at hl 1 rfl) ?_
                          refine lv_lmul hx hb dX8_digest_248 ?_
                          refine lv_aload_n hx hb dX8_digest_249 rfl (lv_at hl 2 rfl) ?_
                          refine g8_53 ha hP 0 (by decide) (cM_0 G _) (v := .ref (G.1 14)) rfl dX8_digest_250 ?_
                          refine lv_sipush (v := 493) hx hb dX8_digest_253 (by decide) ?_
                          refine lv_iload_n hx hb dX8_digest_256 rfl (lv_at hl 0 rfl) ?_
                          refine lv_imul hx hb dX8_digest_257 ?_
                          refine xialdN ha hP 14 (by decide) (cM_14 G _) (493 * j3) (nmul (rfl : (493 : Int32) = nI 493) rfl) (by omega) (by decide) dX8_digest_258 ?_
                          refine lv_i2l (v := (σ 14 (493 * j3)).toInt64) hx hb dX8_digest_259 rfl ?_
                          refine lv_ladd hx hb dX8_digest_260 ?_
                          refine lv_lstore_n (lv' := [(1, .long ((31 * x3) + (σ 14 (493 * j3)).toInt64)), (3, .int (nI j3)), (0, .ref (G.1 0))]) hx hb dX8_digest_261 rfl hl (by decide) rfl (fun ls hl => ?_)
                          refine lv_iinc (v := (nI (j3 + 1))) (lv' := [(3, .int (nI (j3 + 1))), (1, .long ((31 * x3) + (σ 14 (493 * j3)).toInt64)), (0, .ref (G.1 0))]) hx hb dX8_digest_262 hl (k := 1) rfl (nI_1 j3) (by decide) rfl (fun ls hl => ?_)
                          refine lv_goto (tgt := 239) hx hb dX8_digest_265 (by decide) ?_
                          exact ih_239 (j3 + 1) ((31 * x3) + (σ 14 (493 * j3)).toInt64) _ _ _ (by omega) (by omega) (by rw [foldL, ← e_x3]) hP hS (lv_sub hl [0, 1, 2] rfl)
                    exact lp_239 (3 - 0 + 1) 0 x2 _ _ _ (by omega) (by omega) (e_x2.trans (fL_0 _ _)) hP hS (lv_sub hl [0, 1, 2] rfl)
                  · have t_3 := i_nle c_3
                    have u_3 := u_nle c_3
                    have hlt_j2 : j2 < (nPe (pM σ)) := by omega
                    have hone := one_nI hpb hlt_j2
                    have hsj := hsv j2 hlt_j2
                    refine lv_ldc2 (v := 31) hx hb ha.2.2.2.1 (ha.2.2.2.2.1 _ (tb_in (w := .constantLong RX8 324 31) (by decide +kernel))) dX8_digest_172 ?_
                    refine lv_ldc2 (v := 31) hx hb ha.2.2.2.1 (ha.2.2.2.2.1 _ (tb_in (w := .constantLong RX8 324 31) (by decide +kernel))) dX8_digest_175 ?_
                    refine lv_ldc2 (v := 31) hx hb ha.2.2.2.1 (ha.2.2.2.2.1 _ (tb_in (w := .constantLong RX8 324 31) (by decide +kernel))) dX8_digest_178 ?_
                    refine lv_ldc2 (v := 31) hx hb ha.2.2.2.1 (ha.2.2.2.2.1 _ (tb_in (w := .constantLong RX8 324 31) (by decide +kernel))) dX8_digest_181 ?_
                    refine lv_lload_n hx hb dX8_digest_184 rfl (lv_at hl 1 rfl) ?_
                    refine lv_lmul hx hb dX8_digest_185 ?_
                    refine lv_aload_n hx hb dX8_digest_186 rfl (lv_at hl 2 rfl) ?_
                    refine g8_38 ha hP 0 (by decide) (cM_0 G _) (v := .ref (G.1 9)) rfl dX8_digest_187 ?_
                    refine lv_iload_n hx hb dX8_digest_190 rfl (lv_at hl 0 rfl) ?_
                    refine xialdN ha hP 9 (by decide) (cM_9 G _) j2 rfl (by omega) (by decide) dX8_digest_191 ?_
                    refine lv_i2l (v := (σ 9 j2).toInt64) hx hb dX8_digest_192 rfl ?_
                    refine lv_ladd hx hb dX8_digest_193 ?_
                    refine lv_lmul hx hb dX8_digest_194 ?_
                    refine lv_aload_n hx hb dX8_digest_195 rfl (lv_at hl 2 rfl) ?_
                    refine g8_41 ha hP 0 (by decide) (cM_0 G _) (v := .ref (G.1 10)) rfl dX8_digest_196 ?_
                    refine lv_iload_n hx hb dX8_digest_199 rfl (lv_at hl 0 rfl) ?_
                    refine xialdN ha hP 10 (by decide) (cM_10 G _) j2 rfl (by omega) (by decide) dX8_digest_200 ?_
                    refine lv_i2l (v := (σ 10 j2).toInt64) hx hb dX8_digest_201 rfl ?_
                    refine lv_ladd hx hb dX8_digest_202 ?_
                    refine lv_lmul hx hb dX8_digest_203 ?_
                    refine lv_aload_n hx hb dX8_digest_204 rfl (lv_at hl 2 rfl) ?_
                    refine g8_44 ha hP 0 (by decide) (cM_0 G _) (v := .ref (G.1 11)) rfl dX8_digest_205 ?_
                    refine lv_iconst (v := 5) hx hb dX8_digest_208 (by decide) ?_
                    refine lv_iload_n hx hb dX8_digest_209 rfl (lv_at hl 0 rfl) ?_
                    refine lv_iadd hx hb dX8_digest_210 ?_
                    refine xialdN ha hP 11 (by decide) (cM_11 G _) (5 + j2) (nadd (rfl : (5 : Int32) = nI 5) rfl) (by omega) (by decide) dX8_digest_211 ?_
                    refine lv_i2l (v := (σ 11 (5 + j2)).toInt64) hx hb dX8_digest_212 rfl ?_
                    refine lv_ladd hx hb dX8_digest_213 ?_
                    refine lv_lmul hx hb dX8_digest_214 ?_
                    refine lv_aload_n hx hb dX8_digest_215 rfl (lv_at hl 2 rfl) ?_
                    refine lv_iload_n hx hb dX8_digest_216 rfl (lv_at hl 0 rfl) ?_
                    refine lv_aload_n hx hb dX8_digest_217 rfl (lv_at hl 2 rfl) ?_
                    refine g8_44 ha hP 0 (by decide) (cM_0 G _) (v := .ref (G.1 11)) rfl dX8_digest_218 ?_
                    refine lv_iconst (v := 5) hx hb dX8_digest_221 (by decide) ?_
                    refine lv_iload_n hx hb dX8_digest_222 rfl (lv_at hl 0 rfl) ?_
                    refine lv_iadd hx hb dX8_digest_223 ?_
                    refine xialdN ha hP 11 (by decide) (cM_11 G _) (5 + j2) (nadd (rfl : (5 : Int32) = nI 5) rfl) (by omega) (by decide) dX8_digest_224 ?_
                    refine xVi ha hP hS (y := yX8_highOn) (As := [.int (nI j2), .int (σ 11 (5 + j2))]) (rest := [.long (31 * ((31 * ((31 * ((31 * x2) + (σ 9 j2).toInt64)) + (σ 10 j2).toInt64)) + (σ 11 (5 + j2)).toInt64))]) 0 (by decide) (cM_0 G _) rfl rfl (c_X8_highOn G l σ (pM σ) (nI j2) (σ 11 (5 + j2)) hpb rfl hone hsj) kw_X8_177 hd_X8_highOn rfl ⟨rfl, rfl⟩ ⟨Nat.le_of_ble_eq_true rfl, Nat.le_of_ble_eq_true rfl⟩ ⟨Nat.zero_le _, Nat.zero_le _⟩ hl.1 (Nat.le_of_ble_eq_true rfl) rfl dX8_digest_225 (fun r u H locs hpq hP hS => ?_)
                    obtain ⟨hr_, hu_⟩ := hpq
                    have hr_ := hr_.symm
                    have hu_ := hu_.symm
                    subst hr_
                    subst hu_
                    refine lv_i2l (v := (a_high (pM σ) (nI j2) (σ 11 (5 + j2))).toInt64) hx hb dX8_digest_228 rfl ?_
                    refine lv_ladd hx hb dX8_digest_229 ?_
                    refine lv_lstore_n (lv' := [(1, .long ((31 * ((31 * ((31 * ((31 * x2) + (σ 9 j2).toInt64)) + (σ 10 j2).toInt64)) + (σ 11 (5 + j2)).toInt64)) + (a_high (pM σ) (nI j2) (σ 11 (5 + j2))).toInt64)), (3, .int (nI j2)), (0, .ref (G.1 0))]) hx hb dX8_digest_230 rfl hl (by decide) rfl (fun ls hl => ?_)
                    refine lv_iinc (v := (nI (j2 + 1))) (lv' := [(3, .int (nI (j2 + 1))), (1, .long ((31 * ((31 * ((31 * ((31 * x2) + (σ 9 j2).toInt64)) + (σ 10 j2).toInt64)) + (σ 11 (5 + j2)).toInt64)) + (a_high (pM σ) (nI j2) (σ 11 (5 + j2))).toInt64)), (0, .ref (G.1 0))]) hx hb dX8_digest_231 hl (k := 1) rfl (nI_1 j2) (by decide) rfl (fun ls hl => ?_)
                    refine lv_goto (tgt := 164) hx hb dX8_digest_234 (by decide) ?_
                    exact ih_164 (j2 + 1) ((31 * ((31 * ((31 * ((31 * x2) + (σ 9 j2).toInt64)) + (σ 10 j2).toInt64)) + (σ 11 (5 + j2)).toInt64)) + (a_high (pM σ) (nI j2) (σ 11 (5 + j2))).toInt64) _ _ _ (by omega) (by omega) (by rw [foldLL, ← e_x2]; rfl) hP hS (lv_sub hl [0, 1, 2] rfl)
              exact lp_164 ((nPe (pM σ)) - 0 + 1) 0 x1 _ _ _ (by omega) (by omega) (e_x1.trans (fLL_0 _ _)) hP hS (lv_sub hl [0, 1, 2] rfl)
            · have t_2 := i_nle c_2
              have u_2 := u_nle c_2
              have hlt_j1 : j1 < (nPl (pM σ)) := by omega
              have hpo := pole_nI hpb hlt_j1
              refine lv_ldc2 (v := 31) hx hb ha.2.2.2.1 (ha.2.2.2.2.1 _ (tb_in (w := .constantLong RX8 324 31) (by decide +kernel))) dX8_digest_41 ?_
              refine lv_ldc2 (v := 31) hx hb ha.2.2.2.1 (ha.2.2.2.2.1 _ (tb_in (w := .constantLong RX8 324 31) (by decide +kernel))) dX8_digest_44 ?_
              refine lv_ldc2 (v := 31) hx hb ha.2.2.2.1 (ha.2.2.2.2.1 _ (tb_in (w := .constantLong RX8 324 31) (by decide +kernel))) dX8_digest_47 ?_
              refine lv_ldc2 (v := 31) hx hb ha.2.2.2.1 (ha.2.2.2.2.1 _ (tb_in (w := .constantLong RX8 324 31) (by decide +kernel))) dX8_digest_50 ?_
              refine lv_lload_n hx hb dX8_digest_53 rfl (lv_at hl 1 rfl) ?_
              refine lv_lmul hx hb dX8_digest_54 ?_
              refine lv_aload_n hx hb dX8_digest_55 rfl (lv_at hl 2 rfl) ?_
              refine g8_29 ha hP 0 (by decide) (cM_0 G _) (v := .ref (G.1 6)) rfl dX8_digest_56 ?_
              refine lv_iload_n hx hb dX8_digest_59 rfl (lv_at hl 0 rfl) ?_
              refine xialdN ha hP 6 (by decide) (cM_6 G _) j1 rfl (by omega) (by decide) dX8_digest_60 ?_
              refine lv_i2l (v := (σ 6 j1).toInt64) hx hb dX8_digest_61 rfl ?_
              refine lv_ladd hx hb dX8_digest_62 ?_
              refine lv_lmul hx hb dX8_digest_63 ?_
              refine lv_aload_n hx hb dX8_digest_64 rfl (lv_at hl 2 rfl) ?_
              refine g8_32 ha hP 0 (by decide) (cM_0 G _) (v := .ref (G.1 7)) rfl dX8_digest_65 ?_
              refine lv_iload_n hx hb dX8_digest_68 rfl (lv_at hl 0 rfl) ?_
              refine xialdN ha hP 7 (by decide) (cM_7 G _) j1 rfl (by omega) (by decide) dX8_digest_69 ?_
              refine lv_i2l (v := (σ 7 j1).toInt64) hx hb dX8_digest_70 rfl ?_
              refine lv_ladd hx hb dX8_digest_71 ?_
              refine lv_lmul hx hb dX8_digest_72 ?_
              refine lv_aload_n hx hb dX8_digest_73 rfl (lv_at hl 2 rfl) ?_
              refine g8_35 ha hP 0 (by decide) (cM_0 G _) (v := .ref (G.1 8)) rfl dX8_digest_74 ?_
              refine lv_iload_n hx hb dX8_digest_77 rfl (lv_at hl 0 rfl) ?_
              refine xialdN ha hP 8 (by decide) (cM_8 G _) j1 rfl (by omega) (by decide) dX8_digest_78 ?_
              refine lv_i2l (v := (σ 8 j1).toInt64) hx hb dX8_digest_79 rfl ?_
              refine lv_ladd hx hb dX8_digest_80 ?_
              refine lv_lmul hx hb dX8_digest_81 ?_
              refine lv_aload_n hx hb dX8_digest_82 rfl (lv_at hl 2 rfl) ?_
              refine g8_44 ha hP 0 (by decide) (cM_0 G _) (v := .ref (G.1 11)) rfl dX8_digest_83 ?_
              refine lv_iconst (v := 0) hx hb dX8_digest_86 (by decide) ?_
              refine lv_iload_n hx hb dX8_digest_87 rfl (lv_at hl 0 rfl) ?_
              refine lv_iadd hx hb dX8_digest_88 ?_
              refine xialdN ha hP 11 (by decide) (cM_11 G _) (0 + j1) (nadd (rfl : (0 : Int32) = nI 0) rfl) (by omega) (by decide) dX8_digest_89 ?_
              refine lv_i2l (v := (σ 11 (0 + j1)).toInt64) hx hb dX8_digest_90 rfl ?_
              refine lv_ladd hx hb dX8_digest_91 ?_
              refine lv_lstore_n (lv' := [(1, .long ((31 * ((31 * ((31 * ((31 * x1) + (σ 6 j1).toInt64)) + (σ 7 j1).toInt64)) + (σ 8 j1).toInt64)) + (σ 11 (0 + j1)).toInt64)), (3, .int (nI j1)), (0, .ref (G.1 0))]) hx hb dX8_digest_92 rfl hl (by decide) rfl (fun ls hl => ?_)
              refine lv_ldc2 (v := 31) hx hb ha.2.2.2.1 (ha.2.2.2.2.1 _ (tb_in (w := .constantLong RX8 324 31) (by decide +kernel))) dX8_digest_93 ?_
              refine lv_ldc2 (v := 31) hx hb ha.2.2.2.1 (ha.2.2.2.2.1 _ (tb_in (w := .constantLong RX8 324 31) (by decide +kernel))) dX8_digest_96 ?_
              refine lv_ldc2 (v := 31) hx hb ha.2.2.2.1 (ha.2.2.2.2.1 _ (tb_in (w := .constantLong RX8 324 31) (by decide +kernel))) dX8_digest_99 ?_
              refine lv_ldc2 (v := 31) hx hb ha.2.2.2.1 (ha.2.2.2.2.1 _ (tb_in (w := .constantLong RX8 324 31) (by decide +kernel))) dX8_digest_102 ?_
              refine lv_lload_n hx hb dX8_digest_105 rfl (lv_at hl 0 rfl) ?_
              refine lv_lmul hx hb dX8_digest_106 ?_
              refine lv_aload_n hx hb dX8_digest_107 rfl (lv_at hl 2 rfl) ?_
              refine lv_aload_n hx hb dX8_digest_108 rfl (lv_at hl 2 rfl) ?_
              refine g8_44 ha hP 0 (by decide) (cM_0 G _) (v := .ref (G.1 11)) rfl dX8_digest_109 ?_
              refine lv_iload_n hx hb dX8_digest_112 rfl (lv_at hl 1 rfl) ?_
              refine xVi ha hP hS (y := yX8_bearsOn) (As := [.ref (G.1 11), .int (nI j1)]) (rest := [.long (31 * ((31 * ((31 * ((31 * ((31 * x1) + (σ 6 j1).toInt64)) + (σ 7 j1).toInt64)) + (σ 8 j1).toInt64)) + (σ 11 (0 + j1)).toInt64)), .long 31, .long 31, .long 31]) 0 (by decide) (cM_0 G _) rfl rfl (c_X8_bearsOn G l σ (pM σ) 11 (nI j1) hpb rfl (by unfold oT; omega) hpo) kw_X8_189 hd_X8_bearsOn rfl ⟨rfl, rfl⟩ ⟨Nat.le_of_ble_eq_true rfl, Nat.le_of_ble_eq_true rfl⟩ ⟨Nat.zero_le _, Nat.zero_le _⟩ hl.1 (Nat.le_of_ble_eq_true rfl) rfl dX8_digest_113 (fun r u H locs hpq hP hS => ?_)
              obtain ⟨hr_, hu_⟩ := hpq
              have hr_ := hr_.symm
              have hu_ := hu_.symm
              subst hr_
              subst hu_
              refine lv_i2l (v := (a_bearsNow (pM σ) (sM σ 11) (nI j1)).toInt64) hx hb dX8_digest_116 rfl ?_
              refine lv_ladd hx hb dX8_digest_117 ?_
              refine lv_lmul hx hb dX8_digest_118 ?_
              refine lv_aload_n hx hb dX8_digest_119 rfl (lv_at hl 2 rfl) ?_
              refine lv_aload_n hx hb dX8_digest_120 rfl (lv_at hl 2 rfl) ?_
              refine g8_44 ha hP 0 (by decide) (cM_0 G _) (v := .ref (G.1 11)) rfl dX8_digest_121 ?_
              refine lv_iload_n hx hb dX8_digest_124 rfl (lv_at hl 1 rfl) ?_
              refine xVi ha hP hS (y := yX8_loadOn) (As := [.ref (G.1 11), .int (nI j1)]) (rest := [.long (31 * ((31 * ((31 * ((31 * ((31 * ((31 * x1) + (σ 6 j1).toInt64)) + (σ 7 j1).toInt64)) + (σ 8 j1).toInt64)) + (σ 11 (0 + j1)).toInt64)) + (a_bearsNow (pM σ) (sM σ 11) (nI j1)).toInt64)), .long 31, .long 31]) 0 (by decide) (cM_0 G _) rfl rfl (c_X8_loadOn G l σ (pM σ) 11 (nI j1) hpb rfl (by unfold oT; omega) hpo) kw_X8_185 hd_X8_loadOn rfl ⟨rfl, rfl⟩ ⟨Nat.le_of_ble_eq_true rfl, Nat.le_of_ble_eq_true rfl⟩ ⟨Nat.zero_le _, Nat.zero_le _⟩ hl.1 (Nat.le_of_ble_eq_true rfl) rfl dX8_digest_125 (fun r u H locs hpq hP hS => ?_)
              obtain ⟨hr_, hu_⟩ := hpq
              have hr_ := hr_.symm
              have hu_ := hu_.symm
              subst hr_
              subst hu_
              refine lv_i2l (v := (a_load (pM σ) (sM σ 11) (nI j1)).toInt64) hx hb dX8_digest_128 rfl ?_
              refine lv_ladd hx hb dX8_digest_129 ?_
              refine lv_lmul hx hb dX8_digest_130 ?_
              refine lv_aload_n hx hb dX8_digest_131 rfl (lv_at hl 2 rfl) ?_
              refine lv_aload_n hx hb dX8_digest_132 rfl (lv_at hl 2 rfl) ?_
              refine g8_44 ha hP 0 (by decide) (cM_0 G _) (v := .ref (G.1 11)) rfl dX8_digest_133 ?_
              refine lv_iload_n hx hb dX8_digest_136 rfl (lv_at hl 1 rfl) ?_
              refine xVi ha hP hS (y := yX8_sittersOn) (As := [.ref (G.1 11), .int (nI j1)]) (rest := [.long (31 * ((31 * ((31 * ((31 * ((31 * ((31 * ((31 * x1) + (σ 6 j1).toInt64)) + (σ 7 j1).toInt64)) + (σ 8 j1).toInt64)) + (σ 11 (0 + j1)).toInt64)) + (a_bearsNow (pM σ) (sM σ 11) (nI j1)).toInt64)) + (a_load (pM σ) (sM σ 11) (nI j1)).toInt64)), .long 31]) 0 (by decide) (cM_0 G _) rfl rfl (c_X8_sittersOn G l σ (pM σ) 11 (nI j1) hpb rfl (by unfold oT; omega)) kw_X8_199 hd_X8_sittersOn rfl ⟨rfl, rfl⟩ ⟨Nat.le_of_ble_eq_true rfl, Nat.le_of_ble_eq_true rfl⟩ ⟨Nat.zero_le _, Nat.zero_le _⟩ hl.1 (Nat.le_of_ble_eq_true rfl) rfl dX8_digest_137 (fun r u H locs hpq hP hS => ?_)
              obtain ⟨hr_, hu_⟩ := hpq
              have hr_ := hr_.symm
              have hu_ := hu_.symm
              subst hr_
              subst hu_
              refine lv_i2l (v := (a_sitters (pM σ) (sM σ 11) (nI j1)).toInt64) hx hb dX8_digest_140 rfl ?_
              refine lv_ladd hx hb dX8_digest_141 ?_
              refine lv_lmul hx hb dX8_digest_142 ?_
              refine lv_aload_n hx hb dX8_digest_143 rfl (lv_at hl 2 rfl) ?_
              refine g8_44 ha hP 0 (by decide) (cM_0 G _) (v := .ref (G.1 11)) rfl dX8_digest_144 ?_
              refine lv_iconst (v := 4) hx hb dX8_digest_147 (by decide) ?_
              refine xialdN ha hP 11 (by decide) (cM_11 G _) 4 (by decide) (by decide) (by decide) dX8_digest_148 ?_
              refine lv_iload_n hx hb dX8_digest_149 rfl (lv_at hl 1 rfl) ?_
              refine lv_ishr hx hb dX8_digest_150 ?_
              refine lv_iconst (v := 1) hx hb dX8_digest_151 (by decide) ?_
              refine lv_iand hx hb dX8_digest_152 ?_
              refine lv_i2l (v := (((σ 11 4) >>> (nI j1 &&& 31)) &&& 1).toInt64) hx hb dX8_digest_153 rfl ?_
              refine lv_ladd hx hb dX8_digest_154 ?_
              refine lv_lstore_n (lv' := [(1, .long ((31 * ((31 * ((31 * ((31 * ((31 * ((31 * ((31 * ((31 * x1) + (σ 6 j1).toInt64)) + (σ 7 j1).toInt64)) + (σ 8 j1).toInt64)) + (σ 11 (0 + j1)).toInt64)) + (a_bearsNow (pM σ) (sM σ 11) (nI j1)).toInt64)) + (a_load (pM σ) (sM σ 11) (nI j1)).toInt64)) + (a_sitters (pM σ) (sM σ 11) (nI j1)).toInt64)) + (((σ 11 4) >>> (nI j1 &&& 31)) &&& 1).toInt64)), (3, .int (nI j1)), (0, .ref (G.1 0))]) hx hb dX8_digest_155 rfl hl (by decide) rfl (fun ls hl => ?_)
              refine lv_iinc (v := (nI (j1 + 1))) (lv' := [(3, .int (nI (j1 + 1))), (1, .long ((31 * ((31 * ((31 * ((31 * ((31 * ((31 * ((31 * ((31 * x1) + (σ 6 j1).toInt64)) + (σ 7 j1).toInt64)) + (σ 8 j1).toInt64)) + (σ 11 (0 + j1)).toInt64)) + (a_bearsNow (pM σ) (sM σ 11) (nI j1)).toInt64)) + (a_load (pM σ) (sM σ 11) (nI j1)).toInt64)) + (a_sitters (pM σ) (sM σ 11) (nI j1)).toInt64)) + (((σ 11 4) >>> (nI j1 &&& 31)) &&& 1).toInt64)), (0, .ref (G.1 0))]) hx hb dX8_digest_156 hl (k := 1) rfl (nI_1 j1) (by decide) rfl (fun ls hl => ?_)
              refine lv_goto (tgt := 33) hx hb dX8_digest_159 (by decide) ?_
              exact ih_33 (j1 + 1) ((31 * ((31 * ((31 * ((31 * ((31 * ((31 * ((31 * ((31 * x1) + (σ 6 j1).toInt64)) + (σ 7 j1).toInt64)) + (σ 8 j1).toInt64)) + (σ 11 (0 + j1)).toInt64)) + (a_bearsNow (pM σ) (sM σ 11) (nI j1)).toInt64)) + (a_load (pM σ) (sM σ 11) (nI j1)).toInt64)) + (a_sitters (pM σ) (sM σ 11) (nI j1)).toInt64)) + (((σ 11 4) >>> (nI j1 &&& 31)) &&& 1).toInt64) _ _ _ (by omega) (by omega) (by rw [foldLL, ← e_x1]; rfl) hP hS (lv_sub hl [0, 1, 2] rfl)
        exact lp_33 ((nPl (pM σ)) - 0 + 1) 0 x0 _ _ _ (by omega) (by omega) (e_x0.trans (fLL_0 _ _)) hP hS (lv_sub hl [0, 1, 2] rfl)
      · have t_1 := i_nle c_1
        have u_1 := u_nle c_1
        have hlt_j : j < 12 := by omega
        refine lv_ldc2 (v := 31) hx hb ha.2.2.2.1 (ha.2.2.2.2.1 _ (tb_in (w := .constantLong RX8 324 31) (by decide +kernel))) dX8_digest_12 ?_
        refine lv_lload_n hx hb dX8_digest_15 rfl (lv_at hl 1 rfl) ?_
        refine lv_lmul hx hb dX8_digest_16 ?_
        refine lv_aload_n hx hb dX8_digest_17 rfl (lv_at hl 2 rfl) ?_
        refine lv_iload_n hx hb dX8_digest_18 rfl (lv_at hl 0 rfl) ?_
        refine xVi ha hP hS (y := yX8_count) (As := [.int (nI j)]) (rest := [.long (31 * x0)]) 0 (by decide) (cM_0 G _) rfl rfl (c_X8_count G l σ (pM σ) (nI j) hpb rfl hsv) kw_X8_326 hd_X8_count rfl ⟨rfl, rfl⟩ ⟨Nat.le_of_ble_eq_true rfl, Nat.le_of_ble_eq_true rfl⟩ ⟨Nat.zero_le _, Nat.zero_le _⟩ hl.1 (Nat.le_of_ble_eq_true rfl) rfl dX8_digest_19 (fun r u H locs hpq hP hS => ?_)
        obtain ⟨hr_, hu_⟩ := hpq
        have hr_ := hr_.symm
        have hu_ := hu_.symm
        subst hr_
        subst hu_
        refine lv_i2l (v := (n_count (pM σ) σ (nI j)).toInt64) hx hb dX8_digest_22 rfl ?_
        refine lv_ladd hx hb dX8_digest_23 ?_
        refine lv_lstore_n (lv' := [(1, .long ((31 * x0) + (n_count (pM σ) σ (nI j)).toInt64)), (3, .int (nI j)), (0, .ref (G.1 0))]) hx hb dX8_digest_24 rfl hl (by decide) rfl (fun ls hl => ?_)
        refine lv_iinc (v := (nI (j + 1))) (lv' := [(3, .int (nI (j + 1))), (1, .long ((31 * x0) + (n_count (pM σ) σ (nI j)).toInt64)), (0, .ref (G.1 0))]) hx hb dX8_digest_25 hl (k := 1) rfl (nI_1 j) (by decide) rfl (fun ls hl => ?_)
        refine lv_goto (tgt := 6) hx hb dX8_digest_28 (by decide) ?_
        exact ih_6 (j + 1) ((31 * x0) + (n_count (pM σ) σ (nI j)).toInt64) _ _ _ (by omega) (by omega) (by rw [foldL, ← e_x0]) hP hS (lv_sub hl [0, 1, 2] rfl)
  exact lp_6 (12 - 0 + 1) 0 17 _ _ _ (by omega) (by omega) rfl hP hS (lv_sub hl [0, 1, 2] rfl)
