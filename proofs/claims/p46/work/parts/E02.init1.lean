/-! constructors: what an object of each kind is made of -/
theorem tb_ac : Cond.arrayClass .int ∈ TB := tb_in (by decide +kernel)
set_option maxHeartbeats 2000000 in
set_option maxRecDepth 100000 in
theorem c_X0_init (D : va_G) (a : Nat → ClassId) (l : Launch) (h0 : Nat) : CN D a l yX0_init ({ frames := 1, cells := 1, slots := 40, locals := 40 } : Room) cX0_init 1 h0 (.inr (0, [.null, .int 0])) [] (fun ws => ∃ (q1 : Nat), ws = [(h0, .inr (0, [.ref q1, .int 0])), (q1, .inl (a 0, 40, .inl (fun _ => 0)))]) := by
  refine mbegin (by decide) rfl (Nat.le_of_ble_eq_true rfl) ?_
  intro p e s m below meth c ls ha hP hD hS hA hl
  have hx := ha.1
  have hb := ha.2.1
  have hown := ha.2.2.2.1
  have hts := ha.2.2.2.2.1
  have hin := ha.2.2.2.2.2.2.2.1
  have hK := ha.2.2.2.2.2.2.2.2.1
  have hO := ha.2.2.2.2.2.2.2.2.2.2
  have hl : lv_has ls 1 [(0, .ref h0)] := hl
  refine lv_aload_n hx hb dX0_init_0 rfl (lv_at hl 0 rfl) ?_
  refine W.objInit hx hb hown (hts (.methodLink "PoleNave$Deeds" 3 objectInit) (tb_in (by decide +kernel))) (hts (.instanceMethod objectInit) (tb_in (by decide +kernel))) (hts (.code objectInit ⟨#[0xb1]⟩ 1 none) (tb_in (by decide +kernel))) rfl (by rw [ha.2.2.1]; exact hl.1) rfl dX0_init_1 (Nat.le_of_ble_eq_true rfl) (Nat.le_of_ble_eq_true rfl) ?_
  refine W.eq (g2 := F0 m 4 ls []) rfl ?_
  refine lv_aload_n hx hb dX0_init_4 rfl (lv_at hl 0 rfl) ?_
  refine lv_bipush (v := 40) hx hb dX0_init_5 (by decide) ?_
  refine mk_newi hx hb (hts _ tb_ac) hK hP hD hS hA (n := 40) (N' := 40) (by decide) rfl (by decide) (Nat.le_of_ble_eq_true rfl) (Nat.le_of_ble_eq_true rfl) dX0_init_7 (fun q1 H hP hD hS => ?_)
  have hP : va_P D vwCl [(h0, .inr (0, [.null, .int 0])), (q1, .inl (a 0, 40, .inl (fun _ => 0)))] H := hP
  have hD : va_D _ [(h0, .inr (0, [.null, .int 0])), (q1, .inl (a 0, 40, .inl (fun _ => 0)))] := hD
  refine W.widen (k := 1) (n := 40) (Nat.le_of_ble_eq_true rfl) (Nat.le_of_ble_eq_true rfl) ?_
  refine va_putF (D := D) (ci := 0) (v := .ref q1) (ty := .array .int) (C := RX0) (T := TX0) (N := 2) hx hb hts inT0 tyX0 tyX0_ok nmX0 hown hK hP hD hS 0 rfl rfl 0 (by decide) (hts (.fieldLink "PoleNave$Deeds" 9 "PoleNave$Deeds" "codes" "[I") (tb_in (by decide +kernel))) (fun _ h9 => h9) rfl hin rfl (by decide +kernel) rfl rfl (Nat.le_of_ble_eq_true rfl) dX0_init_9 (fun H locs hP hD hS => ?_)
  have hP : va_P D vwCl [(h0, .inr (0, [.ref q1, .int 0])), (q1, .inl (a 0, 40, .inl (fun _ => 0)))] H := hP
  have hD : va_D _ [(h0, .inr (0, [.ref q1, .int 0])), (q1, .inl (a 0, 40, .inl (fun _ => 0)))] := hD
  exact mk_ret ha hP hD hS ⟨q1, rfl⟩ dX0_init_12
set_option maxHeartbeats 2000000 in
set_option maxRecDepth 100000 in
theorem c_X2_init (D : va_G) (a : Nat → ClassId) (l : Launch) (h0 : Nat) : CN D a l yX2_init ({ frames := 1, cells := 5, slots := 22, locals := 40 } : Room) cX2_init 1 h0 (.inr (2, [.null, .null, .null, .null, .null, .int 0, .int 0])) [] (fun ws => ∃ (q1 : Nat) (q2 : Nat) (q3 : Nat) (q4 : Nat) (q5 : Nat), ws = [(h0, .inr (2, [.ref q1, .ref q2, .ref q3, .ref q4, .ref q5, .int 0, .int 0])), (q1, .inl (a 0, 4, .inl (fun _ => 0))), (q2, .inl (a 0, 4, .inl (fun _ => 0))), (q3, .inl (a 0, 4, .inl (fun _ => 0))), (q4, .inl (a 0, 5, .inl (fun _ => 0))), (q5, .inl (a 0, 5, .inl (fun _ => 0)))]) := by
  refine mbegin (by decide) rfl (Nat.le_of_ble_eq_true rfl) ?_
  intro p e s m below meth c ls ha hP hD hS hA hl
  have hx := ha.1
  have hb := ha.2.1
  have hown := ha.2.2.2.1
  have hts := ha.2.2.2.2.1
  have hin := ha.2.2.2.2.2.2.2.1
  have hK := ha.2.2.2.2.2.2.2.2.1
  have hO := ha.2.2.2.2.2.2.2.2.2.2
  have hl : lv_has ls 1 [(0, .ref h0)] := hl
  refine lv_aload_n hx hb dX2_init_0 rfl (lv_at hl 0 rfl) ?_
  refine W.objInit hx hb hown (hts (.methodLink "PoleNave$Plan" 3 objectInit) (tb_in (by decide +kernel))) (hts (.instanceMethod objectInit) (tb_in (by decide +kernel))) (hts (.code objectInit ⟨#[0xb1]⟩ 1 none) (tb_in (by decide +kernel))) rfl (by rw [ha.2.2.1]; exact hl.1) rfl dX2_init_1 (Nat.le_of_ble_eq_true rfl) (Nat.le_of_ble_eq_true rfl) ?_
  refine W.eq (g2 := F0 m 4 ls []) rfl ?_
  refine lv_aload_n hx hb dX2_init_4 rfl (lv_at hl 0 rfl) ?_
  refine lv_iconst (v := 4) hx hb dX2_init_5 (by decide) ?_
  refine mk_newi hx hb (hts _ tb_ac) hK hP hD hS hA (n := 4) (N' := 4) (by decide) rfl (by decide) (Nat.le_of_ble_eq_true rfl) (Nat.le_of_ble_eq_true rfl) dX2_init_6 (fun q1 H hP hD hS => ?_)
  have hP : va_P D vwCl [(h0, .inr (2, [.null, .null, .null, .null, .null, .int 0, .int 0])), (q1, .inl (a 0, 4, .inl (fun _ => 0)))] H := hP
  have hD : va_D _ [(h0, .inr (2, [.null, .null, .null, .null, .null, .int 0, .int 0])), (q1, .inl (a 0, 4, .inl (fun _ => 0)))] := hD
  refine W.widen (k := 1) (n := 4) (Nat.le_of_ble_eq_true rfl) (Nat.le_of_ble_eq_true rfl) ?_
  refine va_putF (D := D) (ci := 2) (v := .ref q1) (ty := .array .int) (C := RX2) (T := TX2) (N := 7) hx hb hts inT2 tyX2 tyX2_ok nmX2 hown hK hP hD hS 0 rfl rfl 0 (by decide) (hts (.fieldLink "PoleNave$Plan" 9 "PoleNave$Plan" "kinds" "[I") (tb_in (by decide +kernel))) (fun _ h9 => h9) rfl hin rfl (by decide +kernel) rfl rfl (Nat.le_of_ble_eq_true rfl) dX2_init_8 (fun H locs hP hD hS => ?_)
  have hP : va_P D vwCl [(h0, .inr (2, [.ref q1, .null, .null, .null, .null, .int 0, .int 0])), (q1, .inl (a 0, 4, .inl (fun _ => 0)))] H := hP
  have hD : va_D _ [(h0, .inr (2, [.ref q1, .null, .null, .null, .null, .int 0, .int 0])), (q1, .inl (a 0, 4, .inl (fun _ => 0)))] := hD
  refine lv_aload_n hx hb dX2_init_11 rfl (lv_at hl 0 rfl) ?_
  refine lv_iconst (v := 4) hx hb dX2_init_12 (by decide) ?_
  refine mk_newi hx hb (hts _ tb_ac) hK hP hD hS hA (n := 4) (N' := 4) (by decide) rfl (by decide) (Nat.le_of_ble_eq_true rfl) (Nat.le_of_ble_eq_true rfl) dX2_init_13 (fun q2 H hP hD hS => ?_)
  have hP : va_P D vwCl [(h0, .inr (2, [.ref q1, .null, .null, .null, .null, .int 0, .int 0])), (q1, .inl (a 0, 4, .inl (fun _ => 0))), (q2, .inl (a 0, 4, .inl (fun _ => 0)))] H := hP
  have hD : va_D _ [(h0, .inr (2, [.ref q1, .null, .null, .null, .null, .int 0, .int 0])), (q1, .inl (a 0, 4, .inl (fun _ => 0))), (q2, .inl (a 0, 4, .inl (fun _ => 0)))] := hD
  refine W.widen (k := 2) (n := 8) (Nat.le_of_ble_eq_true rfl) (Nat.le_of_ble_eq_true rfl) ?_
  refine va_putF (D := D) (ci := 2) (v := .ref q2) (ty := .array .int) (C := RX2) (T := TX2) (N := 7) hx hb hts inT2 tyX2 tyX2_ok nmX2 hown hK hP hD hS 0 rfl rfl 1 (by decide) (hts (.fieldLink "PoleNave$Plan" 15 "PoleNave$Plan" "talls" "[I") (tb_in (by decide +kernel))) (fun _ h9 => h9) rfl hin rfl (by decide +kernel) rfl rfl (Nat.le_of_ble_eq_true rfl) dX2_init_15 (fun H locs hP hD hS => ?_)
  have hP : va_P D vwCl [(h0, .inr (2, [.ref q1, .ref q2, .null, .null, .null, .int 0, .int 0])), (q1, .inl (a 0, 4, .inl (fun _ => 0))), (q2, .inl (a 0, 4, .inl (fun _ => 0)))] H := hP
  have hD : va_D _ [(h0, .inr (2, [.ref q1, .ref q2, .null, .null, .null, .int 0, .int 0])), (q1, .inl (a 0, 4, .inl (fun _ => 0))), (q2, .inl (a 0, 4, .inl (fun _ => 0)))] := hD
  refine lv_aload_n hx hb dX2_init_18 rfl (lv_at hl 0 rfl) ?_
  refine lv_iconst (v := 4) hx hb dX2_init_19 (by decide) ?_
  refine mk_newi hx hb (hts _ tb_ac) hK hP hD hS hA (n := 4) (N' := 4) (by decide) rfl (by decide) (Nat.le_of_ble_eq_true rfl) (Nat.le_of_ble_eq_true rfl) dX2_init_20 (fun q3 H hP hD hS => ?_)
  have hP : va_P D vwCl [(h0, .inr (2, [.ref q1, .ref q2, .null, .null, .null, .int 0, .int 0])), (q1, .inl (a 0, 4, .inl (fun _ => 0))), (q2, .inl (a 0, 4, .inl (fun _ => 0))), (q3, .inl (a 0, 4, .inl (fun _ => 0)))] H := hP
  have hD : va_D _ [(h0, .inr (2, [.ref q1, .ref q2, .null, .null, .null, .int 0, .int 0])), (q1, .inl (a 0, 4, .inl (fun _ => 0))), (q2, .inl (a 0, 4, .inl (fun _ => 0))), (q3, .inl (a 0, 4, .inl (fun _ => 0)))] := hD
  refine W.widen (k := 3) (n := 12) (Nat.le_of_ble_eq_true rfl) (Nat.le_of_ble_eq_true rfl) ?_
  refine va_putF (D := D) (ci := 2) (v := .ref q3) (ty := .array .int) (C := RX2) (T := TX2) (N := 7) hx hb hts inT2 tyX2 tyX2_ok nmX2 hown hK hP hD hS 0 rfl rfl 2 (by decide) (hts (.fieldLink "PoleNave$Plan" 18 "PoleNave$Plan" "strongs" "[I") (tb_in (by decide +kernel))) (fun _ h9 => h9) rfl hin rfl (by decide +kernel) rfl rfl (Nat.le_of_ble_eq_true rfl) dX2_init_22 (fun H locs hP hD hS => ?_)
  have hP : va_P D vwCl [(h0, .inr (2, [.ref q1, .ref q2, .ref q3, .null, .null, .int 0, .int 0])), (q1, .inl (a 0, 4, .inl (fun _ => 0))), (q2, .inl (a 0, 4, .inl (fun _ => 0))), (q3, .inl (a 0, 4, .inl (fun _ => 0)))] H := hP
  have hD : va_D _ [(h0, .inr (2, [.ref q1, .ref q2, .ref q3, .null, .null, .int 0, .int 0])), (q1, .inl (a 0, 4, .inl (fun _ => 0))), (q2, .inl (a 0, 4, .inl (fun _ => 0))), (q3, .inl (a 0, 4, .inl (fun _ => 0)))] := hD
  refine lv_aload_n hx hb dX2_init_25 rfl (lv_at hl 0 rfl) ?_
  refine lv_iconst (v := 5) hx hb dX2_init_26 (by decide) ?_
  refine mk_newi hx hb (hts _ tb_ac) hK hP hD hS hA (n := 5) (N' := 5) (by decide) rfl (by decide) (Nat.le_of_ble_eq_true rfl) (Nat.le_of_ble_eq_true rfl) dX2_init_27 (fun q4 H hP hD hS => ?_)
  have hP : va_P D vwCl [(h0, .inr (2, [.ref q1, .ref q2, .ref q3, .null, .null, .int 0, .int 0])), (q1, .inl (a 0, 4, .inl (fun _ => 0))), (q2, .inl (a 0, 4, .inl (fun _ => 0))), (q3, .inl (a 0, 4, .inl (fun _ => 0))), (q4, .inl (a 0, 5, .inl (fun _ => 0)))] H := hP
  have hD : va_D _ [(h0, .inr (2, [.ref q1, .ref q2, .ref q3, .null, .null, .int 0, .int 0])), (q1, .inl (a 0, 4, .inl (fun _ => 0))), (q2, .inl (a 0, 4, .inl (fun _ => 0))), (q3, .inl (a 0, 4, .inl (fun _ => 0))), (q4, .inl (a 0, 5, .inl (fun _ => 0)))] := hD
  refine W.widen (k := 4) (n := 17) (Nat.le_of_ble_eq_true rfl) (Nat.le_of_ble_eq_true rfl) ?_
  refine va_putF (D := D) (ci := 2) (v := .ref q4) (ty := .array .int) (C := RX2) (T := TX2) (N := 7) hx hb hts inT2 tyX2 tyX2_ok nmX2 hown hK hP hD hS 0 rfl rfl 3 (by decide) (hts (.fieldLink "PoleNave$Plan" 21 "PoleNave$Plan" "weights" "[I") (tb_in (by decide +kernel))) (fun _ h9 => h9) rfl hin rfl (by decide +kernel) rfl rfl (Nat.le_of_ble_eq_true rfl) dX2_init_29 (fun H locs hP hD hS => ?_)
  have hP : va_P D vwCl [(h0, .inr (2, [.ref q1, .ref q2, .ref q3, .ref q4, .null, .int 0, .int 0])), (q1, .inl (a 0, 4, .inl (fun _ => 0))), (q2, .inl (a 0, 4, .inl (fun _ => 0))), (q3, .inl (a 0, 4, .inl (fun _ => 0))), (q4, .inl (a 0, 5, .inl (fun _ => 0)))] H := hP
  have hD : va_D _ [(h0, .inr (2, [.ref q1, .ref q2, .ref q3, .ref q4, .null, .int 0, .int 0])), (q1, .inl (a 0, 4, .inl (fun _ => 0))), (q2, .inl (a 0, 4, .inl (fun _ => 0))), (q3, .inl (a 0, 4, .inl (fun _ => 0))), (q4, .inl (a 0, 5, .inl (fun _ => 0)))] := hD
  refine lv_aload_n hx hb dX2_init_32 rfl (lv_at hl 0 rfl) ?_
  refine lv_iconst (v := 5) hx hb dX2_init_33 (by decide) ?_
  refine mk_newi hx hb (hts _ tb_ac) hK hP hD hS hA (n := 5) (N' := 5) (by decide) rfl (by decide) (Nat.le_of_ble_eq_true rfl) (Nat.le_of_ble_eq_true rfl) dX2_init_34 (fun q5 H hP hD hS => ?_)
  have hP : va_P D vwCl [(h0, .inr (2, [.ref q1, .ref q2, .ref q3, .ref q4, .null, .int 0, .int 0])), (q1, .inl (a 0, 4, .inl (fun _ => 0))), (q2, .inl (a 0, 4, .inl (fun _ => 0))), (q3, .inl (a 0, 4, .inl (fun _ => 0))), (q4, .inl (a 0, 5, .inl (fun _ => 0))), (q5, .inl (a 0, 5, .inl (fun _ => 0)))] H := hP
  have hD : va_D _ [(h0, .inr (2, [.ref q1, .ref q2, .ref q3, .ref q4, .null, .int 0, .int 0])), (q1, .inl (a 0, 4, .inl (fun _ => 0))), (q2, .inl (a 0, 4, .inl (fun _ => 0))), (q3, .inl (a 0, 4, .inl (fun _ => 0))), (q4, .inl (a 0, 5, .inl (fun _ => 0))), (q5, .inl (a 0, 5, .inl (fun _ => 0)))] := hD
  refine W.widen (k := 5) (n := 22) (Nat.le_of_ble_eq_true rfl) (Nat.le_of_ble_eq_true rfl) ?_
  refine va_putF (D := D) (ci := 2) (v := .ref q5) (ty := .array .int) (C := RX2) (T := TX2) (N := 7) hx hb hts inT2 tyX2 tyX2_ok nmX2 hown hK hP hD hS 0 rfl rfl 4 (by decide) (hts (.fieldLink "PoleNave$Plan" 24 "PoleNave$Plan" "devouts" "[I") (tb_in (by decide +kernel))) (fun _ h9 => h9) rfl hin rfl (by decide +kernel) rfl rfl (Nat.le_of_ble_eq_true rfl) dX2_init_36 (fun H locs hP hD hS => ?_)
  have hP : va_P D vwCl [(h0, .inr (2, [.ref q1, .ref q2, .ref q3, .ref q4, .ref q5, .int 0, .int 0])), (q1, .inl (a 0, 4, .inl (fun _ => 0))), (q2, .inl (a 0, 4, .inl (fun _ => 0))), (q3, .inl (a 0, 4, .inl (fun _ => 0))), (q4, .inl (a 0, 5, .inl (fun _ => 0))), (q5, .inl (a 0, 5, .inl (fun _ => 0)))] H := hP
  have hD : va_D _ [(h0, .inr (2, [.ref q1, .ref q2, .ref q3, .ref q4, .ref q5, .int 0, .int 0])), (q1, .inl (a 0, 4, .inl (fun _ => 0))), (q2, .inl (a 0, 4, .inl (fun _ => 0))), (q3, .inl (a 0, 4, .inl (fun _ => 0))), (q4, .inl (a 0, 5, .inl (fun _ => 0))), (q5, .inl (a 0, 5, .inl (fun _ => 0)))] := hD
  exact mk_ret ha hP hD hS ⟨q1, q2, q3, q4, q5, rfl⟩ dX2_init_39
set_option maxHeartbeats 2000000 in
set_option maxRecDepth 100000 in
theorem c_X3_init (D : va_G) (a : Nat → ClassId) (l : Launch) (h0 : Nat) : CN D a l yX3_init ({ frames := 1, cells := 1, slots := 60, locals := 40 } : Room) cX3_init 1 h0 (.inr (3, [.null, .int 0])) [] (fun ws => ∃ (q1 : Nat), ws = [(h0, .inr (3, [.ref q1, .int (-1)])), (q1, .inl (a 0, 60, .inl (fun _ => 0)))]) := by
  refine mbegin (by decide) rfl (Nat.le_of_ble_eq_true rfl) ?_
  intro p e s m below meth c ls ha hP hD hS hA hl
  have hx := ha.1
  have hb := ha.2.1
  have hown := ha.2.2.2.1
  have hts := ha.2.2.2.2.1
  have hin := ha.2.2.2.2.2.2.2.1
  have hK := ha.2.2.2.2.2.2.2.2.1
  have hO := ha.2.2.2.2.2.2.2.2.2.2
  have hl : lv_has ls 1 [(0, .ref h0)] := hl
  refine lv_aload_n hx hb dX3_init_0 rfl (lv_at hl 0 rfl) ?_
  refine W.objInit hx hb hown (hts (.methodLink "PoleNave$Row" 3 objectInit) (tb_in (by decide +kernel))) (hts (.instanceMethod objectInit) (tb_in (by decide +kernel))) (hts (.code objectInit ⟨#[0xb1]⟩ 1 none) (tb_in (by decide +kernel))) rfl (by rw [ha.2.2.1]; exact hl.1) rfl dX3_init_1 (Nat.le_of_ble_eq_true rfl) (Nat.le_of_ble_eq_true rfl) ?_
  refine W.eq (g2 := F0 m 4 ls []) rfl ?_
  refine lv_aload_n hx hb dX3_init_4 rfl (lv_at hl 0 rfl) ?_
  refine lv_bipush (v := 60) hx hb dX3_init_5 (by decide) ?_
  refine mk_newi hx hb (hts _ tb_ac) hK hP hD hS hA (n := 60) (N' := 60) (by decide) rfl (by decide) (Nat.le_of_ble_eq_true rfl) (Nat.le_of_ble_eq_true rfl) dX3_init_7 (fun q1 H hP hD hS => ?_)
  have hP : va_P D vwCl [(h0, .inr (3, [.null, .int 0])), (q1, .inl (a 0, 60, .inl (fun _ => 0)))] H := hP
  have hD : va_D _ [(h0, .inr (3, [.null, .int 0])), (q1, .inl (a 0, 60, .inl (fun _ => 0)))] := hD
  refine W.widen (k := 1) (n := 60) (Nat.le_of_ble_eq_true rfl) (Nat.le_of_ble_eq_true rfl) ?_
  refine va_putF (D := D) (ci := 3) (v := .ref q1) (ty := .array .int) (C := RX3) (T := TX3) (N := 2) hx hb hts inT3 tyX3 tyX3_ok nmX3 hown hK hP hD hS 0 rfl rfl 0 (by decide) (hts (.fieldLink "PoleNave$Row" 9 "PoleNave$Row" "places" "[I") (tb_in (by decide +kernel))) (fun _ h9 => h9) rfl hin rfl (by decide +kernel) rfl rfl (Nat.le_of_ble_eq_true rfl) dX3_init_9 (fun H locs hP hD hS => ?_)
  have hP : va_P D vwCl [(h0, .inr (3, [.ref q1, .int 0])), (q1, .inl (a 0, 60, .inl (fun _ => 0)))] H := hP
  have hD : va_D _ [(h0, .inr (3, [.ref q1, .int 0])), (q1, .inl (a 0, 60, .inl (fun _ => 0)))] := hD
  refine lv_aload_n hx hb dX3_init_12 rfl (lv_at hl 0 rfl) ?_
  refine lv_iconst (v := (-1)) hx hb dX3_init_13 (by decide) ?_
  refine va_put (D := D) (ci := 3) (v := .int (-1)) (ty := .int) (C := RX3) (T := TX3) (N := 2) hx hb hts inT3 tyX3 tyX3_ok nmX3 hown hK hP hD hS 0 rfl rfl 1 (by decide) (hts (.fieldLink "PoleNave$Row" 15 "PoleNave$Row" "size" "I") (tb_in (by decide +kernel))) (fun _ h9 => h9) rfl (by decide +kernel) rfl rfl (Nat.le_of_ble_eq_true rfl) dX3_init_14 (fun H locs hP hD hS => ?_)
  have hP : va_P D vwCl [(h0, .inr (3, [.ref q1, .int (-1)])), (q1, .inl (a 0, 60, .inl (fun _ => 0)))] H := hP
  have hD : va_D _ [(h0, .inr (3, [.ref q1, .int (-1)])), (q1, .inl (a 0, 60, .inl (fun _ => 0)))] := hD
  exact mk_ret ha hP hD hS ⟨q1, rfl⟩ dX3_init_17
set_option maxHeartbeats 2000000 in
set_option maxRecDepth 100000 in
theorem c_X4_init (D : va_G) (a : Nat → ClassId) (l : Launch) (h0 : Nat) (pl : Nat) : CN D a l yX4_init ({ frames := 1, cells := 2, slots := 9, locals := 40 } : Room) cX4_init 2 h0 (.inr (4, [.null, .null, .null, .int 0, .int 0, .int 0])) [.ref pl] (fun ws => ∃ (q1 : Nat) (q2 : Nat), ws = [(h0, .inr (4, [.ref pl, .ref q1, .ref q2, .int 0, .int 0, .int 0])), (q1, .inl (a 0, 4, .inl (fun _ => 0))), (q2, .inl (a 0, 5, .inl (fun _ => 0)))]) := by
  refine mbegin (by decide) rfl (Nat.le_of_ble_eq_true rfl) ?_
  intro p e s m below meth c ls ha hP hD hS hA hl
  have hx := ha.1
  have hb := ha.2.1
  have hown := ha.2.2.2.1
  have hts := ha.2.2.2.2.1
  have hin := ha.2.2.2.2.2.2.2.1
  have hK := ha.2.2.2.2.2.2.2.2.1
  have hO := ha.2.2.2.2.2.2.2.2.2.2
  have hl : lv_has ls 2 [(0, .ref h0), (1, .ref pl)] := hl
  refine lv_aload_n hx hb dX4_init_0 rfl (lv_at hl 0 rfl) ?_
  refine W.objInit hx hb hown (hts (.methodLink "PoleNave$Scaffold" 3 objectInit) (tb_in (by decide +kernel))) (hts (.instanceMethod objectInit) (tb_in (by decide +kernel))) (hts (.code objectInit ⟨#[0xb1]⟩ 1 none) (tb_in (by decide +kernel))) rfl (by rw [ha.2.2.1]; exact hl.1) rfl dX4_init_1 (Nat.le_of_ble_eq_true rfl) (Nat.le_of_ble_eq_true rfl) ?_
  refine W.eq (g2 := F0 m 4 ls []) rfl ?_
  refine lv_aload_n hx hb dX4_init_4 rfl (lv_at hl 0 rfl) ?_
  refine lv_iconst (v := 4) hx hb dX4_init_5 (by decide) ?_
  refine mk_newi hx hb (hts _ tb_ac) hK hP hD hS hA (n := 4) (N' := 4) (by decide) rfl (by decide) (Nat.le_of_ble_eq_true rfl) (Nat.le_of_ble_eq_true rfl) dX4_init_6 (fun q1 H hP hD hS => ?_)
  have hP : va_P D vwCl [(h0, .inr (4, [.null, .null, .null, .int 0, .int 0, .int 0])), (q1, .inl (a 0, 4, .inl (fun _ => 0)))] H := hP
  have hD : va_D _ [(h0, .inr (4, [.null, .null, .null, .int 0, .int 0, .int 0])), (q1, .inl (a 0, 4, .inl (fun _ => 0)))] := hD
  refine W.widen (k := 1) (n := 4) (Nat.le_of_ble_eq_true rfl) (Nat.le_of_ble_eq_true rfl) ?_
  refine va_putF (D := D) (ci := 4) (v := .ref q1) (ty := .array .int) (C := RX4) (T := TX4) (N := 6) hx hb hts inT4 tyX4 tyX4_ok nmX4 hown hK hP hD hS 0 rfl rfl 1 (by decide) (hts (.fieldLink "PoleNave$Scaffold" 9 "PoleNave$Scaffold" "wear" "[I") (tb_in (by decide +kernel))) (fun _ h9 => h9) rfl hin rfl (by decide +kernel) rfl rfl (Nat.le_of_ble_eq_true rfl) dX4_init_8 (fun H locs hP hD hS => ?_)
  have hP : va_P D vwCl [(h0, .inr (4, [.null, .ref q1, .null, .int 0, .int 0, .int 0])), (q1, .inl (a 0, 4, .inl (fun _ => 0)))] H := hP
  have hD : va_D _ [(h0, .inr (4, [.null, .ref q1, .null, .int 0, .int 0, .int 0])), (q1, .inl (a 0, 4, .inl (fun _ => 0)))] := hD
  refine lv_aload_n hx hb dX4_init_11 rfl (lv_at hl 0 rfl) ?_
  refine lv_iconst (v := 5) hx hb dX4_init_12 (by decide) ?_
  refine mk_newi hx hb (hts _ tb_ac) hK hP hD hS hA (n := 5) (N' := 5) (by decide) rfl (by decide) (Nat.le_of_ble_eq_true rfl) (Nat.le_of_ble_eq_true rfl) dX4_init_13 (fun q2 H hP hD hS => ?_)
  have hP : va_P D vwCl [(h0, .inr (4, [.null, .ref q1, .null, .int 0, .int 0, .int 0])), (q1, .inl (a 0, 4, .inl (fun _ => 0))), (q2, .inl (a 0, 5, .inl (fun _ => 0)))] H := hP
  have hD : va_D _ [(h0, .inr (4, [.null, .ref q1, .null, .int 0, .int 0, .int 0])), (q1, .inl (a 0, 4, .inl (fun _ => 0))), (q2, .inl (a 0, 5, .inl (fun _ => 0)))] := hD
  refine W.widen (k := 2) (n := 9) (Nat.le_of_ble_eq_true rfl) (Nat.le_of_ble_eq_true rfl) ?_
  refine va_putF (D := D) (ci := 4) (v := .ref q2) (ty := .array .int) (C := RX4) (T := TX4) (N := 6) hx hb hts inT4 tyX4 tyX4_ok nmX4 hown hK hP hD hS 0 rfl rfl 2 (by decide) (hts (.fieldLink "PoleNave$Scaffold" 15 "PoleNave$Scaffold" "seats" "[I") (tb_in (by decide +kernel))) (fun _ h9 => h9) rfl hin rfl (by decide +kernel) rfl rfl (Nat.le_of_ble_eq_true rfl) dX4_init_15 (fun H locs hP hD hS => ?_)
  have hP : va_P D vwCl [(h0, .inr (4, [.null, .ref q1, .ref q2, .int 0, .int 0, .int 0])), (q1, .inl (a 0, 4, .inl (fun _ => 0))), (q2, .inl (a 0, 5, .inl (fun _ => 0)))] H := hP
  have hD : va_D _ [(h0, .inr (4, [.null, .ref q1, .ref q2, .int 0, .int 0, .int 0])), (q1, .inl (a 0, 4, .inl (fun _ => 0))), (q2, .inl (a 0, 5, .inl (fun _ => 0)))] := hD
  refine lv_aload_n hx hb dX4_init_18 rfl (lv_at hl 0 rfl) ?_
  refine lv_aload_n hx hb dX4_init_19 rfl (lv_at hl 1 rfl) ?_
  refine va_putF (D := D) (ci := 4) (v := .ref pl) (ty := .object "PoleNave$Plan") (C := RX4) (T := TX4) (N := 6) hx hb hts inT4 tyX4 tyX4_ok nmX4 hown hK hP hD hS 0 rfl rfl 0 (by decide) (hts (.fieldLink "PoleNave$Scaffold" 18 "PoleNave$Scaffold" "plan" "LPoleNave$Plan;") (tb_in (by decide +kernel))) (fun _ h9 => h9) rfl hin rfl (by decide +kernel) rfl rfl (Nat.le_of_ble_eq_true rfl) dX4_init_20 (fun H locs hP hD hS => ?_)
  have hP : va_P D vwCl [(h0, .inr (4, [.ref pl, .ref q1, .ref q2, .int 0, .int 0, .int 0])), (q1, .inl (a 0, 4, .inl (fun _ => 0))), (q2, .inl (a 0, 5, .inl (fun _ => 0)))] H := hP
  have hD : va_D _ [(h0, .inr (4, [.ref pl, .ref q1, .ref q2, .int 0, .int 0, .int 0])), (q1, .inl (a 0, 4, .inl (fun _ => 0))), (q2, .inl (a 0, 5, .inl (fun _ => 0)))] := hD
  exact mk_ret ha hP hD hS ⟨q1, q2, rfl⟩ dX4_init_23
set_option maxHeartbeats 2000000 in
set_option maxRecDepth 100000 in
theorem c_X5_init (D : va_G) (a : Nat → ClassId) (l : Launch) (h0 : Nat) (pl : Nat) : CN D a l yX5_init ({ frames := 1, cells := 4, slots := 17, locals := 40 } : Room) cX5_init 2 h0 (.inr (5, [.null, .null, .null, .null, .null, .int 0])) [.ref pl] (fun ws => ∃ (q1 : Nat) (q2 : Nat) (q3 : Nat) (q4 : Nat), ws = [(h0, .inr (5, [.ref pl, .ref q1, .ref q2, .ref q3, .ref q4, .int 0])), (q1, .inl (a 0, 5, .inl (fun _ => 0))), (q2, .inl (a 0, 4, .inl (fun _ => 0))), (q3, .inl (a 0, 4, .inl (fun _ => 0))), (q4, .inl (a 0, 4, .inl (fun _ => 0)))]) := by
  refine mbegin (by decide) rfl (Nat.le_of_ble_eq_true rfl) ?_
  intro p e s m below meth c ls ha hP hD hS hA hl
  have hx := ha.1
  have hb := ha.2.1
  have hown := ha.2.2.2.1
  have hts := ha.2.2.2.2.1
  have hin := ha.2.2.2.2.2.2.2.1
  have hK := ha.2.2.2.2.2.2.2.2.1
  have hO := ha.2.2.2.2.2.2.2.2.2.2
  have hl : lv_has ls 2 [(0, .ref h0), (1, .ref pl)] := hl
  refine lv_aload_n hx hb dX5_init_0 rfl (lv_at hl 0 rfl) ?_
  refine W.objInit hx hb hown (hts (.methodLink "PoleNave$Schools" 3 objectInit) (tb_in (by decide +kernel))) (hts (.instanceMethod objectInit) (tb_in (by decide +kernel))) (hts (.code objectInit ⟨#[0xb1]⟩ 1 none) (tb_in (by decide +kernel))) rfl (by rw [ha.2.2.1]; exact hl.1) rfl dX5_init_1 (Nat.le_of_ble_eq_true rfl) (Nat.le_of_ble_eq_true rfl) ?_
  refine W.eq (g2 := F0 m 4 ls []) rfl ?_
  refine lv_aload_n hx hb dX5_init_4 rfl (lv_at hl 0 rfl) ?_
  refine lv_iconst (v := 5) hx hb dX5_init_5 (by decide) ?_
  refine mk_newi hx hb (hts _ tb_ac) hK hP hD hS hA (n := 5) (N' := 5) (by decide) rfl (by decide) (Nat.le_of_ble_eq_true rfl) (Nat.le_of_ble_eq_true rfl) dX5_init_6 (fun q1 H hP hD hS => ?_)
  have hP : va_P D vwCl [(h0, .inr (5, [.null, .null, .null, .null, .null, .int 0])), (q1, .inl (a 0, 5, .inl (fun _ => 0)))] H := hP
  have hD : va_D _ [(h0, .inr (5, [.null, .null, .null, .null, .null, .int 0])), (q1, .inl (a 0, 5, .inl (fun _ => 0)))] := hD
  refine W.widen (k := 1) (n := 5) (Nat.le_of_ble_eq_true rfl) (Nat.le_of_ble_eq_true rfl) ?_
  refine va_putF (D := D) (ci := 5) (v := .ref q1) (ty := .array .int) (C := RX5) (T := TX5) (N := 6) hx hb hts inT5 tyX5 tyX5_ok nmX5 hown hK hP hD hS 0 rfl rfl 1 (by decide) (hts (.fieldLink "PoleNave$Schools" 9 "PoleNave$Schools" "seats" "[I") (tb_in (by decide +kernel))) (fun _ h9 => h9) rfl hin rfl (by decide +kernel) rfl rfl (Nat.le_of_ble_eq_true rfl) dX5_init_8 (fun H locs hP hD hS => ?_)
  have hP : va_P D vwCl [(h0, .inr (5, [.null, .ref q1, .null, .null, .null, .int 0])), (q1, .inl (a 0, 5, .inl (fun _ => 0)))] H := hP
  have hD : va_D _ [(h0, .inr (5, [.null, .ref q1, .null, .null, .null, .int 0])), (q1, .inl (a 0, 5, .inl (fun _ => 0)))] := hD
  refine lv_aload_n hx hb dX5_init_11 rfl (lv_at hl 0 rfl) ?_
  refine lv_iconst (v := 4) hx hb dX5_init_12 (by decide) ?_
  refine mk_newi hx hb (hts _ tb_ac) hK hP hD hS hA (n := 4) (N' := 4) (by decide) rfl (by decide) (Nat.le_of_ble_eq_true rfl) (Nat.le_of_ble_eq_true rfl) dX5_init_13 (fun q2 H hP hD hS => ?_)
  have hP : va_P D vwCl [(h0, .inr (5, [.null, .ref q1, .null, .null, .null, .int 0])), (q1, .inl (a 0, 5, .inl (fun _ => 0))), (q2, .inl (a 0, 4, .inl (fun _ => 0)))] H := hP
  have hD : va_D _ [(h0, .inr (5, [.null, .ref q1, .null, .null, .null, .int 0])), (q1, .inl (a 0, 5, .inl (fun _ => 0))), (q2, .inl (a 0, 4, .inl (fun _ => 0)))] := hD
  refine W.widen (k := 2) (n := 9) (Nat.le_of_ble_eq_true rfl) (Nat.le_of_ble_eq_true rfl) ?_
  refine va_putF (D := D) (ci := 5) (v := .ref q2) (ty := .array .int) (C := RX5) (T := TX5) (N := 6) hx hb hts inT5 tyX5 tyX5_ok nmX5 hown hK hP hD hS 0 rfl rfl 2 (by decide) (hts (.fieldLink "PoleNave$Schools" 15 "PoleNave$Schools" "loads" "[I") (tb_in (by decide +kernel))) (fun _ h9 => h9) rfl hin rfl (by decide +kernel) rfl rfl (Nat.le_of_ble_eq_true rfl) dX5_init_15 (fun H locs hP hD hS => ?_)
  have hP : va_P D vwCl [(h0, .inr (5, [.null, .ref q1, .ref q2, .null, .null, .int 0])), (q1, .inl (a 0, 5, .inl (fun _ => 0))), (q2, .inl (a 0, 4, .inl (fun _ => 0)))] H := hP
  have hD : va_D _ [(h0, .inr (5, [.null, .ref q1, .ref q2, .null, .null, .int 0])), (q1, .inl (a 0, 5, .inl (fun _ => 0))), (q2, .inl (a 0, 4, .inl (fun _ => 0)))] := hD
  refine lv_aload_n hx hb dX5_init_18 rfl (lv_at hl 0 rfl) ?_
  refine lv_iconst (v := 4) hx hb dX5_init_19 (by decide) ?_
  refine mk_newi hx hb (hts _ tb_ac) hK hP hD hS hA (n := 4) (N' := 4) (by decide) rfl (by decide) (Nat.le_of_ble_eq_true rfl) (Nat.le_of_ble_eq_true rfl) dX5_init_20 (fun q3 H hP hD hS => ?_)
  have hP : va_P D vwCl [(h0, .inr (5, [.null, .ref q1, .ref q2, .null, .null, .int 0])), (q1, .inl (a 0, 5, .inl (fun _ => 0))), (q2, .inl (a 0, 4, .inl (fun _ => 0))), (q3, .inl (a 0, 4, .inl (fun _ => 0)))] H := hP
  have hD : va_D _ [(h0, .inr (5, [.null, .ref q1, .ref q2, .null, .null, .int 0])), (q1, .inl (a 0, 5, .inl (fun _ => 0))), (q2, .inl (a 0, 4, .inl (fun _ => 0))), (q3, .inl (a 0, 4, .inl (fun _ => 0)))] := hD
  refine W.widen (k := 3) (n := 13) (Nat.le_of_ble_eq_true rfl) (Nat.le_of_ble_eq_true rfl) ?_
  refine va_putF (D := D) (ci := 5) (v := .ref q3) (ty := .array .int) (C := RX5) (T := TX5) (N := 6) hx hb hts inT5 tyX5 tyX5_ok nmX5 hown hK hP hD hS 0 rfl rfl 3 (by decide) (hts (.fieldLink "PoleNave$Schools" 18 "PoleNave$Schools" "highs" "[I") (tb_in (by decide +kernel))) (fun _ h9 => h9) rfl hin rfl (by decide +kernel) rfl rfl (Nat.le_of_ble_eq_true rfl) dX5_init_22 (fun H locs hP hD hS => ?_)
  have hP : va_P D vwCl [(h0, .inr (5, [.null, .ref q1, .ref q2, .ref q3, .null, .int 0])), (q1, .inl (a 0, 5, .inl (fun _ => 0))), (q2, .inl (a 0, 4, .inl (fun _ => 0))), (q3, .inl (a 0, 4, .inl (fun _ => 0)))] H := hP
  have hD : va_D _ [(h0, .inr (5, [.null, .ref q1, .ref q2, .ref q3, .null, .int 0])), (q1, .inl (a 0, 5, .inl (fun _ => 0))), (q2, .inl (a 0, 4, .inl (fun _ => 0))), (q3, .inl (a 0, 4, .inl (fun _ => 0)))] := hD
  refine lv_aload_n hx hb dX5_init_25 rfl (lv_at hl 0 rfl) ?_
  refine lv_iconst (v := 4) hx hb dX5_init_26 (by decide) ?_
  refine mk_newi hx hb (hts _ tb_ac) hK hP hD hS hA (n := 4) (N' := 4) (by decide) rfl (by decide) (Nat.le_of_ble_eq_true rfl) (Nat.le_of_ble_eq_true rfl) dX5_init_27 (fun q4 H hP hD hS => ?_)
  have hP : va_P D vwCl [(h0, .inr (5, [.null, .ref q1, .ref q2, .ref q3, .null, .int 0])), (q1, .inl (a 0, 5, .inl (fun _ => 0))), (q2, .inl (a 0, 4, .inl (fun _ => 0))), (q3, .inl (a 0, 4, .inl (fun _ => 0))), (q4, .inl (a 0, 4, .inl (fun _ => 0)))] H := hP
  have hD : va_D _ [(h0, .inr (5, [.null, .ref q1, .ref q2, .ref q3, .null, .int 0])), (q1, .inl (a 0, 5, .inl (fun _ => 0))), (q2, .inl (a 0, 4, .inl (fun _ => 0))), (q3, .inl (a 0, 4, .inl (fun _ => 0))), (q4, .inl (a 0, 4, .inl (fun _ => 0)))] := hD
  refine W.widen (k := 4) (n := 17) (Nat.le_of_ble_eq_true rfl) (Nat.le_of_ble_eq_true rfl) ?_
  refine va_putF (D := D) (ci := 5) (v := .ref q4) (ty := .array .int) (C := RX5) (T := TX5) (N := 6) hx hb hts inT5 tyX5 tyX5_ok nmX5 hown hK hP hD hS 0 rfl rfl 4 (by decide) (hts (.fieldLink "PoleNave$Schools" 21 "PoleNave$Schools" "bearing" "[I") (tb_in (by decide +kernel))) (fun _ h9 => h9) rfl hin rfl (by decide +kernel) rfl rfl (Nat.le_of_ble_eq_true rfl) dX5_init_29 (fun H locs hP hD hS => ?_)
  have hP : va_P D vwCl [(h0, .inr (5, [.null, .ref q1, .ref q2, .ref q3, .ref q4, .int 0])), (q1, .inl (a 0, 5, .inl (fun _ => 0))), (q2, .inl (a 0, 4, .inl (fun _ => 0))), (q3, .inl (a 0, 4, .inl (fun _ => 0))), (q4, .inl (a 0, 4, .inl (fun _ => 0)))] H := hP
  have hD : va_D _ [(h0, .inr (5, [.null, .ref q1, .ref q2, .ref q3, .ref q4, .int 0])), (q1, .inl (a 0, 5, .inl (fun _ => 0))), (q2, .inl (a 0, 4, .inl (fun _ => 0))), (q3, .inl (a 0, 4, .inl (fun _ => 0))), (q4, .inl (a 0, 4, .inl (fun _ => 0)))] := hD
  refine lv_aload_n hx hb dX5_init_32 rfl (lv_at hl 0 rfl) ?_
  refine lv_aload_n hx hb dX5_init_33 rfl (lv_at hl 1 rfl) ?_
  refine va_putF (D := D) (ci := 5) (v := .ref pl) (ty := .object "PoleNave$Plan") (C := RX5) (T := TX5) (N := 6) hx hb hts inT5 tyX5 tyX5_ok nmX5 hown hK hP hD hS 0 rfl rfl 0 (by decide) (hts (.fieldLink "PoleNave$Schools" 24 "PoleNave$Schools" "plan" "LPoleNave$Plan;") (tb_in (by decide +kernel))) (fun _ h9 => h9) rfl hin rfl (by decide +kernel) rfl rfl (Nat.le_of_ble_eq_true rfl) dX5_init_34 (fun H locs hP hD hS => ?_)
  have hP : va_P D vwCl [(h0, .inr (5, [.ref pl, .ref q1, .ref q2, .ref q3, .ref q4, .int 0])), (q1, .inl (a 0, 5, .inl (fun _ => 0))), (q2, .inl (a 0, 4, .inl (fun _ => 0))), (q3, .inl (a 0, 4, .inl (fun _ => 0))), (q4, .inl (a 0, 4, .inl (fun _ => 0)))] H := hP
  have hD : va_D _ [(h0, .inr (5, [.ref pl, .ref q1, .ref q2, .ref q3, .ref q4, .int 0])), (q1, .inl (a 0, 5, .inl (fun _ => 0))), (q2, .inl (a 0, 4, .inl (fun _ => 0))), (q3, .inl (a 0, 4, .inl (fun _ => 0))), (q4, .inl (a 0, 4, .inl (fun _ => 0)))] := hD
  exact mk_ret ha hP hD hS ⟨q1, q2, q3, q4, rfl⟩ dX5_init_37
set_option maxHeartbeats 2000000 in
set_option maxRecDepth 100000 in
theorem c_X6_init (D : va_G) (a : Nat → ClassId) (l : Launch) (h0 : Nat) (pl : Nat) : CN D a l yX6_init ({ frames := 1, cells := 4, slots := 20, locals := 40 } : Room) cX6_init 2 h0 (.inr (6, [.null, .null, .null, .null, .null, .int 0, .int 0])) [.ref pl] (fun ws => ∃ (q1 : Nat) (q2 : Nat) (q3 : Nat) (q4 : Nat), ws = [(h0, .inr (6, [.ref pl, .ref q1, .ref q2, .ref q3, .ref q4, .int 0, .int 0])), (q1, .inl (a 0, 4, .inl (fun _ => 0))), (q2, .inl (a 0, 6, .inl (fun _ => 0))), (q3, .inl (a 0, 5, .inl (fun _ => 0))), (q4, .inl (a 0, 5, .inl (fun _ => 0)))]) := by
  refine mbegin (by decide) rfl (Nat.le_of_ble_eq_true rfl) ?_
  intro p e s m below meth c ls ha hP hD hS hA hl
  have hx := ha.1
  have hb := ha.2.1
  have hown := ha.2.2.2.1
  have hts := ha.2.2.2.2.1
  have hin := ha.2.2.2.2.2.2.2.1
  have hK := ha.2.2.2.2.2.2.2.2.1
  have hO := ha.2.2.2.2.2.2.2.2.2.2
  have hl : lv_has ls 2 [(0, .ref h0), (1, .ref pl)] := hl
  refine lv_aload_n hx hb dX6_init_0 rfl (lv_at hl 0 rfl) ?_
  refine W.objInit hx hb hown (hts (.methodLink "PoleNave$Seating" 3 objectInit) (tb_in (by decide +kernel))) (hts (.instanceMethod objectInit) (tb_in (by decide +kernel))) (hts (.code objectInit ⟨#[0xb1]⟩ 1 none) (tb_in (by decide +kernel))) rfl (by rw [ha.2.2.1]; exact hl.1) rfl dX6_init_1 (Nat.le_of_ble_eq_true rfl) (Nat.le_of_ble_eq_true rfl) ?_
  refine W.eq (g2 := F0 m 4 ls []) rfl ?_
  refine lv_aload_n hx hb dX6_init_4 rfl (lv_at hl 0 rfl) ?_
  refine lv_iconst (v := 4) hx hb dX6_init_5 (by decide) ?_
  refine mk_newi hx hb (hts _ tb_ac) hK hP hD hS hA (n := 4) (N' := 4) (by decide) rfl (by decide) (Nat.le_of_ble_eq_true rfl) (Nat.le_of_ble_eq_true rfl) dX6_init_6 (fun q1 H hP hD hS => ?_)
  have hP : va_P D vwCl [(h0, .inr (6, [.null, .null, .null, .null, .null, .int 0, .int 0])), (q1, .inl (a 0, 4, .inl (fun _ => 0)))] H := hP
  have hD : va_D _ [(h0, .inr (6, [.null, .null, .null, .null, .null, .int 0, .int 0])), (q1, .inl (a 0, 4, .inl (fun _ => 0)))] := hD
  refine W.widen (k := 1) (n := 4) (Nat.le_of_ble_eq_true rfl) (Nat.le_of_ble_eq_true rfl) ?_
  refine va_putF (D := D) (ci := 6) (v := .ref q1) (ty := .array .int) (C := RX6) (T := TX6) (N := 7) hx hb hts inT6 tyX6 tyX6_ok nmX6 hown hK hP hD hS 0 rfl rfl 1 (by decide) (hts (.fieldLink "PoleNave$Seating" 9 "PoleNave$Seating" "spare" "[I") (tb_in (by decide +kernel))) (fun _ h9 => h9) rfl hin rfl (by decide +kernel) rfl rfl (Nat.le_of_ble_eq_true rfl) dX6_init_8 (fun H locs hP hD hS => ?_)
  have hP : va_P D vwCl [(h0, .inr (6, [.null, .ref q1, .null, .null, .null, .int 0, .int 0])), (q1, .inl (a 0, 4, .inl (fun _ => 0)))] H := hP
  have hD : va_D _ [(h0, .inr (6, [.null, .ref q1, .null, .null, .null, .int 0, .int 0])), (q1, .inl (a 0, 4, .inl (fun _ => 0)))] := hD
  refine lv_aload_n hx hb dX6_init_11 rfl (lv_at hl 0 rfl) ?_
  refine lv_bipush (v := 6) hx hb dX6_init_12 (by decide) ?_
  refine mk_newi hx hb (hts _ tb_ac) hK hP hD hS hA (n := 6) (N' := 6) (by decide) rfl (by decide) (Nat.le_of_ble_eq_true rfl) (Nat.le_of_ble_eq_true rfl) dX6_init_14 (fun q2 H hP hD hS => ?_)
  have hP : va_P D vwCl [(h0, .inr (6, [.null, .ref q1, .null, .null, .null, .int 0, .int 0])), (q1, .inl (a 0, 4, .inl (fun _ => 0))), (q2, .inl (a 0, 6, .inl (fun _ => 0)))] H := hP
  have hD : va_D _ [(h0, .inr (6, [.null, .ref q1, .null, .null, .null, .int 0, .int 0])), (q1, .inl (a 0, 4, .inl (fun _ => 0))), (q2, .inl (a 0, 6, .inl (fun _ => 0)))] := hD
  refine W.widen (k := 2) (n := 10) (Nat.le_of_ble_eq_true rfl) (Nat.le_of_ble_eq_true rfl) ?_
  refine va_putF (D := D) (ci := 6) (v := .ref q2) (ty := .array .int) (C := RX6) (T := TX6) (N := 7) hx hb hts inT6 tyX6 tyX6_ok nmX6 hown hK hP hD hS 0 rfl rfl 2 (by decide) (hts (.fieldLink "PoleNave$Seating" 15 "PoleNave$Seating" "hopes" "[I") (tb_in (by decide +kernel))) (fun _ h9 => h9) rfl hin rfl (by decide +kernel) rfl rfl (Nat.le_of_ble_eq_true rfl) dX6_init_16 (fun H locs hP hD hS => ?_)
  have hP : va_P D vwCl [(h0, .inr (6, [.null, .ref q1, .ref q2, .null, .null, .int 0, .int 0])), (q1, .inl (a 0, 4, .inl (fun _ => 0))), (q2, .inl (a 0, 6, .inl (fun _ => 0)))] H := hP
  have hD : va_D _ [(h0, .inr (6, [.null, .ref q1, .ref q2, .null, .null, .int 0, .int 0])), (q1, .inl (a 0, 4, .inl (fun _ => 0))), (q2, .inl (a 0, 6, .inl (fun _ => 0)))] := hD
  refine lv_aload_n hx hb dX6_init_19 rfl (lv_at hl 0 rfl) ?_
  refine lv_iconst (v := 5) hx hb dX6_init_20 (by decide) ?_
  refine mk_newi hx hb (hts _ tb_ac) hK hP hD hS hA (n := 5) (N' := 5) (by decide) rfl (by decide) (Nat.le_of_ble_eq_true rfl) (Nat.le_of_ble_eq_true rfl) dX6_init_21 (fun q3 H hP hD hS => ?_)
  have hP : va_P D vwCl [(h0, .inr (6, [.null, .ref q1, .ref q2, .null, .null, .int 0, .int 0])), (q1, .inl (a 0, 4, .inl (fun _ => 0))), (q2, .inl (a 0, 6, .inl (fun _ => 0))), (q3, .inl (a 0, 5, .inl (fun _ => 0)))] H := hP
  have hD : va_D _ [(h0, .inr (6, [.null, .ref q1, .ref q2, .null, .null, .int 0, .int 0])), (q1, .inl (a 0, 4, .inl (fun _ => 0))), (q2, .inl (a 0, 6, .inl (fun _ => 0))), (q3, .inl (a 0, 5, .inl (fun _ => 0)))] := hD
  refine W.widen (k := 3) (n := 15) (Nat.le_of_ble_eq_true rfl) (Nat.le_of_ble_eq_true rfl) ?_
  refine va_putF (D := D) (ci := 6) (v := .ref q3) (ty := .array .int) (C := RX6) (T := TX6) (N := 7) hx hb hts inT6 tyX6 tyX6_ok nmX6 hown hK hP hD hS 0 rfl rfl 3 (by decide) (hts (.fieldLink "PoleNave$Seating" 18 "PoleNave$Seating" "seats" "[I") (tb_in (by decide +kernel))) (fun _ h9 => h9) rfl hin rfl (by decide +kernel) rfl rfl (Nat.le_of_ble_eq_true rfl) dX6_init_23 (fun H locs hP hD hS => ?_)
  have hP : va_P D vwCl [(h0, .inr (6, [.null, .ref q1, .ref q2, .ref q3, .null, .int 0, .int 0])), (q1, .inl (a 0, 4, .inl (fun _ => 0))), (q2, .inl (a 0, 6, .inl (fun _ => 0))), (q3, .inl (a 0, 5, .inl (fun _ => 0)))] H := hP
  have hD : va_D _ [(h0, .inr (6, [.null, .ref q1, .ref q2, .ref q3, .null, .int 0, .int 0])), (q1, .inl (a 0, 4, .inl (fun _ => 0))), (q2, .inl (a 0, 6, .inl (fun _ => 0))), (q3, .inl (a 0, 5, .inl (fun _ => 0)))] := hD
  refine lv_aload_n hx hb dX6_init_26 rfl (lv_at hl 0 rfl) ?_
  refine lv_iconst (v := 5) hx hb dX6_init_27 (by decide) ?_
  refine mk_newi hx hb (hts _ tb_ac) hK hP hD hS hA (n := 5) (N' := 5) (by decide) rfl (by decide) (Nat.le_of_ble_eq_true rfl) (Nat.le_of_ble_eq_true rfl) dX6_init_28 (fun q4 H hP hD hS => ?_)
  have hP : va_P D vwCl [(h0, .inr (6, [.null, .ref q1, .ref q2, .ref q3, .null, .int 0, .int 0])), (q1, .inl (a 0, 4, .inl (fun _ => 0))), (q2, .inl (a 0, 6, .inl (fun _ => 0))), (q3, .inl (a 0, 5, .inl (fun _ => 0))), (q4, .inl (a 0, 5, .inl (fun _ => 0)))] H := hP
  have hD : va_D _ [(h0, .inr (6, [.null, .ref q1, .ref q2, .ref q3, .null, .int 0, .int 0])), (q1, .inl (a 0, 4, .inl (fun _ => 0))), (q2, .inl (a 0, 6, .inl (fun _ => 0))), (q3, .inl (a 0, 5, .inl (fun _ => 0))), (q4, .inl (a 0, 5, .inl (fun _ => 0)))] := hD
  refine W.widen (k := 4) (n := 20) (Nat.le_of_ble_eq_true rfl) (Nat.le_of_ble_eq_true rfl) ?_
  refine va_putF (D := D) (ci := 6) (v := .ref q4) (ty := .array .int) (C := RX6) (T := TX6) (N := 7) hx hb hts inT6 tyX6 tyX6_ok nmX6 hown hK hP hD hS 0 rfl rfl 4 (by decide) (hts (.fieldLink "PoleNave$Seating" 21 "PoleNave$Seating" "first" "[I") (tb_in (by decide +kernel))) (fun _ h9 => h9) rfl hin rfl (by decide +kernel) rfl rfl (Nat.le_of_ble_eq_true rfl) dX6_init_30 (fun H locs hP hD hS => ?_)
  have hP : va_P D vwCl [(h0, .inr (6, [.null, .ref q1, .ref q2, .ref q3, .ref q4, .int 0, .int 0])), (q1, .inl (a 0, 4, .inl (fun _ => 0))), (q2, .inl (a 0, 6, .inl (fun _ => 0))), (q3, .inl (a 0, 5, .inl (fun _ => 0))), (q4, .inl (a 0, 5, .inl (fun _ => 0)))] H := hP
  have hD : va_D _ [(h0, .inr (6, [.null, .ref q1, .ref q2, .ref q3, .ref q4, .int 0, .int 0])), (q1, .inl (a 0, 4, .inl (fun _ => 0))), (q2, .inl (a 0, 6, .inl (fun _ => 0))), (q3, .inl (a 0, 5, .inl (fun _ => 0))), (q4, .inl (a 0, 5, .inl (fun _ => 0)))] := hD
  refine lv_aload_n hx hb dX6_init_33 rfl (lv_at hl 0 rfl) ?_
  refine lv_aload_n hx hb dX6_init_34 rfl (lv_at hl 1 rfl) ?_
  refine va_putF (D := D) (ci := 6) (v := .ref pl) (ty := .object "PoleNave$Plan") (C := RX6) (T := TX6) (N := 7) hx hb hts inT6 tyX6 tyX6_ok nmX6 hown hK hP hD hS 0 rfl rfl 0 (by decide) (hts (.fieldLink "PoleNave$Seating" 24 "PoleNave$Seating" "plan" "LPoleNave$Plan;") (tb_in (by decide +kernel))) (fun _ h9 => h9) rfl hin rfl (by decide +kernel) rfl rfl (Nat.le_of_ble_eq_true rfl) dX6_init_35 (fun H locs hP hD hS => ?_)
  have hP : va_P D vwCl [(h0, .inr (6, [.ref pl, .ref q1, .ref q2, .ref q3, .ref q4, .int 0, .int 0])), (q1, .inl (a 0, 4, .inl (fun _ => 0))), (q2, .inl (a 0, 6, .inl (fun _ => 0))), (q3, .inl (a 0, 5, .inl (fun _ => 0))), (q4, .inl (a 0, 5, .inl (fun _ => 0)))] H := hP
  have hD : va_D _ [(h0, .inr (6, [.ref pl, .ref q1, .ref q2, .ref q3, .ref q4, .int 0, .int 0])), (q1, .inl (a 0, 4, .inl (fun _ => 0))), (q2, .inl (a 0, 6, .inl (fun _ => 0))), (q3, .inl (a 0, 5, .inl (fun _ => 0))), (q4, .inl (a 0, 5, .inl (fun _ => 0)))] := hD
  exact mk_ret ha hP hD hS ⟨q1, q2, q3, q4, rfl⟩ dX6_init_38
set_option maxHeartbeats 2000000 in
set_option maxRecDepth 100000 in
theorem c_X1_init (D : va_G) (a : Nat → ClassId) (l : Launch) (h0 : Nat) (pl : Nat) : CN D a l yX1_init ({ frames := 1, cells := 10, slots := 44, locals := 40 } : Room) cX1_init 2 h0 (.inr (1, [.null, .null, .null, .null, .null, .int 0, .int 0, .int 0])) [.ref pl] (fun ws => ∃ (q1 : Nat) (r : Nat → Nat) (q2 : Nat) (q3 : Nat) (q4 : Nat), ws = [(h0, .inr (1, [.ref pl, .ref q1, .ref q2, .ref q3, .ref q4, .int 0, .int 0, .int 0])), (q1, .inl (a 3, 6, .inr (.inr (.inr (.inr (fun i => if i < 6 then some (r i) else none)))))), ((r 0), .inl (a 0, 4, .inl (fun _ => 0))), ((r 1), .inl (a 0, 4, .inl (fun _ => 0))), ((r 2), .inl (a 0, 4, .inl (fun _ => 0))), ((r 3), .inl (a 0, 4, .inl (fun _ => 0))), ((r 4), .inl (a 0, 4, .inl (fun _ => 0))), ((r 5), .inl (a 0, 4, .inl (fun _ => 0))), (q2, .inl (a 0, 4, .inl (fun _ => 0))), (q3, .inl (a 0, 5, .inl (fun _ => 0))), (q4, .inl (a 0, 5, .inl (fun _ => 0)))]) := by
  refine mbegin (by decide) rfl (Nat.le_of_ble_eq_true rfl) ?_
  intro p e s m below meth c ls ha hP hD hS hA hl
  have hx := ha.1
  have hb := ha.2.1
  have hown := ha.2.2.2.1
  have hts := ha.2.2.2.2.1
  have hin := ha.2.2.2.2.2.2.2.1
  have hK := ha.2.2.2.2.2.2.2.2.1
  have hO := ha.2.2.2.2.2.2.2.2.2.2
  have hl : lv_has ls 2 [(0, .ref h0), (1, .ref pl)] := hl
  refine lv_aload_n hx hb dX1_init_0 rfl (lv_at hl 0 rfl) ?_
  refine W.objInit hx hb hown (hts (.methodLink "PoleNave$Lacings" 3 objectInit) (tb_in (by decide +kernel))) (hts (.instanceMethod objectInit) (tb_in (by decide +kernel))) (hts (.code objectInit ⟨#[0xb1]⟩ 1 none) (tb_in (by decide +kernel))) rfl (by rw [ha.2.2.1]; exact hl.1) rfl dX1_init_1 (Nat.le_of_ble_eq_true rfl) (Nat.le_of_ble_eq_true rfl) ?_
  refine W.eq (g2 := F0 m 4 ls []) rfl ?_
  refine lv_aload_n hx hb dX1_init_4 rfl (lv_at hl 0 rfl) ?_
  refine lv_bipush (v := 6) hx hb dX1_init_5 (by decide) ?_
  refine lv_iconst (v := 4) hx hb dX1_init_7 (by decide) ?_
  refine mk_grid hx hb hown (hts (.classLink "PoleNave$Lacings" 9 "[[I") (tb_in (by decide +kernel))) hO.2.2 (hts _ tb_ac) hK hP hD hS hA (Nat.le_of_ble_eq_true rfl) (Nat.le_of_ble_eq_true rfl) dX1_init_8 (fun q1 r H hP hD hS => ?_)
  have hP : va_P D vwCl [(h0, .inr (1, [.null, .null, .null, .null, .null, .int 0, .int 0, .int 0])), (q1, .inl (a 3, 6, .inr (.inr (.inr (.inr (fun i => if i < 6 then some (r i) else none)))))), ((r 0), .inl (a 0, 4, .inl (fun _ => 0))), ((r 1), .inl (a 0, 4, .inl (fun _ => 0))), ((r 2), .inl (a 0, 4, .inl (fun _ => 0))), ((r 3), .inl (a 0, 4, .inl (fun _ => 0))), ((r 4), .inl (a 0, 4, .inl (fun _ => 0))), ((r 5), .inl (a 0, 4, .inl (fun _ => 0)))] H := hP
  have hD : va_D _ [(h0, .inr (1, [.null, .null, .null, .null, .null, .int 0, .int 0, .int 0])), (q1, .inl (a 3, 6, .inr (.inr (.inr (.inr (fun i => if i < 6 then some (r i) else none)))))), ((r 0), .inl (a 0, 4, .inl (fun _ => 0))), ((r 1), .inl (a 0, 4, .inl (fun _ => 0))), ((r 2), .inl (a 0, 4, .inl (fun _ => 0))), ((r 3), .inl (a 0, 4, .inl (fun _ => 0))), ((r 4), .inl (a 0, 4, .inl (fun _ => 0))), ((r 5), .inl (a 0, 4, .inl (fun _ => 0)))] := hD
  refine W.widen (k := 7) (n := 30) (Nat.le_of_ble_eq_true rfl) (Nat.le_of_ble_eq_true rfl) ?_
  refine va_putF (D := D) (ci := 1) (v := .ref q1) (ty := .array (.array .int)) (C := RX1) (T := TX1) (N := 8) hx hb hts inT1 tyX1 tyX1_ok nmX1 hown hK hP hD hS 0 rfl rfl 1 (by decide) (hts (.fieldLink "PoleNave$Lacings" 11 "PoleNave$Lacings" "wear" "[[I") (tb_in (by decide +kernel))) (fun _ h9 => h9) rfl hin rfl (by decide +kernel) rfl rfl (Nat.le_of_ble_eq_true rfl) dX1_init_12 (fun H locs hP hD hS => ?_)
  have hP : va_P D vwCl [(h0, .inr (1, [.null, .ref q1, .null, .null, .null, .int 0, .int 0, .int 0])), (q1, .inl (a 3, 6, .inr (.inr (.inr (.inr (fun i => if i < 6 then some (r i) else none)))))), ((r 0), .inl (a 0, 4, .inl (fun _ => 0))), ((r 1), .inl (a 0, 4, .inl (fun _ => 0))), ((r 2), .inl (a 0, 4, .inl (fun _ => 0))), ((r 3), .inl (a 0, 4, .inl (fun _ => 0))), ((r 4), .inl (a 0, 4, .inl (fun _ => 0))), ((r 5), .inl (a 0, 4, .inl (fun _ => 0)))] H := hP
  have hD : va_D _ [(h0, .inr (1, [.null, .ref q1, .null, .null, .null, .int 0, .int 0, .int 0])), (q1, .inl (a 3, 6, .inr (.inr (.inr (.inr (fun i => if i < 6 then some (r i) else none)))))), ((r 0), .inl (a 0, 4, .inl (fun _ => 0))), ((r 1), .inl (a 0, 4, .inl (fun _ => 0))), ((r 2), .inl (a 0, 4, .inl (fun _ => 0))), ((r 3), .inl (a 0, 4, .inl (fun _ => 0))), ((r 4), .inl (a 0, 4, .inl (fun _ => 0))), ((r 5), .inl (a 0, 4, .inl (fun _ => 0)))] := hD
  refine lv_aload_n hx hb dX1_init_15 rfl (lv_at hl 0 rfl) ?_
  refine lv_iconst (v := 4) hx hb dX1_init_16 (by decide) ?_
  refine mk_newi hx hb (hts _ tb_ac) hK hP hD hS hA (n := 4) (N' := 4) (by decide) rfl (by decide) (Nat.le_of_ble_eq_true rfl) (Nat.le_of_ble_eq_true rfl) dX1_init_17 (fun q2 H hP hD hS => ?_)
  have hP : va_P D vwCl [(h0, .inr (1, [.null, .ref q1, .null, .null, .null, .int 0, .int 0, .int 0])), (q1, .inl (a 3, 6, .inr (.inr (.inr (.inr (fun i => if i < 6 then some (r i) else none)))))), ((r 0), .inl (a 0, 4, .inl (fun _ => 0))), ((r 1), .inl (a 0, 4, .inl (fun _ => 0))), ((r 2), .inl (a 0, 4, .inl (fun _ => 0))), ((r 3), .inl (a 0, 4, .inl (fun _ => 0))), ((r 4), .inl (a 0, 4, .inl (fun _ => 0))), ((r 5), .inl (a 0, 4, .inl (fun _ => 0))), (q2, .inl (a 0, 4, .inl (fun _ => 0)))] H := hP
  have hD : va_D _ [(h0, .inr (1, [.null, .ref q1, .null, .null, .null, .int 0, .int 0, .int 0])), (q1, .inl (a 3, 6, .inr (.inr (.inr (.inr (fun i => if i < 6 then some (r i) else none)))))), ((r 0), .inl (a 0, 4, .inl (fun _ => 0))), ((r 1), .inl (a 0, 4, .inl (fun _ => 0))), ((r 2), .inl (a 0, 4, .inl (fun _ => 0))), ((r 3), .inl (a 0, 4, .inl (fun _ => 0))), ((r 4), .inl (a 0, 4, .inl (fun _ => 0))), ((r 5), .inl (a 0, 4, .inl (fun _ => 0))), (q2, .inl (a 0, 4, .inl (fun _ => 0)))] := hD
  refine W.widen (k := 8) (n := 34) (Nat.le_of_ble_eq_true rfl) (Nat.le_of_ble_eq_true rfl) ?_
  refine va_putF (D := D) (ci := 1) (v := .ref q2) (ty := .array .int) (C := RX1) (T := TX1) (N := 8) hx hb hts inT1 tyX1 tyX1_ok nmX1 hown hK hP hD hS 0 rfl rfl 2 (by decide) (hts (.fieldLink "PoleNave$Lacings" 16 "PoleNave$Lacings" "loads" "[I") (tb_in (by decide +kernel))) (fun _ h9 => h9) rfl hin rfl (by decide +kernel) rfl rfl (Nat.le_of_ble_eq_true rfl) dX1_init_19 (fun H locs hP hD hS => ?_)
  have hP : va_P D vwCl [(h0, .inr (1, [.null, .ref q1, .ref q2, .null, .null, .int 0, .int 0, .int 0])), (q1, .inl (a 3, 6, .inr (.inr (.inr (.inr (fun i => if i < 6 then some (r i) else none)))))), ((r 0), .inl (a 0, 4, .inl (fun _ => 0))), ((r 1), .inl (a 0, 4, .inl (fun _ => 0))), ((r 2), .inl (a 0, 4, .inl (fun _ => 0))), ((r 3), .inl (a 0, 4, .inl (fun _ => 0))), ((r 4), .inl (a 0, 4, .inl (fun _ => 0))), ((r 5), .inl (a 0, 4, .inl (fun _ => 0))), (q2, .inl (a 0, 4, .inl (fun _ => 0)))] H := hP
  have hD : va_D _ [(h0, .inr (1, [.null, .ref q1, .ref q2, .null, .null, .int 0, .int 0, .int 0])), (q1, .inl (a 3, 6, .inr (.inr (.inr (.inr (fun i => if i < 6 then some (r i) else none)))))), ((r 0), .inl (a 0, 4, .inl (fun _ => 0))), ((r 1), .inl (a 0, 4, .inl (fun _ => 0))), ((r 2), .inl (a 0, 4, .inl (fun _ => 0))), ((r 3), .inl (a 0, 4, .inl (fun _ => 0))), ((r 4), .inl (a 0, 4, .inl (fun _ => 0))), ((r 5), .inl (a 0, 4, .inl (fun _ => 0))), (q2, .inl (a 0, 4, .inl (fun _ => 0)))] := hD
  refine lv_aload_n hx hb dX1_init_22 rfl (lv_at hl 0 rfl) ?_
  refine lv_iconst (v := 5) hx hb dX1_init_23 (by decide) ?_
  refine mk_newi hx hb (hts _ tb_ac) hK hP hD hS hA (n := 5) (N' := 5) (by decide) rfl (by decide) (Nat.le_of_ble_eq_true rfl) (Nat.le_of_ble_eq_true rfl) dX1_init_24 (fun q3 H hP hD hS => ?_)
  have hP : va_P D vwCl [(h0, .inr (1, [.null, .ref q1, .ref q2, .null, .null, .int 0, .int 0, .int 0])), (q1, .inl (a 3, 6, .inr (.inr (.inr (.inr (fun i => if i < 6 then some (r i) else none)))))), ((r 0), .inl (a 0, 4, .inl (fun _ => 0))), ((r 1), .inl (a 0, 4, .inl (fun _ => 0))), ((r 2), .inl (a 0, 4, .inl (fun _ => 0))), ((r 3), .inl (a 0, 4, .inl (fun _ => 0))), ((r 4), .inl (a 0, 4, .inl (fun _ => 0))), ((r 5), .inl (a 0, 4, .inl (fun _ => 0))), (q2, .inl (a 0, 4, .inl (fun _ => 0))), (q3, .inl (a 0, 5, .inl (fun _ => 0)))] H := hP
  have hD : va_D _ [(h0, .inr (1, [.null, .ref q1, .ref q2, .null, .null, .int 0, .int 0, .int 0])), (q1, .inl (a 3, 6, .inr (.inr (.inr (.inr (fun i => if i < 6 then some (r i) else none)))))), ((r 0), .inl (a 0, 4, .inl (fun _ => 0))), ((r 1), .inl (a 0, 4, .inl (fun _ => 0))), ((r 2), .inl (a 0, 4, .inl (fun _ => 0))), ((r 3), .inl (a 0, 4, .inl (fun _ => 0))), ((r 4), .inl (a 0, 4, .inl (fun _ => 0))), ((r 5), .inl (a 0, 4, .inl (fun _ => 0))), (q2, .inl (a 0, 4, .inl (fun _ => 0))), (q3, .inl (a 0, 5, .inl (fun _ => 0)))] := hD
  refine W.widen (k := 9) (n := 39) (Nat.le_of_ble_eq_true rfl) (Nat.le_of_ble_eq_true rfl) ?_
  refine va_putF (D := D) (ci := 1) (v := .ref q3) (ty := .array .int) (C := RX1) (T := TX1) (N := 8) hx hb hts inT1 tyX1 tyX1_ok nmX1 hown hK hP hD hS 0 rfl rfl 3 (by decide) (hts (.fieldLink "PoleNave$Lacings" 20 "PoleNave$Lacings" "laced" "[I") (tb_in (by decide +kernel))) (fun _ h9 => h9) rfl hin rfl (by decide +kernel) rfl rfl (Nat.le_of_ble_eq_true rfl) dX1_init_26 (fun H locs hP hD hS => ?_)
  have hP : va_P D vwCl [(h0, .inr (1, [.null, .ref q1, .ref q2, .ref q3, .null, .int 0, .int 0, .int 0])), (q1, .inl (a 3, 6, .inr (.inr (.inr (.inr (fun i => if i < 6 then some (r i) else none)))))), ((r 0), .inl (a 0, 4, .inl (fun _ => 0))), ((r 1), .inl (a 0, 4, .inl (fun _ => 0))), ((r 2), .inl (a 0, 4, .inl (fun _ => 0))), ((r 3), .inl (a 0, 4, .inl (fun _ => 0))), ((r 4), .inl (a 0, 4, .inl (fun _ => 0))), ((r 5), .inl (a 0, 4, .inl (fun _ => 0))), (q2, .inl (a 0, 4, .inl (fun _ => 0))), (q3, .inl (a 0, 5, .inl (fun _ => 0)))] H := hP
  have hD : va_D _ [(h0, .inr (1, [.null, .ref q1, .ref q2, .ref q3, .null, .int 0, .int 0, .int 0])), (q1, .inl (a 3, 6, .inr (.inr (.inr (.inr (fun i => if i < 6 then some (r i) else none)))))), ((r 0), .inl (a 0, 4, .inl (fun _ => 0))), ((r 1), .inl (a 0, 4, .inl (fun _ => 0))), ((r 2), .inl (a 0, 4, .inl (fun _ => 0))), ((r 3), .inl (a 0, 4, .inl (fun _ => 0))), ((r 4), .inl (a 0, 4, .inl (fun _ => 0))), ((r 5), .inl (a 0, 4, .inl (fun _ => 0))), (q2, .inl (a 0, 4, .inl (fun _ => 0))), (q3, .inl (a 0, 5, .inl (fun _ => 0)))] := hD
  refine lv_aload_n hx hb dX1_init_29 rfl (lv_at hl 0 rfl) ?_
  refine lv_iconst (v := 5) hx hb dX1_init_30 (by decide) ?_
  refine mk_newi hx hb (hts _ tb_ac) hK hP hD hS hA (n := 5) (N' := 5) (by decide) rfl (by decide) (Nat.le_of_ble_eq_true rfl) (Nat.le_of_ble_eq_true rfl) dX1_init_31 (fun q4 H hP hD hS => ?_)
  have hP : va_P D vwCl [(h0, .inr (1, [.null, .ref q1, .ref q2, .ref q3, .null, .int 0, .int 0, .int 0])), (q1, .inl (a 3, 6, .inr (.inr (.inr (.inr (fun i => if i < 6 then some (r i) else none)))))), ((r 0), .inl (a 0, 4, .inl (fun _ => 0))), ((r 1), .inl (a 0, 4, .inl (fun _ => 0))), ((r 2), .inl (a 0, 4, .inl (fun _ => 0))), ((r 3), .inl (a 0, 4, .inl (fun _ => 0))), ((r 4), .inl (a 0, 4, .inl (fun _ => 0))), ((r 5), .inl (a 0, 4, .inl (fun _ => 0))), (q2, .inl (a 0, 4, .inl (fun _ => 0))), (q3, .inl (a 0, 5, .inl (fun _ => 0))), (q4, .inl (a 0, 5, .inl (fun _ => 0)))] H := hP
  have hD : va_D _ [(h0, .inr (1, [.null, .ref q1, .ref q2, .ref q3, .null, .int 0, .int 0, .int 0])), (q1, .inl (a 3, 6, .inr (.inr (.inr (.inr (fun i => if i < 6 then some (r i) else none)))))), ((r 0), .inl (a 0, 4, .inl (fun _ => 0))), ((r 1), .inl (a 0, 4, .inl (fun _ => 0))), ((r 2), .inl (a 0, 4, .inl (fun _ => 0))), ((r 3), .inl (a 0, 4, .inl (fun _ => 0))), ((r 4), .inl (a 0, 4, .inl (fun _ => 0))), ((r 5), .inl (a 0, 4, .inl (fun _ => 0))), (q2, .inl (a 0, 4, .inl (fun _ => 0))), (q3, .inl (a 0, 5, .inl (fun _ => 0))), (q4, .inl (a 0, 5, .inl (fun _ => 0)))] := hD
  refine W.widen (k := 10) (n := 44) (Nat.le_of_ble_eq_true rfl) (Nat.le_of_ble_eq_true rfl) ?_
  refine va_putF (D := D) (ci := 1) (v := .ref q4) (ty := .array .int) (C := RX1) (T := TX1) (N := 8) hx hb hts inT1 tyX1 tyX1_ok nmX1 hown hK hP hD hS 0 rfl rfl 4 (by decide) (hts (.fieldLink "PoleNave$Lacings" 23 "PoleNave$Lacings" "first" "[I") (tb_in (by decide +kernel))) (fun _ h9 => h9) rfl hin rfl (by decide +kernel) rfl rfl (Nat.le_of_ble_eq_true rfl) dX1_init_33 (fun H locs hP hD hS => ?_)
  have hP : va_P D vwCl [(h0, .inr (1, [.null, .ref q1, .ref q2, .ref q3, .ref q4, .int 0, .int 0, .int 0])), (q1, .inl (a 3, 6, .inr (.inr (.inr (.inr (fun i => if i < 6 then some (r i) else none)))))), ((r 0), .inl (a 0, 4, .inl (fun _ => 0))), ((r 1), .inl (a 0, 4, .inl (fun _ => 0))), ((r 2), .inl (a 0, 4, .inl (fun _ => 0))), ((r 3), .inl (a 0, 4, .inl (fun _ => 0))), ((r 4), .inl (a 0, 4, .inl (fun _ => 0))), ((r 5), .inl (a 0, 4, .inl (fun _ => 0))), (q2, .inl (a 0, 4, .inl (fun _ => 0))), (q3, .inl (a 0, 5, .inl (fun _ => 0))), (q4, .inl (a 0, 5, .inl (fun _ => 0)))] H := hP
  have hD : va_D _ [(h0, .inr (1, [.null, .ref q1, .ref q2, .ref q3, .ref q4, .int 0, .int 0, .int 0])), (q1, .inl (a 3, 6, .inr (.inr (.inr (.inr (fun i => if i < 6 then some (r i) else none)))))), ((r 0), .inl (a 0, 4, .inl (fun _ => 0))), ((r 1), .inl (a 0, 4, .inl (fun _ => 0))), ((r 2), .inl (a 0, 4, .inl (fun _ => 0))), ((r 3), .inl (a 0, 4, .inl (fun _ => 0))), ((r 4), .inl (a 0, 4, .inl (fun _ => 0))), ((r 5), .inl (a 0, 4, .inl (fun _ => 0))), (q2, .inl (a 0, 4, .inl (fun _ => 0))), (q3, .inl (a 0, 5, .inl (fun _ => 0))), (q4, .inl (a 0, 5, .inl (fun _ => 0)))] := hD
  refine lv_aload_n hx hb dX1_init_36 rfl (lv_at hl 0 rfl) ?_
  refine lv_aload_n hx hb dX1_init_37 rfl (lv_at hl 1 rfl) ?_
  refine va_putF (D := D) (ci := 1) (v := .ref pl) (ty := .object "PoleNave$Plan") (C := RX1) (T := TX1) (N := 8) hx hb hts inT1 tyX1 tyX1_ok nmX1 hown hK hP hD hS 0 rfl rfl 0 (by decide) (hts (.fieldLink "PoleNave$Lacings" 26 "PoleNave$Lacings" "plan" "LPoleNave$Plan;") (tb_in (by decide +kernel))) (fun _ h9 => h9) rfl hin rfl (by decide +kernel) rfl rfl (Nat.le_of_ble_eq_true rfl) dX1_init_38 (fun H locs hP hD hS => ?_)
  have hP : va_P D vwCl [(h0, .inr (1, [.ref pl, .ref q1, .ref q2, .ref q3, .ref q4, .int 0, .int 0, .int 0])), (q1, .inl (a 3, 6, .inr (.inr (.inr (.inr (fun i => if i < 6 then some (r i) else none)))))), ((r 0), .inl (a 0, 4, .inl (fun _ => 0))), ((r 1), .inl (a 0, 4, .inl (fun _ => 0))), ((r 2), .inl (a 0, 4, .inl (fun _ => 0))), ((r 3), .inl (a 0, 4, .inl (fun _ => 0))), ((r 4), .inl (a 0, 4, .inl (fun _ => 0))), ((r 5), .inl (a 0, 4, .inl (fun _ => 0))), (q2, .inl (a 0, 4, .inl (fun _ => 0))), (q3, .inl (a 0, 5, .inl (fun _ => 0))), (q4, .inl (a 0, 5, .inl (fun _ => 0)))] H := hP
  have hD : va_D _ [(h0, .inr (1, [.ref pl, .ref q1, .ref q2, .ref q3, .ref q4, .int 0, .int 0, .int 0])), (q1, .inl (a 3, 6, .inr (.inr (.inr (.inr (fun i => if i < 6 then some (r i) else none)))))), ((r 0), .inl (a 0, 4, .inl (fun _ => 0))), ((r 1), .inl (a 0, 4, .inl (fun _ => 0))), ((r 2), .inl (a 0, 4, .inl (fun _ => 0))), ((r 3), .inl (a 0, 4, .inl (fun _ => 0))), ((r 4), .inl (a 0, 4, .inl (fun _ => 0))), ((r 5), .inl (a 0, 4, .inl (fun _ => 0))), (q2, .inl (a 0, 4, .inl (fun _ => 0))), (q3, .inl (a 0, 5, .inl (fun _ => 0))), (q4, .inl (a 0, 5, .inl (fun _ => 0)))] := hD
  exact mk_ret ha hP hD hS ⟨q1, r, q2, q3, q4, rfl⟩ dX1_init_41

