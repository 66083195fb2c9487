/-! the model reads a text -/
def inc7 (σ : Mem) : Mem := mU σ 0 7 (σ 0 7 + 1)
def b_here (σ : Mem) : Int32 := if σ 0 7 < σ 0 8 then σ 3 (60 * ix (σ 0 9) + ix (σ 0 7)) else -1
def b_fig (σ : Mem) (least : Int32) : Bool := b_in (b_here σ).toInt64 (48 + least).toInt64 57
def w_fig (σ : Mem) (least : Int32) : Mem := if b_fig σ least = true then inc7 σ else σ
def b_last (σ : Mem) : Int32 := σ 3 (60 * ix (σ 0 9) + ix (σ 0 7) - 1) - 48
def b_kindM (x : Int32) : Int32 := if x = 112 then 0 else if x = 114 then 1 else if x = 108 then 2 else if x = 115 then 3 else if x = 100 then 4 else if x = 107 then 5 else -9
def st1 (σ : Mem) : Mem := w_fig σ 0
def st2 (σ : Mem) : Mem := w_fig (w_fig σ 0) 0
def b_str (σ : Mem) : Bool := b_fig σ 0 && (b_fig (st1 σ) 0 && !decide (60 < 10 * b_last (st1 σ) + b_last (st2 σ)))
def w_str (σ : Mem) : Mem := if b_fig σ 0 = true then (if b_fig (w_fig σ 0) 0 = true then (if 60 < 10 * b_last (w_fig σ 0) + b_last (w_fig (w_fig σ 0) 0) then mU (w_fig (w_fig σ 0) 0) 0 7 (σ 0 7) else mU (w_fig (w_fig σ 0) 0) 17 (ix (w_fig (w_fig σ 0) 0 0 10)) (10 * b_last (w_fig σ 0) + b_last (w_fig (w_fig σ 0) 0))) else w_fig (w_fig σ 0) 0) else w_fig σ 0
def zp1 (σ : Mem) : Mem := w_fig (inc7 σ) 1
def zp2 (σ : Mem) : Mem := mU (zp1 σ) 15 (ix (zp1 σ 0 10)) (b_kindM (b_here σ))
def zp3 (σ : Mem) : Mem := mU (zp2 σ) 16 (ix (zp1 σ 0 10)) (b_last (zp2 σ))
def b_rp (σ : Mem) : Bool := !decide (σ 0 10 = 4) && (b_fig (inc7 σ) 1 && b_str (zp3 σ))
def w_rp (σ : Mem) : Mem := if σ 0 10 = 4 then σ else if b_fig (inc7 σ) 1 = true then (if b_str (zp3 σ) = true then mU (w_str (zp3 σ)) 0 10 (w_str (zp3 σ) 0 10 + 1) else w_str (zp3 σ)) else zp1 σ
def zo1 (σ : Mem) : Mem := w_fig (inc7 σ) 1
def zo2 (σ : Mem) : Mem := mU (zo1 σ) 18 (ix (zo1 σ 0 11)) (b_last (zo1 σ))
def zo3 (σ : Mem) : Mem := w_fig (zo2 σ) 0
def zo4 (σ : Mem) : Mem := mU (zo3 σ) 19 (ix (zo3 σ 0 11)) (b_last (zo3 σ))
def b_ro (σ : Mem) : Bool := !decide (σ 0 11 = 5) && (b_fig (inc7 σ) 1 && b_fig (zo2 σ) 0)
def w_ro (σ : Mem) : Mem := if σ 0 11 = 5 then σ else if b_fig (inc7 σ) 1 = true then (if b_fig (zo2 σ) 0 = true then mU (zo4 σ) 0 11 (zo3 σ 0 11 + 1) else zo3 σ) else zo1 σ
def rdM : Nat → Mem → Int32 → Int32 × Mem
  | 0, σ, _ => (0, σ)
  | d + 1, σ, w => if σ 0 7 < σ 0 8 then (if w = 0 then (σ 0 7, σ) else if b_here σ = 32 then rdM d (inc7 σ) w else if b_here σ = 109 then rdM d (w_ro σ) (b2i (b_ro σ)) else if b_kindM (b_here σ) = -9 then rdM d σ 0 else rdM d (w_rp σ) (b2i (b_rp σ)))
    else (if w = 0 then σ 0 7 else if 0 < σ 0 10 then (if 0 < σ 0 11 then -9 else σ 0 7) else σ 0 7, σ)
def rd0M (σ : Mem) (t : Int32) : Mem := mU (mU (mU (mU (mU σ 0 9 t) 0 8 (σ 4 (ix t))) 0 7 0) 0 10 0) 0 11 0
def n_reads (σ : Mem) (t : Int32) : Int32 × Mem := rdM 63 (rd0M σ t) 1
def n_fault (σ : Mem) (t : Int32) : Int32 × Mem := if a_in t 4 = true then (if σ 4 (ix t) < 0 then (-3, n_found σ 1) else n_reads σ t) else (-1, σ)
def cp3 (σ : Mem) (j : Nat) : Mem := mF (mF (mF σ 6 j (σ 15)) 7 j (σ 16)) 8 j (σ 17)
def cp2 (σ : Mem) (j : Nat) : Mem := mF (mF σ 9 j (σ 18)) 10 j (σ 19)
def nvM (σ : Mem) : Mem := w_begins (cp2 (cp3 (mU (mU σ 0 4 (σ 0 10)) 0 5 (σ 0 11)) 4) 5)
def n_nave (σ : Mem) (t : Int32) : Int32 × Mem := if a_in t 4 = true then (if σ 4 (ix t) < 0 then (-3, n_found σ 1) else if (n_reads σ t).1 = -9 then ((n_reads σ t).2 0 10, nvM (n_reads σ t).2) else (-4, (n_reads σ t).2)) else (-1, σ)
/-- what the reader's counters may be -/
def RH (σ : Mem) : Prop := 0 ≤ (σ 0 7).toInt ∧ (σ 0 7).toInt ≤ 60 ∧ (σ 0 8).toInt ≤ 60 ∧ 0 ≤ (σ 0 9).toInt ∧ (σ 0 9).toInt ≤ 3 ∧ 0 ≤ (σ 0 10).toInt ∧ (σ 0 10).toInt ≤ 4 ∧ 0 ≤ (σ 0 11).toInt ∧ (σ 0 11).toInt ≤ 5
def RQ (σ : Mem) : Prop := RH σ ∧ 1 ≤ (σ 0 7).toInt
theorem RH_eq {σ τ : Mem} (h : RH σ) (e : τ 0 = σ 0) : RH τ := by unfold RH; rw [e]; exact h
theorem RQ_eq {σ τ : Mem} (h : RQ σ) (e : τ 0 = σ 0) : RQ τ := by refine ⟨RH_eq h.1 e, ?_⟩; rw [e]; exact h.2
theorem inc7_7 (σ : Mem) : inc7 σ 0 7 = σ 0 7 + 1 := by simp [inc7, mU_e]
theorem inc7_n (σ : Mem) {j : Nat} (h : j ≠ 7) : inc7 σ 0 j = σ 0 j := by simp [inc7, mU_e, h]
theorem inc7_i {σ : Mem} (h : RH σ) : (inc7 σ 0 7).toInt = (σ 0 7).toInt + 1 := by
  rw [inc7_7]; exact i_succ (n := 61) h.1 (by have := h.2.1; omega) (by decide)
theorem RQ_inc {σ : Mem} (h : RH σ) (hlt : (σ 0 7).toInt < (σ 0 8).toInt) : RQ (inc7 σ) := by
  have h1 := inc7_i h
  obtain ⟨q1, q2, q3, q4, q5, q6, q7, q8, q9⟩ := h
  unfold RQ RH
  rw [h1, inc7_n _ (by decide), inc7_n _ (by decide), inc7_n _ (by decide), inc7_n _ (by decide)]
  omega
theorem fig_lt {σ : Mem} {least : Int32} (hl : 0 ≤ least.toInt ∧ least.toInt ≤ 1) (h : b_fig σ least = true) : (σ 0 7).toInt < (σ 0 8).toInt := by
  have h1 := bin_t h
  rw [Int32.toInt_toInt64] at h1
  have h2 : (48 + least).toInt = 48 + least.toInt := by
    rw [Int32.toInt_add, show (48 : Int32).toInt = 48 by decide]
    exact Int.bmod_eq_of_le (by omega) (by omega)
  by_cases h3 : σ 0 7 < σ 0 8
  · exact i_lt h3
  · rw [b_here, if_neg h3, h2, show (-1 : Int32).toInt = -1 by decide] at h1
    omega
theorem w_fig_t {σ : Mem} {least : Int32} (h : b_fig σ least = true) : w_fig σ least = inc7 σ := if_pos h
theorem w_fig_f {σ : Mem} {least : Int32} (h : ¬ b_fig σ least = true) : w_fig σ least = σ := if_neg h
theorem w_fig_n {σ : Mem} {least : Int32} {j : Nat} (h : j ≠ 7) : w_fig σ least 0 j = σ 0 j := by
  unfold w_fig; split
  · exact inc7_n _ h
  · rfl
theorem w_fig_c {σ : Mem} {least : Int32} {q : Nat} (h : q ≠ 0) : w_fig σ least q = σ q := by
  unfold w_fig; split
  · exact mU_n _ _ _ h
  · rfl
theorem RQ_fig {σ : Mem} {least : Int32} (hl : 0 ≤ least.toInt ∧ least.toInt ≤ 1) (h : RH σ) (b : b_fig σ least = true) : RQ (w_fig σ least) := by
  rw [w_fig_t b]; exact RQ_inc h (fig_lt hl b)
theorem RH_fig {σ : Mem} {least : Int32} (hl : 0 ≤ least.toInt ∧ least.toInt ≤ 1) (h : RH σ) : RH (w_fig σ least) := by
  by_cases b : b_fig σ least = true
  · exact (RQ_fig hl h b).1
  · rw [w_fig_f b]; exact h
theorem fig_at {σ : Mem} {least : Int32} (h : RH σ) (b : b_fig σ least = true) : (w_fig σ least 0 7).toInt = (σ 0 7).toInt + 1 := by
  rw [w_fig_t b]; exact inc7_i h
theorem l01 : (0 : Int) ≤ (0 : Int32).toInt ∧ (0 : Int32).toInt ≤ 1 := by decide
theorem l11 : (0 : Int) ≤ (1 : Int32).toInt ∧ (1 : Int32).toInt ≤ 1 := by decide
theorem RH_7 {σ : Mem} {v : Int32} (h : RH σ) (h0 : 0 ≤ v.toInt) (h1 : v.toInt ≤ 60) : RH (mU σ 0 7 v) := by
  obtain ⟨q1, q2, q3, q4, q5, q6, q7, q8, q9⟩ := h
  simp only [RH, mU_e, if_true]
  simp
  omega
theorem RH_mU {σ : Mem} {o j : Nat} {v : Int32} (h : RH σ) (ho : 0 ≠ o) : RH (mU σ o j v) := RH_eq h (mU_n _ _ _ ho)
theorem RQ_mU {σ : Mem} {o j : Nat} {v : Int32} (h : RQ σ) (ho : 0 ≠ o) : RQ (mU σ o j v) := RQ_eq h (mU_n _ _ _ ho)
theorem RH_str {σ : Mem} (h : RH σ) : RH (w_str σ) := by
  unfold w_str
  have h1 := RH_fig l01 h
  have h2 := RH_fig l01 h1
  repeat' split
  · exact RH_7 h2 h.1 h.2.1
  · exact RH_mU h2 (by decide)
  · exact h2
  · exact h1
theorem str_at {σ : Mem} (h : RH σ) (b : b_str σ = true) : (w_str σ 0 7).toInt = (σ 0 7).toInt + 2 ∧ ∀ j, j ≠ 7 → w_str σ 0 j = σ 0 j := by
  unfold b_str st1 st2 at b
  simp only [Bool.and_eq_true, Bool.not_eq_true', decide_eq_false_iff_not] at b
  unfold w_str
  rw [if_pos b.1, if_pos b.2.1, if_neg b.2.2, mU_n _ _ _ (by decide)]
  have h1 := fig_at h b.1
  have h2 := fig_at (RH_fig l01 h) b.2.1
  exact ⟨by omega, fun j hj => by rw [w_fig_n hj, w_fig_n hj]⟩
theorem RH_10 {σ : Mem} {v : Int32} (h : RH σ) (h0 : 0 ≤ v.toInt) (h1 : v.toInt ≤ 4) : RH (mU σ 0 10 v) := by
  obtain ⟨q1, q2, q3, q4, q5, q6, q7, q8, q9⟩ := h
  simp only [RH, mU_e, if_true]
  simp
  omega
theorem RH_11 {σ : Mem} {v : Int32} (h : RH σ) (h0 : 0 ≤ v.toInt) (h1 : v.toInt ≤ 5) : RH (mU σ 0 11 v) := by
  obtain ⟨q1, q2, q3, q4, q5, q6, q7, q8, q9⟩ := h
  simp only [RH, mU_e, if_true]
  simp
  omega
theorem RH_zp1 {σ : Mem} (h : RH σ) (hlt : (σ 0 7).toInt < (σ 0 8).toInt) : RH (zp1 σ) := RH_fig l11 (RQ_inc h hlt).1
theorem RH_zp3 {σ : Mem} (h : RH σ) (hlt : (σ 0 7).toInt < (σ 0 8).toInt) : RH (zp3 σ) := RH_mU (RH_mU (RH_zp1 h hlt) (by decide)) (by decide)
theorem zp3_0 (σ : Mem) : zp3 σ 0 = zp1 σ 0 := by unfold zp3 zp2; rw [mU_n _ _ _ (by decide), mU_n _ _ _ (by decide)]
theorem zp1_n (σ : Mem) {j : Nat} (h : j ≠ 7) : zp1 σ 0 j = σ 0 j := by unfold zp1; rw [w_fig_n h, inc7_n _ h]
theorem rp_ok {σ : Mem} (h : RH σ) (hlt : (σ 0 7).toInt < (σ 0 8).toInt) : RH (w_rp σ) ∧ (b_rp σ = true → (σ 0 7).toInt + 1 ≤ (w_rp σ 0 7).toInt) := by
  have h3 := RH_zp3 h hlt
  unfold w_rp b_rp
  by_cases c1 : σ 0 10 = 4
  · rw [if_pos c1]; exact ⟨h, fun b => by simp [c1] at b⟩
  · rw [if_neg c1]
    by_cases c2 : b_fig (inc7 σ) 1 = true
    · rw [if_pos c2]
      have h4 : (zp3 σ 0 7).toInt = (σ 0 7).toInt + 2 := by
        rw [zp3_0]
        have := fig_at (RQ_inc h hlt).1 c2
        have := inc7_i h
        unfold zp1; omega
      by_cases c3 : b_str (zp3 σ) = true
      · rw [if_pos c3]
        obtain ⟨e1, e2⟩ := str_at h3 c3
        have e3 : w_str (zp3 σ) 0 10 = σ 0 10 := by rw [e2 _ (by decide), zp3_0, zp1_n _ (by decide)]
        have k4 : ¬ (σ 0 10).toInt = 4 := fun e => c1 (i_eqI (e.trans (by decide)))
        have e4 := i_succ (x := σ 0 10) (n := 4) h.2.2.2.2.2.1 (by have := h.2.2.2.2.2.2.1; omega) (by decide)
        have b1 := h.2.2.2.2.2.1
        have b2 := h.2.2.2.2.2.2.1
        refine ⟨?_, fun _ => ?_⟩
        · refine RH_10 (RH_str h3) ?_ ?_ <;> rw [e3, e4] <;> omega
        · rw [show mU (w_str (zp3 σ)) 0 10 (w_str (zp3 σ) 0 10 + 1) 0 7 = w_str (zp3 σ) 0 7 by simp [mU_e]]; omega
      · rw [if_neg c3]; exact ⟨RH_str h3, fun b => by simp [c3] at b⟩
    · rw [if_neg c2]; exact ⟨RH_zp1 h hlt, fun b => by simp [c2] at b⟩
theorem RH_zo2 {σ : Mem} (h : RH σ) (hlt : (σ 0 7).toInt < (σ 0 8).toInt) : RH (zo2 σ) := RH_mU (RH_zp1 h hlt) (by decide)
theorem zo3_n (σ : Mem) {j : Nat} (h : j ≠ 7) : zo3 σ 0 j = σ 0 j := by
  unfold zo3 zo2; rw [w_fig_n h, mU_n _ _ _ (by decide)]; exact zp1_n _ h
theorem ro_ok {σ : Mem} (h : RH σ) (hlt : (σ 0 7).toInt < (σ 0 8).toInt) : RH (w_ro σ) ∧ (b_ro σ = true → (σ 0 7).toInt + 1 ≤ (w_ro σ 0 7).toInt) := by
  have h2 := RH_zo2 h hlt
  have h3 : RH (zo3 σ) := RH_fig l01 h2
  unfold w_ro b_ro
  by_cases c1 : σ 0 11 = 5
  · rw [if_pos c1]; exact ⟨h, fun b => by simp [c1] at b⟩
  · rw [if_neg c1]
    by_cases c2 : b_fig (inc7 σ) 1 = true
    · rw [if_pos c2]
      have h4 : (zo2 σ 0 7).toInt = (σ 0 7).toInt + 2 := by
        have := fig_at (RQ_inc h hlt).1 c2
        have := inc7_i h
        unfold zo2 zo1; rw [mU_n _ _ _ (by decide)]; omega
      by_cases c3 : b_fig (zo2 σ) 0 = true
      · rw [if_pos c3]
        have e1 := fig_at h2 c3
        have k4 : ¬ (σ 0 11).toInt = 5 := fun e => c1 (i_eqI (e.trans (by decide)))
        have b1 := h.2.2.2.2.2.2.2.1
        have b2 := h.2.2.2.2.2.2.2.2
        have e4 := i_succ (x := σ 0 11) (n := 5) b1 (by omega) (by decide)
        have e3 : zo3 σ 0 11 = σ 0 11 := zo3_n _ (by decide)
        refine ⟨?_, fun _ => ?_⟩
        · refine RH_11 (RH_mU h3 (by decide)) ?_ ?_ <;> rw [e3, e4] <;> omega
        · rw [show mU (zo4 σ) 0 11 (zo3 σ 0 11 + 1) 0 7 = zo3 σ 0 7 by simp [mU_e, zo4]]; unfold zo3; omega
      · rw [if_neg c3]; exact ⟨h3, fun b => by simp [c3] at b⟩
    · rw [if_neg c2]; exact ⟨RH_zp1 h hlt, fun b => by simp [c2] at b⟩
theorem RH_0 {σ : Mem} {t : Int32} (h0 : 0 ≤ t.toInt) (h1 : t.toInt ≤ 3) (hz : (σ 4 (ix t)).toInt ≤ 60) : RH (rd0M σ t) := by
  unfold RH rd0M
  simp [mU_e]
  omega
theorem cp3_s (σ : Mem) (j : Nat) : mU (mU (mU (cp3 σ j) 6 j (cp3 σ j 15 j)) 7 j (mU (cp3 σ j) 6 j (cp3 σ j 15 j) 16 j)) 8 j (mU (mU (cp3 σ j) 6 j (cp3 σ j 15 j)) 7 j (mU (cp3 σ j) 6 j (cp3 σ j 15 j) 16 j) 17 j) = cp3 σ (j + 1) := by
  have h1 : cp3 σ j 15 j = σ 15 j := by unfold cp3; rw [mF_n _ _ _ (by decide), mF_n _ _ _ (by decide), mF_n _ _ _ (by decide)]
  have h2 : mU (cp3 σ j) 6 j (cp3 σ j 15 j) 16 j = σ 16 j := by unfold cp3; rw [mU_n _ _ _ (by decide), mF_n _ _ _ (by decide), mF_n _ _ _ (by decide), mF_n _ _ _ (by decide)]
  have h3 : ∀ v, mU (mU (cp3 σ j) 6 j (cp3 σ j 15 j)) 7 j v 17 j = σ 17 j := fun v => by unfold cp3; rw [mU_n _ _ _ (by decide), mU_n _ _ _ (by decide), mF_n _ _ _ (by decide), mF_n _ _ _ (by decide), mF_n _ _ _ (by decide)]
  rw [h3, h2, h1]
  exact mF3_s _ _ _ _ _ (by decide) (by decide) (by decide) rfl rfl rfl
theorem cp2_s (σ : Mem) (j : Nat) : mU (mU (cp2 σ j) 9 j (cp2 σ j 18 j)) 10 j (mU (cp2 σ j) 9 j (cp2 σ j 18 j) 19 j) = cp2 σ (j + 1) := by
  have h1 : cp2 σ j 18 j = σ 18 j := by unfold cp2; rw [mF_n _ _ _ (by decide), mF_n _ _ _ (by decide)]
  have h2 : ∀ v, mU (cp2 σ j) 9 j v 19 j = σ 19 j := fun v => by unfold cp2; rw [mU_n _ _ _ (by decide), mF_n _ _ _ (by decide), mF_n _ _ _ (by decide)]
  rw [h2, h1]
  exact mF2_s _ _ _ _ (by decide) rfl rfl
theorem w_begins_0 (σ : Mem) {j : Nat} (h : j ≠ 6) : w_begins σ 0 j = σ 0 j := by
  unfold w_begins; rw [w_kept_n _ (by decide), mU_e, if_pos rfl, if_neg h, mF_n _ _ _ (by decide)]
theorem nv_4 (σ : Mem) : w_begins (cp2 (cp3 (mU (mU σ 0 4 (σ 0 10)) 0 5 (σ 0 11)) 4) 5) 0 4 = σ 0 10 := by
  rw [w_begins_0 _ (by decide)]
  simp [cp2, cp3, mF_e, mU_e]
