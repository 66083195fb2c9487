/-! the model's world: numbers, range writes, long comparisons -/
theorem nadd {a b : Int32} {A B : Nat} (ha : a = nI A) (hb : b = nI B) : a + b = nI (A + B) := by rw [ha, hb, nI_add]
theorem nmul {a b : Int32} {A B : Nat} (ha : a = nI A) (hb : b = nI B) : a * b = nI (A * B) := by rw [ha, hb]; exact (Int32.ofNat_mul A B).symm
theorem nsub {a b : Int32} {A B : Nat} (ha : a = nI A) (hb : b = nI B) (h : B ≤ A) : a - b = nI (A - B) := by
  rw [ha, hb]
  obtain ⟨C, rfl⟩ : ∃ C, A = C + B := ⟨A - B, by omega⟩
  rw [← nI_add, Int32.add_sub_cancel, Nat.add_sub_cancel]
def mG (σ : Mem) (a b n : Nat) (g : Nat → Int32) : Mem := mA σ a (fun q => if b ≤ q ∧ q < b + n then g (q - b) else σ a q)
theorem mG_e (σ : Mem) (a b n : Nat) (g : Nat → Int32) (q k : Nat) : mG σ a b n g q k = if q = a then (if b ≤ k ∧ k < b + n then g (k - b) else σ a k) else σ q k := mA_e _ _ _ _ _
theorem mG_n (σ : Mem) {a q : Nat} (b n : Nat) (g : Nat → Int32) (h : q ≠ a) : mG σ a b n g q = σ q := mA_n _ _ h
theorem mG_0 (σ : Mem) (a b : Nat) (g : Nat → Int32) : σ = mG σ a b 0 g := mem_ext fun q k => by
  rw [mG_e]
  by_cases h : q = a
  · rw [if_pos h, if_neg (by omega), h]
  · rw [if_neg h]
theorem mG_s (σ : Mem) (a b j : Nat) (g : Nat → Int32) {v : Int32} (hv : v = g j) : mU (mG σ a b j g) a (b + j) v = mG σ a b (j + 1) g := mem_ext fun q k => by
  rw [mU_e, mG_e, mG_e, hv]
  by_cases h : q = a
  · rw [if_pos h, if_pos h, if_pos h]
    by_cases hk : k = b + j
    · rw [if_pos hk, if_pos (by omega), show k - b = j by omega]
    · rw [if_neg hk]
      by_cases h1 : b ≤ k ∧ k < b + j
      · rw [if_pos h1, if_pos (by omega)]
      · rw [if_neg h1, if_neg (by omega)]
  · rw [if_neg h, if_neg h, if_neg h]
theorem mG_at (σ : Mem) (a b j : Nat) (g : Nat → Int32) : mG σ a b j g a (b + j) = σ a (b + j) := by rw [mG_e, if_pos rfl, if_neg (by omega)]
theorem mG_k (σ : Mem) (a b j : Nat) (g : Nat → Int32) (hv : σ a (b + j) = g j) : mG σ a b j g = mG σ a b (j + 1) g := mem_ext fun q k => by
  rw [mG_e, mG_e]
  by_cases h : q = a
  · rw [if_pos h, if_pos h]
    by_cases hk : k = b + j
    · rw [if_neg (by omega), if_pos (by omega), show k - b = j by omega, hk, hv]
    · by_cases h1 : b ≤ k ∧ k < b + j
      · rw [if_pos h1, if_pos (by omega)]
      · rw [if_neg h1, if_neg (by omega)]
  · rw [if_neg h, if_neg h]
section XL
variable {p : Program} {l : Launch} {e : Env} {R : Room} {s : State} {m : MethodId} {args : Array Value} {below : List Frame} {meth : Method} {c : Code} {H : Heap} {locs : List Loc} {cells slots : Nat} {Q : State → Prop}
variable {cc : ByteArray} {pc : Nat} {ls : Array Slot} {rest : List Value}
theorem l_if_lt (hx : p.tables.exec = Jvm.exec) (hb : c.code = cc) {x y : Int64} {off : Int} {tgt : Nat} (hdg : decode cc pc = .ok (.ifCond .lt off, 3)) (ht : (pc : Int) + off = (tgt : Int))
    (kt : x < y → W p l e R s m args below meth c H locs cells slots Q (F0 m tgt ls rest)) (kf : ¬ x < y → W p l e R s m args below meth c H locs cells slots Q (F0 m (pc + 3) ls rest)) : W p l e R s m args below meth c H locs cells slots Q (F0 m pc ls (.int (lg_cmp x y) :: rest)) :=
  lv_if_lt hx hb hdg ht (fun h => kt ((lg_cmp_lt x y).mp h)) (fun h => kf (fun q => h ((lg_cmp_lt x y).mpr q)))
theorem l_if_gt (hx : p.tables.exec = Jvm.exec) (hb : c.code = cc) {x y : Int64} {off : Int} {tgt : Nat} (hdg : decode cc pc = .ok (.ifCond .gt off, 3)) (ht : (pc : Int) + off = (tgt : Int))
    (kt : y < x → W p l e R s m args below meth c H locs cells slots Q (F0 m tgt ls rest)) (kf : ¬ y < x → W p l e R s m args below meth c H locs cells slots Q (F0 m (pc + 3) ls rest)) : W p l e R s m args below meth c H locs cells slots Q (F0 m pc ls (.int (lg_cmp x y) :: rest)) :=
  lv_if_gt hx hb hdg ht (fun h => kt ((lg_cmp_gt x y).mp h)) (fun h => kf (fun q => h ((lg_cmp_gt x y).mpr q)))
theorem l_if_le (hx : p.tables.exec = Jvm.exec) (hb : c.code = cc) {x y : Int64} {off : Int} {tgt : Nat} (hdg : decode cc pc = .ok (.ifCond .le off, 3)) (ht : (pc : Int) + off = (tgt : Int))
    (kt : ¬ y < x → W p l e R s m args below meth c H locs cells slots Q (F0 m tgt ls rest)) (kf : y < x → W p l e R s m args below meth c H locs cells slots Q (F0 m (pc + 3) ls rest)) : W p l e R s m args below meth c H locs cells slots Q (F0 m pc ls (.int (lg_cmp x y) :: rest)) :=
  lv_if_le hx hb hdg ht (fun h => kt (fun q => by have h1 := (lg_cmp_gt x y).mpr q; exact u_le h h1)) (fun h => kf ((lg_cmp_gt x y).mp (u_nle h)))
end XL
def b_in (x a b : Int64) : Bool := !decide (x < a) && !decide (b < x)
theorem bin_t {x : Int32} {a b : Int64} (h : b_in x.toInt64 a b = true) : a.toInt ≤ x.toInt ∧ x.toInt ≤ b.toInt := by
  simp only [b_in, Bool.and_eq_true, Bool.not_eq_true', decide_eq_false_iff_not, Int64.lt_iff_toInt_lt, Int32.toInt_toInt64] at h
  omega
theorem bin_f {x : Int32} {a b : Int64} (h : b_in x.toInt64 a b = false) : ¬ (a.toInt ≤ x.toInt ∧ x.toInt ≤ b.toInt) := by
  intro q
  have : b_in x.toInt64 a b = true := by
    simp only [b_in, Bool.and_eq_true, Bool.not_eq_true', decide_eq_false_iff_not, Int64.lt_iff_toInt_lt, Int32.toInt_toInt64]
    omega
  rw [this] at h; cases h
theorem bin_in {x : Int32} {a b : Int64} {n : Int32} (ha : a.toInt = 0) (hb : b.toInt = n.toInt - 1) : b_in x.toInt64 a b = a_in x n := by
  apply Bool.eq_iff_iff.mpr
  simp only [b_in, a_in, Bool.and_eq_true, Bool.not_eq_true', decide_eq_false_iff_not, decide_eq_true_eq, Int64.lt_iff_toInt_lt, Int32.lt_iff_toInt_lt, Int32.toInt_toInt64, ha, hb]
  rw [show (0 : Int32).toInt = 0 by decide]
  omega
def b_has (x i : Int32) : Bool := decide ((x >>> (i &&& 31)) &&& 1 = 1)
/-- the places of an array of 12, 240, 480, 1479 .. of the model -/
def PM (σ : Mem) : Prop := 0 ≤ (σ 0 4).toInt ∧ (σ 0 4).toInt ≤ 4 ∧ 0 ≤ (σ 0 5).toInt ∧ (σ 0 5).toInt ≤ 5
theorem PM_pl {σ : Mem} (h : PM σ) : σ 0 4 = nI (ix (σ 0 4)) ∧ ix (σ 0 4) ≤ 4 ∧ (σ 0 4).toInt = (ix (σ 0 4) : Int) := by
  have h0 := h.1
  have h1 := ix_toInt h0
  exact ⟨ix_nI h0, by have := h.2.1; omega, h1.symm⟩
theorem PM_pe {σ : Mem} (h : PM σ) : σ 0 5 = nI (ix (σ 0 5)) ∧ ix (σ 0 5) ≤ 5 ∧ (σ 0 5).toInt = (ix (σ 0 5) : Int) := by
  have h0 := h.2.2.1
  have h1 := ix_toInt h0
  exact ⟨ix_nI h0, by have := h.2.2.2; omega, h1.symm⟩
theorem PM_eq {σ τ : Mem} (h : PM σ) (e4 : τ 0 4 = σ 0 4) (e5 : τ 0 5 = σ 0 5) : PM τ := by unfold PM; rw [e4, e5]; exact h
/-- row sizes of the model -/
def RM (σ : Mem) : Prop := (∀ r, r < 6 → (σ 2 r).toInt ≤ 40) ∧ (∀ t, t < 4 → (σ 4 t).toInt ≤ 60)
def pM (σ : Mem) : PT := fun q => match q with | 0 => fun j => σ 0 (if j = 0 then 4 else 5) | 1 => σ 6 | 2 => σ 7 | 3 => σ 8 | 4 => σ 9 | 5 => σ 10 | _ => fun _ => 0
def sA (σ : Mem) (a b : Nat) : PT := fun q => match q with | 0 => fun j => σ a (b + (if j = 0 then 4 else if j = 1 then 10 else 11)) | 1 => fun k => σ a (b + k) | 2 => fun i => σ a (b + (5 + i)) | _ => fun _ => 0
def sM (σ : Mem) (a : Nat) : PT := fun q => match q with | 0 => fun j => σ a (if j = 0 then 4 else if j = 1 then 10 else 11) | 1 => fun k => σ a k | 2 => fun i => σ a (5 + i) | _ => fun _ => 0
/-! rows, texts -/
def n_found (σ : Mem) (f : Int32) : Mem := mU (mU σ 0 3 f) 5 (ix f) (σ 5 (ix f) + 1)
def n_row (σ : Mem) (r n : Int32) : Int32 × Mem := if a_in r 6 = true then (if 40 < n then (-1, σ) else if n < 0 then (-3, n_found σ 5) else (n, mG (mU σ 2 (ix r) n) 1 (40 * ix r) 40 (fun _ => 0))) else (-1, σ)
def n_lay (σ : Mem) (r i v : Int32) : Int32 × Mem := if a_in r 6 = true then (if σ 2 (ix r) < 0 then (-3, n_found σ 1) else if b_in i.toInt64 0 (σ 2 (ix r) - 1).toInt64 = true then (1, mU (mU σ 1 (40 * ix r + ix i) v) 0 0 (σ 1 (40 * ix r + ix i))) else (-3, n_found σ 2)) else (-1, σ)
def n_at (σ : Mem) (r i : Int32) : Int32 × Mem := if a_in r 6 = true then (if σ 2 (ix r) < 0 then (-3, n_found σ 1) else if b_in i.toInt64 0 (σ 2 (ix r) - 1).toInt64 = true then (1, mU σ 0 0 (σ 1 (40 * ix r + ix i))) else (-3, n_found σ 2)) else (-1, σ)
def n_tear (σ : Mem) (r : Int32) : Int32 × Mem := if a_in r 6 = true then (if σ 2 (ix r) < 0 then (-3, n_found σ 1) else (1, mU σ 2 (ix r) (-1))) else (-1, σ)
def cpP (i jj n : Int32) (j : Nat) : Nat := if i < jj then ix n - 1 - j else j
def w_cp (σ : Mem) (src dst : Nat) (i jj n : Int32) : Nat → Mem
  | 0 => σ
  | j + 1 => mU (w_cp σ src dst i jj n j) 1 (dst + cpP i jj n j) (w_cp σ src dst i jj n j 1 (src + cpP i jj n j))
theorem w_cp_n (σ : Mem) (src dst : Nat) (i jj n : Int32) {q : Nat} (h : q ≠ 1) : ∀ j, w_cp σ src dst i jj n j q = σ q
  | 0 => rfl
  | j + 1 => (mU_n _ _ _ h).trans (w_cp_n σ src dst i jj n h j)
def n_copy (σ : Mem) (r i to jj n : Int32) : Int32 × Mem := if a_in r 6 = true then (if a_in to 6 = true then (if n < 0 then (-3, n_found σ 5) else if σ 2 (ix r) < 0 then (-3, n_found σ 1) else if σ 2 (ix to) < 0 then (-3, n_found σ 1) else
  if i < 0 then (-3, n_found σ 2) else if jj < 0 then (-3, n_found σ 2) else if (σ 2 (ix r)).toInt64 < i.toInt64 + n.toInt64 then (-3, n_found σ 2) else if (σ 2 (ix to)).toInt64 < jj.toInt64 + n.toInt64 then (-3, n_found σ 2) else (1, w_cp σ (40 * ix r + ix i) (40 * ix to + ix jj) i jj n (ix n))) else (-1, σ)) else (-1, σ)
def n_mean (σ : Mem) (r : Int32) : Int32 × Mem := if a_in r 6 = true then (if σ 2 (ix r) < 0 then (-3, n_found σ 1) else if σ 2 (ix r) = 0 then (-3, n_found σ 4) else (1, mU σ 0 0 (sumL (fun i => σ 1 (40 * ix r + i)) (ix (σ 2 (ix r))) / (σ 2 (ix r)).toInt64).toInt32)) else (-1, σ)
def n_text (σ : Mem) (t n : Int32) : Int32 × Mem := if a_in t 4 = true then (if 60 < n then (-1, σ) else if n < 0 then (-3, n_found σ 5) else (n, mG (mU σ 4 (ix t) n) 3 (60 * ix t) 60 (fun _ => 32))) else (-1, σ)
def n_put (σ : Mem) (t i v : Int32) : Int32 × Mem := if a_in t 4 = true then (if σ 4 (ix t) < 0 then (-3, n_found σ 1) else if b_in i.toInt64 0 (σ 4 (ix t) - 1).toInt64 = true then (σ 3 (60 * ix t + ix i) + 1000, mU σ 3 (60 * ix t + ix i) v.toInt8.toInt32) else (-3, n_found σ 2)) else (-1, σ)
def bg_f (k : Nat) : Int32 := if b_in (nI k).toInt64 5 9 = true then -9 else 0
def w_kept (σ : Mem) : Nat → Mem
  | 0 => σ
  | k + 1 => mU (w_kept σ k) 14 (493 * k) (-1)
theorem w_kept_n (σ : Mem) {q : Nat} (h : q ≠ 14) : ∀ k, w_kept σ k q = σ q
  | 0 => rfl
  | k + 1 => (mU_n _ _ _ h).trans (w_kept_n σ h k)
def w_begins (σ : Mem) : Mem := w_kept (mU (mF σ 11 12 bg_f) 0 6 0) 3
def b_clr : Nat → Int32 → Bool
  | 0, x => decide (x = 0)
  | f + 1, x => if x = 0 then true else b_clr f (x &&& (x - 1))
def b_cnt : Nat → Int32 → Int32
  | 0, _ => 0
  | f + 1, x => if x = 0 then 0 else 1 + b_cnt f (x &&& (x - 1))
theorem ll_0 : (0 : Int64).toInt = 0 := by decide
theorem ll_1 : (1 : Int64).toInt = 1 := by decide
theorem ll_2 : (2 : Int64).toInt = 2 := by decide
theorem ll_3 : (3 : Int64).toInt = 3 := by decide
theorem ll_4 : (4 : Int64).toInt = 4 := by decide
theorem ll_5 : (5 : Int64).toInt = 5 := by decide
theorem ll_9 : (9 : Int64).toInt = 9 := by decide
theorem ll_12 : (12 : Int64).toInt = 12 := by decide
theorem ll_20 : (20 : Int64).toInt = 20 := by decide
theorem ll_40 : (40 : Int64).toInt = 40 := by decide
theorem ll_57 : (57 : Int64).toInt = 57 := by decide
theorem ll_99 : (99 : Int64).toInt = 99 := by decide
theorem ll_2147483646 : (2147483646 : Int64).toInt = 2147483646 := by decide
theorem sub1_i {x : Int32} (h : 0 ≤ x.toInt) : (x - 1).toInt = x.toInt - 1 := by
  have h7 : x.toInt < 2 ^ 31 := Int32.toInt_lt x
  rw [Int32.toInt_sub, show (1 : Int32).toInt = 1 by decide]
  exact Int.bmod_eq_of_le (by omega) (by omega)
theorem isPole_M {σ : Mem} (h : PM σ) (k : Int32) : b_in k.toInt64 0 (σ 0 4 - 1).toInt64 = a_isPole (pM σ) k := by
  apply Bool.eq_iff_iff.mpr
  simp only [b_in, a_isPole, Bool.and_eq_true, Bool.not_eq_true', decide_eq_false_iff_not, decide_eq_true_eq, Int64.lt_iff_toInt_lt, Int32.lt_iff_toInt_lt, Int32.le_iff_toInt_le, Int32.toInt_toInt64, ll_0, sub1_i h.1]
  have h1 := h.2.1
  have e : (pM σ 0 0).toInt = (σ 0 4).toInt := rfl
  rw [show (0 : Int32).toInt = 0 by decide, show (4 : Int32).toInt = 4 by decide, e]
  omega
theorem isOne_M {σ : Mem} (h : PM σ) (k : Int32) : b_in k.toInt64 0 (σ 0 5 - 1).toInt64 = a_isOne (pM σ) k := by
  apply Bool.eq_iff_iff.mpr
  simp only [b_in, a_isOne, Bool.and_eq_true, Bool.not_eq_true', decide_eq_false_iff_not, decide_eq_true_eq, Int64.lt_iff_toInt_lt, Int32.lt_iff_toInt_lt, Int32.le_iff_toInt_le, Int32.toInt_toInt64, ll_0, sub1_i h.2.2.1]
  have h1 := h.2.2.2
  have e : (pM σ 0 1).toInt = (σ 0 5).toInt := rfl
  rw [show (0 : Int32).toInt = 0 by decide, show (5 : Int32).toInt = 5 by decide, e]
  omega
theorem cpP_lt (i jj : Int32) {n : Int32} {j : Nat} (h : j < ix n) : cpP i jj n j < ix n := by
  unfold cpP; split <;> omega
theorem cp_x {i jj n x : Int32} {j : Nat} (hn : 0 ≤ n.toInt) (h : j < ix n) (e : x = if i < jj then n - 1 - nI j else nI j) : x = nI (cpP i jj n j) := by
  subst e
  unfold cpP
  split
  · exact nsub (nsub (ix_nI hn) (rfl : (1 : Int32) = nI 1) (by omega)) rfl (by omega)
  · rfl
theorem ladd_le {a b c : Int32} (h : ¬ c.toInt64 < a.toInt64 + b.toInt64) : a.toInt + b.toInt ≤ c.toInt := by
  rw [Int64.lt_iff_toInt_lt, Int64.toInt_add, Int32.toInt_toInt64, Int32.toInt_toInt64, Int32.toInt_toInt64] at h
  have h1 : a.toInt < 2 ^ 31 := Int32.toInt_lt a
  have h2 : b.toInt < 2 ^ 31 := Int32.toInt_lt b
  have h3 : -2 ^ 31 ≤ a.toInt := Int32.le_toInt a
  have h4 : -2 ^ 31 ≤ b.toInt := Int32.le_toInt b
  rw [Int.bmod_eq_of_le (by omega) (by omega)] at h
  omega
