/-! the model: plans, scaffolds, deeds -/
def PB (P : PT) : Prop := 0 ≤ (P 0 0).toInt ∧ (P 0 0).toInt ≤ 4 ∧ 0 ≤ (P 0 1).toInt ∧ (P 0 1).toInt ≤ 5
theorem PB_PM {σ : Mem} {P : PT} (hb : PB P) (h : pM σ = P) : PM σ := by subst h; exact hb
theorem PB_pl {P : PT} (h : PB P) : P 0 0 = nI (nPl P) ∧ nPl P ≤ 4 ∧ (P 0 0).toInt = (nPl P : Int) := by
  have h0 := h.1
  have h1 := ix_toInt h0
  exact ⟨ix_nI h0, by have := h.2.1; unfold nPl; omega, h1.symm⟩
theorem PB_pe {P : PT} (h : PB P) : P 0 1 = nI (nPe P) ∧ nPe P ≤ 5 ∧ (P 0 1).toInt = (nPe P : Int) := by
  have h0 := h.2.2.1
  have h1 := ix_toInt h0
  exact ⟨ix_nI h0, by have := h.2.2.2; unfold nPe; omega, h1.symm⟩
theorem PV_4 {σ : Mem} {P : PT} (h : pM σ = P) : σ 0 4 = P 0 0 := by subst h; rfl
theorem PV_5 {σ : Mem} {P : PT} (h : pM σ = P) : σ 0 5 = P 0 1 := by subst h; rfl
theorem PV_pl {σ : Mem} {P : PT} (hb : PB P) (h : pM σ = P) : (σ 0 4).toInt = (nPl P : Int) := by rw [PV_4 h]; exact (PB_pl hb).2.2
theorem PV_pe {σ : Mem} {P : PT} (hb : PB P) (h : pM σ = P) : (σ 0 5).toInt = (nPe P : Int) := by rw [PV_5 h]; exact (PB_pe hb).2.2
theorem pM_c {σ : Mem} {P : PT} (h : pM σ = P) : σ 6 = P 1 ∧ σ 7 = P 2 ∧ σ 8 = P 3 ∧ σ 9 = P 4 ∧ σ 10 = P 5 := by subst h; exact ⟨rfl, rfl, rfl, rfl, rfl⟩
theorem pM_eq {σ τ : Mem} (h4 : τ 0 4 = σ 0 4) (h5 : τ 0 5 = σ 0 5) (h : ∀ q, 6 ≤ q → q ≤ 10 → τ q = σ q) : pM τ = pM σ := by
  funext q
  match q with
  | 0 => funext j; show τ 0 (if j = 0 then 4 else 5) = σ 0 (if j = 0 then 4 else 5); split <;> assumption
  | 1 => exact h 6 (by decide) (by decide)
  | 2 => exact h 7 (by decide) (by decide)
  | 3 => exact h 8 (by decide) (by decide)
  | 4 => exact h 9 (by decide) (by decide)
  | 5 => exact h 10 (by decide) (by decide)
  | q + 6 => rfl
theorem pM_mA (σ : Mem) {a : Nat} (f : Nat → Int32) (h : a ≠ 0 ∧ (a < 6 ∨ 10 < a)) : pM (mA σ a f) = pM σ := pM_eq (by rw [mA_n _ _ (Ne.symm h.1)]) (by rw [mA_n _ _ (Ne.symm h.1)]) (fun q _ _ => mA_n _ _ (by omega))
theorem pM_mU (σ : Mem) {a : Nat} (j : Nat) (v : Int32) (h : a ≠ 0 ∧ (a < 6 ∨ 10 < a)) : pM (mU σ a j v) = pM σ := pM_mA _ _ h
theorem pM_mF (σ : Mem) {a : Nat} (n : Nat) (g : Nat → Int32) (h : a ≠ 0 ∧ (a < 6 ∨ 10 < a)) : pM (mF σ a n g) = pM σ := pM_mA _ _ h
theorem pM_mG (σ : Mem) {a : Nat} (b n : Nat) (g : Nat → Int32) (h : a ≠ 0 ∧ (a < 6 ∨ 10 < a)) : pM (mG σ a b n g) = pM σ := pM_mA _ _ h
theorem pM_mU0 (σ : Mem) {j : Nat} (v : Int32) (h : j ≠ 4 ∧ j ≠ 5) : pM (mU σ 0 j v) = pM σ := pM_eq (by rw [mU_e, if_pos rfl, if_neg (Ne.symm h.1)]) (by rw [mU_e, if_pos rfl, if_neg (Ne.symm h.2)]) (fun q _ _ => mU_n _ _ _ (by omega))
theorem sM_eq {σ τ : Mem} {t : Nat} (h : τ t = σ t) : sM τ t = sM σ t := by
  funext q
  match q with
  | 0 => funext j; show τ t _ = σ t _; rw [h]
  | 1 => funext j; show τ t _ = σ t _; rw [h]
  | 2 => funext j; show τ t _ = σ t _; rw [h]
  | q + 3 => rfl
/-- the two arrays in which a nave at one time lies -/
def oT (t : Nat) : Prop := t = 11 ∨ t = 12
theorem oT_lt0 {t : Nat} (h : oT t) : t < 24 := by unfold oT at h; omega
def SV (P : PT) (σ : Mem) (t : Nat) : Prop := ∀ i, i < nPe P → σ t (5 + i) = -9 ∨ a_isPole P (σ t (5 + i)) = true
theorem SV_eq {P : PT} {σ τ : Mem} {t : Nat} (h : SV P σ t) (e : τ t = σ t) : SV P τ t := by unfold SV; rw [e]; exact h
theorem imax0 (x : Int32) : (if x < 0 then 0 else x) = imax 0 x := by
  unfold imax
  by_cases h : x < 0
  · rw [if_pos h, if_neg (fun q => by have := i_lt h; have := i_lt q; omega)]
  · rw [if_neg h]
    by_cases h2 : 0 < x
    · rw [if_pos h2]
    · rw [if_neg h2]; apply i_eqI; have := i_nlt h; have := i_nlt h2; omega
theorem imax0_i (x : Int32) : 0 ≤ (imax 0 x).toInt := by
  have := imax_i 0 x
  rw [show (0 : Int32).toInt = 0 by decide] at this
  split at this <;> omega
theorem imax5 (y : Int32) : (if imax 0 y < 5 then 0 else imax 0 y - 5) = imax 0 (imax 0 y - 5) := by
  have h0 := imax0_i y
  generalize imax 0 y = x at h0
  have h7 : x.toInt < 2 ^ 31 := Int32.toInt_lt x
  have e : (x - 5).toInt = x.toInt - 5 := by
    rw [Int32.toInt_sub, show (5 : Int32).toInt = 5 by decide]
    exact Int.bmod_eq_of_le (by omega) (by omega)
  have k5 : (5 : Int32).toInt = 5 := by decide
  have k0 : (0 : Int32).toInt = 0 := by decide
  unfold imax
  by_cases h : x < 5
  · have := i_lt h
    rw [if_pos h, if_neg (fun q => by have := i_lt q; omega)]
  · have := i_nlt h
    rw [if_neg h]
    by_cases h2 : 0 < x - 5
    · rw [if_pos h2]
    · rw [if_neg h2]; apply i_eqI; have := i_nlt h2; omega
theorem high_9 (P : PT) (i : Int32) : a_high P i (-9) = 0 := by
  unfold a_high; rw [if_pos (Or.inr (Or.inr (Or.inl (by decide))))]
theorem high_t {P : PT} {i k : Int32} (hi : a_isOne P i = true) (hk : a_isPole P k = true) : a_high P i k = if P 5 (ix i) < P 2 (ix k) then P 5 (ix i) else P 2 (ix k) := by
  have h1 := isOne_t hi
  have h2 := isPole_t hk
  unfold a_high
  rw [if_neg]
  rintro (h | h | h | h)
  · have := i_lt h; rw [show (0 : Int32).toInt = 0 by decide] at this; omega
  · have := i_le h; omega
  · have := i_lt h; rw [show (0 : Int32).toInt = 0 by decide] at this; omega
  · have := i_le h; omega
theorem one_nI {P : PT} (hb : PB P) {j : Nat} (h : j < nPe P) : a_isOne P (nI j) = true := by
  obtain ⟨e, h5, ht⟩ := PB_pe hb
  unfold a_isOne
  rw [e]
  simp only [Bool.and_eq_true, decide_eq_true_eq]
  exact ⟨nI_pos' (by omega), nI_lt h (by omega), by rw [show (5 : Int32) = nI 5 from rfl]; exact nI_lt (by omega) (by decide)⟩
theorem pole_nI {P : PT} (hb : PB P) {j : Nat} (h : j < nPl P) : a_isPole P (nI j) = true := by
  obtain ⟨e, h5, ht⟩ := PB_pl hb
  unfold a_isPole
  rw [e]
  simp only [Bool.and_eq_true, decide_eq_true_eq]
  exact ⟨nI_pos' (by omega), nI_lt h (by omega), by rw [show (4 : Int32) = nI 4 from rfl]; exact nI_lt (by omega) (by decide)⟩
theorem and1c (x : Int32) : x &&& 1 = 0 ∨ x &&& 1 = 1 := by
  have h : (x &&& 1).toBitVec.toNat = x.toBitVec.toNat % 2 := by
    rw [Int32.toBitVec_and, BitVec.toNat_and]; exact Nat.and_one_is_mod _
  rcases (show x.toBitVec.toNat % 2 = 0 ∨ x.toBitVec.toNat % 2 = 1 by omega) with e | e
  · left; apply Int32.toBitVec_inj.mp; apply BitVec.eq_of_toNat_eq; rw [h, e]; rfl
  · right; apply Int32.toBitVec_inj.mp; apply BitVec.eq_of_toNat_eq; rw [h, e]; rfl
theorem and1 (x : Int32) : (x &&& 1 = 1) = ¬ (x &&& 1 = 0) := by
  apply propext
  rcases and1c x with h | h
  · rw [h]; decide
  · rw [h]; decide
theorem up_has {P S : PT} {k : Int32} (hk : a_isPole P k = true) : a_isUp P S k = !b_has (S 0 0) k := by
  unfold a_isUp b_has
  rw [hk, Bool.true_and]
  by_cases h : (S 0 0 >>> (k &&& 31)) &&& 1 = 0
  · rw [decide_eq_true h, decide_eq_false (fun q => by rw [and1] at q; exact q h)]; rfl
  · rw [decide_eq_false h, decide_eq_true (by rw [and1]; exact h)]; rfl
def b_cap (w : Int32) : Int32 := if 20 < w then 20 else w
def b_wear (P S : PT) (k : Nat) : Int32 := if a_isUp P S (nI k) = true then (if b_has (y_gave P S) (nI k) = true then S 1 k else b_cap (S 1 k + (if a_sitters P S (nI k) = 0 then 1 else 2))) else S 1 k
def w_wear (P : PT) (σ : Mem) (t n : Nat) : Mem := mF σ t n (b_wear P (sM σ t))
def w_seat (P : PT) (σ : Mem) (t n : Nat) : Mem := mG (w_wear P σ t (nPl P)) t 5 n (y_seat P (sM σ t) (y_gave P (sM σ t)))
def w_year (P : PT) (σ : Mem) (t : Nat) : Mem := mU (mU (w_seat P σ t (nPe P)) t 4 (σ t 4 ||| y_gave P (sM σ t))) t 10 (σ t 10 + 1)
theorem w_year_n (P : PT) (σ : Mem) {t q : Nat} (h : q ≠ t) : w_year P σ t q = σ q := by
  unfold w_year w_seat w_wear; rw [mU_n _ _ _ h, mU_n _ _ _ h, mG_n _ _ _ _ h, mF_n _ _ _ h]
theorem pM_year (P : PT) (σ : Mem) {t : Nat} (h : oT t) : pM (w_year P σ t) = pM σ := by
  have h1 : t ≠ 0 ∧ (t < 6 ∨ 10 < t) := by unfold oT at h; omega
  exact pM_eq (by rw [w_year_n _ _ (Ne.symm h1.1)]) (by rw [w_year_n _ _ (Ne.symm h1.1)]) (fun q _ _ => w_year_n _ _ (by omega))
def w_aside (σ : Mem) : Mem := mG σ 12 0 12 (fun k => σ 11 (0 + k))
theorem w_aside_n (σ : Mem) {q : Nat} (h : q ≠ 12) : w_aside σ q = σ q := mG_n _ _ _ _ h
theorem w_aside_12 (σ : Mem) {k : Nat} (h : k < 12) : w_aside σ 12 k = σ 11 k := by
  unfold w_aside; rw [mG_e, if_pos rfl, if_pos (by omega)]; simp
theorem pM_aside (σ : Mem) : pM (w_aside σ) = pM σ := pM_mG _ _ _ _ (by decide)
def w_rem (σ : Mem) : Mem := mU (mG σ 13 (12 * ix (σ 0 6)) 12 (fun k => σ 11 (0 + k))) 0 6 (σ 0 6 + 1)
theorem w_rem_n (σ : Mem) {q : Nat} (h : q ≠ 0 ∧ q ≠ 13) : w_rem σ q = σ q := by unfold w_rem; rw [mU_n _ _ _ h.1, mG_n _ _ _ _ h.2]
theorem pM_rem (σ : Mem) : pM (w_rem σ) = pM σ := by unfold w_rem; rw [pM_mU0 _ _ (by decide), pM_mG _ _ _ _ (by decide)]
/-- answers -/
def n_pole (σ : Mem) (k what : Int32) : Int32 × Mem := if a_isPole (pM σ) k = true then (if what < 0 then (-1, σ) else if what < 8 then (1, mU σ 0 0 (a_ofPole (pM σ) (sM σ 11) k what)) else (-1, σ)) else (-1, σ)
def n_one (σ : Mem) (i what : Int32) : Int32 × Mem := if a_isOne (pM σ) i = true then (if what < 0 then (-1, σ) else if what < 4 then (1, mU σ 0 0 (a_ofOne (pM σ) (sM σ 11) i what)) else (-1, σ)) else (-1, σ)
def b_as (σ : Mem) (kind k wear : Int32) : Int32 := a_bearing kind (σ 7 (ix k)) (σ 8 (ix k)) wear
def b_mark (σ : Mem) (k kind its wear : Int32) : Int32 := if kind = 1 then b_as σ 0 k wear - its else if kind = 2 then its - b_as σ 0 k wear + 100 else if kind = 3 then b_as σ 2 k wear - its else if kind = 4 then its - b_as σ 2 k wear else its - b_as σ 1 k wear
def n_mark (σ : Mem) (k kind : Int32) : Int32 × Mem := if a_isPole (pM σ) k = true then (if b_in kind.toInt64 1 5 = true then (if a_isOf (σ 6 (ix k)) kind = true then (b_mark σ k kind (a_bearsNow (pM σ) (sM σ 11) k) (σ 11 (ix k)), σ) else (-3, n_found σ 3)) else (-1, σ)) else (-1, σ)
def n_bears (σ : Mem) (k wear : Int32) : Int32 := if a_isPole (pM σ) k = true then (if b_in wear.toInt64 0 20 = true then b_as σ (σ 6 (ix k)) k wear else -1) else -1
def u_sit (σ : Mem) (i k : Int32) : Mem := mU (w_rem σ) 11 (5 + ix i) k
def n_sit (σ : Mem) (i k : Int32) : Int32 × Mem := if a_isOne (pM σ) i = true then (if a_isPole (pM σ) k = true then (if σ 11 (5 + ix i) = -9 then (if a_isUp (pM σ) (sM σ 11) k = true then (if σ 0 6 = 40 then (-2, σ) else (a_load (pM σ) (sM (u_sit σ i k) 11) k, u_sit σ i k)) else (-4, σ)) else (-4, σ)) else (-1, σ)) else (-1, σ)
def n_down (σ : Mem) (i : Int32) : Int32 × Mem := if a_isOne (pM σ) i = true then (if σ 11 (5 + ix i) = -9 then (-4, σ) else if σ 0 6 = 40 then (-2, σ) else (a_high (pM σ) i (σ 11 (5 + ix i)), mU (w_rem σ) 11 (5 + ix i) (-9))) else (-1, σ)
def n_lace (σ : Mem) (k : Int32) : Int32 × Mem := if a_isPole (pM σ) k = true then (if a_isUp (pM σ) (sM σ 11) k = true then (if σ 0 6 = 40 then (-2, σ) else (σ 11 (ix k), mU (w_rem σ) 11 (ix k) 0)) else (-4, σ)) else (-1, σ)
def b_no (σ : Mem) (n : Int32) : Int32 := if σ 0 4 = 0 then -4 else if 40 < σ 0 6 + n then -2 else 0
def n_stone (σ : Mem) : Int32 × Mem := if b_no σ 1 = 0 then (σ 11 11 + 1, mU (w_rem σ) 11 11 (σ 11 11 + 1)) else (b_no σ 1, σ)
def n_year (σ : Mem) : Int32 × Mem := if b_no σ 1 = 0 then (y_gave (pM σ) (sM σ 11), w_year (pM σ) (w_rem σ) 11) else (b_no σ 1, σ)
def n_undo (σ : Mem) (n : Int32) : Int32 × Mem := if b_in n.toInt64 0 (σ 0 6).toInt64 = true then (σ 0 6 - n, mU (if 0 < σ 0 6 - n then mG σ 11 0 12 (fun k => σ 13 (12 * ix n + k)) else σ) 0 6 n) else (-1, σ)
def u_keep (σ : Mem) (k : Nat) : Mem := mG (mG (mU σ 14 (493 * k) (σ 0 6)) 14 (493 * k + 1) 12 (fun q => σ 11 (0 + q))) 14 (493 * k + 1 + 12) 480 (fun q => σ 13 (0 + q))
def n_keep (σ : Mem) (k : Int32) : Int32 × Mem := if b_in k.toInt64 0 2 = true then (if σ 0 4 = 0 then (-4, σ) else (σ 0 6, u_keep σ (ix k))) else (-1, σ)
def u_on (σ : Mem) (k : Nat) : Mem := mG (mG (mU σ 0 6 (σ 14 (493 * k))) 11 0 12 (fun q => σ 14 (493 * k + 1 + q))) 13 0 480 (fun q => σ 14 (493 * k + 1 + 12 + q))
def n_on (σ : Mem) (k : Int32) : Int32 × Mem := if b_in k.toInt64 0 2 = true then (if σ 14 (493 * ix k) < 0 then (-3, n_found σ 1) else (σ 14 (493 * ix k), u_on σ (ix k))) else (-1, σ)
/-- deeds, as many as can be -/
def DM (σ : Mem) : Prop := 0 ≤ (σ 0 6).toInt ∧ (σ 0 6).toInt ≤ 40
theorem sM_rem (σ : Mem) : sM (w_rem σ) 11 = sM σ 11 := sM_eq (w_rem_n _ (by decide))
theorem no_t {σ : Mem} {n : Int32} (h : b_no σ n = 0) : ¬ σ 0 4 = 0 ∧ ¬ 40 < σ 0 6 + n := by
  unfold b_no at h
  split at h
  · exact absurd h (by decide)
  · split at h
    · exact absurd h (by decide)
    · constructor <;> assumption
theorem no_1 {σ : Mem} (hd : DM σ) (h : b_no σ 1 = 0) : (σ 0 6).toInt < 40 := by
  have h1 := i_nlt (no_t h).2
  have h2 := i_succ (x := σ 0 6) (n := 41) hd.1 (by have := hd.2; omega) (by decide)
  rw [h2, show (40 : Int32).toInt = 40 by decide] at h1
  omega
theorem sub_i {a b : Int32} (h0 : 0 ≤ a.toInt ∧ a.toInt ≤ 1000) (h1 : 0 ≤ b.toInt ∧ b.toInt ≤ 1000) : (a - b).toInt = a.toInt - b.toInt := by
  rw [Int32.toInt_sub]
  exact Int.bmod_eq_of_le (by omega) (by omega)
theorem wear_k {P : PT} {σ : Mem} {t j : Nat} (h : σ t j = b_wear P (sM σ t) j) : w_wear P σ t j = w_wear P σ t (j + 1) := mF_k _ _ _ _ h
theorem wear_s {P : PT} {σ : Mem} {t j : Nat} {v : Int32} (h : v = b_wear P (sM σ t) j) : mU (w_wear P σ t j) t j v = w_wear P σ t (j + 1) := mF_s _ _ _ _ h
theorem seat_s {P : PT} {σ : Mem} {t j : Nat} {v : Int32} (h : v = y_seat P (sM σ t) (y_gave P (sM σ t)) j) : mU (w_seat P σ t j) t (5 + j) v = w_seat P σ t (j + 1) := mG_s _ _ _ _ _ h
theorem yseat_b (P S : PT) (g : Int32) (i : Nat) : y_seat P S g i = if a_isSeated P S (nI i) = true then (if b_has g (S 2 i) = true then -9 else S 2 i) else S 2 i := by
  unfold y_seat b_has; simp
theorem w_seat_4 (P : PT) (σ : Mem) (t n : Nat) (h : nPl P ≤ 4) : w_seat P σ t n t 4 = σ t 4 := by
  unfold w_seat w_wear; rw [mG_e, if_pos rfl, if_neg (by omega), mF_e, if_pos rfl, if_neg (by omega)]
theorem w_seat_10 (P : PT) (σ : Mem) (t n : Nat) (h : nPl P ≤ 4) (h5 : n ≤ 5) : w_seat P σ t n t 10 = σ t 10 := by
  unfold w_seat w_wear; rw [mG_e, if_pos rfl, if_neg (by omega), mF_e, if_pos rfl, if_neg (by omega)]
