/-! the model: lacings, chances, lots, what is told -/
def w_lac (P : PT) (cd : Nat) (σ : Mem) (N : Nat) : Nat → Mem
  | 0 => σ
  | j + 1 => mU (w_lac P cd σ N j) 20 (N - 1 - j) (nI (lf (nPl P + 1) cd j % (nPl P + 1)) - 1)
theorem lac_s {P : PT} {cd : Nat} {σ : Mem} {N j i : Nat} (hi : N = j + i + 1) : mU (w_lac P cd σ N j) 20 i (nI (lf (nPl P + 1) cd j % (nPl P + 1)) - 1) = w_lac P cd σ N (j + 1) := by
  rw [w_lac, show N - 1 - j = i by omega]
theorem w_lac_n (P : PT) (cd : Nat) (σ : Mem) (N : Nat) {q : Nat} (h : q ≠ 20) : ∀ j, w_lac P cd σ N j q = σ q
  | 0 => rfl
  | j + 1 => (mU_n _ _ _ h).trans (w_lac_n P cd σ N h j)
theorem lac_at (P : PT) (cd : Nat) (σ : Mem) (N : Nat) : ∀ n, n ≤ N → ∀ i, i < N → N - n ≤ i → w_lac P cd σ N n 20 i = nI (lf (nPl P + 1) cd (N - 1 - i) % (nPl P + 1)) - 1
  | 0, _, i, hi, h => absurd hi (by omega)
  | n + 1, hn, i, hi, h => by
    rw [w_lac, mU_e, if_pos rfl]
    by_cases e : i = N - 1 - n
    · rw [if_pos (by omega), show N - 1 - i = n by omega]
    · rw [if_neg (by omega)]; exact lac_at P cd σ N n (by omega) i hi (by omega)
def lacm (P : PT) (cd : Nat) : Nat → Int32
  | 0 => 0
  | j + 1 => lacm P cd j + (if nI (lf (nPl P + 1) cd j % (nPl P + 1)) - 1 < 0 then 0 else 1)
def lb (P : PT) (σ : Mem) : Nat → Mem
  | 0 => w_aside σ
  | y + 1 => w_year P (if σ 20 y < 0 then lb P σ y else mU (lb P σ y) 12 (0 + ix (σ 20 y)) 0) 12
theorem lb_n (P : PT) (σ : Mem) {q : Nat} (h : q ≠ 12) : ∀ y, lb P σ y q = σ q
  | 0 => w_aside_n _ h
  | y + 1 => by
    rw [lb, w_year_n _ _ h]
    split
    · exact lb_n P σ h y
    · rw [mU_n _ _ _ h]; exact lb_n P σ h y
def lbad (P : PT) (σ : Mem) (y : Nat) : Bool := if σ 20 y < 0 then !decide (y_gave P (sM (lb P σ y) 12) = 0) else if a_isUp P (sM (lb P σ y) 12) (σ 20 y) = true then !decide (y_gave P (sM (mU (lb P σ y) 12 (0 + ix (σ 20 y)) 0) 12) = 0) else true
def lend (P : PT) (σ : Mem) (y : Nat) : Mem := if σ 20 y < 0 then lb P σ (y + 1) else if a_isUp P (sM (lb P σ y) 12) (σ 20 y) = true then lb P σ (y + 1) else lb P σ y
theorem lend_n (P : PT) (σ : Mem) (y : Nat) {q : Nat} (h : q ≠ 12) : lend P σ y q = σ q := by
  unfold lend; repeat' split
  all_goals exact lb_n P σ h _
def n_lac (P : PT) (σ : Mem) (cd N : Nat) : Int32 × Mem :=
  if fstN (lbad P (w_lac P cd σ N N)) N = N then (lacm P cd N, lb P (w_lac P cd σ N N) N) else (1000000, lend P (w_lac P cd σ N N) (fstN (lbad P (w_lac P cd σ N N)) N))
theorem n_lac_n (P : PT) (σ : Mem) (cd N : Nat) {q : Nat} (h : q ≠ 12 ∧ q ≠ 20) : (n_lac P σ cd N).2 q = σ q := by
  unfold n_lac
  split
  · show lb P (w_lac P cd σ N N) N q = σ q
    rw [lb_n _ _ h.1, w_lac_n _ _ _ _ h.2]
  · show lend P (w_lac P cd σ N N) _ q = σ q
    rw [lend_n _ _ _ h.1, w_lac_n _ _ _ _ h.2]
theorem pM_nlac (P : PT) (σ : Mem) (cd N : Nat) : pM (n_lac P σ cd N).2 = pM σ :=
  pM_eq (by rw [n_lac_n _ _ _ _ (by decide)]) (by rw [n_lac_n _ _ _ _ (by decide)]) (fun q _ _ => n_lac_n _ _ _ _ (by omega))
def lcs_step (P : PT) (N cd : Nat) (q : Int32 × Int32 × Mem) : Int32 × Int32 × Mem :=
  (if (n_lac P q.2.2 cd N).1 < q.1 then (n_lac P q.2.2 cd N).1 else q.1, if (n_lac P q.2.2 cd N).1 < q.1 then nI cd else q.2.1, (n_lac P q.2.2 cd N).2)
def lcs (P : PT) (N : Nat) (σ : Mem) : Nat → Int32 × Int32 × Mem
  | 0 => (1000000, 0, σ)
  | cd + 1 => lcs_step P N cd (lcs P N σ cd)
theorem lcs_best (P : PT) (N : Nat) (σ : Mem) : ∀ n, ∃ b, b ≤ n ∧ (lcs P N σ n).2.1 = nI b
  | 0 => ⟨0, Nat.le_refl _, rfl⟩
  | n + 1 => by
    obtain ⟨b, hb, e⟩ := lcs_best P N σ n
    by_cases h : (n_lac P (lcs P N σ n).2.2 n N).1 < (lcs P N σ n).1
    · exact ⟨n, by omega, by show (if _ < _ then nI n else _) = _; rw [if_pos h]⟩
    · exact ⟨b, by omega, by show (if _ < _ then nI n else _) = _; rw [if_neg h]; exact e⟩
def lcv (x : Int32) : Int32 := if x < 0 then -9 else x
def lfin (P : PT) (r : Nat) (n : Int32) (q : Int32 × Int32 × Mem) : Mem :=
  mG (n_lac P (w_lrow q.2.2 r n) (ix q.2.1) (ix n)).2 1 (40 * r) (ix n) (fun y => lcv ((n_lac P (w_lrow q.2.2 r n) (ix q.2.1) (ix n)).2 20 y))
def n_laces (σ : Mem) (n r : Int32) : Int32 × Mem := if b_in n.toInt64 0 5 = true then (if a_in r 6 = true then (if σ 0 4 = 0 then (-4, σ) else
  if (lcs (pM σ) (ix n) σ ((nPl (pM σ) + 1) ^ ix n)).1 = 1000000 then (-9, (lcs (pM σ) (ix n) σ ((nPl (pM σ) + 1) ^ ix n)).2.2)
  else ((lcs (pM σ) (ix n) σ ((nPl (pM σ) + 1) ^ ix n)).1, lfin (pM σ) (ix r) n (lcs (pM σ) (ix n) σ ((nPl (pM σ) + 1) ^ ix n)))) else (-1, σ)) else (-1, σ)
-- chances
def b_worth (P S : PT) : Int32 := a_sum (fun i => if S 2 i = -9 then 0 else if a_load P S (S 2 i) ≤ a_bearsNow P S (S 2 i) then a_high P (nI i) (S 2 i) else 0) (nPe P)
def gq : Nat → Int32 → Int32 → Int32
  | 0, a, _ => a
  | f + 1, a, b => if b = 0 then a else gq f b (a - a / b * b)
def gz : Nat → Int32 → Int32 → Bool
  | 0, _, b => decide (b = 0)
  | f + 1, a, b => if b = 0 then true else gz f b (a - a / b * b)
def w_frac (σ : Mem) (x y : Int32) : Mem := mU (mU σ 0 1 (x / gq 40 x y)) 0 2 (y / gq 40 x y)
theorem gz_12 {x : Int32} (h : 0 ≤ x.toInt) : gz 40 x 12 = true ∧ ¬ gq 40 x 12 = 0 := by
  have h1 := (rem_i h (show 0 < (12 : Int32).toInt by decide)).2
  rw [show (12 : Int32).toInt = 12 by decide] at h1
  have h2 := Int.emod_nonneg x.toInt (show (12 : Int) ≠ 0 by decide)
  have h3 := Int.emod_lt_of_pos x.toInt (show (0 : Int) < 12 by decide)
  have e : ∃ r, r < 12 ∧ x - x / 12 * 12 = nI r := ⟨(x.toInt % 12).toNat, by omega, by apply i_eqI; rw [h1, nI_toInt (by omega)]; omega⟩
  obtain ⟨r, hr, e⟩ := e
  have k : ∀ q : Fin 12, gz 39 12 (nI q.1) = true ∧ ¬ gq 39 12 (nI q.1) = 0 := by decide +kernel
  have := k ⟨r, hr⟩
  rw [gz, gq, if_neg (by decide), if_neg (by decide), e]
  exact this
def od_x (σ : Mem) (i p : Int32) : Int32 := if σ 11 (5 + ix i) = -9 then 0 else if a_load (pM σ) (sM σ 11) (σ 11 (5 + ix i)) ≤ a_bearsNow (pM σ) (sM σ 11) (σ 11 (5 + ix i)) then 12 - p else 0
def n_odds (σ : Mem) (i p : Int32) : Int32 × Mem := if a_isOne (pM σ) i = true then (if b_in p.toInt64 0 12 = true then (1, w_frac σ (od_x σ i p) 12) else (-1, σ)) else (-1, σ)
def n_mid (σ : Mem) (p : Int32) : Int32 × Mem := if b_in p.toInt64 0 12 = true then (if σ 0 4 = 0 then (-4, σ) else (1, w_frac (w_aside σ) (b_worth (pM σ) (sM (w_aside σ) 12) * (12 - p)) 12)) else (-1, σ)
-- lots
def lo_i (P : PT) (x : Int32) : Int32 := x / 8 - x / 8 / P 0 1 * P 0 1
def lo_k (P : PT) (x : Int32) : Int32 := x / 64 - x / 64 / P 0 0 * P 0 0
def w_lot (P : PT) (σ : Mem) (x : Int32) : Mem := if x - x / 3 * 3 = 0 then w_year P (w_rem σ) 11 else if σ 11 (5 + ix (lo_i P x)) = -9 then (if a_isUp P (sM σ 11) (lo_k P x) = true then mU (w_rem σ) 11 (5 + ix (lo_i P x)) (lo_k P x) else mU (w_rem σ) 11 11 (σ 11 11 + 1)) else mU (w_rem σ) 11 (5 + ix (lo_i P x)) (-9)
theorem w_lot_n (P : PT) (σ : Mem) (x : Int32) {q : Nat} (h : q ≠ 0 ∧ q ≠ 11 ∧ q ≠ 13) : w_lot P σ x q = σ q := by
  unfold w_lot
  repeat' split
  · rw [w_year_n _ _ h.2.1, w_rem_n _ ⟨h.1, h.2.2⟩]
  all_goals rw [mU_n _ _ _ h.2.1, w_rem_n _ ⟨h.1, h.2.2⟩]
theorem w_lot_0 (P : PT) (σ : Mem) (x : Int32) : w_lot P σ x 0 = w_rem σ 0 := by
  unfold w_lot
  repeat' split
  · rw [w_year_n _ _ (by decide)]
  all_goals rw [mU_n _ _ _ (by decide)]
theorem w_rem_0 (σ : Mem) {j : Nat} (h : j ≠ 6) : w_rem σ 0 j = σ 0 j := by unfold w_rem; rw [mU_e, if_pos rfl, if_neg h, mG_n _ _ _ _ (by decide)]
theorem w_rem_6 (σ : Mem) : w_rem σ 0 6 = σ 0 6 + 1 := by unfold w_rem; rw [mU_e, if_pos rfl, if_pos rfl]
theorem pM_lot (P : PT) (σ : Mem) (x : Int32) : pM (w_lot P σ x) = pM σ :=
  pM_eq (by rw [w_lot_0, w_rem_0 _ (by decide)]) (by rw [w_lot_0, w_rem_0 _ (by decide)]) (fun q _ _ => w_lot_n _ _ _ (by omega))
theorem lo_ok {P : PT} (hpb : PB P) (h0 : 0 < nPl P) (h1 : 0 < nPe P) {x : Int32} (hx : 0 ≤ x.toInt) : a_isOne P (lo_i P x) = true ∧ a_isPole P (lo_k P x) = true := by
  obtain ⟨e1, b1, t1⟩ := PB_pe hpb
  obtain ⟨e0, b0, t0⟩ := PB_pl hpb
  have d8 := (rem_i hx (show 0 < (8 : Int32).toInt by decide)).1
  have d64 := (rem_i hx (show 0 < (64 : Int32).toInt by decide)).1
  rw [show (8 : Int32).toInt = 8 by decide] at d8
  rw [show (64 : Int32).toInt = 64 by decide] at d64
  have r1 := (rem_i (a := x / 8) (b := P 0 1) (by omega) (by omega)).2
  have r0 := (rem_i (a := x / 64) (b := P 0 0) (by omega) (by omega)).2
  have m1 := Int.emod_lt_of_pos (x / 8).toInt (show 0 < (P 0 1).toInt by omega)
  have n1 := Int.emod_nonneg (x / 8).toInt (show (P 0 1).toInt ≠ 0 by omega)
  have m0 := Int.emod_lt_of_pos (x / 64).toInt (show 0 < (P 0 0).toInt by omega)
  have n0 := Int.emod_nonneg (x / 64).toInt (show (P 0 0).toInt ≠ 0 by omega)
  have k0 : (0 : Int32).toInt = 0 := by decide
  have k5 : (5 : Int32).toInt = 5 := by decide
  have k4 : (4 : Int32).toInt = 4 := by decide
  unfold a_isOne a_isPole lo_i lo_k
  simp only [Bool.and_eq_true, decide_eq_true_eq, Int32.le_iff_toInt_le, Int32.lt_iff_toInt_lt, r1, r0, k0, k5, k4]
  omega
theorem SV_lot {P : PT} (hpb : PB P) (h0 : 0 < nPl P) (h1 : 0 < nPe P) {σ : Mem} {x : Int32} (hx : 0 ≤ x.toInt) (h : SV P σ 11) : SV P (w_lot P σ x) 11 := by
  have hr : SV P (w_rem σ) 11 := SV_eq h (w_rem_n _ (by decide))
  unfold w_lot
  split
  · exact SV_year (PB_pl hpb).2.1 (PB_pe hpb).2.1 hr
  · intro i hi
    have h5 := (PB_pe hpb).2.1
    split
    · split
      · rw [mU_e, if_pos rfl]; split
        · exact Or.inr (lo_ok hpb h0 h1 hx).2
        · exact hr i hi
      · rw [mU_e, if_pos rfl, if_neg (by omega)]; exact hr i hi
    · rw [mU_e, if_pos rfl]; split
      · exact Or.inl rfl
      · exact hr i hi
def w_lots (P : PT) (σ : Mem) (x : Int64) : Nat → Mem
  | 0 => σ
  | n + 1 => w_lot P (w_lots P σ x n) (lotN x (n + 1)).toInt32
theorem lot1_i {x : Int64} (h0 : 0 ≤ x.toInt) (h1 : x.toInt ≤ 2147483646) : 0 ≤ (lot1 x).toInt ∧ (lot1 x).toInt ≤ 2147483646 := by
  have k : (48271 : Int64).toInt = 48271 := by decide
  have km : (2147483647 : Int64).toInt = 2147483647 := by decide
  have e1 : (x * 48271).toInt = x.toInt * 48271 := by
    rw [Int64.toInt_mul, k]; exact Int.bmod_eq_of_le (by omega) (by omega)
  have hp : 0 ≤ (x * 48271).toInt := by omega
  have d : (x * 48271 / 2147483647).toInt = (x * 48271).toInt / 2147483647 := by
    rw [Jvm.Kit.i64_div (by omega), Int.tdiv_eq_ediv_of_nonneg hp, km]
  have e2 : (x * 48271 / 2147483647 * 2147483647).toInt = (x * 48271).toInt / 2147483647 * 2147483647 := by
    rw [Int64.toInt_mul, d, km]; exact Int.bmod_eq_of_le (by omega) (by omega)
  unfold lot1
  rw [Int64.toInt_sub, e2, Int.bmod_eq_of_le (by omega) (by omega)]
  omega
theorem lotN_i {x : Int64} (h0 : 0 ≤ x.toInt) (h1 : x.toInt ≤ 2147483646) : ∀ n, 0 ≤ (lotN x n).toInt ∧ (lotN x n).toInt ≤ 2147483646
  | 0 => ⟨h0, h1⟩
  | n + 1 => lot1_i (lotN_i h0 h1 n).1 (lotN_i h0 h1 n).2
theorem lot_32 {x : Int64} (h0 : 0 ≤ x.toInt) (h1 : x.toInt ≤ 2147483646) : x.toInt32.toInt = x.toInt := by
  rw [Int64.toInt_toInt32]; exact Int.bmod_eq_of_le (by omega) (by omega)
theorem lots_ok {P : PT} (hpb : PB P) (h0 : 0 < nPl P) (h1 : 0 < nPe P) {σ : Mem} {x : Int64} (hx : 0 ≤ x.toInt ∧ x.toInt ≤ 2147483646) (h : SV P σ 11) (hd : 0 ≤ (σ 0 6).toInt) : ∀ n : Nat, n ≤ 20 → (σ 0 6).toInt + (n : Int) ≤ 40 → SV P (w_lots P σ x n) 11 ∧ pM (w_lots P σ x n) = pM σ ∧ (w_lots P σ x n 0 6).toInt = (σ 0 6).toInt + (n : Int)
  | 0, _, _ => ⟨h, rfl, by show (σ 0 6).toInt = _; omega⟩
  | n + 1, hn, h40 => by
    obtain ⟨q1, q2, q3⟩ := lots_ok hpb h0 h1 hx h hd n (by omega) (by omega)
    have hl := lotN_i hx.1 hx.2 (n + 1)
    have hp : 0 ≤ ((lotN x (n + 1)).toInt32).toInt := by rw [lot_32 hl.1 hl.2]; exact hl.1
    refine ⟨SV_lot hpb h0 h1 hp q1, (pM_lot _ _ _).trans q2, ?_⟩
    show (w_lot P (w_lots P σ x n) _ 0 6).toInt = _
    rw [w_lot_0, w_rem_6, i_succ (n := 41) (by omega) (by omega) (by decide)]
    omega
def n_lots (σ : Mem) (n seed : Int32) : Int32 × Mem := if b_in n.toInt64 1 20 = true then (if b_in seed.toInt64 1 2147483646 = true then (if b_no σ n = 0 then (a_highAll (pM σ) (sM (w_lots (pM σ) σ seed.toInt64 (ix n)) 11), w_lots (pM σ) σ seed.toInt64 (ix n)) else (b_no σ n, σ)) else (-1, σ)) else (-1, σ)
-- what is told
def b_there (σ : Mem) (a st n : Nat) : Int32 := a_sum (fun j => if σ a (st * j) < 0 then 0 else 1) n
def b_up (P : PT) (σ : Mem) : Int32 := a_bits (fun i => !decide (σ 11 (5 + i) = -9)) (nPe P)
def b_laced (P : PT) : Int32 := a_sum (fun k => if a_isOf (P 1 k) 2 = true then 1 else 0) (nPl P)
def n_count (P : PT) (σ : Mem) (what : Int32) : Int32 := if what = 0 then P 0 0 else if what = 1 then P 0 1 else if what = 2 then σ 0 6 else if what = 3 then σ 11 10 else if what = 4 then σ 11 4 else if what = 5 then b_up P σ else if what = 6 then a_highAll P (sM σ 11) else if what = 7 then σ 11 11 else if what = 8 then b_there σ 2 1 6 else if what = 9 then b_there σ 4 1 4 else if what = 10 then b_there σ 14 493 3 else if what = 11 then b_laced P else -1
def n_findings (σ : Mem) (f : Int32) : Int32 := if b_in f.toInt64 1 5 = true then σ 5 (ix f) else -1
def dm_pole (P : PT) (σ : Mem) (j : Nat) (h : Int64) : Int64 :=
  31 * (31 * (31 * (31 * (31 * (31 * (31 * (31 * h + (P 1 j).toInt64) + (P 2 j).toInt64) + (P 3 j).toInt64) + (σ 11 (0 + j)).toInt64) + (a_bearsNow P (sM σ 11) (nI j)).toInt64) + (a_load P (sM σ 11) (nI j)).toInt64) + (a_sitters P (sM σ 11) (nI j)).toInt64) + ((σ 11 4 >>> (nI j &&& 31)) &&& 1).toInt64
def dm_one (P : PT) (σ : Mem) (j : Nat) (h : Int64) : Int64 :=
  31 * (31 * (31 * (31 * h + (P 4 j).toInt64) + (P 5 j).toInt64) + (σ 11 (5 + j)).toInt64) + (a_high P (nI j) (σ 11 (5 + j))).toInt64
def dm_row (σ : Mem) (a b st r : Nat) (h : Int64) : Int64 := foldL (fun i => σ b (st * r + i)) (31 * h + (σ a r).toInt64) (ix (σ a r))
def n_dig (P : PT) (σ : Mem) : Int64 := foldLL (dm_row σ 4 3 60) (foldLL (dm_row σ 2 1 40) (foldL (fun k => σ 14 (493 * k)) (foldLL (dm_one P σ) (foldLL (dm_pole P σ) (foldL (fun w => n_count P σ (nI w)) 17 12) (nPl P)) (nPe P)) 3) 6) 4
theorem fL_0 (f : Nat → Int32) (h : Int64) : h = foldL f h 0 := rfl
theorem fLL_0 (f : Nat → Int64 → Int64) (h : Int64) : h = foldLL f h 0 := rfl
