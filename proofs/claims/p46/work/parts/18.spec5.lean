/-! searches: lacings, schools -/
theorem mF_mU (σ : Mem) {a b : Nat} (j n : Nat) (v : Int32) (g : Nat → Int32) (h : a ≠ b) : mU (mF σ b n g) a j v = mF (mU σ a j v) b n g := mem_ext fun q k => by
  rw [mU_e, mF_e, mF_e, mU_e, mU_e]
  by_cases h1 : q = a
  · have h2 : ¬ q = b := fun e => h (h1.symm.trans e)
    simp [h1, h2, h]
  · have h3 : b ≠ a := fun e => h e.symm
    simp [h1, h3]
theorem mF2_s (σ : Mem) {a b : Nat} (j : Nat) (f g : Nat → Int32) (h : a ≠ b) {v w : Int32} (hv : v = f j) (hw : w = g j) : mU (mU (mF (mF σ a j f) b j g) a j v) b j w = mF (mF σ a (j + 1) f) b (j + 1) g := by
  rw [mF_mU _ _ _ _ _ h, mF_s _ _ _ _ hv, mF_s _ _ _ _ hw]
theorem forM_nk {f : Nat → Mem → Mem} {q k : Nat} (h : ∀ i τ, f i τ q k = τ q k) : ∀ n τ, forM f n τ q k = τ q k
  | 0, τ => rfl
  | n + 1, τ => (h n _).trans (forM_nk h n τ)
-- lacings
def m_lBegin (P S : PT) (σ : Mem) (n : Int32) : Mem := mF (mF (mU (mU (mU σ 56 0 (a_up P S)) 56 1 (imin n 5)) 56 2 (imin n 5 + 1)) 58 (nPl P) (S 1)) 64 (nPl P) (fun k => a_load P S (nI k))
def l_bef (σ : Mem) (year : Nat) (one : Int32) (k : Nat) : Int32 := if nI k = one then 0 else σ (58 + year) k
def l_bad (P : PT) (σ : Mem) (year : Nat) (one : Int32) (k : Nat) : Bool := decide ((σ 56 0 >>> (nI k &&& 31)) &&& 1 = 1) && decide (a_bears P (nI k) (l_bef σ year one k) < σ 64 k)
def l_stop (P : PT) (σ : Mem) (year : Nat) (one : Int32) : Nat → Nat
  | 0 => 0
  | n + 1 => if l_stop P σ year one n = n then (if l_bad P σ year one n = true then n else n + 1) else l_stop P σ year one n
theorem l_stop_s {P : PT} {σ : Mem} {year : Nat} {one : Int32} {j : Nat} (h : l_stop P σ year one j = j) (b : l_bad P σ year one j = false) : l_stop P σ year one (j + 1) = j + 1 := by
  rw [l_stop, if_pos h, b]; rfl
theorem l_stop_b {P : PT} {σ : Mem} {year : Nat} {one : Int32} {j : Nat} (h : l_stop P σ year one j = j) (b : l_bad P σ year one j = true) : ∀ n, j < n → l_stop P σ year one n = j
  | 0, hn => absurd hn (Nat.not_lt_zero _)
  | n + 1, hn => by
    rw [l_stop]
    by_cases e : j = n
    · subst e; rw [if_pos h, b]; rfl
    · have hj := l_stop_b h b n (by omega)
      rw [hj, if_neg e]
def l_ok (P : PT) (σ : Mem) (year : Nat) (one : Int32) : Bool := decide (l_stop P σ year one (nPl P) = nPl P)
def l_wear (σ : Mem) (year : Nat) (one : Int32) (k : Nat) : Int32 := a_worn (l_bef σ year one k) (if 0 < σ 64 k then 1 else 0)
def l_out (P : PT) (σ : Mem) (year : Nat) (one : Int32) : Mem := mF σ (58 + (year + 1)) (l_stop P σ year one (nPl P)) (l_wear σ year one)
theorem l_out_n (P : PT) (σ : Mem) (year : Nat) (one : Int32) {q : Nat} (h : q ≠ 58 + (year + 1)) : l_out P σ year one q = σ q := mF_n _ _ _ h
theorem cX_w (G : GT) (σ : Mem) {r : Nat} (h : r < 6) : cX G σ (58 + r) = .inl (G.2.2 0, 4, .inl (σ (58 + r))) := by
  match r, h with
  | 0, _ => rfl
  | 1, _ => rfl
  | 2, _ => rfl
  | 3, _ => rfl
  | 4, _ => rfl
  | 5, _ => rfl
  | r + 6, h => exact absurd h (by omega)
def s_laced (σ : Mem) (many : Int32) : Mem := mF (mU σ 56 2 many) 66 5 (σ 65)
def s_lace (P : PT) : Nat → Mem → Nat → Int32 → Mem
  | 0, σ, _, many => if many < σ 56 2 then s_laced σ many else σ
  | d + 1, σ, year, many => if many < σ 56 2 then
      forM (fun k τ => if (mU τ 65 year (nI k) 56 0 >>> (nI k &&& 31)) &&& 1 = 1 then
          (if l_ok P (mU τ 65 year (nI k)) year (nI k) = true then s_lace P d (l_out P (mU τ 65 year (nI k)) year (nI k)) (year + 1) (many + 1) else l_out P (mU τ 65 year (nI k)) year (nI k))
        else mU τ 65 year (nI k)) (nPl P)
      (if l_ok P (mU σ 65 year (-9)) year (-9) = true then s_lace P d (l_out P (mU σ 65 year (-9)) year (-9)) (year + 1) many else l_out P (mU σ 65 year (-9)) year (-9)) else σ
def s_laceK (P : PT) (d year : Nat) (many : Int32) (k : Nat) (τ : Mem) : Mem := if (mU τ 65 year (nI k) 56 0 >>> (nI k &&& 31)) &&& 1 = 1 then
          (if l_ok P (mU τ 65 year (nI k)) year (nI k) = true then s_lace P d (l_out P (mU τ 65 year (nI k)) year (nI k)) (year + 1) (many + 1) else l_out P (mU τ 65 year (nI k)) year (nI k))
        else mU τ 65 year (nI k)
def s_lace0 (P : PT) (d year : Nat) (many : Int32) (σ : Mem) : Mem := if l_ok P (mU σ 65 year (-9)) year (-9) = true then s_lace P d (l_out P (mU σ 65 year (-9)) year (-9)) (year + 1) many else l_out P (mU σ 65 year (-9)) year (-9)
theorem s_lace_s (P : PT) (d : Nat) (σ : Mem) (year : Nat) (many : Int32) : s_lace P (d + 1) σ year many = if many < σ 56 2 then forM (s_laceK P d year many) (nPl P) (s_lace0 P d year many σ) else σ := rfl
theorem s_lace_n (P : PT) {q k : Nat} (h : q < 56 ∨ q = 56 ∧ k ≠ 2) : ∀ (d : Nat) (σ : Mem) (year : Nat) (many : Int32), s_lace P d σ year many q k = σ q k := by
  have h1 : q ≠ 65 := by omega
  have h2 : ∀ y, q ≠ 58 + (y + 1) := by omega
  intro d
  induction d with
  | zero =>
    intro σ year many
    unfold s_lace; split
    · unfold s_laced; rw [mF_n _ _ _ (by omega), mU_e]
      split
      · next e => rw [if_neg (by omega), e]
      · rfl
    · rfl
  | succ d ih =>
    intro σ year many
    rw [s_lace_s]
    split
    · rw [forM_nk (fun i τ => ?_)]
      · unfold s_lace0
        split
        · rw [ih, l_out_n _ _ _ _ (h2 _), mU_n _ _ _ h1]
        · rw [l_out_n _ _ _ _ (h2 _), mU_n _ _ _ h1]
      · unfold s_laceK
        split
        · split
          · rw [ih, l_out_n _ _ _ _ (h2 _), mU_n _ _ _ h1]
          · rw [l_out_n _ _ _ _ (h2 _), mU_n _ _ _ h1]
        · rw [mU_n _ _ _ h1]
    · rfl
theorem s_lace_P {P : PT} (d : Nat) {σ : Mem} (year : Nat) (many : Int32) {Q : PT} (hP : vP σ 33 = Q) : vP (s_lace P d σ year many) 33 = Q := by
  rw [← hP]; exact vP_eq fun q hq => funext fun k => s_lace_n P (by omega) _ _ _ _
theorem PO_s_lace {P : PT} (d : Nat) {σ : Mem} (year : Nat) (many : Int32) (h : PO 33 σ) : PO 33 (s_lace P d σ year many) := PO_eq h (funext fun k => s_lace_n P (by omega) _ _ _ _)
theorem l_out_P {P : PT} {σ : Mem} (year : Nat) (one : Int32) {Q : PT} (hP : vP σ 33 = Q) : vP (l_out P σ year one) 33 = Q := by
  rw [← hP]; exact vP_eq fun q hq => l_out_n _ _ _ _ (by omega)
theorem PO_l_out {P : PT} {σ : Mem} (year : Nat) (one : Int32) (h : PO 33 σ) : PO 33 (l_out P σ year one) := PO_eq h (l_out_n _ _ _ _ (by omega))
def LY (σ : Mem) (Y : Int32) : Prop := σ 56 1 = Y
theorem LY_mU {σ : Mem} {Y : Int32} {a j : Nat} {v : Int32} (h : LY σ Y) (ha : 56 ≠ a) : LY (mU σ a j v) Y := by unfold LY; rw [mU_n _ _ _ ha]; exact h
theorem LY_out {P : PT} {σ : Mem} {Y : Int32} (year : Nat) (one : Int32) (h : LY σ Y) : LY (l_out P σ year one) Y := by unfold LY; rw [l_out_n _ _ _ _ (by omega)]; exact h
theorem LY_lace {P : PT} {σ : Mem} {Y : Int32} (d year : Nat) (many : Int32) (h : LY σ Y) : LY (s_lace P d σ year many) Y := by unfold LY; rw [s_lace_n P (by omega)]; exact h
-- schools
def foldN (f : Nat → Int32 → Int32) : Nat → Int32 → Int32
  | 0, m => m
  | n + 1, m => f n (foldN f n m)
theorem foldN_stay {f : Nat → Int32 → Int32} {j : Nat} {m0 : Int32} (h : ∀ k, f k (foldN f j m0) = foldN f j m0) : ∀ n, j ≤ n → foldN f n m0 = foldN f j m0
  | 0, hn => by rw [show j = 0 by omega]
  | n + 1, hn => by
    by_cases e : j = n + 1
    · rw [e]
    · show f n (foldN f n m0) = _
      rw [foldN_stay h n (by omega), h n]
def m_seat (P : PT) (σ : Mem) (i : Nat) (k : Int32) : Mem := if a_isPole P k = true then mU (mU (mU σ 68 i k) 69 (ix k) (σ 69 (ix k) + a_loadBy P (nI i) k)) 70 (ix k) (σ 70 (ix k) + a_high P (nI i) k) else σ
def m_unseat (P : PT) (σ : Mem) (i : Nat) : Mem := if a_isPole P (σ 68 i) = true then mU (mU (mU σ 68 i (-9)) 69 (ix (σ 68 i)) (σ 69 (ix (σ 68 i)) - a_loadBy P (nI i) (σ 68 i))) 70 (ix (σ 68 i)) (σ 70 (ix (σ 68 i)) - a_high P (nI i) (σ 68 i)) else σ
theorem isPole_9 (P : PT) : a_isPole P (-9) = false := by
  unfold a_isPole; rw [show decide ((0 : Int32) ≤ -9) = false by decide]; rfl
theorem i_as (a b : Int32) : a + b - b = a := by
  apply Int32.toBitVec_inj.mp; simp
theorem i_sa (a b : Int32) : a - b + b = a := by
  apply Int32.toBitVec_inj.mp; simp
theorem m_us (P : PT) (σ : Mem) (i : Nat) (k : Int32) (h : σ 68 i = -9) : m_unseat P (m_seat P σ i k) i = σ := by
  by_cases hk : a_isPole P k = true
  · have e : m_seat P σ i k = mU (mU (mU σ 68 i k) 69 (ix k) (σ 69 (ix k) + a_loadBy P (nI i) k)) 70 (ix k) (σ 70 (ix k) + a_high P (nI i) k) := if_pos hk
    have e1 : m_seat P σ i k 68 i = k := by rw [e, mU_n _ _ _ (by decide), mU_n _ _ _ (by decide), mU_e, if_pos rfl, if_pos rfl]
    have e2 : m_seat P σ i k 69 (ix k) = σ 69 (ix k) + a_loadBy P (nI i) k := by rw [e, mU_n _ _ _ (by decide), mU_e, if_pos rfl, if_pos rfl]
    have e3 : m_seat P σ i k 70 (ix k) = σ 70 (ix k) + a_high P (nI i) k := by rw [e, mU_e, if_pos rfl, if_pos rfl]
    unfold m_unseat
    rw [e1, if_pos hk, e2, e3, i_as, i_as, e]
    refine mem_ext fun q j => ?_
    simp only [mU_e]
    by_cases h1 : q = 70
    · subst h1; simp; split <;> simp_all
    · by_cases h2 : q = 69
      · subst h2; simp; split <;> simp_all
      · by_cases h3 : q = 68
        · subst h3; simp [h1, h2]; split <;> simp_all
        · simp [h1, h2, h3]
  · have e : m_seat P σ i k = σ := if_neg hk
    rw [e]; unfold m_unseat; rw [h, isPole_9]; rfl
theorem m_su (P : PT) (σ : Mem) (i : Nat) : m_seat P (m_unseat P σ i) i (σ 68 i) = σ := by
  by_cases hk : a_isPole P (σ 68 i) = true
  · have e : m_unseat P σ i = mU (mU (mU σ 68 i (-9)) 69 (ix (σ 68 i)) (σ 69 (ix (σ 68 i)) - a_loadBy P (nI i) (σ 68 i))) 70 (ix (σ 68 i)) (σ 70 (ix (σ 68 i)) - a_high P (nI i) (σ 68 i)) := if_pos hk
    have e2 : m_unseat P σ i 69 (ix (σ 68 i)) = σ 69 (ix (σ 68 i)) - a_loadBy P (nI i) (σ 68 i) := by rw [e, mU_n _ _ _ (by decide), mU_e, if_pos rfl, if_pos rfl]
    have e3 : m_unseat P σ i 70 (ix (σ 68 i)) = σ 70 (ix (σ 68 i)) - a_high P (nI i) (σ 68 i) := by rw [e, mU_e, if_pos rfl, if_pos rfl]
    unfold m_seat
    rw [if_pos hk, e2, e3, i_sa, i_sa, e]
    refine mem_ext fun q j => ?_
    simp only [mU_e]
    by_cases h1 : q = 70
    · subst h1; simp; split <;> simp_all
    · by_cases h2 : q = 69
      · subst h2; simp; split <;> simp_all
      · by_cases h3 : q = 68
        · subst h3; simp [h1, h2]; split <;> simp_all
        · simp [h1, h2, h3]
  · have e : m_unseat P σ i = σ := if_neg hk
    rw [e]; unfold m_seat; rw [if_neg hk]
theorem m_seat_n (P : PT) (σ : Mem) (i : Nat) (k : Int32) {q : Nat} (h : q ≠ 68 ∧ q ≠ 69 ∧ q ≠ 70) : m_seat P σ i k q = σ q := by
  unfold m_seat; split
  · rw [mU_n _ _ _ h.2.2, mU_n _ _ _ h.2.1, mU_n _ _ _ h.1]
  · rfl
theorem m_unseat_n (P : PT) (σ : Mem) (i : Nat) {q : Nat} (h : q ≠ 68 ∧ q ≠ 69 ∧ q ≠ 70) : m_unseat P σ i q = σ q := by
  unfold m_unseat; split
  · rw [mU_n _ _ _ h.2.2, mU_n _ _ _ h.2.1, mU_n _ _ _ h.1]
  · rfl
theorem m_seat_P {P : PT} {σ : Mem} (i : Nat) (k : Int32) {Q : PT} (hP : vP σ 33 = Q) : vP (m_seat P σ i k) 33 = Q := by
  rw [← hP]; exact vP_eq fun q hq => m_seat_n P _ _ _ (by omega)
theorem m_unseat_P {P : PT} {σ : Mem} (i : Nat) {Q : PT} (hP : vP σ 33 = Q) : vP (m_unseat P σ i) 33 = Q := by
  rw [← hP]; exact vP_eq fun q hq => m_unseat_n P _ _ (by omega)
theorem PO_m_seat {P : PT} {σ : Mem} (i : Nat) (k : Int32) (h : PO 33 σ) : PO 33 (m_seat P σ i k) := PO_eq h (m_seat_n P _ _ _ (by omega))
theorem PO_m_unseat {P : PT} {σ : Mem} (i : Nat) (h : PO 33 σ) : PO 33 (m_unseat P σ i) := PO_eq h (m_unseat_n P _ _ (by omega))
def m_seatsN (P : PT) (sv : Nat → Int32) : Nat → Mem → Mem
  | 0, τ => τ
  | n + 1, τ => m_seat P (mU (m_seatsN P sv n τ) 68 n (-9)) n (sv n)
theorem m_seatsN_n (P : PT) (sv : Nat → Int32) {q : Nat} (h : q ≠ 68 ∧ q ≠ 69 ∧ q ≠ 70) : ∀ n τ, m_seatsN P sv n τ q = τ q
  | 0, τ => rfl
  | n + 1, τ => by rw [m_seatsN, m_seat_n P _ _ _ h, mU_n _ _ _ h.1]; exact m_seatsN_n P sv h n τ
def m_gBegin (P S : PT) (σ : Mem) : Mem := m_seatsN P (S 2) (nPe P) (mF (mF (mF (mU σ 67 0 (a_up P S)) 69 (nPl P) (fun _ => 0)) 70 (nPl P) (fun _ => 0)) 71 (nPl P) (fun k => a_bearsNow P S (nI k)))
def a_worth (P : PT) (σ : Mem) : Int32 := a_sum (fun k => if σ 71 k < σ 69 k then 0 else σ 70 k) (nPl P)
def g_val (P : PT) : Nat → Bool → Mem → Int32 → Int32 → Int32
  | 0, _, σ, _, _ => a_worth P σ
  | d + 1, true, σ, low, top => foldN (fun i m => foldN (fun k m => if σ 68 i = -9 ∧ m < top then (if (σ 67 0 >>> (nI k &&& 31)) &&& 1 = 1 then imax m (g_val P d false (m_seat P σ i (nI k)) (imax low m) top) else m) else m) (nPl P) m) (nPe P) (g_val P d false σ low top)
  | d + 1, false, σ, low, top => foldN (fun i m => if low < m then (if σ 68 i = -9 then m else imin m (g_val P d true (m_unseat P σ i) low (imin top m))) else m) (nPe P) (g_val P d true σ low top)
def g_sk (P : PT) (d : Nat) (σ : Mem) (low top : Int32) (i k : Nat) (m : Int32) : Int32 := if σ 68 i = -9 ∧ m < top then (if (σ 67 0 >>> (nI k &&& 31)) &&& 1 = 1 then imax m (g_val P d false (m_seat P σ i (nI k)) (imax low m) top) else m) else m
def g_si (P : PT) (d : Nat) (σ : Mem) (low top : Int32) (i : Nat) (m : Int32) : Int32 := foldN (g_sk P d σ low top i) (nPl P) m
def g_ci (P : PT) (d : Nat) (σ : Mem) (low top : Int32) (i : Nat) (m : Int32) : Int32 := if low < m then (if σ 68 i = -9 then m else imin m (g_val P d true (m_unseat P σ i) low (imin top m))) else m
theorem g_val_st (P : PT) (d : Nat) (σ : Mem) (low top : Int32) : g_val P (d + 1) true σ low top = foldN (g_si P d σ low top) (nPe P) (g_val P d false σ low top) := rfl
theorem g_val_sf (P : PT) (d : Nat) (σ : Mem) (low top : Int32) : g_val P (d + 1) false σ low top = foldN (g_ci P d σ low top) (nPe P) (g_val P d true σ low top) := rfl
theorem g_val_0 (P : PT) (b : Bool) (σ : Mem) (low top : Int32) : g_val P 0 b σ low top = a_worth P σ := by cases b <;> rfl
theorem g_sk_stop (P : PT) (d : Nat) (σ : Mem) (low top : Int32) (i : Nat) (m : Int32) (h : ¬ σ 68 i = -9 ∨ ¬ m < top) (k : Nat) : g_sk P d σ low top i k m = m := by
  unfold g_sk; rw [if_neg (fun e => h.elim (fun x => x e.1) (fun x => x e.2))]
theorem g_ci_stop (P : PT) (d : Nat) (σ : Mem) (low top : Int32) (m : Int32) (h : ¬ low < m) (i : Nat) : g_ci P d σ low top i m = m := by
  unfold g_ci; rw [if_neg h]
