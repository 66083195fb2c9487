/-! the class's own methods: answer and memory -/
def a_in (r n : Int32) : Bool := !decide (r < 0) && decide (r < n)
theorem in_t {r n : Int32} (h : a_in r n = true) : 0 ≤ r.toInt ∧ r.toInt < n.toInt := by
  simp only [a_in, Bool.and_eq_true, decide_eq_true_eq, Bool.not_eq_true', decide_eq_false_iff_not] at h
  exact ⟨i_nlt h.1, i_lt h.2⟩
/-- row sizes, as they can be -/
def RZ (σ : Mem) : Prop := ∀ o, oRow o → (σ o 0).toInt ≤ 60
theorem RZ_eq {σ τ : Mem} (h : RZ σ) (e : ∀ o, oRow o → τ o = σ o) : RZ τ := fun o ho => by rw [e o ho]; exact h o ho
def m_found (σ : Mem) (f : Int32) : Mem := if f < 1 then σ else if 5 < f then σ else mU (mU σ 0 0 f) 4 (ix f) (σ 4 (ix f) + 1)
theorem m_found_n (σ : Mem) (f : Int32) {q : Nat} (h : q ≠ 0 ∧ q ≠ 4) : m_found σ f q = σ q := by
  unfold m_found; repeat' split
  all_goals first | rfl | rw [mU_n _ _ _ h.2, mU_n _ _ _ h.1]
def x_begin (σ : Mem) (o : Nat) (n most fill : Int32) : Int32 × Mem := if most < n then (-1, σ) else if n < 0 then (-3, m_found σ 5) else (n, m_fill σ o n fill)
def k_row (σ : Mem) (r n : Int32) : Int32 × Mem := if a_in r 6 = true then x_begin σ (5 + 2 * ix r) n 40 0 else (-1, σ)
def k_text (σ : Mem) (t n : Int32) : Int32 × Mem := if a_in t 4 = true then x_begin σ (17 + 2 * ix t) n 60 32 else (-1, σ)
def k_lay (σ : Mem) (r i v : Int32) : Int32 × Mem := if a_in r 6 = true then (if a_findAt σ (5 + 2 * ix r) i = 0 then (1, mU (m_set σ (5 + 2 * ix r) i v) 0 1 (a_get σ (5 + 2 * ix r) i)) else (-3, m_found σ (a_findAt σ (5 + 2 * ix r) i))) else (-1, σ)
def k_at (σ : Mem) (r i : Int32) : Int32 × Mem := if a_in r 6 = true then (if a_findAt σ (5 + 2 * ix r) i = 0 then (1, mU σ 0 1 (a_get σ (5 + 2 * ix r) i)) else (-3, m_found σ (a_findAt σ (5 + 2 * ix r) i))) else (-1, σ)
def k_tear (σ : Mem) (r : Int32) : Int32 × Mem := if a_in r 6 = true then (if σ (5 + 2 * ix r) 0 < 0 then (-3, m_found σ 1) else (1, mU σ (5 + 2 * ix r) 0 (-1))) else (-1, σ)
def a_run (σ : Mem) (o : Nat) (i n : Int32) : Bool := !decide (i < 0) && (!decide (n < 0) && decide (i ≤ σ o 0 - n))
def m_copy (σ : Mem) (o q : Nat) (i j n : Int32) : Mem := mA σ (q + 1) (va_cpy (σ (o + 1)) (σ (q + 1)) (ix i) (ix j) (ix n))
def k_copy (σ : Mem) (r i to j n : Int32) : Int32 × Mem := if a_in r 6 = true then (if a_in to 6 = true then (if n < 0 then (-3, m_found σ 5) else if σ (5 + 2 * ix r) 0 < 0 then (-3, m_found σ 1) else if σ (5 + 2 * ix to) 0 < 0 then (-3, m_found σ 1) else if a_run σ (5 + 2 * ix r) i n = true then (if a_run σ (5 + 2 * ix to) j n = true then (1, m_copy σ (5 + 2 * ix r) (5 + 2 * ix to) i j n) else (-3, m_found σ 2)) else (-3, m_found σ 2)) else (-1, σ)) else (-1, σ)
def sumL (f : Nat → Int32) : Nat → Int64
  | 0 => 0
  | n + 1 => sumL f n + (f n).toInt64
def k_mean (σ : Mem) (r : Int32) : Int32 × Mem := if a_in r 6 = true then (if σ (5 + 2 * ix r) 0 < 0 then (-3, m_found σ 1) else if σ (5 + 2 * ix r) 0 = 0 then (-3, m_found σ 4) else (1, mU σ 0 1 (sumL (fun i => a_get σ (5 + 2 * ix r) (nI i)) (ix (σ (5 + 2 * ix r) 0)) / (σ (5 + 2 * ix r) 0).toInt64).toInt32)) else (-1, σ)
def k_put (σ : Mem) (t i v : Int32) : Int32 × Mem := if a_in t 4 = true then (if a_findAt σ (17 + 2 * ix t) i = 0 then (a_get σ (17 + 2 * ix t) i + 1000, m_set σ (17 + 2 * ix t) i v.toInt8.toInt32) else (-3, m_found σ (a_findAt σ (17 + 2 * ix t) i))) else (-1, σ)
def k_fault (σ : Mem) (t : Int32) : Int32 × Mem := if a_in t 4 = true then (if σ (17 + 2 * ix t) 0 < 0 then (-3, m_found σ 1) else rd0 39 (17 + 2 * ix t) σ) else (-1, σ)
def m_kept0 (σ : Mem) : Nat → Mem
  | 0 => σ
  | k + 1 => mU (m_kept0 σ k) (27 + 2 * k) 0 (-1)
theorem m_kept0_n (σ : Mem) {q : Nat} (h : ∀ k, q ≠ 27 + 2 * k) : ∀ n, m_kept0 σ n q = σ q
  | 0 => rfl
  | n + 1 => (mU_n _ _ _ (h n)).trans (m_kept0_n σ h n)
def k_nave (σ : Mem) (t : Int32) : Int32 × Mem := if a_in t 4 = true then (if σ (17 + 2 * ix t) 0 < 0 then (-3, m_found σ 1) else if (rd0 39 (17 + 2 * ix t) σ).1 = -9 then
    ((rd0 33 (17 + 2 * ix t) (rd0 39 (17 + 2 * ix t) σ).2).2 33 0, m_kept0 (mU (m_begin (rd0 33 (17 + 2 * ix t) (rd0 39 (17 + 2 * ix t) σ).2).2 45) 25 0 0) 3)
  else (-4, (rd0 39 (17 + 2 * ix t) σ).2)) else (-1, σ)
def k_pole (σ : Mem) (k what : Int32) : Int32 × Mem := if a_isPole (vP σ 33) k = true then (if what < 0 then (-1, σ) else if what < 8 then (1, mU σ 0 1 (a_ofPole (vP σ 33) (vS σ 45) k what)) else (-1, σ)) else (-1, σ)
def k_one (σ : Mem) (i what : Int32) : Int32 × Mem := if a_isOne (vP σ 33) i = true then (if what < 0 then (-1, σ) else if what < 4 then (1, mU σ 0 1 (a_ofOne (vP σ 33) (vS σ 45) i what)) else (-1, σ)) else (-1, σ)
def a_mark (P S : PT) (k kind : Int32) : Int32 := if kind = 1 then a_bearsAs P S k 0 - a_bearsNow P S k else if kind = 2 then 100 + a_bearsNow P S k - a_bearsAs P S k 0 else if kind = 3 then a_bearsAs P S k 2 - a_bearsNow P S k else if kind = 4 then a_bearsNow P S k - a_bearsAs P S k 2 else a_bearsNow P S k - a_bearsAs P S k 1
def k_mark (σ : Mem) (k kind : Int32) : Int32 × Mem := if a_isPole (vP σ 33) k = true then (if kind < 1 then (-1, σ) else if 5 < kind then (-1, σ) else if a_isOf (σ 34 (ix k)) kind = true then (a_mark (vP σ 33) (vS σ 45) k kind, σ) else (-3, m_found σ 3)) else (-1, σ)
def k_bears (σ : Mem) (k wear : Int32) : Int32 := if a_isPole (vP σ 33) k = true then (if wear < 0 then -1 else if 20 < wear then -1 else a_bears (vP σ 33) k wear) else -1
-- deeds
def k_do (σ : Mem) (d : Int32) : Int32 × Mem := if σ 25 0 < 40 then (a_apply (m_add σ 25 d) 45 d, m_apply (m_add σ 25 d) 45 d) else (-2, σ)
def dCode (what i k : Int32) : Int32 := what * 100 + i * 10 + k
def k_sit (σ : Mem) (i k : Int32) : Int32 × Mem := if a_isOne (vP σ 33) i = true then (if a_isPole (vP σ 33) k = true then (if a_isSeated (vP σ 33) (vS σ 45) i = true then (-4, σ) else if a_isUp (vP σ 33) (vS σ 45) k = true then k_do σ (dCode 0 i k) else (-4, σ)) else (-1, σ)) else (-1, σ)
def k_down (σ : Mem) (i : Int32) : Int32 × Mem := if a_isOne (vP σ 33) i = true then (if a_isSeated (vP σ 33) (vS σ 45) i = true then k_do σ (dCode 1 i 0) else (-4, σ)) else (-1, σ)
def k_lace (σ : Mem) (k : Int32) : Int32 × Mem := if a_isPole (vP σ 33) k = true then (if a_isUp (vP σ 33) (vS σ 45) k = true then k_do σ (dCode 2 0 k) else (-4, σ)) else (-1, σ)
def k_stone (σ : Mem) : Int32 × Mem := if σ 33 0 = 0 then (-4, σ) else k_do σ (dCode 3 0 0)
def k_year (σ : Mem) : Int32 × Mem := if σ 33 0 = 0 then (-4, σ) else k_do σ (dCode 4 0 0)
def k_undo (σ : Mem) (n : Int32) : Int32 × Mem := if n < 0 then (-1, σ) else if σ 25 0 < n then (-1, σ) else (σ 25 0 - n, m_replay (mU σ 25 0 n))
def k_keep (σ : Mem) (k : Int32) : Int32 × Mem := if a_in k 3 = true then (if σ 33 0 = 0 then (-4, σ) else (m_takeD σ (27 + 2 * ix k) 25 25 0, m_takeD σ (27 + 2 * ix k) 25)) else (-1, σ)
def k_on (σ : Mem) (k : Int32) : Int32 × Mem := if a_in k 3 = true then (if σ (27 + 2 * ix k) 0 = -1 then (-3, m_found σ 1) else (m_replay (m_takeD σ 25 (27 + 2 * ix k)) 25 0, m_replay (m_takeD σ 25 (27 + 2 * ix k)))) else (-1, σ)
-- aside
def a_excess (P S : PT) : Int32 := a_sum (fun k => if a_isUp P S (nI k) = true then imax 0 (a_load P S (nI k) - a_bearsNow P S (nI k)) else 0) (nPl P)
def k_holds (σ : Mem) : Int32 × Mem := if σ 33 0 = 0 then (-4, σ) else (a_standing (vP σ 33) (vS σ 45), mU σ 0 1 (a_excess (vP σ 33) (vS σ 45)))
/-- the first place with f, n if none -/
def fstN (f : Nat → Bool) : Nat → Nat
  | 0 => 0
  | n + 1 => if fstN f n = n then (if f n = true then n else n + 1) else fstN f n
theorem fstN_s {f : Nat → Bool} {j : Nat} (h : fstN f j = j) (b : f j = false) : fstN f (j + 1) = j + 1 := by
  rw [fstN, if_pos h, b]; rfl
theorem fstN_b {f : Nat → Bool} {j : Nat} (h : fstN f j = j) (b : f j = true) : ∀ n, j < n → fstN f n = j
  | 0, hn => absurd hn (Nat.not_lt_zero _)
  | n + 1, hn => by
    rw [fstN]
    by_cases e : j = n
    · subst e; rw [if_pos h, b]; rfl
    · have hj := fstN_b h b n (by omega)
      rw [hj, if_neg e]
def wornN (laden w0 : Int32) : Nat → Int32
  | 0 => w0
  | n + 1 => a_worn (wornN laden w0 n) laden
def gv_at (P : PT) (k load w0 : Int32) (j : Nat) : Bool := decide (a_bears P k (wornN (if 0 < load then 1 else 0) w0 j) < load)
def a_gives (P S : PT) (k : Int32) : Int32 := if fstN (gv_at P k (a_load P S k) (S 1 (ix k))) 40 = 40 then -9 else nI (fstN (gv_at P k (a_load P S k) (S 1 (ix k))) 40 + 1)
def k_gives (σ : Mem) (k : Int32) : Int32 := if a_isPole (vP σ 33) k = true then (if a_isUp (vP σ 33) (vS σ 45) k = true then a_gives (vP σ 33) (vS σ 45) k else -9) else -1
def m_yearsN (σ : Mem) : Nat → Mem
  | 0 => σ
  | n + 1 => m_year (m_yearsN σ n) 48
theorem m_yearsN_n (σ : Mem) {q : Nat} (h : q ≠ 48 ∧ q ≠ 49 ∧ q ≠ 50) : ∀ n, m_yearsN σ n q = σ q
  | 0 => rfl
  | n + 1 => (m_year_n _ _ h.1 h.2.1 h.2.2).trans (m_yearsN_n σ h n)
def k_later (σ : Mem) (n : Int32) : Int32 × Mem := if n < 0 then (-1, σ) else if 40 < n then (-1, σ) else if σ 33 0 = 0 then (-4, σ) else
  (a_highAll (vP σ 33) (vS (m_yearsN (m_takeS σ) (ix n)) 48), mU (m_yearsN (m_takeS σ) (ix n)) 0 1 (m_yearsN (m_takeS σ) (ix n) 48 0))
def k_best (σ : Mem) (r : Int32) : Int32 × Mem := if a_in r 6 = true then (if σ 33 0 = 0 then (-4, σ) else
  (m_takeR (s_high (vP σ 33) (nPe (vP σ 33)) (m_sBegin σ) 0 0) (5 + 2 * ix r) 55 (s_high (vP σ 33) (nPe (vP σ 33)) (m_sBegin σ) 0 0 33 1) 51 0,
   m_takeR (s_high (vP σ 33) (nPe (vP σ 33)) (m_sBegin σ) 0 0) (5 + 2 * ix r) 55 (s_high (vP σ 33) (nPe (vP σ 33)) (m_sBegin σ) 0 0 33 1))) else (-1, σ)
def k_fewest (σ : Mem) : Int32 × Mem := if σ 33 0 = 0 then (-4, σ) else if s_all (vP σ 33) (nPe (vP σ 33)) (m_sBegin σ) 0 0 51 1 = -9 then (-9, s_all (vP σ 33) (nPe (vP σ 33)) (m_sBegin σ) 0 0)
  else (a_pop (s_all (vP σ 33) (nPe (vP σ 33)) (m_sBegin σ) 0 0 51 1), mU (s_all (vP σ 33) (nPe (vP σ 33)) (m_sBegin σ) 0 0) 0 1 (s_all (vP σ 33) (nPe (vP σ 33)) (m_sBegin σ) 0 0 51 1))
/-- someone of a row's told places can't sit there -/
def sd_bad (σ : Mem) (o : Nat) (i : Nat) : Bool := !decide (a_get σ o (nI i) = -9) && !a_isUp (vP σ 33) (vS σ 45) (a_get σ o (nI i))
def m_seated (σ : Mem) (o n : Nat) : Mem := mF (m_takeS σ) 50 n (fun i => a_get σ o (nI i))
def k_seated (σ : Mem) (r : Int32) : Int32 × Mem := if a_in r 6 = true then (if σ 33 0 = 0 then (-4, σ) else if σ (5 + 2 * ix r) 0 < 0 then (-3, m_found σ 1) else if σ (5 + 2 * ix r) 0 = σ 33 1 then
    (if fstN (sd_bad σ (5 + 2 * ix r)) (nPe (vP σ 33)) = nPe (vP σ 33) then
      (a_pop (a_up (vP σ 33) (vS (m_seated σ (5 + 2 * ix r) (nPe (vP σ 33))) 48) &&& (a_standing (vP σ 33) (vS (m_seated σ (5 + 2 * ix r) (nPe (vP σ 33))) 48) ^^^ -1)), mU (m_seated σ (5 + 2 * ix r) (nPe (vP σ 33))) 0 1 (a_highAll (vP σ 33) (vS (m_seated σ (5 + 2 * ix r) (nPe (vP σ 33))) 48)))
     else (-3, m_found (m_seated σ (5 + 2 * ix r) (fstN (sd_bad σ (5 + 2 * ix r)) (nPe (vP σ 33)))) 3))
  else (-3, m_found σ 5)) else (-1, σ)
def k_laces (σ : Mem) (n r : Int32) : Int32 × Mem := if a_in r 6 = true then (if n < 0 then (-1, σ) else if 5 < n then (-1, σ) else if σ 33 0 = 0 then (-4, σ) else
  if n < s_lace (vP σ 33) (ix n) (m_lBegin (vP σ 33) (vS σ 45) σ n) 0 0 56 2 then (-9, s_lace (vP σ 33) (ix n) (m_lBegin (vP σ 33) (vS σ 45) σ n) 0 0)
  else (m_takeR (s_lace (vP σ 33) (ix n) (m_lBegin (vP σ 33) (vS σ 45) σ n) 0 0) (5 + 2 * ix r) 66 n 56 2, m_takeR (s_lace (vP σ 33) (ix n) (m_lBegin (vP σ 33) (vS σ 45) σ n) 0 0) (5 + 2 * ix r) 66 n)) else (-1, σ)
-- triples
def a_within (v most : Int32) : Bool := !decide (v < 0) && decide (v ≤ most)
def tri_bad (σ : Mem) (o : Nat) (j : Nat) : Bool := !a_within (a_get σ o (nI (3 * j))) 20 || (!a_within (a_get σ o (nI (3 * j + 1))) 99 || !a_within (a_get σ o (nI (3 * j + 2))) 1)
def triN (σ : Mem) (o : Nat) : Nat := (ix (σ o 0) + 2) / 3
def a_triF (σ : Mem) (o : Nat) : Int32 := if σ o 0 < 0 then 1 else if σ o 0 - σ o 0 / 3 * 3 = 0 then (if fstN (tri_bad σ o) (triN σ o) = triN σ o then 0 else 3) else 5
def ag_bad (σ : Mem) (o : Nat) (kind tall strong : Int32) (j : Nat) : Bool := !decide ((if a_bearing kind tall strong (a_get σ o (nI (3 * j))) < a_get σ o (nI (3 * j + 1)) then (0 : Int32) else 1) = (if a_get σ o (nI (3 * j + 2)) = 1 then (1 : Int32) else 0))
def a_agrees (σ : Mem) (o : Nat) (kind tall strong : Int32) : Bool := decide (fstN (ag_bad σ o kind tall strong) (triN σ o) = triN σ o)
def a_kindsBy (σ : Mem) (o : Nat) (k : Int32) : Int32 := a_bits (fun d => a_agrees σ o (nI d) (σ 35 (ix k)) (σ 36 (ix k))) 6
def st_least (f : Nat → Bool) : Nat → Int32
  | 0 => -9
  | n + 1 => if f n = true then (if st_least f n = -9 then nI n else st_least f n) else st_least f n
def a_count (f : Nat → Bool) : Nat → Int32
  | 0 => 0
  | n + 1 => if f n = true then a_count f n + 1 else a_count f n
def st_f (σ : Mem) (o : Nat) (k : Int32) (j : Nat) : Bool := a_agrees σ o (σ 34 (ix k)) (σ 35 (ix k)) (nI j)
def k_strengths (σ : Mem) (k r : Int32) : Int32 × Mem := if a_in r 6 = true then (if a_isPole (vP σ 33) k = true then (if a_triF σ (5 + 2 * ix r) = 0 then
   (if a_count (st_f σ (5 + 2 * ix r) k) 61 = 0 then (-9, σ) else (a_count (st_f σ (5 + 2 * ix r) k) 61, mU σ 0 1 (st_least (st_f σ (5 + 2 * ix r) k) 61)))
   else (-3, m_found σ (a_triF σ (5 + 2 * ix r)))) else (-1, σ)) else (-1, σ)
def k_kinds (σ : Mem) (k r : Int32) : Int32 × Mem := if a_in r 6 = true then (if a_isPole (vP σ 33) k = true then (if a_triF σ (5 + 2 * ix r) = 0 then (a_kindsBy σ (5 + 2 * ix r) k, σ) else (-3, m_found σ (a_triF σ (5 + 2 * ix r)))) else (-1, σ)) else (-1, σ)
def te_part (P S : PT) (k poss : Int32) (j : Nat) : Int32 := imax (a_manyHold P S k poss (nI j)) (a_pop poss - a_manyHold P S k poss (nI j))
def te_least (g : Nat → Int32) : Nat → Int32
  | 0 => 7
  | n + 1 => if g n < te_least g n then g n else te_least g n
def te_first (g : Nat → Int32) : Nat → Int32
  | 0 => 0
  | n + 1 => if g n < te_least g n then nI n else te_first g n
def k_test (σ : Mem) (k r : Int32) : Int32 × Mem := if a_in r 6 = true then (if a_isPole (vP σ 33) k = true then (if a_triF σ (5 + 2 * ix r) = 0 then
   (if a_kindsBy σ (5 + 2 * ix r) k = 0 then (-9, σ) else (te_first (te_part (vP σ 33) (vS σ 45) k (a_kindsBy σ (5 + 2 * ix r) k)) 100, mU σ 0 1 (te_least (te_part (vP σ 33) (vS σ 45) k (a_kindsBy σ (5 + 2 * ix r) k)) 100)))
   else (-3, m_found σ (a_triF σ (5 + 2 * ix r)))) else (-1, σ)) else (-1, σ)
def k_duel (σ : Mem) (n : Int32) : Int32 × Mem := if n < 0 then (-1, σ) else if 4 < n then (-1, σ) else if σ 33 0 = 0 then (-4, σ) else
  (g_val (vP σ 33) (ix n) true (m_gBegin (vP σ 33) (vS σ 45) σ) (-1) 1000, m_gBegin (vP σ 33) (vS σ 45) σ)
-- twelfths
def tw (t : Int32) : Nat → Nat
  | 0 => 0
  | d + 1 => if d = 0 then 1 else if t - t / nI (d + 1) * nI (d + 1) = 0 ∧ (12 : Int32) - 12 / nI (d + 1) * nI (d + 1) = 0 then d + 1 else tw t d
def m_tw (σ : Mem) (t : Int32) : Mem := mU (mU σ 0 2 (t / nI (tw t 12))) 0 3 (12 / nI (tw t 12))
def k_odds (σ : Mem) (i p : Int32) : Int32 × Mem := if a_isOne (vP σ 33) i = true then (if p < 0 then (-1, σ) else if 12 < p then (-1, σ) else (1, m_tw σ (if a_stands (vP σ 33) (vS σ 45) (σ 47 (ix i)) = true then 12 - p else 0))) else (-1, σ)
def k_mid (σ : Mem) (p : Int32) : Int32 × Mem := if p < 0 then (-1, σ) else if 12 < p then (-1, σ) else if σ 33 0 = 0 then (-4, σ) else (1, m_tw σ (a_highStanding (vP σ 33) (vS σ 45) * (12 - p)))
def lot1 (x : Int64) : Int64 := x * 48271 - x * 48271 / 2147483647 * 2147483647
def lotN (x : Int64) : Nat → Int64
  | 0 => x
  | n + 1 => lot1 (lotN x n)
def a_byLot (σ : Mem) (lot : Int32) : Int32 := if lot - lot / 3 * 3 = 0 then dCode 4 0 0 else if σ 33 1 < 1 then dCode 4 0 0 else if σ 33 0 < 1 then dCode 4 0 0 else
  if a_isSeated (vP σ 33) (vS σ 45) (lot / 8 - lot / 8 / σ 33 1 * σ 33 1) = true then dCode 1 (lot / 8 - lot / 8 / σ 33 1 * σ 33 1) 0
  else if a_isUp (vP σ 33) (vS σ 45) (lot / 64 - lot / 64 / σ 33 0 * σ 33 0) = true then dCode 0 (lot / 8 - lot / 8 / σ 33 1 * σ 33 1) (lot / 64 - lot / 64 / σ 33 0 * σ 33 0) else dCode 3 0 0
def m_lots (σ : Mem) (x : Int64) : Nat → Mem
  | 0 => σ
  | n + 1 => (k_do (m_lots σ x n) (a_byLot (m_lots σ x n) (lotN x (n + 1)).toInt32)).2
def k_lots (σ : Mem) (n seed : Int32) : Int32 × Mem := if n < 1 then (-1, σ) else if 20 < n then (-1, σ) else if seed < 1 then (-1, σ) else if 2147483646 < seed then (-1, σ) else if σ 33 0 = 0 then (-4, σ) else if 40 < σ 25 0 + n then (-2, σ) else
  (a_highAll (vP σ 33) (vS (m_lots σ seed.toInt64 (ix n)) 45), m_lots σ seed.toInt64 (ix n))
-- what is told
def a_manyThere (σ : Mem) (b n : Nat) : Int32 := a_sum (fun j => if σ (b + 2 * j) 0 < 0 then 0 else 1) n
def a_manyKept (σ : Mem) : Int32 := a_sum (fun j => if σ (27 + 2 * j) 0 = -1 then 0 else 1) 3
def a_tally (σ : Mem) (what : Int32) : Int32 := if what = 0 then σ 33 0 else if what = 1 then σ 33 1 else if what = 2 then σ 25 0 else if what = 3 then σ 45 1 else if what = 4 then σ 45 0 else if what = 5 then a_seatedPeople (vP σ 33) (vS σ 45) else if what = 6 then a_highAll (vP σ 33) (vS σ 45) else if what = 7 then σ 45 2 else if what = 8 then a_manyThere σ 5 6 else if what = 9 then a_manyThere σ 17 4 else if what = 10 then a_manyKept σ else a_manyLaced (vP σ 33)
def k_count (σ : Mem) (what : Int32) : Int32 := if what < 0 then -1 else if 12 ≤ what then -1 else a_tally σ what
def k_findings (σ : Mem) (f : Int32) : Int32 := if f < 1 then -1 else if 5 < f then -1 else σ 4 (ix f)
def foldL (f : Nat → Int32) (h : Int64) : Nat → Int64
  | 0 => h
  | n + 1 => 31 * foldL f h n + (f n).toInt64
def foldLL (f : Nat → Int64 → Int64) (h : Int64) : Nat → Int64
  | 0 => h
  | n + 1 => f n (foldLL f h n)
def dg_row (σ : Mem) (o : Nat) (h : Int64) : Int64 := foldL (fun i => a_get σ o (nI i)) (31 * h + (σ o 0).toInt64) (ix (σ o 0))
def dg_rows (σ : Mem) (b n : Nat) (h : Int64) : Int64 := foldLL (fun r => dg_row σ (b + 2 * r)) h n
def dg_poles (P S : PT) (h : Int64) : Int64 := foldLL (fun k h => foldL (fun w => a_ofPole P S (nI k) (nI w)) h 8) h (nPl P)
def dg_ones (P S : PT) (h : Int64) : Int64 := foldLL (fun i h => foldL (fun w => a_ofOne P S (nI i) (nI w)) h 4) h (nPe P)
def k_digest (σ : Mem) : Int64 := dg_rows σ 17 4 (dg_rows σ 5 6 (foldL (fun k => σ (27 + 2 * k) 0) (dg_ones (vP σ 33) (vS σ 45) (dg_poles (vP σ 33) (vS σ 45) (foldL (fun w => a_tally σ (nI w)) 17 12))) 3))
section XCG
variable {p : Program} {l : Launch} {e : Env} {R : Room} {s : State} {m : MethodId} {args : Array Value} {below : List Frame} {meth : Method} {c : Code} {H : Heap} {locs : List Loc} {cells slots : Nat} {Q : State → Prop}
variable {cc : ByteArray} {pc nL : Nat} {ls : Array Slot} {rest : List Value} {G : GT} {N : Nat} {own : String} {ret : Option FieldType} {cs : Mem → Nat → va_E} {σ : Mem}
/-- System.arraycopy between two rows of ints, or in one -/
theorem xcopyG (ha : Amb p c cc nL s args own m meth ret G N) (hP : va_P G.2.1 vwCl (wl G N (cs σ)) H) (hS : va_S (xA G N s.heap.size) s.heap H locs) (hloc : xLoc cs) {index : Nat} (hw : Cond.methodLink own index arraycopyName ∈ TB) (q0 q1 : Nat) (h0 : q0 < N) (h1 : q1 < N) {n0 n1 : Nat} (hc0 : ∀ τ : Mem, cs τ q0 = .inl (G.2.2 0, n0, .inl (τ q0))) (hc1 : ∀ τ : Mem, cs τ q1 = .inl (G.2.2 0, n1, .inl (τ q1))) {sp dp n : Int32} (hs : ¬ sp < 0) (hd : ¬ dp < 0) (hn : ¬ n < 0) (hk0 : ix sp + ix n ≤ n0) (hk1 : ix dp + ix n ≤ n1) (hf : 1 ≤ R.frames) (hlo : (rest.map fun v => v.category).sum + (nativeFrameWords "java/lang/System" "arraycopy" 5 + 11) ≤ R.locals) (hls : ls.size = nL) (hdg : decode cc pc = .ok (.invokestatic index, 3))
    (kk : ∀ (H : Heap) (locs : List Loc), va_P G.2.1 vwCl (wl G N (cs (mA σ q1 (va_cpy (σ q0) (σ q1) (ix sp) (ix dp) (ix n))))) H → va_S (xA G N s.heap.size) s.heap H locs → W p l e R s m args below meth c H locs cells slots Q (F0 m (pc + 3) ls rest)) : W p l e R s m args below meth c H locs cells slots Q (F0 m pc ls (.int n :: .int dp :: .ref (G.1 q1) :: .int sp :: .ref (G.1 q0) :: rest)) := by
  obtain ⟨hx, hb, hml, hown, hts, -, -, hK, hD, -⟩ := ha
  refine va_copyi (D := G.2.1) hx hb (hml.trans hls.symm) hown (hts _ hw) (hts _ (tb_in (by decide +kernel))) (hts _ (tb_in (by decide +kernel))) (hts _ (tb_in (by decide +kernel))) hK hP (wl_D hD) hS q0 q1 0 0 (by rw [wl_get h0, hc0]) (by rw [wl_get h1, hc1]) rfl rfl rfl hs hd hn hk0 hk1 (fun i hi => rfl) hf hlo hdg ?_
  intro H1 locs1 hP1 hD1 hS1
  refine kk H1 locs1 ?_ hS1
  rw [wl_set h1, xup hloc (τ := mA σ q1 (va_cpy (σ q0) (σ q1) (ix sp) (ix dp) (ix n))) (fun q hq => mA_n _ _ hq) (by rw [hc1, mA_s]; rfl)] at hP1
  exact hP1
end XCG
theorem run_t {σ : Mem} {o : Nat} {i n : Int32} (h : a_run σ o i n = true) (hz : (σ o 0).toInt ≤ 60) (h0 : ¬ σ o 0 < 0) : ¬ i < 0 ∧ ix i + ix n ≤ 60 := by
  simp only [a_run, Bool.and_eq_true, decide_eq_true_eq, Bool.not_eq_true', decide_eq_false_iff_not] at h
  have h1 := i_nlt h.1
  have h2 := i_nlt h.2.1
  have h3 := i_le h.2.2
  have h4 := i_nlt h0
  have h5 := ix_toInt h1
  have h6 := ix_toInt h2
  have h7 : n.toInt < 2 ^ 31 := Int32.toInt_lt n
  rw [show (0 : Int32).toInt = 0 by decide] at *
  have h8 : (σ o 0 - n).toInt = (σ o 0).toInt - n.toInt := by
    rw [Int32.toInt_sub]
    exact Int.bmod_eq_of_le (by omega) (by omega)
  exact ⟨h.1, by omega⟩
theorem PO_found {p : Nat} {σ : Mem} (h : PO p σ) (f : Int32) (h0 : p ≠ 0 ∧ p ≠ 4) : PO p (m_found σ f) := PO_eq h (m_found_n _ _ h0)
