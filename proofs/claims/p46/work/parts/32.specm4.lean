/-! the model: what holds, triples -/
def b_exc (P S : PT) : Int32 := a_sum (fun k => if a_isUp P S (nI k) = true then (if a_load P S (nI k) ≤ a_bearsNow P S (nI k) then 0 else a_load P S (nI k) - a_bearsNow P S (nI k)) else 0) (nPl P)
def n_holds (σ : Mem) : Int32 × Mem := if σ 0 4 = 0 then (-4, σ) else (a_standing (pM σ) (sM σ 11), mU σ 0 0 (b_exc (pM σ) (sM σ 11)))
def yM (P : PT) (σ : Mem) : Nat → Mem
  | 0 => w_aside σ
  | j + 1 => w_year P (yM P σ j) 12
def gf (P : PT) (σ : Mem) (k : Int32) (j : Nat) : Bool := b_has (y_gave P (sM (yM P σ j) 12)) k
def n_gives (σ : Mem) (k : Int32) : Int32 × Mem := if a_isPole (pM σ) k = true then (if fstN (gf (pM σ) σ k) 40 = 40 then (-9, yM (pM σ) σ 40) else (nI (fstN (gf (pM σ) σ k) 40 + 1), yM (pM σ) σ (fstN (gf (pM σ) σ k) 40 + 1))) else (-1, σ)
def n_later (σ : Mem) (n : Int32) : Int32 × Mem := if b_in n.toInt64 0 40 = true then (if σ 0 4 = 0 then (-4, σ) else (a_highAll (pM σ) (sM (yM (pM σ) σ (ix n)) 12), mU (yM (pM σ) σ (ix n)) 0 0 (yM (pM σ) σ (ix n) 12 4))) else (-1, σ)
def b_fail (P S : PT) : Int32 := a_sum (fun k => if a_isUp P S (nI k) = true then (if a_load P S (nI k) ≤ a_bearsNow P S (nI k) then 0 else 1) else 0) (nPl P)
theorem SV_year {P : PT} {σ : Mem} {t : Nat} (hl : nPl P ≤ 4) (h5 : nPe P ≤ 5) (h : SV P σ t) : SV P (w_year P σ t) t := by
  intro i hi
  have e : w_year P σ t t (5 + i) = y_seat P (sM σ t) (y_gave P (sM σ t)) i := by
    unfold w_year w_seat w_wear
    rw [mU_e, if_pos rfl, if_neg (by omega), mU_e, if_pos rfl, if_neg (by omega), mG_e, if_pos rfl, if_pos (by omega), show 5 + i - 5 = i by omega]
  rw [e]
  unfold y_seat
  have h1 := h i hi
  have e2 : sM σ t 2 i = σ t (5 + i) := rfl
  split
  · split
    · exact Or.inl rfl
    · rw [e2]; exact h1
  · rw [e2]; exact h1
theorem SV_aside {P : PT} {σ : Mem} (h5 : nPe P ≤ 5) (h : SV P σ 11) : SV P (w_aside σ) 12 := by
  intro i hi
  rw [w_aside_12 _ (by omega)]
  exact h i hi
theorem SV_yM {P : PT} {σ : Mem} (hl : nPl P ≤ 4) (h5 : nPe P ≤ 5) (h : SV P σ 11) : ∀ j, SV P (yM P σ j) 12
  | 0 => SV_aside h5 h
  | j + 1 => SV_year hl h5 (SV_yM hl h5 h j)
def tNM (σ : Mem) (r : Nat) : Nat := (ix (σ 2 r) + 2) / 3
def rt_bad (σ : Mem) (r : Nat) (j : Nat) : Bool := !b_in (σ 1 (40 * r + 3 * j)).toInt64 0 20 || (!b_in (σ 1 (40 * r + 3 * j + 1)).toInt64 0 99 || !b_in (σ 1 (40 * r + 3 * j + 2)).toInt64 0 1)
def n_ref (σ : Mem) (r : Int32) : Int32 × Mem := if σ 2 (ix r) < 0 then (-3, n_found σ 1) else if σ 2 (ix r) - σ 2 (ix r) / 3 * 3 = 0 then (if fstN (rt_bad σ (ix r)) (tNM σ (ix r)) = tNM σ (ix r) then (0, σ) else (-3, n_found σ 3)) else (-3, n_found σ 5)
theorem ref_0 {σ : Mem} {r : Int32} (h : (n_ref σ r).1 = 0) : (n_ref σ r).2 = σ ∧ ¬ σ 2 (ix r) < 0 ∧ σ 2 (ix r) - σ 2 (ix r) / 3 * 3 = 0 ∧ fstN (rt_bad σ (ix r)) (tNM σ (ix r)) = tNM σ (ix r) := by
  unfold n_ref at h ⊢
  by_cases h1 : σ 2 (ix r) < 0
  · rw [if_pos h1] at h; exact absurd h (show ¬ (-3 : Int32) = 0 by decide)
  · rw [if_neg h1] at h ⊢
    by_cases h2 : σ 2 (ix r) - σ 2 (ix r) / 3 * 3 = 0
    · rw [if_pos h2] at h ⊢
      by_cases h3 : fstN (rt_bad σ (ix r)) (tNM σ (ix r)) = tNM σ (ix r)
      · rw [if_pos h3]; exact ⟨rfl, h1, h2, h3⟩
      · rw [if_neg h3] at h; exact absurd h (show ¬ (-3 : Int32) = 0 by decide)
    · rw [if_neg h2] at h; exact absurd h (show ¬ (-3 : Int32) = 0 by decide)
theorem rem_i {a b : Int32} (ha : 0 ≤ a.toInt) (hb : 0 < b.toInt) : (a / b).toInt = a.toInt / b.toInt ∧ (a - a / b * b).toInt = a.toInt % b.toInt := by
  have h7 : a.toInt < 2 ^ 31 := Int32.toInt_lt a
  have h8 : b.toInt < 2 ^ 31 := Int32.toInt_lt b
  have h1 : (a / b).toInt = a.toInt / b.toInt := by
    rw [Jvm.Kit.i32_div (by omega), Int.tdiv_eq_ediv_of_nonneg ha]
  refine ⟨h1, ?_⟩
  have h4 := Int.emod_def a.toInt b.toInt
  have h5 := Int.emod_nonneg a.toInt (show b.toInt ≠ 0 by omega)
  have h6 := Int.emod_lt_of_pos a.toInt hb
  have h9 : 0 ≤ b.toInt * (a.toInt / b.toInt) := Int.mul_nonneg (by omega) (Int.ediv_nonneg ha (by omega))
  rw [Int32.toInt_sub, Int32.toInt_mul, h1, Int.mul_comm (a.toInt / b.toInt) b.toInt]
  generalize b.toInt * (a.toInt / b.toInt) = z at *
  rw [Int.bmod_eq_of_le (n := z) (by omega) (by omega), Int.bmod_eq_of_le (by omega) (by omega)]
  omega
theorem tN_3 {σ : Mem} {r : Nat} (h0 : ¬ σ 2 r < 0) (h : σ 2 r - σ 2 r / 3 * 3 = 0) : 3 * tNM σ r = ix (σ 2 r) := by
  have k0 := i_nlt h0
  rw [show (0 : Int32).toInt = 0 by decide] at k0
  have h1 := (rem_i k0 (show 0 < (3 : Int32).toInt by decide)).2
  rw [h, show (0 : Int32).toInt = 0 by decide, show (3 : Int32).toInt = 3 by decide] at h1
  have h2 := ix_toInt k0
  unfold tNM
  omega
def ft_ok (P : PT) (σ : Mem) (kind k strong : Int32) (r j : Nat) : Bool := decide ((if a_bearing kind (P 2 (ix k)) strong (σ 1 (40 * r + 3 * j)) < σ 1 (40 * r + 3 * j + 1) then (0 : Int32) else 1) = (if σ 1 (40 * r + 3 * j + 2) = 1 then (1 : Int32) else 0))
def all_b (f : Nat → Bool) : Nat → Bool
  | 0 => true
  | n + 1 => all_b f n && f n
def b_fits (P : PT) (σ : Mem) (kind k strong : Int32) (r : Nat) : Bool := all_b (ft_ok P σ kind k strong r) (tNM σ r)
/-- strengths, from the most to the least -/
def sg_f (P : PT) (σ : Mem) (k : Int32) (r : Nat) (j : Nat) : Bool := b_fits P σ (P 1 (ix k)) k (nI (60 - j)) r
def sg_many (f : Nat → Bool) : Nat → Int32
  | 0 => 0
  | n + 1 => sg_many f n + (if f n = true then 1 else 0)
def sg_least (f : Nat → Bool) : Nat → Int32
  | 0 => 0
  | n + 1 => if f n = true then nI (60 - n) else sg_least f n
def n_str (σ : Mem) (k r : Int32) : Int32 × Mem := if a_isPole (pM σ) k = true then (if a_in r 6 = true then (if (n_ref σ r).1 = 0 then (if sg_many (sg_f (pM σ) σ k (ix r)) 61 = 0 then (-9, σ) else (sg_many (sg_f (pM σ) σ k (ix r)) 61, mU σ 0 0 (sg_least (sg_f (pM σ) σ k (ix r)) 61))) else n_ref σ r) else (-1, σ)) else (-1, σ)
def b_kindsBy (P : PT) (σ : Mem) (k : Int32) (r : Nat) : Int32 := a_bits (fun d => b_fits P σ (nI d) k (P 3 (ix k)) r) 6
def n_kinds (σ : Mem) (k r : Int32) : Int32 × Mem := if a_isPole (pM σ) k = true then (if a_in r 6 = true then (if (n_ref σ r).1 = 0 then (b_kindsBy (pM σ) σ k (ix r), σ) else n_ref σ r) else (-1, σ)) else (-1, σ)
def tt_hold (P : PT) (σ : Mem) (k set load : Int32) : Int32 := a_sum (fun d => if b_has set (nI d) = true then (if a_bearing (nI d) (P 2 (ix k)) (P 3 (ix k)) (σ 11 (ix k)) < load then 0 else 1) else 0) 6
def tt_part (P : PT) (σ : Mem) (k set : Int32) (j : Nat) : Int32 := if b_cnt 33 set - tt_hold P σ k set (nI j) < tt_hold P σ k set (nI j) then tt_hold P σ k set (nI j) else b_cnt 33 set - tt_hold P σ k set (nI j)
def tt_least (g : Nat → Int32) : Nat → Int32
  | 0 => 1000000
  | n + 1 => if g n < tt_least g n then g n else tt_least g n
def tt_best (g : Nat → Int32) : Nat → Int32
  | 0 => 0
  | n + 1 => if g n < tt_least g n then nI n else tt_best g n
def n_test (σ : Mem) (k r : Int32) : Int32 × Mem := if a_isPole (pM σ) k = true then (if a_in r 6 = true then (if (n_ref σ r).1 = 0 then (if b_kindsBy (pM σ) σ k (ix r) = 0 then (-9, σ) else (tt_best (tt_part (pM σ) σ k (b_kindsBy (pM σ) σ k (ix r))) 100, mU σ 0 0 (tt_least (tt_part (pM σ) σ k (b_kindsBy (pM σ) σ k (ix r))) 100))) else n_ref σ r) else (-1, σ)) else (-1, σ)
/-- sets as numbers -/
theorem nI_or (a b : Nat) (ha : a < 2 ^ 30) (hb : b < 2 ^ 30) : nI a ||| nI b = nI (a ||| b) := by
  apply Int32.toBitVec_inj.mp
  apply BitVec.eq_of_toNat_eq
  have h : (a ||| b) < 2 ^ 30 := Nat.or_lt_two_pow ha hb
  rw [Int32.toBitVec_or, BitVec.toNat_or]
  show (BitVec.ofNat 32 a).toNat ||| (BitVec.ofNat 32 b).toNat = (BitVec.ofNat 32 (a ||| b)).toNat
  rw [BitVec.toNat_ofNat, BitVec.toNat_ofNat, BitVec.toNat_ofNat, Nat.mod_eq_of_lt (by omega), Nat.mod_eq_of_lt (by omega), Nat.mod_eq_of_lt (by omega)]
theorem shl_n {k : Nat} (h : k < 6) : (1 : Int32) <<< (nI k &&& 31) = nI (2 ^ k) := by
  rcases (show k = 0 ∨ k = 1 ∨ k = 2 ∨ k = 3 ∨ k = 4 ∨ k = 5 by omega) with rfl | rfl | rfl | rfl | rfl | rfl <;> decide
theorem bits_n (f : Nat → Bool) : ∀ n, n ≤ 6 → ∃ s, s < 2 ^ n ∧ a_bits f n = nI s
  | 0, _ => ⟨0, by decide, rfl⟩
  | n + 1, hn => by
    obtain ⟨s, hs, e⟩ := bits_n f n (by omega)
    have h6 : 2 ^ n ≤ 2 ^ 5 := Nat.pow_le_pow_right (by decide) (by omega)
    have hp : 2 ^ (n + 1) = 2 ^ n + 2 ^ n := by rw [Nat.pow_succ]; omega
    by_cases h : f n = true
    · refine ⟨s ||| 2 ^ n, Nat.or_lt_two_pow (by omega) (by omega), ?_⟩
      rw [a_bits, if_pos h, e, shl_n (by omega), nI_or _ _ (by omega) (by omega)]
    · exact ⟨s, by omega, by rw [a_bits, if_neg h]; exact e⟩
theorem clr_n {s : Nat} (h : s < 64) : b_clr 33 (nI s) = true := by
  have : ∀ q : Fin 64, b_clr 33 (nI q.1) = true := by decide +kernel
  exact this ⟨s, h⟩
theorem clr_bits (f : Nat → Bool) {n : Nat} (hn : n ≤ 6) : b_clr 33 (a_bits f n) = true := by
  obtain ⟨s, hs, e⟩ := bits_n f n hn
  rw [e]
  have h6 : 2 ^ n ≤ 2 ^ 6 := Nat.pow_le_pow_right (by decide) hn
  exact clr_n (by omega)
section XDV
variable {p : Program} {l : Launch} {e : Env} {R : Room} {s : State} {m : MethodId} {args : Array Value} {below : List Frame} {meth : Method} {c : Code} {H : Heap} {locs : List Loc} {cells slots : Nat} {Q : State → Prop}
variable {cc : ByteArray} {pc : Nat} {ls : Array Slot} {rest : List Value}
theorem lv_idivE (hexec : p.tables.exec = Jvm.exec) (hb : c.code = cc) {x y z : Int32} (hdg : decode cc pc = .ok (.idiv, 1)) (hne : ¬ y = 0) (hz : x / y = z)
    (k : W p l e R s m args below meth c H locs cells slots Q (F0 m (pc + 1) ls (.int z :: rest))) : W p l e R s m args below meth c H locs cells slots Q (F0 m pc ls (.int y :: .int x :: rest)) := by
  subst hz; exact lv_idiv hexec hb hdg hne k
end XDV
