/-! the model: seatings by number -/
def b_pow (b : Int32) : Nat → Int32
  | 0 => 1
  | n + 1 => b_pow b n * b
theorem b_pow_n (b : Nat) : ∀ n, b_pow (nI b) n = nI (b ^ n)
  | 0 => rfl
  | n + 1 => by rw [b_pow, b_pow_n b n, nmul rfl rfl, Nat.pow_succ]
theorem pw_le {b n : Nat} (hb : b ≤ 5) (hn : n ≤ 5) : b ^ n ≤ 3125 :=
  Nat.le_trans (Nat.pow_le_pow_left hb n) (Nat.le_trans (Nat.pow_le_pow_right (by decide) hn) (Nat.le_of_ble_eq_true rfl))
theorem remn {a b : Nat} (ha : a < 2 ^ 30) (hb : 0 < b) (hb2 : b < 2 ^ 30) : nI a - nI a / nI b * nI b = nI (a % b) := by
  have h1 := nI_toInt (n := a) (by omega)
  have h2 := nI_toInt (n := b) (by omega)
  have h3 := (rem_i (a := nI a) (b := nI b) (by omega) (by omega)).2
  have h4 := Nat.mod_lt a hb
  apply i_eqI
  rw [h3, h1, h2, nI_toInt (by omega)]
  exact (Int.natCast_emod a b).symm
theorem divn {a b : Nat} (ha : a < 2 ^ 30) (hb : 0 < b) (hb2 : b < 2 ^ 30) : nI a / nI b = nI (a / b) := by
  have h1 := nI_toInt (n := a) (by omega)
  have h2 := nI_toInt (n := b) (by omega)
  have h3 := (rem_i (a := nI a) (b := nI b) (by omega) (by omega)).1
  have h4 := Nat.div_le_self a b
  apply i_eqI
  rw [h3, h1, h2, nI_toInt (by omega)]
  exact (Int.natCast_ediv a b).symm
def lf (B cd : Nat) : Nat → Nat
  | 0 => cd
  | j + 1 => lf B cd j / B
theorem lf_le (B cd : Nat) : ∀ j, lf B cd j ≤ cd
  | 0 => Nat.le_refl _
  | j + 1 => Nat.le_trans (Nat.div_le_self _ _) (lf_le B cd j)
def dgt (g : Int32) (r : Nat) : Int32 := if nI r - g < 0 then -9 else nI r - g
def w_lay (P : PT) (B cd : Nat) (g : Int32) (σ : Mem) : Nat → Mem
  | 0 => σ
  | j + 1 => mU (w_lay P B cd g σ j) 12 (5 + (nPe P - 1 - j)) (dgt g (lf B cd j % B))
theorem lay_s {P : PT} {B cd : Nat} {g : Int32} {σ : Mem} {j i : Nat} (hi : nPe P = j + i + 1) : mU (w_lay P B cd g σ j) 12 (5 + i) (dgt g (lf B cd j % B)) = w_lay P B cd g σ (j + 1) := by
  rw [w_lay, show nPe P - 1 - j = i by omega]
theorem lay_n (P : PT) (B cd : Nat) (g : Int32) (σ : Mem) {q : Nat} (h : q ≠ 12) : ∀ j, w_lay P B cd g σ j q = σ q
  | 0 => rfl
  | j + 1 => (mU_n _ _ _ h).trans (lay_n P B cd g σ h j)
theorem lay_4 (P : PT) (B cd : Nat) (g : Int32) (σ : Mem) {k : Nat} (h : k < 5) : ∀ j, w_lay P B cd g σ j 12 k = σ 12 k
  | 0 => rfl
  | j + 1 => by rw [w_lay, mU_e, if_pos rfl, if_neg (by omega)]; exact lay_4 P B cd g σ h j
theorem pM_lay (P : PT) (B cd : Nat) (g : Int32) (σ : Mem) (j : Nat) : pM (w_lay P B cd g σ j) = pM σ :=
  pM_eq (by rw [lay_n _ _ _ _ _ (by decide)]) (by rw [lay_n _ _ _ _ _ (by decide)]) (fun q _ _ => lay_n _ _ _ _ _ (by omega) _)
theorem lay_at (P : PT) (B cd : Nat) (g : Int32) (σ : Mem) : ∀ n, n ≤ nPe P → ∀ i, i < nPe P → nPe P - n ≤ i → w_lay P B cd g σ n 12 (5 + i) = dgt g (lf B cd (nPe P - 1 - i) % B)
  | 0, _, i, hi, h => absurd hi (by omega)
  | n + 1, hn, i, hi, h => by
    rw [w_lay, mU_e, if_pos rfl]
    by_cases e : i = nPe P - 1 - n
    · rw [if_pos (by omega), show nPe P - 1 - i = n by omega]
    · rw [if_neg (by omega)]; exact lay_at P B cd g σ n (by omega) i hi (by omega)
def wl_ok (P : PT) (σ : Mem) (B cd : Nat) (g : Int32) (j : Nat) : Bool := decide (nI (lf B cd j % B) - g < 0) || a_isUp P (sM σ 12) (nI (lf B cd j % B) - g)
def wlS (P : PT) (σ : Mem) (B cd : Nat) (g : Int32) (j : Nat) : Bool := all_b (wl_ok P σ B cd g) j
theorem dg_1 {P : PT} (hpb : PB P) {r : Nat} (hr : r < nPl P + 1) (h : ¬ nI r - 1 < 0) : a_isPole P (nI r - 1) = true := by
  by_cases h0 : r = 0
  · subst h0; exact absurd (by decide) h
  · rw [show r = (r - 1) + 1 by omega, nI_pred]; exact pole_nI hpb (by omega)
theorem dg_0 {P : PT} (hpb : PB P) {r : Nat} (hr : r < nPl P) : a_isPole P (nI r - 0) = true := by
  rw [show nI r - 0 = nI r from Int32.sub_zero _]; exact pole_nI hpb hr
theorem SV_lay1 {P : PT} (hpb : PB P) (cd : Nat) (σ : Mem) : SV P (w_lay P (nPl P + 1) cd 1 σ (nPe P)) 12 := by
  intro i hi
  rw [lay_at _ _ _ _ _ _ (Nat.le_refl _) _ hi (by omega)]
  unfold dgt
  by_cases h : nI (lf (nPl P + 1) cd (nPe P - 1 - i) % (nPl P + 1)) - 1 < 0
  · rw [if_pos h]; exact Or.inl rfl
  · rw [if_neg h]; exact Or.inr (dg_1 hpb (Nat.mod_lt _ (by omega)) h)
theorem dgt_0 {r : Nat} (h : r < 2 ^ 30) : dgt 0 r = nI r := by
  unfold dgt
  rw [show nI r - 0 = nI r from Int32.sub_zero _, if_neg (nI_pos (by omega))]
theorem SV_lay0 {P : PT} (hpb : PB P) (h0 : 0 < nPl P) (cd : Nat) (σ : Mem) : SV P (w_lay P (nPl P) cd 0 σ (nPe P)) 12 := by
  intro i hi
  have hm := Nat.mod_lt (lf (nPl P) cd (nPe P - 1 - i)) h0
  have h4 := (PB_pl hpb).2.1
  rw [lay_at _ _ _ _ _ _ (Nat.le_refl _) _ hi (by omega), dgt_0 (by omega)]
  exact Or.inr (pole_nI hpb hm)
def w_lrow (σ : Mem) (r : Nat) (many : Int32) : Mem := mG (mU σ 2 r many) 1 (40 * r) 40 (fun _ => 0)
theorem pM_lrow (σ : Mem) (r : Nat) (many : Int32) : pM (w_lrow σ r many) = pM σ := by unfold w_lrow; rw [pM_mG _ _ _ _ (by decide), pM_mU _ _ _ (by decide)]
def bsT (P : PT) (cd : Nat) (τ : Mem) : Mem := w_lay P (nPl P + 1) cd 1 τ (nPe P)
def bs_step (P : PT) (r cd : Nat) (q : Int32 × Mem) : Int32 × Mem :=
  if wlS P q.2 (nPl P + 1) cd 1 (nPe P) = true then (if q.1 < a_highAll P (sM (bsT P cd q.2) 12) then (if b_fail P (sM (bsT P cd q.2) 12) = 0 then (a_highAll P (sM (bsT P cd q.2) 12), mG (bsT P cd q.2) 1 (40 * r) (nPe P) (fun z => bsT P cd q.2 12 (5 + z))) else (q.1, bsT P cd q.2)) else (q.1, bsT P cd q.2)) else (q.1, bsT P cd q.2)
def bs (P : PT) (r : Nat) (σ : Mem) : Nat → Int32 × Mem
  | 0 => (-1, σ)
  | cd + 1 => bs_step P r cd (bs P r σ cd)
def n_best (σ : Mem) (r : Int32) : Int32 × Mem := if a_in r 6 = true then (if σ 0 4 = 0 then (-4, σ) else bs (pM σ) (ix r) (w_aside (w_lrow σ (ix r) (σ 0 5))) ((nPl (pM σ) + 1) ^ nPe (pM σ))) else (-1, σ)
def fwset (τ : Mem) : Nat → Int32
  | 0 => 0
  | j + 1 => fwset τ j ||| (1 <<< (τ 12 (5 + j) &&& 31))
def fwT (P : PT) (cd : Nat) (τ : Mem) : Mem := w_lay P (nPl P) cd 0 τ (nPe P)
theorem fwset_n {P : PT} (hpb : PB P) (h0 : 0 < nPl P) (cd : Nat) (τ : Mem) : ∀ n, n ≤ nPe P → ∃ s, s < 16 ∧ fwset (fwT P cd τ) n = nI s
  | 0, _ => ⟨0, by decide, rfl⟩
  | n + 1, hn => by
    obtain ⟨s, hs, e⟩ := fwset_n hpb h0 cd τ n (by omega)
    have hm := Nat.mod_lt (lf (nPl P) cd (nPe P - 1 - n)) h0
    have h4 := (PB_pl hpb).2.1
    have hp : 2 ^ (lf (nPl P) cd (nPe P - 1 - n) % nPl P) ≤ 2 ^ 3 := Nat.pow_le_pow_right (by decide) (by omega)
    refine ⟨s ||| 2 ^ (lf (nPl P) cd (nPe P - 1 - n) % nPl P), Nat.or_lt_two_pow (n := 4) (by omega) (by omega), ?_⟩
    rw [fwset, e, fwT, lay_at _ _ _ _ _ _ (Nat.le_refl _) _ (by omega) (by omega), dgt_0 (by omega), shl_n (by omega), nI_or _ _ (by omega) (by omega)]
theorem clr_fw {P : PT} (hpb : PB P) (h0 : 0 < nPl P) (cd : Nat) (τ : Mem) : b_clr 33 (fwset (fwT P cd τ) (nPe P)) = true := by
  obtain ⟨s, hs, e⟩ := fwset_n hpb h0 cd τ _ (Nat.le_refl _)
  rw [e]; exact clr_n (by omega)
def fw_bet (set least best : Int32) : Bool := if b_cnt 33 set < least then true else if b_cnt 33 set = least then (if set < best then true else false) else false
def fw_step (P : PT) (cd : Nat) (q : Int32 × Int32 × Mem) : Int32 × Int32 × Mem :=
  if wlS P q.2.2 (nPl P) cd 0 (nPe P) = true then (if b_fail P (sM (fwT P cd q.2.2) 12) = 0 then (if fw_bet (fwset (fwT P cd q.2.2) (nPe P)) q.1 q.2.1 = true then (b_cnt 33 (fwset (fwT P cd q.2.2) (nPe P)), fwset (fwT P cd q.2.2) (nPe P), fwT P cd q.2.2) else (q.1, q.2.1, fwT P cd q.2.2)) else (q.1, q.2.1, fwT P cd q.2.2)) else (q.1, q.2.1, fwT P cd q.2.2)
def fw (P : PT) (σ : Mem) : Nat → Int32 × Int32 × Mem
  | 0 => (1000000, 0, σ)
  | cd + 1 => fw_step P cd (fw P σ cd)
def n_few (σ : Mem) : Int32 × Mem := if σ 0 4 = 0 then (-4, σ) else if (fw (pM σ) (w_aside σ) (nPl (pM σ) ^ nPe (pM σ))).1 = 1000000 then (-9, (fw (pM σ) (w_aside σ) (nPl (pM σ) ^ nPe (pM σ))).2.2) else ((fw (pM σ) (w_aside σ) (nPl (pM σ) ^ nPe (pM σ))).1, mU (fw (pM σ) (w_aside σ) (nPl (pM σ) ^ nPe (pM σ))).2.2 0 0 (fw (pM σ) (w_aside σ) (nPl (pM σ) ^ nPe (pM σ))).2.1)
def w_sd (σ : Mem) (r n : Nat) : Mem := mG (w_aside σ) 12 5 n (fun i => σ 1 (40 * r + i))
theorem w_sd_n (σ : Mem) (r n : Nat) {q : Nat} (h : q ≠ 12) : w_sd σ r n q = σ q := by unfold w_sd; rw [mG_n _ _ _ _ h, w_aside_n _ h]
theorem pM_sd (σ : Mem) (r n : Nat) : pM (w_sd σ r n) = pM σ := by unfold w_sd; rw [pM_mG _ _ _ _ (by decide), pM_aside]
def sdM_bad (P : PT) (σ : Mem) (r i : Nat) : Bool := !decide (σ 1 (40 * r + i) = -9) && !(a_isPole P (σ 1 (40 * r + i)) && a_isUp P (sM σ 11) (σ 1 (40 * r + i)))
theorem fstN_all {f : Nat → Bool} : ∀ n, fstN f n = n → ∀ i, i < n → f i = false
  | 0, _, i, hi => absurd hi (Nat.not_lt_zero _)
  | n + 1, h, i, hi => by
    rw [fstN] at h
    by_cases h1 : fstN f n = n
    · rw [if_pos h1] at h
      by_cases h2 : f n = true
      · rw [if_pos h2] at h; omega
      · by_cases e : i = n
        · subst e; exact Bool.eq_false_iff.mpr h2
        · exact fstN_all n h1 i (by omega)
    · rw [if_neg h1] at h
      have : ∀ m, fstN f m ≤ m := by
        intro m
        induction m with
        | zero => exact Nat.le_refl _
        | succ m ih => rw [fstN]; repeat' split
                       all_goals omega
      have := this n
      omega
theorem SV_sd {P : PT} {σ : Mem} {r : Nat} (h : fstN (sdM_bad P σ r) (nPe P) = nPe P) : SV P (w_sd σ r (nPe P)) 12 := by
  intro i hi
  have h1 := fstN_all _ h i hi
  have e : w_sd σ r (nPe P) 12 (5 + i) = σ 1 (40 * r + i) := by
    unfold w_sd; rw [mG_e, if_pos rfl, if_pos (by omega), show 5 + i - 5 = i by omega]
  rw [e]
  unfold sdM_bad at h1
  by_cases h2 : σ 1 (40 * r + i) = -9
  · exact Or.inl h2
  · right
    cases hp : a_isPole P (σ 1 (40 * r + i)) with
    | true => rfl
    | false => simp [h2, hp] at h1
def n_seated (σ : Mem) (r : Int32) : Int32 × Mem := if a_in r 6 = true then (if σ 0 4 = 0 then (-4, σ) else if σ 2 (ix r) < 0 then (-3, n_found σ 1) else if σ 2 (ix r) = σ 0 5 then
    (if fstN (sdM_bad (pM σ) σ (ix r)) (nPe (pM σ)) = nPe (pM σ) then (b_fail (pM σ) (sM (w_sd σ (ix r) (nPe (pM σ))) 12), mU (w_sd σ (ix r) (nPe (pM σ))) 0 0 (a_highAll (pM σ) (sM (w_sd σ (ix r) (nPe (pM σ))) 12)))
     else (-3, n_found (w_sd σ (ix r) (fstN (sdM_bad (pM σ) σ (ix r)) (nPe (pM σ)))) 3))
  else (-3, n_found σ 5)) else (-1, σ)
