/-! level 2: the model's seatings as leaves of a tree -/
theorem all_iff (f : Nat → Bool) : ∀ n, all_b f n = true ↔ ∀ j, j < n → f j = true
  | 0 => ⟨fun _ j hj => absurd hj (Nat.not_lt_zero _), fun _ => rfl⟩
  | n + 1 => by
    rw [all_b, Bool.and_eq_true, all_iff f n]
    constructor
    · intro h j hj
      by_cases e : j = n
      · rw [e]; exact h.2
      · exact h.1 j (by omega)
    · intro h; exact ⟨fun j hj => h j (by omega), h n (by omega)⟩
def Ts (S : PT) (s : Nat → Int32) : PT := fun q => match q with | 0 => S 0 | 1 => S 1 | 2 => s | _ => fun _ => 0
def upB (P S : PT) (s : Nat → Int32) : Bool := all_b (fun j => decide (s j = -9) || a_isUp P S (s j)) (nPe P)
theorem upB_iff (P S : PT) (s : Nat → Int32) : upB P S s = true ↔ ∀ j, j < nPe P → s j = -9 ∨ a_isUp P S (s j) = true := by
  unfold upB
  rw [all_iff]
  simp only [Bool.or_eq_true, decide_eq_true_eq]
theorem pe_fail {P Q S T : PT} (h : PEq P Q) (hs : SEq P S T) : b_fail P S = b_fail Q T := by
  unfold b_fail; rw [← h.pl]; exact a_sum_c _ (fun k _ => by rw [pe_isUp h hs, pe_load h hs, pe_bearsNow h hs])
theorem lay_k {P : PT} (h5 : nPe P ≤ 5) (B cd : Nat) (g : Int32) (σ : Mem) {k : Nat} (h : k < 5 ∨ 10 ≤ k) : ∀ j, w_lay P B cd g σ j 12 k = σ 12 k
  | 0 => rfl
  | j + 1 => by
    rw [w_lay, mU_e, if_pos rfl]
    by_cases e : nPe P = 0
    · rw [if_neg (by omega)]; exact lay_k h5 B cd g σ h j
    · rw [if_neg (by omega)]; exact lay_k h5 B cd g σ h j
theorem lay_seq {P : PT} (h4 : nPl P ≤ 4) (h5 : nPe P ≤ 5) {B cd : Nat} {g : Int32} {σ τ : Mem} {S : PT} (hS : SEq P (sM σ 12) S) (hτ : ∀ k, k < 5 ∨ 10 ≤ k → τ 12 k = σ 12 k) : SEq P (sM (w_lay P B cd g τ (nPe P)) 12) (Ts S (fg B (dgt g) cd (nPe P))) := by
  have hk : ∀ k, k < 5 ∨ 10 ≤ k → w_lay P B cd g τ (nPe P) 12 k = σ 12 k := fun k hk => (lay_k h5 B cd g τ hk _).trans (hτ k hk)
  refine ⟨?_, ?_, ?_, fun k hq => ?_, fun i hi => ?_⟩
  · show w_lay P B cd g τ (nPe P) 12 4 = S 0 0
    rw [hk 4 (by omega)]; exact hS.1
  · show w_lay P B cd g τ (nPe P) 12 10 = S 0 1
    rw [hk 10 (by omega)]; exact hS.2.1
  · show w_lay P B cd g τ (nPe P) 12 11 = S 0 2
    rw [hk 11 (by omega)]; exact hS.2.2.1
  · show w_lay P B cd g τ (nPe P) 12 k = S 1 k
    rw [hk k (by omega)]; exact hS.2.2.2.1 k hq
  · show w_lay P B cd g τ (nPe P) 12 (5 + i) = fg B (dgt g) cd (nPe P) i
    rw [lay_at _ _ _ _ _ _ (Nat.le_refl _) _ hi (by omega)]
    unfold fg; rw [if_pos hi]
theorem dgt_neg {g : Int32} {r : Nat} (h : ¬ nI r - g < 0) : dgt g r = nI r - g ∧ ¬ nI r - g = -9 := by
  unfold dgt
  rw [if_neg h]
  exact ⟨rfl, fun e => h (by rw [e]; decide)⟩
theorem wlS_e {P : PT} {B cd : Nat} {g : Int32} {τ : Mem} {S : PT} (hf : sM τ 12 0 0 = S 0 0) : wlS P τ B cd g (nPe P) = upB P S (fg B (dgt g) cd (nPe P)) := by
  have hu : ∀ k, a_isUp P (sM τ 12) k = a_isUp P S k := fun k => a_isUp_c hf
  have e : ∀ j, j < nPe P → (wl_ok P τ B cd g j = true ↔ fg B (dgt g) cd (nPe P) (nPe P - 1 - j) = -9 ∨ a_isUp P S (fg B (dgt g) cd (nPe P) (nPe P - 1 - j)) = true) := fun j hj => by
    unfold fg wl_ok
    rw [if_pos (by omega), show nPe P - 1 - (nPe P - 1 - j) = j by omega, hu]
    by_cases c : nI (lf B cd j % B) - g < 0
    · rw [decide_eq_true c, Bool.true_or]
      unfold dgt
      rw [if_pos c]
      exact ⟨fun _ => Or.inl rfl, fun _ => rfl⟩
    · obtain ⟨q1, q2⟩ := dgt_neg c
      rw [q1, decide_eq_false c, Bool.false_or]
      exact ⟨Or.inr, fun h => h.resolve_left q2⟩
  apply Bool.eq_iff_iff.mpr
  rw [upB_iff]
  unfold wlS
  rw [all_iff]
  constructor
  · intro h j hj
    have q := (e (nPe P - 1 - j) (by omega)).mp (h _ (by omega))
    rw [show nPe P - 1 - (nPe P - 1 - j) = j by omega] at q
    exact q
  · intro h j hj
    exact (e j hj).mpr (h _ (by omega))
/-- best: what a leaf does -/
def lfB (P S : PT) (s : Nat → Int32) (x : Int32 × (Nat → Int32)) : Int32 × (Nat → Int32) := if (upB P S s = true ∧ b_fail P (Ts S s) = 0) ∧ x.1 < a_highAll P (Ts S s) then (a_highAll P (Ts S s), s) else x
def stB (P S : PT) (cd : Nat) (x : Int32 × (Nat → Int32)) : Int32 × (Nat → Int32) := lfB P S (fg (nPl P + 1) (dgt 1) cd (nPe P)) x
theorem bs_rel {P S : PT} (hpb : PB P) (r : Nat) {σ : Mem} (hS : SEq P (sM σ 12) S) : ∀ n, (bs P r σ n).1 = (run (stB P S) 0 n (-1, fun _ => 0)).1 ∧ (∀ k, k < 5 ∨ 10 ≤ k → (bs P r σ n).2 12 k = σ 12 k) ∧ (∀ q, q ≠ 12 → q ≠ 1 → (bs P r σ n).2 q = σ q) ∧
    (∀ k, ¬ (40 * r ≤ k ∧ k < 40 * r + nPe P) → (bs P r σ n).2 1 k = σ 1 k) ∧ (¬ (bs P r σ n).1 = -1 → ∀ j, j < nPe P → (bs P r σ n).2 1 (40 * r + j) = (run (stB P S) 0 n (-1, fun _ => 0)).2 j)
  | 0 => ⟨rfl, fun _ _ => rfl, fun _ _ _ => rfl, fun _ _ => rfl, fun h => absurd rfl h⟩
  | cd + 1 => by
    obtain ⟨a1, a2, a3, a4, a5⟩ := bs_rel hpb r hS cd
    have h4 := (PB_pl hpb).2.1
    have h5 := (PB_pe hpb).2.1
    rw [bs, run, Nat.zero_add]
    generalize run (stB P S) 0 cd (-1, fun _ => 0) = x at a1 a5 ⊢
    generalize bs P r σ cd = b at a1 a2 a3 a4 a5 ⊢
    have sq := lay_seq (B := nPl P + 1) (cd := cd) (g := 1) h4 h5 hS a2
    have t1 : ∀ k, k < 5 ∨ 10 ≤ k → bsT P cd b.2 12 k = σ 12 k := fun k hk => (lay_k h5 _ cd 1 b.2 hk _).trans (a2 k hk)
    have t2 : ∀ q, q ≠ 12 → bsT P cd b.2 q = b.2 q := fun q hq => lay_n _ _ _ _ _ hq _
    have t3 : ∀ j, j < nPe P → bsT P cd b.2 12 (5 + j) = fg (nPl P + 1) (dgt 1) cd (nPe P) j := fun j hj => sq.2.2.2.2 j hj
    have hw : wlS P b.2 (nPl P + 1) cd 1 (nPe P) = upB P S (fg (nPl P + 1) (dgt 1) cd (nPe P)) := wlS_e (by
      have : b.2 12 4 = σ 12 4 := a2 4 (by omega)
      exact Eq.trans this hS.1)
    have hh : a_highAll P (sM (bsT P cd b.2) 12) = a_highAll P (Ts S (fg (nPl P + 1) (dgt 1) cd (nPe P))) := pe_highAll PEq.rfl' sq
    have hf : b_fail P (sM (bsT P cd b.2) 12) = b_fail P (Ts S (fg (nPl P + 1) (dgt 1) cd (nPe P))) := pe_fail PEq.rfl' sq
    unfold bs_step stB lfB
    rw [hw, hh, hf, a1]
    generalize bsT P cd b.2 = T at t1 t2 t3 ⊢
    generalize a_highAll P (Ts S (fg (nPl P + 1) (dgt 1) cd (nPe P))) = hi
    have keep : (x.1, T).1 = x.1 ∧ (∀ k, k < 5 ∨ 10 ≤ k → (x.1, T).2 12 k = σ 12 k) ∧ (∀ q, q ≠ 12 → q ≠ 1 → (x.1, T).2 q = σ q) ∧ (∀ k, ¬ (40 * r ≤ k ∧ k < 40 * r + nPe P) → (x.1, T).2 1 k = σ 1 k) ∧ (¬ (x.1, T).1 = -1 → ∀ j, j < nPe P → (x.1, T).2 1 (40 * r + j) = x.2 j) := by
      refine ⟨rfl, t1, fun q q1 q2 => (t2 q q1).trans (a3 q q1 q2), fun k hk => ?_, fun hn j hj => ?_⟩
      · show T 1 k = σ 1 k
        rw [t2 1 (by decide)]; exact a4 k hk
      · show T 1 (40 * r + j) = x.2 j
        rw [t2 1 (by decide)]; exact a5 (by rw [a1]; exact hn) j hj
    by_cases c1 : upB P S (fg (nPl P + 1) (dgt 1) cd (nPe P)) = true
    · rw [if_pos c1]
      by_cases c2 : x.1 < hi
      · rw [if_pos c2]
        by_cases c3 : b_fail P (Ts S (fg (nPl P + 1) (dgt 1) cd (nPe P))) = 0
        · rw [if_pos c3, if_pos ⟨⟨c1, c3⟩, c2⟩]
          refine ⟨rfl, fun k hk => ?_, fun q q1 q2 => ?_, fun k hk => ?_, fun _ j hj => ?_⟩
          · show mG T 1 (40 * r) (nPe P) (fun z => T 12 (5 + z)) 12 k = σ 12 k
            rw [mG_n _ _ _ _ (by decide)]; exact t1 k hk
          · show mG T 1 (40 * r) (nPe P) (fun z => T 12 (5 + z)) q = σ q
            rw [mG_n _ _ _ _ q2, t2 q q1]; exact a3 q q1 q2
          · show mG T 1 (40 * r) (nPe P) (fun z => T 12 (5 + z)) 1 k = σ 1 k
            rw [mG_e, if_pos rfl, if_neg hk, t2 1 (by decide)]; exact a4 k hk
          · show mG T 1 (40 * r) (nPe P) (fun z => T 12 (5 + z)) 1 (40 * r + j) = _
            rw [mG_e, if_pos rfl, if_pos (by omega), show 40 * r + j - 40 * r = j by omega, t3 j hj]
        · rw [if_neg c3, if_neg (fun q => c3 q.1.2)]; exact keep
      · rw [if_neg c2, if_neg (fun q => c2 q.2)]; exact keep
    · rw [if_neg c1, if_neg (fun q => c1 q.1.1)]; exact keep
