/-! level 2: numbers counted up beside trees of their figures -/
def run {α : Type} (st : Nat → α → α) (a : Nat) : Nat → α → α
  | 0, x => x
  | m + 1, x => st (a + m) (run st a m x)
def forR {α : Type} (f : Nat → α → α) : Nat → α → α
  | 0, x => x
  | n + 1, x => f n (forR f n x)
def sU (s : Nat → Int32) (i : Nat) (v : Int32) : Nat → Int32 := fun j => if j = i then v else s j
theorem sU_e (s : Nat → Int32) (i : Nat) (v : Int32) : sU s i v i = v := if_pos rfl
theorem sU_n (s : Nat → Int32) {i j : Nat} (v : Int32) (h : j ≠ i) : sU s i v j = s j := if_neg h
def tree {α : Type} (B : Nat) (dg : Nat → Int32) (leaf : (Nat → Int32) → α → α) : Nat → Nat → (Nat → Int32) → α → α
  | 0, _, s, x => leaf s x
  | d + 1, i, s, x => forR (fun r y => tree B dg leaf d (i + 1) (sU s i (dg r)) y) B x
theorem forR_c {α : Type} {f g : Nat → α → α} : ∀ n, (∀ r, r < n → ∀ y, f r y = g r y) → ∀ x, forR f n x = forR g n x
  | 0, _, _ => rfl
  | n + 1, h, x => by rw [forR, forR, forR_c n (fun r hr => h r (by omega)), h n (by omega)]
theorem forR_fix {α : Type} {f : Nat → α → α} {x : α} : ∀ n, (∀ r, r < n → f r x = x) → forR f n x = x
  | 0, _ => rfl
  | n + 1, h => by rw [forR, forR_fix n (fun r hr => h r (by omega)), h n (by omega)]
theorem run_split {α : Type} (st : Nat → α → α) (a m : Nat) : ∀ n x, run st a (m + n) x = run st (a + m) n (run st a m x)
  | 0, _ => rfl
  | n + 1, x => by rw [Nat.add_succ, run, run, run_split st a m n, Nat.add_assoc]
theorem run_blocks {α : Type} (st : Nat → α → α) (a m : Nat) : ∀ n x, run st a (n * m) x = forR (fun r y => run st (a + r * m) m y) n x
  | 0, x => by rw [Nat.zero_mul]; rfl
  | n + 1, x => by rw [Nat.succ_mul, run_split, run_blocks st a m n, forR]
/-- the figures of a number of i places -/
def fg (B : Nat) (dg : Nat → Int32) (c i : Nat) : Nat → Int32 := fun j => if j < i then dg (lf B c (i - 1 - j) % B) else 0
theorem lf_s (B c : Nat) : ∀ j, lf B c (j + 1) = lf B (c / B) j
  | 0 => rfl
  | j + 1 => by rw [lf, lf_s B c j]; rfl
theorem fg_s {B : Nat} (dg : Nat → Int32) {r : Nat} (hr : r < B) (c i : Nat) : fg B dg (c * B + r) (i + 1) = sU (fg B dg c i) i (dg r) := by
  funext j
  unfold fg sU
  have hB : 0 < B := by omega
  have hd : (c * B + r) / B = c := by rw [Nat.mul_comm, Nat.mul_add_div hB, Nat.div_eq_of_lt hr, Nat.add_zero]
  by_cases e : j = i
  · rw [if_pos (by omega), if_pos e, e, show i + 1 - 1 - i = 0 by omega]
    rw [lf, Nat.mul_comm, Nat.mul_add_mod, Nat.mod_eq_of_lt hr]
  · rw [if_neg e]
    show (if j < i + 1 then dg (lf B (c * B + r) (i + 1 - 1 - j) % B) else 0) = (if j < i then dg (lf B c (i - 1 - j) % B) else 0)
    by_cases c1 : j < i
    · rw [if_pos c1, if_pos (by omega), show i + 1 - 1 - j = (i - 1 - j) + 1 by omega, lf_s, hd]
    · rw [if_neg c1, if_neg (by omega)]
theorem run_tree {α : Type} {B : Nat} {dg : Nat → Int32} {leaf : (Nat → Int32) → α → α} {st : Nat → α → α} {n : Nat} (h : ∀ cd x, st cd x = leaf (fg B dg cd n) x) :
    ∀ d i c x, i + d = n → run st (c * B ^ d) (B ^ d) x = tree B dg leaf d i (fg B dg c i) x
  | 0, i, c, x, e => by
    rw [Nat.pow_zero, Nat.mul_one, run, run, tree, Nat.add_zero, h, show i = n by omega]
  | d + 1, i, c, x, e => by
    rw [tree, Nat.pow_succ, Nat.mul_comm (B ^ d) B, run_blocks]
    refine forR_c B (fun r hr y => ?_) x
    rw [show c * (B * B ^ d) + r * B ^ d = (c * B + r) * B ^ d by rw [Nat.add_mul, Nat.mul_assoc], run_tree h d (i + 1) (c * B + r) y (by omega), fg_s dg hr]
theorem run_all {α : Type} {B : Nat} {dg : Nat → Int32} {leaf : (Nat → Int32) → α → α} {st : Nat → α → α} {n : Nat} (h : ∀ cd x, st cd x = leaf (fg B dg cd n) x) (x : α) :
    run st 0 (B ^ n) x = tree B dg leaf n 0 (fun _ => 0) x := by
  have q := run_tree h n 0 0 x (by omega)
  rw [Nat.zero_mul] at q
  have e : fg B dg 0 0 = fun _ => 0 := by funext j; unfold fg; rw [if_neg (by omega)]
  rw [q, e]
/-- a tree none of whose leaves does anything -/
theorem tree_fix {α : Type} {B : Nat} {dg : Nat → Int32} {leaf : (Nat → Int32) → α → α} {x : α} : ∀ d i s, (∀ s', (∀ j, j < i → s' j = s j) → (∀ j, i ≤ j → j < i + d → ∃ r, r < B ∧ s' j = dg r) → leaf s' x = x) → tree B dg leaf d i s x = x
  | 0, i, s, h => by rw [tree]; exact h s (fun _ _ => rfl) (fun j h1 h2 => by omega)
  | d + 1, i, s, h => by
    rw [tree]
    refine forR_fix B fun r hr => tree_fix d (i + 1) _ fun s' h1 h2 => h s' (fun j hj => ?_) (fun j h3 h4 => ?_)
    · rw [h1 j (by omega), sU_n _ _ (by omega)]
    · by_cases e : j = i
      · exact ⟨r, hr, by rw [e, h1 i (by omega), sU_e]⟩
      · exact h2 j (by omega) (by omega)
