/-! level 2: duel, the class's search with a window -/
def ABr (r v low top : Int) : Prop := (r ≤ low → v ≤ r) ∧ (top ≤ r → r ≤ v) ∧ (low < r → r < top → r = v)
theorem ab_max {m v c w low top : Int} (h : ABr m v low top) (hm : m < top) (hl : low < top) (g : ABr c w (if low < m then m else low) top) : ABr (if m < c then c else m) (if v < w then w else v) low top := by
  obtain ⟨h1, h2, h3⟩ := h
  obtain ⟨g1, g2, g3⟩ := g
  refine ⟨fun q => ?_, fun q => ?_, fun q1 q2 => ?_⟩
  all_goals
    by_cases a1 : low < m
    · simp only [if_pos a1] at g1 g2 g3
      have := h3 a1 hm
      by_cases a2 : m < c
      · simp only [if_pos a2] at *
        by_cases a3 : v < w
        · simp only [if_pos a3] at *; omega
        · simp only [if_neg a3] at *; omega
      · simp only [if_neg a2] at *
        by_cases a3 : v < w
        · simp only [if_pos a3] at *; omega
        · simp only [if_neg a3] at *; omega
    · simp only [if_neg a1] at g1 g2 g3
      have := h1 (by omega)
      by_cases a2 : m < c
      · simp only [if_pos a2] at *
        by_cases a3 : v < w
        · simp only [if_pos a3] at *; omega
        · simp only [if_neg a3] at *; omega
      · simp only [if_neg a2] at *
        by_cases a3 : v < w
        · simp only [if_pos a3] at *; omega
        · simp only [if_neg a3] at *; omega
theorem ab_min {m v c w low top : Int} (h : ABr m v low top) (hm : low < m) (hl : low < top) (g : ABr c w low (if m < top then m else top)) : ABr (if c < m then c else m) (if w < v then w else v) low top := by
  obtain ⟨h1, h2, h3⟩ := h
  obtain ⟨g1, g2, g3⟩ := g
  refine ⟨fun q => ?_, fun q => ?_, fun q1 q2 => ?_⟩
  all_goals
    by_cases a1 : m < top
    · simp only [if_pos a1] at g1 g2 g3
      have := h3 hm a1
      by_cases a2 : c < m
      · simp only [if_pos a2] at *
        by_cases a3 : w < v
        · simp only [if_pos a3] at *; omega
        · simp only [if_neg a3] at *; omega
      · simp only [if_neg a2] at *
        by_cases a3 : w < v
        · simp only [if_pos a3] at *; omega
        · simp only [if_neg a3] at *; omega
    · simp only [if_neg a1] at g1 g2 g3
      have := h2 (by omega)
      by_cases a2 : c < m
      · simp only [if_pos a2] at *
        by_cases a3 : w < v
        · simp only [if_pos a3] at *; omega
        · simp only [if_neg a3] at *; omega
      · simp only [if_neg a2] at *
        by_cases a3 : w < v
        · simp only [if_pos a3] at *; omega
        · simp only [if_neg a3] at *; omega
theorem foldN_forR (f : Nat → Int32 → Int32) : ∀ n m, foldN f n m = forR f n m
  | 0, _ => rfl
  | n + 1, m => by rw [foldN, forR, foldN_forR f n m]
theorem run_forR {α : Type} (st : Nat → α → α) (a : Nat) : ∀ n x, run st a n x = forR (fun k y => st (a + k) y) n x
  | 0, _ => rfl
  | n + 1, x => by rw [run, forR, run_forR st a n x]
theorem forR_2 {α β : Type} {f : Nat → α → α} {g : Nat → β → β} (R : α → β → Prop) : ∀ n x y, R x y → (∀ k, k < n → ∀ x y, R x y → R (f k x) (g k y)) → R (forR f n x) (forR g n y)
  | 0, _, _, h, _ => h
  | n + 1, x, y, h, s => by
    rw [forR, forR]
    exact s n (by omega) _ _ (forR_2 R n x y h fun k hk => s k (by omega))
theorem i_rc (a b c : Int32) : a + b + c = a + c + b := by rw [Int32.add_assoc, Int32.add_comm b, ← Int32.add_assoc]
theorem sum_set (F : Nat → Int32 → Int32) (s : Nat → Int32) {i : Nat} (v : Int32) : ∀ n, i < n → a_sum (fun j => F j (sU s i v j)) n + F i (s i) = a_sum (fun j => F j (s j)) n + F i v
  | 0, h => absurd h (Nat.not_lt_zero _)
  | n + 1, h => by
    rw [a_sum, a_sum]
    by_cases e : i = n
    · subst e
      have e1 : a_sum (fun j => F j (sU s i v j)) i = a_sum (fun j => F j (s j)) i := a_sum_c _ fun j hj => by rw [sU_n _ _ (by omega)]
      rw [e1, sU_e, i_rc]
    · have ih := sum_set F s (i := i) v n (by omega)
      rw [sU_n _ _ (by omega), i_rc, ih, i_rc]
def HK (P : PT) (s : Nat → Int32) (i : Nat) (k : Int32) : Int32 := a_sum (fun j => if s j = k then a_high P (nI j) k else 0) i
def InvG (P S : PT) (σ : Mem) (s : Nat → Int32) : Prop := (∀ i, i < nPe P → σ 68 i = s i) ∧ (∀ k, k < nPl P → σ 69 k = LI P s (nPe P) (nI k)) ∧ (∀ k, k < nPl P → σ 70 k = HK P s (nPe P) (nI k)) ∧ (∀ k, k < nPl P → σ 71 k = a_bearsNow P S (nI k)) ∧ σ 67 0 = a_up P S ∧ okS P S s (nPe P)
/-- worth, by poles and by people -/
theorem sum_add (f g : Nat → Int32) : ∀ n, a_sum (fun k => f k + g k) n = a_sum f n + a_sum g n
  | 0 => by rw [a_sum, a_sum, a_sum]; rfl
  | n + 1 => by
    rw [a_sum, a_sum, a_sum, sum_add f g n, Int32.add_assoc, Int32.add_assoc, ← Int32.add_assoc (a_sum g n), Int32.add_comm (a_sum g n), Int32.add_assoc]
theorem sum_one (f : Nat → Int32) {k : Nat} : ∀ n, k < n → (∀ j, j < n → j ≠ k → f j = 0) → a_sum f n = f k
  | 0, h, _ => absurd h (Nat.not_lt_zero _)
  | n + 1, h, z => by
    rw [a_sum]
    by_cases e : k = n
    · rw [sum_z f n (fun j hj => z j (by omega) (by omega)), e]; exact Int32.zero_add _
    · rw [sum_one f n (by omega) (fun j hj => z j (by omega)), z n (by omega) (by omega), Int32.add_zero]
theorem worth_x {P S : PT} (hpb : PB P) {σ : Mem} {s : Nat → Int32} (h : InvG P S σ s) : a_worth P σ = b_worth P (Ts S s) := by
  obtain ⟨i1, i2, i3, i4, i5, i6⟩ := h
  have h4 := (PB_pl hpb).2.1
  have el : ∀ k, a_load P (Ts S s) k = LI P s (nPe P) k := fun k => rfl
  have eb : ∀ k, a_bearsNow P (Ts S s) k = a_bearsNow P S k := fun k => a_bearsNow_c rfl
  have e1 : a_worth P σ = a_sum (fun k => if a_bearsNow P S (nI k) < LI P s (nPe P) (nI k) then 0 else HK P s (nPe P) (nI k)) (nPl P) := by
    unfold a_worth
    exact a_sum_c _ fun k hk => by rw [i2 k hk, i3 k hk, i4 k hk]
  rw [e1]
  -- the poles' sum, person by person
  have e2 : ∀ n, n ≤ nPe P → a_sum (fun k => if a_bearsNow P S (nI k) < LI P s (nPe P) (nI k) then 0 else HK P s n (nI k)) (nPl P) = a_sum (fun i => if s i = -9 then 0 else if a_load P (Ts S s) (s i) ≤ a_bearsNow P (Ts S s) (s i) then a_high P (nI i) (s i) else 0) n := by
    intro n
    induction n with
    | zero =>
      intro _
      exact sum_z _ _ fun k _ => by split <;> rfl
    | succ n ih =>
      intro hn
      rw [a_sum, ← ih (by omega)]
      have e3 : a_sum (fun k => if a_bearsNow P S (nI k) < LI P s (nPe P) (nI k) then 0 else HK P s (n + 1) (nI k)) (nPl P) = a_sum (fun k => (if a_bearsNow P S (nI k) < LI P s (nPe P) (nI k) then 0 else HK P s n (nI k)) + (if a_bearsNow P S (nI k) < LI P s (nPe P) (nI k) then 0 else if s n = nI k then a_high P (nI n) (nI k) else 0)) (nPl P) := by
        refine a_sum_c _ fun k _ => ?_
        split
        · rfl
        · rfl
      rw [e3, sum_add]
      congr 1
      rcases i6 n (by omega) with q | q
      · rw [q, if_pos rfl]
        exact sum_z _ _ fun k hk => by
          rw [if_neg (pole_n9 (pole_nI hpb hk))]
          split <;> rfl
      · have hp := up_of_seat q
        have hx := isPole_ix hp
        have e := ix_nI (isPole_t hp).1
        have n9 : ¬ s n = -9 := fun w => pole_n9 hp w.symm
        rw [if_neg n9, sum_one _ (k := ix (s n)) _ hx fun j hj hne => ?_]
        · rw [← e, if_pos rfl, el, eb]
          by_cases c : LI P s (nPe P) (s n) ≤ a_bearsNow P S (s n)
          · rw [if_pos c, if_neg (u_le c)]
          · rw [if_neg c, if_pos (u_nle c)]
        · have : ¬ s n = nI j := fun w => hne (by rw [w, ix_of (by omega)])
          rw [if_neg this]
          split <;> rfl
  exact e2 _ (Nat.le_refl _)
theorem i_eqs {a b c : Int32} (h : a + b = c) : a = c - b := by rw [← h, i_as]
theorem seat_G {P S : PT} (hpb : PB P) {σ : Mem} {s : Nat → Int32} (h : InvG P S σ s) {i k : Nat} (hi : i < nPe P) (hk : k < nPl P) (h9 : s i = -9) (hu : a_isUp P S (nI k) = true) : InvG P S (m_seat P σ i (nI k)) (sU s i (nI k)) := by
  obtain ⟨i1, i2, i3, i4, i5, i6⟩ := h
  have h4 := (PB_pl hpb).2.1
  have e : m_seat P σ i (nI k) = mU (mU (mU σ 68 i (nI k)) 69 k (σ 69 k + a_loadBy P (nI i) (nI k))) 70 k (σ 70 k + a_high P (nI i) (nI k)) := by
    unfold m_seat
    rw [if_pos (pole_nI hpb hk), ix_of (n := k) (by omega)]
  have inj : ∀ j, j < nPl P → (nI k = nI j ↔ j = k) := fun j hj => by
    constructor
    · intro q
      have z := i_eq q
      rw [nI_toInt (by omega), nI_toInt (by omega)] at z
      omega
    · intro q; rw [q]
  rw [e]
  refine ⟨fun j hj => ?_, fun j hj => ?_, fun j hj => ?_, fun j hj => ?_, ?_, fun j hj => ?_⟩
  · rw [mU_n _ _ _ (by decide), mU_n _ _ _ (by decide), mU_e, if_pos rfl]
    by_cases c : j = i
    · rw [if_pos c, c, sU_e]
    · rw [if_neg c, sU_n _ _ c]; exact i1 j hj
  · rw [mU_n _ _ _ (by decide), mU_e, if_pos rfl]
    have q := sum_set (fun a b => if b = nI j then a_loadBy P (nI a) (nI j) else 0) s (i := i) (nI k) (nPe P) hi
    have n9 : ¬ s i = nI j := fun w => pole_n9 (pole_nI hpb hj) (by rw [← w, h9])
    simp only [if_neg n9, Int32.add_zero] at q
    show _ = LI P (sU s i (nI k)) (nPe P) (nI j)
    unfold LI
    rw [q]
    by_cases c : j = k
    · rw [if_pos c, c, if_pos rfl, i2 k hk]; rfl
    · rw [if_neg c, if_neg (fun w => c ((inj j hj).mp w)), Int32.add_zero, mU_n _ _ _ (by decide)]; exact i2 j hj
  · rw [mU_e, if_pos rfl]
    have q := sum_set (fun a b => if b = nI j then a_high P (nI a) (nI j) else 0) s (i := i) (nI k) (nPe P) hi
    have n9 : ¬ s i = nI j := fun w => pole_n9 (pole_nI hpb hj) (by rw [← w, h9])
    simp only [if_neg n9, Int32.add_zero] at q
    show _ = HK P (sU s i (nI k)) (nPe P) (nI j)
    unfold HK
    rw [q]
    by_cases c : j = k
    · rw [if_pos c, c, if_pos rfl, i3 k hk]; rfl
    · rw [if_neg c, if_neg (fun w => c ((inj j hj).mp w)), Int32.add_zero, mU_n _ _ _ (by decide), mU_n _ _ _ (by decide)]; exact i3 j hj
  · rw [mU_n _ _ _ (by decide), mU_n _ _ _ (by decide), mU_n _ _ _ (by decide)]; exact i4 j hj
  · rw [mU_n _ _ _ (by decide), mU_n _ _ _ (by decide), mU_n _ _ _ (by decide)]; exact i5
  · by_cases c : j = i
    · rw [c, sU_e]; exact Or.inr hu
    · rw [sU_n _ _ c]; exact i6 j hj
theorem unseat_G {P S : PT} (hpb : PB P) {σ : Mem} {s : Nat → Int32} (h : InvG P S σ s) {i : Nat} (hi : i < nPe P) (h9 : ¬ s i = -9) : InvG P S (m_unseat P σ i) (sU s i (-9)) := by
  obtain ⟨i1, i2, i3, i4, i5, i6⟩ := h
  have h4 := (PB_pl hpb).2.1
  have hu := (i6 i hi).resolve_left h9
  have hp := up_of_seat hu
  have hx := isPole_ix hp
  have ek := ix_nI (isPole_t hp).1
  obtain ⟨k, hk0⟩ : ∃ k, k = ix (s i) := ⟨_, rfl⟩
  rw [← hk0] at hx ek
  have e : m_unseat P σ i = mU (mU (mU σ 68 i (-9)) 69 k (σ 69 k - a_loadBy P (nI i) (nI k))) 70 k (σ 70 k - a_high P (nI i) (nI k)) := by
    unfold m_unseat
    rw [i1 i hi, if_pos hp, ← hk0, ← ek]
  have inj : ∀ j, j < nPl P → (nI k = nI j ↔ j = k) := fun j hj => by
    constructor
    · intro q
      have z := i_eq q
      rw [nI_toInt (by omega), nI_toInt (by omega)] at z
      omega
    · intro q; rw [q]
  rw [e]
  refine ⟨fun j hj => ?_, fun j hj => ?_, fun j hj => ?_, fun j hj => ?_, ?_, fun j hj => ?_⟩
  · rw [mU_n _ _ _ (by decide), mU_n _ _ _ (by decide), mU_e, if_pos rfl]
    by_cases c : j = i
    · rw [if_pos c, c, sU_e]
    · rw [if_neg c, sU_n _ _ c]; exact i1 j hj
  · rw [mU_n _ _ _ (by decide), mU_e, if_pos rfl]
    have q := sum_set (fun a b => if b = nI j then a_loadBy P (nI a) (nI j) else 0) s (i := i) (-9) (nPe P) hi
    have n9 : ¬ (-9 : Int32) = nI j := pole_n9 (pole_nI hpb hj)
    simp only [if_neg n9, Int32.add_zero] at q
    show _ = LI P (sU s i (-9)) (nPe P) (nI j)
    unfold LI
    rw [i_eqs q, ek]
    by_cases c : j = k
    · rw [if_pos c, c, if_pos rfl, i2 k hx]; rfl
    · rw [if_neg c, if_neg (fun w => c ((inj j hj).mp w)), Int32.sub_zero, mU_n _ _ _ (by decide)]; exact i2 j hj
  · rw [mU_e, if_pos rfl]
    have q := sum_set (fun a b => if b = nI j then a_high P (nI a) (nI j) else 0) s (i := i) (-9) (nPe P) hi
    have n9 : ¬ (-9 : Int32) = nI j := pole_n9 (pole_nI hpb hj)
    simp only [if_neg n9, Int32.add_zero] at q
    show _ = HK P (sU s i (-9)) (nPe P) (nI j)
    unfold HK
    rw [i_eqs q, ek]
    by_cases c : j = k
    · rw [if_pos c, c, if_pos rfl, i3 k hx]; rfl
    · rw [if_neg c, if_neg (fun w => c ((inj j hj).mp w)), Int32.sub_zero, mU_n _ _ _ (by decide), mU_n _ _ _ (by decide)]; exact i3 j hj
  · rw [mU_n _ _ _ (by decide), mU_n _ _ _ (by decide), mU_n _ _ _ (by decide)]; exact i4 j hj
  · rw [mU_n _ _ _ (by decide), mU_n _ _ _ (by decide), mU_n _ _ _ (by decide)]; exact i5
  · by_cases c : j = i
    · rw [c, sU_e]; exact Or.inl rfl
    · rw [sU_n _ _ c]; exact i6 j hj
