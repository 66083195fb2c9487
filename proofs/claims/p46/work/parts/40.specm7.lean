/-! the model: by turns, with the moves on a stack of its own -/
def w_open (σ : Mem) (tt : Int32) : Mem := mU (mU σ 21 (ix tt) (-1)) 22 (ix tt) (if tt - tt / 2 * 2 = 0 then -1000000 else 1000000)
def b_who (P : PT) (σ : Mem) (tt : Int32) : Int32 := if tt - tt / 2 * 2 = 0 then (σ 21 (ix tt) - 1) / P 0 0 else σ 21 (ix tt) - 1
def b_to (P : PT) (σ : Mem) (tt : Int32) : Int32 := if tt - tt / 2 * 2 = 0 then (σ 21 (ix tt) - 1) - (σ 21 (ix tt) - 1) / P 0 0 * P 0 0 else -9
def b_most (P : PT) (tt : Int32) : Int32 := if tt - tt / 2 * 2 = 0 then P 0 1 * P 0 0 else P 0 1
def b_mv (P : PT) (σ : Mem) (tt : Int32) : Bool := if σ 21 (ix tt) = 0 then true else if (if σ 12 (5 + ix (b_who P σ tt)) = -9 then (1 : Int32) else 0) = (if tt - tt / 2 * 2 = 0 then (1 : Int32) else 0) then (if b_to P σ tt = -9 then true else a_isUp P (sM σ 12) (b_to P σ tt)) else false
def w_mv1 (P : PT) (σ : Mem) (tt : Int32) : Mem := mU (mU σ 23 (ix tt) (σ 12 (5 + ix (b_who P σ tt)))) 12 (5 + ix (b_who P σ tt)) (b_to P σ tt)
def w_mv (P : PT) (σ : Mem) (tt : Int32) : Mem := if σ 21 (ix tt) = 0 then σ else if b_mv P σ tt = true then w_mv1 P σ tt else σ
def w_wg1 (P : PT) (σ : Mem) (tt : Int32) : Mem := if 0 < σ 21 (ix tt) then mU σ 12 (5 + ix (b_who P σ tt)) (σ 23 (ix tt)) else σ
def w_wg (P : PT) (σ : Mem) (tt came : Int32) : Mem := mU (w_wg1 P σ tt) 22 (ix tt) (if tt - tt / 2 * 2 = 0 then (if σ 22 (ix tt) < came then came else σ 22 (ix tt)) else (if came < σ 22 (ix tt) then came else σ 22 (ix tt)))
def nmF (P : PT) (tt : Int32) : Nat → Mem → Bool × Mem
  | 0, σ => (false, σ)
  | d + 1, σ => if b_most P tt < σ 21 (ix tt) then (false, σ) else if b_mv P σ tt = true then (true, w_mv P σ tt) else nmF P tt d (mU (w_mv P σ tt) 21 (ix tt) (w_mv P σ tt 21 (ix tt) + 1))
def nm (P : PT) (σ : Mem) (tt : Int32) : Bool × Mem := nmF P tt 26 (mU σ 21 (ix tt) (σ 21 (ix tt) + 1))
def dmO (P : PT) (n : Int32) : Nat → Mem → Int32 → Int32 → Option (Int32 × Mem)
  | 0, _, _, _ => none
  | d + 1, τ, x, came => if x < 0 then some (came, τ) else if x < n then (if (nm P τ x).1 = true then dmO P n d (w_open (nm P τ x).2 (x + 1)) (x + 1) came
      else (if x + (-1) < 0 then dmO P n d (nm P τ x).2 (x + (-1)) ((nm P τ x).2 22 (ix x)) else dmO P n d (w_wg P (nm P τ x).2 (x + (-1)) ((nm P τ x).2 22 (ix x))) (x + (-1)) ((nm P τ x).2 22 (ix x))))
    else (if x + (-1) < 0 then dmO P n d τ (x + (-1)) (b_worth P (sM τ 12)) else dmO P n d (w_wg P τ (x + (-1)) (b_worth P (sM τ 12))) (x + (-1)) (b_worth P (sM τ 12)))
theorem w_mv_21 (P : PT) (σ : Mem) (tt : Int32) : w_mv P σ tt 21 = σ 21 := by
  unfold w_mv w_mv1; repeat' split
  all_goals first | rfl | (rw [mU_n _ _ _ (by decide), mU_n _ _ _ (by decide)])
theorem w_mv_n (P : PT) (σ : Mem) (tt : Int32) {q : Nat} (h : q ≠ 12 ∧ q ≠ 23) : w_mv P σ tt q = σ q := by
  unfold w_mv w_mv1; repeat' split
  all_goals first | rfl | (rw [mU_n _ _ _ h.1, mU_n _ _ _ h.2])
theorem pM_n {σ τ : Mem} (h0 : τ 0 = σ 0) (h : ∀ q, 6 ≤ q → q ≤ 10 → τ q = σ q) : pM τ = pM σ := pM_eq (by rw [h0]) (by rw [h0]) h
theorem pM_mv (P : PT) (σ : Mem) (tt : Int32) : pM (w_mv P σ tt) = pM σ := pM_n (w_mv_n _ _ _ (by decide)) (fun q _ _ => w_mv_n _ _ _ (by omega))
theorem w_wg_n (P : PT) (σ : Mem) (tt came : Int32) {q : Nat} (h : q ≠ 12 ∧ q ≠ 22) : w_wg P σ tt came q = σ q := by
  unfold w_wg w_wg1; rw [mU_n _ _ _ h.2]; split
  · exact mU_n _ _ _ h.1
  · rfl
theorem pM_wg (P : PT) (σ : Mem) (tt came : Int32) : pM (w_wg P σ tt came) = pM σ := pM_n (w_wg_n _ _ _ _ (by decide)) (fun q _ _ => w_wg_n _ _ _ _ (by omega))
theorem w_open_n (σ : Mem) (tt : Int32) {q : Nat} (h : q ≠ 21 ∧ q ≠ 22) : w_open σ tt q = σ q := by unfold w_open; rw [mU_n _ _ _ h.2, mU_n _ _ _ h.1]
theorem pM_open (σ : Mem) (tt : Int32) : pM (w_open σ tt) = pM σ := pM_n (w_open_n _ _ (by decide)) (fun q _ _ => w_open_n _ _ (by omega))
theorem nmF_n (P : PT) (tt : Int32) {q : Nat} (h : q ≠ 12 ∧ q ≠ 21 ∧ q ≠ 23) : ∀ d σ, (nmF P tt d σ).2 q = σ q
  | 0, σ => rfl
  | d + 1, σ => by
    rw [nmF]
    split
    · rfl
    · split
      · exact w_mv_n _ _ _ ⟨h.1, h.2.2⟩
      · rw [nmF_n P tt h d, mU_n _ _ _ h.2.1, w_mv_n _ _ _ ⟨h.1, h.2.2⟩]
theorem nm_n (P : PT) (σ : Mem) (tt : Int32) {q : Nat} (h : q ≠ 12 ∧ q ≠ 21 ∧ q ≠ 23) : (nm P σ tt).2 q = σ q := by
  unfold nm; rw [nmF_n P tt h, mU_n _ _ _ h.2.1]
theorem pM_nm (P : PT) (σ : Mem) (tt : Int32) : pM (nm P σ tt).2 = pM σ := pM_n (nm_n _ _ _ (by decide)) (fun q _ _ => nm_n _ _ _ (by omega))
/-- the most moves, one and pole of a move -/
theorem most_i {P : PT} (hpb : PB P) (tt : Int32) : (b_most P tt).toInt = if tt - tt / 2 * 2 = 0 then (nPe P : Int) * (nPl P : Int) else (nPe P : Int) := by
  obtain ⟨e0, b0, t0⟩ := PB_pl hpb
  obtain ⟨e1, b1, t1⟩ := PB_pe hpb
  unfold b_most
  split
  · rw [Int32.toInt_mul, t0, t1]
    rcases (show nPl P = 0 ∨ nPl P = 1 ∨ nPl P = 2 ∨ nPl P = 3 ∨ nPl P = 4 by omega) with h | h | h | h | h <;> rw [h] <;> exact Int.bmod_eq_of_le (by omega) (by omega)
  · exact t1
theorem most_20 {P : PT} (hpb : PB P) (tt : Int32) : 0 ≤ (b_most P tt).toInt ∧ (b_most P tt).toInt ≤ 20 := by
  rw [most_i hpb]
  obtain ⟨e0, b0, t0⟩ := PB_pl hpb
  obtain ⟨e1, b1, t1⟩ := PB_pe hpb
  split
  · rcases (show nPl P = 0 ∨ nPl P = 1 ∨ nPl P = 2 ∨ nPl P = 3 ∨ nPl P = 4 by omega) with h | h | h | h | h <;> rw [h] <;> omega
  · omega
theorem sub1_p {x : Int32} (h : 1 ≤ x.toInt) : (x - 1).toInt = x.toInt - 1 := sub1_i (by omega)
theorem who_ok {P : PT} (hpb : PB P) (hp0 : 0 < nPl P) {σ : Mem} {tt : Int32} (h1 : 1 ≤ (σ 21 (ix tt)).toInt) (h2 : (σ 21 (ix tt)).toInt ≤ (b_most P tt).toInt) :
    (0 ≤ (b_who P σ tt).toInt ∧ (b_who P σ tt).toInt < (nPe P : Int)) ∧ (b_to P σ tt = -9 ∨ a_isPole P (b_to P σ tt) = true) := by
  obtain ⟨e0, b0, t0⟩ := PB_pl hpb
  obtain ⟨e1, b1, t1⟩ := PB_pe hpb
  rw [most_i hpb] at h2
  have hs := sub1_p h1
  have k0 : (0 : Int32).toInt = 0 := by decide
  have k4 : (4 : Int32).toInt = 4 := by decide
  unfold b_who b_to
  split at h2
  · rename_i he
    rw [if_pos he, if_pos he]
    have hr := rem_i (a := σ 21 (ix tt) - 1) (b := P 0 0) (by omega) (by omega)
    have hx : (0 : Int) ≤ ((σ 21 (ix tt) - 1) / P 0 0).toInt ∧ ((σ 21 (ix tt) - 1) / P 0 0).toInt < (nPe P : Int) ∧ 0 ≤ (σ 21 (ix tt) - 1 - (σ 21 (ix tt) - 1) / P 0 0 * P 0 0).toInt ∧ (σ 21 (ix tt) - 1 - (σ 21 (ix tt) - 1) / P 0 0 * P 0 0).toInt < (nPl P : Int) := by
      rw [hr.1, hr.2, hs, t0]
      rcases (show nPl P = 1 ∨ nPl P = 2 ∨ nPl P = 3 ∨ nPl P = 4 by omega) with h | h | h | h <;> rw [h] at h2 ⊢ <;> omega
    refine ⟨⟨hx.1, hx.2.1⟩, Or.inr ?_⟩
    unfold a_isPole
    simp only [Bool.and_eq_true, decide_eq_true_eq, Int32.le_iff_toInt_le, Int32.lt_iff_toInt_lt, k0, k4, t0]
    omega
  · rename_i he
    rw [if_neg he, if_neg he]
    exact ⟨by omega, Or.inl rfl⟩
def seatOk (P : PT) (k : Int32) : Prop := k = -9 ∨ a_isPole P k = true
theorem SV_set {P : PT} {σ : Mem} {j : Nat} {v : Int32} (h : SV P σ 12) (hv : seatOk P v) : SV P (mU σ 12 j v) 12 := by
  intro i hi
  rw [mU_e, if_pos rfl]
  split
  · exact hv
  · exact h i hi
theorem SV_mv {P : PT} (hpb : PB P) (hp0 : 0 < nPl P) {σ : Mem} {tt : Int32} (h : SV P σ 12) (h0 : 0 ≤ (σ 21 (ix tt)).toInt) (h2 : (σ 21 (ix tt)).toInt ≤ (b_most P tt).toInt) : SV P (w_mv P σ tt) 12 := by
  unfold w_mv
  by_cases c : σ 21 (ix tt) = 0
  · rw [if_pos c]; exact h
  · rw [if_neg c]
    have h1 : 1 ≤ (σ 21 (ix tt)).toInt := by have := i_ne c; rw [show (0 : Int32).toInt = 0 by decide] at this; omega
    split
    · exact SV_set (SV_eq h (mU_n _ _ _ (by decide))) (who_ok hpb hp0 h1 h2).2
    · exact h
/-- what a next move leaves -/
theorem nmF_ok {P : PT} (hpb : PB P) (hp0 : 0 < nPl P) {tt : Int32} : ∀ (d : Nat) (σ : Mem), SV P σ 12 → 0 ≤ (σ 21 (ix tt)).toInt → (σ 21 (ix tt)).toInt ≤ (b_most P tt).toInt + 1 →
    SV P (nmF P tt d σ).2 12 ∧ (∀ t, t ≠ ix tt → (nmF P tt d σ).2 21 t = σ 21 t ∧ (nmF P tt d σ).2 23 t = σ 23 t) ∧ ((nmF P tt d σ).1 = true → 0 ≤ ((nmF P tt d σ).2 21 (ix tt)).toInt ∧ ((nmF P tt d σ).2 21 (ix tt)).toInt ≤ (b_most P tt).toInt ∧ (0 < ((nmF P tt d σ).2 21 (ix tt)).toInt → seatOk P ((nmF P tt d σ).2 23 (ix tt))))
  | 0, σ, hs, _, _ => ⟨hs, fun _ _ => ⟨rfl, rfl⟩, fun h => by cases h⟩
  | d + 1, σ, hs, h0, h1 => by
    rw [nmF]
    by_cases c : b_most P tt < σ 21 (ix tt)
    · rw [if_pos c]; exact ⟨hs, fun _ _ => ⟨rfl, rfl⟩, fun h => by cases h⟩
    · rw [if_neg c]
      have hle := i_nlt c
      have hsm := SV_mv hpb hp0 hs h0 hle
      have h23 : ∀ t, t ≠ ix tt → w_mv P σ tt 23 t = σ 23 t := by
        intro t ht
        unfold w_mv w_mv1
        repeat' split
        · rfl
        · rw [mU_n _ _ _ (by decide), mU_e, if_pos rfl, if_neg ht]
        · rfl
      by_cases b : b_mv P σ tt = true
      · rw [if_pos b]
        refine ⟨hsm, fun t ht => ⟨by show w_mv P σ tt 21 t = _; rw [w_mv_21], h23 t ht⟩, fun _ => ?_⟩
        show 0 ≤ (w_mv P σ tt 21 (ix tt)).toInt ∧ (w_mv P σ tt 21 (ix tt)).toInt ≤ _ ∧ (0 < (w_mv P σ tt 21 (ix tt)).toInt → seatOk P (w_mv P σ tt 23 (ix tt)))
        rw [w_mv_21]
        refine ⟨h0, hle, fun hp => ?_⟩
        have c0 : ¬ σ 21 (ix tt) = 0 := fun e => by rw [e] at hp; exact absurd hp (by decide)
        have hw := who_ok hpb hp0 (σ := σ) (tt := tt) (by omega) hle
        unfold w_mv w_mv1
        rw [if_neg c0, if_pos b, mU_n _ _ _ (by decide), mU_e, if_pos rfl, if_pos rfl]
        have hwi := ix_toInt hw.1.1
        exact hs _ (by omega)
      · rw [if_neg b]
        have hmn : w_mv P σ tt = σ := by
          unfold w_mv; rw [if_neg b]; split <;> rfl
        rw [hmn]
        have e : (mU σ 21 (ix tt) (σ 21 (ix tt) + 1) 21 (ix tt)) = σ 21 (ix tt) + 1 := by simp [mU_e]
        have h20 := most_20 hpb tt
        have ei : (σ 21 (ix tt) + 1).toInt = (σ 21 (ix tt)).toInt + 1 := i_succ (n := 21) h0 (by omega) (by decide)
        have ih := nmF_ok hpb hp0 (tt := tt) d (mU σ 21 (ix tt) (σ 21 (ix tt) + 1)) (SV_eq hs (mU_n _ _ _ (by decide))) (by rw [e, ei]; omega) (by rw [e, ei]; omega)
        refine ⟨ih.1, fun t ht => ?_, ih.2.2⟩
        have := ih.2.1 t ht
        rw [mU_e, if_pos rfl, if_neg ht, mU_n _ _ _ (by decide)] at this
        exact this
/-- the stack of a search -/
def DI (P : PT) (τ : Mem) (x : Int32) : Prop := SV P τ 12 ∧ ∀ t : Nat, (t : Int) ≤ x.toInt → -1 ≤ (τ 21 t).toInt ∧ (τ 21 t).toInt ≤ (b_most P (nI t)).toInt ∧ ((t : Int) < x.toInt → 0 ≤ (τ 21 t).toInt ∧ (0 < (τ 21 t).toInt → seatOk P (τ 23 t)))
theorem DI_down {P : PT} (hpb : PB P) (hp0 : 0 < nPl P) {τ : Mem} {x : Int32} (h0 : 0 ≤ x.toInt) (h4 : x.toInt ≤ 4) (h : DI P τ x) (ht : (nm P τ x).1 = true) : DI P (w_open (nm P τ x).2 (x + 1)) (x + 1) := by
  have hx := ix_toInt h0
  have hxn := ix_nI h0
  have hx1 : (x + 1).toInt = x.toInt + 1 := i_succ (n := 5) h0 (by omega) (by decide)
  have hx1i : ix (x + 1) = ix x + 1 := by have := ix_toInt (show 0 ≤ (x + 1).toInt by omega); omega
  obtain ⟨hs, hr⟩ := h
  have hrx := hr (ix x) (by omega)
  rw [← hxn] at hrx
  have e : (mU τ 21 (ix x) (τ 21 (ix x) + 1) 21 (ix x)) = τ 21 (ix x) + 1 := by simp [mU_e]
  have h20 := most_20 hpb x
  have ei : (τ 21 (ix x) + 1).toInt = (τ 21 (ix x)).toInt + 1 := by
    rw [Int32.toInt_add, show (1 : Int32).toInt = 1 by decide]; exact Int.bmod_eq_of_le (by omega) (by omega)
  have ok := nmF_ok hpb hp0 (tt := x) 26 (mU τ 21 (ix x) (τ 21 (ix x) + 1)) (SV_eq hs (mU_n _ _ _ (by decide))) (by rw [e, ei]; omega) (by rw [e, ei]; omega)
  obtain ⟨o1, o2, o3⟩ := ok
  have o3 := o3 ht
  refine ⟨SV_eq o1 (w_open_n _ _ (by decide)), fun t htx => ?_⟩
  rw [hx1] at htx ⊢
  have e23 : w_open (nm P τ x).2 (x + 1) 23 t = (nm P τ x).2 23 t := by rw [w_open_n _ _ (by decide)]
  by_cases c : t = ix x + 1
  · have e21 : w_open (nm P τ x).2 (x + 1) 21 t = -1 := by
      unfold w_open; rw [mU_n _ _ _ (by decide), mU_e, if_pos rfl, hx1i, if_pos c]
    have m20 := most_20 hpb (nI t)
    rw [e21, show (-1 : Int32).toInt = -1 by decide]
    exact ⟨by omega, by omega, fun q => by omega⟩
  · have e21 : w_open (nm P τ x).2 (x + 1) 21 t = (nm P τ x).2 21 t := by
      unfold w_open; rw [mU_n _ _ _ (by decide), mU_e, if_pos rfl, hx1i, if_neg c]
    rw [e21, e23]
    by_cases c2 : t = ix x
    · subst c2
      rw [← hxn]
      exact ⟨by have := o3.1; unfold nm; omega, o3.2.1, fun _ => ⟨o3.1, o3.2.2⟩⟩
    · have q := o2 t c2
      rw [mU_e, if_pos rfl, if_neg c2, mU_n _ _ _ (by decide)] at q
      have hrt := hr t (by omega)
      unfold nm
      rw [q.1, q.2]
      exact ⟨hrt.1, hrt.2.1, fun _ => hrt.2.2 (by omega)⟩
/-- a level is left -/
theorem DI_nm {P : PT} (hpb : PB P) (hp0 : 0 < nPl P) {τ : Mem} {x : Int32} (h0 : 0 ≤ x.toInt) (h4 : x.toInt ≤ 4) (h : DI P τ x) : DI P (nm P τ x).2 (x + (-1)) := by
  have hx := ix_toInt h0
  have hxn := ix_nI h0
  have hx1 : (x + (-1)).toInt = x.toInt - 1 := by
    rw [Int32.toInt_add, show (-1 : Int32).toInt = -1 by decide]; exact Int.bmod_eq_of_le (by omega) (by omega)
  obtain ⟨hs, hr⟩ := h
  have hrx := hr (ix x) (by omega)
  rw [← hxn] at hrx
  have e : (mU τ 21 (ix x) (τ 21 (ix x) + 1) 21 (ix x)) = τ 21 (ix x) + 1 := by simp [mU_e]
  have h20 := most_20 hpb x
  have ei : (τ 21 (ix x) + 1).toInt = (τ 21 (ix x)).toInt + 1 := by
    rw [Int32.toInt_add, show (1 : Int32).toInt = 1 by decide]; exact Int.bmod_eq_of_le (by omega) (by omega)
  obtain ⟨o1, o2, _⟩ := nmF_ok hpb hp0 (tt := x) 26 (mU τ 21 (ix x) (τ 21 (ix x) + 1)) (SV_eq hs (mU_n _ _ _ (by decide))) (by rw [e, ei]; omega) (by rw [e, ei]; omega)
  refine ⟨o1, fun t ht => ?_⟩
  rw [hx1] at ht ⊢
  have q := o2 t (by omega)
  rw [mU_e, if_pos rfl, if_neg (by omega), mU_n _ _ _ (by decide)] at q
  have hrt := hr t (by omega)
  unfold nm
  rw [q.1, q.2]
  exact ⟨hrt.1, hrt.2.1, fun _ => hrt.2.2 (by omega)⟩
theorem DI_leaf {P : PT} {τ : Mem} {x : Int32} (h0 : 0 ≤ x.toInt) (h4 : x.toInt ≤ 4) (h : DI P τ x) : DI P τ (x + (-1)) := by
  have hx1 : (x + (-1)).toInt = x.toInt - 1 := by
    rw [Int32.toInt_add, show (-1 : Int32).toInt = -1 by decide]; exact Int.bmod_eq_of_le (by omega) (by omega)
  exact ⟨h.1, fun t ht => by have q := h.2 t (by omega); exact ⟨q.1, q.2.1, fun _ => q.2.2 (by omega)⟩⟩
/-- the level below is ready to be weighed -/
def DW (P : PT) (τ : Mem) (y : Int32) : Prop := DI P τ y ∧ (0 ≤ y.toInt → 0 ≤ (τ 21 (ix y)).toInt ∧ (0 < (τ 21 (ix y)).toInt → seatOk P (τ 23 (ix y))))
theorem DW_of {P : PT} {τ τ' : Mem} {x : Int32} (h0 : 0 ≤ x.toInt) (h4 : x.toInt ≤ 4) (h : DI P τ x) (h' : DI P τ' (x + (-1))) (e : ∀ t : Nat, (t : Int) < x.toInt → τ' 21 t = τ 21 t ∧ τ' 23 t = τ 23 t) : DW P τ' (x + (-1)) := by
  have hx1 : (x + (-1)).toInt = x.toInt - 1 := by
    rw [Int32.toInt_add, show (-1 : Int32).toInt = -1 by decide]; exact Int.bmod_eq_of_le (by omega) (by omega)
  refine ⟨h', fun hy => ?_⟩
  have hyi := ix_toInt hy
  have hlt : ((ix (x + (-1)) : Nat) : Int) < x.toInt := by omega
  have q := (h.2 (ix (x + (-1))) (by omega)).2.2 hlt
  have ee := e _ hlt
  rw [ee.1, ee.2]; exact q
theorem DW_nm {P : PT} (hpb : PB P) (hp0 : 0 < nPl P) {τ : Mem} {x : Int32} (h0 : 0 ≤ x.toInt) (h4 : x.toInt ≤ 4) (h : DI P τ x) : DW P (nm P τ x).2 (x + (-1)) := by
  have hx := ix_toInt h0
  refine DW_of h0 h4 h (DI_nm hpb hp0 h0 h4 h) (fun t ht => ?_)
  have hxn := ix_nI h0
  obtain ⟨hs, hr⟩ := h
  have hrx := hr (ix x) (by omega)
  rw [← hxn] at hrx
  have e : (mU τ 21 (ix x) (τ 21 (ix x) + 1) 21 (ix x)) = τ 21 (ix x) + 1 := by simp [mU_e]
  have h20 := most_20 hpb x
  have ei : (τ 21 (ix x) + 1).toInt = (τ 21 (ix x)).toInt + 1 := by
    rw [Int32.toInt_add, show (1 : Int32).toInt = 1 by decide]; exact Int.bmod_eq_of_le (by omega) (by omega)
  obtain ⟨o1, o2, _⟩ := nmF_ok hpb hp0 (tt := x) 26 (mU τ 21 (ix x) (τ 21 (ix x) + 1)) (SV_eq hs (mU_n _ _ _ (by decide))) (by rw [e, ei]; omega) (by rw [e, ei]; omega)
  have q := o2 t (by omega)
  rw [mU_e, if_pos rfl, if_neg (by omega), mU_n _ _ _ (by decide)] at q
  exact q
theorem DW_leaf {P : PT} {τ : Mem} {x : Int32} (h0 : 0 ≤ x.toInt) (h4 : x.toInt ≤ 4) (h : DI P τ x) : DW P τ (x + (-1)) := DW_of h0 h4 h (DI_leaf h0 h4 h) (fun _ _ => ⟨rfl, rfl⟩)
theorem DI_wg {P : PT} {τ : Mem} {y came : Int32} (h0 : 0 ≤ y.toInt) (h : DW P τ y) : DI P (w_wg P τ y came) y := by
  obtain ⟨⟨hs, hr⟩, hw⟩ := h
  refine ⟨?_, fun t ht => ?_⟩
  · refine SV_eq (σ := w_wg1 P τ y) ?_ (mU_n _ _ _ (by decide))
    unfold w_wg1
    split
    · exact SV_set hs ((hw h0).2 (by rename_i c; have := i_lt c; rw [show (0 : Int32).toInt = 0 by decide] at this; exact this))
    · exact hs
  · rw [w_wg_n _ _ _ _ (by decide), w_wg_n _ _ _ _ (by decide)]; exact hr t ht
theorem DI_0 {P : PT} (hpb : PB P) {τ : Mem} (hs : SV P τ 12) : DI P (w_open τ 0) 0 := by
  refine ⟨SV_eq hs (w_open_n _ _ (by decide)), fun t ht => ?_⟩
  have k0 : (0 : Int32).toInt = 0 := by decide
  rw [k0] at ht ⊢
  obtain rfl : t = 0 := by omega
  have e : w_open τ 0 21 0 = -1 := by unfold w_open; rw [mU_n _ _ _ (by decide), mU_e, if_pos rfl]; rfl
  have m20 := most_20 hpb (nI 0)
  rw [e, show (-1 : Int32).toInt = -1 by decide]
  exact ⟨by omega, by omega, fun q => by omega⟩
theorem i_inc {x : Int32} (h : -1000000 ≤ x.toInt ∧ x.toInt ≤ 1000000) : (x + 1).toInt = x.toInt + 1 := by
  rw [Int32.toInt_add, show (1 : Int32).toInt = 1 by decide]; exact Int.bmod_eq_of_le (by omega) (by omega)
def Hid (a : Prop) : Prop := a
