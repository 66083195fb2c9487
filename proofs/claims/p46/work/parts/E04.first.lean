theorem conv_P {D : va_G} {cl : List vw_C} {ws : va_W} {G : GT} {N : Nat} {cw : Nat → va_E} {H : Heap} (f : Nat → Nat) (h : ∀ i, i < N → ∃ e : va_E, ws[f i]? = some (G.1 i, e) ∧ (va_at D cl (G.1 i, e) H → va_at D cl (G.1 i, cw i) H)) (hP : va_P D cl ws H) : va_P D cl (wl G N cw) H := fun k x hx => by
  obtain ⟨hk, rfl⟩ := wl_inv hx
  obtain ⟨e, h1, h2⟩ := h k hk
  exact h2 (hP _ _ h1)
theorem conv_D {A : Nat → Prop} {ws : va_W} {G : GT} {N : Nat} {cw : Nat → va_E} (f : Nat → Nat) (h : ∀ i, i < N → ∃ e : va_E, ws[f i]? = some (G.1 i, e)) (inj : ∀ i j, i < N → j < N → f i = f j → i = j) (hD : va_D A ws) : va_D A (wl G N cw) := by
  refine ⟨fun i j x y hx hy e => ?_, fun k x hx => ?_⟩
  · obtain ⟨hi, rfl⟩ := wl_inv hx
    obtain ⟨hj, rfl⟩ := wl_inv hy
    obtain ⟨e1, h1⟩ := h i hi
    obtain ⟨e2, h2⟩ := h j hj
    exact inj i j hi hj (hD.1 _ _ _ _ h1 h2 e)
  · obtain ⟨hk, rfl⟩ := wl_inv hx
    obtain ⟨e1, h1⟩ := h k hk
    exact hD.2 _ (G.1 k, e1) h1
/-- first memories -/
def x0 : Mem := fun q => match q with
  | 0 => fun k => if k = 3 then 1 else 0
  | 5 => fun _ => -1
  | 7 => fun _ => -1
  | 9 => fun _ => -1
  | 11 => fun _ => -1
  | 13 => fun _ => -1
  | 15 => fun _ => -1
  | 17 => fun _ => -1
  | 19 => fun _ => -1
  | 21 => fun _ => -1
  | 23 => fun _ => -1
  | 27 => fun _ => -1
  | 29 => fun _ => -1
  | 31 => fun _ => -1
  | _ => fun _ => 0
def m0 : Mem := fun q => match q with
  | 0 => fun k => if k = 2 then 1 else 0
  | _ => fun _ => 0
def mI : Mem := (mU (mU (mU (mU (mU (mU (mU (mU (mU (mU m0 2 0 (-1)) 2 1 (-1)) 2 2 (-1)) 2 3 (-1)) 2 4 (-1)) 2 5 (-1)) 4 0 (-1)) 4 1 (-1)) 4 2 (-1)) 4 3 (-1))
/-! the class's world by number behind its constructor -/
theorem vq_c {x : ClassId} {n : Nat} {f g : Nat → Option Nat} (h : ∀ i, i < n → f i = g i) : vp_cell x (n, .inr (.inr (.inr (.inr f)))) = vp_cell x (n, .inr (.inr (.inr (.inr g)))) := by
  rw [vp_cell_q, vp_cell_q]
  unfold arrV
  congr 1
  apply Array.ext
  · simp
  · intro i h1 h2
    have hi : i < n := by simpa using h1
    simp [h i hi]
theorem at_vq {D : va_G} {cl : List vw_C} {q : Nat} {x : ClassId} {n : Nat} {f g : Nat → Option Nat} {H : Heap} (h : ∀ i, i < n → f i = g i) (w : va_at D cl (q, .inl (x, n, .inr (.inr (.inr (.inr f))))) H) : va_at D cl (q, .inl (x, n, .inr (.inr (.inr (.inr g))))) H := by
  show H[q]? = some (vp_cell x (n, .inr (.inr (.inr (.inr g)))))
  rw [← vq_c h]; exact w
def xperm : Nat → Nat := fun i => match i with | 0 => 0 | 1 => 1 | 2 => 2 | 3 => 23 | 4 => 45 | 5 => 46 | 6 => 47 | 7 => 48 | 8 => 49 | 9 => 50 | 10 => 51 | 11 => 52 | 12 => 53 | 13 => 54 | 14 => 55 | 15 => 56 | 16 => 57 | 17 => 58 | 18 => 59 | 19 => 60 | 20 => 61 | 21 => 62 | 22 => 63 | 23 => 64 | 24 => 65 | 25 => 21 | 26 => 22 | 27 => 66 | 28 => 67 | 29 => 68 | 30 => 69 | 31 => 70 | 32 => 71 | 33 => 3 | 34 => 4 | 35 => 5 | 36 => 6 | 37 => 7 | 38 => 8 | 39 => 9 | 40 => 10 | 41 => 11 | 42 => 12 | 43 => 13 | 44 => 14 | 45 => 15 | 46 => 16 | 47 => 17 | 48 => 18 | 49 => 19 | 50 => 20 | 51 => 24 | 52 => 25 | 53 => 26 | 54 => 27 | 55 => 28 | 56 => 29 | 57 => 30 | 58 => 31 | 59 => 32 | 60 => 33 | 61 => 34 | 62 => 35 | 63 => 36 | 64 => 37 | 65 => 38 | 66 => 39 | 67 => 40 | 68 => 41 | 69 => 42 | 70 => 43 | _ => 44
theorem xperm_inj : ∀ i j, i < 72 → j < 72 → xperm i = xperm j → i = j := by
  have q : ∀ a b : Fin 72, xperm a.1 = xperm b.1 → a = b := by decide +kernel
  intro i j hi hj e
  have w := q ⟨i, hi⟩ ⟨j, hj⟩ e
  exact Fin.mk.inj w
set_option maxHeartbeats 4000000 in
set_option maxRecDepth 100000 in
theorem X7_world {D : va_G} {a : Nat → ClassId} {h0 : Nat} {H : Heap} {A : Nat → Prop} {ws : va_W} (h : ∃ (q1 : Nat) (q2 : Nat) (q3 : Nat) (q4 : Nat) (q5 : Nat) (q6 : Nat) (q7 : Nat) (q8 : Nat) (q9 : Nat) (q10 : Nat) (q11 : Nat) (q12 : Nat) (q13 : Nat) (q14 : Nat) (q15 : Nat) (q16 : Nat) (q17 : Nat) (q18 : Nat) (q19 : Nat) (q20 : Nat) (q21 : Nat) (q22 : Nat) (q23 : Nat) (q24 : Nat) (q25 : Nat) (q26 : Nat) (q27 : Nat) (q28 : Nat) (q29 : Nat) (q30 : Nat) (r31 : Nat → Nat) (q32 : Nat) (q33 : Nat) (q34 : Nat) (q35 : Nat) (q36 : Nat) (q37 : Nat) (q38 : Nat) (q39 : Nat) (q40 : Nat) (q41 : Nat) (q42 : Nat) (q43 : Nat) (q44 : Nat) (q45 : Nat) (q46 : Nat) (q47 : Nat) (q48 : Nat) (q49 : Nat) (q50 : Nat) (q51 : Nat) (q52 : Nat) (q53 : Nat) (q54 : Nat) (q55 : Nat) (q56 : Nat) (q57 : Nat) (q58 : Nat) (q59 : Nat) (q60 : Nat) (q61 : Nat) (q62 : Nat) (q63 : Nat) (q64 : Nat) (q65 : Nat) (q66 : Nat), ws = ((h0, .inr (7, [.ref q1, .ref q2, .ref q3, .ref q9, .ref q15, .ref q18, .ref q21, .ref q23, .ref q24, .ref q29, .ref q35, .ref q40, .int 0, .int 0, .long 0, .long 1])) :: (q1, .inl (a 1, 6, .inr (.inr (.inr (.inr (va_up (va_up (va_up (va_up (va_up (va_up (fun _ => none) 0 (some q41)) 1 (some q43)) 2 (some q45)) 3 (some q47)) 4 (some q49)) 5 (some q51))))))) :: (q2, .inl (a 1, 4, .inr (.inr (.inr (.inr (va_up (va_up (va_up (va_up (fun _ => none) 0 (some q53)) 1 (some q55)) 2 (some q57)) 3 (some q59))))))) :: (q3, .inr (2, [.ref q4, .ref q5, .ref q6, .ref q7, .ref q8, .int 0, .int 0])) :: (q4, .inl (a 0, 4, .inl (fun _ => 0))) :: (q5, .inl (a 0, 4, .inl (fun _ => 0))) :: (q6, .inl (a 0, 4, .inl (fun _ => 0))) :: (q7, .inl (a 0, 5, .inl (fun _ => 0))) :: (q8, .inl (a 0, 5, .inl (fun _ => 0))) :: (q9, .inr (2, [.ref q10, .ref q11, .ref q12, .ref q13, .ref q14, .int 0, .int 0])) :: (q10, .inl (a 0, 4, .inl (fun _ => 0))) :: (q11, .inl (a 0, 4, .inl (fun _ => 0))) :: (q12, .inl (a 0, 4, .inl (fun _ => 0))) :: (q13, .inl (a 0, 5, .inl (fun _ => 0))) :: (q14, .inl (a 0, 5, .inl (fun _ => 0))) :: (q15, .inr (4, [.ref q3, .ref q16, .ref q17, .int 0, .int 0, .int 0])) :: (q16, .inl (a 0, 4, .inl (fun _ => 0))) :: (q17, .inl (a 0, 5, .inl (fun _ => 0))) :: (q18, .inr (4, [.ref q3, .ref q19, .ref q20, .int 0, .int 0, .int 0])) :: (q19, .inl (a 0, 4, .inl (fun _ => 0))) :: (q20, .inl (a 0, 5, .inl (fun _ => 0))) :: (q21, .inr (0, [.ref q22, .int 0])) :: (q22, .inl (a 0, 40, .inl (fun _ => 0))) :: (q23, .inl (a 2, 3, .inr (.inr (.inr (.inr (va_up (va_up (va_up (fun _ => none) 0 (some q61)) 1 (some q63)) 2 (some q65))))))) :: (q24, .inr (6, [.ref q3, .ref q25, .ref q26, .ref q27, .ref q28, .int 0, .int 0])) :: (q25, .inl (a 0, 4, .inl (fun _ => 0))) :: (q26, .inl (a 0, 6, .inl (fun _ => 0))) :: (q27, .inl (a 0, 5, .inl (fun _ => 0))) :: (q28, .inl (a 0, 5, .inl (fun _ => 0))) :: (q29, .inr (1, [.ref q3, .ref q30, .ref q32, .ref q33, .ref q34, .int 0, .int 0, .int 0])) :: (q30, .inl (a 3, 6, .inr (.inr (.inr (.inr (fun i => if i < 6 then some (r31 i) else none)))))) :: ((r31 0), .inl (a 0, 4, .inl (fun _ => 0))) :: ((r31 1), .inl (a 0, 4, .inl (fun _ => 0))) :: ((r31 2), .inl (a 0, 4, .inl (fun _ => 0))) :: ((r31 3), .inl (a 0, 4, .inl (fun _ => 0))) :: ((r31 4), .inl (a 0, 4, .inl (fun _ => 0))) :: ((r31 5), .inl (a 0, 4, .inl (fun _ => 0))) :: (q32, .inl (a 0, 4, .inl (fun _ => 0))) :: (q33, .inl (a 0, 5, .inl (fun _ => 0))) :: (q34, .inl (a 0, 5, .inl (fun _ => 0))) :: (q35, .inr (5, [.ref q3, .ref q36, .ref q37, .ref q38, .ref q39, .int 0])) :: (q36, .inl (a 0, 5, .inl (fun _ => 0))) :: (q37, .inl (a 0, 4, .inl (fun _ => 0))) :: (q38, .inl (a 0, 4, .inl (fun _ => 0))) :: (q39, .inl (a 0, 4, .inl (fun _ => 0))) :: (q40, .inl (a 0, 6, .inl (fun _ => 0))) :: (q41, .inr (3, [.ref q42, .int (-1)])) :: (q42, .inl (a 0, 60, .inl (fun _ => 0))) :: (q43, .inr (3, [.ref q44, .int (-1)])) :: (q44, .inl (a 0, 60, .inl (fun _ => 0))) :: (q45, .inr (3, [.ref q46, .int (-1)])) :: (q46, .inl (a 0, 60, .inl (fun _ => 0))) :: (q47, .inr (3, [.ref q48, .int (-1)])) :: (q48, .inl (a 0, 60, .inl (fun _ => 0))) :: (q49, .inr (3, [.ref q50, .int (-1)])) :: (q50, .inl (a 0, 60, .inl (fun _ => 0))) :: (q51, .inr (3, [.ref q52, .int (-1)])) :: (q52, .inl (a 0, 60, .inl (fun _ => 0))) :: (q53, .inr (3, [.ref q54, .int (-1)])) :: (q54, .inl (a 0, 60, .inl (fun _ => 0))) :: (q55, .inr (3, [.ref q56, .int (-1)])) :: (q56, .inl (a 0, 60, .inl (fun _ => 0))) :: (q57, .inr (3, [.ref q58, .int (-1)])) :: (q58, .inl (a 0, 60, .inl (fun _ => 0))) :: (q59, .inr (3, [.ref q60, .int (-1)])) :: (q60, .inl (a 0, 60, .inl (fun _ => 0))) :: (q61, .inr (0, [.ref q62, .int (-1)])) :: (q62, .inl (a 0, 40, .inl (fun _ => 0))) :: (q63, .inr (0, [.ref q64, .int (-1)])) :: (q64, .inl (a 0, 40, .inl (fun _ => 0))) :: (q65, .inr (0, [.ref q66, .int (-1)])) :: (q66, .inl (a 0, 40, .inl (fun _ => 0))) :: [])) (hP : va_P D vwCl ws H) (hD : va_D A ws) : ∃ G : GT, G.2 = (D, a) ∧ G.1 0 = h0 ∧ va_P D vwCl (wl G 72 (cX G x0)) H ∧ va_D A (wl G 72 (fun _ => .inr (0, []))) := by
  obtain ⟨q1, q2, q3, q4, q5, q6, q7, q8, q9, q10, q11, q12, q13, q14, q15, q16, q17, q18, q19, q20, q21, q22, q23, q24, q25, q26, q27, q28, q29, q30, r31, q32, q33, q34, q35, q36, q37, q38, q39, q40, q41, q42, q43, q44, q45, q46, q47, q48, q49, q50, q51, q52, q53, q54, q55, q56, q57, q58, q59, q60, q61, q62, q63, q64, q65, q66, rfl⟩ := h
  refine ⟨((fun i => match i with | 0 => h0 | 1 => q1 | 2 => q2 | 3 => q23 | 4 => q40 | 5 => q41 | 6 => q42 | 7 => q43 | 8 => q44 | 9 => q45 | 10 => q46 | 11 => q47 | 12 => q48 | 13 => q49 | 14 => q50 | 15 => q51 | 16 => q52 | 17 => q53 | 18 => q54 | 19 => q55 | 20 => q56 | 21 => q57 | 22 => q58 | 23 => q59 | 24 => q60 | 25 => q21 | 26 => q22 | 27 => q61 | 28 => q62 | 29 => q63 | 30 => q64 | 31 => q65 | 32 => q66 | 33 => q3 | 34 => q4 | 35 => q5 | 36 => q6 | 37 => q7 | 38 => q8 | 39 => q9 | 40 => q10 | 41 => q11 | 42 => q12 | 43 => q13 | 44 => q14 | 45 => q15 | 46 => q16 | 47 => q17 | 48 => q18 | 49 => q19 | 50 => q20 | 51 => q24 | 52 => q25 | 53 => q26 | 54 => q27 | 55 => q28 | 56 => q29 | 57 => q30 | 58 => (r31 0) | 59 => (r31 1) | 60 => (r31 2) | 61 => (r31 3) | 62 => (r31 4) | 63 => (r31 5) | 64 => q32 | 65 => q33 | 66 => q34 | 67 => q35 | 68 => q36 | 69 => q37 | 70 => q38 | _ => q39), D, a), rfl, rfl, ?_, ?_⟩
  · refine conv_P xperm (fun i hi => ?_) hP
    match i, hi with
    | 0, _ => exact ⟨_, rfl, fun h => h⟩
    | 1, _ => exact ⟨_, rfl, fun h => at_vq (fun i hi => by rcases (show i = 0 ∨ i = 1 ∨ i = 2 ∨ i = 3 ∨ i = 4 ∨ i = 5 by omega) with rfl | rfl | rfl | rfl | rfl | rfl <;> rfl) h⟩
    | 2, _ => exact ⟨_, rfl, fun h => at_vq (fun i hi => by rcases (show i = 0 ∨ i = 1 ∨ i = 2 ∨ i = 3 by omega) with rfl | rfl | rfl | rfl <;> rfl) h⟩
    | 3, _ => exact ⟨_, rfl, fun h => at_vq (fun i hi => by rcases (show i = 0 ∨ i = 1 ∨ i = 2 by omega) with rfl | rfl | rfl <;> rfl) h⟩
    | 4, _ => exact ⟨_, rfl, fun h => h⟩
    | 5, _ => exact ⟨_, rfl, fun h => h⟩
    | 6, _ => exact ⟨_, rfl, fun h => h⟩
    | 7, _ => exact ⟨_, rfl, fun h => h⟩
    | 8, _ => exact ⟨_, rfl, fun h => h⟩
    | 9, _ => exact ⟨_, rfl, fun h => h⟩
    | 10, _ => exact ⟨_, rfl, fun h => h⟩
    | 11, _ => exact ⟨_, rfl, fun h => h⟩
    | 12, _ => exact ⟨_, rfl, fun h => h⟩
    | 13, _ => exact ⟨_, rfl, fun h => h⟩
    | 14, _ => exact ⟨_, rfl, fun h => h⟩
    | 15, _ => exact ⟨_, rfl, fun h => h⟩
    | 16, _ => exact ⟨_, rfl, fun h => h⟩
    | 17, _ => exact ⟨_, rfl, fun h => h⟩
    | 18, _ => exact ⟨_, rfl, fun h => h⟩
    | 19, _ => exact ⟨_, rfl, fun h => h⟩
    | 20, _ => exact ⟨_, rfl, fun h => h⟩
    | 21, _ => exact ⟨_, rfl, fun h => h⟩
    | 22, _ => exact ⟨_, rfl, fun h => h⟩
    | 23, _ => exact ⟨_, rfl, fun h => h⟩
    | 24, _ => exact ⟨_, rfl, fun h => h⟩
    | 25, _ => exact ⟨_, rfl, fun h => h⟩
    | 26, _ => exact ⟨_, rfl, fun h => h⟩
    | 27, _ => exact ⟨_, rfl, fun h => h⟩
    | 28, _ => exact ⟨_, rfl, fun h => h⟩
    | 29, _ => exact ⟨_, rfl, fun h => h⟩
    | 30, _ => exact ⟨_, rfl, fun h => h⟩
    | 31, _ => exact ⟨_, rfl, fun h => h⟩
    | 32, _ => exact ⟨_, rfl, fun h => h⟩
    | 33, _ => exact ⟨_, rfl, fun h => h⟩
    | 34, _ => exact ⟨_, rfl, fun h => h⟩
    | 35, _ => exact ⟨_, rfl, fun h => h⟩
    | 36, _ => exact ⟨_, rfl, fun h => h⟩
    | 37, _ => exact ⟨_, rfl, fun h => h⟩
    | 38, _ => exact ⟨_, rfl, fun h => h⟩
    | 39, _ => exact ⟨_, rfl, fun h => h⟩
    | 40, _ => exact ⟨_, rfl, fun h => h⟩
    | 41, _ => exact ⟨_, rfl, fun h => h⟩
    | 42, _ => exact ⟨_, rfl, fun h => h⟩
    | 43, _ => exact ⟨_, rfl, fun h => h⟩
    | 44, _ => exact ⟨_, rfl, fun h => h⟩
    | 45, _ => exact ⟨_, rfl, fun h => h⟩
    | 46, _ => exact ⟨_, rfl, fun h => h⟩
    | 47, _ => exact ⟨_, rfl, fun h => h⟩
    | 48, _ => exact ⟨_, rfl, fun h => h⟩
    | 49, _ => exact ⟨_, rfl, fun h => h⟩
    | 50, _ => exact ⟨_, rfl, fun h => h⟩
    | 51, _ => exact ⟨_, rfl, fun h => h⟩
    | 52, _ => exact ⟨_, rfl, fun h => h⟩
    | 53, _ => exact ⟨_, rfl, fun h => h⟩
    | 54, _ => exact ⟨_, rfl, fun h => h⟩
    | 55, _ => exact ⟨_, rfl, fun h => h⟩
    | 56, _ => exact ⟨_, rfl, fun h => h⟩
    | 57, _ => exact ⟨_, rfl, fun h => at_vq (fun i hi => by rcases (show i = 0 ∨ i = 1 ∨ i = 2 ∨ i = 3 ∨ i = 4 ∨ i = 5 by omega) with rfl | rfl | rfl | rfl | rfl | rfl <;> rfl) h⟩
    | 58, _ => exact ⟨_, rfl, fun h => h⟩
    | 59, _ => exact ⟨_, rfl, fun h => h⟩
    | 60, _ => exact ⟨_, rfl, fun h => h⟩
    | 61, _ => exact ⟨_, rfl, fun h => h⟩
    | 62, _ => exact ⟨_, rfl, fun h => h⟩
    | 63, _ => exact ⟨_, rfl, fun h => h⟩
    | 64, _ => exact ⟨_, rfl, fun h => h⟩
    | 65, _ => exact ⟨_, rfl, fun h => h⟩
    | 66, _ => exact ⟨_, rfl, fun h => h⟩
    | 67, _ => exact ⟨_, rfl, fun h => h⟩
    | 68, _ => exact ⟨_, rfl, fun h => h⟩
    | 69, _ => exact ⟨_, rfl, fun h => h⟩
    | 70, _ => exact ⟨_, rfl, fun h => h⟩
    | 71, _ => exact ⟨_, rfl, fun h => h⟩
    | n + 72, h => exact absurd h (by omega)
  · refine conv_D xperm (fun i hi => ?_) xperm_inj hD
    match i, hi with
    | 0, _ => exact ⟨_, rfl⟩
    | 1, _ => exact ⟨_, rfl⟩
    | 2, _ => exact ⟨_, rfl⟩
    | 3, _ => exact ⟨_, rfl⟩
    | 4, _ => exact ⟨_, rfl⟩
    | 5, _ => exact ⟨_, rfl⟩
    | 6, _ => exact ⟨_, rfl⟩
    | 7, _ => exact ⟨_, rfl⟩
    | 8, _ => exact ⟨_, rfl⟩
    | 9, _ => exact ⟨_, rfl⟩
    | 10, _ => exact ⟨_, rfl⟩
    | 11, _ => exact ⟨_, rfl⟩
    | 12, _ => exact ⟨_, rfl⟩
    | 13, _ => exact ⟨_, rfl⟩
    | 14, _ => exact ⟨_, rfl⟩
    | 15, _ => exact ⟨_, rfl⟩
    | 16, _ => exact ⟨_, rfl⟩
    | 17, _ => exact ⟨_, rfl⟩
    | 18, _ => exact ⟨_, rfl⟩
    | 19, _ => exact ⟨_, rfl⟩
    | 20, _ => exact ⟨_, rfl⟩
    | 21, _ => exact ⟨_, rfl⟩
    | 22, _ => exact ⟨_, rfl⟩
    | 23, _ => exact ⟨_, rfl⟩
    | 24, _ => exact ⟨_, rfl⟩
    | 25, _ => exact ⟨_, rfl⟩
    | 26, _ => exact ⟨_, rfl⟩
    | 27, _ => exact ⟨_, rfl⟩
    | 28, _ => exact ⟨_, rfl⟩
    | 29, _ => exact ⟨_, rfl⟩
    | 30, _ => exact ⟨_, rfl⟩
    | 31, _ => exact ⟨_, rfl⟩
    | 32, _ => exact ⟨_, rfl⟩
    | 33, _ => exact ⟨_, rfl⟩
    | 34, _ => exact ⟨_, rfl⟩
    | 35, _ => exact ⟨_, rfl⟩
    | 36, _ => exact ⟨_, rfl⟩
    | 37, _ => exact ⟨_, rfl⟩
    | 38, _ => exact ⟨_, rfl⟩
    | 39, _ => exact ⟨_, rfl⟩
    | 40, _ => exact ⟨_, rfl⟩
    | 41, _ => exact ⟨_, rfl⟩
    | 42, _ => exact ⟨_, rfl⟩
    | 43, _ => exact ⟨_, rfl⟩
    | 44, _ => exact ⟨_, rfl⟩
    | 45, _ => exact ⟨_, rfl⟩
    | 46, _ => exact ⟨_, rfl⟩
    | 47, _ => exact ⟨_, rfl⟩
    | 48, _ => exact ⟨_, rfl⟩
    | 49, _ => exact ⟨_, rfl⟩
    | 50, _ => exact ⟨_, rfl⟩
    | 51, _ => exact ⟨_, rfl⟩
    | 52, _ => exact ⟨_, rfl⟩
    | 53, _ => exact ⟨_, rfl⟩
    | 54, _ => exact ⟨_, rfl⟩
    | 55, _ => exact ⟨_, rfl⟩
    | 56, _ => exact ⟨_, rfl⟩
    | 57, _ => exact ⟨_, rfl⟩
    | 58, _ => exact ⟨_, rfl⟩
    | 59, _ => exact ⟨_, rfl⟩
    | 60, _ => exact ⟨_, rfl⟩
    | 61, _ => exact ⟨_, rfl⟩
    | 62, _ => exact ⟨_, rfl⟩
    | 63, _ => exact ⟨_, rfl⟩
    | 64, _ => exact ⟨_, rfl⟩
    | 65, _ => exact ⟨_, rfl⟩
    | 66, _ => exact ⟨_, rfl⟩
    | 67, _ => exact ⟨_, rfl⟩
    | 68, _ => exact ⟨_, rfl⟩
    | 69, _ => exact ⟨_, rfl⟩
    | 70, _ => exact ⟨_, rfl⟩
    | 71, _ => exact ⟨_, rfl⟩
    | n + 72, h => exact absurd h (by omega)
/-- the first relation -/
theorem mI_0 {j : Nat} : mI 0 j = m0 0 j := by unfold mI; simp only [mU_n _ _ _ (show (0 : Nat) ≠ 4 by decide), mU_n _ _ _ (show (0 : Nat) ≠ 2 by decide)]
theorem wI_0 {j : Nat} (h : j ≠ 6) : w_begins mI 0 j = m0 0 j := by rw [w_begins_0 _ h, mI_0]
theorem wI_n {q : Nat} (h0 : q ≠ 0) (h11 : q ≠ 11) (h14 : q ≠ 14) : w_begins mI q = mI q := by unfold w_begins; rw [w_kept_n _ h14, mU_n _ _ _ h0, mF_n _ _ _ h11]
theorem mI_2 : ∀ r, r < 6 → mI 2 r = -1 := by
  intro r hr
  unfold mI
  simp only [mU_n _ _ _ (show (2 : Nat) ≠ 4 by decide), mU_e, if_true]
  rcases (show r = 0 ∨ r = 1 ∨ r = 2 ∨ r = 3 ∨ r = 4 ∨ r = 5 by omega) with rfl | rfl | rfl | rfl | rfl | rfl <;> rfl
theorem mI_4 : ∀ r, r < 4 → mI 4 r = -1 := by
  intro r hr
  unfold mI
  simp only [mU_e, if_true]
  rcases (show r = 0 ∨ r = 1 ∨ r = 2 ∨ r = 3 by omega) with rfl | rfl | rfl | rfl <;> rfl
theorem Rl_first : Rl x0 (w_begins mI) := by
  have k1 : (-1 : Int32).toInt = -1 := by decide
  have p0 : vP x0 33 0 0 = 0 := rfl
  have p1 : vP x0 33 0 1 = 0 := rfl
  have n0 : nPl (vP x0 33) = 0 := by unfold nPl; rw [p0]; rfl
  have n1 : nPe (vP x0 33) = 0 := by unfold nPe; rw [p1]; rfl
  have e4 : w_begins mI 0 4 = 0 := (wI_0 (by decide)).trans rfl
  have e5 : w_begins mI 0 5 = 0 := (wI_0 (by decide)).trans rfl
  have q0 : pM (w_begins mI) 0 0 = 0 := e4
  have q1 : pM (w_begins mI) 0 1 = 0 := e5
  have m0' : nPl (pM (w_begins mI)) = 0 := by unfold nPl; rw [q0]; rfl
  have m1' : nPe (pM (w_begins mI)) = 0 := by unfold nPe; rw [q1]; rfl
  have nb : ∀ k, k < 12 → w_begins mI 11 k = bg_f k := fun k hk => by
    unfold w_begins
    rw [w_kept_n _ (by decide), mU_n _ _ _ (by decide), mF_e, if_pos rfl, if_pos hk]
  refine Rl_fresh ⟨⟨p0.trans q0.symm, p1.trans q1.symm, fun k hk => ?_, fun i hi => ?_⟩, ?_, ⟨fun k hk => ?_, fun i hi => ?_⟩, fun h => absurd e4 h⟩ ⟨fun r hr => ?_, fun t ht => ?_⟩ ?_ rfl ?_ (fun k hk => ⟨?_, ?_⟩) ⟨?_, ?_, ?_, fun k hk => ?_, fun i hi => ?_⟩ ⟨?_, ?_, ?_, fun k hk => ?_, fun i hi => ?_⟩ (fun i hi => ?_)
  · rw [n0] at hk; exact absurd hk (Nat.not_lt_zero _)
  · rw [n1] at hi; exact absurd hi (Nat.not_lt_zero _)
  · unfold PB; rw [q0, q1]; decide
  · rw [m0'] at hk; exact absurd hk (Nat.not_lt_zero _)
  · rw [m1'] at hi; exact absurd hi (Nat.not_lt_zero _)
  · rw [wI_n (by decide) (by decide) (by decide), mI_2 r hr, k1]
    refine ⟨?_, by omega, by omega, fun i hi => by omega⟩
    rcases (show r = 0 ∨ r = 1 ∨ r = 2 ∨ r = 3 ∨ r = 4 ∨ r = 5 by omega) with rfl | rfl | rfl | rfl | rfl | rfl <;> rfl
  · rw [wI_n (by decide) (by decide) (by decide), mI_4 t ht, k1]
    refine ⟨?_, by omega, by omega, fun i hi => by omega⟩
    rcases (show t = 0 ∨ t = 1 ∨ t = 2 ∨ t = 3 by omega) with rfl | rfl | rfl | rfl <;> rfl
  · unfold RlT
    rw [wI_0 (by decide), wI_0 (by decide), wI_0 (by decide), wI_0 (by decide), wI_n (by decide) (by decide) (by decide)]
    refine ⟨rfl, rfl, rfl, rfl, fun f h1 h5 => ?_⟩
    unfold mI
    simp only [mU_n _ _ _ (show (5 : Nat) ≠ 4 by decide), mU_n _ _ _ (show (5 : Nat) ≠ 2 by decide)]
    rfl
  · unfold w_begins; rw [w_kept_n _ (by decide), mU_e, if_pos rfl, if_pos rfl]
  · rcases (show k = 0 ∨ k = 1 ∨ k = 2 by omega) with rfl | rfl | rfl <;> rfl
  · unfold w_begins; exact w_kept_e _ 3 k hk
  · show 0 = w_begins mI 11 4; rw [nb 4 (by decide), bg_v.1 4 (by decide)]
  · show 0 = w_begins mI 11 10; rw [nb 10 (by decide), bg_v.2.2.1]
  · show 0 = w_begins mI 11 11; rw [nb 11 (by decide), bg_v.2.2.2]
  · rw [n0] at hk; exact absurd hk (Nat.not_lt_zero _)
  · rw [n1] at hi; exact absurd hi (Nat.not_lt_zero _)
  · exact (vS_begin x0).1.symm
  · exact (vS_begin x0).2.1.symm
  · exact (vS_begin x0).2.2.1.symm
  · rw [n0] at hk; exact absurd hk (Nat.not_lt_zero _)
  · rw [n1] at hi; exact absurd hi (Nat.not_lt_zero _)
  · rw [m1'] at hi; exact absurd hi (Nat.not_lt_zero _)

/-- the law's two arrays behind the class's world -/
theorem wl_app1 {G : GT} {c : Nat → va_E} {w2 w3 : va_W} {i v : Nat} (hi : i < 72) (e : v = G.1 i) : ((wl G 72 c ++ w2) ++ w3)[i]? = some (v, c i) := by
  have hl : i < (wl G 72 c).length := by rw [wl_len]; exact hi
  rw [List.getElem?_append_left (by rw [List.length_append]; omega), List.getElem?_append_left hl, wl_get hi, e]
theorem wl_app2 {G : GT} {c : Nat → va_E} {q2 q3 : Nat} {e2 e3 : va_E} {i v : Nat} (hi : i = 72) (e : v = q2) : ((wl G 72 c ++ [(q2, e2)]) ++ [(q3, e3)])[i]? = some (v, e2) := by
  subst hi e
  rw [List.getElem?_append_left (by rw [List.length_append, wl_len]; exact Nat.lt_succ_self 72), List.getElem?_append_right (by rw [wl_len]; exact Nat.le_refl _), wl_len]; rfl
theorem wl_app3 {G : GT} {c : Nat → va_E} {q2 q3 : Nat} {e2 e3 : va_E} {i v : Nat} (hi : i = 73) (e : v = q3) : ((wl G 72 c ++ [(q2, e2)]) ++ [(q3, e3)])[i]? = some (v, e3) := by
  subst hi e
  rw [List.getElem?_append_right (by rw [List.length_append, wl_len]; exact Nat.le_refl _), List.length_append, wl_len]; rfl
set_option maxHeartbeats 4000000 in
set_option maxRecDepth 100000 in
theorem w74 {f g : Nat → Nat} {Z : va_G × (Nat → ClassId)} {H : Heap} {A : Nat → Prop} {q2 q3 : Nat} {e2 e3 : va_E} (hg : ∀ i, i < 72 → g i = f i) (h72 : g 72 = q2) (h73 : g 73 = q3) (he2 : e2 = cX (g, Z) x0 72) (he3 : e3 = cX (g, Z) x0 73)
    (hP : va_P Z.1 vwCl ((wl (f, Z) 72 (cX (f, Z) x0) ++ [(q2, e2)]) ++ [(q3, e3)]) H) (hD : va_D A ((wl (f, Z) 72 (cX (f, Z) x0) ++ [(q2, e2)]) ++ [(q3, e3)])) : va_P Z.1 vwCl (wl (g, Z) 74 (cX (g, Z) x0)) H ∧ va_D A (wl (g, Z) 74 (cX (g, Z) x0)) := by
  subst he2 he3
  refine ⟨conv_P (fun i => i) (fun i hi => ?_) hP, conv_D (fun i => i) (fun i hi => ?_) (fun i j _ _ e => e) hD⟩
  · match i, hi with
    | 0, _ => exact ⟨cX (f, Z) x0 0, wl_app1 (by decide) (hg 0 (by decide)), fun h => by
        have e : cX (g, Z) x0 0 = cX (f, Z) x0 0 := by
          show (.inr (7, [.ref (g 1), .ref (g 2), .ref (g 33), .ref (g 39), .ref (g 45), .ref (g 48), .ref (g 25), .ref (g 3), .ref (g 51), .ref (g 56), .ref (g 67), .ref (g 4), .int (x0 0 0), .int (x0 0 1), .long (x0 0 2).toInt64, .long (x0 0 3).toInt64]) : va_E) = .inr (7, [.ref (f 1), .ref (f 2), .ref (f 33), .ref (f 39), .ref (f 45), .ref (f 48), .ref (f 25), .ref (f 3), .ref (f 51), .ref (f 56), .ref (f 67), .ref (f 4), .int (x0 0 0), .int (x0 0 1), .long (x0 0 2).toInt64, .long (x0 0 3).toInt64])
          rw [hg 1 (by decide), hg 2 (by decide), hg 3 (by decide), hg 4 (by decide), hg 25 (by decide), hg 33 (by decide), hg 39 (by decide), hg 45 (by decide), hg 48 (by decide), hg 51 (by decide), hg 56 (by decide), hg 67 (by decide)]
        rw [e]; exact h⟩
    | 1, _ => exact ⟨cX (f, Z) x0 1, wl_app1 (by decide) (hg 1 (by decide)), fun h => at_vq (f := fun r => some (f (5 + 2 * r))) (g := fun r => some (g (5 + 2 * r))) (fun r hr => by rw [hg _ (by omega)]) h⟩
    | 2, _ => exact ⟨cX (f, Z) x0 2, wl_app1 (by decide) (hg 2 (by decide)), fun h => at_vq (f := fun r => some (f (17 + 2 * r))) (g := fun r => some (g (17 + 2 * r))) (fun r hr => by rw [hg _ (by omega)]) h⟩
    | 3, _ => exact ⟨cX (f, Z) x0 3, wl_app1 (by decide) (hg 3 (by decide)), fun h => at_vq (f := fun r => some (f (27 + 2 * r))) (g := fun r => some (g (27 + 2 * r))) (fun r hr => by rw [hg _ (by omega)]) h⟩
    | 4, _ => exact ⟨cX (f, Z) x0 4, wl_app1 (by decide) (hg 4 (by decide)), fun h => h⟩
    | 5, _ => exact ⟨cX (f, Z) x0 5, wl_app1 (by decide) (hg 5 (by decide)), fun h => by
        have e : cX (g, Z) x0 5 = cX (f, Z) x0 5 := by
          show (.inr (3, [.ref (g 6), .int (x0 5 0)]) : va_E) = .inr (3, [.ref (f 6), .int (x0 5 0)])
          rw [hg 6 (by decide)]
        rw [e]; exact h⟩
    | 6, _ => exact ⟨cX (f, Z) x0 6, wl_app1 (by decide) (hg 6 (by decide)), fun h => h⟩
    | 7, _ => exact ⟨cX (f, Z) x0 7, wl_app1 (by decide) (hg 7 (by decide)), fun h => by
        have e : cX (g, Z) x0 7 = cX (f, Z) x0 7 := by
          show (.inr (3, [.ref (g 8), .int (x0 7 0)]) : va_E) = .inr (3, [.ref (f 8), .int (x0 7 0)])
          rw [hg 8 (by decide)]
        rw [e]; exact h⟩
    | 8, _ => exact ⟨cX (f, Z) x0 8, wl_app1 (by decide) (hg 8 (by decide)), fun h => h⟩
    | 9, _ => exact ⟨cX (f, Z) x0 9, wl_app1 (by decide) (hg 9 (by decide)), fun h => by
        have e : cX (g, Z) x0 9 = cX (f, Z) x0 9 := by
          show (.inr (3, [.ref (g 10), .int (x0 9 0)]) : va_E) = .inr (3, [.ref (f 10), .int (x0 9 0)])
          rw [hg 10 (by decide)]
        rw [e]; exact h⟩
    | 10, _ => exact ⟨cX (f, Z) x0 10, wl_app1 (by decide) (hg 10 (by decide)), fun h => h⟩
    | 11, _ => exact ⟨cX (f, Z) x0 11, wl_app1 (by decide) (hg 11 (by decide)), fun h => by
        have e : cX (g, Z) x0 11 = cX (f, Z) x0 11 := by
          show (.inr (3, [.ref (g 12), .int (x0 11 0)]) : va_E) = .inr (3, [.ref (f 12), .int (x0 11 0)])
          rw [hg 12 (by decide)]
        rw [e]; exact h⟩
    | 12, _ => exact ⟨cX (f, Z) x0 12, wl_app1 (by decide) (hg 12 (by decide)), fun h => h⟩
    | 13, _ => exact ⟨cX (f, Z) x0 13, wl_app1 (by decide) (hg 13 (by decide)), fun h => by
        have e : cX (g, Z) x0 13 = cX (f, Z) x0 13 := by
          show (.inr (3, [.ref (g 14), .int (x0 13 0)]) : va_E) = .inr (3, [.ref (f 14), .int (x0 13 0)])
          rw [hg 14 (by decide)]
        rw [e]; exact h⟩
    | 14, _ => exact ⟨cX (f, Z) x0 14, wl_app1 (by decide) (hg 14 (by decide)), fun h => h⟩
    | 15, _ => exact ⟨cX (f, Z) x0 15, wl_app1 (by decide) (hg 15 (by decide)), fun h => by
        have e : cX (g, Z) x0 15 = cX (f, Z) x0 15 := by
          show (.inr (3, [.ref (g 16), .int (x0 15 0)]) : va_E) = .inr (3, [.ref (f 16), .int (x0 15 0)])
          rw [hg 16 (by decide)]
        rw [e]; exact h⟩
    | 16, _ => exact ⟨cX (f, Z) x0 16, wl_app1 (by decide) (hg 16 (by decide)), fun h => h⟩
    | 17, _ => exact ⟨cX (f, Z) x0 17, wl_app1 (by decide) (hg 17 (by decide)), fun h => by
        have e : cX (g, Z) x0 17 = cX (f, Z) x0 17 := by
          show (.inr (3, [.ref (g 18), .int (x0 17 0)]) : va_E) = .inr (3, [.ref (f 18), .int (x0 17 0)])
          rw [hg 18 (by decide)]
        rw [e]; exact h⟩
    | 18, _ => exact ⟨cX (f, Z) x0 18, wl_app1 (by decide) (hg 18 (by decide)), fun h => h⟩
    | 19, _ => exact ⟨cX (f, Z) x0 19, wl_app1 (by decide) (hg 19 (by decide)), fun h => by
        have e : cX (g, Z) x0 19 = cX (f, Z) x0 19 := by
          show (.inr (3, [.ref (g 20), .int (x0 19 0)]) : va_E) = .inr (3, [.ref (f 20), .int (x0 19 0)])
          rw [hg 20 (by decide)]
        rw [e]; exact h⟩
    | 20, _ => exact ⟨cX (f, Z) x0 20, wl_app1 (by decide) (hg 20 (by decide)), fun h => h⟩
    | 21, _ => exact ⟨cX (f, Z) x0 21, wl_app1 (by decide) (hg 21 (by decide)), fun h => by
        have e : cX (g, Z) x0 21 = cX (f, Z) x0 21 := by
          show (.inr (3, [.ref (g 22), .int (x0 21 0)]) : va_E) = .inr (3, [.ref (f 22), .int (x0 21 0)])
          rw [hg 22 (by decide)]
        rw [e]; exact h⟩
    | 22, _ => exact ⟨cX (f, Z) x0 22, wl_app1 (by decide) (hg 22 (by decide)), fun h => h⟩
    | 23, _ => exact ⟨cX (f, Z) x0 23, wl_app1 (by decide) (hg 23 (by decide)), fun h => by
        have e : cX (g, Z) x0 23 = cX (f, Z) x0 23 := by
          show (.inr (3, [.ref (g 24), .int (x0 23 0)]) : va_E) = .inr (3, [.ref (f 24), .int (x0 23 0)])
          rw [hg 24 (by decide)]
        rw [e]; exact h⟩
    | 24, _ => exact ⟨cX (f, Z) x0 24, wl_app1 (by decide) (hg 24 (by decide)), fun h => h⟩
    | 25, _ => exact ⟨cX (f, Z) x0 25, wl_app1 (by decide) (hg 25 (by decide)), fun h => by
        have e : cX (g, Z) x0 25 = cX (f, Z) x0 25 := by
          show (.inr (0, [.ref (g 26), .int (x0 25 0)]) : va_E) = .inr (0, [.ref (f 26), .int (x0 25 0)])
          rw [hg 26 (by decide)]
        rw [e]; exact h⟩
    | 26, _ => exact ⟨cX (f, Z) x0 26, wl_app1 (by decide) (hg 26 (by decide)), fun h => h⟩
    | 27, _ => exact ⟨cX (f, Z) x0 27, wl_app1 (by decide) (hg 27 (by decide)), fun h => by
        have e : cX (g, Z) x0 27 = cX (f, Z) x0 27 := by
          show (.inr (0, [.ref (g 28), .int (x0 27 0)]) : va_E) = .inr (0, [.ref (f 28), .int (x0 27 0)])
          rw [hg 28 (by decide)]
        rw [e]; exact h⟩
    | 28, _ => exact ⟨cX (f, Z) x0 28, wl_app1 (by decide) (hg 28 (by decide)), fun h => h⟩
    | 29, _ => exact ⟨cX (f, Z) x0 29, wl_app1 (by decide) (hg 29 (by decide)), fun h => by
        have e : cX (g, Z) x0 29 = cX (f, Z) x0 29 := by
          show (.inr (0, [.ref (g 30), .int (x0 29 0)]) : va_E) = .inr (0, [.ref (f 30), .int (x0 29 0)])
          rw [hg 30 (by decide)]
        rw [e]; exact h⟩
    | 30, _ => exact ⟨cX (f, Z) x0 30, wl_app1 (by decide) (hg 30 (by decide)), fun h => h⟩
    | 31, _ => exact ⟨cX (f, Z) x0 31, wl_app1 (by decide) (hg 31 (by decide)), fun h => by
        have e : cX (g, Z) x0 31 = cX (f, Z) x0 31 := by
          show (.inr (0, [.ref (g 32), .int (x0 31 0)]) : va_E) = .inr (0, [.ref (f 32), .int (x0 31 0)])
          rw [hg 32 (by decide)]
        rw [e]; exact h⟩
    | 32, _ => exact ⟨cX (f, Z) x0 32, wl_app1 (by decide) (hg 32 (by decide)), fun h => h⟩
    | 33, _ => exact ⟨cX (f, Z) x0 33, wl_app1 (by decide) (hg 33 (by decide)), fun h => by
        have e : cX (g, Z) x0 33 = cX (f, Z) x0 33 := by
          show (.inr (2, [.ref (g 34), .ref (g 35), .ref (g 36), .ref (g 37), .ref (g 38), .int (x0 33 0), .int (x0 33 1)]) : va_E) = .inr (2, [.ref (f 34), .ref (f 35), .ref (f 36), .ref (f 37), .ref (f 38), .int (x0 33 0), .int (x0 33 1)])
          rw [hg 34 (by decide), hg 35 (by decide), hg 36 (by decide), hg 37 (by decide), hg 38 (by decide)]
        rw [e]; exact h⟩
    | 34, _ => exact ⟨cX (f, Z) x0 34, wl_app1 (by decide) (hg 34 (by decide)), fun h => h⟩
    | 35, _ => exact ⟨cX (f, Z) x0 35, wl_app1 (by decide) (hg 35 (by decide)), fun h => h⟩
    | 36, _ => exact ⟨cX (f, Z) x0 36, wl_app1 (by decide) (hg 36 (by decide)), fun h => h⟩
    | 37, _ => exact ⟨cX (f, Z) x0 37, wl_app1 (by decide) (hg 37 (by decide)), fun h => h⟩
    | 38, _ => exact ⟨cX (f, Z) x0 38, wl_app1 (by decide) (hg 38 (by decide)), fun h => h⟩
    | 39, _ => exact ⟨cX (f, Z) x0 39, wl_app1 (by decide) (hg 39 (by decide)), fun h => by
        have e : cX (g, Z) x0 39 = cX (f, Z) x0 39 := by
          show (.inr (2, [.ref (g 40), .ref (g 41), .ref (g 42), .ref (g 43), .ref (g 44), .int (x0 39 0), .int (x0 39 1)]) : va_E) = .inr (2, [.ref (f 40), .ref (f 41), .ref (f 42), .ref (f 43), .ref (f 44), .int (x0 39 0), .int (x0 39 1)])
          rw [hg 40 (by decide), hg 41 (by decide), hg 42 (by decide), hg 43 (by decide), hg 44 (by decide)]
        rw [e]; exact h⟩
    | 40, _ => exact ⟨cX (f, Z) x0 40, wl_app1 (by decide) (hg 40 (by decide)), fun h => h⟩
    | 41, _ => exact ⟨cX (f, Z) x0 41, wl_app1 (by decide) (hg 41 (by decide)), fun h => h⟩
    | 42, _ => exact ⟨cX (f, Z) x0 42, wl_app1 (by decide) (hg 42 (by decide)), fun h => h⟩
    | 43, _ => exact ⟨cX (f, Z) x0 43, wl_app1 (by decide) (hg 43 (by decide)), fun h => h⟩
    | 44, _ => exact ⟨cX (f, Z) x0 44, wl_app1 (by decide) (hg 44 (by decide)), fun h => h⟩
    | 45, _ => exact ⟨cX (f, Z) x0 45, wl_app1 (by decide) (hg 45 (by decide)), fun h => by
        have e : cX (g, Z) x0 45 = cX (f, Z) x0 45 := by
          show (.inr (4, [.ref (g 33), .ref (g 46), .ref (g 47), .int (x0 45 0), .int (x0 45 1), .int (x0 45 2)]) : va_E) = .inr (4, [.ref (f 33), .ref (f 46), .ref (f 47), .int (x0 45 0), .int (x0 45 1), .int (x0 45 2)])
          rw [hg 33 (by decide), hg 46 (by decide), hg 47 (by decide)]
        rw [e]; exact h⟩
    | 46, _ => exact ⟨cX (f, Z) x0 46, wl_app1 (by decide) (hg 46 (by decide)), fun h => h⟩
    | 47, _ => exact ⟨cX (f, Z) x0 47, wl_app1 (by decide) (hg 47 (by decide)), fun h => h⟩
    | 48, _ => exact ⟨cX (f, Z) x0 48, wl_app1 (by decide) (hg 48 (by decide)), fun h => by
        have e : cX (g, Z) x0 48 = cX (f, Z) x0 48 := by
          show (.inr (4, [.ref (g 33), .ref (g 49), .ref (g 50), .int (x0 48 0), .int (x0 48 1), .int (x0 48 2)]) : va_E) = .inr (4, [.ref (f 33), .ref (f 49), .ref (f 50), .int (x0 48 0), .int (x0 48 1), .int (x0 48 2)])
          rw [hg 33 (by decide), hg 49 (by decide), hg 50 (by decide)]
        rw [e]; exact h⟩
    | 49, _ => exact ⟨cX (f, Z) x0 49, wl_app1 (by decide) (hg 49 (by decide)), fun h => h⟩
    | 50, _ => exact ⟨cX (f, Z) x0 50, wl_app1 (by decide) (hg 50 (by decide)), fun h => h⟩
    | 51, _ => exact ⟨cX (f, Z) x0 51, wl_app1 (by decide) (hg 51 (by decide)), fun h => by
        have e : cX (g, Z) x0 51 = cX (f, Z) x0 51 := by
          show (.inr (6, [.ref (g 33), .ref (g 52), .ref (g 53), .ref (g 54), .ref (g 55), .int (x0 51 0), .int (x0 51 1)]) : va_E) = .inr (6, [.ref (f 33), .ref (f 52), .ref (f 53), .ref (f 54), .ref (f 55), .int (x0 51 0), .int (x0 51 1)])
          rw [hg 33 (by decide), hg 52 (by decide), hg 53 (by decide), hg 54 (by decide), hg 55 (by decide)]
        rw [e]; exact h⟩
    | 52, _ => exact ⟨cX (f, Z) x0 52, wl_app1 (by decide) (hg 52 (by decide)), fun h => h⟩
    | 53, _ => exact ⟨cX (f, Z) x0 53, wl_app1 (by decide) (hg 53 (by decide)), fun h => h⟩
    | 54, _ => exact ⟨cX (f, Z) x0 54, wl_app1 (by decide) (hg 54 (by decide)), fun h => h⟩
    | 55, _ => exact ⟨cX (f, Z) x0 55, wl_app1 (by decide) (hg 55 (by decide)), fun h => h⟩
    | 56, _ => exact ⟨cX (f, Z) x0 56, wl_app1 (by decide) (hg 56 (by decide)), fun h => by
        have e : cX (g, Z) x0 56 = cX (f, Z) x0 56 := by
          show (.inr (1, [.ref (g 33), .ref (g 57), .ref (g 64), .ref (g 65), .ref (g 66), .int (x0 56 0), .int (x0 56 1), .int (x0 56 2)]) : va_E) = .inr (1, [.ref (f 33), .ref (f 57), .ref (f 64), .ref (f 65), .ref (f 66), .int (x0 56 0), .int (x0 56 1), .int (x0 56 2)])
          rw [hg 33 (by decide), hg 57 (by decide), hg 64 (by decide), hg 65 (by decide), hg 66 (by decide)]
        rw [e]; exact h⟩
    | 57, _ => exact ⟨cX (f, Z) x0 57, wl_app1 (by decide) (hg 57 (by decide)), fun h => at_vq (f := fun r => some (f (58 + r))) (g := fun r => some (g (58 + r))) (fun r hr => by rw [hg _ (by omega)]) h⟩
    | 58, _ => exact ⟨cX (f, Z) x0 58, wl_app1 (by decide) (hg 58 (by decide)), fun h => h⟩
    | 59, _ => exact ⟨cX (f, Z) x0 59, wl_app1 (by decide) (hg 59 (by decide)), fun h => h⟩
    | 60, _ => exact ⟨cX (f, Z) x0 60, wl_app1 (by decide) (hg 60 (by decide)), fun h => h⟩
    | 61, _ => exact ⟨cX (f, Z) x0 61, wl_app1 (by decide) (hg 61 (by decide)), fun h => h⟩
    | 62, _ => exact ⟨cX (f, Z) x0 62, wl_app1 (by decide) (hg 62 (by decide)), fun h => h⟩
    | 63, _ => exact ⟨cX (f, Z) x0 63, wl_app1 (by decide) (hg 63 (by decide)), fun h => h⟩
    | 64, _ => exact ⟨cX (f, Z) x0 64, wl_app1 (by decide) (hg 64 (by decide)), fun h => h⟩
    | 65, _ => exact ⟨cX (f, Z) x0 65, wl_app1 (by decide) (hg 65 (by decide)), fun h => h⟩
    | 66, _ => exact ⟨cX (f, Z) x0 66, wl_app1 (by decide) (hg 66 (by decide)), fun h => h⟩
    | 67, _ => exact ⟨cX (f, Z) x0 67, wl_app1 (by decide) (hg 67 (by decide)), fun h => by
        have e : cX (g, Z) x0 67 = cX (f, Z) x0 67 := by
          show (.inr (5, [.ref (g 33), .ref (g 68), .ref (g 69), .ref (g 70), .ref (g 71), .int (x0 67 0)]) : va_E) = .inr (5, [.ref (f 33), .ref (f 68), .ref (f 69), .ref (f 70), .ref (f 71), .int (x0 67 0)])
          rw [hg 33 (by decide), hg 68 (by decide), hg 69 (by decide), hg 70 (by decide), hg 71 (by decide)]
        rw [e]; exact h⟩
    | 68, _ => exact ⟨cX (f, Z) x0 68, wl_app1 (by decide) (hg 68 (by decide)), fun h => h⟩
    | 69, _ => exact ⟨cX (f, Z) x0 69, wl_app1 (by decide) (hg 69 (by decide)), fun h => h⟩
    | 70, _ => exact ⟨cX (f, Z) x0 70, wl_app1 (by decide) (hg 70 (by decide)), fun h => h⟩
    | 71, _ => exact ⟨cX (f, Z) x0 71, wl_app1 (by decide) (hg 71 (by decide)), fun h => h⟩
    | 72, _ => exact ⟨_, wl_app2 rfl h72, fun h => h⟩
    | 73, _ => exact ⟨_, wl_app3 rfl h73, fun h => h⟩
    | n + 74, h => exact absurd h (by omega)
  · by_cases h : i < 72
    · exact ⟨_, wl_app1 h (hg i h)⟩
    · rcases (show i = 72 ∨ i = 73 by omega) with rfl | rfl
      · exact ⟨_, wl_app2 rfl h72⟩
      · exact ⟨_, wl_app3 rfl h73⟩
