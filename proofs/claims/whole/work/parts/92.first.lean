/-! the class's world by number behind its constructor -/
theorem vq_c {x : ClassId} {n : Nat} {f g : Nat → Option Nat} (h : ∀ i, i < n → f i = g i) : vp_cell x (n, .inr (.inr (.inr (.inr f)))) = vp_cell x (n, .inr (.inr (.inr (.inr g)))) := by
  rw [vp_cell_q, vp_cell_q]
  unfold arrV
  congr 1
  apply Array.ext
  · simp
  · intro i h1 h2
    have hi : i < n := by simpa using h1
    simp [h i hi]
theorem at_vq {D : va_G} {cl : List vw_C} {q : Nat} {x : ClassId} {n : Nat} {f g : Nat → Option Nat} {H : Heap} (h : ∀ i, i < n → f i = g i) (w : va_at D cl (q, .inl (x, n, .inr (.inr (.inr (.inr f))))) H) : va_at D cl (q, .inl (x, n, .inr (.inr (.inr (.inr g))))) H := by
  show H[q]? = some (vp_cell x (n, .inr (.inr (.inr (.inr g)))))
  rw [← vq_c h]; exact w
def xperm : Nat → Nat := fun i => match i with | 0 => 0 | 1 => 1 | 2 => 2 | 3 => 23 | 4 => 45 | 5 => 46 | 6 => 47 | 7 => 48 | 8 => 49 | 9 => 50 | 10 => 51 | 11 => 52 | 12 => 53 | 13 => 54 | 14 => 55 | 15 => 56 | 16 => 57 | 17 => 58 | 18 => 59 | 19 => 60 | 20 => 61 | 21 => 62 | 22 => 63 | 23 => 64 | 24 => 65 | 25 => 21 | 26 => 22 | 27 => 66 | 28 => 67 | 29 => 68 | 30 => 69 | 31 => 70 | 32 => 71 | 33 => 3 | 34 => 4 | 35 => 5 | 36 => 6 | 37 => 7 | 38 => 8 | 39 => 9 | 40 => 10 | 41 => 11 | 42 => 12 | 43 => 13 | 44 => 14 | 45 => 15 | 46 => 16 | 47 => 17 | 48 => 18 | 49 => 19 | 50 => 20 | 51 => 24 | 52 => 25 | 53 => 26 | 54 => 27 | 55 => 28 | 56 => 29 | 57 => 30 | 58 => 31 | 59 => 32 | 60 => 33 | 61 => 34 | 62 => 35 | 63 => 36 | 64 => 37 | 65 => 38 | 66 => 39 | 67 => 40 | 68 => 41 | 69 => 42 | 70 => 43 | _ => 44
theorem xperm_inj : ∀ i j, i < 72 → j < 72 → xperm i = xperm j → i = j := by
  have q : ∀ a b : Fin 72, xperm a.1 = xperm b.1 → a = b := by decide +kernel
  intro i j hi hj e
  have w := q ⟨i, hi⟩ ⟨j, hj⟩ e
  exact Fin.mk.inj w
set_option maxHeartbeats 4000000 in
set_option maxRecDepth 100000 in
theorem X7_world {D : va_G} {a : Nat → ClassId} {h0 : Nat} {H : Heap} {A : Nat → Prop} {ws : va_W} (h : ∃ (q1 : Nat) (q2 : Nat) (q3 : Nat) (q4 : Nat) (q5 : Nat) (q6 : Nat) (q7 : Nat) (q8 : Nat) (q9 : Nat) (q10 : Nat) (q11 : Nat) (q12 : Nat) (q13 : Nat) (q14 : Nat) (q15 : Nat) (q16 : Nat) (q17 : Nat) (q18 : Nat) (q19 : Nat) (q20 : Nat) (q21 : Nat) (q22 : Nat) (q23 : Nat) (q24 : Nat) (q25 : Nat) (q26 : Nat) (q27 : Nat) (q28 : Nat) (q29 : Nat) (q30 : Nat) (r31 : Nat → Nat) (q32 : Nat) (q33 : Nat) (q34 : Nat) (q35 : Nat) (q36 : Nat) (q37 : Nat) (q38 : Nat) (q39 : Nat) (q40 : Nat) (q41 : Nat) (q42 : Nat) (q43 : Nat) (q44 : Nat) (q45 : Nat) (q46 : Nat) (q47 : Nat) (q48 : Nat) (q49 : Nat) (q50 : Nat) (q51 : Nat) (q52 : Nat) (q53 : Nat) (q54 : Nat) (q55 : Nat) (q56 : Nat) (q57 : Nat) (q58 : Nat) (q59 : Nat) (q60 : Nat) (q61 : Nat) (q62 : Nat) (q63 : Nat) (q64 : Nat) (q65 : Nat) (q66 : Nat), ws = ((h0, .inr (7, [.ref q1, .ref q2, .ref q3, .ref q9, .ref q15, .ref q18, .ref q21, .ref q23, .ref q24, .ref q29, .ref q35, .ref q40, .int 0, .int 0, .long 0, .long 1])) :: (q1, .inl (a 1, 6, .inr (.inr (.inr (.inr (va_up (va_up (va_up (va_up (va_up (va_up (fun _ => none) 0 (some q41)) 1 (some q43)) 2 (some q45)) 3 (some q47)) 4 (some q49)) 5 (some q51))))))) :: (q2, .inl (a 1, 4, .inr (.inr (.inr (.inr (va_up (va_up (va_up (va_up (fun _ => none) 0 (some q53)) 1 (some q55)) 2 (some q57)) 3 (some q59))))))) :: (q3, .inr (2, [.ref q4, .ref q5, .ref q6, .ref q7, .ref q8, .int 0, .int 0])) :: (q4, .inl (a 0, 4, .inl (fun _ => 0))) :: (q5, .inl (a 0, 4, .inl (fun _ => 0))) :: (q6, .inl (a 0, 4, .inl (fun _ => 0))) :: (q7, .inl (a 0, 5, .inl (fun _ => 0))) :: (q8, .inl (a 0, 5, .inl (fun _ => 0))) :: (q9, .inr (2, [.ref q10, .ref q11, .ref q12, .ref q13, .ref q14, .int 0, .int 0])) :: (q10, .inl (a 0, 4, .inl (fun _ => 0))) :: (q11, .inl (a 0, 4, .inl (fun _ => 0))) :: (q12, .inl (a 0, 4, .inl (fun _ => 0))) :: (q13, .inl (a 0, 5, .inl (fun _ => 0))) :: (q14, .inl (a 0, 5, .inl (fun _ => 0))) :: (q15, .inr (4, [.ref q3, .ref q16, .ref q17, .int 0, .int 0, .int 0])) :: (q16, .inl (a 0, 4, .inl (fun _ => 0))) :: (q17, .inl (a 0, 5, .inl (fun _ => 0))) :: (q18, .inr (4, [.ref q3, .ref q19, .ref q20, .int 0, .int 0, .int 0])) :: (q19, .inl (a 0, 4, .inl (fun _ => 0))) :: (q20, .inl (a 0, 5, .inl (fun _ => 0))) :: (q21, .inr (0, [.ref q22, .int 0])) :: (q22, .inl (a 0, 40, .inl (fun _ => 0))) :: (q23, .inl (a 2, 3, .inr (.inr (.inr (.inr (va_up (va_up (va_up (fun _ => none) 0 (some q61)) 1 (some q63)) 2 (some q65))))))) :: (q24, .inr (6, [.ref q3, .ref q25, .ref q26, .ref q27, .ref q28, .int 0, .int 0])) :: (q25, .inl (a 0, 4, .inl (fun _ => 0))) :: (q26, .inl (a 0, 6, .inl (fun _ => 0))) :: (q27, .inl (a 0, 5, .inl (fun _ => 0))) :: (q28, .inl (a 0, 5, .inl (fun _ => 0))) :: (q29, .inr (1, [.ref q3, .ref q30, .ref q32, .ref q33, .ref q34, .int 0, .int 0, .int 0])) :: (q30, .inl (a 3, 6, .inr (.inr (.inr (.inr (fun i => if i < 6 then some (r31 i) else none)))))) :: ((r31 0), .inl (a 0, 4, .inl (fun _ => 0))) :: ((r31 1), .inl (a 0, 4, .inl (fun _ => 0))) :: ((r31 2), .inl (a 0, 4, .inl (fun _ => 0))) :: ((r31 3), .inl (a 0, 4, .inl (fun _ => 0))) :: ((r31 4), .inl (a 0, 4, .inl (fun _ => 0))) :: ((r31 5), .inl (a 0, 4, .inl (fun _ => 0))) :: (q32, .inl (a 0, 4, .inl (fun _ => 0))) :: (q33, .inl (a 0, 5, .inl (fun _ => 0))) :: (q34, .inl (a 0, 5, .inl (fun _ => 0))) :: (q35, .inr (5, [.ref q3, .ref q36, .ref q37, .ref q38, .ref q39, .int 0])) :: (q36, .inl (a 0, 5, .inl (fun _ => 0))) :: (q37, .inl (a 0, 4, .inl (fun _ => 0))) :: (q38, .inl (a 0, 4, .inl (fun _ => 0))) :: (q39, .inl (a 0, 4, .inl (fun _ => 0))) :: (q40, .inl (a 0, 6, .inl (fun _ => 0))) :: (q41, .inr (3, [.ref q42, .int (-1)])) :: (q42, .inl (a 0, 60, .inl (fun _ => 0))) :: (q43, .inr (3, [.ref q44, .int (-1)])) :: (q44, .inl (a 0, 60, .inl (fun _ => 0))) :: (q45, .inr (3, [.ref q46, .int (-1)])) :: (q46, .inl (a 0, 60, .inl (fun _ => 0))) :: (q47, .inr (3, [.ref q48, .int (-1)])) :: (q48, .inl (a 0, 60, .inl (fun _ => 0))) :: (q49, .inr (3, [.ref q50, .int (-1)])) :: (q50, .inl (a 0, 60, .inl (fun _ => 0))) :: (q51, .inr (3, [.ref q52, .int (-1)])) :: (q52, .inl (a 0, 60, .inl (fun _ => 0))) :: (q53, .inr (3, [.ref q54, .int (-1)])) :: (q54, .inl (a 0, 60, .inl (fun _ => 0))) :: (q55, .inr (3, [.ref q56, .int (-1)])) :: (q56, .inl (a 0, 60, .inl (fun _ => 0))) :: (q57, .inr (3, [.ref q58, .int (-1)])) :: (q58, .inl (a 0, 60, .inl (fun _ => 0))) :: (q59, .inr (3, [.ref q60, .int (-1)])) :: (q60, .inl (a 0, 60, .inl (fun _ => 0))) :: (q61, .inr (0, [.ref q62, .int (-1)])) :: (q62, .inl (a 0, 40, .inl (fun _ => 0))) :: (q63, .inr (0, [.ref q64, .int (-1)])) :: (q64, .inl (a 0, 40, .inl (fun _ => 0))) :: (q65, .inr (0, [.ref q66, .int (-1)])) :: (q66, .inl (a 0, 40, .inl (fun _ => 0))) :: [])) (hP : va_P D vwCl ws H) (hD : va_D A ws) : ∃ G : GT, G.2 = (D, a) ∧ G.1 0 = h0 ∧ va_P D vwCl (wl G 72 (cX G x0)) H ∧ va_D A (wl G 72 (fun _ => .inr (0, []))) := by
  obtain ⟨q1, q2, q3, q4, q5, q6, q7, q8, q9, q10, q11, q12, q13, q14, q15, q16, q17, q18, q19, q20, q21, q22, q23, q24, q25, q26, q27, q28, q29, q30, r31, q32, q33, q34, q35, q36, q37, q38, q39, q40, q41, q42, q43, q44, q45, q46, q47, q48, q49, q50, q51, q52, q53, q54, q55, q56, q57, q58, q59, q60, q61, q62, q63, q64, q65, q66, rfl⟩ := h
  refine ⟨((fun i => match i with | 0 => h0 | 1 => q1 | 2 => q2 | 3 => q23 | 4 => q40 | 5 => q41 | 6 => q42 | 7 => q43 | 8 => q44 | 9 => q45 | 10 => q46 | 11 => q47 | 12 => q48 | 13 => q49 | 14 => q50 | 15 => q51 | 16 => q52 | 17 => q53 | 18 => q54 | 19 => q55 | 20 => q56 | 21 => q57 | 22 => q58 | 23 => q59 | 24 => q60 | 25 => q21 | 26 => q22 | 27 => q61 | 28 => q62 | 29 => q63 | 30 => q64 | 31 => q65 | 32 => q66 | 33 => q3 | 34 => q4 | 35 => q5 | 36 => q6 | 37 => q7 | 38 => q8 | 39 => q9 | 40 => q10 | 41 => q11 | 42 => q12 | 43 => q13 | 44 => q14 | 45 => q15 | 46 => q16 | 47 => q17 | 48 => q18 | 49 => q19 | 50 => q20 | 51 => q24 | 52 => q25 | 53 => q26 | 54 => q27 | 55 => q28 | 56 => q29 | 57 => q30 | 58 => (r31 0) | 59 => (r31 1) | 60 => (r31 2) | 61 => (r31 3) | 62 => (r31 4) | 63 => (r31 5) | 64 => q32 | 65 => q33 | 66 => q34 | 67 => q35 | 68 => q36 | 69 => q37 | 70 => q38 | _ => q39), D, a), rfl, rfl, ?_, ?_⟩
  · refine conv_P xperm (fun i hi => ?_) hP
    match i, hi with
    | 0, _ => exact ⟨_, rfl, fun h => h⟩
    | 1, _ => exact ⟨_, rfl, fun h => at_vq (fun i hi => by rcases (show i = 0 ∨ i = 1 ∨ i = 2 ∨ i = 3 ∨ i = 4 ∨ i = 5 by omega) with rfl | rfl | rfl | rfl | rfl | rfl <;> rfl) h⟩
    | 2, _ => exact ⟨_, rfl, fun h => at_vq (fun i hi => by rcases (show i = 0 ∨ i = 1 ∨ i = 2 ∨ i = 3 by omega) with rfl | rfl | rfl | rfl <;> rfl) h⟩
    | 3, _ => exact ⟨_, rfl, fun h => at_vq (fun i hi => by rcases (show i = 0 ∨ i = 1 ∨ i = 2 by omega) with rfl | rfl | rfl <;> rfl) h⟩
    | 4, _ => exact ⟨_, rfl, fun h => h⟩
    | 5, _ => exact ⟨_, rfl, fun h => h⟩
    | 6, _ => exact ⟨_, rfl, fun h => h⟩
    | 7, _ => exact ⟨_, rfl, fun h => h⟩
    | 8, _ => exact ⟨_, rfl, fun h => h⟩
    | 9, _ => exact ⟨_, rfl, fun h => h⟩
    | 10, _ => exact ⟨_, rfl, fun h => h⟩
    | 11, _ => exact ⟨_, rfl, fun h => h⟩
    | 12, _ => exact ⟨_, rfl, fun h => h⟩
    | 13, _ => exact ⟨_, rfl, fun h => h⟩
    | 14, _ => exact ⟨_, rfl, fun h => h⟩
    | 15, _ => exact ⟨_, rfl, fun h => h⟩
    | 16, _ => exact ⟨_, rfl, fun h => h⟩
    | 17, _ => exact ⟨_, rfl, fun h => h⟩
    | 18, _ => exact ⟨_, rfl, fun h => h⟩
    | 19, _ => exact ⟨_, rfl, fun h => h⟩
    | 20, _ => exact ⟨_, rfl, fun h => h⟩
    | 21, _ => exact ⟨_, rfl, fun h => h⟩
    | 22, _ => exact ⟨_, rfl, fun h => h⟩
    | 23, _ => exact ⟨_, rfl, fun h => h⟩
    | 24, _ => exact ⟨_, rfl, fun h => h⟩
    | 25, _ => exact ⟨_, rfl, fun h => h⟩
    | 26, _ => exact ⟨_, rfl, fun h => h⟩
    | 27, _ => exact ⟨_, rfl, fun h => h⟩
    | 28, _ => exact ⟨_, rfl, fun h => h⟩
    | 29, _ => exact ⟨_, rfl, fun h => h⟩
    | 30, _ => exact ⟨_, rfl, fun h => h⟩
    | 31, _ => exact ⟨_, rfl, fun h => h⟩
    | 32, _ => exact ⟨_, rfl, fun h => h⟩
    | 33, _ => exact ⟨_, rfl, fun h => h⟩
    | 34, _ => exact ⟨_, rfl, fun h => h⟩
    | 35, _ => exact ⟨_, rfl, fun h => h⟩
    | 36, _ => exact ⟨_, rfl, fun h => h⟩
    | 37, _ => exact ⟨_, rfl, fun h => h⟩
    | 38, _ => exact ⟨_, rfl, fun h => h⟩
    | 39, _ => exact ⟨_, rfl, fun h => h⟩
    | 40, _ => exact ⟨_, rfl, fun h => h⟩
    | 41, _ => exact ⟨_, rfl, fun h => h⟩
    | 42, _ => exact ⟨_, rfl, fun h => h⟩
    | 43, _ => exact ⟨_, rfl, fun h => h⟩
    | 44, _ => exact ⟨_, rfl, fun h => h⟩
    | 45, _ => exact ⟨_, rfl, fun h => h⟩
    | 46, _ => exact ⟨_, rfl, fun h => h⟩
    | 47, _ => exact ⟨_, rfl, fun h => h⟩
    | 48, _ => exact ⟨_, rfl, fun h => h⟩
    | 49, _ => exact ⟨_, rfl, fun h => h⟩
    | 50, _ => exact ⟨_, rfl, fun h => h⟩
    | 51, _ => exact ⟨_, rfl, fun h => h⟩
    | 52, _ => exact ⟨_, rfl, fun h => h⟩
    | 53, _ => exact ⟨_, rfl, fun h => h⟩
    | 54, _ => exact ⟨_, rfl, fun h => h⟩
    | 55, _ => exact ⟨_, rfl, fun h => h⟩
    | 56, _ => exact ⟨_, rfl, fun h => h⟩
    | 57, _ => exact ⟨_, rfl, fun h => at_vq (fun i hi => by rcases (show i = 0 ∨ i = 1 ∨ i = 2 ∨ i = 3 ∨ i = 4 ∨ i = 5 by omega) with rfl | rfl | rfl | rfl | rfl | rfl <;> rfl) h⟩
    | 58, _ => exact ⟨_, rfl, fun h => h⟩
    | 59, _ => exact ⟨_, rfl, fun h => h⟩
    | 60, _ => exact ⟨_, rfl, fun h => h⟩
    | 61, _ => exact ⟨_, rfl, fun h => h⟩
    | 62, _ => exact ⟨_, rfl, fun h => h⟩
    | 63, _ => exact ⟨_, rfl, fun h => h⟩
    | 64, _ => exact ⟨_, rfl, fun h => h⟩
    | 65, _ => exact ⟨_, rfl, fun h => h⟩
    | 66, _ => exact ⟨_, rfl, fun h => h⟩
    | 67, _ => exact ⟨_, rfl, fun h => h⟩
    | 68, _ => exact ⟨_, rfl, fun h => h⟩
    | 69, _ => exact ⟨_, rfl, fun h => h⟩
    | 70, _ => exact ⟨_, rfl, fun h => h⟩
    | 71, _ => exact ⟨_, rfl, fun h => h⟩
    | n + 72, h => exact absurd h (by omega)
  · refine conv_D xperm (fun i hi => ?_) xperm_inj hD
    match i, hi with
    | 0, _ => exact ⟨_, rfl⟩
    | 1, _ => exact ⟨_, rfl⟩
    | 2, _ => exact ⟨_, rfl⟩
    | 3, _ => exact ⟨_, rfl⟩
    | 4, _ => exact ⟨_, rfl⟩
    | 5, _ => exact ⟨_, rfl⟩
    | 6, _ => exact ⟨_, rfl⟩
    | 7, _ => exact ⟨_, rfl⟩
    | 8, _ => exact ⟨_, rfl⟩
    | 9, _ => exact ⟨_, rfl⟩
    | 10, _ => exact ⟨_, rfl⟩
    | 11, _ => exact ⟨_, rfl⟩
    | 12, _ => exact ⟨_, rfl⟩
    | 13, _ => exact ⟨_, rfl⟩
    | 14, _ => exact ⟨_, rfl⟩
    | 15, _ => exact ⟨_, rfl⟩
    | 16, _ => exact ⟨_, rfl⟩
    | 17, _ => exact ⟨_, rfl⟩
    | 18, _ => exact ⟨_, rfl⟩
    | 19, _ => exact ⟨_, rfl⟩
    | 20, _ => exact ⟨_, rfl⟩
    | 21, _ => exact ⟨_, rfl⟩
    | 22, _ => exact ⟨_, rfl⟩
    | 23, _ => exact ⟨_, rfl⟩
    | 24, _ => exact ⟨_, rfl⟩
    | 25, _ => exact ⟨_, rfl⟩
    | 26, _ => exact ⟨_, rfl⟩
    | 27, _ => exact ⟨_, rfl⟩
    | 28, _ => exact ⟨_, rfl⟩
    | 29, _ => exact ⟨_, rfl⟩
    | 30, _ => exact ⟨_, rfl⟩
    | 31, _ => exact ⟨_, rfl⟩
    | 32, _ => exact ⟨_, rfl⟩
    | 33, _ => exact ⟨_, rfl⟩
    | 34, _ => exact ⟨_, rfl⟩
    | 35, _ => exact ⟨_, rfl⟩
    | 36, _ => exact ⟨_, rfl⟩
    | 37, _ => exact ⟨_, rfl⟩
    | 38, _ => exact ⟨_, rfl⟩
    | 39, _ => exact ⟨_, rfl⟩
    | 40, _ => exact ⟨_, rfl⟩
    | 41, _ => exact ⟨_, rfl⟩
    | 42, _ => exact ⟨_, rfl⟩
    | 43, _ => exact ⟨_, rfl⟩
    | 44, _ => exact ⟨_, rfl⟩
    | 45, _ => exact ⟨_, rfl⟩
    | 46, _ => exact ⟨_, rfl⟩
    | 47, _ => exact ⟨_, rfl⟩
    | 48, _ => exact ⟨_, rfl⟩
    | 49, _ => exact ⟨_, rfl⟩
    | 50, _ => exact ⟨_, rfl⟩
    | 51, _ => exact ⟨_, rfl⟩
    | 52, _ => exact ⟨_, rfl⟩
    | 53, _ => exact ⟨_, rfl⟩
    | 54, _ => exact ⟨_, rfl⟩
    | 55, _ => exact ⟨_, rfl⟩
    | 56, _ => exact ⟨_, rfl⟩
    | 57, _ => exact ⟨_, rfl⟩
    | 58, _ => exact ⟨_, rfl⟩
    | 59, _ => exact ⟨_, rfl⟩
    | 60, _ => exact ⟨_, rfl⟩
    | 61, _ => exact ⟨_, rfl⟩
    | 62, _ => exact ⟨_, rfl⟩
    | 63, _ => exact ⟨_, rfl⟩
    | 64, _ => exact ⟨_, rfl⟩
    | 65, _ => exact ⟨_, rfl⟩
    | 66, _ => exact ⟨_, rfl⟩
    | 67, _ => exact ⟨_, rfl⟩
    | 68, _ => exact ⟨_, rfl⟩
    | 69, _ => exact ⟨_, rfl⟩
    | 70, _ => exact ⟨_, rfl⟩
    | 71, _ => exact ⟨_, rfl⟩
    | n + 72, h => exact absurd h (by omega)
/-- the first relation -/
theorem mI_0 {j : Nat} : mI 0 j = m0 0 j := by unfold mI; simp only [mU_n _ _ _ (show (0 : Nat) ≠ 4 by decide), mU_n _ _ _ (show (0 : Nat) ≠ 2 by decide)]
theorem wI_0 {j : Nat} (h : j ≠ 6) : w_begins mI 0 j = m0 0 j := by rw [w_begins_0 _ h, mI_0]
theorem wI_n {q : Nat} (h0 : q ≠ 0) (h11 : q ≠ 11) (h14 : q ≠ 14) : w_begins mI q = mI q := by unfold w_begins; rw [w_kept_n _ h14, mU_n _ _ _ h0, mF_n _ _ _ h11]
theorem mI_2 : ∀ r, r < 6 → mI 2 r = -1 := by
  intro r hr
  unfold mI
  simp only [mU_n _ _ _ (show (2 : Nat) ≠ 4 by decide), mU_e, if_true]
  rcases (show r = 0 ∨ r = 1 ∨ r = 2 ∨ r = 3 ∨ r = 4 ∨ r = 5 by omega) with rfl | rfl | rfl | rfl | rfl | rfl <;> rfl
theorem mI_4 : ∀ r, r < 4 → mI 4 r = -1 := by
  intro r hr
  unfold mI
  simp only [mU_e, if_true]
  rcases (show r = 0 ∨ r = 1 ∨ r = 2 ∨ r = 3 by omega) with rfl | rfl | rfl | rfl <;> rfl
theorem Rl_first : Rl x0 (w_begins mI) := by
  have k1 : (-1 : Int32).toInt = -1 := by decide
  have p0 : vP x0 33 0 0 = 0 := rfl
  have p1 : vP x0 33 0 1 = 0 := rfl
  have n0 : nPl (vP x0 33) = 0 := by unfold nPl; rw [p0]; rfl
  have n1 : nPe (vP x0 33) = 0 := by unfold nPe; rw [p1]; rfl
  have e4 : w_begins mI 0 4 = 0 := (wI_0 (by decide)).trans rfl
  have e5 : w_begins mI 0 5 = 0 := (wI_0 (by decide)).trans rfl
  have q0 : pM (w_begins mI) 0 0 = 0 := e4
  have q1 : pM (w_begins mI) 0 1 = 0 := e5
  have m0' : nPl (pM (w_begins mI)) = 0 := by unfold nPl; rw [q0]; rfl
  have m1' : nPe (pM (w_begins mI)) = 0 := by unfold nPe; rw [q1]; rfl
  have nb : ∀ k, k < 12 → w_begins mI 11 k = bg_f k := fun k hk => by
    unfold w_begins
    rw [w_kept_n _ (by decide), mU_n _ _ _ (by decide), mF_e, if_pos rfl, if_pos hk]
  refine Rl_fresh ⟨⟨p0.trans q0.symm, p1.trans q1.symm, fun k hk => ?_, fun i hi => ?_⟩, ?_, ⟨fun k hk => ?_, fun i hi => ?_⟩, fun h => absurd e4 h⟩ ⟨fun r hr => ?_, fun t ht => ?_⟩ ?_ rfl ?_ (fun k hk => ⟨?_, ?_⟩) ⟨?_, ?_, ?_, fun k hk => ?_, fun i hi => ?_⟩ ⟨?_, ?_, ?_, fun k hk => ?_, fun i hi => ?_⟩ (fun i hi => ?_)
  · rw [n0] at hk; exact absurd hk (Nat.not_lt_zero _)
  · rw [n1] at hi; exact absurd hi (Nat.not_lt_zero _)
  · unfold PB; rw [q0, q1]; decide
  · rw [m0'] at hk; exact absurd hk (Nat.not_lt_zero _)
  · rw [m1'] at hi; exact absurd hi (Nat.not_lt_zero _)
  · rw [wI_n (by decide) (by decide) (by decide), mI_2 r hr, k1]
    refine ⟨?_, by omega, by omega, fun i hi => by omega⟩
    rcases (show r = 0 ∨ r = 1 ∨ r = 2 ∨ r = 3 ∨ r = 4 ∨ r = 5 by omega) with rfl | rfl | rfl | rfl | rfl | rfl <;> rfl
  · rw [wI_n (by decide) (by decide) (by decide), mI_4 t ht, k1]
    refine ⟨?_, by omega, by omega, fun i hi => by omega⟩
    rcases (show t = 0 ∨ t = 1 ∨ t = 2 ∨ t = 3 by omega) with rfl | rfl | rfl | rfl <;> rfl
  · unfold RlT
    rw [wI_0 (by decide), wI_0 (by decide), wI_0 (by decide), wI_0 (by decide), wI_n (by decide) (by decide) (by decide)]
    refine ⟨rfl, rfl, rfl, rfl, fun f h1 h5 => ?_⟩
    unfold mI
    simp only [mU_n _ _ _ (show (5 : Nat) ≠ 4 by decide), mU_n _ _ _ (show (5 : Nat) ≠ 2 by decide)]
    rfl
  · unfold w_begins; rw [w_kept_n _ (by decide), mU_e, if_pos rfl, if_pos rfl]
  · rcases (show k = 0 ∨ k = 1 ∨ k = 2 by omega) with rfl | rfl | rfl <;> rfl
  · unfold w_begins; exact w_kept_e _ 3 k hk
  · show 0 = w_begins mI 11 4; rw [nb 4 (by decide), bg_v.1 4 (by decide)]
  · show 0 = w_begins mI 11 10; rw [nb 10 (by decide), bg_v.2.2.1]
  · show 0 = w_begins mI 11 11; rw [nb 11 (by decide), bg_v.2.2.2]
  · rw [n0] at hk; exact absurd hk (Nat.not_lt_zero _)
  · rw [n1] at hi; exact absurd hi (Nat.not_lt_zero _)
  · exact (vS_begin x0).1.symm
  · exact (vS_begin x0).2.1.symm
  · exact (vS_begin x0).2.2.1.symm
  · rw [n0] at hk; exact absurd hk (Nat.not_lt_zero _)
  · rw [n1] at hi; exact absurd hi (Nat.not_lt_zero _)
  · rw [m1'] at hi; exact absurd hi (Nat.not_lt_zero _)
