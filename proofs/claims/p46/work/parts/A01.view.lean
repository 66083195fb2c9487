/-! level 3: the law's view of a nave: plan P, the law's own row of it Z, kept ones K, scaffold S, D deeds C -/
theorem Rl_PO {σ μ : Mem} (h : Rl σ μ) : PO 33 σ := PB_of h.1.1 h.1.2.1
theorem Rl_RZ {σ μ : Mem} (h : Rl σ μ) : RZ σ := fun o ho => by
  have A : ∀ r, r < 6 → (σ (5 + 2 * r) 0).toInt ≤ 60 := fun r hr => by
    have q := h.2.1.1 r hr
    rw [q.1]; have := q.2.2.1; omega
  have B : ∀ t, t < 4 → (σ (17 + 2 * t) 0).toInt ≤ 60 := fun t ht => by
    have q := h.2.1.2 t ht
    rw [q.1]; exact q.2.2.1
  unfold oRow at ho
  rcases ho with rfl | rfl | rfl | rfl | rfl | rfl | rfl | rfl | rfl | rfl
  · exact A 0 (by decide)
  · exact A 1 (by decide)
  · exact A 2 (by decide)
  · exact A 3 (by decide)
  · exact A 4 (by decide)
  · exact A 5 (by decide)
  · exact B 0 (by decide)
  · exact B 1 (by decide)
  · exact B 2 (by decide)
  · exact B 3 (by decide)
theorem nlt_i {a b : Int32} (h : b.toInt ≤ a.toInt) : ¬ a < b := fun q => by have := i_lt q; omega
theorem nle_i {a b : Int32} (h : b.toInt < a.toInt) : ¬ a ≤ b := fun q => by have := i_le q; omega
/-- pure deeds -/
def dWear (S : PT) (k : Nat) : PT := fun q => match q with | 0 => S 0 | 1 => sU (S 1) k 0 | 2 => S 2 | _ => fun _ => 0
def dStone (S : PT) : PT := fun q => match q with | 0 => sU (S 0) 2 (S 0 2 + 1) | 1 => S 1 | 2 => S 2 | _ => fun _ => 0
def dYear (P S : PT) : PT := fun q => match q with | 0 => sU (sU (S 0) 1 (S 0 1 + 1)) 0 (S 0 0 ||| y_gave P S) | 1 => y_wear P S | 2 => y_seat P S (y_gave P S) | _ => fun _ => 0
def dApply (P S : PT) (d : Int32) : PT := if d / 100 = 0 then (if a_isOne P (dI d) = true then Ts S (sU (S 2) (ix (dI d)) (dK d)) else S) else if d / 100 = 1 then (if a_isOne P (dI d) = true then Ts S (sU (S 2) (ix (dI d)) (-9)) else S) else if d / 100 = 2 then (if a_isPole P (dK d) = true then dWear S (ix (dK d)) else S) else if d / 100 = 3 then dStone S else dYear P S
def dAns (P S : PT) (d : Int32) : Int32 := if d / 100 = 0 then a_load P (dApply P S d) (dK d) else if d / 100 = 1 then a_down P S (dI d) else if d / 100 = 2 then a_renew P S (dK d) else if d / 100 = 3 then S 0 2 + 1 else y_gave P S
theorem SEq_Ts {P S T : PT} (h : SEq P S T) (i : Nat) (v : Int32) : SEq P (Ts S (sU (S 2) i v)) (Ts T (sU (T 2) i v)) := ⟨h.1, h.2.1, h.2.2.1, h.2.2.2.1, fun j hj => by
  show sU (S 2) i v j = sU (T 2) i v j
  unfold sU; rw [h.2.2.2.2 j hj]⟩
theorem SEq_dWear {P S T : PT} (h : SEq P S T) (k : Nat) : SEq P (dWear S k) (dWear T k) := ⟨h.1, h.2.1, h.2.2.1, fun j hj => by
  show sU (S 1) k 0 j = sU (T 1) k 0 j
  unfold sU; rw [h.2.2.2.1 j hj], h.2.2.2.2⟩
theorem SEq_dStone {P S T : PT} (h : SEq P S T) : SEq P (dStone S) (dStone T) := ⟨h.1, h.2.1, by
  show S 0 2 + 1 = T 0 2 + 1
  rw [h.2.2.1], h.2.2.2.1, h.2.2.2.2⟩
theorem SEq_dYear {P S T : PT} (h : SEq P S T) : SEq P (dYear P S) (dYear P T) := by
  have g := pe_gave (PEq.rfl' (P := P)) h
  refine ⟨?_, ?_, h.2.2.1, fun k hk => ?_, fun i hi => ?_⟩
  · show S 0 0 ||| y_gave P S = T 0 0 ||| y_gave P T
    rw [g, h.1]
  · show S 0 1 + 1 = T 0 1 + 1
    rw [h.2.1]
  · exact pe_wear PEq.rfl' h hk
  · show y_seat P S (y_gave P S) i = y_seat P T (y_gave P T) i
    rw [g]; exact pe_seat PEq.rfl' h _ hi
theorem SEq_dApply {P S T : PT} (h : SEq P S T) (d : Int32) : SEq P (dApply P S d) (dApply P T d) := by
  unfold dApply
  split
  · split
    · exact SEq_Ts h _ _
    · exact h
  · split
    · split
      · exact SEq_Ts h _ _
      · exact h
    · split
      · split
        · exact SEq_dWear h _
        · exact h
      · split
        · exact SEq_dStone h
        · exact SEq_dYear h
/-- a deed of the class, as a pure one -/
theorem apply_p {P S : PT} {σ : Mem} {o : Nat} (hP : vP σ 33 = P) (hs : SEq P (vS σ o) S) (d : Int32) : SEq P (vS (m_apply σ o d) o) (dApply P S d) := by
  have n1 : o ≠ o + 1 := by omega
  have n2 : o ≠ o + 2 := by omega
  have n3 : o + 1 ≠ o := by omega
  have n4 : o + 2 ≠ o := by omega
  have n5 : o + 1 ≠ o + 2 := by omega
  have n6 : o + 2 ≠ o + 1 := by omega
  have seat : ∀ (j : Nat) (v : Int32), SEq P (vS (mU σ (o + 2) j v) o) (Ts S (sU (S 2) j v)) := by
    intro j v
    refine ⟨?_, ?_, ?_, fun k hk => ?_, fun i hi => ?_⟩
    · rw [vS_0, mU_n _ _ _ n2]; exact hs.1
    · rw [vS_0, mU_n _ _ _ n2]; exact hs.2.1
    · rw [vS_0, mU_n _ _ _ n2]; exact hs.2.2.1
    · rw [vS_1, mU_n _ _ _ n5]; exact hs.2.2.2.1 k hk
    · rw [vS_2, mU_e, if_pos rfl]
      have q := hs.2.2.2.2 i hi
      rw [vS_2] at q
      rw [q]; rfl
  unfold m_apply dApply
  split
  · unfold m_goUp; rw [hP]; split
    · exact seat _ _
    · exact hs
  · split
    · unfold m_down; rw [hP]; split
      · exact seat _ _
      · exact hs
    · split
      · unfold m_renew; rw [hP]; split
        · refine ⟨?_, ?_, ?_, fun k hk => ?_, fun i hi => ?_⟩
          · rw [vS_0, mU_n _ _ _ n1]; exact hs.1
          · rw [vS_0, mU_n _ _ _ n1]; exact hs.2.1
          · rw [vS_0, mU_n _ _ _ n1]; exact hs.2.2.1
          · rw [vS_1, mU_e, if_pos rfl]
            have q := hs.2.2.2.1 k hk
            rw [vS_1] at q
            rw [q]; rfl
          · rw [vS_2, mU_n _ _ _ n6]; exact hs.2.2.2.2 i hi
        · exact hs
      · split
        · have q := hs.2.2.1
          rw [vS_0] at q
          refine ⟨?_, ?_, ?_, fun k hk => ?_, fun i hi => ?_⟩
          · rw [vS_0, mU_e, if_pos rfl, if_neg (by decide)]; exact hs.1
          · rw [vS_0, mU_e, if_pos rfl, if_neg (by decide)]; exact hs.2.1
          · rw [vS_0, mU_e, if_pos rfl, if_pos rfl, q]; rfl
          · rw [vS_1, mU_n _ _ _ n3]; exact hs.2.2.2.1 k hk
          · rw [vS_2, mU_n _ _ _ n4]; exact hs.2.2.2.2 i hi
        · obtain ⟨x0, x1, x2, x3, x4⟩ := vS_year σ o
          have w := SEq_dYear hs
          rw [hP] at x0 x3 x4
          exact ⟨x0.trans w.1, x1.trans w.2.1, x2.trans w.2.2.1, fun k hk => (x3 k hk).trans (w.2.2.2.1 k hk), fun i hi => (x4 i hi).trans (w.2.2.2.2 i hi)⟩
theorem vP_apply (σ : Mem) (d : Int32) : vP (m_apply σ 45 d) 33 = vP σ 33 := vP_eq fun q hq => m_apply_n _ _ _ (by omega) (by omega) (by omega)
theorem ans_p {P S : PT} {σ : Mem} (hP : vP σ 33 = P) (hs : SEq P (vS σ 45) S) (d : Int32) : a_apply σ 45 d = dAns P S d := by
  have r := PEq.rfl' (P := P)
  unfold a_apply dAns
  by_cases c0 : d / 100 = 0
  · rw [if_pos c0, if_pos c0]
    have e : m_goUp σ 45 (dI d) (dK d) = m_apply σ 45 d := by unfold m_apply; rw [if_pos c0]
    rw [e, vP_apply, hP]
    exact pe_load r (apply_p hP hs d) _
  · rw [if_neg c0, if_neg c0]
    by_cases c1 : d / 100 = 1
    · rw [if_pos c1, if_pos c1, hP]
      unfold a_down
      by_cases c : a_isOne P (dI d) = true
      · rw [if_pos c, if_pos c, hs.2.2.2.2 _ (isOne_ix c)]
      · rw [if_neg c, if_neg c]
    · rw [if_neg c1, if_neg c1]
      by_cases c2 : d / 100 = 2
      · rw [if_pos c2, if_pos c2, hP]
        unfold a_renew
        by_cases c : a_isPole P (dK d) = true
        · rw [if_pos c, if_pos c, hs.2.2.2.1 _ (isPole_ix c)]
        · rw [if_neg c, if_neg c]
      · rw [if_neg c2, if_neg c2]
        by_cases c3 : d / 100 = 3
        · rw [if_pos c3, if_pos c3]
          have q := hs.2.2.1
          rw [vS_0] at q
          rw [q]
        · rw [if_neg c3, if_neg c3, hP]; exact pe_gave r hs
/-- deeds done one behind the other -/
def bgP : PT := fun q => match q with | 0 => fun _ => 0 | 1 => fun _ => 0 | 2 => fun _ => -9 | _ => fun _ => 0
def rplP (P : PT) (C : Nat → Int32) : Nat → PT
  | 0 => bgP
  | n + 1 => dApply P (rplP P C n) (C n)
theorem rplP_c {P : PT} {C C' : Nat → Int32} : ∀ n, (∀ j, j < n → C j = C' j) → rplP P C n = rplP P C' n
  | 0, _ => rfl
  | n + 1, h => by rw [rplP, rplP, rplP_c n (fun j hj => h j (by omega)), h n (by omega)]
theorem rpl_p {P : PT} {σ : Mem} (hP : vP σ 33 = P) (h4 : nPl P ≤ 4) (h5 : nPe P ≤ 5) (c : Nat) : ∀ n, SEq P (vS (rpl σ c n) 45) (rplP P (σ c) n)
  | 0 => by
    obtain ⟨z0, z1, z2, z3, z4⟩ := vS_begin σ
    exact ⟨z0, z1, z2, fun k hk => z3 k (by omega), fun i hi => z4 i (by omega)⟩
  | n + 1 => by
    rw [rpl, rplP]
    exact apply_p ((vP_rpl σ c n).trans hP) (rpl_p hP h4 h5 c n) _
/-- the law's view -/
abbrev KT : Type := (Nat → Int32) × (Nat → Nat → Int32)
def OKm (u : Mem) : Prop := ∃ μ, Rl u μ
def Jx (P : PT) (Z : Nat → Int32) (K : KT) (S : PT) (D : Nat) (C : Nat → Int32) (u : Mem) : Prop :=
  vP u 33 = P ∧ SEq P (vS u 45) S ∧ (u 25 0 = nI D ∧ D ≤ 40) ∧ (∀ j, j < D → u 26 j = C j) ∧ (∀ k, k < 3 → u (27 + 2 * k) 0 = K.1 k ∧ ∀ j : Nat, (j : Int) < (K.1 k).toInt → u (28 + 2 * k) j = K.2 k j) ∧ u 72 = Z
def J (P : PT) (Z : Nat → Int32) (K : KT) (S : PT) (D : Nat) (C : Nat → Int32) (u : Mem) : Prop := OKm u ∧ Jx P Z K S D C u
/-- the rows stay -/
def RS (u t : Mem) : Prop := ∀ q, 5 ≤ q → q ≤ 16 → t q = u q
theorem RS.rfl' {u : Mem} : RS u u := fun _ _ _ => rfl
theorem RS.tr {u t v : Mem} (h : RS u t) (g : RS t v) : RS u v := fun q h1 h2 => (g q h1 h2).trans (h q h1 h2)
theorem OK_ag {a b : Int32 × Mem} (h : Ag a b) : OKm a.2 := ⟨b.2, h.2⟩
theorem J_n {P : PT} {Z : Nat → Int32} {K : KT} {S : PT} {D : Nat} {C : Nat → Int32} {u t : Mem} (h : J P Z K S D C u) (ho : OKm t) (e : ∀ q, (25 ≤ q ∧ q ≤ 38) ∨ (45 ≤ q ∧ q ≤ 47) ∨ q = 72 → t q = u q) : J P Z K S D C t := by
  obtain ⟨-, hP, hS, hD, hC, hK, hZ⟩ := h
  refine ⟨ho, ?_, ?_, ?_, fun j hj => ?_, fun k hk => ?_, ?_⟩
  · rw [vP_eq (σ := u) (τ := t) (fun q hq => e _ (by omega))]; exact hP
  · rw [vS_of (σ := u) (τ := t) (fun q h1 h2 => e _ (by omega))]; exact hS
  · rw [e 25 (by omega)]; exact hD
  · rw [e 26 (by omega)]; exact hC j hj
  · rw [e (27 + 2 * k) (by omega), e (28 + 2 * k) (by omega)]; exact hK k hk
  · rw [e 72 (by omega)]; exact hZ
theorem J_s {P : PT} {Z : Nat → Int32} {K : KT} {S T : PT} {D : Nat} {C C' : Nat → Int32} {u : Mem} (h : J P Z K S D C u) (hs : SEq P S T) (hc : ∀ j, j < D → C j = C' j) : J P Z K T D C' u := by
  obtain ⟨ho, hP, hS, hD, hC, hK, hZ⟩ := h
  exact ⟨ho, hP, hS.tr hs, hD, fun j hj => (hC j hj).trans (hc j hj), hK, hZ⟩
theorem J_PO {P : PT} {Z : Nat → Int32} {K : KT} {S : PT} {D : Nat} {C : Nat → Int32} {u : Mem} (h : J P Z K S D C u) : PO 33 u := by
  obtain ⟨⟨μ, hr⟩, -⟩ := h
  exact Rl_PO hr
theorem J_RZ {P : PT} {Z : Nat → Int32} {K : KT} {S : PT} {D : Nat} {C : Nat → Int32} {u : Mem} (h : J P Z K S D C u) : RZ u := by
  obtain ⟨⟨μ, hr⟩, -⟩ := h
  exact Rl_RZ hr
/-- the scaffold is what the deeds make of it -/
theorem J_rp {P : PT} {Z : Nat → Int32} {K : KT} {S : PT} {D : Nat} {C : Nat → Int32} {u : Mem} (h : J P Z K S D C u) : SEq P (rplP P C D) S := by
  obtain ⟨⟨μ, hr⟩, hP, hS, ⟨hD, hD4⟩, hC, hK, hZ⟩ := h
  obtain ⟨b4, b5⟩ := RlP_45 hr.1
  have q := hr.2.2.2.1.2.2.2.1
  rw [hP] at q b4 b5
  have e : ix (μ 0 6) = D := by rw [← hr.2.2.2.1.1, hD, ix_of (by omega)]
  rw [e] at q
  have w := rpl_p hP b4 b5 26 D
  rw [rplP_c D hC] at w
  exact w.sy.tr (q.sy.tr hS)
/-- what a plan, a scaffold may be -/
def PG (P : PT) : Prop := PB P ∧ PR P ∧ 0 < nPl P ∧ 0 < nPe P
theorem J_plan {P : PT} {Z : Nat → Int32} {K : KT} {S : PT} {D : Nat} {C : Nat → Int32} {u : Mem} (h : J P Z K S D C u) : PB P ∧ PR P := by
  obtain ⟨⟨μ, hr⟩, hP, -⟩ := h
  rw [← hP]
  exact ⟨PB_of hr.1.1 hr.1.2.1, PR_of hr.1.1 hr.1.2.2.1⟩
theorem J_wear {P : PT} {Z : Nat → Int32} {K : KT} {S : PT} {D : Nat} {C : Nat → Int32} {u : Mem} (h : J P Z K S D C u) : WR P S := by
  obtain ⟨⟨μ, hr⟩, hP, hS, -⟩ := h
  have q := WR_now hr
  rw [hP] at q
  exact WR_c q hS
theorem J_seats {P : PT} {Z : Nat → Int32} {K : KT} {S : PT} {D : Nat} {C : Nat → Int32} {u : Mem} (h : J P Z K S D C u) : okS P S (S 2) (nPe P) := by
  obtain ⟨⟨μ, hr⟩, hP, hS, -⟩ := h
  have hp := hr.1.1
  have hs := hr.2.2.2.1.2.2.1
  intro i hi
  have hi' : i < nPe (pM μ) := by rw [← hp.pe, hP]; exact hi
  have q := hr.2.2.2.1.2.2.2.2.1 i hi'
  rw [← hs.2.2.2.2 i (by rw [hP]; exact hi), ← pe_isUp hp hs, hP, pe_isUp PEq.rfl' hS, hS.2.2.2.2 i hi] at q
  exact q
