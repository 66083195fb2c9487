theorem vS_0 (σ : Mem) (o : Nat) : vS σ o 0 = σ o := rfl
theorem vS_1 (σ : Mem) (o : Nat) : vS σ o 1 = σ (o + 1) := rfl
theorem vS_2 (σ : Mem) (o : Nat) : vS σ o 2 = σ (o + 2) := rfl
theorem vP_0 (σ : Mem) (o : Nat) : vP σ o 0 = σ o := rfl
theorem vP_1 (σ : Mem) (o : Nat) : vP σ o 1 = σ (o + 1) := rfl
theorem vP_2 (σ : Mem) (o : Nat) : vP σ o 2 = σ (o + 2) := rfl
theorem vP_3 (σ : Mem) (o : Nat) : vP σ o 3 = σ (o + 3) := rfl
theorem vP_4 (σ : Mem) (o : Nat) : vP σ o 4 = σ (o + 4) := rfl
theorem vP_5 (σ : Mem) (o : Nat) : vP σ o 5 = σ (o + 5) := rfl
theorem m_goUp_n (σ : Mem) (o : Nat) (i k : Int32) {q : Nat} (h : q ≠ o + 2) : m_goUp σ o i k q = σ q := by unfold m_goUp; split; exact mU_n _ _ _ h; rfl
theorem m_down_n (σ : Mem) (o : Nat) (i : Int32) {q : Nat} (h : q ≠ o + 2) : m_down σ o i q = σ q := by unfold m_down; split; exact mU_n _ _ _ h; rfl
theorem m_renew_n (σ : Mem) (o : Nat) (k : Int32) {q : Nat} (h : q ≠ o + 1) : m_renew σ o k q = σ q := by unfold m_renew; split; exact mU_n _ _ _ h; rfl
theorem m_year_n (σ : Mem) (o : Nat) {q : Nat} (h0 : q ≠ o) (h1 : q ≠ o + 1) (h2 : q ≠ o + 2) : m_year σ o q = σ q := by
  unfold m_year; rw [mU_n _ _ _ h0, mU_n _ _ _ h0, mF_n _ _ _ h2, mF_n _ _ _ h1]
theorem m_begin_n (σ : Mem) (o : Nat) {q : Nat} (h0 : q ≠ o) (h1 : q ≠ o + 1) (h2 : q ≠ o + 2) : m_begin σ o q = σ q := by
  unfold m_begin; rw [mU_n _ _ _ h0, mU_n _ _ _ h0, mU_n _ _ _ h0, mF_n _ _ _ h2, mF_n _ _ _ h1]
theorem m_apply_n (σ : Mem) (o : Nat) (d : Int32) {q : Nat} (h0 : q ≠ o) (h1 : q ≠ o + 1) (h2 : q ≠ o + 2) : m_apply σ o d q = σ q := by
  unfold m_apply
  split
  · exact m_goUp_n _ _ _ _ h2
  · split
    · exact m_down_n _ _ _ h2
    · split
      · exact m_renew_n _ _ _ h1
      · split
        · exact mU_n _ _ _ h0
        · exact m_year_n _ _ h0 h1 h2
theorem m_replayN_n (σ : Mem) {q : Nat} (h0 : q ≠ 45) (h1 : q ≠ 46) (h2 : q ≠ 47) : ∀ j, m_replayN σ j q = σ q
  | 0 => m_begin_n _ _ h0 h1 h2
  | j + 1 => (m_apply_n _ _ _ h0 h1 h2).trans (m_replayN_n σ h0 h1 h2 j)
theorem m_takeS_n (σ : Mem) {q : Nat} (h0 : q ≠ 48) (h1 : q ≠ 49) (h2 : q ≠ 50) : m_takeS σ q = σ q := by
  unfold m_takeS; rw [mU_n _ _ _ h0, mU_n _ _ _ h0, mU_n _ _ _ h0, mF_n _ _ _ h2, mF_n _ _ _ h1]
theorem PO_replayN {σ : Mem} (h : PO 33 σ) (j : Nat) : PO 33 (m_replayN σ j) := PO_eq h (m_replayN_n σ (by decide) (by decide) (by decide) j)
theorem PO_apply {p : Nat} {σ : Mem} (h : PO p σ) {o : Nat} {d : Int32} (h0 : p ≠ o ∧ p ≠ o + 1 ∧ p ≠ o + 2) : PO p (m_apply σ o d) := PO_eq h (m_apply_n _ _ _ h0.1 h0.2.1 h0.2.2)
theorem PO_year {p : Nat} {σ : Mem} (h : PO p σ) {o : Nat} (h0 : p ≠ o ∧ p ≠ o + 1 ∧ p ≠ o + 2) : PO p (m_year σ o) := PO_eq h (m_year_n _ _ h0.1 h0.2.1 h0.2.2)
/-- bits of an int -/
def a_pop (x : Int32) : Int32 :=
  let a := x - ((x.toUInt32 >>> ((1 : Int32).toUInt32 &&& Int32.toUInt32 31)).toInt32 &&& 1431655765)
  let b := (a &&& 858993459) + ((a.toUInt32 >>> ((2 : Int32).toUInt32 &&& Int32.toUInt32 31)).toInt32 &&& 858993459)
  let c := (b + (b.toUInt32 >>> ((4 : Int32).toUInt32 &&& Int32.toUInt32 31)).toInt32) &&& 252645135
  let d := c + (c.toUInt32 >>> ((8 : Int32).toUInt32 &&& Int32.toUInt32 31)).toInt32
  let e := d + (d.toUInt32 >>> ((16 : Int32).toUInt32 &&& Int32.toUInt32 31)).toInt32
  e &&& 63
