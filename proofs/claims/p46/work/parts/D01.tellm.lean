/-! the law: what it lays in the text -/
def TX (KM IM n m k i : Nat) (u : Mem) : Prop := OKm u ∧ u 23 0 = 60 ∧ (∀ q, n + m ≤ q → q < 60 → u 24 q = 32) ∧ RDto (u 24) n k i (u 72) ∧ u 72 0 = nI KM ∧ u 72 1 = nI IM
theorem OK_RZ {u : Mem} (h : OKm u) : RZ u := by
  obtain ⟨μ, hr⟩ := h
  exact Rl_RZ hr
theorem z_at (u : Mem) (j : Nat) (v : Int32) : mU u 72 j v 72 j = v := by rw [mU_e, if_pos rfl, if_pos rfl]
theorem z_ne (u : Mem) {j q : Nat} (v : Int32) (h : q ≠ j) : mU u 72 j v 72 q = u 72 q := by rw [mU_e, if_pos rfl, if_neg h]
theorem let_N {d : Nat} (h : d < 6) : ∃ b, b < 128 ∧ a_letter (nI d) = nI b := by
  rcases (show d = 0 ∨ d = 1 ∨ d = 2 ∨ d = 3 ∨ d = 4 ∨ d = 5 by omega) with rfl | rfl | rfl | rfl | rfl | rfl
  · exact ⟨112, by decide, by decide⟩
  · exact ⟨114, by decide, by decide⟩
  · exact ⟨108, by decide, by decide⟩
  · exact ⟨115, by decide, by decide⟩
  · exact ⟨100, by decide, by decide⟩
  · exact ⟨107, by decide, by decide⟩
section TX
variable {KM IM n m k i : Nat} {u : Mem}
theorem TX_z (h : TX KM IM n m k i u) {j : Nat} {v : Int32} (h2 : 2 ≤ j) (hk : ∀ q, q < k → j ≠ 2 + q ∧ j ≠ 6 + q ∧ j ≠ 10 + q) (hi : ∀ q, q < i → j ≠ 14 + q ∧ j ≠ 19 + q) : TX KM IM n m k i (mU u 72 j v) := by
  obtain ⟨h1, h23, h24, hR, z0, z1⟩ := h
  have e24 : mU u 72 j v 24 = u 24 := mU_n _ _ _ (by decide)
  refine ⟨OK_72 h1 (fun q hq => mU_n _ _ _ (by omega)), ?_, fun q a b => ?_, ?_, ?_, ?_⟩
  · rw [mU_n _ _ _ (by decide)]; exact h23
  · rw [e24]; exact h24 q a b
  · rw [e24]
    refine RDto_c hR (fun _ _ => rfl) (fun q hq => ?_) (fun q hq => ?_)
    · obtain ⟨a, b, c⟩ := hk q hq
      exact ⟨(z_ne _ _ (fun z => a z.symm)).symm, (z_ne _ _ (fun z => b z.symm)).symm, (z_ne _ _ (fun z => c z.symm)).symm⟩
    · obtain ⟨a, b⟩ := hi q hq
      exact ⟨(z_ne _ _ (fun z => a z.symm)).symm, (z_ne _ _ (fun z => b z.symm)).symm⟩
  · rw [z_ne _ _ (by omega)]; exact z0
  · rw [z_ne _ _ (by omega)]; exact z1
theorem TX_b (h : TX KM IM n m k i u) {q b : Nat} (hq : q = n + m) (h60 : q < 60) (hb : b < 128) : (if (k_put u 3 (nI q) (nI b)).1 = 1032 then nI q + 1 else -1000) = nI (q + 1) ∧ TX KM IM n (m + 1) k i (k_put u 3 (nI q) (nI b)).2 ∧ (k_put u 3 (nI q) (nI b)).2 24 q = nI b ∧ (∀ j, j ≠ q → (k_put u 3 (nI q) (nI b)).2 24 j = u 24 j) ∧ (k_put u 3 (nI q) (nI b)).2 72 = u 72 := by
  obtain ⟨h1, h23, h24, hR, z0, z1⟩ := h
  obtain ⟨a, b', c, d⟩ := q_byte h1 h23 h60 (h24 q (by omega) h60) hb
  have e72 := d 72 (by decide)
  refine ⟨by rw [if_pos a, nI_1], ⟨b', by rw [d 23 (by decide)]; exact h23, fun j hj h6 => ?_, ?_, by rw [e72]; exact z0, by rw [e72]; exact z1⟩, by rw [c, sU_e], fun j hj => by rw [c, sU_n _ _ hj], e72⟩
  · rw [c, sU_n _ _ (by omega)]; exact h24 j (by omega) h6
  · rw [c, e72]; exact RDto_c hR (fun j hj => (sU_n _ _ (by omega)).symm) (fun _ _ => ⟨rfl, rfl, rfl⟩) (fun _ _ => ⟨rfl, rfl⟩)
theorem TX_pole (h : TX KM IM n 4 k i u) (hk : k < 4) (hn : n + 4 ≤ 60) {d a s b : Nat} (hd : d < 6) (ha : a < 9) (hs : s ≤ 60) (zd : u 72 (2 + k) = nI d) (za : u 72 (6 + k) = nI (1 + a)) (zs : u 72 (10 + k) = nI s) (el : a_letter (nI d) = nI b) (x0 : u 24 n = nI b) (x1 : u 24 (n + 1) = nI (48 + (1 + a))) (x2 : u 24 (n + 2) = nI (48 + s / 10)) (x3 : u 24 (n + 3) = nI (48 + s % 10)) : TX KM IM (n + 4) 0 (k + 1) i u :=
  ⟨h.1, h.2.1, fun q a b => h.2.2.1 q (by omega) b, RDto_pole h.2.2.2.1 hk hn hd (a := 1 + a) (by omega) hs zd za zs (x0.trans el.symm) x1 x2 x3, h.2.2.2.2⟩
theorem TX_one (h : TX KM IM n 3 k i u) (hi : i < 5) (hn : n + 3 ≤ 60) {w d : Nat} (hw : w < 9) (hd : d < 10) (zw : u 72 (14 + i) = nI (1 + w)) (zd : u 72 (19 + i) = nI d) (x0 : u 24 n = nI 109) (x1 : u 24 (n + 1) = nI (48 + (1 + w))) (x2 : u 24 (n + 2) = nI (48 + d)) : TX KM IM (n + 3) 0 k (i + 1) u :=
  ⟨h.1, h.2.1, fun q a b => h.2.2.1 q (by omega) b, RDto_one h.2.2.2.1 hi hn (w := 1 + w) (by omega) (by omega) zw zd x0 x1 x2, h.2.2.2.2⟩
theorem TX_g (h : TX KM IM n 0 k i u) {g : Nat} (hg : g = 0 ∨ g = 2) (hn : n + 2 ≤ 60) : TX KM IM (n + g) 0 k i u := by
  rcases hg with rfl | rfl
  · exact h
  · exact ⟨h.1, h.2.1, fun q a b => h.2.2.1 q (by omega) b, RDto_blank (RDto_blank h.2.2.2.1 (by omega) (h.2.2.1 _ (by omega) (by omega))) (by omega) (h.2.2.1 _ (by omega) (by omega)), h.2.2.2.2⟩
theorem TX_0 (hO : OKm u) (h23 : u 23 0 = 60) (h24 : ∀ q, q < 60 → u 24 q = 32) (z0 : u 72 0 = nI KM) (z1 : u 72 1 = nI IM) (hn : n ≤ 2) : TX KM IM n 0 0 0 u :=
  ⟨hO, h23, fun q _ b => h24 q b, by
    have q := RDto_end (RDto_0 (u 24) (u 72)) (by omega) (fun q _ b => h24 q b) n (by omega)
    rw [Nat.zero_add] at q; exact q, z0, z1⟩
theorem TX_fault (h : TX KM IM n 0 KM IM u) (hn : n ≤ 60) (hk : 1 ≤ KM ∧ KM ≤ 4) (hi : 1 ≤ IM ∧ IM ≤ 5) : (k_fault u 3).1 = -9 ∧ TX KM IM n 0 KM IM (k_fault u 3).2 := by
  obtain ⟨h1, h23, h24, hR, z0, z1⟩ := h
  obtain ⟨a, b, c⟩ := q_fault h1 hR hn (fun q a b => h24 q (by omega) b) hk hi ⟨h23, fun _ _ => rfl⟩
  have e23 := c 23 (by decide)
  have e24 := c 24 (by decide)
  have e72 := c 72 (by decide)
  refine ⟨a, b, ?_, fun q a b => ?_, ?_, ?_, ?_⟩
  · rw [e23]; exact h23
  · rw [e24]; exact h24 q a b
  · rw [e24, e72]; exact hR
  · rw [e72]; exact z0
  · rw [e72]; exact z1
theorem TX_nave (h : TX KM IM n 0 KM IM u) (hn : n ≤ 60) (hk : 1 ≤ KM ∧ KM ≤ 4) (hi : 1 ≤ IM ∧ IM ≤ 5) : (k_nave u 3).1 = nI KM ∧ ∃ P Z, NV P Z ∧ J P Z K00 bgP 0 (fun _ => 0) (k_nave u 3).2 ∧ Z 0 = nI KM := by
  obtain ⟨h1, h23, h24, hR, z0, z1⟩ := h
  obtain ⟨a, P, hN, hJ⟩ := q_nave h1 hR hn (fun q a b => h24 q (by omega) b) hk hi ⟨h23, fun _ _ => rfl⟩ rfl z0 z1
  exact ⟨a, P, u 72, hN, hJ, z0⟩
end TX
theorem kept_0 : a_sum (fun j => if K00.1 j = -1 then 0 else 1) 3 = 0 := by decide
