/-! the text that the law lays, read -/
def PS (p : Nat) (σ τ : Mem) (k i : Nat) (Z : Nat → Int32) : Prop := (∀ q, q < p ∨ p + 5 < q → τ q = σ q) ∧ τ p 0 = nI k ∧ τ p 1 = nI i ∧ (∀ j, j < k → τ (p + 1) j = Z (2 + j) ∧ τ (p + 2) j = Z (6 + j) ∧ τ (p + 3) j = Z (10 + j)) ∧ (∀ j, j < i → τ (p + 4) j = Z (14 + j) ∧ τ (p + 5) j = Z (19 + j))
def TXT (σ : Mem) (X : Nat → Int32) (n : Nat) : Prop := σ 23 0 = 60 ∧ ∀ q, q < n → σ 24 q = X q
def RDto (X : Nat → Int32) (n k i : Nat) (Z : Nat → Int32) : Prop := ∃ c, c ≤ n ∧ ∀ (p : Nat) (σ : Mem), 24 < p → TXT σ X n → ∃ τ, PS p σ τ k i Z ∧ ∀ F, rd p 23 (F + c) (mU (mU σ p 0 0) p 1 0) 0 = rd p 23 F τ (nI n)
theorem RDto_0 (X Z : Nat → Int32) : RDto X 0 0 0 Z := ⟨0, Nat.le_refl _, fun p σ hp hx => ⟨mU (mU σ p 0 0) p 1 0, ⟨fun q hq => by rw [mU_n _ _ _ (by omega), mU_n _ _ _ (by omega)], by simp [mU_e]; rfl, by simp [mU_e]; rfl, fun j hj => absurd hj (Nat.not_lt_zero _), fun j hj => absurd hj (Nat.not_lt_zero _)⟩, fun F => rfl⟩⟩
theorem RDto_c {X X' Z Z' : Nat → Int32} {n k i : Nat} (h : RDto X n k i Z) (hx : ∀ q, q < n → X q = X' q) (hk : ∀ j, j < k → Z (2 + j) = Z' (2 + j) ∧ Z (6 + j) = Z' (6 + j) ∧ Z (10 + j) = Z' (10 + j)) (hi : ∀ j, j < i → Z (14 + j) = Z' (14 + j) ∧ Z (19 + j) = Z' (19 + j)) : RDto X' n k i Z' := by
  obtain ⟨c, hc, h⟩ := h
  refine ⟨c, hc, fun p σ hp t => ?_⟩
  obtain ⟨τ, ⟨a1, a2, a3, a4, a5⟩, b⟩ := h p σ hp ⟨t.1, fun q hq => (t.2 q hq).trans (hx q hq).symm⟩
  refine ⟨τ, ⟨a1, a2, a3, fun j hj => ?_, fun j hj => ?_⟩, b⟩
  · rw [(a4 j hj).1, (a4 j hj).2.1, (a4 j hj).2.2]; exact hk j hj
  · rw [(a5 j hj).1, (a5 j hj).2]; exact hi j hj
section RT
variable {p n k i : Nat} {σ τ : Mem} {X Z : Nat → Int32}
theorem txt_get (hp : 24 < p) (h : PS p σ τ k i Z) {N : Nat} (t : TXT σ X N) {q : Nat} (hq : q < N) (hN : N ≤ 60) : τ 23 0 = 60 ∧ a_get τ 23 (nI q) = X q := by
  have e0 : τ 23 0 = 60 := by rw [h.1 23 (by omega)]; exact t.1
  have k60 : (60 : Int32).toInt = 60 := by decide
  refine ⟨e0, ?_⟩
  rw [get_nI (by rw [e0, k60]; omega) (by rw [e0, k60]; omega), h.1 24 (by omega)]
  exact t.2 q hq
theorem figT_e (hp : 24 < p) (h : PS p σ τ k i Z) {N : Nat} (t : TXT σ X N) {q : Nat} (hq : q < N) (hN : N ≤ 60) {v : Nat} (hv : v ≤ 9) (e : X q = nI (48 + v)) : a_fig τ 23 (nI q) = nI v := by
  have g := (txt_get hp h t hq hN).2
  have ti : (nI (48 + v)).toInt = ((48 + v : Nat) : Int) := nI_toInt (by omega)
  unfold a_fig
  rw [g, e, if_neg (nlt_i (by rw [ti, show (48 : Int32).toInt = 48 by decide]; omega)), if_neg (nlt_i (by rw [ti, show (57 : Int32).toInt = 57 by decide]; omega))]
  have z := nI_sub' (a := 48 + v) (b := 48) (by omega) (by omega)
  rw [show 48 + v - 48 = v by omega] at z
  exact z
theorem lt60 {q : Nat} (hq : q < 60) : nI q < 60 := i_ltI (by rw [nI_toInt (by omega), show (60 : Int32).toInt = 60 by decide]; omega)
end RT
section RX
variable {n k i : Nat} {X Z : Nat → Int32}
theorem RDto_blank (h : RDto X n k i Z) (hn : n < 60) (hx : X n = 32) : RDto X (n + 1) k i Z := by
  obtain ⟨c, hc, h⟩ := h
  refine ⟨c + 1, by omega, fun p σ hp t => ?_⟩
  obtain ⟨τ, a, b⟩ := h p σ hp ⟨t.1, fun q hq => t.2 q (by omega)⟩
  refine ⟨τ, a, fun F => ?_⟩
  obtain ⟨g0, g1⟩ := txt_get hp a t (q := n) (by omega) (by omega)
  rw [show F + (c + 1) = (F + 1) + c by omega, b, rd, g0, if_pos (lt60 hn), g1, hx, if_pos rfl, nI_1]
theorem kd_fin : ∀ d : Fin 6, a_kind (a_letter (nI d.1)) = nI d.1 ∧ ¬ a_letter (nI d.1) = 32 ∧ ¬ a_letter (nI d.1) = 109 := by decide +kernel
theorem st_fin : ∀ s : Fin 61, nI s.1 / 10 = nI (s.1 / 10) ∧ nI s.1 - nI s.1 / 10 * 10 = nI (s.1 % 10) ∧ 10 * nI (s.1 / 10) + nI (s.1 % 10) = nI s.1 := by decide +kernel
theorem RDto_pole (h : RDto X n k i Z) (hk : k < 4) (hn : n + 4 ≤ 60) {d a s : Nat} (hd : d < 6) (ha : 1 ≤ a ∧ a ≤ 9) (hs : s ≤ 60) (zd : Z (2 + k) = nI d) (za : Z (6 + k) = nI a) (zs : Z (10 + k) = nI s)
    (x0 : X n = a_letter (nI d)) (x1 : X (n + 1) = nI (48 + a)) (x2 : X (n + 2) = nI (48 + s / 10)) (x3 : X (n + 3) = nI (48 + s % 10)) : RDto X (n + 4) (k + 1) i Z := by
  obtain ⟨c, hc, h⟩ := h
  refine ⟨c + 1, by omega, fun p σ hp t => ?_⟩
  obtain ⟨τ, A, b⟩ := h p σ hp ⟨t.1, fun q hq => t.2 q (by omega)⟩
  obtain ⟨g0, g1⟩ := txt_get hp A t (q := n) (by omega) (by omega)
  have f1 := figT_e hp A t (q := n + 1) (by omega) (by omega) (v := a) (by omega) x1
  have f2 := figT_e hp A t (q := n + 2) (by omega) (by omega) (v := s / 10) (by omega) x2
  have f3 := figT_e hp A t (q := n + 3) (by omega) (by omega) (v := s % 10) (by omega) x3
  obtain ⟨k1, k2, k3⟩ := kd_fin ⟨d, hd⟩
  obtain ⟨-, -, s3⟩ := st_fin ⟨s, by omega⟩
  obtain ⟨A1, A2, A3, A4, A5⟩ := id A
  have k1' : a_kind (a_get τ 23 (nI n)) = nI d := by rw [g1, x0]; exact k1
  have e1 : nI n + 1 = nI (n + 1) := nI_1 n
  have e2 : nI n + 2 = nI (n + 2) := nI_add n 2
  have e3 : nI n + 3 = nI (n + 3) := nI_add n 3
  have e4 : nI n + 4 = nI (n + 4) := nI_add n 4
  have ek : ix (nI k) = k := ix_of (by omega)
  have c0 : ¬ nI d < 0 := nI_pos (by omega)
  have c1 : nI k < 4 := i_ltI (by rw [nI_toInt (by omega), show (4 : Int32).toInt = 4 by decide]; omega)
  have c2 : ¬ nI a < 1 := nlt_i (by rw [nI_toInt (by omega), show (1 : Int32).toInt = 1 by decide]; omega)
  have c3 : ¬ nI (s / 10) < 0 := nI_pos (by omega)
  have c4 : ¬ nI (s % 10) < 0 := nI_pos (by omega)
  have c5 : ¬ 60 < nI s := nlt_i (by rw [nI_toInt (by omega), show (60 : Int32).toInt = 60 by decide]; omega)
  have s3' : 10 * nI (s / 10) + nI (s % 10) = nI s := s3
  have ra : a_rPole τ p 23 (nI n) (nI d) = -9 := by
    unfold a_rPole
    rw [if_neg c0, A2, if_pos c1, e1, e2, e3, f1, f2, f3, if_neg c2, if_neg c3, if_neg c4, s3', if_neg c5]
  have rm : m_rPole τ p 23 (nI n) (nI d) = mU (mU (mU (mU τ (p + 1) k (nI d)) (p + 2) k (nI a)) (p + 3) k (nI s)) p 0 (nI (k + 1)) := by
    unfold m_rPole
    rw [if_neg c0, A2, if_pos c1, e1, e2, e3, f1, f2, f3, if_neg c2, if_neg c3, if_neg c4, s3', if_neg c5, ek, nI_1]
  refine ⟨mU (mU (mU (mU τ (p + 1) k (nI d)) (p + 2) k (nI a)) (p + 3) k (nI s)) p 0 (nI (k + 1)), ⟨fun q hq => ?_, ?_, ?_, fun j hj => ?_, fun j hj => ?_⟩, fun F => ?_⟩
  · rw [mU_n _ _ _ (by omega), mU_n _ _ _ (by omega), mU_n _ _ _ (by omega), mU_n _ _ _ (by omega)]; exact A1 q hq
  · rw [mU_e, if_pos rfl, if_pos rfl]
  · rw [mU_e, if_pos rfl, if_neg (by decide), mU_n _ _ _ (by omega), mU_n _ _ _ (by omega), mU_n _ _ _ (by omega)]; exact A3
  · rw [mU_n _ _ _ (by omega), mU_n _ _ _ (by omega), mU_n _ _ _ (by omega), mU_e, if_pos rfl, mU_n _ _ _ (by omega), mU_n _ _ _ (by omega), mU_e, if_pos rfl, mU_n _ _ _ (by omega), mU_n _ _ _ (by omega), mU_e, if_pos rfl, mU_n _ _ _ (by omega), mU_n _ _ _ (by omega)]
    by_cases c : j = k
    · rw [if_pos c, if_pos c, if_pos c, c, zd, za, zs]; exact ⟨rfl, rfl, rfl⟩
    · rw [if_neg c, if_neg c, if_neg c]; exact A4 j (by omega)
  · rw [mU_n _ _ _ (by omega), mU_n _ _ _ (by omega), mU_n _ _ _ (by omega), mU_n _ _ _ (by omega), mU_n _ _ _ (by omega), mU_n _ _ _ (by omega), mU_n _ _ _ (by omega), mU_n _ _ _ (by omega)]; exact A5 j hj
  · rw [show F + (c + 1) = (F + 1) + c by omega, b, rd, g0, if_pos (lt60 (by omega)), k1', ra, if_pos rfl, rm, e4]
    rw [if_neg (show ¬ a_get τ 23 (nI n) = 32 by rw [g1, x0]; exact k2), if_neg (show ¬ a_get τ 23 (nI n) = 109 by rw [g1, x0]; exact k3)]
theorem RDto_one (h : RDto X n k i Z) (hi : i < 5) (hn : n + 3 ≤ 60) {w d : Nat} (hw : 1 ≤ w ∧ w ≤ 9) (hd : d ≤ 9) (zw : Z (14 + i) = nI w) (zd : Z (19 + i) = nI d)
    (x0 : X n = 109) (x1 : X (n + 1) = nI (48 + w)) (x2 : X (n + 2) = nI (48 + d)) : RDto X (n + 3) k (i + 1) Z := by
  obtain ⟨c, hc, h⟩ := h
  refine ⟨c + 1, by omega, fun p σ hp t => ?_⟩
  obtain ⟨τ, A, b⟩ := h p σ hp ⟨t.1, fun q hq => t.2 q (by omega)⟩
  obtain ⟨g0, g1⟩ := txt_get hp A t (q := n) (by omega) (by omega)
  have f1 := figT_e hp A t (q := n + 1) (by omega) (by omega) (v := w) (by omega) x1
  have f2 := figT_e hp A t (q := n + 2) (by omega) (by omega) (v := d) (by omega) x2
  obtain ⟨A1, A2, A3, A4, A5⟩ := id A
  have e1 : nI n + 1 = nI (n + 1) := nI_1 n
  have e2 : nI n + 2 = nI (n + 2) := nI_add n 2
  have e3 : nI n + 3 = nI (n + 3) := nI_add n 3
  have ei : ix (nI i) = i := ix_of (by omega)
  have c1 : nI i < 5 := i_ltI (by rw [nI_toInt (by omega), show (5 : Int32).toInt = 5 by decide]; omega)
  have c2 : ¬ nI w < 1 := nlt_i (by rw [nI_toInt (by omega), show (1 : Int32).toInt = 1 by decide]; omega)
  have c3 : ¬ nI d < 0 := nI_pos (by omega)
  have ra : a_rOne τ p 23 (nI n) = -9 := by
    unfold a_rOne
    rw [A3, if_pos c1, e1, e2, f1, f2, if_neg c2, if_neg c3]
  have rm : m_rOne τ p 23 (nI n) = mU (mU (mU τ (p + 4) i (nI w)) (p + 5) i (nI d)) p 1 (nI (i + 1)) := by
    unfold m_rOne
    rw [A3, if_pos c1, e1, e2, f1, f2, if_neg c2, if_neg c3, ei, nI_1]
  refine ⟨mU (mU (mU τ (p + 4) i (nI w)) (p + 5) i (nI d)) p 1 (nI (i + 1)), ⟨fun q hq => ?_, ?_, ?_, fun j hj => ?_, fun j hj => ?_⟩, fun F => ?_⟩
  · rw [mU_n _ _ _ (by omega), mU_n _ _ _ (by omega), mU_n _ _ _ (by omega)]; exact A1 q hq
  · rw [mU_e, if_pos rfl, if_neg (by decide), mU_n _ _ _ (by omega), mU_n _ _ _ (by omega)]; exact A2
  · rw [mU_e, if_pos rfl, if_pos rfl]
  · rw [mU_n _ _ _ (by omega), mU_n _ _ _ (by omega), mU_n _ _ _ (by omega), mU_n _ _ _ (by omega), mU_n _ _ _ (by omega), mU_n _ _ _ (by omega), mU_n _ _ _ (by omega), mU_n _ _ _ (by omega), mU_n _ _ _ (by omega)]; exact A4 j hj
  · rw [mU_n _ _ _ (by omega), mU_n _ _ _ (by omega), mU_e, if_pos rfl, mU_n _ _ _ (by omega), mU_e, if_pos rfl, mU_n _ _ _ (by omega)]
    by_cases c : j = i
    · rw [if_pos c, if_pos c, c, zw, zd]; exact ⟨rfl, rfl⟩
    · rw [if_neg c, if_neg c]; exact A5 j (by omega)
  · rw [show F + (c + 1) = (F + 1) + c by omega, b, rd, g0, if_pos (lt60 (by omega)), ra, if_pos rfl, rm, e3]
    rw [if_neg (show ¬ a_get τ 23 (nI n) = 32 by rw [g1, x0]; decide), if_pos (show a_get τ 23 (nI n) = 109 by rw [g1, x0])]
theorem RDto_end (h : RDto X n k i Z) (hn : n ≤ 60) (hx : ∀ q, n ≤ q → q < 60 → X q = 32) : ∀ c, n + c ≤ 60 → RDto X (n + c) k i Z
  | 0, _ => h
  | c + 1, hc => by
    have hl : n + c < 60 := by omega
    exact RDto_blank (RDto_end h hn hx c (by omega)) hl (hx (n + c) (by omega) hl)
theorem rd0_end (h : RDto X n k i Z) (hn : n ≤ 60) (hx : ∀ q, n ≤ q → q < 60 → X q = 32) (hk : 1 ≤ k ∧ k ≤ 4) (hi : 1 ≤ i ∧ i ≤ 5) {p : Nat} {σ : Mem} (hp : 24 < p) (t : TXT σ X 60) : ∃ τ, PS p σ τ k i Z ∧ rd0 p 23 σ = (-9, τ) := by
  have h60 := RDto_end h hn hx (60 - n) (by omega)
  rw [show n + (60 - n) = 60 by omega] at h60
  obtain ⟨c, hc, h60⟩ := h60
  obtain ⟨τ, A, b⟩ := h60 p σ hp t
  refine ⟨τ, A, ?_⟩
  have q := b (65 - c)
  rw [show 65 - c + c = 65 by omega] at q
  have e0 : τ 23 0 = 60 := by rw [A.1 23 (by omega)]; exact t.1
  have n0 : ∀ {j : Nat}, 1 ≤ j → j < 100 → ¬ nI j = 0 := fun h1 h2 => nI_ne0 (by omega) (by omega)
  unfold rd0
  rw [q, show 65 - c = (64 - c) + 1 by omega, rd, e0, if_neg (show ¬ nI 60 < 60 by decide), A.2.1, A.2.2.1, if_neg (n0 hk.1 (by omega)), if_neg (n0 hi.1 (by omega))]
end RX
/-- bytes of the text -/
theorem q_byte {u : Mem} (ho : OKm u) (h23 : u 23 0 = 60) {q b : Nat} (hq : q < 60) (h32 : u 24 q = 32) (hb : b < 128) : (k_put u 3 (nI q) (nI b)).1 = 1032 ∧ OKm (k_put u 3 (nI q) (nI b)).2 ∧ (k_put u 3 (nI q) (nI b)).2 24 = sU (u 24) q (nI b) ∧ ∀ c, c ≠ 24 → (k_put u 3 (nI q) (nI b)).2 c = u c := by
  obtain ⟨μ, hr⟩ := id ho
  have ho' := OK_ag (op_put hr 3 (nI q) (nI b))
  have ti : (nI q).toInt = (q : Int) := nI_toInt (by omega)
  have k60 : (60 : Int32).toInt = 60 := by decide
  have hh : a_has u 23 (nI q) = true := by
    unfold a_has
    rw [h23, decide_eq_false (nI_pos (by omega)), decide_eq_true (lt60 hq)]; rfl
  have hf : a_findAt u 23 (nI q) = 0 := by
    unfold a_findAt
    rw [h23, if_neg (by decide), if_pos hh]
  have hg : a_get u 23 (nI q) = 32 := by
    unfold a_get
    rw [if_pos hh, ix_of (by omega)]; exact h32
  have bb : ∀ b : Fin 128, (nI b.1).toInt8.toInt32 = nI b.1 := by decide +kernel
  have e : k_put u 3 (nI q) (nI b) = (1032, mU u 24 q (nI b)) := by
    unfold k_put
    rw [if_pos (by decide), show 17 + 2 * ix 3 = 23 from rfl, if_pos hf, hg]
    unfold m_set
    rw [if_pos hh, ix_of (by omega), bb ⟨b, hb⟩]; rfl
  rw [e] at ho' ⊢
  refine ⟨rfl, ho', ?_, fun c hc => mU_n _ _ _ hc⟩
  funext j
  show mU u 24 q (nI b) 24 j = _
  rw [mU_e, if_pos rfl]; rfl
theorem q_text {u : Mem} (ho : OKm u) : (k_text u 3 60).1 = 60 ∧ OKm (k_text u 3 60).2 ∧ (k_text u 3 60).2 23 0 = 60 ∧ (∀ q, q < 60 → (k_text u 3 60).2 24 q = 32) ∧ ∀ c, c ≠ 23 → c ≠ 24 → (k_text u 3 60).2 c = u c := by
  obtain ⟨μ, hr⟩ := id ho
  have ho' := OK_ag (op_text hr 3 60)
  have e : k_text u 3 60 = (60, m_fill u 23 60 32) := by
    unfold k_text x_begin
    rw [if_pos (by decide), if_neg (by decide), if_neg (by decide)]; rfl
  rw [e] at ho' ⊢
  have i60 : imin 60 60 = 60 := by decide
  refine ⟨rfl, ho', ?_, fun q hq => ?_, fun c h1 h2 => m_fill_n _ _ _ _ h1 h2⟩
  · show m_fill u 23 60 32 23 0 = 60
    unfold m_fill
    rw [mF_n _ _ _ (by decide), mU_e, if_pos rfl, if_pos rfl, i60]
  · show m_fill u 23 60 32 24 q = 32
    unfold m_fill
    rw [mF_e, if_pos rfl, i60, if_pos (show q < ix 60 from hq)]
theorem OK_72 {u t : Mem} (ho : OKm u) (e : ∀ q, q < 72 → t q = u q) : OKm t := by
  obtain ⟨μ, hr⟩ := ho
  exact ⟨μ, Rl_aside hr (fun q hq => e q (by omega)) fun _ _ _ => rfl⟩
def K00 : KT := (fun _ => -1, fun _ _ => 0)
section NA
variable {n k i : Nat} {X Z : Nat → Int32} {u : Mem}
theorem q_fault (ho : OKm u) (h : RDto X n k i Z) (hn : n ≤ 60) (hx : ∀ q, n ≤ q → q < 60 → X q = 32) (hk : 1 ≤ k ∧ k ≤ 4) (hi : 1 ≤ i ∧ i ≤ 5) (t : TXT u X 60) : (k_fault u 3).1 = -9 ∧ OKm (k_fault u 3).2 ∧ ∀ q, q < 39 ∨ 44 < q → (k_fault u 3).2 q = u q := by
  obtain ⟨μ, hr⟩ := id ho
  have ho' := OK_ag (op_fault hr 3)
  obtain ⟨τ, A, b⟩ := rd0_end h hn hx hk hi (p := 39) (by decide) t
  have e : k_fault u 3 = (-9, τ) := by
    unfold k_fault
    rw [if_pos (by decide), show 17 + 2 * ix 3 = 23 from rfl, t.1, if_neg (by decide), b]
  rw [e] at ho' ⊢
  exact ⟨rfl, ho', fun q hq => A.1 q (by omega)⟩
theorem q_nave (ho : OKm u) (h : RDto X n k i Z) (hn : n ≤ 60) (hx : ∀ q, n ≤ q → q < 60 → X q = 32) (hk : 1 ≤ k ∧ k ≤ 4) (hi : 1 ≤ i ∧ i ≤ 5) (t : TXT u X 60) (hz : u 72 = Z) (z0 : Z 0 = nI k) (z1 : Z 1 = nI i) :
    (k_nave u 3).1 = nI k ∧ ∃ P, NV P Z ∧ J P Z K00 bgP 0 (fun _ => 0) (k_nave u 3).2 := by
  obtain ⟨μ, hr⟩ := id ho
  have ho' := OK_ag (op_nave hr 3)
  obtain ⟨τ, A, b⟩ := rd0_end h hn hx hk hi (p := 39) (by decide) t
  have t' : TXT τ X 60 := ⟨by rw [A.1 23 (by decide)]; exact t.1, fun q hq => by rw [A.1 24 (by decide)]; exact t.2 q hq⟩
  obtain ⟨ρ, B, b2⟩ := rd0_end h hn hx hk hi (p := 33) (by decide) t'
  have e : k_nave u 3 = (nI k, m_kept0 (mU (m_begin ρ 45) 25 0 0) 3) := by
    unfold k_nave
    rw [if_pos (by decide), show 17 + 2 * ix 3 = 23 from rfl, t.1, if_neg (by decide), b]
    show (if (-9 : Int32) = -9 then ((rd0 33 23 τ).2 33 0, m_kept0 (mU (m_begin (rd0 33 23 τ).2 45) 25 0 0) 3) else _) = _
    rw [if_pos rfl, b2]
    show (ρ 33 0, _) = _
    rw [B.2.1]
  rw [e] at ho' ⊢
  have fr : ∀ q, q ≠ 25 → q ≠ 27 → q ≠ 29 → q ≠ 31 → q ≠ 45 → q ≠ 46 → q ≠ 47 → m_kept0 (mU (m_begin ρ 45) 25 0 0) 3 q = ρ q := fun q q0 q1 q2 q3 q4 q5 q6 => by
    rw [m_kept0_k _ 3 (fun k hk => by omega), mU_n _ _ _ q0, m_begin_n _ _ q4 q5 q6]
  have ev : vP (m_kept0 (mU (m_begin ρ 45) 25 0 0) 3) 33 = vP ρ 33 := vP_eq fun q hq => fr _ (by omega) (by omega) (by omega) (by omega) (by omega) (by omega) (by omega)
  have p0 : vP ρ 33 0 0 = nI k := B.2.1
  have p1 : vP ρ 33 0 1 = nI i := B.2.2.1
  have n0 : nPl (vP ρ 33) = k := by unfold nPl; rw [p0]; exact ix_of (by omega)
  have n1 : nPe (vP ρ 33) = i := by unfold nPe; rw [p1]; exact ix_of (by omega)
  have sb := vS_begin ρ
  have es : ∀ q, 45 ≤ q → q ≤ 47 → m_kept0 (mU (m_begin ρ 45) 25 0 0) 3 q = m_begin ρ 45 q := fun q h1 h2 => by
    rw [m_kept0_k _ 3 (fun k hk => by omega), mU_n _ _ _ (by omega)]
  refine ⟨rfl, vP ρ 33, ⟨⟨by omega, by omega⟩, ⟨by rw [n0]; exact z0, by rw [n1]; exact z1⟩, fun j hj => ?_, fun j hj => ?_⟩, ho', ev, ?_, ⟨?_, by omega⟩, fun j hj => absurd hj (Nat.not_lt_zero _), fun j hj => ⟨?_, fun j' hj' => ?_⟩, ?_⟩
  · rw [n0] at hj; exact B.2.2.2.1 j hj
  · rw [n1] at hj; exact B.2.2.2.2 j hj
  · rw [vS_of (σ := m_begin ρ 45) (τ := (nI k, m_kept0 (mU (m_begin ρ 45) 25 0 0) 3).2) (fun q h1 h2 => es q (by omega) (by omega))]
    exact ⟨sb.1, sb.2.1, sb.2.2.1, fun j hj => sb.2.2.2.1 j (by omega), fun j hj => sb.2.2.2.2 j (by omega)⟩
  · show m_kept0 (mU (m_begin ρ 45) 25 0 0) 3 25 0 = nI 0
    rw [m_kept0_k _ 3 (fun k hk => by omega), mU_e, if_pos rfl, if_pos rfl]; rfl
  · show m_kept0 (mU (m_begin ρ 45) 25 0 0) 3 (27 + 2 * j) 0 = -1
    rcases (show j = 0 ∨ j = 1 ∨ j = 2 by omega) with rfl | rfl | rfl <;> rfl
  · exact absurd hj' (by show ¬ (j' : Int) < (-1 : Int32).toInt; rw [show (-1 : Int32).toInt = -1 by decide]; omega)
  · show m_kept0 (mU (m_begin ρ 45) 25 0 0) 3 72 = Z
    rw [fr 72 (by decide) (by decide) (by decide) (by decide) (by decide) (by decide) (by decide), B.1 72 (by decide), A.1 72 (by decide)]; exact hz
end NA
