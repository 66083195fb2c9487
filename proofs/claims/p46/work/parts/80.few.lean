/-! level 2: fewest -/
def US (s : Nat → Int32) : Nat → Int32
  | 0 => 0
  | j + 1 => US s j ||| (1 <<< (s j &&& 31))
theorem US_c {s t : Nat → Int32} : ∀ n, (∀ j, j < n → s j = t j) → US s n = US t n
  | 0, _ => rfl
  | n + 1, h => by rw [US, US, US_c n (fun j hj => h j (by omega)), h n (by omega)]
def onP (P : PT) (s : Nat → Int32) (i : Nat) : Prop := ∀ j, j < i → ∃ r, r < nPl P ∧ s j = nI r
theorem pop_fin : ∀ u : Fin 16, ∀ r : Fin 4, u.1 ||| 2 ^ r.1 < 16 ∧ (a_pop (nI u.1)).toInt ≤ (a_pop (nI (u.1 ||| 2 ^ r.1))).toInt ∧ 0 ≤ (a_pop (nI u.1)).toInt ∧ (a_pop (nI u.1)).toInt ≤ 4 := by decide +kernel
theorem US_s {P : PT} (h4 : nPl P ≤ 4) {s : Nat → Int32} {i u r : Nat} (hu : u < 16) (e : US s i = nI u) (hr : r < nPl P) (es : s i = nI r) : US s (i + 1) = nI (u ||| 2 ^ r) := by
  have hp : 2 ^ r ≤ 2 ^ 3 := Nat.pow_le_pow_right (by decide) (by omega)
  rw [US, e, es, shl_n (by omega), nI_or _ _ (by omega) (by omega)]
theorem US_n {P : PT} (h4 : nPl P ≤ 4) {s : Nat → Int32} : ∀ i, onP P s i → ∃ u, u < 16 ∧ US s i = nI u
  | 0, _ => ⟨0, by decide, rfl⟩
  | i + 1, h => by
    obtain ⟨u, hu, e⟩ := US_n h4 i (fun j hj => h j (by omega))
    obtain ⟨r, hr, es⟩ := h i (by omega)
    exact ⟨_, (pop_fin ⟨u, hu⟩ ⟨r, by omega⟩).1, US_s h4 hu e hr es⟩
theorem US_mono {P : PT} (h4 : nPl P ≤ 4) {s : Nat → Int32} {i : Nat} : ∀ c, onP P s (i + c) → (a_pop (US s i)).toInt ≤ (a_pop (US s (i + c))).toInt
  | 0, _ => Int.le_refl _
  | c + 1, h => by
    have ih := US_mono (s := s) (i := i) h4 c (fun j hj => h j (by omega))
    obtain ⟨u, hu, e⟩ := US_n h4 (i + c) (fun j hj => h j (by omega))
    obtain ⟨r, hr, es⟩ := h (i + c) (by omega)
    have q := (pop_fin ⟨u, hu⟩ ⟨r, by omega⟩).2.1
    have w := US_s h4 hu e hr es
    rw [← Nat.add_assoc, w]
    rw [e] at ih
    exact Int.le_trans ih q
/-- what a leaf does -/
def lfF (P S : PT) (s : Nat → Int32) (x : Int32 × Int32) : Int32 × Int32 := if (upB P S s = true ∧ b_fail P (Ts S s) = 0) ∧ fw_bet (US s (nPe P)) x.1 x.2 = true then (b_cnt 33 (US s (nPe P)), US s (nPe P)) else x
def stF (P S : PT) (cd : Nat) (x : Int32 × Int32) : Int32 × Int32 := lfF P S (fg (nPl P) (dgt 0) cd (nPe P)) x
theorem fwset_US {τ : Mem} {s : Nat → Int32} : ∀ n, (∀ j, j < n → τ 12 (5 + j) = s j) → fwset τ n = US s n
  | 0, _ => rfl
  | n + 1, h => by rw [fwset, US, fwset_US n (fun j hj => h j (by omega)), h n (by omega)]
theorem fw_rel {P S : PT} (hpb : PB P) {σ : Mem} (hS : SEq P (sM σ 12) S) : ∀ n, (fw P σ n).1 = (run (stF P S) 0 n (1000000, 0)).1 ∧ (fw P σ n).2.1 = (run (stF P S) 0 n (1000000, 0)).2 ∧ (∀ k, k < 5 ∨ 10 ≤ k → (fw P σ n).2.2 12 k = σ 12 k) ∧ (∀ q, q ≠ 12 → (fw P σ n).2.2 q = σ q)
  | 0 => ⟨rfl, rfl, fun _ _ => rfl, fun _ _ => rfl⟩
  | cd + 1 => by
    obtain ⟨a1, a2, a3, a4⟩ := fw_rel hpb hS cd
    have h4 := (PB_pl hpb).2.1
    have h5 := (PB_pe hpb).2.1
    rw [fw, run, Nat.zero_add]
    generalize run (stF P S) 0 cd (1000000, 0) = x at a1 a2 ⊢
    generalize fw P σ cd = b at a1 a2 a3 a4 ⊢
    have sq := lay_seq (B := nPl P) (cd := cd) (g := 0) h4 h5 hS a3
    have t1 : ∀ k, k < 5 ∨ 10 ≤ k → fwT P cd b.2.2 12 k = σ 12 k := fun k hk => (lay_k h5 _ cd 0 b.2.2 hk _).trans (a3 k hk)
    have t2 : ∀ q, q ≠ 12 → fwT P cd b.2.2 q = σ q := fun q hq => (lay_n _ _ _ _ _ hq _).trans (a4 q hq)
    have hset : fwset (fwT P cd b.2.2) (nPe P) = US (fg (nPl P) (dgt 0) cd (nPe P)) (nPe P) := fwset_US _ fun j hj => sq.2.2.2.2 j hj
    have hw : wlS P b.2.2 (nPl P) cd 0 (nPe P) = upB P S (fg (nPl P) (dgt 0) cd (nPe P)) := wlS_e (by
      have : b.2.2 12 4 = σ 12 4 := a3 4 (by omega)
      exact Eq.trans this hS.1)
    have hf : b_fail P (sM (fwT P cd b.2.2) 12) = b_fail P (Ts S (fg (nPl P) (dgt 0) cd (nPe P))) := pe_fail PEq.rfl' sq
    unfold fw_step stF lfF
    rw [hw, hf, hset, a1, a2]
    generalize fwT P cd b.2.2 = T at t1 t2 ⊢
    by_cases c1 : upB P S (fg (nPl P) (dgt 0) cd (nPe P)) = true
    · rw [if_pos c1]
      by_cases c3 : b_fail P (Ts S (fg (nPl P) (dgt 0) cd (nPe P))) = 0
      · rw [if_pos c3]
        by_cases c2 : fw_bet (US (fg (nPl P) (dgt 0) cd (nPe P)) (nPe P)) x.1 x.2 = true
        · rw [if_pos c2, if_pos ⟨⟨c1, c3⟩, c2⟩]; exact ⟨rfl, rfl, t1, t2⟩
        · rw [if_neg c2, if_neg (fun q => c2 q.2)]; exact ⟨rfl, rfl, t1, t2⟩
      · rw [if_neg c3, if_neg (fun q => c3 q.1.2)]; exact ⟨rfl, rfl, t1, t2⟩
    · rw [if_neg c1, if_neg (fun q => c1 q.1.1)]; exact ⟨rfl, rfl, t1, t2⟩
/-- the class's search -/
theorem m_offer_52 (σ : Mem) (used : Int32) (k : Nat) : m_offer σ used 52 k = σ 52 k := by rw [m_offer_n _ _ (by decide)]
theorem s_all_52 (P : PT) : ∀ (d : Nat) (τ : Mem) (i : Nat) (used : Int32) (k : Nat), s_all P d τ i used 52 k = τ 52 k
  | 0, τ, i, used, k => by
    rw [s_all]; split
    · rfl
    · exact m_offer_52 _ _ _
  | d + 1, τ, i, used, k => by
    rw [s_all_s]
    split
    · rfl
    · rw [forM_keep (fun k' τ' => ?_)]
      unfold s_allK
      split
      · rfl
      · rw [mU_e, if_pos rfl, s_all_52 P d, s_all_52 P d, mU_e, if_pos rfl, if_pos rfl, mU_e, if_pos rfl]
        by_cases e : k = k'
        · rw [if_pos e, Int32.sub_add_cancel, e]
        · rw [if_neg e, if_neg e]
def InvF (P S : PT) (τ : Mem) (s : Nat → Int32) (i : Nat) (used : Int32) : Prop := i ≤ nPe P ∧ (∀ k, k < nPl P → τ 52 k = s_spare P S k - LI P s i (nI k)) ∧ used = US s i ∧ okS P S s i ∧ onP P s i ∧ (∀ k, k < nPl P → (LI P s i (nI k)).toInt ≤ (s_spare P S k).toInt)
def RelF (τ : Mem) (x : Int32 × Int32) : Prop := (x.1 = 1000000 ∧ τ 51 1 = -9) ∨ (τ 51 1 = x.2 ∧ ∃ v, v < 16 ∧ x.2 = nI v ∧ x.1 = a_pop (nI v))
theorem leafF_no {P S : PT} {s : Nat → Int32} {x : Int32 × Int32} (h : upB P S s = true → b_fail P (Ts S s) = 0 → ¬ fw_bet (US s (nPe P)) x.1 x.2 = true) : lfF P S s x = x := by
  unfold lfF
  rw [if_neg (fun q => h q.1.1 q.1.2 q.2)]
theorem nI_n9 {v : Nat} (h : v < 100) : ¬ nI v = -9 := fun q => by
  have z := i_eq q
  rw [nI_toInt (by omega), show (-9 : Int32).toInt = -9 by decide] at z
  omega
/-- a cut: more poles than the fewest -/
theorem cut_no {P S : PT} (hpb : PB P) {s s' : Nat → Int32} {τ : Mem} {x : Int32 × Int32} {i : Nat} {used : Int32} (hi : i ≤ nPe P) (hu : used = US s i) (hR : RelF τ x) (hc : s_allCut τ used = true) (h1 : ∀ j, j < i → s' j = s j) (ho : onP P s' (nPe P)) : lfF P S s' x = x := by
  have h4 := (PB_pl hpb).2.1
  refine leafF_no fun _ _ q => ?_
  unfold s_allCut at hc
  simp only [Bool.and_eq_true, Bool.not_eq_true', decide_eq_false_iff_not, decide_eq_true_eq] at hc
  rcases hR with ⟨_, e⟩ | ⟨e, v, v16, ev, ex⟩
  · exact hc.1 e
  · have d := i_lt hc.2
    have m := US_mono h4 (s := s') (i := i) (nPe P - i) (by rw [show i + (nPe P - i) = nPe P by omega]; exact ho)
    rw [show i + (nPe P - i) = nPe P by omega, US_c i h1, ← hu] at m
    rw [e, ev] at d
    obtain ⟨w, w16, ew⟩ := US_n h4 (nPe P) ho
    rw [ew] at m q
    unfold fw_bet at q
    rw [pop_e (show w < 64 by omega), ex] at q
    by_cases c1 : a_pop (nI w) < a_pop (nI v)
    · have := i_lt c1; omega
    · rw [if_neg c1] at q
      by_cases c2 : a_pop (nI w) = a_pop (nI v)
      · rw [c2] at m; omega
      · rw [if_neg c2] at q; cases q
theorem all_tree {P S : PT} (hpb : PB P) (hr : PR P) (hw : WR P S) : ∀ (d i : Nat) (s : Nat → Int32) (τ : Mem) (used : Int32) (x : Int32 × Int32), i + d = nPe P → InvF P S τ s i used → RelF τ x →
    RelF (s_all P d τ i used) (tree (nPl P) (dgt 0) (lfF P S) d i s x)
  | 0, i, s, τ, used, x, hid, hI, hR => by
    obtain ⟨i1, i2, i3, i4, i5, i6⟩ := hI
    have ei : i = nPe P := by omega
    subst ei
    have h4 := (PB_pl hpb).2.1
    rw [s_all, tree]
    by_cases cc : s_allCut τ used = true
    · rw [if_pos cc, cut_no hpb (Nat.le_refl _) i3 hR cc (fun _ _ => rfl) i5]; exact hR
    · rw [if_neg cc]
      have hu : upB P S s = true := (upB_iff P S s).mpr i4
      have hf : b_fail P (Ts S s) = 0 := (fail_iff hpb s).mpr fun k hk up => by
        have e := i6 k hk
        unfold s_spare at e
        rw [if_pos up] at e
        exact i_leI e
      obtain ⟨w, w16, ew⟩ := US_n h4 (nPe P) i5
      have eu : used = nI w := i3.trans ew
      have hk : 0 ≤ (a_pop (nI w)).toInt ∧ (a_pop (nI w)).toInt ≤ 4 := (pop_fin ⟨w, w16⟩ ⟨0, by decide⟩).2.2
      have new : RelF (mU τ 51 1 (nI w)) (a_pop (nI w), nI w) := Or.inr ⟨by rw [mU_e, if_pos rfl, if_pos rfl], w, w16, rfl, rfl⟩
      unfold m_offer lfF
      rw [ew, eu, pop_e (show w < 64 by omega)]
      rcases hR with ⟨e0, e⟩ | ⟨e, v, v16, ev, ex⟩
      · have hb : fw_bet (nI w) x.1 x.2 = true := by
          unfold fw_bet
          rw [pop_e (show w < 64 by omega), e0, if_pos (i_ltI (by rw [show (1000000 : Int32).toInt = 1000000 by decide]; have := hk.2; show (a_pop (nI w)).toInt < _; omega))]
        rw [if_pos e, if_pos ⟨⟨hu, hf⟩, hb⟩]; exact new
      · have hv : 0 ≤ (a_pop (nI v)).toInt ∧ (a_pop (nI v)).toInt ≤ 4 := (pop_fin ⟨v, v16⟩ ⟨0, by decide⟩).2.2
        have hs : (a_pop (nI w) - a_pop (nI v)).toInt = (a_pop (nI w)).toInt - (a_pop (nI v)).toInt := sub_i ⟨hk.1, Int.le_trans hk.2 (by decide)⟩ ⟨hv.1, Int.le_trans hv.2 (by decide)⟩
        have k0 : (0 : Int32).toInt = 0 := by decide
        rw [e, ev, if_neg (nI_n9 (by omega))]
        unfold fw_bet
        rw [pop_e (show w < 64 by omega), ex]
        have old : RelF τ (x.1, x.2) := Or.inr ⟨e, v, v16, ev, ex⟩
        by_cases c1 : a_pop (nI w) < a_pop (nI v)
        · have d1 := i_lt c1
          rw [if_pos (i_ltI (by rw [k0, hs]; omega)), if_pos c1, if_pos ⟨⟨hu, hf⟩, rfl⟩]; exact new
        · have d1 := i_nlt c1
          rw [if_neg (fun q => by have := i_lt q; rw [k0, hs] at this; omega), if_neg c1]
          by_cases c2 : a_pop (nI w) = a_pop (nI v)
          · have d2 := i_eq c2
            rw [if_pos (i_eqI (by rw [k0, hs]; omega)), if_pos c2]
            by_cases c3 : nI w < nI v
            · rw [if_pos c3, if_pos c3, if_pos ⟨⟨hu, hf⟩, rfl⟩]; exact new
            · rw [if_neg c3, if_neg c3, if_neg (fun q => by cases q.2)]; exact old
          · have d2 := i_ne c2
            rw [if_neg (fun q => by have := i_eq q; rw [k0, hs] at this; omega), if_neg c2, if_neg (fun q => by cases q.2)]; exact old
  | d + 1, i, s, τ, used, x, hid, hI, hR => by
    obtain ⟨i1, i2, i3, i4, i5, i6⟩ := hI
    have h4 := (PB_pl hpb).2.1
    have h5 := (PB_pe hpb).2.1
    have hi : i < nPe P := by omega
    rw [s_all_s]
    by_cases cc : s_allCut τ used = true
    · rw [if_pos cc, tree_fix (d + 1) i s fun s' h1 h2 => cut_no hpb i1 i3 hR cc h1 fun j hj => ?_]
      · exact hR
      · by_cases e : j < i
        · rw [h1 j e]; exact i5 j e
        · obtain ⟨r, hr', er⟩ := h2 j (by omega) (by omega)
          exact ⟨r, hr', by rw [er, dgt_0 (by omega)]⟩
    · rw [if_neg cc, tree]
      have loop : ∀ n, n ≤ nPl P → RelF (forM (s_allK P d i used) n τ) (forR (fun k y => tree (nPl P) (dgt 0) (lfF P S) d (i + 1) (sU s i (dgt 0 k)) y) n x) ∧ (∀ k, forM (s_allK P d i used) n τ 52 k = τ 52 k) := by
        intro n
        induction n with
        | zero => intro _; exact ⟨hR, fun _ => rfl⟩
        | succ n ih =>
          intro hn
          obtain ⟨r1, r2⟩ := ih (by omega)
          rw [forM, forR]
          generalize forM (s_allK P d i used) n τ = ρ at r1 r2 ⊢
          generalize forR (fun k y => tree (nPl P) (dgt 0) (lfF P S) d (i + 1) (sU s i (dgt 0 k)) y) n x = y at r1 ⊢
          have hk : n < nPl P := by omega
          have ql := loadBy_i hr (one_nI hpb hi) (Or.inr (pole_nI hpb hk))
          have qL := LI_i hpb hr s hk i1
          have qs := spare_i hpb hr hw hk
          have e52 : (ρ 52 n).toInt = (s_spare P S n).toInt - (LI P s i (nI n)).toInt := by rw [r2, i2 n hk]; exact sub_i ⟨by omega, by omega⟩ ⟨by omega, by omega⟩
          unfold s_allK
          by_cases cl : ρ 52 n < a_loadBy P (nI i) (nI n)
          · rw [if_pos cl]
            have dl := i_lt cl
            refine ⟨?_, r2⟩
            rw [tree_fix d (i + 1) _ fun s' h1 h2 => leafF_no fun hu hf => ?_]
            · exact r1
            · exfalso
              have es : s' i = nI n := by rw [h1 i (by omega), sU_e, dgt_0 (by omega)]
              have up : a_isUp P S (nI n) = true := by
                rcases okS_of hu i hi with q | q
                · rw [es] at q; exact absurd q (nI_n9 (by omega))
                · rw [es] at q; exact q
              have hl := i_le ((fail_iff hpb s').mp hf n hk up)
              have hm := LI_mono hpb hr s' hk (show i + 1 ≤ nPe P by omega)
              have ec : LI P s' (i + 1) (nI n) = LI P s i (nI n) + a_loadBy P (nI i) (nI n) := by
                rw [LI_c (t := sU s i (nI n)) (fun j hj => by rw [h1 j hj, dgt_0 (by omega)]), LI_s, if_pos rfl]
              rw [ec, add_i ⟨by omega, by omega⟩ ⟨by omega, by omega⟩] at hm
              have eb : s_spare P S n = a_bearsNow P S (nI n) := by unfold s_spare; rw [if_pos up]
              rw [eb] at e52
              omega
          · rw [if_neg cl]
            have dl := i_nlt cl
            have up := spare_up (P := P) (S := S) (k := n) (by omega)
            have en : (LI P s i (nI n) + a_loadBy P (nI i) (nI n)).toInt = (LI P s i (nI n)).toInt + (a_loadBy P (nI i) (nI n)).toInt := add_i ⟨by omega, by omega⟩ ⟨by omega, by omega⟩
            have ih2 : RelF (s_all P d (mU ρ 52 n (ρ 52 n - a_loadBy P (nI i) (nI n))) (i + 1) (used ||| (1 <<< (nI n &&& 31)))) (tree (nPl P) (dgt 0) (lfF P S) d (i + 1) (sU s i (dgt 0 n)) y) := by
              rw [dgt_0 (by omega)]
              refine all_tree hpb hr hw d (i + 1) _ _ _ _ (by omega) ⟨by omega, fun k hk' => ?_, ?_, fun j hj => ?_, fun j hj => ?_, fun k hk' => ?_⟩ ?_
              · rw [mU_e, if_pos rfl, LI_s]
                by_cases e : k = n
                · rw [if_pos e, e, if_pos rfl, r2, i2 n hk]
                  apply i_eqI
                  rw [sub_i (a := s_spare P S n) (b := LI P s i (nI n) + a_loadBy P (nI i) (nI n)) ⟨by omega, by omega⟩ ⟨by omega, by omega⟩, en]
                  rw [r2, i2 n hk] at e52 dl
                  rw [sub_i (a := s_spare P S n - LI P s i (nI n)) ⟨by omega, by omega⟩ ⟨by omega, by omega⟩]
                  omega
                · have ne : ¬ nI n = nI k := fun q => by
                    have z := i_eq q
                    rw [nI_toInt (by omega), nI_toInt (by omega)] at z
                    omega
                  rw [if_neg e, if_neg ne, Int32.add_zero, r2]; exact i2 k hk'
              · rw [US, sU_e, US_c (t := s) i (fun j hj => sU_n _ _ (by omega)), ← i3]
              · by_cases e : j = i
                · rw [e, sU_e]; exact Or.inr up.1
                · rw [sU_n _ _ e]; exact i4 j (by omega)
              · by_cases e : j = i
                · exact ⟨n, hk, by rw [e, sU_e]⟩
                · rw [sU_n _ _ e]; exact i5 j (by omega)
              · rw [LI_s]
                by_cases e : k = n
                · rw [e, if_pos rfl, en]; omega
                · have ne : ¬ nI n = nI k := fun q => by
                    have z := i_eq q
                    rw [nI_toInt (by omega), nI_toInt (by omega)] at z
                    omega
                  rw [if_neg ne, Int32.add_zero]; exact i6 k hk'
              · unfold RelF
                rw [mU_n _ _ _ (show (51 : Nat) ≠ 52 by decide)]; exact r1
            have z52 : ∀ k, s_all P d (mU ρ 52 n (ρ 52 n - a_loadBy P (nI i) (nI n))) (i + 1) (used ||| (1 <<< (nI n &&& 31))) 52 k = if k = n then ρ 52 n - a_loadBy P (nI i) (nI n) else τ 52 k := fun k => by
              rw [s_all_52, mU_e, if_pos rfl, r2 k]
            generalize s_all P d (mU ρ 52 n (ρ 52 n - a_loadBy P (nI i) (nI n))) (i + 1) (used ||| (1 <<< (nI n &&& 31))) = ζ at ih2 z52 ⊢
            refine ⟨?_, fun k => ?_⟩
            · unfold RelF
              rw [mU_n _ _ _ (show (51 : Nat) ≠ 52 by decide)]; exact ih2
            · rw [mU_e, if_pos rfl]
              by_cases e : k = n
              · rw [if_pos e, z52 n, if_pos rfl, Int32.sub_add_cancel, e]; exact r2 n
              · rw [if_neg e, z52 k, if_neg e]
      exact (loop (nPl P) (Nat.le_refl _)).1
theorem lfF_c {P Q S T : PT} (h : PEq P Q) (hs : SEq P S T) : lfF P S = lfF Q T := by
  funext s x
  unfold lfF
  rw [upB_c h hs, pe_fail h (Ts_c hs s), h.pe]
theorem op_fewest {σ μ : Mem} (h : Rl σ μ) : Ag (k_fewest σ) (n_few μ) := by
  have hp := h.1.1
  have hs := h.2.2.2.1.2.2.1
  have hpb := h.1.2.1
  have hr := h.1.2.2.1
  obtain ⟨b4, b5⟩ := RlP_45 h.1
  unfold k_fewest n_few
  rw [pl_0 h]
  by_cases c : μ 0 4 = 0
  · rw [if_pos c, if_pos c]; exact Ag.same h _
  · rw [if_neg c, if_neg c]
    have hpbX : PB (vP σ 33) := PB_of hp hpb
    have hrX : PR (vP σ 33) := PR_of hp hr
    have hwX := WR_now h
    have hH : InvH (vP σ 33) (vS σ 45) (m_sBegin σ) (fun _ => 0) 0 0 := by
      rcases begin_H σ with q | q | q | q
      · exact q
      · exact absurd hwX q
      · exact absurd hpbX q
      · exact absurd hrX q
    have hI : InvF (vP σ 33) (vS σ 45) (m_sBegin σ) (fun _ => 0) 0 0 := ⟨hH.1, hH.2.2.1, rfl, hH.2.2.2.2.2.1, fun j hj => absurd hj (Nat.not_lt_zero _), hH.2.2.2.2.2.2⟩
    have hX := all_tree hpbX hrX hwX (nPe (vP σ 33)) 0 (fun _ => 0) (m_sBegin σ) 0 (1000000, 0) (Nat.zero_add _) hI (Or.inl ⟨rfl, by unfold m_sBegin; rw [mU_e, if_pos rfl, if_pos rfl]⟩)
    rw [lfF_c hp hs, hp.pl, hp.pe] at hX
    have hρ : ∀ q, q < 51 → s_all (vP σ 33) (nPe (pM μ)) (m_sBegin σ) 0 0 q = σ q := fun q hq => by rw [s_all_n _ (by omega), m_sBegin_n _ (by omega) (by omega) (by omega)]
    rw [hp.pe]
    generalize s_all (vP σ 33) (nPe (pM μ)) (m_sBegin σ) 0 0 = ρ at hX hρ ⊢
    have hM := fw_rel hpb (asideM_rel (pM μ) (PB_pl hpb).2.1 (PB_pe hpb).2.1 μ).sy (nPl (pM μ) ^ nPe (pM μ))
    have hrun : run (stF (pM μ) (sM μ 11)) 0 (nPl (pM μ) ^ nPe (pM μ)) (1000000, 0) = tree (nPl (pM μ)) (dgt 0) (lfF (pM μ) (sM μ 11)) (nPe (pM μ)) 0 (fun _ => 0) (1000000, 0) :=
      run_all (B := nPl (pM μ)) (dg := dgt 0) (leaf := lfF (pM μ) (sM μ 11)) (st := stF (pM μ) (sM μ 11)) (n := nPe (pM μ)) (fun cd x => rfl) _
    rw [← hrun] at hX
    generalize run (stF (pM μ) (sM μ 11)) 0 (nPl (pM μ) ^ nPe (pM μ)) (1000000, 0) = x at hX hM
    obtain ⟨m1, m2, m3, m4⟩ := hM
    generalize fw (pM μ) (w_aside μ) (nPl (pM μ) ^ nPe (pM μ)) = b at m1 m2 m3 m4 ⊢
    have hR : Rl ρ b.2.2 := Rl_aside h (fun q hq => hρ q (by omega)) (fun q h12 _ => by rw [m4 q h12, w_aside_n _ h12])
    rw [m1, m2]
    rcases hX with ⟨e0, e⟩ | ⟨e, v, v16, ev, ex⟩
    · rw [if_pos e, if_pos e0]; exact Ag.same hR _
    · have hv : 0 ≤ (a_pop (nI v)).toInt ∧ (a_pop (nI v)).toInt ≤ 4 := (pop_fin ⟨v, v16⟩ ⟨0, by decide⟩).2.2
      have n1 : ¬ x.1 = 1000000 := fun q => by
        have z := i_eq q
        rw [ex, show (1000000 : Int32).toInt = 1000000 by decide] at z
        have := hv.2
        have z2 : (a_pop (nI v)).toInt ≤ 4 := hv.2
        omega
      rw [e, if_neg (by rw [ev]; exact nI_n9 (by omega)), if_neg n1, ev, ex]
      exact Ag.same (Rl_tell hR rfl) _
