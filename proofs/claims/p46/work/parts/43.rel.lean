/-! level 2: plans and scaffolds alike where they are told -/
theorem a_sum_c {f g : Nat → Int32} : ∀ n, (∀ i, i < n → f i = g i) → a_sum f n = a_sum g n
  | 0, _ => rfl
  | n + 1, h => by rw [a_sum, a_sum, a_sum_c n (fun i hi => h i (by omega)), h n (by omega)]
theorem a_bits_c {f g : Nat → Bool} : ∀ n, (∀ i, i < n → f i = g i) → a_bits f n = a_bits g n
  | 0, _ => rfl
  | n + 1, h => by rw [a_bits, a_bits, a_bits_c n (fun i hi => h i (by omega)), h n (by omega)]
def PEq (P Q : PT) : Prop := P 0 0 = Q 0 0 ∧ P 0 1 = Q 0 1 ∧ (∀ k, k < nPl P → P 1 k = Q 1 k ∧ P 2 k = Q 2 k ∧ P 3 k = Q 3 k) ∧ (∀ i, i < nPe P → P 4 i = Q 4 i ∧ P 5 i = Q 5 i)
def SEq (P S T : PT) : Prop := S 0 0 = T 0 0 ∧ S 0 1 = T 0 1 ∧ S 0 2 = T 0 2 ∧ (∀ k, k < nPl P → S 1 k = T 1 k) ∧ (∀ i, i < nPe P → S 2 i = T 2 i)
theorem PEq.pl {P Q : PT} (h : PEq P Q) : nPl P = nPl Q := by unfold nPl; rw [h.1]
theorem PEq.pe {P Q : PT} (h : PEq P Q) : nPe P = nPe Q := by unfold nPe; rw [h.2.1]
theorem isPole_ix {P : PT} {k : Int32} (h : a_isPole P k = true) : ix k < nPl P := by
  have h1 := isPole_t h
  have h2 := ix_toInt h1.1
  unfold nPl
  have h3 := ix_toInt (show 0 ≤ (P 0 0).toInt by omega)
  omega
theorem isOne_ix {P : PT} {i : Int32} (h : a_isOne P i = true) : ix i < nPe P := by
  have h1 := isOne_t h
  have h2 := ix_toInt h1.1
  unfold nPe
  have h3 := ix_toInt (show 0 ≤ (P 0 1).toInt by omega)
  omega
theorem pe_isPole {P Q : PT} (h : PEq P Q) (k : Int32) : a_isPole P k = a_isPole Q k := by unfold a_isPole; rw [h.1]
theorem pe_isOne {P Q : PT} (h : PEq P Q) (k : Int32) : a_isOne P k = a_isOne Q k := by unfold a_isOne; rw [h.2.1]
theorem pe_high {P Q : PT} (h : PEq P Q) (i k : Int32) : a_high P i k = a_high Q i k := by
  unfold a_high
  rw [← h.1, ← h.2.1]
  by_cases c : i < 0 ∨ P 0 1 ≤ i ∨ k < 0 ∨ P 0 0 ≤ k
  · rw [if_pos c, if_pos c]
  · rw [if_neg c, if_neg c]
    have k0 : (0 : Int32).toInt = 0 := by decide
    have c1 : ¬ i < 0 := fun q => c (Or.inl q)
    have c2 : ¬ P 0 1 ≤ i := fun q => c (Or.inr (Or.inl q))
    have c3 : ¬ k < 0 := fun q => c (Or.inr (Or.inr (Or.inl q)))
    have c4 : ¬ P 0 0 ≤ k := fun q => c (Or.inr (Or.inr (Or.inr q)))
    have d1 := i_nlt c1
    have d2 := i_nle c2
    have d3 := i_nlt c3
    have d4 := i_nle c4
    rw [k0] at d1 d3
    have e1 := ix_toInt d1
    have e3 := ix_toInt d3
    have e2 := ix_toInt (show 0 ≤ (P 0 1).toInt by omega)
    have e4 := ix_toInt (show 0 ≤ (P 0 0).toInt by omega)
    have hi := h.2.2.2 (ix i) (by unfold nPe; omega)
    have hk := h.2.2.1 (ix k) (by unfold nPl; omega)
    rw [hi.2, hk.2.1]
theorem pe_loadBy {P Q : PT} (h : PEq P Q) (i k : Int32) : a_loadBy P i k = a_loadBy Q i k := by
  unfold a_loadBy
  rw [← pe_isOne h, ← pe_high h]
  by_cases c : a_isOne P i = true
  · rw [if_pos c, if_pos c, (h.2.2.2 (ix i) (isOne_ix c)).1]
  · rw [if_neg c, if_neg c]
theorem pe_load {P Q S T : PT} (h : PEq P Q) (hs : SEq P S T) (k : Int32) : a_load P S k = a_load Q T k := by
  unfold a_load
  rw [← h.pe]
  exact a_sum_c _ (fun i hi => by rw [hs.2.2.2.2 i hi, pe_loadBy h])
theorem pe_bears {P Q : PT} (h : PEq P Q) (k w : Int32) : a_bears P k w = a_bears Q k w := by
  unfold a_bears
  rw [← pe_isPole h]
  by_cases c : a_isPole P k = true
  · have q := h.2.2.1 (ix k) (isPole_ix c)
    rw [if_pos c, if_pos c, q.1, q.2.1, q.2.2]
  · rw [if_neg c, if_neg c]
theorem pe_bearsNow {P Q S T : PT} (h : PEq P Q) (hs : SEq P S T) (k : Int32) : a_bearsNow P S k = a_bearsNow Q T k := by
  unfold a_bearsNow
  rw [← pe_isPole h]
  by_cases c : a_isPole P k = true
  · have q := h.2.2.1 (ix k) (isPole_ix c)
    rw [if_pos c, if_pos c, q.1, q.2.1, q.2.2, hs.2.2.2.1 _ (isPole_ix c)]
  · rw [if_neg c, if_neg c]
theorem pe_bearsAs {P Q S T : PT} (h : PEq P Q) (hs : SEq P S T) (k kind : Int32) : a_bearsAs P S k kind = a_bearsAs Q T k kind := by
  unfold a_bearsAs
  rw [← pe_isPole h]
  by_cases c : a_isPole P k = true
  · have q := h.2.2.1 (ix k) (isPole_ix c)
    rw [if_pos c, if_pos c, q.2.1, q.2.2, hs.2.2.2.1 _ (isPole_ix c)]
  · rw [if_neg c, if_neg c]
theorem pe_isUp {P Q S T : PT} (h : PEq P Q) (hs : SEq P S T) (k : Int32) : a_isUp P S k = a_isUp Q T k := by
  unfold a_isUp; rw [← pe_isPole h, hs.1]
theorem pe_isSeated {P Q S T : PT} (h : PEq P Q) (hs : SEq P S T) (i : Int32) : a_isSeated P S i = a_isSeated Q T i := by
  unfold a_isSeated
  rw [← pe_isOne h]
  cases c : a_isOne P i with
  | true => rw [hs.2.2.2.2 _ (isOne_ix c)]
  | false => rfl
theorem pe_stands {P Q S T : PT} (h : PEq P Q) (hs : SEq P S T) (k : Int32) : a_stands P S k = a_stands Q T k := by
  unfold a_stands; rw [pe_isUp h hs, pe_load h hs, pe_bearsNow h hs]
theorem pe_standing {P Q S T : PT} (h : PEq P Q) (hs : SEq P S T) : a_standing P S = a_standing Q T := by
  unfold a_standing; rw [← h.pl]; exact a_bits_c _ (fun k _ => pe_stands h hs _)
theorem pe_sitters {P Q S T : PT} (h : PEq P Q) (hs : SEq P S T) (k : Int32) : a_sitters P S k = a_sitters Q T k := by
  unfold a_sitters; rw [← h.pe]; exact a_bits_c _ (fun i hi => by rw [hs.2.2.2.2 i hi])
theorem pe_seatedPeople {P Q S T : PT} (h : PEq P Q) (hs : SEq P S T) : a_seatedPeople P S = a_seatedPeople Q T := by
  unfold a_seatedPeople; rw [← h.pe]; exact a_bits_c _ (fun i _ => pe_isSeated h hs _)
theorem pe_highAll {P Q S T : PT} (h : PEq P Q) (hs : SEq P S T) : a_highAll P S = a_highAll Q T := by
  unfold a_highAll; rw [← h.pe]; exact a_sum_c _ (fun i hi => by rw [hs.2.2.2.2 i hi, pe_high h])
theorem pe_highStanding {P Q S T : PT} (h : PEq P Q) (hs : SEq P S T) : a_highStanding P S = a_highStanding Q T := by
  unfold a_highStanding; rw [← h.pe]; exact a_sum_c _ (fun i hi => by rw [hs.2.2.2.2 i hi, pe_high h, pe_stands h hs])
theorem pe_manyHold {P Q S T : PT} (h : PEq P Q) (hs : SEq P S T) (k kinds load : Int32) : a_manyHold P S k kinds load = a_manyHold Q T k kinds load := by
  unfold a_manyHold; exact a_sum_c _ (fun i _ => by rw [pe_bearsAs h hs])
theorem pe_ofPole {P Q S T : PT} (h : PEq P Q) (hs : SEq P S T) (k what : Int32) : a_ofPole P S k what = a_ofPole Q T k what := by
  unfold a_ofPole
  rw [← pe_isPole h]
  by_cases c : a_isPole P k = true
  · have q := h.2.2.1 (ix k) (isPole_ix c)
    rw [if_pos c, if_pos c, q.1, q.2.1, q.2.2, hs.2.2.2.1 _ (isPole_ix c), pe_bearsNow h hs, pe_load h hs, pe_sitters h hs, hs.1]
  · rw [if_neg c, if_neg c]
theorem pe_ofOne {P Q S T : PT} (h : PEq P Q) (hs : SEq P S T) (i what : Int32) : a_ofOne P S i what = a_ofOne Q T i what := by
  unfold a_ofOne
  rw [← pe_isOne h]
  by_cases c : a_isOne P i = true
  · have q := h.2.2.2 (ix i) (isOne_ix c)
    rw [if_pos c, if_pos c, q.1, q.2, hs.2.2.2.2 _ (isOne_ix c), pe_high h]
  · rw [if_neg c, if_neg c]
theorem pe_gives {P Q S T : PT} (h : PEq P Q) (hs : SEq P S T) (k : Nat) : y_gives P S k = y_gives Q T k := by
  unfold y_gives; rw [pe_isUp h hs, pe_load h hs, pe_bearsNow h hs]
theorem pe_gave {P Q S T : PT} (h : PEq P Q) (hs : SEq P S T) : y_gave P S = y_gave Q T := by
  unfold y_gave; rw [← h.pl]; exact a_bits_c _ (fun k _ => pe_gives h hs k)
theorem pe_manyLaced {P Q : PT} (h : PEq P Q) : a_manyLaced P = a_manyLaced Q := by
  unfold a_manyLaced; rw [← h.pl]; exact a_sum_c _ (fun k hk => by rw [(h.2.2.1 k hk).1])
theorem b_laced_e (P : PT) : b_laced P = a_manyLaced P := by
  unfold b_laced a_manyLaced
  exact a_sum_c _ (fun k _ => by unfold b2i; rfl)
