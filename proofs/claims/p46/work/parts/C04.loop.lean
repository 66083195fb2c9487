
section SC04
variable {p : Program} {l : Launch} {e : Env} {s : State} {m : MethodId} {args : Array Value} {below : List Frame} {meth : Method} {c : Code} {H : Heap} {locs : List Loc} {cells slots : Nat} {Q : State → Prop} {ls : Array Slot} {G : GT}
set_option maxHeartbeats 4000000 in
set_option maxRecDepth 100000 in
theorem loop_762 (ha : Amb p c cL_law 31 s args RL m meth (some .boolean) G 74) (hcs : cells ≤ room_1.cells ∧ slots ≤ room_1.slots) (P : PT) (Z : Nat → Int32) (K : KT) (S : PT) (T : PT) (D : Nat) (D1 : Nat) (C1 : Nat → Int32) (dn : Nat) (x8 : Int32) (i : Nat) (k : Nat) (hw : Nat) (T6 : Nat) (c7 : Nat) (ee : Nat) (hN : NV P Z) (he : ee < nPl P) (h5 : nPe P ≤ 5)
    (kout : ∀ (v : Mem) (x24 x29 : Int32) (H : Heap) (locs : List Loc) (ls : Array Slot), J P Z K T D1 C1 v → x24 = hiTo P T ee + HK P (T 2) (nPe P) (nI ee) → x29 = LI P (T 2) (nPe P) (nI ee) → va_P G.2.1 vwCl (wl G 74 (cX G v)) H → va_S (xA G 74 s.heap.size) s.heap H locs → lv_has ls 31 [(0, .ref (G.1 1000)), (1, .ref (G.1 0)), (2, .ref (G.1 72)), (3, .ref (G.1 73)), (4, .int (nI (nPl P))), (5, .int (nI (nPe P))), (6, .int (nI T6)), (7, .int (nI c7)), (8, .int x8), (9, .int (nI D)), (10, .int (S 0 1)), (11, .int (S 0 0)), (12, .int (a_seatedPeople P S)), (13, .int (a_highAll P S)), (14, .int (S 0 2)), (15, .int (nI i)), (16, .int (nI k)), (17, .int (S 2 i)), (18, .int (a_load P S (nI k))), (19, .int (S 1 k)), (23, .int (nI dn)), (24, .int x24), (25, .int (peTo P T ee)), (26, .int (nI ee)), (27, .int (T 1 ee)), (28, .int (a_sitters P T (nI ee))), (29, .int x29), (30, .int (nI (nPe P)))] → W p l e room_1 s m args below meth c H locs cells slots Q (F0 m 848 ls [])) :
    ∀ (d f : Nat) (u : Mem) (x24 x29 : Int32) (H : Heap) (locs : List Loc) (ls : Array Slot), nPe P - f < d → f ≤ nPe P → J P Z K T D1 C1 u → x24 = hiTo P T ee + HK P (T 2) f (nI ee) → x29 = LI P (T 2) f (nI ee) → va_P G.2.1 vwCl (wl G 74 (cX G u)) H → va_S (xA G 74 s.heap.size) s.heap H locs → lv_has ls 31 [(0, .ref (G.1 1000)), (1, .ref (G.1 0)), (2, .ref (G.1 72)), (3, .ref (G.1 73)), (4, .int (nI (nPl P))), (5, .int (nI (nPe P))), (6, .int (nI T6)), (7, .int (nI c7)), (8, .int x8), (9, .int (nI D)), (10, .int (S 0 1)), (11, .int (S 0 0)), (12, .int (a_seatedPeople P S)), (13, .int (a_highAll P S)), (14, .int (S 0 2)), (15, .int (nI i)), (16, .int (nI k)), (17, .int (S 2 i)), (18, .int (a_load P S (nI k))), (19, .int (S 1 k)), (23, .int (nI dn)), (24, .int x24), (25, .int (peTo P T ee)), (26, .int (nI ee)), (27, .int (T 1 ee)), (28, .int (a_sitters P T (nI ee))), (29, .int x29), (30, .int (nI f))] → W p l e room_1 s m args below meth c H locs cells slots Q (F0 m 762 ls []) := by
  intro d
  induction d with
  | zero => intro f u x24 x29 H locs ls hd; exact absurd hd (Nat.not_lt_zero _)
  | succ d ih =>
    intro f u x24 x29 H locs ls hd hf hJ e24 e29 hP hS hl
    refine seg_762 ha hcs P Z K S T D D1 C1 dn x8 i k hw T6 c7 ee f x24 x29 hN hJ he hf e24 e29 hP hS hl ?_ ?_
    · intro v H locs ls hv hfe hP hS hl
      have hv := hv.symm
      subst hv
      subst hfe
      exact kout _ x24 x29 _ _ _ hJ e24 e29 hP hS hl
    · intro v y24 y29 H locs ls hJ e24 e29 hlt hP hS hl
      exact ih (f + 1) v y24 y29 H locs ls (by omega) (by omega) hJ e24 e29 hP hS hl

set_option maxHeartbeats 4000000 in
set_option maxRecDepth 100000 in
theorem loop_722 (ha : Amb p c cL_law 31 s args RL m meth (some .boolean) G 74) (hcs : cells ≤ room_1.cells ∧ slots ≤ room_1.slots) (P : PT) (Z : Nat → Int32) (K : KT) (S : PT) (T : PT) (D : Nat) (D1 : Nat) (C1 : Nat → Int32) (dn : Nat) (x8 : Int32) (i : Nat) (k : Nat) (hw : Nat) (T6 : Nat) (c7 : Nat) (hN : NV P Z) (h4 : nPl P ≤ 4) (h5 : nPe P ≤ 5)
    (kout : ∀ (v : Mem) (H : Heap) (locs : List Loc) (ls : Array Slot), J P Z K T D1 C1 v → va_P G.2.1 vwCl (wl G 74 (cX G v)) H → va_S (xA G 74 s.heap.size) s.heap H locs → lv_has ls 31 [(0, .ref (G.1 1000)), (1, .ref (G.1 0)), (2, .ref (G.1 72)), (3, .ref (G.1 73)), (4, .int (nI (nPl P))), (5, .int (nI (nPe P))), (6, .int (nI T6)), (7, .int (nI c7)), (8, .int x8), (9, .int (nI D)), (10, .int (S 0 1)), (11, .int (S 0 0)), (12, .int (a_seatedPeople P S)), (13, .int (a_highAll P S)), (14, .int (S 0 2)), (15, .int (nI i)), (16, .int (nI k)), (17, .int (S 2 i)), (18, .int (a_load P S (nI k))), (19, .int (S 1 k)), (23, .int (nI dn)), (24, .int (hiTo P T (nPl P))), (25, .int (peTo P T (nPl P))), (26, .int (nI (nPl P)))] → W p l e room_1 s m args below meth c H locs cells slots Q (F0 m 976 ls [])) :
    ∀ (d ee : Nat) (u : Mem) (H : Heap) (locs : List Loc) (ls : Array Slot), nPl P - ee < d → ee ≤ nPl P → J P Z K T D1 C1 u → va_P G.2.1 vwCl (wl G 74 (cX G u)) H → va_S (xA G 74 s.heap.size) s.heap H locs → lv_has ls 31 [(0, .ref (G.1 1000)), (1, .ref (G.1 0)), (2, .ref (G.1 72)), (3, .ref (G.1 73)), (4, .int (nI (nPl P))), (5, .int (nI (nPe P))), (6, .int (nI T6)), (7, .int (nI c7)), (8, .int x8), (9, .int (nI D)), (10, .int (S 0 1)), (11, .int (S 0 0)), (12, .int (a_seatedPeople P S)), (13, .int (a_highAll P S)), (14, .int (S 0 2)), (15, .int (nI i)), (16, .int (nI k)), (17, .int (S 2 i)), (18, .int (a_load P S (nI k))), (19, .int (S 1 k)), (23, .int (nI dn)), (24, .int (hiTo P T ee)), (25, .int (peTo P T ee)), (26, .int (nI ee))] → W p l e room_1 s m args below meth c H locs cells slots Q (F0 m 722 ls []) := by
  intro d
  induction d with
  | zero => intro ee u H locs ls hd; exact absurd hd (Nat.not_lt_zero _)
  | succ d ih =>
    intro ee u H locs ls hd he0 hJ hP hS hl
    refine seg_722 ha hcs P Z K S T D D1 C1 dn x8 i k hw T6 c7 ee hN hJ he0 hP hS hl ?_ ?_
    · intro v H locs ls hv hee hP hS hl
      have hv := hv.symm
      subst hv
      subst hee
      exact kout _ _ _ _ hJ hP hS hl
    · intro v x24 x29 H locs ls hJ e24 e29 he hP hS hl
      refine loop_762 ha hcs P Z K S T D D1 C1 dn x8 i k hw T6 c7 ee hN he h5 ?_ (nPe P + 1) 0 v x24 x29 H locs ls (by omega) (Nat.zero_le _) hJ e24 e29 hP hS hl
      intro v x24 x29 H locs ls hJ e24 e29 hP hS hl
      subst e24
      subst e29
      refine seg_848 ha hcs P Z K S T D D1 C1 dn x8 i k hw T6 c7 ee hN hJ he hP hS (lv_sub hl [0, 1, 2, 3, 4, 5, 6, 7, 8, 9, 10, 11, 12, 13, 14, 15, 16, 17, 18, 19, 20, 21, 22, 23, 24, 25, 26] rfl) ?_
      intro v H locs ls hJ hP hS hl
      exact ih (ee + 1) v H locs ls (by omega) (by omega) hJ hP hS hl

set_option maxHeartbeats 4000000 in
set_option maxRecDepth 100000 in
theorem law_body (ha : Amb p c cL_law 31 s args RL m meth (some .boolean) G 74) (hcs : cells ≤ room_1.cells ∧ slots ≤ room_1.slots) (P : PT) (Z : Nat → Int32) (K : KT) (S : PT) (D : Nat) (C : Nat → Int32) (T6 c7 : Nat) {u : Mem} (hN : NV P Z) (hJ : J P Z K S D C u) (hD : D ≤ c7) (hT6 : T6 < 22) (hc7 : c7 < T6) (hP : va_P G.2.1 vwCl (wl G 74 (cX G u)) H) (hS : va_S (xA G 74 s.heap.size) s.heap H locs) (hl : lv_has ls 31 [(0, .ref (G.1 1000)), (1, .ref (G.1 0)), (2, .ref (G.1 72)), (3, .ref (G.1 73)), (4, .int (nI (nPl P))), (5, .int (nI (nPe P))), (6, .int (nI T6)), (7, .int (nI c7))])
    (kk : ∀ (v : Mem) (H : Heap) (locs : List Loc) (ls : Array Slot), LH P Z K (c7 + 1) v → va_P G.2.1 vwCl (wl G 74 (cX G v)) H → va_S (xA G 74 s.heap.size) s.heap H locs → lv_has ls 31 [(0, .ref (G.1 1000)), (1, .ref (G.1 0)), (2, .ref (G.1 72)), (3, .ref (G.1 73)), (4, .int (nI (nPl P))), (5, .int (nI (nPe P))), (6, .int (nI T6)), (7, .int (nI c7))] → W p l e room_1 s m args below meth c H locs cells slots Q (F0 m 1141 ls [])) : W p l e room_1 s m args below meth c H locs cells slots Q (F0 m 73 ls []) := by
  obtain ⟨h4, h5⟩ := NV_45 hJ
  have hrp := J_rp hJ
  refine seg_73 ha hcs P Z K S D C T6 c7 hN hJ hT6 hc7 hP hS hl ?_
  intro v x8 i k hw H locs ls hi hk hhw hJ hP hS hl
  have hg := J_gs hJ
  have hD40 : D < 40 := by omega
  have hfin : ∀ (v : Mem) (dn : Nat) (H : Heap) (locs : List Loc) (ls : Array Slot), E677 P Z K S D C dn v → va_P G.2.1 vwCl (wl G 74 (cX G v)) H → va_S (xA G 74 s.heap.size) s.heap H locs → lv_has ls 31 [(0, .ref (G.1 1000)), (1, .ref (G.1 0)), (2, .ref (G.1 72)), (3, .ref (G.1 73)), (4, .int (nI (nPl P))), (5, .int (nI (nPe P))), (6, .int (nI T6)), (7, .int (nI c7)), (8, .int x8), (9, .int (nI D)), (10, .int (S 0 1)), (11, .int (S 0 0)), (12, .int (a_seatedPeople P S)), (13, .int (a_highAll P S)), (14, .int (S 0 2)), (15, .int (nI i)), (16, .int (nI k)), (17, .int (S 2 i)), (18, .int (a_load P S (nI k))), (19, .int (S 1 k)), (23, .int (nI dn))] → W p l e room_1 s m args below meth c H locs cells slots Q (F0 m 677 ls []) := by
    intro v dn H locs ls hE hP hS hl
    obtain ⟨hdn, T, C1, hJ1, hC1, hST, hdd⟩ := hE
    refine seg_677 ha hcs P Z K S T D (D + dn) C1 dn x8 i k hw T6 c7 hN hJ1 hdn rfl hdd hP hS hl ?_
    intro v H locs ls hv hP hS hl
    have hv := hv.symm
    subst hv
    refine seg_713 ha hcs P Z K S T D (D + dn) C1 dn x8 i k hw T6 c7 hN hJ1 hP hS hl ?_
    intro v x24 x25 H locs ls hv e24 e25 hP hS hl
    have hv := hv.symm
    subst hv
    subst e24
    subst e25
    refine loop_722 ha hcs P Z K S T D (D + dn) C1 dn x8 i k hw T6 c7 hN h4 h5 ?_ (nPl P + 1) 0 _ H locs ls (by omega) (Nat.zero_le _) hJ1 hP hS hl
    intro v H locs ls hJ2 hP hS hl
    rw [hi_all (J_gs hJ2), pe_all (J_gs hJ2)] at hl
    refine seg_976 ha hcs P Z K S T D (D + dn) C1 dn x8 i k hw T6 c7 C hN hJ2 hdn rfl hD hC1 hrp hi hk hP hS (lv_sub hl [0, 1, 2, 3, 4, 5, 6, 7, 8, 9, 10, 11, 12, 13, 14, 15, 16, 17, 18, 19, 20, 21, 22] rfl) ?_
    intro v H locs ls hLH hP hS hl
    exact kk v H locs ls hLH hP hS hl
  refine seg_how ha hcs P Z K S D C x8 i k hw T6 c7 hP hS hl ?_ ?_ ?_ ?_ ?_
  · intro v H locs ls hv hP hS hl
    have hv := hv.symm
    subst hv
    by_cases hd : S 2 i = -9 ∧ a_isUp P S (nI k) = true
    · exact seg_sit1 ha hcs P Z K S D C x8 i k hw T6 c7 hN hJ hD40 hi hk hd.1 hd.2 hP hS hl hfin
    · exact seg_sit0 ha hcs P Z K S D C x8 i k hw T6 c7 hN hJ hD40 hi hk hd hP hS hl hfin
  · intro v H locs ls hv hP hS hl
    have hv := hv.symm
    subst hv
    by_cases h9 : S 2 i = -9
    · exact seg_down0 ha hcs P Z K S D C x8 i k hw T6 c7 hN hJ hD40 hi hk h9 hP hS hl hfin
    · exact seg_down1 ha hcs P Z K S D C x8 i k hw T6 c7 hN hJ hD40 hi hk h9 hP hS hl hfin
  · intro v H locs ls hv hP hS hl
    have hv := hv.symm
    subst hv
    by_cases hu : a_isUp P S (nI k) = true
    · exact seg_lace1 ha hcs P Z K S D C x8 i k hw T6 c7 hN hJ hD40 hi hk hu hP hS hl hfin
    · exact seg_lace0 ha hcs P Z K S D C x8 i k hw T6 c7 hN hJ hD40 hi hk hu hP hS hl hfin
  · intro v H locs ls hv hP hS hl
    have hv := hv.symm
    subst hv
    exact seg_stone ha hcs P Z K S D C x8 i k hw T6 c7 hN hJ hD40 hi hk hP hS hl hfin
  · intro v H locs ls hv hP hS hl
    have hv := hv.symm
    subst hv
    exact seg_year ha hcs P Z K S D C x8 i k hw T6 c7 hN hJ hD40 hi hk hP hS hl hfin

set_option maxHeartbeats 4000000 in
set_option maxRecDepth 100000 in
theorem law_loop (ha : Amb p c cL_law 31 s args RL m meth (some .boolean) G 74) (hcs : cells ≤ room_1.cells ∧ slots ≤ room_1.slots) (P : PT) (Z : Nat → Int32) (K : KT) (T6 : Nat) (hN : NV P Z) (hT6 : T6 < 22)
    (kk : ∀ (v : Mem) (S : PT) (D : Nat) (C : Nat → Int32) (H : Heap) (locs : List Loc) (ls : Array Slot), J P Z K S D C v → D ≤ 21 → va_P G.2.1 vwCl (wl G 74 (cX G v)) H → va_S (xA G 74 s.heap.size) s.heap H locs → lv_has ls 31 [(0, .ref (G.1 1000)), (1, .ref (G.1 0)), (2, .ref (G.1 72)), (3, .ref (G.1 73)), (4, .int (nI (nPl P))), (5, .int (nI (nPe P)))] → W p l e room_1 s m args below meth c H locs cells slots Q (F0 m 1147 ls [])) :
    ∀ (d c7 : Nat) (u : Mem) (H : Heap) (locs : List Loc) (ls : Array Slot), T6 - c7 < d → c7 ≤ T6 → LH P Z K c7 u → va_P G.2.1 vwCl (wl G 74 (cX G u)) H → va_S (xA G 74 s.heap.size) s.heap H locs → lv_has ls 31 [(0, .ref (G.1 1000)), (1, .ref (G.1 0)), (2, .ref (G.1 72)), (3, .ref (G.1 73)), (4, .int (nI (nPl P))), (5, .int (nI (nPe P))), (6, .int (nI T6)), (7, .int (nI c7))] → W p l e room_1 s m args below meth c H locs cells slots Q (F0 m 66 ls []) := by
  intro d
  induction d with
  | zero => intro c7 u H locs ls hd; exact absurd hd (Nat.not_lt_zero _)
  | succ d ih =>
    intro c7 u H locs ls hd hc hLH hP hS hl
    refine seg_66 ha hcs P T6 c7 hT6 hc hP hS hl ?_ ?_
    · intro v H locs ls hv hP hS hl
      have hv := hv.symm
      subst hv
      obtain ⟨S, D, C, hJ, hD⟩ := hLH
      exact kk _ S D C _ _ _ hJ (by omega) hP hS hl
    · intro v H locs ls hv hlt hP hS hl
      have hv := hv.symm
      subst hv
      obtain ⟨S, D, C, hJ, hD⟩ := hLH
      refine law_body ha hcs P Z K S D C T6 c7 hN hJ hD hT6 hlt hP hS hl ?_
      intro v H locs ls hLH hP hS hl
      refine seg_1141 ha hcs P T6 c7 hP hS hl ?_
      intro v H locs ls hv hP hS hl
      have hv := hv.symm
      subst hv
      exact ih (c7 + 1) _ H locs ls (by omega) (by omega) hLH hP hS hl

end SC04

