
section SC11
variable {p : Program} {l : Launch} {e : Env} {s : State} {m : MethodId} {args : Array Value} {below : List Frame} {meth : Method} {c : Code} {H : Heap} {locs : List Loc} {cells slots : Nat} {Q : State → Prop} {ls : Array Slot} {G : GT}
set_option maxHeartbeats 4000000 in
set_option maxRecDepth 100000 in
theorem loop_2150 (ha : Amb p c cL_law 31 s args RL m meth (some .boolean) G 74) (hcs : cells ≤ room_1.cells ∧ slots ≤ room_1.slots) (P : PT) (Z : Nat → Int32) (K : KT) (S : PT) (D : Nat) (C : Nat → Int32) (k : Nat) (ee : Nat) (hN : NV P Z) (h4 : nPl P ≤ 4) (h5 : nPe P ≤ 5) (hk : k < nPl P) (he : ee < 3)
    (kout : ∀ (v : Mem) (fr : Nat → Int32) (H : Heap) (locs : List Loc) (ls : Array Slot), J P Z K S D C v → RW 3 (3 * (ee + 1)) fr v → TRI P k (tW G k) (tL G k) (ee + 1) fr → va_P G.2.1 vwCl (wl G 74 (cX G v)) H → va_S (xA G 74 s.heap.size) s.heap H locs → lv_has ls 31 [(0, .ref (G.1 1000)), (1, .ref (G.1 0)), (2, .ref (G.1 72)), (3, .ref (G.1 73)), (4, .int (nI (nPl P))), (5, .int (nI (nPe P))), (7, .int (nI D)), (8, .int (S 0 0)), (9, .int (a_highAll P S)), (10, .int ((1 <<< (nI (nPl P) &&& 31)) - 1)), (11, .int (a_standing P S)), (18, .int (nI k)), (19, .int (nI (cN (agS P k (tW G k) (tL G k) ee) 61))), (20, .int (a_bits (agK P k (tW G k) (tL G k) ee) 6)), (21, .int (nI ee)), (22, .int (tW G k ee)), (23, .int (tL G k ee))] → W p l e room_1 s m args below meth c H locs cells slots Q (F0 m 2272 ls []))
    : ∀ (dd f : Nat) (u : Mem) (fr : Nat → Int32) (H : Heap) (locs : List Loc) (ls : Array Slot), ee + 1 - f < dd → f ≤ ee + 1 → J P Z K S D C u → RW 3 (3 * ee + 3) fr u → TRI P k (tW G k) (tL G k) f fr → va_P G.2.1 vwCl (wl G 74 (cX G u)) H → va_S (xA G 74 s.heap.size) s.heap H locs → lv_has ls 31 [(0, .ref (G.1 1000)), (1, .ref (G.1 0)), (2, .ref (G.1 72)), (3, .ref (G.1 73)), (4, .int (nI (nPl P))), (5, .int (nI (nPe P))), (7, .int (nI D)), (8, .int (S 0 0)), (9, .int (a_highAll P S)), (10, .int ((1 <<< (nI (nPl P) &&& 31)) - 1)), (11, .int (a_standing P S)), (18, .int (nI k)), (19, .int (nI (cN (agS P k (tW G k) (tL G k) ee) 61))), (20, .int (a_bits (agK P k (tW G k) (tL G k) ee) 6)), (21, .int (nI ee)), (22, .int (tW G k ee)), (23, .int (tL G k ee)), (24, .int (nI f))] → W p l e room_1 s m args below meth c H locs cells slots Q (F0 m 2150 ls []) := by
  intro dd
  induction dd with
  | zero => intro f u fr H locs ls hd; exact absurd hd (Nat.not_lt_zero _)
  | succ dd ih =>
    intro f u fr H locs ls hd hf0 hJ hW hT hP hS hl
    refine seg_2150 ha hcs P Z K S D C k ee f fr hN hJ hk he hf0 hW hT hP hS hl ?_ ?_
    · intro v H locs ls hv hf hP hS hl
      have hv := hv.symm
      subst hv
      rw [hf] at hT
      exact kout _ fr _ _ _ hJ hW hT hP hS hl
    · intro v f9 H locs ls hJ hW hT hf hP hS hl
      exact ih (f + 1) v f9 H locs ls (by omega) (by omega) hJ hW hT hP hS hl

set_option maxHeartbeats 4000000 in
set_option maxRecDepth 100000 in
theorem loop_2077 (ha : Amb p c cL_law 31 s args RL m meth (some .boolean) G 74) (hcs : cells ≤ room_1.cells ∧ slots ≤ room_1.slots) (P : PT) (Z : Nat → Int32) (K : KT) (S : PT) (D : Nat) (C : Nat → Int32) (k : Nat) (hN : NV P Z) (h4 : nPl P ≤ 4) (h5 : nPe P ≤ 5) (hk : k < nPl P)
    (kout : ∀ (v : Mem)  (H : Heap) (locs : List Loc) (ls : Array Slot), J P Z K S D C v → va_P G.2.1 vwCl (wl G 74 (cX G v)) H → va_S (xA G 74 s.heap.size) s.heap H locs → lv_has ls 31 [(0, .ref (G.1 1000)), (1, .ref (G.1 0)), (2, .ref (G.1 72)), (3, .ref (G.1 73)), (4, .int (nI (nPl P))), (5, .int (nI (nPe P))), (7, .int (nI D)), (8, .int (S 0 0)), (9, .int (a_highAll P S)), (10, .int ((1 <<< (nI (nPl P) &&& 31)) - 1)), (11, .int (a_standing P S)), (18, .int (nI k))] → W p l e room_1 s m args below meth c H locs cells slots Q (F0 m 2423 ls []))
    : ∀ (dd ee : Nat) (u : Mem)  (H : Heap) (locs : List Loc) (ls : Array Slot), 3 - ee < dd → ee ≤ 3 → J P Z K S D C u → va_P G.2.1 vwCl (wl G 74 (cX G u)) H → va_S (xA G 74 s.heap.size) s.heap H locs → lv_has ls 31 [(0, .ref (G.1 1000)), (1, .ref (G.1 0)), (2, .ref (G.1 72)), (3, .ref (G.1 73)), (4, .int (nI (nPl P))), (5, .int (nI (nPe P))), (7, .int (nI D)), (8, .int (S 0 0)), (9, .int (a_highAll P S)), (10, .int ((1 <<< (nI (nPl P) &&& 31)) - 1)), (11, .int (a_standing P S)), (18, .int (nI k)), (19, .int (nI (cN (agS P k (tW G k) (tL G k) ee) 61))), (20, .int (a_bits (agK P k (tW G k) (tL G k) ee) 6)), (21, .int (nI ee))] → W p l e room_1 s m args below meth c H locs cells slots Q (F0 m 2077 ls []) := by
  intro dd
  induction dd with
  | zero => intro ee u  H locs ls hd; exact absurd hd (Nat.not_lt_zero _)
  | succ dd ih =>
    intro ee u  H locs ls hd he0 hJ hP hS hl
    refine seg_2077 ha hcs P Z K S D C k ee hN hJ hk he0 hP hS hl ?_ ?_
    · intro v H locs ls hv hP hS hl
      have hv := hv.symm
      subst hv
      exact kout _ _ _ _ hJ hP hS hl
    · intro v fr H locs ls hJ hW hT he hP hS hl
      refine loop_2150 ha hcs P Z K S D C k ee hN h4 h5 hk he ?_ (ee + 2) 0 v fr H locs ls (by omega) (Nat.zero_le _) hJ hW hT hP hS hl
      intro v fr H locs ls hJ hW hT hP hS hl
      refine seg_2272 ha hcs P Z K S D C k ee fr hN hJ hk he hW hT hP hS hl ?_
      intro v H locs ls hJ hP hS hl
      exact ih (ee + 1) v H locs ls (by omega) (by omega) hJ hP hS hl

set_option maxHeartbeats 4000000 in
set_option maxRecDepth 100000 in
theorem loop_2045 (ha : Amb p c cL_law 31 s args RL m meth (some .boolean) G 74) (hcs : cells ≤ room_1.cells ∧ slots ≤ room_1.slots) (P : PT) (Z : Nat → Int32) (K : KT) (S : PT) (D : Nat) (C : Nat → Int32) (hN : NV P Z) (h4 : nPl P ≤ 4) (h5 : nPe P ≤ 5)
    (kout : ∀ (v : Mem)  (H : Heap) (locs : List Loc) (ls : Array Slot), J P Z K S D C v → va_P G.2.1 vwCl (wl G 74 (cX G v)) H → va_S (xA G 74 s.heap.size) s.heap H locs → lv_has ls 31 [(0, .ref (G.1 1000)), (1, .ref (G.1 0)), (2, .ref (G.1 72)), (3, .ref (G.1 73)), (4, .int (nI (nPl P))), (5, .int (nI (nPe P))), (7, .int (nI D)), (8, .int (S 0 0)), (9, .int (a_highAll P S)), (10, .int ((1 <<< (nI (nPl P) &&& 31)) - 1)), (11, .int (a_standing P S))] → W p l e room_1 s m args below meth c H locs cells slots Q (F0 m 2429 ls []))
    : ∀ (dd k : Nat) (u : Mem)  (H : Heap) (locs : List Loc) (ls : Array Slot), nPl P - k < dd → k ≤ nPl P → J P Z K S D C u → va_P G.2.1 vwCl (wl G 74 (cX G u)) H → va_S (xA G 74 s.heap.size) s.heap H locs → lv_has ls 31 [(0, .ref (G.1 1000)), (1, .ref (G.1 0)), (2, .ref (G.1 72)), (3, .ref (G.1 73)), (4, .int (nI (nPl P))), (5, .int (nI (nPe P))), (7, .int (nI D)), (8, .int (S 0 0)), (9, .int (a_highAll P S)), (10, .int ((1 <<< (nI (nPl P) &&& 31)) - 1)), (11, .int (a_standing P S)), (18, .int (nI k))] → W p l e room_1 s m args below meth c H locs cells slots Q (F0 m 2045 ls []) := by
  intro dd
  induction dd with
  | zero => intro k u  H locs ls hd; exact absurd hd (Nat.not_lt_zero _)
  | succ dd ih =>
    intro k u  H locs ls hd hk0 hJ hP hS hl
    refine seg_2045 ha hcs P Z K S D C k hN hJ hk0 hP hS hl ?_ ?_
    · intro v H locs ls hv hP hS hl
      have hv := hv.symm
      subst hv
      exact kout _ _ _ _ hJ hP hS hl
    · intro v x19 x20 H locs ls hJ e19 e20 hk hP hS hl
      subst e19
      subst e20
      refine loop_2077 ha hcs P Z K S D C k hN h4 h5 hk ?_ 4 0 v H locs ls (by omega) (Nat.zero_le _) hJ hP hS hl
      intro v H locs ls hJ hP hS hl
      refine seg_2423 ha hcs P Z K S D C k hN hJ hP hS hl ?_
      intro v H locs ls hv hP hS hl
      have hv := hv.symm
      subst hv
      exact ih (k + 1) _ H locs ls (by omega) (by omega) hJ hP hS hl

set_option maxHeartbeats 4000000 in
set_option maxRecDepth 100000 in
theorem loop_2435 (ha : Amb p c cL_law 31 s args RL m meth (some .boolean) G 74) (hcs : cells ≤ room_1.cells ∧ slots ≤ room_1.slots) (P : PT) (Z : Nat → Int32) (K : KT) (S : PT) (D : Nat) (C : Nat → Int32) (hN : NV P Z) (h4 : nPl P ≤ 4) (h5 : nPe P ≤ 5)
    (kout : ∀ (v : Mem)  (H : Heap) (locs : List Loc) (ls : Array Slot), J P Z K S D C v → va_P G.2.1 vwCl (wl G 74 (cX G v)) H → va_S (xA G 74 s.heap.size) s.heap H locs → lv_has ls 31 [(0, .ref (G.1 1000)), (1, .ref (G.1 0)), (2, .ref (G.1 72)), (3, .ref (G.1 73)), (4, .int (nI (nPl P))), (5, .int (nI (nPe P))), (7, .int (nI D)), (8, .int (S 0 0)), (9, .int (a_highAll P S)), (10, .int ((1 <<< (nI (nPl P) &&& 31)) - 1)), (11, .int (a_standing P S)), (18, .int (a_highStanding P S))] → W p l e room_1 s m args below meth c H locs cells slots Q (F0 m 2635 ls []))
    : ∀ (dd i : Nat) (u : Mem)  (H : Heap) (locs : List Loc) (ls : Array Slot), nPe P - i < dd → i ≤ nPe P → J P Z K S D C u → va_P G.2.1 vwCl (wl G 74 (cX G u)) H → va_S (xA G 74 s.heap.size) s.heap H locs → lv_has ls 31 [(0, .ref (G.1 1000)), (1, .ref (G.1 0)), (2, .ref (G.1 72)), (3, .ref (G.1 73)), (4, .int (nI (nPl P))), (5, .int (nI (nPe P))), (7, .int (nI D)), (8, .int (S 0 0)), (9, .int (a_highAll P S)), (10, .int ((1 <<< (nI (nPl P) &&& 31)) - 1)), (11, .int (a_standing P S)), (18, .int (hiSt P S i)), (19, .int (nI i))] → W p l e room_1 s m args below meth c H locs cells slots Q (F0 m 2435 ls []) := by
  intro dd
  induction dd with
  | zero => intro i u  H locs ls hd; exact absurd hd (Nat.not_lt_zero _)
  | succ dd ih =>
    intro i u  H locs ls hd hi0 hJ hP hS hl
    refine seg_2435 ha hcs P Z K S D C i hN hJ hi0 hP hS hl ?_ ?_
    · intro v H locs ls hv hi hP hS hl
      have hv := hv.symm
      subst hv
      subst hi
      exact kout _ _ _ _ hJ hP hS hl
    · intro v H locs ls hJ hi hP hS hl
      exact ih (i + 1) v H locs ls (by omega) (by omega) hJ hP hS hl

set_option maxHeartbeats 4000000 in
set_option maxRecDepth 100000 in
theorem t_2042 (ha : Amb p c cL_law 31 s args RL m meth (some .boolean) G 74) (hcs : cells ≤ room_1.cells ∧ slots ≤ room_1.slots) {u : Mem} (P : PT) (Z : Nat → Int32) (K : KT) (S : PT) (D : Nat) (C : Nat → Int32) (hN : NV P Z) (hJ : J P Z K S D C u) (hD : D ≤ 21) (hrp : SEq P (rplP P C D) S) (hK0 : K.1 0 = nI 0) (hK1 : K.1 1 = nI D) (hK2 : K.2 1 = C) (hK3 : K.1 2 = -1) (hP : va_P G.2.1 vwCl (wl G 74 (cX G u)) H) (hS : va_S (xA G 74 s.heap.size) s.heap H locs) (hl : lv_has ls 31 [(0, .ref (G.1 1000)), (1, .ref (G.1 0)), (2, .ref (G.1 72)), (3, .ref (G.1 73)), (4, .int (nI (nPl P))), (5, .int (nI (nPe P))), (7, .int (nI D)), (8, .int (S 0 0)), (9, .int (a_highAll P S)), (10, .int ((1 <<< (nI (nPl P) &&& 31)) - 1)), (11, .int (a_standing P S))])
    (kk : ∀ (v : Mem)  (H : Heap) (locs : List Loc) (ls : Array Slot), va_P G.2.1 vwCl (wl G 74 (cX G v)) H → va_S (xA G 74 s.heap.size) s.heap H locs → lv_has ls 31 [(0, .ref (G.1 1000)), (1, .ref (G.1 0)), (2, .ref (G.1 72)), (3, .ref (G.1 73)), (4, .int (nI (nPl P))), (5, .int (nI (nPe P)))] → W p l e room_1 s m args below meth c H locs cells slots Q (F0 m 2959 ls [.int 1]))
    : W p l e room_1 s m args below meth c H locs cells slots Q (F0 m 2042 ls []) := by
  obtain ⟨h4, h5⟩ := NV_45 hJ
  refine seg_2042 ha hcs P Z K S D C hN hJ hP hS hl ?_
  intro v H locs ls hv hP hS hl
  have hv := hv.symm
  subst hv
  refine loop_2045 ha hcs P Z K S D C hN h4 h5 ?_ (nPl P + 1) 0 _ H locs ls (by omega) (Nat.zero_le _) hJ hP hS hl
  intro v H locs ls hJ hP hS hl
  refine seg_2429 ha hcs P Z K S D C hN hJ hP hS hl ?_
  intro v x18 H locs ls hv e18 hP hS hl
  have hv := hv.symm
  subst hv
  subst e18
  refine loop_2435 ha hcs P Z K S D C hN h4 h5 ?_ (nPe P + 1) 0 _ H locs ls (by omega) (Nat.zero_le _) hJ hP hS hl
  intro v H locs ls hJ hP hS hl
  refine seg_2635 ha hcs P Z K S D C hN hJ hP hS hl ?_
  intro v H locs ls hJ hP hS hl
  exact seg_2718 ha hcs P Z K S D C hN hJ hD hrp hK0 hK1 hK2 hK3 hP hS hl kk

set_option maxHeartbeats 4000000 in
set_option maxRecDepth 100000 in
theorem loop_1911 (ha : Amb p c cL_law 31 s args RL m meth (some .boolean) G 74) (hcs : cells ≤ room_1.cells ∧ slots ≤ room_1.slots) (P : PT) (Z : Nat → Int32) (K : KT) (S : PT) (D : Nat) (C : Nat → Int32) (n : Nat) (L19 : Int32) (sl : Nat → Int32) (hN : NV P Z) (hgS : GS P S) (hv0 : vld P S sl n = true) (hn : n < 4) (hcl : nI (cntS sl n) = L19) (hD : D ≤ 21) (hrp : SEq P (rplP P C D) S) (hK1 : K.1 1 = nI D) (hK2 : K.2 1 = C)
    (kout : ∀ (v : Mem)  (H : Heap) (locs : List Loc) (ls : Array Slot), J P Z K S D C v → va_P G.2.1 vwCl (wl G 74 (cX G v)) H → va_S (xA G 74 s.heap.size) s.heap H locs → lv_has ls 31 [(0, .ref (G.1 1000)), (1, .ref (G.1 0)), (2, .ref (G.1 72)), (3, .ref (G.1 73)), (4, .int (nI (nPl P))), (5, .int (nI (nPe P))), (7, .int (nI D)), (8, .int (S 0 0)), (9, .int (a_highAll P S)), (10, .int ((1 <<< (nI (nPl P) &&& 31)) - 1)), (11, .int (a_standing P S)), (17, .int L19), (18, .int (nI n))] → W p l e room_1 s m args below meth c H locs cells slots Q (F0 m 2036 ls []))
    : ∀ (dd y : Nat) (u : Mem) (D9 : Nat) (C9 : Nat → Int32) (H : Heap) (locs : List Loc) (ls : Array Slot), n - y < dd → y ≤ n → J P Z K (lyr P S sl y) D9 C9 u → D9 ≤ D + 2 * y → RW 2 n sl u → va_P G.2.1 vwCl (wl G 74 (cX G u)) H → va_S (xA G 74 s.heap.size) s.heap H locs → lv_has ls 31 [(0, .ref (G.1 1000)), (1, .ref (G.1 0)), (2, .ref (G.1 72)), (3, .ref (G.1 73)), (4, .int (nI (nPl P))), (5, .int (nI (nPe P))), (7, .int (nI D)), (8, .int (S 0 0)), (9, .int (a_highAll P S)), (10, .int ((1 <<< (nI (nPl P) &&& 31)) - 1)), (11, .int (a_standing P S)), (17, .int L19), (18, .int (nI n)), (19, .int L19), (21, .int (nI (cntS sl y))), (22, .int (nI y))] → W p l e room_1 s m args below meth c H locs cells slots Q (F0 m 1911 ls []) := by
  intro dd
  induction dd with
  | zero => intro y u D9 C9 H locs ls hd; exact absurd hd (Nat.not_lt_zero _)
  | succ dd ih =>
    intro y u D9 C9 H locs ls hd hy0 hJ hD9 hW hP hS hl
    refine seg_1911 ha hcs P Z K S D n L19 sl y D9 C9 hN hJ hgS hW hv0 hD9 hD hn hy0 hP hS hl ?_ ?_
    · intro v H locs ls hv hy hP hS hl
      have hv := hv.symm
      subst hv
      refine seg_2007 ha hcs P Z K S D n L19 sl y D9 C9 C hN hJ hgS hW hv0 hD9 hD hn hy hcl hrp hK1 hK2 hP hS (by rw [hy] at hl; exact hl) ?_
      intro v H locs ls hJ hP hS hl
      exact kout v H locs ls hJ hP hS hl
    · intro v H locs ls hJ hW hy hP hS hl
      rcases okY_s (vld_ok hv0 y hy) with h9 | hu
      · rw [h9] at hl
        refine seg_1937a ha hcs P Z K S D n L19 sl y D9 C9 hN hJ hgS hW hv0 hD9 hD hn hy h9 hP hS hl ?_
        intro v H locs ls hE hW hP hS hl
        obtain ⟨D8, C8, hJ, hD8⟩ := hE
        exact ih (y + 1) v D8 C8 H locs ls (by omega) (by omega) hJ hD8 hW hP hS hl
      · have hpo := up_of_seat hu
        have e := ix_nI (isPole_t hpo).1
        rw [e] at hl hu
        refine seg_1937b ha hcs P Z K S D n L19 sl y D9 C9 (ix (sl y)) hN hJ hgS hW hv0 hD9 hD hn hy (isPole_ix hpo) e hu hP hS hl ?_
        intro v H locs ls hE hW hP hS hl
        obtain ⟨D8, C8, hJ, hD8⟩ := hE
        exact ih (y + 1) v D8 C8 H locs ls (by omega) (by omega) hJ hD8 hW hP hS hl

set_option maxHeartbeats 4000000 in
set_option maxRecDepth 100000 in
theorem loop_1777 (ha : Amb p c cL_law 31 s args RL m meth (some .boolean) G 74) (hcs : cells ≤ room_1.cells ∧ slots ≤ room_1.slots) (P : PT) (Z : Nat → Int32) (K : KT) (S : PT) (D : Nat) (C : Nat → Int32) (hN : NV P Z) (hD : D ≤ 21) (hrp : SEq P (rplP P C D) S) (hK1 : K.1 1 = nI D) (hK2 : K.2 1 = C)
    (kout : ∀ (v : Mem)  (H : Heap) (locs : List Loc) (ls : Array Slot), J P Z K S D C v → va_P G.2.1 vwCl (wl G 74 (cX G v)) H → va_S (xA G 74 s.heap.size) s.heap H locs → lv_has ls 31 [(0, .ref (G.1 1000)), (1, .ref (G.1 0)), (2, .ref (G.1 72)), (3, .ref (G.1 73)), (4, .int (nI (nPl P))), (5, .int (nI (nPe P))), (7, .int (nI D)), (8, .int (S 0 0)), (9, .int (a_highAll P S)), (10, .int ((1 <<< (nI (nPl P) &&& 31)) - 1)), (11, .int (a_standing P S))] → W p l e room_1 s m args below meth c H locs cells slots Q (F0 m 2042 ls []))
    : ∀ (dd n : Nat) (u : Mem) (had : Int32) (H : Heap) (locs : List Loc) (ls : Array Slot), 4 - n < dd → n ≤ 4 → J P Z K S D C u → HadOf P S n had → va_P G.2.1 vwCl (wl G 74 (cX G u)) H → va_S (xA G 74 s.heap.size) s.heap H locs → lv_has ls 31 [(0, .ref (G.1 1000)), (1, .ref (G.1 0)), (2, .ref (G.1 72)), (3, .ref (G.1 73)), (4, .int (nI (nPl P))), (5, .int (nI (nPe P))), (7, .int (nI D)), (8, .int (S 0 0)), (9, .int (a_highAll P S)), (10, .int ((1 <<< (nI (nPl P) &&& 31)) - 1)), (11, .int (a_standing P S)), (17, .int had), (18, .int (nI n))] → W p l e room_1 s m args below meth c H locs cells slots Q (F0 m 1777 ls []) := by
  intro dd
  induction dd with
  | zero => intro n u had H locs ls hd; exact absurd hd (Nat.not_lt_zero _)
  | succ dd ih =>
    intro n u had H locs ls hd hn0 hJ hh hP hS hl
    refine seg_1777 ha hcs P Z K S D C n had hN hJ hn0 hP hS hl ?_ ?_
    · intro v H locs ls hv hP hS hl
      have hv := hv.symm
      subst hv
      exact kout _ _ _ _ hJ hP hS hl
    · intro v L19 sl H locs ls hJ hL hW0 hn hP hS hl
      refine seg_1792 ha hcs P Z K S D C n had L19 sl hN hJ hn hh hL hP hS hl ?_
      intro v H locs ls hv hP hS hl
      have hv := hv.symm
      subst hv
      have hgo : ∀ (v : Mem)  (H : Heap) (locs : List Loc) (ls : Array Slot), J P Z K S D C v → va_P G.2.1 vwCl (wl G 74 (cX G v)) H → va_S (xA G 74 s.heap.size) s.heap H locs → lv_has ls 31 [(0, .ref (G.1 1000)), (1, .ref (G.1 0)), (2, .ref (G.1 72)), (3, .ref (G.1 73)), (4, .int (nI (nPl P))), (5, .int (nI (nPe P))), (7, .int (nI D)), (8, .int (S 0 0)), (9, .int (a_highAll P S)), (10, .int ((1 <<< (nI (nPl P) &&& 31)) - 1)), (11, .int (a_standing P S)), (17, .int L19), (18, .int (nI n))] → W p l e room_1 s m args below meth c H locs cells slots Q (F0 m 2036 ls []) := by
        intro v H locs ls hJ hP hS hl
        refine seg_2036 ha hcs P Z K S D C n L19 hN hJ hP hS hl ?_
        intro v H locs ls hv hP hS hl
        have hv := hv.symm
        subst hv
        exact ih (n + 1) _ L19 H locs ls (by omega) (by omega) hJ (Or.inr ⟨by omega, sl, hL⟩) hP hS hl
      refine seg_1836 ha hcs P Z K S D C n had L19 sl hN hJ hn hD hL hW0 hP hS hl hgo ?_
      intro v H locs ls hJ hW hvl hcl hP hS hl
      refine loop_1911 ha hcs P Z K S D C n L19 sl hN (J_gs hJ) hvl hn hcl hD hrp hK1 hK2 hgo (n + 1) 0 v D C H locs ls (by omega) (Nat.zero_le _) hJ (by omega) hW hP hS hl

set_option maxHeartbeats 4000000 in
set_option maxRecDepth 100000 in
theorem loop_1525 (ha : Amb p c cL_law 31 s args RL m meth (some .boolean) G 74) (hcs : cells ≤ room_1.cells ∧ slots ≤ room_1.slots) (P : PT) (Z : Nat → Int32) (K : KT) (S : PT) (D : Nat) (C : Nat → Int32) (hN : NV P Z) (h4 : nPl P ≤ 4) (h5 : nPe P ≤ 5)
    (kout : ∀ (v : Mem)  (H : Heap) (locs : List Loc) (ls : Array Slot), J P Z K S D C v → va_P G.2.1 vwCl (wl G 74 (cX G v)) H → va_S (xA G 74 s.heap.size) s.heap H locs → lv_has ls 31 [(0, .ref (G.1 1000)), (1, .ref (G.1 0)), (2, .ref (G.1 72)), (3, .ref (G.1 73)), (4, .int (nI (nPl P))), (5, .int (nI (nPe P))), (7, .int (nI D)), (8, .int (S 0 0)), (9, .int (a_highAll P S)), (10, .int ((1 <<< (nI (nPl P) &&& 31)) - 1)), (11, .int (a_standing P S))] → W p l e room_1 s m args below meth c H locs cells slots Q (F0 m 1706 ls []))
    : ∀ (dd k : Nat) (u : Mem)  (H : Heap) (locs : List Loc) (ls : Array Slot), nPl P - k < dd → k ≤ nPl P → J P Z K S D C u → va_P G.2.1 vwCl (wl G 74 (cX G u)) H → va_S (xA G 74 s.heap.size) s.heap H locs → lv_has ls 31 [(0, .ref (G.1 1000)), (1, .ref (G.1 0)), (2, .ref (G.1 72)), (3, .ref (G.1 73)), (4, .int (nI (nPl P))), (5, .int (nI (nPe P))), (7, .int (nI D)), (8, .int (S 0 0)), (9, .int (a_highAll P S)), (10, .int ((1 <<< (nI (nPl P) &&& 31)) - 1)), (11, .int (a_standing P S)), (16, .int (nI k))] → W p l e room_1 s m args below meth c H locs cells slots Q (F0 m 1525 ls []) := by
  intro dd
  induction dd with
  | zero => intro k u  H locs ls hd; exact absurd hd (Nat.not_lt_zero _)
  | succ dd ih =>
    intro k u  H locs ls hd hk0 hJ hP hS hl
    refine seg_1525 ha hcs P Z K S D C k hN hJ hk0 hP hS hl ?_ ?_
    · intro v H locs ls hv hP hS hl
      have hv := hv.symm
      subst hv
      exact kout _ _ _ _ hJ hP hS hl
    · intro v gv H locs ls hv hk hG hP hS hl
      have hv := hv.symm
      subst hv
      rcases hG with ⟨e, hgf, hst⟩ | ⟨f, hf, e, hu, hgd, hu0, hu1⟩
      · subst e
        refine seg_1540a ha hcs P Z K S D C k hN hJ hk hgf hst hP hS hl ?_
        intro v H locs ls hJ hP hS hl
        exact ih (k + 1) v H locs ls (by omega) (by omega) hJ hP hS hl
      · subst e
        refine seg_1540b ha hcs P Z K S D C k f hN hJ hk hf hu hgd hu0 hu1 hP hS hl ?_
        intro v H locs ls hJ hP hS hl
        exact ih (k + 1) v H locs ls (by omega) (by omega) hJ hP hS hl

set_option maxHeartbeats 4000000 in
set_option maxRecDepth 100000 in
theorem loop_1713 (ha : Amb p c cL_law 31 s args RL m meth (some .boolean) G 74) (hcs : cells ≤ room_1.cells ∧ slots ≤ room_1.slots) (P : PT) (Z : Nat → Int32) (K : KT) (S : PT) (D : Nat) (C : Nat → Int32) (hN : NV P Z)
    (kout : ∀ (v : Mem)  (H : Heap) (locs : List Loc) (ls : Array Slot), J P Z K S D C v → va_P G.2.1 vwCl (wl G 74 (cX G v)) H → va_S (xA G 74 s.heap.size) s.heap H locs → lv_has ls 31 [(0, .ref (G.1 1000)), (1, .ref (G.1 0)), (2, .ref (G.1 72)), (3, .ref (G.1 73)), (4, .int (nI (nPl P))), (5, .int (nI (nPe P))), (7, .int (nI D)), (8, .int (S 0 0)), (9, .int (a_highAll P S)), (10, .int ((1 <<< (nI (nPl P) &&& 31)) - 1)), (11, .int (a_standing P S))] → W p l e room_1 s m args below meth c H locs cells slots Q (F0 m 1771 ls []))
    : ∀ (dd n : Nat) (u : Mem) (pv : Nat) (H : Heap) (locs : List Loc) (ls : Array Slot), 45 - n < dd → pv ≤ n → n ≤ 44 → J P Z K S D C u → va_P G.2.1 vwCl (wl G 74 (cX G u)) H → va_S (xA G 74 s.heap.size) s.heap H locs → lv_has ls 31 [(0, .ref (G.1 1000)), (1, .ref (G.1 0)), (2, .ref (G.1 72)), (3, .ref (G.1 73)), (4, .int (nI (nPl P))), (5, .int (nI (nPe P))), (7, .int (nI D)), (8, .int (S 0 0)), (9, .int (a_highAll P S)), (10, .int ((1 <<< (nI (nPl P) &&& 31)) - 1)), (11, .int (a_standing P S)), (16, .int (a_highAll P (yrs P S pv))), (17, .int (nI n))] → W p l e room_1 s m args below meth c H locs cells slots Q (F0 m 1713 ls []) := by
  intro dd
  induction dd with
  | zero => intro n u pv H locs ls hd; exact absurd hd (Nat.not_lt_zero _)
  | succ dd ih =>
    intro n u pv H locs ls hd hpv hn0 hJ hP hS hl
    refine seg_1713 ha hcs P Z K S D C pv n hN hJ hpv hn0 hP hS hl ?_ ?_
    · intro v H locs ls hv hP hS hl
      have hv := hv.symm
      subst hv
      exact kout _ _ _ _ hJ hP hS hl
    · intro v H locs ls hJ hn hP hS hl
      exact ih (n + 4) v n H locs ls (by omega) (by omega) (by omega) hJ hP hS hl

set_option maxHeartbeats 4000000 in
set_option maxRecDepth 100000 in
theorem t_1522 (ha : Amb p c cL_law 31 s args RL m meth (some .boolean) G 74) (hcs : cells ≤ room_1.cells ∧ slots ≤ room_1.slots) {u : Mem} (P : PT) (Z : Nat → Int32) (K : KT) (S : PT) (D : Nat) (C : Nat → Int32) (hN : NV P Z) (hJ : J P Z K S D C u) (hD : D ≤ 21) (hrp : SEq P (rplP P C D) S) (hK0 : K.1 0 = nI 0) (hK1 : K.1 1 = nI D) (hK2 : K.2 1 = C) (hK3 : K.1 2 = -1) (hP : va_P G.2.1 vwCl (wl G 74 (cX G u)) H) (hS : va_S (xA G 74 s.heap.size) s.heap H locs) (hl : lv_has ls 31 [(0, .ref (G.1 1000)), (1, .ref (G.1 0)), (2, .ref (G.1 72)), (3, .ref (G.1 73)), (4, .int (nI (nPl P))), (5, .int (nI (nPe P))), (7, .int (nI D)), (8, .int (S 0 0)), (9, .int (a_highAll P S)), (10, .int ((1 <<< (nI (nPl P) &&& 31)) - 1)), (11, .int (a_standing P S))])
    (kk : ∀ (v : Mem)  (H : Heap) (locs : List Loc) (ls : Array Slot), va_P G.2.1 vwCl (wl G 74 (cX G v)) H → va_S (xA G 74 s.heap.size) s.heap H locs → lv_has ls 31 [(0, .ref (G.1 1000)), (1, .ref (G.1 0)), (2, .ref (G.1 72)), (3, .ref (G.1 73)), (4, .int (nI (nPl P))), (5, .int (nI (nPe P)))] → W p l e room_1 s m args below meth c H locs cells slots Q (F0 m 2959 ls [.int 1]))
    : W p l e room_1 s m args below meth c H locs cells slots Q (F0 m 1522 ls []) := by
  obtain ⟨h4, h5⟩ := NV_45 hJ
  refine seg_1522 ha hcs P Z K S D C hN hJ hP hS hl ?_
  intro v H locs ls hv hP hS hl
  have hv := hv.symm
  subst hv
  refine loop_1525 ha hcs P Z K S D C hN h4 h5 ?_ (nPl P + 1) 0 _ H locs ls (by omega) (Nat.zero_le _) hJ hP hS hl
  intro v H locs ls hJ hP hS hl
  refine seg_1706 ha hcs P Z K S D C hN hJ hP hS hl ?_
  intro v H locs ls hv hP hS hl
  have hv := hv.symm
  subst hv
  refine loop_1713 ha hcs P Z K S D C hN ?_ 46 0 _ 0 H locs ls (by omega) (Nat.zero_le _) (by omega) hJ hP hS hl
  intro v H locs ls hJ hP hS hl
  refine seg_1771 ha hcs P Z K S D C hN hJ hP hS hl ?_
  intro v H locs ls hv hP hS hl
  have hv := hv.symm
  subst hv
  refine loop_1777 ha hcs P Z K S D C hN hD hrp hK1 hK2 ?_ 5 0 _ 0 H locs ls (by omega) (Nat.zero_le _) hJ (Or.inl ⟨rfl, rfl⟩) hP hS hl
  intro v H locs ls hJ hP hS hl
  exact t_2042 ha hcs P Z K S D C hN hJ hD hrp hK0 hK1 hK2 hK3 hP hS hl kk

set_option maxHeartbeats 4000000 in
set_option maxRecDepth 100000 in
theorem loop_1370 (ha : Amb p c cL_law 31 s args RL m meth (some .boolean) G 74) (hcs : cells ≤ room_1.cells ∧ slots ≤ room_1.slots) (P : PT) (Z : Nat → Int32) (K : KT) (S : PT) (D : Nat) (C : Nat → Int32) (w : Nat → Bool) (hN : NV P Z) (h4 : nPl P ≤ 4) (h5 : nPe P ≤ 5)
    (kout : ∀ (v : Mem)  (H : Heap) (locs : List Loc) (ls : Array Slot), J P Z K S D C v → va_P G.2.1 vwCl (wl G 74 (cX G v)) H → va_S (xA G 74 s.heap.size) s.heap H locs → lv_has ls 31 [(0, .ref (G.1 1000)), (1, .ref (G.1 0)), (2, .ref (G.1 72)), (3, .ref (G.1 73)), (4, .int (nI (nPl P))), (5, .int (nI (nPe P))), (7, .int (nI D)), (8, .int (S 0 0)), (9, .int (a_highAll P S)), (10, .int ((1 <<< (nI (nPl P) &&& 31)) - 1)), (11, .int (a_standing P S)), (15, .int (a_bits w (nPl P))), (16, .int (nI 0)), (17, .int (nI (nPl P ^ nPe P)))] → W p l e room_1 s m args below meth c H locs cells slots Q (F0 m 1390 ls []))
    : ∀ (dd j : Nat) (u : Mem)  (H : Heap) (locs : List Loc) (ls : Array Slot), nPe P - j < dd → j ≤ nPe P → J P Z K S D C u → va_P G.2.1 vwCl (wl G 74 (cX G u)) H → va_S (xA G 74 s.heap.size) s.heap H locs → lv_has ls 31 [(0, .ref (G.1 1000)), (1, .ref (G.1 0)), (2, .ref (G.1 72)), (3, .ref (G.1 73)), (4, .int (nI (nPl P))), (5, .int (nI (nPe P))), (7, .int (nI D)), (8, .int (S 0 0)), (9, .int (a_highAll P S)), (10, .int ((1 <<< (nI (nPl P) &&& 31)) - 1)), (11, .int (a_standing P S)), (15, .int (a_bits w (nPl P))), (16, .int (nI 0)), (17, .int (nI (nPl P ^ j))), (18, .int (nI j))] → W p l e room_1 s m args below meth c H locs cells slots Q (F0 m 1370 ls []) := by
  intro dd
  induction dd with
  | zero => intro j u  H locs ls hd; exact absurd hd (Nat.not_lt_zero _)
  | succ dd ih =>
    intro j u  H locs ls hd hj0 hJ hP hS hl
    refine seg_1370 ha hcs P Z K S D C w j hN hJ hj0 hP hS hl ?_ ?_
    · intro v H locs ls hv hj hP hS hl
      have hv := hv.symm
      subst hv
      subst hj
      exact kout _ _ _ _ hJ hP hS hl
    · intro v H locs ls hv hj hP hS hl
      have hv := hv.symm
      subst hv
      exact ih (j + 1) _ H locs ls (by omega) (by omega) hJ hP hS hl

set_option maxHeartbeats 4000000 in
set_option maxRecDepth 100000 in
theorem loop_1429 (ha : Amb p c cL_law 31 s args RL m meth (some .boolean) G 74) (hcs : cells ≤ room_1.cells ∧ slots ≤ room_1.slots) (P : PT) (Z : Nat → Int32) (K : KT) (S : PT) (D : Nat) (C : Nat → Int32) (w : Nat → Bool) (t : Nat → Nat) (cst : Nat) (g : Nat) (code : Nat) (hN : NV P Z) (h4 : nPl P ≤ 4) (h5 : nPe P ≤ 5) (hwu : ∀ k, k < nPl P → w k = true → a_isUp P S (nI k) = true) (hct : ∀ i, i < nPe P → lf (nPl P) cst i % nPl P = t i) (hcl : cst < nPl P ^ nPe P) (htw : ∀ i, i < nPe P → t i < nPl P ∧ w (t i) = true) (hf0 : b_fail P (Ts S fun i => nI (t i)) = 0) (hcode : code ≤ cst) (hpw : nPl P ^ nPe P ≤ 1024)
    (kout : ∀ (v : Mem) (g9 : Nat) (H : Heap) (locs : List Loc) (ls : Array Slot), J P Z K S D C v → (∃ f, RW 1 (nPe P) f v) → ((g9 = 0 ∧ code + 1 ≤ cst) ∨ g9 = 1) → va_P G.2.1 vwCl (wl G 74 (cX G v)) H → va_S (xA G 74 s.heap.size) s.heap H locs → lv_has ls 31 [(0, .ref (G.1 1000)), (1, .ref (G.1 0)), (2, .ref (G.1 72)), (3, .ref (G.1 73)), (4, .int (nI (nPl P))), (5, .int (nI (nPe P))), (7, .int (nI D)), (8, .int (S 0 0)), (9, .int (a_highAll P S)), (10, .int ((1 <<< (nI (nPl P) &&& 31)) - 1)), (11, .int (a_standing P S)), (15, .int (a_bits w (nPl P))), (16, .int (nI g9)), (17, .int (nI (nPl P ^ nPe P))), (18, .int (nI (code + 1)))] → W p l e room_1 s m args below meth c H locs cells slots Q (F0 m 1407 ls []))
    : ∀ (dd i : Nat) (u : Mem) (f : Nat → Int32) (H : Heap) (locs : List Loc) (ls : Array Slot), nPe P - i < dd → i ≤ nPe P → J P Z K S D C u → RW 1 (nPe P) f u → IR P w code i f → va_P G.2.1 vwCl (wl G 74 (cX G u)) H → va_S (xA G 74 s.heap.size) s.heap H locs → lv_has ls 31 [(0, .ref (G.1 1000)), (1, .ref (G.1 0)), (2, .ref (G.1 72)), (3, .ref (G.1 73)), (4, .int (nI (nPl P))), (5, .int (nI (nPe P))), (7, .int (nI D)), (8, .int (S 0 0)), (9, .int (a_highAll P S)), (10, .int ((1 <<< (nI (nPl P) &&& 31)) - 1)), (11, .int (a_standing P S)), (15, .int (a_bits w (nPl P))), (16, .int (nI g)), (17, .int (nI (nPl P ^ nPe P))), (18, .int (nI code)), (19, .int (nI (lf (nPl P) code i))), (20, .int (b2i (wlB P w code i))), (21, .int (nI i))] → W p l e room_1 s m args below meth c H locs cells slots Q (F0 m 1429 ls []) := by
  intro dd
  induction dd with
  | zero => intro i u f H locs ls hd; exact absurd hd (Nat.not_lt_zero _)
  | succ dd ih =>
    intro i u f H locs ls hd hi0 hJ hW hR hP hS hl
    refine seg_1429 ha hcs P Z K S D C w t cst g code i f hN hJ (by omega) hi0 hW hR hP hS hl ?_ ?_
    · intro v H locs ls hv hi hP hS hl
      have hv := hv.symm
      subst hv
      subst hi
      refine seg_1489 ha hcs P Z K S D C w t cst g code f hN hJ hwu hct hcl htw hf0 hcode hW hR hP hS hl ?_
      intro v g9 H locs ls hJ hE hc hP hS hl
      exact kout v g9 H locs ls hJ hE hc hP hS hl
    · intro v f9 H locs ls hJ hW hR hi hP hS hl
      exact ih (i + 1) v f9 H locs ls (by omega) (by omega) hJ hW hR hP hS hl

set_option maxHeartbeats 4000000 in
set_option maxRecDepth 100000 in
theorem loop_1407 (ha : Amb p c cL_law 31 s args RL m meth (some .boolean) G 74) (hcs : cells ≤ room_1.cells ∧ slots ≤ room_1.slots) (P : PT) (Z : Nat → Int32) (K : KT) (S : PT) (D : Nat) (C : Nat → Int32) (w : Nat → Bool) (t : Nat → Nat) (cst : Nat) (hN : NV P Z) (h4 : nPl P ≤ 4) (h5 : nPe P ≤ 5) (hwu : ∀ k, k < nPl P → w k = true → a_isUp P S (nI k) = true) (hct : ∀ i, i < nPe P → lf (nPl P) cst i % nPl P = t i) (hcl : cst < nPl P ^ nPe P) (htw : ∀ i, i < nPe P → t i < nPl P ∧ w (t i) = true) (hf0 : b_fail P (Ts S fun i => nI (t i)) = 0) (hpw : nPl P ^ nPe P ≤ 1024)
    (kout : ∀ (v : Mem)  (H : Heap) (locs : List Loc) (ls : Array Slot), J P Z K S D C v → va_P G.2.1 vwCl (wl G 74 (cX G v)) H → va_S (xA G 74 s.heap.size) s.heap H locs → lv_has ls 31 [(0, .ref (G.1 1000)), (1, .ref (G.1 0)), (2, .ref (G.1 72)), (3, .ref (G.1 73)), (4, .int (nI (nPl P))), (5, .int (nI (nPe P))), (7, .int (nI D)), (8, .int (S 0 0)), (9, .int (a_highAll P S)), (10, .int ((1 <<< (nI (nPl P) &&& 31)) - 1)), (11, .int (a_standing P S)), (16, .int (nI 1))] → W p l e room_1 s m args below meth c H locs cells slots Q (F0 m 1515 ls []))
    : ∀ (dd code : Nat) (u : Mem) (g : Nat) (H : Heap) (locs : List Loc) (ls : Array Slot), nPl P ^ nPe P - code < dd → code ≤ nPl P ^ nPe P → ((g = 0 ∧ code ≤ cst) ∨ g = 1) → J P Z K S D C u → (∃ f, RW 1 (nPe P) f u) → va_P G.2.1 vwCl (wl G 74 (cX G u)) H → va_S (xA G 74 s.heap.size) s.heap H locs → lv_has ls 31 [(0, .ref (G.1 1000)), (1, .ref (G.1 0)), (2, .ref (G.1 72)), (3, .ref (G.1 73)), (4, .int (nI (nPl P))), (5, .int (nI (nPe P))), (7, .int (nI D)), (8, .int (S 0 0)), (9, .int (a_highAll P S)), (10, .int ((1 <<< (nI (nPl P) &&& 31)) - 1)), (11, .int (a_standing P S)), (15, .int (a_bits w (nPl P))), (16, .int (nI g)), (17, .int (nI (nPl P ^ nPe P))), (18, .int (nI code))] → W p l e room_1 s m args below meth c H locs cells slots Q (F0 m 1407 ls []) := by
  intro dd
  induction dd with
  | zero => intro code u g H locs ls hd; exact absurd hd (Nat.not_lt_zero _)
  | succ dd ih =>
    intro code u g H locs ls hd hc0 hcan hJ hE hP hS hl
    refine seg_1407 ha hcs P Z K S D C w t cst g code hN hJ hcl hc0 hcan hP hS hl ?_ ?_
    · intro v H locs ls hv hg hP hS hl
      have hv := hv.symm
      subst hv
      subst hg
      exact kout _ _ _ _ hJ hP hS hl
    · intro v H locs ls hv hg0 hlt hP hS hl
      have hv := hv.symm
      subst hv
      obtain ⟨f, hW⟩ := hE
      have hcode : code ≤ cst := by
        rcases hcan with q | q
        · exact q.2
        · omega
      refine loop_1429 ha hcs P Z K S D C w t cst g code hN h4 h5 hwu hct hcl htw hf0 hcode hpw ?_ (nPe P + 1) 0 _ f H locs ls (by omega) (Nat.zero_le _) hJ hW (fun _ j hj => absurd hj (Nat.not_lt_zero _)) hP hS hl
      intro v g9 H locs ls hJ hE hc hP hS hl
      exact ih (code + 1) v g9 H locs ls (by omega) (by omega) hc hJ hE hP hS hl

set_option maxHeartbeats 4000000 in
set_option maxRecDepth 100000 in
theorem law_tail (ha : Amb p c cL_law 31 s args RL m meth (some .boolean) G 74) (hcs : cells ≤ room_1.cells ∧ slots ≤ room_1.slots) {u : Mem} (P : PT) (Z : Nat → Int32) (K : KT) (S : PT) (D : Nat) (C : Nat → Int32) (hN : NV P Z) (hJ : J P Z K S D C u) (hD : D ≤ 21) (hK0 : K.1 0 = nI 0) (hK3 : K.1 2 = -1) (hP : va_P G.2.1 vwCl (wl G 74 (cX G u)) H) (hS : va_S (xA G 74 s.heap.size) s.heap H locs) (hl : lv_has ls 31 [(0, .ref (G.1 1000)), (1, .ref (G.1 0)), (2, .ref (G.1 72)), (3, .ref (G.1 73)), (4, .int (nI (nPl P))), (5, .int (nI (nPe P)))])
    (kk : ∀ (v : Mem)  (H : Heap) (locs : List Loc) (ls : Array Slot), va_P G.2.1 vwCl (wl G 74 (cX G v)) H → va_S (xA G 74 s.heap.size) s.heap H locs → lv_has ls 31 [(0, .ref (G.1 1000)), (1, .ref (G.1 0)), (2, .ref (G.1 72)), (3, .ref (G.1 73)), (4, .int (nI (nPl P))), (5, .int (nI (nPe P)))] → W p l e room_1 s m args below meth c H locs cells slots Q (F0 m 2959 ls [.int 1]))
    : W p l e room_1 s m args below meth c H locs cells slots Q (F0 m 1147 ls []) := by
  obtain ⟨h4, h5⟩ := NV_45 hJ
  have hp0 := hN.1.1
  have hq0 := hN.1.2
  have hrp := J_rp hJ
  refine seg_1147 ha hcs P Z K S D C hN hJ hP hS hl ?_
  intro v H locs ls hJ hP hS hl
  have hg := J_gs hJ
  have hgo : ∀ (v : Mem)  (H : Heap) (locs : List Loc) (ls : Array Slot), J P Z (kAt K 1 D C) S D C v → va_P G.2.1 vwCl (wl G 74 (cX G v)) H → va_S (xA G 74 s.heap.size) s.heap H locs → lv_has ls 31 [(0, .ref (G.1 1000)), (1, .ref (G.1 0)), (2, .ref (G.1 72)), (3, .ref (G.1 73)), (4, .int (nI (nPl P))), (5, .int (nI (nPe P))), (7, .int (nI D)), (8, .int (S 0 0)), (9, .int (a_highAll P S)), (10, .int ((1 <<< (nI (nPl P) &&& 31)) - 1)), (11, .int (a_standing P S))] → W p l e room_1 s m args below meth c H locs cells slots Q (F0 m 1522 ls []) := by
    intro v H locs ls hJ hP hS hl
    exact t_1522 ha hcs P Z (kAt K 1 D C) S D C hN hJ hD hrp hK0 rfl rfl hK3 hP hS hl kk
  refine seg_1244 ha hcs P Z (kAt K 1 D C) S D C hN hJ hP hS hl ?_
  intro v b13 H locs ls hJ hb13 hP hS hl
  refine seg_1292 ha hcs P Z (kAt K 1 D C) S D C b13 hN hJ hP hS hl ?_
  intro v fw w15 H locs ls hJ hF hP hS hl
  rcases hF with e | ⟨w, ew, ef, hc1, hwu, t, htw, hf0⟩
  · subst e
    refine seg_1304a ha hcs P Z (kAt K 1 D C) S D C b13 w15 hN hJ hb13 hP hS hl ?_
    intro v H locs ls hv hP hS hl
    have hv := hv.symm
    subst hv
    exact hgo _ _ _ _ hJ hP hS hl
  · subst ew
    subst ef
    obtain ⟨cst, hcl, hct⟩ := fig_ex hp0 (nPe P) t (fun i hi => (htw i hi).1)
    have hpw := pw_1024 h4 h5
    refine seg_1304b ha hcs P Z (kAt K 1 D C) S D C b13 w hN hJ hc1 hwu hP hS hl ?_
    intro v H locs ls hv hP hS hl
    have hv := hv.symm
    subst hv
    refine seg_1361 ha hcs P Z (kAt K 1 D C) S D C w hN hJ hP hS hl ?_
    intro v H locs ls hv hP hS hl
    have hv := hv.symm
    subst hv
    refine loop_1370 ha hcs P Z (kAt K 1 D C) S D C w hN h4 h5 ?_ (nPe P + 1) 0 _ H locs ls (by omega) (Nat.zero_le _) hJ hP hS hl
    intro v H locs ls hJ hP hS hl
    refine seg_1390 ha hcs P Z (kAt K 1 D C) S D C w hN hJ hP hS hl ?_
    intro v H locs ls hJ hE hP hS hl
    refine loop_1407 ha hcs P Z (kAt K 1 D C) S D C w t cst hN h4 h5 hwu hct hcl htw hf0 hpw ?_ (nPl P ^ nPe P + 1) 0 v 0 H locs ls (by omega) (Nat.zero_le _) (Or.inl ⟨rfl, Nat.zero_le _⟩) hJ hE hP hS hl
    intro v H locs ls hJ hP hS hl
    refine seg_1515 ha hcs P Z (kAt K 1 D C) S D C hN hJ hP hS hl ?_
    intro v H locs ls hv hP hS hl
    have hv := hv.symm
    subst hv
    exact hgo _ _ _ _ hJ hP hS hl

end SC11

