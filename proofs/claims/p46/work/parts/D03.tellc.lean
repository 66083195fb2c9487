
section SD03
variable {p : Program} {l : Launch} {e : Env} {s : State} {m : MethodId} {args : Array Value} {below : List Frame} {meth : Method} {c : Code} {H : Heap} {locs : List Loc} {cells slots : Nat} {Q : State → Prop} {ls : Array Slot} {G : GT}
set_option maxHeartbeats 4000000 in
set_option maxRecDepth 100000 in
theorem tl_3 (ha : Amb p c cL_tells 9 s args RL m meth (some .boolean) G 74) (hcs : cells ≤ room_t.cells ∧ slots ≤ room_t.slots)  
    (kout : ∀ (v : Mem)  (H : Heap) (locs : List Loc) (ls : Array Slot), OKm v → va_P G.2.1 vwCl (wl G 74 (cX G v)) H → va_S (xA G 74 s.heap.size) s.heap H locs → lv_has ls 9 [(0, .ref (G.1 0)), (1, .ref (G.1 1000)), (2, .ref (G.1 72)), (3, .ref (G.1 73)), (4, .int 4), (5, .int 5)] → W p l e room_t s m args below meth c H locs cells slots Q (F0 m 21 ls []))
    : ∀ (dd j : Nat) (u : Mem)  (H : Heap) (locs : List Loc) (ls : Array Slot), 24 - j < dd → j ≤ 24 → OKm u → va_P G.2.1 vwCl (wl G 74 (cX G u)) H → va_S (xA G 74 s.heap.size) s.heap H locs → lv_has ls 9 [(0, .ref (G.1 0)), (1, .ref (G.1 1000)), (2, .ref (G.1 72)), (3, .ref (G.1 73)), (4, .int 4), (5, .int 5), (6, .int (nI j))] → W p l e room_t s m args below meth c H locs cells slots Q (F0 m 3 ls []) := by
  intro dd
  induction dd with
  | zero => intro j u  H locs ls hd; exact absurd hd (Nat.not_lt_zero _)
  | succ dd ih =>
    intro j u  H locs ls hd hj0 hO hP hS hl
    refine ts_3 ha hcs j hO hj0 hP hS hl ?_ ?_
    · intro v H locs ls hv hP hS hl
      have hv := hv.symm
      subst hv
      exact kout _ _ _ _ hO hP hS hl
    · intro v H locs ls hO hj hP hS hl
      exact ih (j + 1) v H locs ls (by omega) (by omega) hO hP hS hl

set_option maxHeartbeats 4000000 in
set_option maxRecDepth 100000 in
theorem tl_24 (ha : Amb p c cL_tells 9 s args RL m meth (some .boolean) G 74) (hcs : cells ≤ room_t.cells ∧ slots ≤ room_t.slots)  
    (kout : ∀ (v : Mem)  (H : Heap) (locs : List Loc) (ls : Array Slot), OKm v → va_P G.2.1 vwCl (wl G 74 (cX G v)) H → va_S (xA G 74 s.heap.size) s.heap H locs → lv_has ls 9 [(0, .ref (G.1 0)), (1, .ref (G.1 1000)), (2, .ref (G.1 72)), (3, .ref (G.1 73)), (4, .int 4), (5, .int 5)] → W p l e room_t s m args below meth c H locs cells slots Q (F0 m 60 ls []))
    : ∀ (dd j : Nat) (u : Mem)  (H : Heap) (locs : List Loc) (ls : Array Slot), 12 - j < dd → j ≤ 12 → OKm u → va_P G.2.1 vwCl (wl G 74 (cX G u)) H → va_S (xA G 74 s.heap.size) s.heap H locs → lv_has ls 9 [(0, .ref (G.1 0)), (1, .ref (G.1 1000)), (2, .ref (G.1 72)), (3, .ref (G.1 73)), (4, .int 4), (5, .int 5), (6, .int (nI j))] → W p l e room_t s m args below meth c H locs cells slots Q (F0 m 24 ls []) := by
  intro dd
  induction dd with
  | zero => intro j u  H locs ls hd; exact absurd hd (Nat.not_lt_zero _)
  | succ dd ih =>
    intro j u  H locs ls hd hj0 hO hP hS hl
    refine ts_24 ha hcs j hO hj0 hP hS hl ?_ ?_
    · intro v H locs ls hv hP hS hl
      have hv := hv.symm
      subst hv
      exact kout _ _ _ _ hO hP hS hl
    · intro v H locs ls hO hj hP hS hl
      exact ih (j + 1) v H locs ls (by omega) (by omega) hO hP hS hl

set_option maxHeartbeats 4000000 in
set_option maxRecDepth 100000 in
theorem tl_121 (ha : Amb p c cL_tells 9 s args RL m meth (some .boolean) G 74) (hcs : cells ≤ room_t.cells ∧ slots ≤ room_t.slots) (KM : Nat) (IM : Nat) (hK1 : 1 ≤ KM) (hK4 : KM ≤ 4) (hI1 : 1 ≤ IM) (hI5 : IM ≤ 5)
    (kout : ∀ (v : Mem) (n : Nat) (H : Heap) (locs : List Loc) (ls : Array Slot), TX KM IM n 0 KM 0 v → n ≤ 2 + 6 * KM → KM ≤ n → va_P G.2.1 vwCl (wl G 74 (cX G v)) H → va_S (xA G 74 s.heap.size) s.heap H locs → lv_has ls 9 [(0, .ref (G.1 0)), (1, .ref (G.1 1000)), (2, .ref (G.1 72)), (3, .ref (G.1 73)), (4, .int 4), (5, .int 5), (7, .int (nI n))] → W p l e room_t s m args below meth c H locs cells slots Q (F0 m 309 ls []))
    : ∀ (dd k : Nat) (u : Mem) (n : Nat) (H : Heap) (locs : List Loc) (ls : Array Slot), KM - k < dd → k ≤ KM → TX KM IM n 0 k 0 u → n ≤ 2 + 6 * k → k ≤ n → va_P G.2.1 vwCl (wl G 74 (cX G u)) H → va_S (xA G 74 s.heap.size) s.heap H locs → lv_has ls 9 [(0, .ref (G.1 0)), (1, .ref (G.1 1000)), (2, .ref (G.1 72)), (3, .ref (G.1 73)), (4, .int 4), (5, .int 5), (7, .int (nI n)), (8, .int (nI k))] → W p l e room_t s m args below meth c H locs cells slots Q (F0 m 121 ls []) := by
  intro dd
  induction dd with
  | zero => intro k u n H locs ls hd; exact absurd hd (Nat.not_lt_zero _)
  | succ dd ih =>
    intro k u n H locs ls hd hk0 hT hn hlo hP hS hl
    refine ts_121 ha hcs KM IM n k hT hK1 hK4 hI1 hI5 hk0 hn hlo hP hS hl ?_ ?_
    · intro v H locs ls hv hk hP hS hl
      have hv := hv.symm
      subst hv
      rw [hk] at hT hn hlo
      exact kout _ n _ _ _ hT hn hlo hP hS hl
    · intro v n9 H locs ls hT hk hn hlo hP hS hl
      exact ih (k + 1) v n9 H locs ls (by omega) (by omega) hT hn hlo hP hS hl

set_option maxHeartbeats 4000000 in
set_option maxRecDepth 100000 in
theorem tl_312 (ha : Amb p c cL_tells 9 s args RL m meth (some .boolean) G 74) (hcs : cells ≤ room_t.cells ∧ slots ≤ room_t.slots) (KM : Nat) (IM : Nat) (hK1 : 1 ≤ KM) (hK4 : KM ≤ 4) (hI1 : 1 ≤ IM) (hI5 : IM ≤ 5)
    (kout : ∀ (v : Mem) (n : Nat) (H : Heap) (locs : List Loc) (ls : Array Slot), TX KM IM n 0 KM IM v → n ≤ 60 → KM ≤ n → va_P G.2.1 vwCl (wl G 74 (cX G v)) H → va_S (xA G 74 s.heap.size) s.heap H locs → lv_has ls 9 [(0, .ref (G.1 0)), (1, .ref (G.1 1000)), (2, .ref (G.1 72)), (3, .ref (G.1 73)), (4, .int 4), (5, .int 5), (7, .int (nI n))] → W p l e room_t s m args below meth c H locs cells slots Q (F0 m 436 ls []))
    : ∀ (dd i : Nat) (u : Mem) (n : Nat) (H : Heap) (locs : List Loc) (ls : Array Slot), IM - i < dd → i ≤ IM → TX KM IM n 0 KM i u → n ≤ 2 + 6 * KM + 5 * i → KM ≤ n → va_P G.2.1 vwCl (wl G 74 (cX G u)) H → va_S (xA G 74 s.heap.size) s.heap H locs → lv_has ls 9 [(0, .ref (G.1 0)), (1, .ref (G.1 1000)), (2, .ref (G.1 72)), (3, .ref (G.1 73)), (4, .int 4), (5, .int 5), (7, .int (nI n)), (8, .int (nI i))] → W p l e room_t s m args below meth c H locs cells slots Q (F0 m 312 ls []) := by
  intro dd
  induction dd with
  | zero => intro i u n H locs ls hd; exact absurd hd (Nat.not_lt_zero _)
  | succ dd ih =>
    intro i u n H locs ls hd hi0 hT hn hlo hP hS hl
    refine ts_312 ha hcs KM IM n i hT hK1 hK4 hI1 hI5 hi0 hn hlo hP hS hl ?_ ?_
    · intro v H locs ls hv hi hP hS hl
      have hv := hv.symm
      subst hv
      rw [hi] at hT hn
      exact kout _ n _ _ _ hT (by omega) hlo hP hS hl
    · intro v n9 H locs ls hT hi hn hlo hP hS hl
      exact ih (i + 1) v n9 H locs ls (by omega) (by omega) hT hn hlo hP hS hl

set_option maxHeartbeats 4000000 in
set_option maxRecDepth 100000 in
theorem c_L_tells (G : GT) (l : Launch) (σ : Mem) (hO : OKm σ) : CI G 74 (cX G) l yL_tells room_t cL_tells 9 (some .boolean) [.ref (G.1 0), .ref (G.1 1000), .ref (G.1 72), .ref (G.1 73), .int 4, .int 5] σ (fun (r : Int32) u => r = 1 ∧ ∃ P Z, NV P Z ∧ J P Z K00 bgP 0 (fun _ => 0) u) := by
  intro sz
  refine xbegin (by decide) (Nat.le_of_ble_eq_true rfl) ?_
  intro p e s m below meth c ls hsz ha hP hl
  subst hsz
  have hS : va_S (xA G 74 s.heap.size) s.heap s.heap [] := va_S.rf
  have hl : lv_has ls 9 [(0, .ref (G.1 0)), (1, .ref (G.1 1000)), (2, .ref (G.1 72)), (3, .ref (G.1 73)), (4, .int 4), (5, .int 5)] := hl
  have hcs : (0 : Nat) ≤ room_t.cells ∧ (0 : Nat) ≤ room_t.slots := ⟨Nat.le_refl _, Nat.le_refl _⟩
  refine ts_0 ha hcs hP hS hl ?_
  intro v H locs ls hv hP hS hl
  have hv := hv.symm
  subst hv
  refine tl_3 ha hcs ?_ 25 0 _ H locs ls (by omega) (Nat.zero_le _) hO hP hS hl
  intro v H locs ls hO hP hS hl
  refine ts_21 ha hcs hP hS hl ?_
  intro v H locs ls hv hP hS hl
  have hv := hv.symm
  subst hv
  refine tl_24 ha hcs ?_ 13 0 _ H locs ls (by omega) (Nat.zero_le _) hO hP hS hl
  intro v H locs ls hO hP hS hl
  refine ts_60 ha hcs hO hP hS hl ?_
  intro v KM IM n H locs ls hT hK1 hK4 hI1 hI5 hn hP hS hl
  refine tl_121 ha hcs KM IM hK1 hK4 hI1 hI5 ?_ (KM + 1) 0 v n H locs ls (by omega) (Nat.zero_le _) hT (by omega) (Nat.zero_le _) hP hS hl
  intro v n H locs ls hT hn hlo hP hS hl
  refine ts_309 ha hcs n hP hS hl ?_
  intro v H locs ls hv hP hS hl
  have hv := hv.symm
  subst hv
  refine tl_312 ha hcs KM IM hK1 hK4 hI1 hI5 ?_ (IM + 1) 0 _ n H locs ls (by omega) (Nat.zero_le _) hT (by omega) hlo hP hS hl
  intro v n H locs ls hT hn hlo hP hS hl
  refine ts_436 ha hcs KM IM n hT hK1 hK4 hI1 hI5 hn hlo hP hS hl ?_
  intro v P Z H locs ls hN hJ hZ0 hP hS hl
  refine ts_456 ha hcs P Z KM hN hJ hZ0 hP hS hl ?_
  intro v H locs ls hv hP hS hl
  have hv := hv.symm
  subst hv
  exact xzret ha hP hS rfl dL_tells_539 ⟨rfl, P, Z, hN, hJ⟩ rfl

end SD03

