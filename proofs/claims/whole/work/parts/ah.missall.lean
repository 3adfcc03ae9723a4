/-! THE REFERENCE'S MISSES: all accesses -/
def MR (f i A : Nat) (g b : CH) : Prop := ∀ j, j < f → hI b A j = hI g (340 + 2 + j) 0 ∧ hI b (A + 3) j = hI g (340 + 2 + j) 7 ∧ (∃ u, u < i ∧ hI g (340 + 2 + j) 5 = nI (u + 1) ∧ hI b (A + 1) j = nI u) ∧ ∃ c, c < i ∧ hI g (340 + 2 + j) 6 = nI (c + 1) ∧ hI b (A + 2) j = nI c
def BK (A : Nat) (b1 b : CH) : Prop := hT b = hT b1 ∧ hR b = hR b1 ∧ hN b = hN b1 ∧ hJ b = hJ b1 ∧ ∀ x k, x < A → hI b x k = hI b1 x k
theorem BK_sI {A x k : Nat} {v : Int32} {b1 b : CH} (H : BK A b1 b) (hx : A ≤ x) : BK A b1 (sI b x k v) := ⟨H.1, H.2.1, H.2.2.1, H.2.2.2.1, fun y j hy => (hI_ne (by omega)).trans (H.2.2.2.2 y j hy)⟩
theorem mr_use {n f hd i A j : Nat} {g b : CH} (C : CP n f hd i g) (M : MR f i A g b) (hj : j < f) : MR f (i + 1) A (cNx (cUse g 340 j) 335 i j) (sI (sI b (A + 1) j (nI i)) (A + 3) j 1) := fun x hx => by
  obtain ⟨m1, m2, ⟨u, u1, u2, u3⟩, c, c1, c2, c3⟩ := M x hx
  have e5 := C.2.2.2.2.1
  have g0 : hI (cNx (cUse g 340 j) 335 i j) (340 + 2 + x) 0 = hI g (340 + 2 + x) 0 := by rw [use_cell, if_neg (by omega), if_neg (by omega), if_neg (by omega), if_neg (by omega)]
  have g6 : hI (cNx (cUse g 340 j) 335 i j) (340 + 2 + x) 6 = hI g (340 + 2 + x) 6 := by rw [use_cell, if_neg (by omega), if_neg (by omega), if_neg (by omega), if_neg (by omega)]
  rw [g0, g6, hI_ne (a := A + 3) (b := A) (by omega), hI_ne (a := A + 1) (b := A) (by omega), hI_ne (a := A + 3) (b := A + 2) (by omega), hI_ne (a := A + 1) (b := A + 2) (by omega), hI_ne (a := A + 3) (b := A + 1) (by omega)]
  by_cases e : x = j
  · subst e
    rw [hI_eq, hI_eq]
    have g7 : hI (cNx (cUse g 340 x) 335 i x) (340 + 2 + x) 7 = 1 := by rw [use_cell, if_neg (by omega), if_pos ⟨rfl, rfl⟩]
    have g5 : hI (cNx (cUse g 340 x) 335 i x) (340 + 2 + x) 5 = nI (i + 1) := by rw [use_cell, if_neg (by omega), if_neg (by omega), if_pos ⟨rfl, rfl⟩, e5, nI_1]
    exact ⟨m1, g7.symm, ⟨i, by omega, g5, rfl⟩, c, by omega, c2, c3⟩
  · have g7 : hI (cNx (cUse g 340 j) 335 i j) (340 + 2 + x) 7 = hI g (340 + 2 + x) 7 := by rw [use_cell, if_neg (by omega), if_neg (by omega), if_neg (by omega), if_neg (by omega)]
    have g5 : hI (cNx (cUse g 340 j) 335 i j) (340 + 2 + x) 5 = hI g (340 + 2 + x) 5 := by rw [use_cell, if_neg (by omega), if_neg (by omega), if_neg (by omega), if_neg (by omega)]
    rw [g7, g5]
    simp only [hI_nk e]
    exact ⟨m1, m2, ⟨u, by omega, u2, u3⟩, c, by omega, c2, c3⟩
theorem mr_come {n f hd i A v p : Nat} {g b : CH} (C : CP n f hd i g) (h16 : n ≤ 16) (M : MR f i A g b) (hv : (v = f ∧ f < n) ∨ v < f) : MR (if v = f then f + 1 else f) (i + 1) A (cNx (cCome g 340 v (nI p) 0) 335 i v) (sI (sI (sI (sI b A v (nI p)) (A + 2) v (nI i)) (A + 1) v (nI i)) (A + 3) v 1) := fun x hx => by
  have e5 := C.2.2.2.2.1
  have hv16 : v < 16 := by have := C.1; omega
  rw [hI_ne (a := A + 3) (b := A) (by omega), hI_ne (a := A + 1) (b := A) (by omega), hI_ne (a := A + 2) (b := A) (by omega), hI_ne (a := A + 3) (b := A + 2) (by omega), hI_ne (a := A + 1) (b := A + 2) (by omega), hI_ne (a := A + 3) (b := A + 1) (by omega)]
  by_cases e : x = v
  · subst e
    rw [hI_eq, hI_eq, hI_eq, hI_eq]
    have gk : ∀ k, hI (cNx (cCome g 340 x (nI p) 0) 335 i x) (340 + 2 + x) k = (if k = 0 then nI p else if k = 1 then 0 else if k = 5 ∨ k = 6 then hI g 340 3 + 1 else if k = 7 then 1 else if k = 2 ∨ k = 3 ∨ k = 8 ∨ k = 9 then 0 else hI g (340 + 2 + x) k) := fun k => by
      rw [come_cell hv16, if_neg (by omega), if_neg (by omega), if_pos rfl]
    have g5 : hI g 340 3 + 1 = nI (i + 1) := by rw [e5, nI_1]
    rw [gk, gk, gk, gk, g5]
    exact ⟨rfl, rfl, ⟨i, by omega, rfl, rfl⟩, i, by omega, rfl, rfl⟩
  · obtain ⟨m1, m2, ⟨u, u1, u2, u3⟩, c, c1, c2, c3⟩ := M x (by split at hx <;> omega)
    have gk : ∀ k, hI (cNx (cCome g 340 v (nI p) 0) 335 i v) (340 + 2 + x) k = hI g (340 + 2 + x) k := fun k => by
      rw [come_cell hv16, if_neg (by omega), if_neg (by omega), if_neg (by omega)]
    rw [gk, gk, gk, gk]
    simp only [hI_nk e]
    exact ⟨m1, m2, ⟨u, by omega, u2, u3⟩, c, by omega, c2, c3⟩
theorem more_cmp : ∀ x, x < 102 → ∀ y, y < 102 → ((0 : Int32) < nI x - nI y ↔ y < x) ∧ (nI x - nI y = 0 ↔ x = y) := by decide +kernel
theorem nI_sI {u v : Nat} (hu : u < 1000) (hv : v < 1000) : nI (u + 1) < nI (v + 1) ↔ nI u < nI v := by
  rw [nI_ltI (by omega) (by omega), nI_ltI (by omega) (by omega)]
  omega
theorem nI_sL {u v : Nat} (hu : u < 1000) (hv : v < 1000) : nI u < nI v ↔ u < v := nI_ltI (by omega) (by omega)
/-- the choice by the time of use or of coming -/
theorem bet_old {f i A j fj : Nat} {pol more : Int32} {g b : CH} (M : MR f i A g b) (hi : i ≤ 100) (hj : j < f) (hf : fj < f) (hp : pol = 108 ∨ pol = 102) : Bet b A pol more j fj ↔ cKey g 340 pol j < cKey g 340 pol fj := by
  obtain ⟨m1, m2, ⟨u, u1, u2, u3⟩, c, c1, c2, c3⟩ := M j hj
  obtain ⟨n1, n2, ⟨v, v1, v2, v3⟩, d, d1, d2, d3⟩ := M fj hf
  unfold Bet cKey
  rcases hp with h | h
  · subst h
    rw [if_pos rfl, if_neg (show ¬ (108 : Int32) = 102 by decide), if_neg (show ¬ (108 : Int32) = 102 by decide), u2, u3, v2, v3]
    exact (nI_sI (by omega) (by omega)).symm
  · subst h
    rw [if_neg (show ¬ (102 : Int32) = 108 by decide), if_pos rfl, if_pos rfl, if_pos rfl, c2, c3, d2, d3]
    exact (nI_sI (by omega) (by omega)).symm
/-- the choice by the next use -/
theorem bet_far {s : Nat → Nat} {L n hd i A j fj : Nat} {g b : CH} (C : CP n n hd i g) (M : MR n i A g b) (hi : i < L) (h100 : L ≤ 100) (N : NX s L i n g) (hno : ∀ x, x < n → ¬ spT g x = s i) (hj : j < n) (hf : fj < n) : Bet b A 98 (nI (nxF s (spT g j) 101 (L - (i + 1)) (i + 1)) - nI (nxF s (spT g fj) 101 (L - (i + 1)) (i + 1))) j fj ↔ Farer g 335 j fj := by
  have m1 := (M j hj).1
  have n1 := (M fj hf).1
  have k1 := N j hj
  have k2 := N fj hf
  obtain ⟨q, hq⟩ : ∃ q, L - i = q + 1 := ⟨L - i - 1, by omega⟩
  rw [hq, nxF_no (fun z => hno _ hj z.symm), show q = L - (i + 1) by omega] at k1
  rw [hq, nxF_no (fun z => hno _ hf z.symm), show q = L - (i + 1) by omega] at k2
  have cmp := nxF_cmp (s := s) (p := spT g j) (q := spT g fj) (m := L - (i + 1)) (k := i + 1) (by omega)
  have cmp2 := nxF_cmp (s := s) (p := spT g fj) (q := spT g j) (m := L - (i + 1)) (k := i + 1) (by omega)
  have b1 := nxF_in (s := s) (p := spT g j) (d := 101) (L - (i + 1)) (i + 1)
  have b2 := nxF_in (s := s) (p := spT g fj) (d := 101) (L - (i + 1)) (i + 1)
  have d1 := nxF_in (s := s) (p := spT g j) (d := 100) (L - (i + 1)) (i + 1)
  have d2 := nxF_in (s := s) (p := spT g fj) (d := 100) (L - (i + 1)) (i + 1)
  generalize nxF s (spT g j) 100 (L - (i + 1)) (i + 1) = x0 at k1 cmp cmp2 d1
  generalize nxF s (spT g fj) 100 (L - (i + 1)) (i + 1) = y0 at k2 cmp cmp2 d2
  generalize nxF s (spT g j) 101 (L - (i + 1)) (i + 1) = x1 at b1 cmp cmp2 ⊢
  generalize nxF s (spT g fj) 101 (L - (i + 1)) (i + 1) = y1 at b2 cmp cmp2 ⊢
  obtain ⟨e1, e2⟩ := more_cmp x1 (by omega) y1 (by omega)
  unfold Bet
  rw [if_neg (show ¬ (98 : Int32) = 108 by decide), if_neg (show ¬ (98 : Int32) = 102 by decide), e1, e2, m1, n1]
  show _ ↔ (hI g 339 fj < hI g 339 j ∨ (hI g 339 j = hI g 339 fj ∧ hI g (340 + 2 + j) 0 < hI g (340 + 2 + fj) 0))
  rw [k1, k2, nI_sL (by omega) (by omega), nI_eq (by omega) (by omega), cmp2.1, cmp.2]
theorem far_lt {g : CH} : ∀ n, cFar g 335 (n + 1) < n + 1 := fun n => by
  rcases cFar_lt (h := g) (ta := 335) (n + 1) with e | e
  · exact e
  · omega
theorem miss_loop {X : XT} {Q : QT} {b1 : CH} {s : Nat → Nat} {L n A S : Nat} {pol : Int32} (hX : Clo kX12_missed X Q) (h1 : 1 ≤ n) (h16 : n ≤ 16) (hA : 373 ≤ A) (hS : S ≤ 64) (hp : pol = 98 ∨ pol = 108 ∨ pol = 102 ∨ pol = 99) (T1 : LT b1 L s) (B1 : BT b1 A n) : ∀ (m i w f hd : Nat) (g b : CH) (x1 x2 x3 x4 : Value), i + m = L → CP n f hd i g → (∀ k, k < L → hI g 336 k = nI (s k)) → (pol = 98 → NX s L i f g) → (pol = 98 → ∀ k, k < L → hI g 337 k = nI (nxF s (s k) 100 (L - (k + 1)) (k + 1))) → MR f i A g b → BK A b1 b → (∀ b', BK A b1 b' → Q (.inl [.int (cMs 335 n pol m i w g).2]) b') → X 31 [.ref 361, .int pol, .int (nI n), .ref A, .ref (A + 1), .ref (A + 2), .ref (A + 3), .int (nI f), .int (nI hd), .int (nI w), .int (nI i), x1, x2, x3, x4] [] b 4 S := by
  intro m
  induction m with
  | zero =>
    intro i w f hd g b x1 x2 x3 x4 hm C h6 N h7 M K k
    have T := LT_cg T1 K.1 K.2.1 (K.2.2.2.2 372 2 (by omega))
    obtain ⟨t0, t1, t2, t3, ⟨cap, t4, t5, t6⟩, t7, t8⟩ := id T
    (refine go mX12_missed hX [49] 400 ?_; conv => whnf)
    repeat (first | (refine rs ?_; conv => whnf) | unfold k_call | ((with_reducible refine And.intro ?_ ?_); (first | (first | assumption | rfl | exact True.intro | exact Nat.le_of_ble_eq_true rfl | exact Or.inl rfl | exact Or.inr rfl | exact okv3 (by assumption) | decide | (focus (simp (disch := omega) only [t0, t1, t2, nI_clamp, vp_in_nI, hT_sI, hR_sI, hT_sJ, hR_sJ, hT_sR, hI_sJ, hI_sR, hJ_sI, hJ_sR, hI_eq, hI_ne, hI_nk]; done)) | (focus (simp (disch := omega) only [t0, t1, t2, nI_clamp, vp_in_nI, hT_sI, hR_sI, hT_sJ, hR_sJ, hT_sR, hI_sJ, hI_sR, hJ_sI, hJ_sR, hI_eq, hI_ne, hI_nk]; first | assumption | exact okv3 (by assumption)))) | (focus (refine ⟨_, rfl, ?_⟩; (first | assumption | rfl | exact True.intro | exact Nat.le_of_ble_eq_true rfl | exact Or.inl rfl | exact Or.inr rfl | exact okv3 (by assumption) | decide | (focus (simp (disch := omega) only [t0, t1, t2, nI_clamp, vp_in_nI, hT_sI, hR_sI, hT_sJ, hR_sJ, hT_sR, hI_sJ, hI_sR, hJ_sI, hJ_sR, hI_eq, hI_ne, hI_nk]; done)) | (focus (simp (disch := omega) only [t0, t1, t2, nI_clamp, vp_in_nI, hT_sI, hR_sI, hT_sJ, hR_sJ, hT_sR, hI_sJ, hI_sR, hJ_sI, hJ_sR, hI_eq, hI_ne, hI_nk]; first | assumption | exact okv3 (by assumption)))))))))
    (try simp (disch := omega) only [t0, t1, t2, nI_clamp, vp_in_nI, hT_sI, hR_sI, hT_sJ, hR_sJ, hT_sR, hI_sJ, hI_sR, hJ_sI, hJ_sR, hI_eq, hI_ne, hI_nk])
    repeat (first | (refine rs ?_; conv => whnf) | unfold k_call | ((with_reducible refine And.intro ?_ ?_); (first | (first | assumption | rfl | exact True.intro | exact Nat.le_of_ble_eq_true rfl | exact Or.inl rfl | exact Or.inr rfl | exact okv3 (by assumption) | decide | (focus (simp (disch := omega) only [t0, t1, t2, nI_clamp, vp_in_nI, hT_sI, hR_sI, hT_sJ, hR_sJ, hT_sR, hI_sJ, hI_sR, hJ_sI, hJ_sR, hI_eq, hI_ne, hI_nk]; done)) | (focus (simp (disch := omega) only [t0, t1, t2, nI_clamp, vp_in_nI, hT_sI, hR_sI, hT_sJ, hR_sJ, hT_sR, hI_sJ, hI_sR, hJ_sI, hJ_sR, hI_eq, hI_ne, hI_nk]; first | assumption | exact okv3 (by assumption)))) | (focus (refine ⟨_, rfl, ?_⟩; (first | assumption | rfl | exact True.intro | exact Nat.le_of_ble_eq_true rfl | exact Or.inl rfl | exact Or.inr rfl | exact okv3 (by assumption) | decide | (focus (simp (disch := omega) only [t0, t1, t2, nI_clamp, vp_in_nI, hT_sI, hR_sI, hT_sJ, hR_sJ, hT_sR, hI_sJ, hI_sR, hJ_sI, hJ_sR, hI_eq, hI_ne, hI_nk]; done)) | (focus (simp (disch := omega) only [t0, t1, t2, nI_clamp, vp_in_nI, hT_sI, hR_sI, hT_sJ, hR_sJ, hT_sR, hI_sJ, hI_sR, hJ_sI, hJ_sR, hI_eq, hI_ne, hI_nk]; first | assumption | exact okv3 (by assumption)))))))))
    refine lsize_ok t2 ?_
    repeat (first | (refine rs ?_; conv => whnf) | unfold k_call | ((with_reducible refine And.intro ?_ ?_); (first | (first | assumption | rfl | exact True.intro | exact Nat.le_of_ble_eq_true rfl | exact Or.inl rfl | exact Or.inr rfl | exact okv3 (by assumption) | decide | (focus (simp (disch := omega) only [t0, t1, t2, nI_clamp, vp_in_nI, hT_sI, hR_sI, hT_sJ, hR_sJ, hT_sR, hI_sJ, hI_sR, hJ_sI, hJ_sR, hI_eq, hI_ne, hI_nk]; done)) | (focus (simp (disch := omega) only [t0, t1, t2, nI_clamp, vp_in_nI, hT_sI, hR_sI, hT_sJ, hR_sJ, hT_sR, hI_sJ, hI_sR, hJ_sI, hJ_sR, hI_eq, hI_ne, hI_nk]; first | assumption | exact okv3 (by assumption)))) | (focus (refine ⟨_, rfl, ?_⟩; (first | assumption | rfl | exact True.intro | exact Nat.le_of_ble_eq_true rfl | exact Or.inl rfl | exact Or.inr rfl | exact okv3 (by assumption) | decide | (focus (simp (disch := omega) only [t0, t1, t2, nI_clamp, vp_in_nI, hT_sI, hR_sI, hT_sJ, hR_sJ, hT_sR, hI_sJ, hI_sR, hJ_sI, hJ_sR, hI_eq, hI_ne, hI_nk]; done)) | (focus (simp (disch := omega) only [t0, t1, t2, nI_clamp, vp_in_nI, hT_sI, hR_sI, hT_sJ, hR_sJ, hT_sR, hI_sJ, hI_sR, hJ_sI, hJ_sR, hI_eq, hI_ne, hI_nk]; first | assumption | exact okv3 (by assumption)))))))))
    rw [t3]
    refine br_t (nI_le (a := L) (b := i) (by omega) (by omega)) ?_
    repeat (first | (refine rs ?_; conv => whnf) | unfold k_call | ((with_reducible refine And.intro ?_ ?_); (first | (first | assumption | rfl | exact True.intro | exact Nat.le_of_ble_eq_true rfl | exact Or.inl rfl | exact Or.inr rfl | exact okv3 (by assumption) | decide | (focus (simp (disch := omega) only [t0, t1, t2, nI_clamp, vp_in_nI, hT_sI, hR_sI, hT_sJ, hR_sJ, hT_sR, hI_sJ, hI_sR, hJ_sI, hJ_sR, hI_eq, hI_ne, hI_nk]; done)) | (focus (simp (disch := omega) only [t0, t1, t2, nI_clamp, vp_in_nI, hT_sI, hR_sI, hT_sJ, hR_sJ, hT_sR, hI_sJ, hI_sR, hJ_sI, hJ_sR, hI_eq, hI_ne, hI_nk]; first | assumption | exact okv3 (by assumption)))) | (focus (refine ⟨_, rfl, ?_⟩; (first | assumption | rfl | exact True.intro | exact Nat.le_of_ble_eq_true rfl | exact Or.inl rfl | exact Or.inr rfl | exact okv3 (by assumption) | decide | (focus (simp (disch := omega) only [t0, t1, t2, nI_clamp, vp_in_nI, hT_sI, hR_sI, hT_sJ, hR_sJ, hT_sR, hI_sJ, hI_sR, hJ_sI, hJ_sR, hI_eq, hI_ne, hI_nk]; done)) | (focus (simp (disch := omega) only [t0, t1, t2, nI_clamp, vp_in_nI, hT_sI, hR_sI, hT_sJ, hR_sJ, hT_sR, hI_sJ, hI_sR, hJ_sI, hJ_sR, hI_eq, hI_ne, hI_nk]; first | assumption | exact okv3 (by assumption)))))))))
    exact k b K
  | succ m ih =>
    intro i w f hd g b x1 x2 x3 x4 hm C h6 N h7 M K k
    have T := LT_cg T1 K.1 K.2.1 (K.2.2.2.2 372 2 (by omega))
    have B := BT_cg B1 K.1
    obtain ⟨t0, t1, t2, t3, ⟨cap, t4, t5, t6⟩, t7, t8⟩ := id T
    have hi : i < L := by omega
    have c1 := C.1
    have c2 := C.2.1
    have c8 := C.2.2.2.2.2.2.2.1
    have c9 := C.2.2.2.2.2.2.2.2
    have hsp : ∀ j, j < f → hI b A j = nI (spT g j) ∧ spT g j < 128 := fun j hj => ⟨(M j hj).1.trans (c8 j hj).1, (c8 j hj).2⟩
    obtain ⟨v1, v2⟩ := t8 i hi
    have h6i := h6 i hi
    (refine go mX12_missed hX [49] 400 ?_; conv => whnf)
    repeat (first | (refine rs ?_; conv => whnf) | unfold k_call | ((with_reducible refine And.intro ?_ ?_); (first | (first | assumption | rfl | exact True.intro | exact Nat.le_of_ble_eq_true rfl | exact Or.inl rfl | exact Or.inr rfl | exact okv3 (by assumption) | decide | (focus (simp (disch := omega) only [t0, t1, t2, nI_clamp, vp_in_nI, hT_sI, hR_sI, hT_sJ, hR_sJ, hT_sR, hI_sJ, hI_sR, hJ_sI, hJ_sR, hI_eq, hI_ne, hI_nk]; done)) | (focus (simp (disch := omega) only [t0, t1, t2, nI_clamp, vp_in_nI, hT_sI, hR_sI, hT_sJ, hR_sJ, hT_sR, hI_sJ, hI_sR, hJ_sI, hJ_sR, hI_eq, hI_ne, hI_nk]; first | assumption | exact okv3 (by assumption)))) | (focus (refine ⟨_, rfl, ?_⟩; (first | assumption | rfl | exact True.intro | exact Nat.le_of_ble_eq_true rfl | exact Or.inl rfl | exact Or.inr rfl | exact okv3 (by assumption) | decide | (focus (simp (disch := omega) only [t0, t1, t2, nI_clamp, vp_in_nI, hT_sI, hR_sI, hT_sJ, hR_sJ, hT_sR, hI_sJ, hI_sR, hJ_sI, hJ_sR, hI_eq, hI_ne, hI_nk]; done)) | (focus (simp (disch := omega) only [t0, t1, t2, nI_clamp, vp_in_nI, hT_sI, hR_sI, hT_sJ, hR_sJ, hT_sR, hI_sJ, hI_sR, hJ_sI, hJ_sR, hI_eq, hI_ne, hI_nk]; first | assumption | exact okv3 (by assumption)))))))))
    (try simp (disch := omega) only [t0, t1, t2, nI_clamp, vp_in_nI, hT_sI, hR_sI, hT_sJ, hR_sJ, hT_sR, hI_sJ, hI_sR, hJ_sI, hJ_sR, hI_eq, hI_ne, hI_nk])
    repeat (first | (refine rs ?_; conv => whnf) | unfold k_call | ((with_reducible refine And.intro ?_ ?_); (first | (first | assumption | rfl | exact True.intro | exact Nat.le_of_ble_eq_true rfl | exact Or.inl rfl | exact Or.inr rfl | exact okv3 (by assumption) | decide | (focus (simp (disch := omega) only [t0, t1, t2, nI_clamp, vp_in_nI, hT_sI, hR_sI, hT_sJ, hR_sJ, hT_sR, hI_sJ, hI_sR, hJ_sI, hJ_sR, hI_eq, hI_ne, hI_nk]; done)) | (focus (simp (disch := omega) only [t0, t1, t2, nI_clamp, vp_in_nI, hT_sI, hR_sI, hT_sJ, hR_sJ, hT_sR, hI_sJ, hI_sR, hJ_sI, hJ_sR, hI_eq, hI_ne, hI_nk]; first | assumption | exact okv3 (by assumption)))) | (focus (refine ⟨_, rfl, ?_⟩; (first | assumption | rfl | exact True.intro | exact Nat.le_of_ble_eq_true rfl | exact Or.inl rfl | exact Or.inr rfl | exact okv3 (by assumption) | decide | (focus (simp (disch := omega) only [t0, t1, t2, nI_clamp, vp_in_nI, hT_sI, hR_sI, hT_sJ, hR_sJ, hT_sR, hI_sJ, hI_sR, hJ_sI, hJ_sR, hI_eq, hI_ne, hI_nk]; done)) | (focus (simp (disch := omega) only [t0, t1, t2, nI_clamp, vp_in_nI, hT_sI, hR_sI, hT_sJ, hR_sJ, hT_sR, hI_sJ, hI_sR, hJ_sI, hJ_sR, hI_eq, hI_ne, hI_nk]; first | assumption | exact okv3 (by assumption)))))))))
    refine lsize_ok t2 ?_
    repeat (first | (refine rs ?_; conv => whnf) | unfold k_call | ((with_reducible refine And.intro ?_ ?_); (first | (first | assumption | rfl | exact True.intro | exact Nat.le_of_ble_eq_true rfl | exact Or.inl rfl | exact Or.inr rfl | exact okv3 (by assumption) | decide | (focus (simp (disch := omega) only [t0, t1, t2, nI_clamp, vp_in_nI, hT_sI, hR_sI, hT_sJ, hR_sJ, hT_sR, hI_sJ, hI_sR, hJ_sI, hJ_sR, hI_eq, hI_ne, hI_nk]; done)) | (focus (simp (disch := omega) only [t0, t1, t2, nI_clamp, vp_in_nI, hT_sI, hR_sI, hT_sJ, hR_sJ, hT_sR, hI_sJ, hI_sR, hJ_sI, hJ_sR, hI_eq, hI_ne, hI_nk]; first | assumption | exact okv3 (by assumption)))) | (focus (refine ⟨_, rfl, ?_⟩; (first | assumption | rfl | exact True.intro | exact Nat.le_of_ble_eq_true rfl | exact Or.inl rfl | exact Or.inr rfl | exact okv3 (by assumption) | decide | (focus (simp (disch := omega) only [t0, t1, t2, nI_clamp, vp_in_nI, hT_sI, hR_sI, hT_sJ, hR_sJ, hT_sR, hI_sJ, hI_sR, hJ_sI, hJ_sR, hI_eq, hI_ne, hI_nk]; done)) | (focus (simp (disch := omega) only [t0, t1, t2, nI_clamp, vp_in_nI, hT_sI, hR_sI, hT_sJ, hR_sJ, hT_sR, hI_sJ, hI_sR, hJ_sI, hJ_sR, hI_eq, hI_ne, hI_nk]; first | assumption | exact okv3 (by assumption)))))))))
    rw [t3]
    refine br_f (nI_ge (a := i) (b := L) (by omega) (by omega)) ?_
    repeat (first | (refine rs ?_; conv => whnf) | unfold k_call | ((with_reducible refine And.intro ?_ ?_); (first | (first | assumption | rfl | exact True.intro | exact Nat.le_of_ble_eq_true rfl | exact Or.inl rfl | exact Or.inr rfl | exact okv3 (by assumption) | decide | (focus (simp (disch := omega) only [t0, t1, t2, nI_clamp, vp_in_nI, hT_sI, hR_sI, hT_sJ, hR_sJ, hT_sR, hI_sJ, hI_sR, hJ_sI, hJ_sR, hI_eq, hI_ne, hI_nk]; done)) | (focus (simp (disch := omega) only [t0, t1, t2, nI_clamp, vp_in_nI, hT_sI, hR_sI, hT_sJ, hR_sJ, hT_sR, hI_sJ, hI_sR, hJ_sI, hJ_sR, hI_eq, hI_ne, hI_nk]; first | assumption | exact okv3 (by assumption)))) | (focus (refine ⟨_, rfl, ?_⟩; (first | assumption | rfl | exact True.intro | exact Nat.le_of_ble_eq_true rfl | exact Or.inl rfl | exact Or.inr rfl | exact okv3 (by assumption) | decide | (focus (simp (disch := omega) only [t0, t1, t2, nI_clamp, vp_in_nI, hT_sI, hR_sI, hT_sJ, hR_sJ, hT_sR, hI_sJ, hI_sR, hJ_sI, hJ_sR, hI_eq, hI_ne, hI_nk]; done)) | (focus (simp (disch := omega) only [t0, t1, t2, nI_clamp, vp_in_nI, hT_sI, hR_sI, hT_sJ, hR_sJ, hT_sR, hI_sJ, hI_sR, hJ_sI, hJ_sR, hI_eq, hI_ne, hI_nk]; first | assumption | exact okv3 (by assumption)))))))))
    refine fd_loop (g := g) (f := f) (s := s) (i := i) (pol := pol) hX T B hsp c1 h16 hi hS ?_ f 0 (by omega)
    by_cases hit : ∃ y, y < f ∧ spT g y = s i
    · obtain ⟨y, hy, ey⟩ := hit
      have e : fdN g (s i) f = nI y := fdN_at ey hy (fun x hx z => c9 x y hx hy (z.trans ey.symm))
      rw [e]
      have u := cp_use C h16 hy
      have k' := k
      rw [ms_hit C h6i v2 hy ey] at k'
      have z := ih (i + 1) w f hd (cNx (cUse g 340 y) 335 i y) (sI (sI b (A + 1) y (nI i)) (A + 3) y 1) (.int (nI y)) (.int (nI f)) x3 x4 (by omega) u.1 (fun k hk => by
        rw [use_cell, if_neg (by omega), if_neg (by omega), if_neg (by omega), if_neg (by omega)]
        exact h6 k hk) (fun q => nx_use C h16 hi (N q) rfl (h7 q i hi) hy ey) (fun q k hk => by
        rw [use_cell, if_neg (by omega), if_neg (by omega), if_neg (by omega), if_neg (by omega)]
        exact h7 q k hk) (mr_use C M hy) (BK_sI (BK_sI K (by omega)) (by omega)) k'
      have z2 := hit_tail hX B (v := y) (by omega) h16 z
      (refine go mX12_missed hX [327] 400 ?_; conv => whnf)
      repeat (first | (refine rs ?_; conv => whnf) | unfold k_call | ((with_reducible refine And.intro ?_ ?_); (first | (first | assumption | rfl | exact True.intro | exact Nat.le_of_ble_eq_true rfl | exact Or.inl rfl | exact Or.inr rfl | exact okv3 (by assumption) | decide | (focus (simp (disch := omega) only [t0, t1, t2, nI_clamp, vp_in_nI, hT_sI, hR_sI, hT_sJ, hR_sJ, hT_sR, hI_sJ, hI_sR, hJ_sI, hJ_sR, hI_eq, hI_ne, hI_nk]; done)) | (focus (simp (disch := omega) only [t0, t1, t2, nI_clamp, vp_in_nI, hT_sI, hR_sI, hT_sJ, hR_sJ, hT_sR, hI_sJ, hI_sR, hJ_sI, hJ_sR, hI_eq, hI_ne, hI_nk]; first | assumption | exact okv3 (by assumption)))) | (focus (refine ⟨_, rfl, ?_⟩; (first | assumption | rfl | exact True.intro | exact Nat.le_of_ble_eq_true rfl | exact Or.inl rfl | exact Or.inr rfl | exact okv3 (by assumption) | decide | (focus (simp (disch := omega) only [t0, t1, t2, nI_clamp, vp_in_nI, hT_sI, hR_sI, hT_sJ, hR_sJ, hT_sR, hI_sJ, hI_sR, hJ_sI, hJ_sR, hI_eq, hI_ne, hI_nk]; done)) | (focus (simp (disch := omega) only [t0, t1, t2, nI_clamp, vp_in_nI, hT_sI, hR_sI, hT_sJ, hR_sJ, hT_sR, hI_sJ, hI_sR, hJ_sI, hJ_sR, hI_eq, hI_ne, hI_nk]; first | assumption | exact okv3 (by assumption)))))))))
      refine br_f (nI_n1 (by omega)) ?_
      exact z2
    · have hno : ∀ j, j < f → ¬ spT g j = s i := fun j hj q => hit ⟨j, hj, q⟩
      rw [fdN_no hno]
      have c118 : f = n → X 118 [.ref 361, .int pol, .int (nI n), .ref A, .ref (A + 1), .ref (A + 2), .ref (A + 3), .int (nI f), .int (nI hd), .int (nI (w + 1)), .int (nI i), .int (-1), .int (nI f), x3, x4] [] b 4 S := fun ef => by
        subst ef
        obtain ⟨g1, v, hd', r1, r2, r3, r4, r5⟩ := room_some (pol := pol) C h16
        have s1 : spT g1 = spT g := funext r5
        have o6 : ∀ k, hI g1 336 k = hI g 336 k := fun k => r3.2.2.2.1 _ _ (by omega) (by omega)
        have o7 : ∀ k, hI g1 337 k = hI g 337 k := fun k => r3.2.2.2.1 _ _ (by omega) (by omega)
        have o9 : ∀ k, hI g1 339 k = hI g 339 k := fun k => r3.2.2.2.1 _ _ (by omega) (by omega)
        have hno1 : ∀ j, j < f → ¬ spT g1 j = s i := by rw [s1]; exact hno
        have n1 : pol = 98 → NX s L i f g1 := fun q j hj => by
          rw [o9, s1]
          exact N q j hj
        have k' := k
        rw [ms_miss C h6i v2 hno r1 (o6 i)] at k'
        have fin : ∀ b2 : CH, MR f i A g1 b2 → BK A b1 b2 → ∀ (y2 : Int32) (x3 x4 : Value), X 301 [.ref 361, .int pol, .int (nI f), .ref A, .ref (A + 1), .ref (A + 2), .ref (A + 3), .int (nI f), .int (nI hd'), .int (nI (w + 1)), .int (nI i), .int (nI v), .int y2, x3, x4] [] b2 4 S := fun b2 M2 K2 y2 x3 x4 => by
          have T2 := LT_cg T1 K2.1 K2.2.1 (K2.2.2.2.2 372 2 (by omega))
          have B2 := BT_cg B1 K2.1
          have cc := cp_come r4 h16 v2 hno1 (j := v) (Or.inr r2)
          have nx := fun q => nx_come (j := v) r4 h16 hi v2 (n1 q) rfl (by rw [o7]; exact h7 q i hi) hno1 (Or.inr r2)
          have mr := mr_come (p := s i) r4 h16 M2 (v := v) (Or.inr r2)
          rw [if_neg (by omega)] at cc nx mr
          have z := ih (i + 1) (w + 1) f hd' (cNx (cCome g1 340 v (nI (s i)) 0) 335 i v) _ (.int (nI v)) (.int y2) x3 x4 (by omega) cc.1 (fun k hk => by
            rw [come_cell (by omega), if_neg (by omega), if_neg (by omega), if_neg (by omega), o6]
            exact h6 k hk) nx (fun q k hk => by
            rw [come_cell (by omega), if_neg (by omega), if_neg (by omega), if_neg (by omega), o7]
            exact h7 q k hk) mr (BK_sI (BK_sI (BK_sI (BK_sI K2 (by omega)) (by omega)) (by omega)) (by omega)) k'
          exact put_tail hX T2 B2 hA r2 h16 hi hS z
        by_cases p99 : pol = 99
        · rw [room_full C h16, if_neg (by rw [p99]; decide), if_pos p99] at r1
          have mk : ∀ j, j < f → hI b (A + 3) j = hI g (340 + 2 + j) 7 := fun j hj => (M j hj).2.1
          have cm : cnt (mkP g) f < 2 * f + 1 := by have := cnt_max (q := mkP g) f; omega
          obtain ⟨w1, w2, w3, w4, w5, w6, w7, w8, w9, w10⟩ := swB_rel (A := A) h16 (2 * f + 1) hd g b C mk cm
          rw [r1] at w1 w4 w5
          have ev : (swB f A (2 * f + 1) hd b).2.1 = v := by
            have w1' : some v = some (swB f A (2 * f + 1) hd b).2.1 := w1
            exact (Option.some.inj w1').symm
          have eh : (swB f A (2 * f + 1) hd b).2.2 = hd' := by
            have w4' : hI g1 340 2 = nI (swB f A (2 * f + 1) hd b).2.2 := w4
            rw [r4.2.2.2.1] at w4'
            have := r4.2.1
            exact ((nI_eq (by omega) (by omega)).mp w4').symm
          have go9 := clk_loop (y1 := -1) (y2 := nI f) (pol := pol) (f := f) (i := i) (w := w + 1) (S := S) (x3 := x3) (x4 := x4) hX h16 (2 * f + 1) hd b B c2 (by
            have e : cnt (fun j => decide (¬ hI b (A + 3) j = 0)) f = cnt (mkP g) f := cnt_cg (fun j hj => by
              unfold mkP
              rw [mk j hj])
            omega) (by
            rw [ev, eh]
            refine fin _ (fun j hj => ?_) ⟨w6.trans K.1, w7.trans K.2.1, w8.trans K.2.2.1, w9.trans K.2.2.2.1, fun x k hx => (w10 x k (by omega)).trans (K.2.2.2.2 x k hx)⟩ _ _ _
            obtain ⟨m1, m2, ⟨u, u1, u2, u3⟩, c, d1, d2, d3⟩ := M j hj
            have oo : ∀ k, ¬ k = 7 → hI g1 (340 + 2 + j) k = hI g (340 + 2 + j) k := fun k hk => r3.2.2.2.1 _ _ (by omega) (by omega)
            rw [oo 0 (by omega), oo 5 (by omega), oo 6 (by omega), w10 A j (by omega), w10 (A + 1) j (by omega), w10 (A + 2) j (by omega)]
            exact ⟨m1, w5 j hj, ⟨u, u1, u2, u3⟩, c, d1, d2, d3⟩)
          (refine go mX12_missed hX [124] 400 ?_; conv => whnf)
          repeat (first | (refine rs ?_; conv => whnf) | unfold k_call | ((with_reducible refine And.intro ?_ ?_); (first | (first | assumption | rfl | exact True.intro | exact Nat.le_of_ble_eq_true rfl | exact Or.inl rfl | exact Or.inr rfl | exact okv3 (by assumption) | decide | (focus (simp (disch := omega) only [nI_clamp, vp_in_nI, hT_sI, hR_sI, hT_sJ, hR_sJ, hT_sR, hI_sJ, hI_sR, hJ_sI, hJ_sR, hI_eq, hI_ne, hI_nk]; done)) | (focus (simp (disch := omega) only [nI_clamp, vp_in_nI, hT_sI, hR_sI, hT_sJ, hR_sJ, hT_sR, hI_sJ, hI_sR, hJ_sI, hJ_sR, hI_eq, hI_ne, hI_nk]; first | assumption | exact okv3 (by assumption)))) | (focus (refine ⟨_, rfl, ?_⟩; (first | assumption | rfl | exact True.intro | exact Nat.le_of_ble_eq_true rfl | exact Or.inl rfl | exact Or.inr rfl | exact okv3 (by assumption) | decide | (focus (simp (disch := omega) only [nI_clamp, vp_in_nI, hT_sI, hR_sI, hT_sJ, hR_sJ, hT_sR, hI_sJ, hI_sR, hJ_sI, hJ_sR, hI_eq, hI_ne, hI_nk]; done)) | (focus (simp (disch := omega) only [nI_clamp, vp_in_nI, hT_sI, hR_sI, hT_sJ, hR_sJ, hT_sR, hI_sJ, hI_sR, hJ_sI, hJ_sR, hI_eq, hI_ne, hI_nk]; first | assumption | exact okv3 (by assumption)))))))))
          refine br_t p99 ?_
          exact go9
        · rw [room_full C h16] at r1
          have ch : ∃ F : Nat → Nat, F 1 = 0 ∧ (∀ j, j < f → F (j + 1) < f) ∧ (g1 = g ∧ v = F f) ∧ ∀ j, j + 1 < f → (Bet b A pol (nI (nxF s (spT g (j + 1)) 101 (L - (i + 1)) (i + 1)) - nI (nxF s (spT g (F (j + 1))) 101 (L - (i + 1)) (i + 1))) (j + 1) (F (j + 1)) → F (j + 2) = j + 1) ∧ (¬ Bet b A pol (nI (nxF s (spT g (j + 1)) 101 (L - (i + 1)) (i + 1)) - nI (nxF s (spT g (F (j + 1))) 101 (L - (i + 1)) (i + 1))) (j + 1) (F (j + 1)) → F (j + 2) = F (j + 1)) := by
            by_cases p98 : pol = 98
            · rw [if_pos p98] at r1
              have fl := fun j => far_lt (g := g) j
              refine ⟨cFar g 335, by have : cFar g 335 1 < 1 := fl 0; omega, fun j hj => by have := fl j; omega, by cases r1; exact ⟨rfl, rfl⟩, fun j hj => ?_⟩
              have bt := bet_far (j := j + 1) (fj := cFar g 335 (j + 1)) C M hi t7 (N p98) hno hj (by have := fl j; omega)
              rw [p98, bt]
              exact ⟨fun q => if_pos q, fun q => if_neg q⟩
            · rw [if_neg p98, if_neg p99] at r1
              have fl := fun j => oF_lt (h := g) (pol := pol) j
              have hp2 : pol = 108 ∨ pol = 102 := by
                rcases hp with q | q | q | q
                · exact absurd q p98
                · exact Or.inl q
                · exact Or.inr q
                · exact absurd q p99
              refine ⟨oF g pol, by have : oF g pol 1 < 1 := fl 0; omega, fun j hj => by have := fl j; omega, by cases r1; exact ⟨rfl, rfl⟩, fun j hj => ?_⟩
              have bt := fun more => bet_old (j := j + 1) (fj := oF g pol (j + 1)) (more := more) M (by omega) hj (by have := fl j; omega) hp2
              rw [bt]
              exact ⟨fun q => if_pos q, fun q => if_neg q⟩
          obtain ⟨F, F1, F2, ⟨e1, e2⟩, F3⟩ := ch
          subst e1
          have lp := ch_loop (F := F) (sp := spT g1) (f := f) (at0 := hd) (w := w + 1) (pol := pol) hX T B h16 hi hS hsp F2 F3 (fun x3 x4 => by
            rw [← e2]
            have hdd : hd' = hd := by
              have a1 := r4.2.2.2.1
              rw [C.2.2.2.1] at a1
              have := r4.2.1
              exact ((nI_eq (by omega) (by omega)).mp a1).symm
            rw [hdd] at fin
            exact fin b M K _ _ _) (f - 1) 0 (by omega) x3 x4
          rw [F1] at lp
          (refine go mX12_missed hX [170] 400 ?_; conv => whnf)
          repeat (first | (refine rs ?_; conv => whnf) | unfold k_call | ((with_reducible refine And.intro ?_ ?_); (first | (first | assumption | rfl | exact True.intro | exact Nat.le_of_ble_eq_true rfl | exact Or.inl rfl | exact Or.inr rfl | exact okv3 (by assumption) | decide | (focus (simp (disch := omega) only [nI_clamp, vp_in_nI, hT_sI, hR_sI, hT_sJ, hR_sJ, hT_sR, hI_sJ, hI_sR, hJ_sI, hJ_sR, hI_eq, hI_ne, hI_nk]; done)) | (focus (simp (disch := omega) only [nI_clamp, vp_in_nI, hT_sI, hR_sI, hT_sJ, hR_sJ, hT_sR, hI_sJ, hI_sR, hJ_sI, hJ_sR, hI_eq, hI_ne, hI_nk]; first | assumption | exact okv3 (by assumption)))) | (focus (refine ⟨_, rfl, ?_⟩; (first | assumption | rfl | exact True.intro | exact Nat.le_of_ble_eq_true rfl | exact Or.inl rfl | exact Or.inr rfl | exact okv3 (by assumption) | decide | (focus (simp (disch := omega) only [nI_clamp, vp_in_nI, hT_sI, hR_sI, hT_sJ, hR_sJ, hT_sR, hI_sJ, hI_sR, hJ_sI, hJ_sR, hI_eq, hI_ne, hI_nk]; done)) | (focus (simp (disch := omega) only [nI_clamp, vp_in_nI, hT_sI, hR_sI, hT_sJ, hR_sJ, hT_sR, hI_sJ, hI_sR, hJ_sI, hJ_sR, hI_eq, hI_ne, hI_nk]; first | assumption | exact okv3 (by assumption)))))))))
          refine br_f p99 ?_
          repeat (first | (refine rs ?_; conv => whnf) | unfold k_call | ((with_reducible refine And.intro ?_ ?_); (first | (first | assumption | rfl | exact True.intro | exact Nat.le_of_ble_eq_true rfl | exact Or.inl rfl | exact Or.inr rfl | exact okv3 (by assumption) | decide | (focus (simp (disch := omega) only [nI_clamp, vp_in_nI, hT_sI, hR_sI, hT_sJ, hR_sJ, hT_sR, hI_sJ, hI_sR, hJ_sI, hJ_sR, hI_eq, hI_ne, hI_nk]; done)) | (focus (simp (disch := omega) only [nI_clamp, vp_in_nI, hT_sI, hR_sI, hT_sJ, hR_sJ, hT_sR, hI_sJ, hI_sR, hJ_sI, hJ_sR, hI_eq, hI_ne, hI_nk]; first | assumption | exact okv3 (by assumption)))) | (focus (refine ⟨_, rfl, ?_⟩; (first | assumption | rfl | exact True.intro | exact Nat.le_of_ble_eq_true rfl | exact Or.inl rfl | exact Or.inr rfl | exact okv3 (by assumption) | decide | (focus (simp (disch := omega) only [nI_clamp, vp_in_nI, hT_sI, hR_sI, hT_sJ, hR_sJ, hT_sR, hI_sJ, hI_sR, hJ_sI, hJ_sR, hI_eq, hI_ne, hI_nk]; done)) | (focus (simp (disch := omega) only [nI_clamp, vp_in_nI, hT_sI, hR_sI, hT_sJ, hR_sJ, hT_sR, hI_sJ, hI_sR, hJ_sI, hJ_sR, hI_eq, hI_ne, hI_nk]; first | assumption | exact okv3 (by assumption)))))))))
          exact lp
      (refine go mX12_missed hX [118, 301] 400 ?_; conv => whnf)
      repeat (first | (refine rs ?_; conv => whnf) | unfold k_call | ((with_reducible refine And.intro ?_ ?_); (first | (first | assumption | rfl | exact True.intro | exact Nat.le_of_ble_eq_true rfl | exact Or.inl rfl | exact Or.inr rfl | exact okv3 (by assumption) | decide | (focus (simp (disch := omega) only [nI_clamp, vp_in_nI, hT_sI, hR_sI, hT_sJ, hR_sJ, hT_sR, hI_sJ, hI_sR, hJ_sI, hJ_sR, hI_eq, hI_ne, hI_nk]; done)) | (focus (simp (disch := omega) only [nI_clamp, vp_in_nI, hT_sI, hR_sI, hT_sJ, hR_sJ, hT_sR, hI_sJ, hI_sR, hJ_sI, hJ_sR, hI_eq, hI_ne, hI_nk]; first | assumption | exact okv3 (by assumption)))) | (focus (refine ⟨_, rfl, ?_⟩; (first | assumption | rfl | exact True.intro | exact Nat.le_of_ble_eq_true rfl | exact Or.inl rfl | exact Or.inr rfl | exact okv3 (by assumption) | decide | (focus (simp (disch := omega) only [nI_clamp, vp_in_nI, hT_sI, hR_sI, hT_sJ, hR_sJ, hT_sR, hI_sJ, hI_sR, hJ_sI, hJ_sR, hI_eq, hI_ne, hI_nk]; done)) | (focus (simp (disch := omega) only [nI_clamp, vp_in_nI, hT_sI, hR_sI, hT_sJ, hR_sJ, hT_sR, hI_sJ, hI_sR, hJ_sI, hJ_sR, hI_eq, hI_ne, hI_nk]; first | assumption | exact okv3 (by assumption)))))))))
      refine br_t rfl ?_
      repeat (first | (refine rs ?_; conv => whnf) | unfold k_call | ((with_reducible refine And.intro ?_ ?_); (first | (first | assumption | rfl | exact True.intro | exact Nat.le_of_ble_eq_true rfl | exact Or.inl rfl | exact Or.inr rfl | exact okv3 (by assumption) | decide | (focus (simp (disch := omega) only [nI_clamp, vp_in_nI, hT_sI, hR_sI, hT_sJ, hR_sJ, hT_sR, hI_sJ, hI_sR, hJ_sI, hJ_sR, hI_eq, hI_ne, hI_nk]; done)) | (focus (simp (disch := omega) only [nI_clamp, vp_in_nI, hT_sI, hR_sI, hT_sJ, hR_sJ, hT_sR, hI_sJ, hI_sR, hJ_sI, hJ_sR, hI_eq, hI_ne, hI_nk]; first | assumption | exact okv3 (by assumption)))) | (focus (refine ⟨_, rfl, ?_⟩; (first | assumption | rfl | exact True.intro | exact Nat.le_of_ble_eq_true rfl | exact Or.inl rfl | exact Or.inr rfl | exact okv3 (by assumption) | decide | (focus (simp (disch := omega) only [nI_clamp, vp_in_nI, hT_sI, hR_sI, hT_sJ, hR_sJ, hT_sR, hI_sJ, hI_sR, hJ_sI, hJ_sR, hI_eq, hI_ne, hI_nk]; done)) | (focus (simp (disch := omega) only [nI_clamp, vp_in_nI, hT_sI, hR_sI, hT_sJ, hR_sJ, hT_sR, hI_sJ, hI_sR, hJ_sI, hJ_sR, hI_eq, hI_ne, hI_nk]; first | assumption | exact okv3 (by assumption)))))))))
      rw [nI_1]
      by_cases hf : f < n
      · refine br_f (nI_ge (a := f) (b := n) hf (by omega)) ?_
        repeat (first | (refine rs ?_; conv => whnf) | unfold k_call | ((with_reducible refine And.intro ?_ ?_); (first | (first | assumption | rfl | exact True.intro | exact Nat.le_of_ble_eq_true rfl | exact Or.inl rfl | exact Or.inr rfl | exact okv3 (by assumption) | decide | (focus (simp (disch := omega) only [nI_clamp, vp_in_nI, hT_sI, hR_sI, hT_sJ, hR_sJ, hT_sR, hI_sJ, hI_sR, hJ_sI, hJ_sR, hI_eq, hI_ne, hI_nk]; done)) | (focus (simp (disch := omega) only [nI_clamp, vp_in_nI, hT_sI, hR_sI, hT_sJ, hR_sJ, hT_sR, hI_sJ, hI_sR, hJ_sI, hJ_sR, hI_eq, hI_ne, hI_nk]; first | assumption | exact okv3 (by assumption)))) | (focus (refine ⟨_, rfl, ?_⟩; (first | assumption | rfl | exact True.intro | exact Nat.le_of_ble_eq_true rfl | exact Or.inl rfl | exact Or.inr rfl | exact okv3 (by assumption) | decide | (focus (simp (disch := omega) only [nI_clamp, vp_in_nI, hT_sI, hR_sI, hT_sJ, hR_sJ, hT_sR, hI_sJ, hI_sR, hJ_sI, hJ_sR, hI_eq, hI_ne, hI_nk]; done)) | (focus (simp (disch := omega) only [nI_clamp, vp_in_nI, hT_sI, hR_sI, hT_sJ, hR_sJ, hT_sR, hI_sJ, hI_sR, hJ_sI, hJ_sR, hI_eq, hI_ne, hI_nk]; first | assumption | exact okv3 (by assumption)))))))))
        rw [nI_1]
        have u := cp_come C h16 v2 hno (j := f) (Or.inl ⟨rfl, hf⟩)
        have nx := fun q => nx_come (j := f) C h16 hi v2 (N q) rfl (h7 q i hi) hno (Or.inl ⟨rfl, hf⟩)
        have mr := mr_come (p := s i) C h16 M (v := f) (Or.inl ⟨rfl, hf⟩)
        rw [if_pos rfl] at u nx mr
        have k' := k
        rw [ms_miss C h6i v2 hno (room_free C hf) rfl] at k'
        have z := ih (i + 1) (w + 1) (f + 1) hd (cNx (cCome g 340 f (nI (s i)) 0) 335 i f) _ (.int (nI f)) (.int (nI f)) x3 x4 (by omega) u.1 (fun k hk => by
          rw [come_cell (by omega), if_neg (by omega), if_neg (by omega), if_neg (by omega)]
          exact h6 k hk) nx (fun q k hk => by
          rw [come_cell (by omega), if_neg (by omega), if_neg (by omega), if_neg (by omega)]
          exact h7 q k hk) mr (BK_sI (BK_sI (BK_sI (BK_sI K (by omega)) (by omega)) (by omega)) (by omega)) k'
        exact put_tail hX T B hA hf h16 hi hS z
      · have ef : f = n := by omega
        refine br_t (nI_le (a := n) (b := f) (by omega) (by omega)) ?_
        exact c118 ef
