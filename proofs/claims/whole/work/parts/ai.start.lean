/-! THE TRACE IS ASKED: how it begins, what it leaves -/
theorem cp_cg {n f hd i : Nat} {g g' : CH} (C : CP n f hd i g) (h16 : n ≤ 16) (e1 : ∀ k, hI g' 340 k = hI g 340 k) (e2 : ∀ x k, x < 16 → hI g' (340 + 2 + x) k = hI g (340 + 2 + x) k) : CP n f hd i g' := by
  obtain ⟨c1, c2, c3, c4, c5, c6, c7, c8, c9⟩ := C
  have es : ∀ x, x < 16 → spT g' x = spT g x := fun x hx => by
    unfold spT
    rw [e2 x 0 hx]
  refine ⟨c1, c2, (e1 1).trans c3, (e1 2).trans c4, (e1 3).trans c5, fun x hx => ?_, fun x a b => ?_, fun x hx => ?_, fun x y hx hy => ?_⟩
  · rw [e2 x 2 (by omega), e2 x 9 (by omega)]
    exact c6 x hx
  · rw [e2 x 0 (by omega)]
    exact c7 x a b
  · rw [es x (by omega), e2 x 0 (by omega)]
    exact c8 x hx
  · rw [es x (by omega), es y (by omega)]
    exact c9 x y hx hy
theorem tq_cg {g g' : CH} (T : TQ g) (e2 : ∀ x k, x < 16 → hI g' (340 + 2 + x) k = hI g (340 + 2 + x) k) : TQ g' := fun x hx => by
  rw [e2 x 0 hx, e2 x 2 hx, e2 x 9 hx]
  exact T x hx
theorem dropS_T {a : CH} (T : TQ a) : ∀ m, m ≤ 16 → ∀ j, j < 16 → (j < m → hI (cDropS a 340 0 128 m) (340 + 2 + j) 0 = -1) ∧ (m ≤ j → hI (cDropS a 340 0 128 m) (340 + 2 + j) 0 = hI a (340 + 2 + j) 0) ∧ hI (cDropS a 340 0 128 m) (340 + 2 + j) 2 = 0 ∧ hI (cDropS a 340 0 128 m) (340 + 2 + j) 9 = 0
  | 0, _, j, hj => ⟨fun h => absurd h (Nat.not_lt_zero _), fun _ => rfl, (T j hj).2.1, (T j hj).2.2⟩
  | m + 1, hm, j, hj => by
    obtain ⟨i1, i2, i3, i4⟩ := dropS_T T m (by omega) j hj
    obtain ⟨-, k2, -, -⟩ := dropS_T T m (by omega) m (by omega)
    have k2' := k2 (Nat.le_refl _)
    have tm := (T m (by omega)).1
    rw [← k2'] at tm
    unfold cDropS
    generalize cDropS a 340 0 128 m = D at i1 i2 i3 i4 k2' tm ⊢
    split
    · next c =>
      by_cases e : j = m
      · subst e
        have d0 : hI (cDrop D (340 + 2 + j)) (340 + 2 + j) 0 = -1 := by unfold cDrop; rw [hI_nk (by omega), hI_nk (by omega), hI_nk (by omega), hI_nk (by omega), hI_eq]
        have d2 : hI (cDrop D (340 + 2 + j)) (340 + 2 + j) 2 = 0 := by unfold cDrop; rw [hI_nk (by omega), hI_nk (by omega), hI_nk (by omega), hI_eq]
        have d9 : hI (cDrop D (340 + 2 + j)) (340 + 2 + j) 9 = 0 := by unfold cDrop; rw [hI_eq]
        exact ⟨fun _ => d0, fun h => by omega, d2, d9⟩
      · rw [hI_drop (by omega), hI_drop (by omega), hI_drop (by omega)]
        exact ⟨fun h => i1 (by omega), fun h => i2 (by omega), i3, i4⟩
    · next c =>
      refine ⟨fun h => ?_, fun h => i2 (by omega), i3, i4⟩
      by_cases e : j = m
      · subst e
        rcases tm with q | ⟨p, hp, q⟩
        · exact q
        · exact absurd ⟨by rw [q]; exact nI_pos (by omega), by rw [q]; exact fun z => absurd ((nI_leI (a := 128) (b := p) (by omega) (by omega)).mp z) (by omega)⟩ c
      · exact i1 (by omega)
theorem anew_T {a : CH} {n : Nat} (T : TQ a) (h1 : 1 ≤ n) (h16 : n ≤ 16) : CP n 0 0 0 (cAnew a 340 (nI n)) ∧ TQ (cAnew a 340 (nI n)) := by
  have d := dropS_T T 16 (Nat.le_refl _)
  unfold cAnew
  generalize cDropS a 340 0 128 16 = D at d ⊢
  have e2 : ∀ x k, hI (sI (sI (sI D 340 2 0) 340 3 0) 340 1 (nI n)) (340 + 2 + x) k = hI D (340 + 2 + x) k := fun x k => by rw [hI_ne (by omega), hI_ne (by omega), hI_ne (by omega)]
  refine ⟨⟨Nat.zero_le _, by omega, hI_eq _ _ _ _, ?_, ?_, fun j hj => ?_, fun j _ hj => ?_, fun j hj => absurd hj (Nat.not_lt_zero _), fun j _ hj => absurd hj (Nat.not_lt_zero _)⟩, fun j hj => ?_⟩
  · rw [hI_nk (by omega), hI_nk (by omega), hI_eq]; rfl
  · rw [hI_nk (by omega), hI_eq]; rfl
  · rw [e2, e2]
    exact (d j (by omega)).2.2
  · rw [e2]
    exact (d j (by omega)).1 (by omega)
  · rw [e2, e2, e2]
    exact ⟨Or.inl ((d j hj).1 hj), (d j hj).2.2⟩
theorem ms_start {a : CH} {n L : Nat} {s : Nat → Nat} {pol : Int32} (T : TQ a) (hs : ∀ i, i < L → hI a 336 i = nI (s i) ∧ s i < 128) (h100 : L ≤ 100) (h1 : 1 ≤ n) (h16 : n ≤ 16) : CP n 0 0 0 (cMs0 a 335 L n pol) ∧ TQ (cMs0 a 335 L n pol) ∧ (∀ k, hI (cMs0 a 335 L n pol) 336 k = hI a 336 k) ∧ (pol = 98 → ∀ k, k < L → hI (cMs0 a 335 L n pol) 337 k = nI (nxF s (s k) 100 (L - (k + 1)) (k + 1))) := by
  obtain ⟨c, t⟩ := anew_T T h1 h16
  have e6 : ∀ k, hI (cAnew a 340 (nI n)) 336 k = hI a 336 k := fun k => hI_anew (by omega) (by omega)
  unfold cMs0
  show CP n 0 0 0 (if pol = 98 then laB 335 L (laA (cAnew a 340 (nI n)) 335 128) else cAnew a 340 (nI n)) ∧ TQ (if pol = 98 then laB 335 L (laA (cAnew a 340 (nI n)) 335 128) else cAnew a 340 (nI n)) ∧ (∀ k, hI (if pol = 98 then laB 335 L (laA (cAnew a 340 (nI n)) 335 128) else cAnew a 340 (nI n)) 336 k = hI a 336 k) ∧ (pol = 98 → ∀ k, k < L → hI (if pol = 98 then laB 335 L (laA (cAnew a 340 (nI n)) 335 128) else cAnew a 340 (nI n)) 337 k = nI (nxF s (s k) 100 (L - (k + 1)) (k + 1)))
  generalize cAnew a 340 (nI n) = g at c t e6 ⊢
  by_cases p : pol = 98
  · rw [if_pos p]
    have eo : ∀ x k, ¬ x = 337 → ¬ x = 338 → hI (laB 335 L (laA g 335 128)) x k = hI g x k := fun x k h7 h8 => by
      rw [hI_laB (by omega) (by omega), hI_laA (by omega)]
    refine ⟨cp_cg c h16 (fun k => eo _ _ (by omega) (by omega)) (fun x k hx => eo _ _ (by omega) (by omega)), tq_cg t (fun x k hx => eo _ _ (by omega) (by omega)), fun k => (eo _ _ (by omega) (by omega)).trans (e6 k), fun _ k hk => ?_⟩
    exact la_row (h := g) (s := s) (fun i hi => by rw [e6]; exact hs i hi) h100 k hk
  · rw [if_neg p]
    exact ⟨c, t, e6, fun q => absurd q p⟩
theorem ms_all {s : Nat → Nat} {L n : Nat} {pol : Int32} (h16 : n ≤ 16) : ∀ (m i w f hd : Nat) (g : CH), i + m = L → CP n f hd i g → (∀ k, k < L → hI g 336 k = nI (s k) ∧ s k < 128) → (pol = 98 → NX s L i f g) → (pol = 98 → ∀ k, k < L → hI g 337 k = nI (nxF s (s k) 100 (L - (k + 1)) (k + 1))) → TQ g → TQ (cMs 335 n pol m i w g).1
  | 0, i, w, f, hd, g, e, C, h6, N, h7, T => T
  | m + 1, i, w, f, hd, g, e, C, h6, N, h7, T => by
    obtain ⟨f', hd', d, g', z1, z2, z3, z4, z5, z6⟩ := ms_step (s := s) (L := L) (m := m) (w := w) (p := s i) (pol := pol) C h16 (by omega) (h6 i (by omega)).1 rfl (h6 i (by omega)).2 (fun q => h7 q i (by omega)) N
    rw [z1]
    exact ms_all h16 m (i + 1) (w + d) f' hd' g' (by omega) z2 (fun k hk => by rw [(z4 k).1]; exact h6 k hk) z3 (fun q k hk => by rw [(z4 k).2]; exact h7 q k hk) (z6 T)
theorem trP_s {a : CH} (hT9 : TrP a) : ∀ i, i < trN a → hI a 336 i = nI (trV a i) ∧ trV a i < 128 := fun i hi => hT9 i hi
theorem tq_trM {a : CH} {n : Nat} {pol : Int32} (T : TQ a) (hT9 : TrP a) (h100 : trN a ≤ 100) (h1 : 1 ≤ n) (h16 : n ≤ 16) : TQ (trM a pol n).1 := by
  obtain ⟨s1, s2, s3, s4⟩ := ms_start (pol := pol) T (trP_s hT9) h100 h1 h16
  exact ms_all h16 (trN a) 0 0 0 0 _ (by omega) s1 (fun k hk => by rw [s3]; exact trP_s hT9 k hk) (fun _ j hj => absurd hj (Nat.not_lt_zero _)) s4 s2
