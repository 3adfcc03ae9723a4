/-! THE BEST POLICY MISSES NO MORE than another -/
theorem PgS_E {f p n n' d : Nat} {pg pg' : Nat → Nat} {E E' : Nat → Prop} (P : PgS f p n pg n' pg' d E) (h : ∀ v, n = f → v < n → (∀ j, j < n → ¬ pg j = p) → E v → E' v) : PgS f p n pg n' pg' d E' := by
  rcases P with q | q | ⟨q1, q2, q3, v, q4, q5, q6, q7⟩
  · exact Or.inl q
  · exact Or.inr (Or.inl q)
  · exact Or.inr (Or.inr ⟨q1, q2, q3, v, q4, q5, q6, h v q3 q4 q6 q7⟩)
theorem soon_zero {nx : Nat → Nat → Nat} {t n : Nat} {pg : Nat → Nat} : soon nx t pg n 0 = 0 := cnt_none (fun _ _ => decide_eq_false (Nat.not_lt_zero _))
theorem soon_nil {nx : Nat → Nat → Nat} {t θ : Nat} {pg : Nat → Nat} : soon nx t pg 0 θ = 0 := rfl
theorem PgS_d {f p n n' d : Nat} {pg pg' : Nat → Nat} {E : Nat → Prop} (P : PgS f p n pg n' pg' d E) : d ≤ 1 := by
  rcases P with q | q | q
  · have := q.2.2.1; omega
  · have := q.2.2.1; omega
  · have := q.2.1; omega
theorem bel_loop {s : Nat → Nat} {L n : Nat} {pol : Int32} (h16 : n ≤ 16) (h100 : L ≤ 100) (hq : ¬ pol = 98) : ∀ (m i wS wT fS fT hS hT : Nat) (S T : CH), i + m = L → CP n fS hS i S → CP n fT hT i T → (∀ k, k < L → hI S 336 k = nI (s k) ∧ s k < 128) → (∀ k, k < L → hI T 336 k = nI (s k) ∧ s k < 128) → NX s L i fS S → (∀ k, k < L → hI S 337 k = nI (nxF s (s k) 100 (L - (k + 1)) (k + 1))) → (∀ θ, wS + soon (fun t x => nxF s x 100 (L - t) t) i (spT T) fT θ ≤ wT + soon (fun t x => nxF s x 100 (L - t) t) i (spT S) fS θ) → ∃ vS vT, (cMs 335 n 98 m i wS S).2 = nI vS ∧ (cMs 335 n pol m i wT T).2 = nI vT ∧ vS ≤ vT ∧ vT ≤ wT + m
  | 0, i, wS, wT, fS, fT, hS, hT, S, T, e, CS, CT, S6, T6, N, S7, I => by
    have z := I 0
    rw [soon_zero, soon_zero] at z
    exact ⟨wS, wT, rfl, rfl, by omega, by omega⟩
  | m + 1, i, wS, wT, fS, fT, hS, hT, S, T, e, CS, CT, S6, T6, N, S7, I => by
    have hi : i < L := by omega
    have nxt := nxF_Nxt (s := s) hi h100
    obtain ⟨f', hd', d, S', a1, a2, a3, a4, a5, -⟩ := ms_step (s := s) (L := L) (m := m) (w := wS) (p := s i) (pol := 98) CS h16 hi (S6 i hi).1 rfl (S6 i hi).2 (fun _ => S7 i hi) (fun _ => N)
    obtain ⟨g', kd', c, T', b1, b2, -, b4, b5, -⟩ := ms_step (s := s) (L := L) (m := m) (w := wT) (p := s i) (pol := pol) CT h16 hi (T6 i hi).1 rfl (T6 i hi).2 (fun q => absurd q hq) (fun q => absurd q hq)
    have a5' := PgS_E (E' := fun v => ∀ j, j < fS → (fun t x => nxF s x 100 (L - t) t) (i + 1) (spT S j) ≤ (fun t x => nxF s x 100 (L - t) t) (i + 1) (spT S v)) a5 (fun v ef hv no ev j hj => by
      subst ef
      have z := far_nx CS h16 hi h100 N hv (ev rfl) j hj
      have z1 := nxt.2.1 (spT S j) (no j hj)
      have z2 := nxt.2.1 (spT S v) (no v hv)
      dsimp only at z1 z2 ⊢
      rw [← z1, ← z2]
      exact z)
    have st := belady_step (nx := fun t x => nxF s x 100 (L - t) t) nxt (fun x => nxF_ge (by omega) h100 x) CS.2.2.2.2.2.2.2.2 CT.2.2.2.2.2.2.2.2 CT.1 I a5' b5
    rw [a1, b1]
    obtain ⟨vS, vT, r1, r2, r3, r4⟩ := bel_loop h16 h100 hq m (i + 1) (wS + d) (wT + c) f' g' hd' kd' S' T' (by omega) a2 b2 (fun k hk => by rw [(a4 k).1]; exact S6 k hk) (fun k hk => by rw [(b4 k).1]; exact T6 k hk) (a3 rfl) (fun k hk => by rw [(a4 k).2]; exact S7 k hk) st
    have := PgS_d b5
    exact ⟨vS, vT, r1, r2, r3, by omega⟩
theorem best_le {a g : CH} {n : Nat} {pol : Int32} (T : TQ a) (Tg : TQ g) (hT9 : TrP a) (O : TrO a g) (h100 : trN a ≤ 100) (h1 : 1 ≤ n) (h16 : n ≤ 16) (hq : ¬ pol = 98) : ¬ (trM g pol n).2 < (trM a 98 n).2 := by
  have en : trN g = trN a := trN_tro O
  have eg : ∀ i, i < trN a → hI g 336 i = nI (trV a i) ∧ trV a i < 128 := fun i hi => by rw [O.2.2.2 336 i (by omega)]; exact trP_s hT9 i hi
  obtain ⟨s1, s2, s3, s4⟩ := ms_start (pol := 98) T (trP_s hT9) h100 h1 h16
  obtain ⟨t1, t2, t3, t4⟩ := ms_start (a := g) (pol := pol) (s := trV a) (L := trN a) Tg eg h100 h1 h16
  obtain ⟨vS, vT, r1, r2, r3, r4⟩ := bel_loop (s := trV a) (L := trN a) (pol := pol) h16 h100 hq (trN a) 0 0 0 0 0 0 0 _ _ (by omega) s1 t1 (fun k hk => by rw [s3]; exact trP_s hT9 k hk) (fun k hk => by rw [t3]; exact eg k hk) (fun j hj => absurd hj (Nat.not_lt_zero _)) (s4 rfl) (fun θ => by rw [soon_nil, soon_nil]; exact Nat.le_refl _)
  unfold trM
  rw [en, r1, r2]
  exact fun z => absurd ((nI_ltI (a := vT) (b := vS) (by omega) (by omega)).mp z) (by omega)
theorem best_B {h : CH} (T : TQ h) (hT9 : TrP h) (h100 : trN h ≤ 100) (h1 : 1 ≤ nN h) (h16 : nN h ≤ 16) : ∃ gD, BestB h gD ∧ TrO h gD ∧ TQ gD := by
  have oA := tro_trM (h := h) (pol := 98) h1 h16
  have tA := tq_trM (pol := 98) T hT9 h100 h1 h16
  have pA := TrP_tro oA hT9
  have nA : trN (trM h 98 (nN h)).1 ≤ 100 := by rw [trN_tro oA]; exact h100
  have b1 := best_le (pol := 108) T tA hT9 oA h100 h1 h16 (by decide)
  generalize hA : trM h 98 (nN h) = A at oA tA pA nA b1
  have oB := oA.trans (tro_trM (h := A.1) (pol := 108) h1 h16)
  have tB := tq_trM (pol := 108) tA pA nA h1 h16
  have pB := TrP_tro oB hT9
  have nB : trN (trM A.1 108 (nN h)).1 ≤ 100 := by rw [trN_tro oB]; exact h100
  have b2 := best_le (pol := 102) T tB hT9 oB h100 h1 h16 (by decide)
  generalize hB : trM A.1 108 (nN h) = B at oB tB pB nB b1 b2
  have oC := oB.trans (tro_trM (h := B.1) (pol := 102) h1 h16)
  have tC := tq_trM (pol := 102) tB pB nB h1 h16
  have pC := TrP_tro oC hT9
  have nC : trN (trM B.1 102 (nN h)).1 ≤ 100 := by rw [trN_tro oC]; exact h100
  have b3 := best_le (pol := 99) T tC hT9 oC h100 h1 h16 (by decide)
  generalize hC : trM B.1 102 (nN h) = C at oC tC pC nC b2 b3
  have oD := oC.trans (tro_trM (h := C.1) (pol := 99) h1 h16)
  have tD := tq_trM (pol := 99) tC pC nC h1 h16
  rw [hA] at b2 b3
  generalize hD : trM C.1 99 (nN h) = D at oD tD b3
  exact ⟨D.1, ⟨A.1, B.1, C.1, A.2, B.2, C.2, D.2, hA, hB, hC, hD, b1, b2, b3⟩, oD, tD⟩
