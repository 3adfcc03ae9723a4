/-! THE START: the house and the model, new -/
def J0 (h : CH) : Prop := ∀ x k, hJ h x k = 0
theorem j0_nw {h : CH} {t : Nat × Nat} (H : J0 h) : J0 (nw h t) := fun x k => by
  rw [hJ_nw]
  split
  · rfl
  · exact H x k
theorem j0_sI {h : CH} {a k : Nat} {v : Int32} (H : J0 h) : J0 (sI h a k v) := H
theorem j0_sR {h : CH} {a k v : Nat} (H : J0 h) : J0 (sR h a k v) := H
theorem j0_dev {h : CH} {a : Nat} {b : Int32} (H : J0 h) : J0 (mkDev h a b) := j0_sI (j0_sR (j0_nw (j0_sR (j0_nw (j0_sR (j0_nw H))))))
theorem j0_fil {h : CH} {a : Nat} (H : J0 h) : J0 (mkFil h a) := j0_sR (j0_nw (j0_sR (j0_nw H)))
theorem j0_log {h : CH} {a : Nat} (H : J0 h) : J0 (mkLog h a) := j0_sR (j0_nw (j0_sR (j0_nw H)))
theorem j0_frs {r : Nat} {h : CH} (H : J0 h) : ∀ n, J0 (mkFrs r h n)
  | 0 => H
  | n + 1 => j0_sR (j0_sI (j0_nw (j0_frs H n)))
theorem j0_pool {h : CH} {a : Nat} {v : Int32} (H : J0 h) : J0 (mkPool h a v) := j0_sI (j0_frs (j0_sR (j0_nw H)) 16)
theorem j0_tr4 {h : CH} {a : Nat} (H : J0 h) : J0 (mkTr4 h a) := j0_sR (j0_nw (j0_sR (j0_nw (j0_sR (j0_nw (j0_sR (j0_nw H)))))))
theorem j0_tra {h : CH} {a : Nat} (H : J0 h) : J0 (mkTra h a) := j0_sR (j0_pool (j0_nw (j0_tr4 H)))
theorem j0_dv {g : CH} {i : Nat} {b : Int32} (H : J0 g) : J0 (hDv g i b) := j0_sR (j0_dev (j0_nw H))
theorem j0_hse {h : CH} (H : J0 h) : J0 (mkHse h) := by
  unfold mkHse
  have a1 : J0 (hD0 h) := j0_sR (j0_nw H)
  have a3 := j0_dv (i := 1) (b := 0) (j0_dv (i := 0) (b := 1) a1)
  generalize hDv (hDv (hD0 h) 0 1) 1 0 = g at a3 ⊢
  have a4 : J0 (hFl g) := j0_sR (j0_fil (j0_nw a3))
  generalize hFl g = g4 at a4 ⊢
  have a5 : J0 (hPl g4) := j0_sR (j0_pool (j0_nw a4))
  generalize hPl g4 = g5 at a5 ⊢
  have a6 : J0 (hLg g5) := j0_sR (j0_log (j0_nw a5))
  generalize hLg g5 = g6 at a6 ⊢
  have a7 : J0 (hWk g6) := j0_sR (j0_nw a6)
  generalize hWk g6 = g7 at a7 ⊢
  have a8 : J0 (hTr g7) := j0_sR (j0_tra (j0_nw a7))
  generalize hTr g7 = g8 at a8 ⊢
  exact j0_sI (j0_sI (j0_sI (j0_sR (j0_nw (j0_sR (j0_nw (j0_sR (j0_nw a8))))))))
/-- what the class's cells are, and the reference's, at the first call -/
def FstA (g : CH) : Prop := Lay g ∧ (∀ k, hI g 300 k = if k = 10 then 108 else if k = 11 then 4 else if k = 14 then 1 else 0) ∧ (∀ x k, 301 ≤ x → x < 361 → hI g x k = hseI x k) ∧ ∀ k, hJ g 360 k = 0
def FstB (g : CH) : Prop := 373 ≤ hN g ∧ (hT g 361).1 = 16 ∧ (∀ k, hJ g 361 k = 0) ∧ (∀ k, hI g 361 k = if k = 8 then 8 else if k = 9 then 108 else if k = 10 then 4 else if k = 19 then 1 else 0) ∧ hR g 361 1 = 362 ∧ hR g 361 2 = 363 ∧ hR g 361 3 = 364 ∧ hR g 361 4 = 365 ∧ hR g 361 5 = 366 ∧ hR g 361 6 = 367 ∧ hR g 361 7 = 368 ∧ hR g 361 15 = 369 ∧ hR g 361 16 = 370 ∧ hR g 361 21 = 371 ∧ hR g 361 22 = 372 ∧ hT g 362 = (100, 128) ∧ hT g 363 = (100, 128) ∧ hT g 364 = (100, 64) ∧ hT g 365 = (3, 0) ∧ hT g 366 = (100, 8) ∧ hT g 367 = (100, 2) ∧ hT g 368 = (107, 16) ∧ hT g 369 = (101, 3) ∧ hT g 370 = (100, 128) ∧ hT g 371 = (3, 0) ∧ hT g 372 = (3, 0) ∧ ∀ x, 362 ≤ x → x < 373 → (∀ k, hI g x k = if x = 370 ∧ k < 128 then -1 else 0) ∧ (∀ k, hJ g x k = 0) ∧ ∀ k, hR g x k = if (x = 365 ∨ x = 371 ∨ x = 372) ∧ k = 1 then 257 else 0
theorem fst_0 {g : CH} (F : FstA g) {x k : Nat} (h1 : 301 ≤ x) (h2 : x < 361) (h : ¬ (x = 302 ∧ k = 0) ∧ ¬ (x = 313 ∧ k = 1) ∧ ¬ (x = 340 ∧ k = 1) ∧ ¬ ((315 ≤ x ∧ x < 331 ∨ 342 ≤ x ∧ x < 358) ∧ k = 0)) : hI g x k = 0 := by
  rw [F.2.2.1 x k h1 h2]
  exact hse0 h
theorem fst_sp {g : CH} (F : FstA g) {i : Nat} (hi : i < 16) : hI g (313 + 2 + i) 0 = -1 := by
  rw [F.2.2.1 _ _ (by omega) (by omega)]
  unfold hseI
  rw [if_neg (by omega), if_neg (by omega), if_neg (by omega), if_pos (by omega)]
theorem RR_0 {a b : CH} (F : FstA a) (G : FstB b) : RR 0 a b := by
  have hs := House_made F.1 F.2.1 F.2.2.1
  obtain ⟨g0, m0, gj, gi, m1, m2, m3, m4, m5, m6, m7, m9, m10, m11, m12, t1, t2, t3, t4, t5, t6, t7, t8, t9, t10, t11, gx⟩ := G
  have z := fun {x k : Nat} h1 h2 h => fst_0 F (x := x) (k := k) h1 h2 h
  have a3 : ∀ k, hI a 300 k = if k = 10 then 108 else if k = 11 then 4 else if k = 14 then 1 else 0 := F.2.1
  have bI : ∀ x k, 362 ≤ x → x < 373 → ¬ x = 370 → hI b x k = 0 := fun x k h1 h2 h3 => by rw [(gx x h1 h2).1, if_neg (fun w => h3 w.1)]
  have bR : ∀ x, (x = 365 ∨ x = 371 ∨ x = 372) → hR b x 1 = 257 := fun x h => by rw [(gx x (by omega) (by omega)).2.2, if_pos ⟨h, rfl⟩]
  have nz : nN a = 8 := by
    unfold nN
    rw [F.2.2.1 313 1 (by omega) (by omega)]
    rfl
  have hdz : hdN a = 0 := by
    unfold hdN
    rw [z (by omega) (by omega) (by omega)]
    rfl
  have fz : fcN a = 0 := by
    unfold fcN
    rw [z (by omega) (by omega) (by omega)]
    rfl
  have tz : trN a = 0 := by
    unfold trN
    rw [z (by omega) (by omega) (by omega)]
    rfl
  have iz : imN a = 0 := by
    unfold imN
    rw [a3]
    rfl
  refine RR.of hs ?_ (fun k x j h => ?_) ⟨fun s hs' => ?_, fun p hp => ?_⟩ (fun k hk => ?_) ⟨fun s hs' => Or.inl ⟨z (by omega) (by omega) (by omega), ?_⟩, ?_⟩ ⟨0, 0, by omega, by omega, z (by omega) (by omega) (by omega), z (by omega) (by omega) (by omega), bI _ _ (by omega) (by omega) (by omega), bI _ _ (by omega) (by omega) (by omega), fz, ?_, fun f hf => ?_⟩ ⟨fun i hi => ?_, ?_⟩ ⟨⟨?_, by omega, fun k hk => ?_⟩, ?_, Or.inl ⟨iz, bR 371 (by omega)⟩, fun k hk => ?_⟩ ⟨fun _ => bR 365 (by omega), fun _ => bR 365 (by omega), fun _ => bR 371 (by omega)⟩ ⟨0, Nat.le_refl _, by omega, z (by omega) (by omega) (by omega), gj 28, fun i hi => Or.inl ⟨fst_sp F hi, ?_⟩⟩ ?_
  · exact ⟨m0, m1, m2, m3, m4, m5, m6, m7, m9, m10, m11, m12, t1, t2, t3, by rw [t4], t5, t6, t7, t8, t9, by rw [t10], by rw [t11], g0⟩
  · rw [gi]
    simp only [scl, List.mem_cons, List.not_mem_nil, or_false, Prod.mk.injEq] at h
    rcases h with h | h | h | h | h | h | h | h | h | h | h | h | h | h | h | h <;> obtain ⟨rfl, rfl, rfl⟩ := h <;> first | (rw [a3]; rfl) | (rw [z (by omega) (by omega) (by omega)]; rfl) | (rw [F.2.2.1 _ _ (by omega) (by omega)]; rfl)
  · unfold cVal cSum
    rw [bI _ _ (by omega) (by omega) (by omega), bI _ _ (by omega) (by omega) (by omega), z (by omega) (by omega) (by omega), z (by omega) (by omega) (by omega)]
    exact ⟨rfl, rfl⟩
  · rw [bI _ _ (by omega) (by omega) (by omega), z (by omega) (by omega) (by omega)]
  · rw [(gx 369 (by omega) (by omega)).2.1, F.2.2.2]
  · rw [(gx 370 (by omega) (by omega)).1, if_pos ⟨rfl, hs'⟩]
  · rw [z (by omega) (by omega) (by omega), cnt_none (fun i hi => by
      unfold lgP
      rw [z (by omega) (by omega) (by omega)]
      exact decide_eq_false (fun w => w rfl))]
    rfl
  · rw [fz]
    exact ⟨bI _ _ (by omega) (by omega) (by omega), Or.inl ⟨rfl, bR 365 (by omega)⟩, fun i hi => absurd hi (Nat.not_lt_zero _)⟩
  · rw [fz] at hf
    exact absurd hf (Nat.not_lt_zero _)
  · rw [tz] at hi
    exact absurd hi (Nat.not_lt_zero _)
  · rw [tz]
    exact ⟨bI _ _ (by omega) (by omega) (by omega), Or.inl ⟨rfl, bR 372 (by omega)⟩, fun i hi => absurd hi (Nat.not_lt_zero _)⟩
  · rw [iz, a3]
    rfl
  · rw [iz] at hk
    exact absurd hk (Nat.not_lt_zero _)
  · rw [iz]
    exact bI _ _ (by omega) (by omega) (by omega)
  · rw [iz] at hk
    exact absurd hk (Nat.not_lt_zero _)
  · rw [(gx 368 (by omega) (by omega)).2.2, if_neg (by omega)]
  · refine ⟨fun i _ hi => fst_sp F hi, by omega, fun i j hi hj _ q => absurd (fst_sp F hi) q, Or.inr ⟨by rw [a3]; rfl, fun s hs' q => absurd (z (by omega) (by omega) (by omega)) q⟩, ⟨0, by omega, by rw [a3]; rfl⟩, Or.inl (by rw [a3]; rfl), ⟨4, by omega, by omega, by rw [a3]; rfl⟩, ⟨0, by omega, by rw [a3]; rfl⟩, ⟨by rw [F.2.2.1 302 0 (by omega) (by omega)]; rfl, z (by omega) (by omega) (by omega)⟩, ⟨0, by omega, z (by omega) (by omega) (by omega)⟩⟩
theorem INV_0 {a : CH} (F : FstA a) : INV 0 a := by
  have z := fun {x k : Nat} h1 h2 h => fst_0 F (x := x) (k := k) h1 h2 h
  refine ⟨wk_zero ⟨z (by omega) (by omega) (by omega), fun i hi => z (by omega) (by omega) (by omega)⟩, fun i hi => ?_, fun j hj => ⟨Or.inl ?_, z (by omega) (by omega) (by omega), z (by omega) (by omega) (by omega)⟩, 0, 0, by omega, z (by omega) (by omega) (by omega), z (by omega) (by omega) (by omega)⟩
  · rw [z (by omega) (by omega) (by omega)]
    exact ⟨⟨0, by omega, rfl⟩, fun _ => rfl⟩
  · rw [F.2.2.1 _ _ (by omega) (by omega)]
    unfold hseI
    rw [if_neg (by omega), if_neg (by omega), if_neg (by omega), if_pos (by omega)]
