/-! THE STEPS OF BOTH SIDES, III: one frame -/
theorem Fm_row {a a' : CH} {i : Nat} (F : Fm a) (ha : ∀ x k, ¬ (x = 313 + 2 + i) → ¬ (x = 313 ∧ k = 3) → ¬ x = 358 → hI a' x k = hI a x k) (h0 : hI a' (313 + 2 + i) 0 = hI a (313 + 2 + i) 0) (hi : i < 16) : Fm a' := Fm_cg F (fun x k q => by
  by_cases c : x = 313 + 2 + i
  · have hk : k = 0 := by omega
    rw [c, hk]
    exact h0
  · exact ha _ _ c (by omega) (by omega))
theorem hJ_2 {b : CH} {p k x j : Nat} {v : Int64} : hJ (sJ b p k v) x j = if x = p ∧ j = k then v else hJ b x j := rfl
theorem RR_clean {n i : Nat} {a b : CH} (R : RR n a b) (hi : i < 16) (q3 : ¬ hI a (313 + 2 + i) 3 = 0) (q9 : hI a (313 + 2 + i) 9 = 0) (e1 : hI a (313 + 2 + i) 1 = cSum a (spN a i)) (eH : hI a 332 (spN a i) = 0) : RR n (sI a (313 + 2 + i) 3 0) (sJ b (hR b 368 i) 3 (-1)) := by
  obtain ⟨c0, c⟩ := pl_pg R hi q3
  obtain ⟨t, t1, t2, t3, t4, t5⟩ := R.tm
  obtain ⟨p1, p2, p3⟩ := pgT R hi c
  obtain ⟨w1, w2⟩ := fr_sp R hi c0
  refine RR_fr1 R ⟨Hse_sI R.hs.1 (OkC_frame hi (fun q => absurd q (by omega)) (fun _ => Or.inl rfl)), Hol_s0 R.hs.2 (by omega)⟩ hi rfl rfl (fun _ => rfl) (fun x k q1 _ _ _ _ _ => hI_ne q1) (fun _ _ => rfl) (fun _ _ _ _ => rfl) (Nat.le_refl _) (fun _ _ _ _ _ => rfl) (fun x k q1 q2 q3 => by rw [hJ_2, if_neg (fun z => q3 ⟨z.1, by omega⟩)]) (Sc_cg R.sc (fun x k q => hI_ne (by omega)) (fun k hk => rfl)) t1 t2 ((hI_ne (by omega)).trans t3) (by rw [hJ_2, if_neg (by omega)]; exact t4) (fun u h1 h2 => ?_) ?_ (Fm_row R.fm (fun x k q1 q2 q3 => hI_ne q1) (hI_nk (by omega)) hi)
  · have z := (nI_eq (a := t) (b := u) (by omega) (by omega)).mp (t3.symm.trans h2)
    omega
  · rcases t5 i hi with z | ⟨z1, z2, z3, z4, P⟩
    · exact absurd z.1 c0
    · have eS : cSum (sI a (313 + 2 + i) 3 0) (spN a i) = cSum a (spN a i) := (cVal_cg w2 (fun x k h1 h2 h3 h4 => hI_ne (by omega))).2
      have es : spN (sI a (313 + 2 + i) 3 0) i = spN a i := by unfold spN; rw [hI_nk (by omega)]
      have eF : ∀ k, ¬ k = 3 → hI (sI a (313 + 2 + i) 3 0) (313 + 2 + i) k = hI a (313 + 2 + i) k := fun k q => hI_nk q
      have eJ : ∀ k, ¬ k = 3 → hJ (sJ b (hR b 368 i) 3 (-1)) (hR b 368 i) k = hJ b (hR b 368 i) k := fun k q => hJ_nk q
      refine Or.inr ⟨(eF 0 (by omega)) ▸ z1, z2, z3, z4, ?_⟩
      rw [es, eS, hI_ne (show ¬ 332 = 313 + 2 + i by omega)]
      refine PgR.of ?_ ?_ ?_ (fun _ => ⟨hJ_eq _ _ _ _, ?_, eH⟩) (fun z => absurd (hI_eq _ _ _ _) z) ?_ ?_ ?_ ?_ ?_ (fun z => ?_)
      · rw [eF _ (by omega)]; exact P.pl
      · rw [eF _ (by omega)]; exact P.vl
      · rw [eF _ (by omega)]; exact P.pn
      · rw [eF _ (by omega)]; exact e1
      · rw [eF _ (by omega)]; exact (by have := P.us; obtain ⟨k, k1, k2, k3⟩ := this; exact ⟨k, k1, k2, (eJ 4 (by omega)).trans k3⟩)
      · rw [eF _ (by omega)]; exact (by have := P.cm; obtain ⟨k, k1, k2, k3⟩ := this; exact ⟨k, k1, k2, (eJ 5 (by omega)).trans k3⟩)
      · rw [eF _ (by omega)]; exact P.mk
      · rw [eF _ (by omega)]; exact P.ah
      · rw [eF _ (by omega)]; exact P.ou
      · rw [eF _ (by omega)] at z
        exact absurd q9 z
theorem RR_drop {n i : Nat} {a b : CH} (R : RR n a b) (hi : i < 16) (hH : hI a 300 14 = 1 → ¬ hI a (313 + 2 + i) 0 = -1 → hI a 332 (spN a i) = 0) : RR n (cDrop a (313 + 2 + i)) (sR b 368 i 0) := by
  have m23 := R.ml.2.2.2.2.2.2.2.2.2.2.2.2.2.2.2.2.2.2.2.2.2.2.2
  obtain ⟨t, t1, t2, t3, t4, t5⟩ := R.tm
  have e : ∀ x k, ¬ x = 313 + 2 + i → hI (cDrop a (313 + 2 + i)) x k = hI a x k := fun x k q => hI_drop q
  have e0 : hI (cDrop a (313 + 2 + i)) (313 + 2 + i) 0 = -1 := hI_drop0.1
  have H' : House (cDrop a (313 + 2 + i)) := ⟨Hse_drop hi R.hs.1, Hol_drop R.hs.2⟩
  have rt : hT (cDrop a (313 + 2 + i)) = hT a ∧ hR (cDrop a (313 + 2 + i)) = hR a ∧ hJ (cDrop a (313 + 2 + i)) = hJ a := ⟨rfl, rfl, rfl⟩
  generalize cDrop a (313 + 2 + i) = A at e e0 H' rt ⊢
  refine RR_fr1 R H' hi rt.1 rt.2.1 (fun _ => by rw [rt.2.2]) (fun x k q1 _ _ _ _ _ => e x k q1) (fun _ _ => rfl) (fun x k _ q => by rw [hR_sR, if_neg q]) (Nat.le_refl _) (fun _ _ _ _ _ => rfl) (fun x k q1 q2 q3 => rfl) (Sc_cg R.sc (fun x k q => e _ _ (by omega)) (fun k hk => rfl)) t1 t2 ((e _ _ (by omega)).trans t3) t4 (fun u h1 h2 => ?_) (Or.inl ⟨e0, by rw [hR_sR, if_pos ⟨rfl, rfl⟩]⟩) ?_
  · have z := (nI_eq (a := t) (b := u) (by omega) (by omega)).mp (t3.symm.trans h2)
    omega
  · obtain ⟨f1, f2, f3, f4, f5, f6, f7, f8, f9, f10⟩ := R.fm
    have en : nN A = nN a := by unfold nN; rw [e _ _ (by omega)]
    have eh : hdN A = hdN a := by unfold hdN; rw [e _ _ (by omega)]
    refine ⟨fun j h1 h2 => ?_, by rw [en, eh]; exact f2, fun j l hj hl ee q => ?_, ?_, by rw [e _ _ (by omega)]; exact f5, by rw [e _ _ (by omega)]; exact f6, by rw [e _ _ (by omega)]; exact f7, by rw [e _ _ (by omega)]; exact f8, by rw [e _ _ (by omega), e _ _ (by omega)]; exact f9, by rw [e _ _ (by omega)]; exact f10⟩
    · rw [en] at h1
      by_cases c : j = i
      · rw [c]; exact e0
      · rw [e _ _ (by omega)]
        exact f1 j h1 h2
    · by_cases c : j = i
      · rw [c] at q
        exact absurd e0 q
      · rw [e _ _ (by omega)] at ee q
        by_cases d : l = i
        · rw [d, e0] at ee
          exact absurd ee q
        · rw [e _ _ (by omega)] at ee
          exact f3 j l hj hl ee q
    · rw [e 300 14 (by omega)]
      rcases f4 with ⟨g1, g2⟩ | ⟨g1, g2⟩
      · refine Or.inl ⟨g1, fun j hj => ?_⟩
        by_cases c : j = i
        · rw [c]; exact e0
        · rw [e _ _ (by omega)]; exact g2 j hj
      · refine Or.inr ⟨g1, fun s' hs' hq => ?_⟩
        rw [e 332 s' (by omega)] at hq
        obtain ⟨j, hj, w⟩ := g2 s' hs' hq
        by_cases c : j = i
        · rw [c] at w
          have hsp : spN a i = s' := by unfold spN; rw [w]; exact nI_clamp (by omega)
          exact absurd (by rw [← hsp]; exact hH g1 (by rw [w]; exact nI_n1 hs')) hq
        · exact ⟨j, hj, by rw [e _ _ (by omega)]; exact w⟩
/-! a page comes -/
def mC1 (b : CH) (s : Nat) : CH := sI (sI (sJ (nw (sJ b 361 28 (hJ b 361 28 + 1)) (15, 0)) (hN b) 3 (-1)) (hN b) 6 1) (hN b) 0 (nI s)
def mC2 (b : CH) (s : Nat) : CH := sJ (mC1 b s) (hN b) 4 (hJ (mC1 b s) 361 28)
def mC3 (b : CH) (s : Nat) : CH := sJ (mC2 b s) (hN b) 5 (hJ (mC2 b s) 361 28)
def mComes (b : CH) (i s : Nat) : CH := sR (mC3 b s) 368 i (hN b)
theorem mComes_rd {b : CH} {i s : Nat} (h3 : 373 ≤ hN b) : hN (mComes b i s) = hN b + 1 ∧ (∀ x, hT (mComes b i s) x = if x = hN b then (15, 0) else hT b x) ∧ (∀ x k, hR (mComes b i s) x k = if x = 368 ∧ k = i then hN b else if x = hN b then 0 else hR b x k) ∧ (∀ x k, ¬ x = hN b → hI (mComes b i s) x k = hI b x k) ∧ (∀ x k, ¬ x = hN b → ¬ (x = 361 ∧ k = 28) → hJ (mComes b i s) x k = hJ b x k) ∧ hJ (mComes b i s) 361 28 = hJ b 361 28 + 1 ∧ (∀ k, hI (mComes b i s) (hN b) k = if k = 0 then nI s else if k = 6 then 1 else 0) ∧ ∀ k, hJ (mComes b i s) (hN b) k = if k = 4 ∨ k = 5 then hJ b 361 28 + 1 else if k = 3 then -1 else 0 := by
  have c1 : hJ (mC1 b s) 361 28 = hJ b 361 28 + 1 := by
    show hJ (sJ (nw (sJ b 361 28 (hJ b 361 28 + 1)) (15, 0)) (hN b) 3 (-1)) 361 28 = _
    rw [hJ_ne (by omega), hJ_nw, hN_sJ, if_neg (show ¬ 361 = hN b by omega), hJ_eq]
  have c2 : hJ (mC2 b s) 361 28 = hJ b 361 28 + 1 := by
    show hJ (sJ (mC1 b s) (hN b) 4 _) 361 28 = _
    rw [hJ_ne (by omega), c1]
  refine ⟨rfl, fun x => ?_, fun x k => ?_, fun x k q => ?_, fun x k q1 q2 => ?_, ?_, fun k => ?_, fun k => ?_⟩
  · show hT (nw (sJ b 361 28 (hJ b 361 28 + 1)) (15, 0)) x = _
    rw [hT_nw]
    rfl
  · show hR (sR (mC3 b s) 368 i (hN b)) x k = _
    rw [hR_sR]
    by_cases c : x = 368 ∧ k = i
    · rw [if_pos c, if_pos c]
    · rw [if_neg c, if_neg c]
      show hR (nw (sJ b 361 28 (hJ b 361 28 + 1)) (15, 0)) x k = _
      rw [hR_nw]
      rfl
  · show hI (mC1 b s) x k = _
    unfold mC1
    rw [hI_ne q, hI_ne q]
    show hI (nw (sJ b 361 28 (hJ b 361 28 + 1)) (15, 0)) x k = _
    rw [hI_nw, hN_sJ, if_neg q]
    rfl
  · show hJ (sJ (mC2 b s) (hN b) 5 _) x k = _
    rw [hJ_ne q1]
    show hJ (sJ (mC1 b s) (hN b) 4 _) x k = _
    rw [hJ_ne q1]
    show hJ (sJ (nw (sJ b 361 28 (hJ b 361 28 + 1)) (15, 0)) (hN b) 3 (-1)) x k = _
    rw [hJ_ne q1, hJ_nw, hN_sJ, if_neg q1, hJ_2, if_neg q2]
  · show hJ (sJ (mC2 b s) (hN b) 5 _) 361 28 = _
    rw [hJ_ne (by omega), c2]
  · show hI (mC1 b s) (hN b) k = _
    unfold mC1
    rw [hI_sI]
    by_cases k0 : k = 0
    · rw [if_pos ⟨rfl, k0⟩, if_pos k0]
    · rw [if_neg (fun z => k0 z.2), if_neg k0, hI_sI]
      by_cases k6 : k = 6
      · rw [if_pos ⟨rfl, k6⟩, if_pos k6]
      · rw [if_neg (fun z => k6 z.2), if_neg k6]
        show hI (nw (sJ b 361 28 (hJ b 361 28 + 1)) (15, 0)) (hN b) k = 0
        rw [hI_nw]
        exact if_pos rfl
  · show hJ (sJ (mC2 b s) (hN b) 5 _) (hN b) k = _
    rw [hJ_2]
    by_cases k5 : k = 5
    · rw [if_pos ⟨rfl, k5⟩, c2, if_pos (Or.inr k5)]
    · rw [if_neg (fun z => k5 z.2)]
      show hJ (sJ (mC1 b s) (hN b) 4 _) (hN b) k = _
      rw [hJ_2]
      by_cases k4 : k = 4
      · rw [if_pos ⟨rfl, k4⟩, c1, if_pos (Or.inl k4)]
      · rw [if_neg (fun z => k4 z.2), if_neg (by omega)]
        show hJ (sJ (nw (sJ b 361 28 (hJ b 361 28 + 1)) (15, 0)) (hN b) 3 (-1)) (hN b) k = _
        rw [hJ_2]
        by_cases k3 : k = 3
        · rw [if_pos ⟨rfl, k3⟩, if_pos k3]
        · rw [if_neg (fun z => k3 z.2), if_neg k3, hJ_nw]
          exact if_pos rfl
theorem come_row {a : CH} {i k : Nat} {sp v : Int32} (hi : i < 16) : hI (cCome a 313 i sp v) (313 + 2 + i) k = if k = 0 then sp else if k = 1 then v else if k = 5 ∨ k = 6 then hI a 313 3 + 1 else if k = 7 then 1 else if k = 2 ∨ k = 3 ∨ k = 8 ∨ k = 9 then 0 else hI a (313 + 2 + i) k := by
  have e3 : hI (sI (sI (cDrop a (313 + 2 + i)) (313 + 2 + i) 0 sp) (313 + 2 + i) 1 v) 313 3 = hI a 313 3 := by
    rw [hI_ne (by omega), hI_ne (by omega), hI_drop (by omega)]
  unfold cCome cUse
  dsimp only
  rw [e3, hI_sI]
  by_cases k6 : k = 6
  · subst k6
    rw [if_pos ⟨rfl, rfl⟩, if_neg (by omega), if_neg (by omega), if_pos (Or.inr rfl)]
  rw [if_neg (fun z => k6 z.2), hI_sI]
  by_cases k7 : k = 7
  · subst k7
    rw [if_pos ⟨rfl, rfl⟩, if_neg (by omega), if_neg (by omega), if_neg (by omega), if_pos rfl]
  rw [if_neg (fun z => k7 z.2), hI_sI]
  by_cases k5 : k = 5
  · subst k5
    rw [if_pos ⟨rfl, rfl⟩, if_neg (by omega), if_neg (by omega), if_pos (Or.inl rfl)]
  rw [if_neg (fun z => k5 z.2), hI_ne (by omega), hI_sI]
  by_cases k1 : k = 1
  · subst k1
    rw [if_pos ⟨rfl, rfl⟩, if_neg (by omega), if_pos rfl]
  rw [if_neg (fun z => k1 z.2), hI_sI]
  by_cases k0 : k = 0
  · subst k0
    rw [if_pos ⟨rfl, rfl⟩, if_pos rfl]
  rw [if_neg (fun z => k0 z.2), if_neg k0, if_neg k1, if_neg (by omega), if_neg k7]
  unfold cDrop
  rw [hI_sI]
  by_cases k9 : k = 9
  · subst k9
    rw [if_pos ⟨rfl, rfl⟩, if_pos (by omega)]
  rw [if_neg (fun z => k9 z.2), hI_sI]
  by_cases k8 : k = 8
  · subst k8
    rw [if_pos ⟨rfl, rfl⟩, if_pos (by omega)]
  rw [if_neg (fun z => k8 z.2), hI_sI]
  by_cases k3 : k = 3
  · subst k3
    rw [if_pos ⟨rfl, rfl⟩, if_pos (by omega)]
  rw [if_neg (fun z => k3 z.2), hI_sI]
  by_cases k2 : k = 2
  · subst k2
    rw [if_pos ⟨rfl, rfl⟩, if_pos (by omega)]
  rw [if_neg (fun z => k2 z.2), hI_nk k0, if_neg (by omega)]
theorem come_time {a : CH} {i : Nat} {sp v : Int32} (hi : i < 16) : hI (cCome a 313 i sp v) 313 3 = hI a 313 3 + 1 := by
  have e3 : hI (sI (sI (cDrop a (313 + 2 + i)) (313 + 2 + i) 0 sp) (313 + 2 + i) 1 v) 313 3 = hI a 313 3 := by
    rw [hI_ne (by omega), hI_ne (by omega), hI_drop (by omega)]
  unfold cCome cUse
  dsimp only
  rw [e3, hI_ne (by omega), hI_ne (by omega), hI_ne (by omega), hI_eq]
theorem Fm_come {n i s : Nat} {a A b : CH} (R : RR n a b) (hi : i < nN a) (hs : s < 128) (hno : ∀ j, j < 16 → ¬ hI a (313 + 2 + j) 0 = nI s) (hp : hI a 300 14 = 1) (hf : hI a (313 + 2 + i) 0 = -1) (e : ∀ x k, ¬ x = 313 + 2 + i → ¬ (x = 313 ∧ k = 3) → ¬ (x = 334 ∧ k = 2) → hI A x k = hI a x k) (e0 : hI A (313 + 2 + i) 0 = nI s) : Fm A := by
  have h16 := R.ln.1
  obtain ⟨f1, f2, f3, f4, f5, f6, f7, f8, f9, f10⟩ := R.fm
  have en : nN A = nN a := by unfold nN; rw [e _ _ (by omega) (by omega) (by omega)]
  have eh : hdN A = hdN a := by unfold hdN; rw [e _ _ (by omega) (by omega) (by omega)]
  refine ⟨fun j h1 h2 => ?_, by rw [en, eh]; exact f2, fun j l hj hl ee q => ?_, ?_, by rw [e _ _ (by omega) (by omega) (by omega)]; exact f5, by rw [e _ _ (by omega) (by omega) (by omega)]; exact f6, by rw [e _ _ (by omega) (by omega) (by omega)]; exact f7, by rw [e _ _ (by omega) (by omega) (by omega)]; exact f8, by rw [e _ _ (by omega) (by omega) (by omega), e _ _ (by omega) (by omega) (by omega)]; exact f9, by rw [e _ _ (by omega) (by omega) (by omega)]; exact f10⟩
  · rw [en] at h1
    rw [e _ _ (by omega) (by omega) (by omega)]
    exact f1 j h1 h2
  · by_cases c : j = i
    · by_cases d : l = i
      · omega
      · rw [c, e0, e (313 + 2 + l) 0 (by omega) (by omega) (by omega)] at ee
        exact absurd ee.symm (hno l hl)
    · rw [e _ 0 (by omega) (by omega) (by omega)] at ee q
      by_cases d : l = i
      · rw [d, e0] at ee
        exact absurd ee (hno j hj)
      · rw [e _ 0 (by omega) (by omega) (by omega)] at ee
        exact f3 j l hj hl ee q
  · rw [e 300 14 (by omega) (by omega) (by omega)]
    rcases f4 with ⟨g1, g2⟩ | ⟨g1, g2⟩
    · rw [hp] at g1
      exact absurd g1 (by decide)
    · refine Or.inr ⟨g1, fun s' hs' hq => ?_⟩
      rw [e 332 s' (by omega) (by omega) (by omega)] at hq
      obtain ⟨j, hj, w⟩ := g2 s' hs' hq
      by_cases c : j = i
      · rw [c, hf] at w
        exact absurd w.symm (nI_n1 hs')
      · exact ⟨j, hj, by rw [e _ _ (by omega) (by omega) (by omega)]; exact w⟩
theorem no_log {n s : Nat} {a b : CH} (R : RR n a b) (hs : s < 128) (hp : hI a 300 14 = 1) (hno : ∀ j, j < 16 → ¬ hI a (313 + 2 + j) 0 = nI s) : hI a 332 s = 0 := by
  rcases R.fm.2.2.2.1 with ⟨g1, g2⟩ | ⟨g1, g2⟩
  · rw [hp] at g1
    exact absurd g1 (by decide)
  · by_cases c : hI a 332 s = 0
    · exact c
    · obtain ⟨j, hj, w⟩ := g2 s hs c
      exact absurd w (hno j hj)
theorem RR_come {n i s : Nat} {a b : CH} {v : Int32} (R : RR n a b) (hn : n + 1 < 5000) (hi : i < nN a) (hf : hI a (313 + 2 + i) 0 = -1) (hs : s < 128) (hno : ∀ j, j < 16 → ¬ hI a (313 + 2 + j) 0 = nI s) (hp : hI a 300 14 = 1) (hv : v = cSum a s) : RR (n + 1) (cCome a 313 i (nI s) v) (sI (mComes b i s) (hN b) 1 v) := by
  have h16 := R.ln.1
  have m23 := R.ml.2.2.2.2.2.2.2.2.2.2.2.2.2.2.2.2.2.2.2.2.2.2.2
  obtain ⟨t, t1, t2, t3, t4, t5⟩ := R.tm
  have H' : House (cCome a 313 i (nI s) v) := House_come (by omega) hs R.hs
  have e : ∀ x k, ¬ x = 313 + 2 + i → ¬ (x = 313 ∧ k = 3) → hI (cCome a 313 i (nI s) v) x k = hI a x k := fun x k q1 q2 => hI_come q1 q2
  have er := fun k => come_row (a := a) (i := i) (k := k) (sp := nI s) (v := v) (by omega)
  have et : hI (cCome a 313 i (nI s) v) 313 3 = nI (t + 1) := by rw [come_time (by omega), t3, nI_1]
  have rt : hT (cCome a 313 i (nI s) v) = hT a ∧ hR (cCome a 313 i (nI s) v) = hR a ∧ hJ (cCome a 313 i (nI s) v) = hJ a := ⟨rfl, rfl, rfl⟩
  have hH := no_log R hs hp hno
  generalize cCome a 313 i (nI s) v = A at H' e er et rt ⊢
  obtain ⟨r1, r2, r3, r4, r5, r6, r7, r8⟩ := mComes_rd (b := b) (i := i) (s := s) m23
  have et4 : hJ (mComes b i s) 361 28 = lN (t + 1) := by rw [r6, t4, lN_1]
  rw [t4, lN_1] at r8
  generalize mComes b i s = B at r1 r2 r3 r4 r5 r6 r7 r8 et4 ⊢
  have e0 : hI A (313 + 2 + i) 0 = nI s := by rw [er, if_pos rfl]
  refine RR_fr1 (t' := t + 1) R H' (by omega) rt.1 rt.2.1 (fun _ => by rw [rt.2.2]) (fun x k q1 _ _ q4 _ _ => e x k q1 (by omega)) (fun x h => by show hT B x = _; rw [r2, if_neg (by omega)]) (fun x k h q => by show hR B x k = _; rw [r3, if_neg q, if_neg (by omega)]) (by show hN b ≤ hN B; omega) (fun x k h q1 q2 => by rw [hI_ne (by omega)]; exact r4 _ _ (by omega)) (fun x k h q1 q2 => r5 _ _ (by omega) q1) (Sc_cg R.sc (fun x k q => e _ _ (by omega) (by omega)) (fun k hk => by rw [hI_ne (by omega)]; exact r4 _ _ (by omega))) (by omega) (by omega) et et4 (fun u h1 h2 => ?_) ?_ (Fm_come R hi hs hno hp hf (fun x k q1 q2 _ => e x k q1 q2) e0)
  · have z := (nI_eq (a := t) (b := u) (by omega) (by omega)).mp (t3.symm.trans h2)
    omega
  · have ep : hR (sI B (hN b) 1 v) 368 i = hN b := by show hR B 368 i = _; rw [r3, if_pos ⟨rfl, rfl⟩]
    have es : spN A i = s := by unfold spN; rw [e0]; exact nI_clamp (by omega)
    have eS : cSum A s = cSum a s := (cVal_cg hs (fun x k h1 h2 h3 h4 => e _ _ (by omega) (by omega))).2
    refine Or.inr ⟨by rw [e0]; exact nI_n1 hs, ?_, ?_, ?_, ?_⟩
    · rw [ep]; show (hT B (hN b)).1 = 15; rw [r2, if_pos rfl]
    · rw [ep]; exact m23
    · rw [ep]; show hN b < hN B; omega
    · have i7 : ∀ k, ¬ k = 1 → hI (sI B (hN b) 1 v) (hN b) k = if k = 0 then nI s else if k = 6 then 1 else 0 := fun k q => (hI_nk q).trans (r7 k)
      have j8 : ∀ k, hJ (sI B (hN b) 1 v) (hN b) k = if k = 4 ∨ k = 5 then lN (t + 1) else if k = 3 then -1 else 0 := r8
      rw [ep, es, eS, e 332 s (by omega) (by omega)]
      rw [t3, nI_1] at er
      refine PgR.of ?_ ?_ ?_ (fun _ => ⟨?_, ?_, hH⟩) (fun z => absurd (show hI A (313 + 2 + i) 3 = 0 by rw [er]; rfl) z) ⟨t + 1, Nat.le_refl _, ?_, ?_⟩ ⟨t + 1, Nat.le_refl _, ?_, ?_⟩ ?_ ?_ ?_ (fun z => absurd (show hI A (313 + 2 + i) 9 = 0 by rw [er]; rfl) z)
      · rw [i7 _ (by omega), er]; rfl
      · rw [hI_eq, er]; rfl
      · rw [i7 _ (by omega), er]; rfl
      · rw [j8]; rfl
      · rw [er]; exact hv
      · rw [er]; rfl
      · rw [j8]; rfl
      · rw [er]; rfl
      · rw [j8]; rfl
      · rw [i7 _ (by omega), er]; rfl
      · rw [i7 _ (by omega), er]; rfl
      · rw [i7 _ (by omega), er]; rfl
