/-! THE STEPS OF BOTH SIDES, IV: used, changed -/
theorem tm_le {n t u : Nat} {a : CH} (t1 : t ≤ n) (t2 : n < 5000) (t3 : hI a 313 3 = nI t) (h1 : u < 5000) (h2 : hI a 313 3 = nI u) : u = t := (nI_eq (by omega) (by omega)).mp (h2.symm.trans t3)
/-- a cell of a frame that has its like in the page -/
theorem RR_cell {n i fk ik : Nat} {a b : CH} {v : Int32} (R : RR n a b) (hi : i < 16) (q : ¬ hR b 368 i = 0) (hk : (fk = 2 ∧ ik = 2) ∨ (fk = 7 ∧ ik = 6) ∨ (fk = 8 ∧ ik = 7)) : RR n (sI a (313 + 2 + i) fk v) (sI b (hR b 368 i) ik v) := by
  obtain ⟨t, t1, t2, t3, t4, t5⟩ := R.tm
  obtain ⟨p1, p2, p3⟩ := pgT R hi q
  have c0 : ¬ hI a (313 + 2 + i) 0 = -1 := fun z => q ((nul_iff R hi).mpr z)
  obtain ⟨w1, w2⟩ := fr_sp R hi c0
  refine RR_fr1 R (House_sI R.hs (OkC_of (by omega)) (by omega)) hi rfl rfl (fun _ => rfl) (fun x k q1 _ _ _ _ _ => hI_ne q1) (fun _ _ => rfl) (fun _ _ _ _ => rfl) (Nat.le_refl _) (fun x k q1 q2 q3 => hI_ne (fun z => q3 ⟨z, by omega⟩)) (fun _ _ _ _ _ => rfl) (Sc_cg R.sc (fun x k q => hI_ne (by omega)) (fun k hk => hI_ne (by omega))) t1 t2 ((hI_ne (by omega)).trans t3) t4 (fun u h1 h2 => Nat.le_of_eq (tm_le t1 t2 t3 h1 h2)) ?_ (Fm_row R.fm (fun x k q1 q2 q3 => hI_ne q1) (hI_nk (by omega)) hi)
  rcases t5 i hi with z | ⟨z1, z2, z3, z4, P⟩
  · exact absurd z.1 c0
  have eS : cSum (sI a (313 + 2 + i) fk v) (spN a i) = cSum a (spN a i) := (cVal_cg w2 (fun x k h1 h2 h3 h4 => hI_ne (by omega))).2
  have eF : ∀ k, ¬ k = fk → hI (sI a (313 + 2 + i) fk v) (313 + 2 + i) k = hI a (313 + 2 + i) k := fun k q => hI_nk q
  have eI : ∀ k, ¬ k = ik → hI (sI b (hR b 368 i) ik v) (hR b 368 i) k = hI b (hR b 368 i) k := fun k q => hI_nk q
  have es : spN (sI a (313 + 2 + i) fk v) i = spN a i := by unfold spN; rw [eF _ (by omega)]
  have one : ∀ k l, (¬ k = fk ∧ ¬ l = ik ∧ hI b (hR b 368 i) l = hI a (313 + 2 + i) k) ∨ (k = fk ∧ l = ik) → hI (sI b (hR b 368 i) ik v) (hR b 368 i) l = hI (sI a (313 + 2 + i) fk v) (313 + 2 + i) k := fun k l h => by
    rcases h with ⟨g1, g2, g3⟩ | ⟨g1, g2⟩
    · rw [eF _ g1, eI _ g2, g3]
    · rw [g1, g2, hI_eq, hI_eq]
  refine Or.inr ⟨by rw [eF _ (by omega)]; exact z1, z2, z3, z4, ?_⟩
  rw [es, eS, hI_ne (show ¬ 332 = 313 + 2 + i by omega)]
  show PgR t _ _ _ (hI (sI b (hR b 368 i) ik v) (hR b 368 i)) (hJ b (hR b 368 i))
  refine PgR.of (one 0 0 (Or.inl ⟨by omega, by omega, P.pl⟩)) (one 1 1 (Or.inl ⟨by omega, by omega, P.vl⟩)) ?_ (fun z => ?_) (fun z => ?_) ?_ ?_ ?_ ?_ (one 9 8 (Or.inl ⟨by omega, by omega, P.ou⟩)) (fun z => ?_)
  · rcases hk with h | h | h
    · exact one 2 2 (Or.inr ⟨by omega, by omega⟩)
    · exact one 2 2 (Or.inl ⟨by omega, by omega, P.pn⟩)
    · exact one 2 2 (Or.inl ⟨by omega, by omega, P.pn⟩)
  · rw [eF _ (by omega)] at z ⊢
    exact P.cl z
  · rw [eF _ (by omega)] at z ⊢
    exact P.dt z
  · rw [eF _ (by omega)]
    exact P.us
  · rw [eF _ (by omega)]
    exact P.cm
  · rcases hk with h | h | h
    · exact one 7 6 (Or.inl ⟨by omega, by omega, P.mk⟩)
    · exact one 7 6 (Or.inr ⟨by omega, by omega⟩)
    · exact one 7 6 (Or.inl ⟨by omega, by omega, P.mk⟩)
  · rcases hk with h | h | h
    · exact one 8 7 (Or.inl ⟨by omega, by omega, P.ah⟩)
    · exact one 8 7 (Or.inl ⟨by omega, by omega, P.ah⟩)
    · exact one 8 7 (Or.inr ⟨by omega, by omega⟩)
  · rw [eF 9 (by omega)] at z
    rw [eF 3 (by omega), eF 1 (by omega), eF 10 (by omega), eF 11 (by omega), eF 12 (by omega), eI 9 (by omega), eI 11 (by omega)]
    exact P.wk z
theorem RR_hand {n k : Nat} {a b : CH} (R : RR n a b) (hk : k < nN a) : RR n (sI a 313 2 (nI k)) (sI b 361 13 (nI k)) := by
  have h16 := R.ln.1
  refine RR_scal R (House_sI R.hs ⟨fun q => absurd q (by omega), fun _ => ⟨k, by omega, rfl⟩, fun q => absurd q (by omega), fun q => absurd q (by omega), fun q => absurd q (by omega), fun q => absurd q (by omega), fun q => absurd q (by omega), fun q => absurd q (by omega)⟩ (by omega)) rfl rfl (fun _ => rfl) (fun x j q1 q2 q3 q4 q5 => by rw [hI_sI, if_neg (by omega)]) rfl rfl rfl rfl (fun x k q => hI_ne (by omega)) (Sc_set R.sc (by decide)) ?_
  have e : ∀ x j, ¬ (x = 313 ∧ j = 2) → hI (sI a 313 2 (nI k)) x j = hI a x j := fun x j q => by rw [hI_sI, if_neg q]
  obtain ⟨f1, f2, f3, f4, f5, f6, f7, f8, f9, f10⟩ := R.fm
  have eh : hdN (sI a 313 2 (nI k)) = k := by unfold hdN; rw [hI_eq]; exact nI_clamp (by omega)
  refine ⟨fun i h1 h2 => (e _ _ (by omega)).trans (f1 i h1 h2), by rw [eh]; exact hk, fun i j hi hj => ?_, ?_, f5, f6, f7, f8, f9, f10⟩
  · rw [e _ _ (by omega), e (313 + 2 + j) _ (by omega)]
    exact f3 i j hi hj
  · rcases f4 with ⟨g1, g2⟩ | ⟨g1, g2⟩
    · exact Or.inl ⟨g1, fun i hi => (e _ _ (by omega)).trans (g2 i hi)⟩
    · refine Or.inr ⟨g1, fun s' hs' hq => ?_⟩
      obtain ⟨i, hi, w2⟩ := g2 s' hs' (fun z => hq ((e _ _ (by omega)).trans z))
      exact ⟨i, hi, (e _ _ (by omega)).trans w2⟩
/-- a page used -/
def mUse (b : CH) (p : Nat) : CH := sI (sJ (sJ b 361 28 (hJ b 361 28 + 1)) p 4 (hJ b 361 28 + 1)) p 6 1
theorem RR_use {n i : Nat} {a b : CH} (R : RR n a b) (hn : n + 1 < 5000) (hi : i < 16) (q : ¬ hR b 368 i = 0) : RR (n + 1) (cUse a 313 i) (mUse b (hR b 368 i)) := by
  obtain ⟨t, t1, t2, t3, t4, t5⟩ := R.tm
  obtain ⟨p1, p2, p3⟩ := pgT R hi q
  have c0 : ¬ hI a (313 + 2 + i) 0 = -1 := fun z => q ((nul_iff R hi).mpr z)
  obtain ⟨w1, w2⟩ := fr_sp R hi c0
  have e : ∀ x k, ¬ (x = 313 ∧ k = 3) → ¬ (x = 313 + 2 + i ∧ (k = 5 ∨ k = 7)) → hI (cUse a 313 i) x k = hI a x k := fun x k h1 h2 => by
    unfold cUse
    rw [hI_sI, if_neg (by omega), hI_sI, if_neg (by omega), hI_sI, if_neg h1]
  have e5 : hI (cUse a 313 i) (313 + 2 + i) 5 = nI (t + 1) := by
    unfold cUse
    rw [hI_nk (by omega), hI_eq, t3, nI_1]
  have e7 : hI (cUse a 313 i) (313 + 2 + i) 7 = 1 := by
    unfold cUse
    rw [hI_eq]
  have et : hI (cUse a 313 i) 313 3 = nI (t + 1) := by
    unfold cUse
    rw [hI_ne (by omega), hI_ne (by omega), hI_eq, t3, nI_1]
  have H' := House_use hi R.hs
  have rt : hT (cUse a 313 i) = hT a ∧ hR (cUse a 313 i) = hR a ∧ hJ (cUse a 313 i) = hJ a := ⟨rfl, rfl, rfl⟩
  generalize cUse a 313 i = A at e e5 e7 et H' rt ⊢
  have u1 : ∀ x k, hJ (mUse b (hR b 368 i)) x k = if x = hR b 368 i ∧ k = 4 then lN (t + 1) else if x = 361 ∧ k = 28 then lN (t + 1) else hJ b x k := fun x k => by
    show hJ (sJ (sJ b 361 28 (hJ b 361 28 + 1)) (hR b 368 i) 4 (hJ b 361 28 + 1)) x k = _
    rw [hJ_2, hJ_2, t4, lN_1]
  have u2 : ∀ x k, hI (mUse b (hR b 368 i)) x k = if x = hR b 368 i ∧ k = 6 then 1 else hI b x k := fun x k => by
    show hI (sI _ (hR b 368 i) 6 1) x k = _
    rw [hI_sI]
    rfl
  have u3 : hT (mUse b (hR b 368 i)) = hT b ∧ hR (mUse b (hR b 368 i)) = hR b ∧ hN (mUse b (hR b 368 i)) = hN b := ⟨rfl, rfl, rfl⟩
  generalize mUse b (hR b 368 i) = B at u1 u2 u3 ⊢
  refine RR_fr1 (t' := t + 1) R H' hi rt.1 rt.2.1 (fun _ => by rw [rt.2.2]) (fun x k q1 _ _ q4 _ _ => e _ _ (by omega) (by omega)) (fun x _ => by rw [u3.1]) (fun x k _ _ => by rw [u3.2.1]) (by omega) (fun x k q1 q2 q3 => by rw [u2, if_neg (fun z => q3 ⟨z.1, by omega⟩)]) (fun x k q1 q2 q3 => by rw [u1, if_neg (fun z => q3 ⟨z.1, by omega⟩), if_neg q2]) (Sc_cg R.sc (fun x k q => e _ _ (by omega) (by omega)) (fun k hk => by rw [u2, if_neg (by omega)])) (by omega) (by omega) et (by rw [u1, if_neg (by omega), if_pos ⟨rfl, rfl⟩]) (fun u h1 h2 => by have := tm_le t1 t2 t3 h1 h2; omega) ?_ (Fm_row R.fm (fun x k q1 q2 q3 => e _ _ (by omega) (by omega)) (e _ _ (by omega) (by omega)) hi)
  rcases t5 i hi with z | ⟨z1, z2, z3, z4, P⟩
  · exact absurd z.1 c0
  have eS : cSum A (spN a i) = cSum a (spN a i) := (cVal_cg w2 (fun x k h1 h2 h3 h4 => e _ _ (by omega) (by omega))).2
  have es : spN A i = spN a i := by unfold spN; rw [e _ _ (by omega) (by omega)]
  have eF : ∀ k, ¬ (k = 5 ∨ k = 7) → hI A (313 + 2 + i) k = hI a (313 + 2 + i) k := fun k q => e _ _ (by omega) (by omega)
  have eI : ∀ k, ¬ k = 6 → hI B (hR b 368 i) k = hI b (hR b 368 i) k := fun k q => by rw [u2, if_neg (fun z => q z.2)]
  have eJ : ∀ k, ¬ k = 4 → hJ B (hR b 368 i) k = hJ b (hR b 368 i) k := fun k q => by rw [u1, if_neg (fun z => q z.2), if_neg (by omega)]
  refine Or.inr ⟨by rw [eF _ (by omega)]; exact z1, by rw [u3.1, u3.2.1]; exact z2, by rw [u3.2.1]; exact z3, by rw [u3.2.1, u3.2.2]; exact z4, ?_⟩
  rw [es, eS, e 332 _ (by omega) (by omega), u3.2.1]
  refine PgR.of (by rw [eF 0 (by omega), eI 0 (by omega)]; exact P.pl) (by rw [eF 1 (by omega), eI 1 (by omega)]; exact P.vl) (by rw [eF 2 (by omega), eI 2 (by omega)]; exact P.pn) (fun z => ?_) (fun z => ?_) ⟨t + 1, Nat.le_refl _, e5, by rw [u1, if_pos ⟨rfl, rfl⟩]⟩ ?_ (by rw [e7, u2, if_pos ⟨rfl, rfl⟩]) (by rw [eF 8 (by omega), eI 7 (by omega)]; exact P.ah) (by rw [eF 9 (by omega), eI 8 (by omega)]; exact P.ou) (fun z => ?_)
  · rw [eF _ (by omega)] at z
    rw [eF 1 (by omega), eJ 3 (by omega)]
    exact P.cl z
  · rw [eF _ (by omega)] at z
    rw [eF 4 (by omega), eJ 3 (by omega)]
    obtain ⟨k, k1, k2⟩ := P.dt z
    exact ⟨k, by omega, k2⟩
  · rw [eF 6 (by omega), eJ 5 (by omega)]
    obtain ⟨k, k1, k2⟩ := P.cm
    exact ⟨k, by omega, k2⟩
  · rw [eF 9 (by omega)] at z
    rw [eF 3 (by omega), eF 1 (by omega), eF 10 (by omega), eF 11 (by omega), eF 12 (by omega), eI 9 (by omega), eI 11 (by omega), eJ 10 (by omega), eJ 3 (by omega)]
    exact P.wk z
/-! a page changed -/
theorem rem_row {g : CH} {i k : Nat} {fr : Int32} (hi : i < 16) : hI (cRem g i fr) (313 + 2 + i) k = if hI g 334 0 = 0 ∨ ¬ hI g (313 + 2 + i) 9 = 0 then hI g (313 + 2 + i) k else if k = 12 then hI g (313 + 2 + i) 3 else if k = 11 then hI g (313 + 2 + i) 1 else if k = 10 then fr else if k = 9 then 1 else hI g (313 + 2 + i) k := by
  unfold cRem
  by_cases c : hI g 334 0 = 0 ∨ ¬ hI g (313 + 2 + i) 9 = 0
  · rw [if_pos c, if_pos c]
  · rw [if_neg c, if_neg c, hI_ne (by omega)]
    unfold cRemember
    rw [hI_sI]
    by_cases c2 : k = 12
    · rw [if_pos ⟨rfl, c2⟩, if_pos c2]
    rw [if_neg (fun z => c2 z.2), if_neg c2, hI_sI]
    by_cases c3 : k = 11
    · rw [if_pos ⟨rfl, c3⟩, if_pos c3]
    rw [if_neg (fun z => c3 z.2), if_neg c3, hI_sI]
    by_cases c4 : k = 10
    · rw [if_pos ⟨rfl, c4⟩, if_pos c4]
    rw [if_neg (fun z => c4 z.2), if_neg c4, hI_sI]
    by_cases c5 : k = 9
    · rw [if_pos ⟨rfl, c5⟩, if_pos c5]
    rw [if_neg (fun z => c5 z.2), if_neg c5]
theorem rem_oth {g : CH} {i x k : Nat} {fr : Int32} (h1 : ¬ x = 313 + 2 + i) (h2 : ¬ (x = 334 ∧ k = 2)) : hI (cRem g i fr) x k = hI g x k := by
  unfold cRem
  split
  · rfl
  · rw [hI_sI, if_neg h2]
    unfold cRemember
    rw [hI_ne h1, hI_ne h1, hI_ne h1, hI_ne h1]
theorem chg_row {g : CH} {i k : Nat} {v fr : Int32} (hi : i < 16) : hI (cChange g i v fr) (313 + 2 + i) k = if k = 1 then v else if k = 3 then (if hI g (313 + 2 + i) 3 = 0 then 1 else hI g (313 + 2 + i) 3) else if k = 4 then (if hI g (313 + 2 + i) 3 = 0 then hI g (313 + 2 + i) 5 else hI g (313 + 2 + i) 4) else if hI g 334 0 = 0 ∨ ¬ hI g (313 + 2 + i) 9 = 0 then hI g (313 + 2 + i) k else if k = 12 then hI g (313 + 2 + i) 3 else if k = 11 then hI g (313 + 2 + i) 1 else if k = 10 then fr else if k = 9 then 1 else hI g (313 + 2 + i) k := by
  have r := fun k => rem_row (g := g) (i := i) (k := k) (fr := fr) hi
  have r3 : hI (cRem g i fr) (313 + 2 + i) 3 = hI g (313 + 2 + i) 3 := by rw [r]; split <;> rfl
  have r4 : hI (cRem g i fr) (313 + 2 + i) 4 = hI g (313 + 2 + i) 4 := by rw [r]; split <;> rfl
  have r5 : hI (cRem g i fr) (313 + 2 + i) 5 = hI g (313 + 2 + i) 5 := by rw [r]; split <;> rfl
  unfold cChange cSet
  rw [r3, r5]
  by_cases c : hI g (313 + 2 + i) 3 = 0
  · rw [if_pos c, if_pos c, if_pos c, hI_sI]
    by_cases k4 : k = 4
    · rw [if_pos ⟨rfl, k4⟩, if_neg (by omega), if_neg (by omega), if_pos k4]
    rw [if_neg (fun z => k4 z.2), hI_sI]
    by_cases k3 : k = 3
    · rw [if_pos ⟨rfl, k3⟩, if_neg (by omega), if_pos k3]
    rw [if_neg (fun z => k3 z.2), hI_sI]
    by_cases k1 : k = 1
    · rw [if_pos ⟨rfl, k1⟩, if_pos k1]
    rw [if_neg (fun z => k1 z.2), if_neg k1, if_neg k3, if_neg k4, r]
  · rw [if_neg c, if_neg c, if_neg c, hI_sI]
    by_cases k1 : k = 1
    · rw [if_pos ⟨rfl, k1⟩, if_pos k1]
    rw [if_neg (fun z => k1 z.2), if_neg k1]
    by_cases k3 : k = 3
    · rw [if_pos k3, k3, r3]
    rw [if_neg k3]
    by_cases k4 : k = 4
    · rw [if_pos k4, k4, r4]
    rw [if_neg k4, r]
theorem chg_oth {g : CH} {i x k : Nat} {v fr : Int32} (h1 : ¬ x = 313 + 2 + i) (h2 : ¬ (x = 334 ∧ k = 2)) : hI (cChange g i v fr) x k = hI g x k := by
  unfold cChange cSet
  split
  · rw [hI_ne h1, hI_ne h1, hI_ne h1, rem_oth h1 h2]
  · rw [hI_ne h1, rem_oth h1 h2]
theorem chg_rt {g : CH} {i : Nat} {v fr : Int32} : hT (cChange g i v fr) = hT g ∧ hR (cChange g i v fr) = hR g ∧ hJ (cChange g i v fr) = hJ g := by
  unfold cChange cSet cRem
  split <;> split <;> exact ⟨rfl, rfl, rfl⟩
def mRem (b : CH) (p : Nat) (nw : Int32) : CH := if hI b 361 17 = 0 ∨ ¬ hI b p 8 = 0 then b else sJ (sI (sI (sI b p 8 1) p 11 nw) p 9 (hI b p 1)) p 10 (hJ b p 3)
def mChange (b : CH) (p : Nat) (v nw : Int32) : CH := sJ (sI (mRem b p nw) p 1 v) p 3 (if hJ b p 3 = -1 then hJ b 361 28 else hJ b p 3)
theorem mChg_rt {b : CH} {p : Nat} {v nw : Int32} : hT (mChange b p v nw) = hT b ∧ hR (mChange b p v nw) = hR b ∧ hN (mChange b p v nw) = hN b ∧ (∀ x k, ¬ x = p → hI (mChange b p v nw) x k = hI b x k) ∧ (∀ x k, ¬ x = p → hJ (mChange b p v nw) x k = hJ b x k) := by
  unfold mChange mRem
  split
  · exact ⟨rfl, rfl, rfl, fun x k q => hI_ne q, fun x k q => hJ_ne q⟩
  · refine ⟨rfl, rfl, rfl, fun x k q => ?_, fun x k q => ?_⟩
    · show hI (sI (sI (sI (sI b p 8 1) p 11 nw) p 9 (hI b p 1)) p 1 v) x k = _
      rw [hI_ne q, hI_ne q, hI_ne q, hI_ne q]
    · show hJ (sJ (sJ b p 10 (hJ b p 3)) p 3 _) x k = _
      rw [hJ_ne q, hJ_ne q]
theorem mChg_I {b : CH} {p k : Nat} {v nw : Int32} : hI (mChange b p v nw) p k = if k = 1 then v else if hI b 361 17 = 0 ∨ ¬ hI b p 8 = 0 then hI b p k else if k = 9 then hI b p 1 else if k = 11 then nw else if k = 8 then 1 else hI b p k := by
  unfold mChange mRem
  by_cases c : hI b 361 17 = 0 ∨ ¬ hI b p 8 = 0
  · rw [if_pos c, if_pos c]
    show hI (sI b p 1 v) p k = _
    rw [hI_sI]
    by_cases k1 : k = 1
    · rw [if_pos ⟨rfl, k1⟩, if_pos k1]
    · rw [if_neg (fun z => k1 z.2), if_neg k1]
  · rw [if_neg c, if_neg c]
    show hI (sI (sI (sI (sI b p 8 1) p 11 nw) p 9 (hI b p 1)) p 1 v) p k = _
    rw [hI_sI]
    by_cases k1 : k = 1
    · rw [if_pos ⟨rfl, k1⟩, if_pos k1]
    rw [if_neg (fun z => k1 z.2), if_neg k1, hI_sI]
    by_cases k9 : k = 9
    · rw [if_pos ⟨rfl, k9⟩, if_pos k9]
    rw [if_neg (fun z => k9 z.2), if_neg k9, hI_sI]
    by_cases k11 : k = 11
    · rw [if_pos ⟨rfl, k11⟩, if_pos k11]
    rw [if_neg (fun z => k11 z.2), if_neg k11, hI_sI]
    by_cases k8 : k = 8
    · rw [if_pos ⟨rfl, k8⟩, if_pos k8]
    rw [if_neg (fun z => k8 z.2), if_neg k8]
theorem mChg_J {b : CH} {p k : Nat} {v nw : Int32} : hJ (mChange b p v nw) p k = if k = 3 then (if hJ b p 3 = -1 then hJ b 361 28 else hJ b p 3) else if hI b 361 17 = 0 ∨ ¬ hI b p 8 = 0 then hJ b p k else if k = 10 then hJ b p 3 else hJ b p k := by
  unfold mChange mRem
  rw [hJ_2]
  by_cases k3 : k = 3
  · rw [if_pos ⟨rfl, k3⟩, if_pos k3]
  rw [if_neg (fun z => k3 z.2), if_neg k3]
  by_cases c : hI b 361 17 = 0 ∨ ¬ hI b p 8 = 0
  · rw [if_pos c, if_pos c]
    rfl
  · rw [if_neg c, if_neg c]
    show hJ (sJ b p 10 (hJ b p 3)) p k = _
    rw [hJ_2]
    by_cases k10 : k = 10
    · rw [if_pos ⟨rfl, k10⟩, if_pos k10]
    · rw [if_neg (fun z => k10 z.2), if_neg k10]
theorem PgR_chg {t : Nat} {S H v fr : Int32} {ck : Int64} {no no' : Prop} [Decidable no] [Decidable no'] {G IG F I : Nat → Int32} {JG J : Nat → Int64} (ht : t < 5000) (h0 : IG 0 = G 0) (h2 : IG 2 = G 2) (h6 : IG 6 = G 7) (h7 : IG 7 = G 8) (h8 : IG 8 = G 9) (hus : ∃ k, k ≤ t ∧ G 5 = nI k ∧ JG 4 = lN k) (hcm : ∃ k, k ≤ t ∧ G 6 = nI k ∧ JG 5 = lN k) (hd0 : G 3 = 0 → JG 3 = -1 ∧ H = 0) (hd1 : ¬ G 3 = 0 → ∃ k, k ≤ t ∧ G 4 = nI k ∧ JG 3 = lN k) (hnow : G 5 = nI t) (hck : ck = lN t) (hfr : fr = 0 → IG 1 = G 1 ∧ (G 3 = 0 → G 1 = S)) (hfr1 : ¬ fr = 0 → G 3 = 0) (hwk : ¬ G 9 = 0 → ¬ G 3 = 0 ∧ (G 10 = 0 → IG 9 = G 11) ∧ IG 11 = G 10 ∧ (G 12 = 0 → JG 10 = -1) ∧ (¬ G 12 = 0 → JG 10 = JG 3) ∧ (G 10 = 0 → G 12 = 0 → G 11 = S) ∧ ((¬ G 10 = 0 ∨ G 12 = 0) → H = 0)) (hv : ¬ v = -1) (hno : no ↔ no') (hn2 : ¬ no → G 9 = 0)
    (eF : ∀ k, F k = if k = 1 then v else if k = 3 then (if G 3 = 0 then 1 else G 3) else if k = 4 then (if G 3 = 0 then G 5 else G 4) else if no then G k else if k = 12 then G 3 else if k = 11 then G 1 else if k = 10 then fr else if k = 9 then 1 else G k)
    (eI : ∀ k, I k = if k = 1 then v else if no' then IG k else if k = 9 then IG 1 else if k = 11 then fr else if k = 8 then 1 else IG k)
    (eJ : ∀ k, J k = if k = 3 then (if JG 3 = -1 then ck else JG 3) else if no' then JG k else if k = 10 then JG 3 else JG k) (hmark : no → G 9 = 0 ∨ ¬ G 9 = 0) : PgR t S H F I J := by
  have fo : ∀ k, k = 0 ∨ k = 2 ∨ k = 5 ∨ k = 6 ∨ k = 7 ∨ k = 8 → F k = G k := fun k h => by
    rw [eF, if_neg (by omega), if_neg (by omega), if_neg (by omega)]
    split
    · rfl
    · rw [if_neg (by omega), if_neg (by omega), if_neg (by omega), if_neg (by omega)]
  have io : ∀ k, k = 0 ∨ k = 2 ∨ k = 6 ∨ k = 7 → I k = IG k := fun k h => by
    rw [eI, if_neg (by omega)]
    split
    · rfl
    · rw [if_neg (by omega), if_neg (by omega), if_neg (by omega)]
  have jo : ∀ k, k = 4 ∨ k = 5 → J k = JG k := fun k h => by
    rw [eJ, if_neg (by omega)]
    split
    · rfl
    · rw [if_neg (by omega)]
  have f3 : ¬ F 3 = 0 := by
    rw [eF, if_neg (by omega), if_pos rfl]
    split
    · decide
    · next q => exact q
  have f1 : F 1 = v := by rw [eF, if_pos rfl]
  have i1 : I 1 = v := by rw [eI, if_pos rfl]
  have j3 : G 3 = 0 → J 3 = lN t := fun q => by rw [eJ, if_pos rfl, if_pos (hd0 q).1, hck]
  have j3' : ¬ G 3 = 0 → J 3 = JG 3 := fun q => by
    obtain ⟨k, k1, k2, k3⟩ := hd1 q
    rw [eJ, if_pos rfl, if_neg (by rw [k3]; exact lN_n1 (by omega))]
  refine PgR.of (by rw [io 0 (by omega), fo 0 (by omega)]; exact h0) (i1.trans f1.symm) (by rw [io 2 (by omega), fo 2 (by omega)]; exact h2) (fun z => absurd z f3) (fun _ => ?_) (by rw [fo 5 (by omega), jo 4 (by omega)]; exact hus) (by rw [fo 6 (by omega), jo 5 (by omega)]; exact hcm) (by rw [io 6 (by omega), fo 7 (by omega)]; exact h6) (by rw [io 7 (by omega), fo 8 (by omega)]; exact h7) ?_ (fun z => ?_)
  · by_cases q : G 3 = 0
    · exact ⟨t, Nat.le_refl _, by rw [eF, if_neg (by omega), if_neg (by omega), if_pos rfl, if_pos q]; exact hnow, j3 q⟩
    · obtain ⟨k, k1, k2, k3⟩ := hd1 q
      exact ⟨k, k1, by rw [eF, if_neg (by omega), if_neg (by omega), if_pos rfl, if_neg q]; exact k2, (j3' q).trans k3⟩
  · by_cases c : no
    · rw [eF, eI, if_pos c, if_pos (hno.mp c)]
      exact h8
    · rw [eF, eI, if_neg c, if_neg (fun z => c (hno.mpr z))]
      rfl
  · refine ⟨f3, by rw [f1]; exact hv, ?_⟩
    by_cases c : no
    · have c' := hno.mp c
      have e : ∀ k, 9 ≤ k → F k = G k ∧ I k = IG k ∧ J k = JG k := fun k h => ⟨by rw [eF, if_neg (by omega), if_neg (by omega), if_neg (by omega), if_pos c], by rw [eI, if_neg (by omega), if_pos c'], by rw [eJ, if_neg (by omega), if_pos c']⟩
      rw [(e 9 (by omega)).1] at z
      obtain ⟨w1, w2, w3, w4, w5, w6, w7⟩ := hwk z
      rw [(e 10 (by omega)).1, (e 9 (by omega)).2.1, (e 11 (by omega)).1, (e 11 (by omega)).2.1, (e 12 (by omega)).1, (e 10 (by omega)).2.2, j3' w1]
      exact ⟨w2, w3, w4, w5, w6, w7⟩
    · have c' : ¬ no' := fun z => c (hno.mpr z)
      have e9 : I 9 = IG 1 := by rw [eI, if_neg (by omega), if_neg c']; rfl
      have e11 : I 11 = fr := by rw [eI, if_neg (by omega), if_neg c']; rfl
      have g10 : F 10 = fr := by rw [eF, if_neg (by omega), if_neg (by omega), if_neg (by omega), if_neg c]; rfl
      have g11 : F 11 = G 1 := by rw [eF, if_neg (by omega), if_neg (by omega), if_neg (by omega), if_neg c]; rfl
      have g12 : F 12 = G 3 := by rw [eF, if_neg (by omega), if_neg (by omega), if_neg (by omega), if_neg c]; rfl
      have j10 : J 10 = JG 3 := by rw [eJ, if_neg (by omega), if_neg c']; rfl
      rw [e9, e11, g10, g11, g12, j10]
      refine ⟨fun q => (hfr q).1, rfl, fun q => (hd0 q).1, fun q => (j3' q).symm, fun q1 q2 => (hfr q1).2 q2, fun q => ?_⟩
      by_cases q3 : G 3 = 0
      · exact (hd0 q3).2
      · rcases q with q | q
        · exact absurd (hfr1 q) q3
        · exact absurd q q3
