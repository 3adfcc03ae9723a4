/-! THE STEPS OF BOTH SIDES, V: a write -/
theorem no_iff {n i : Nat} {g b : CH} (R : RR n g b) {t : Nat} {S H : Int32} (P : PgR t S H (hI g (313 + 2 + i)) (hI b (hR b 368 i)) (hJ b (hR b 368 i))) : (hI g 334 0 = 0 ∨ ¬ hI g (313 + 2 + i) 9 = 0) ↔ (hI b 361 17 = 0 ∨ ¬ hI b (hR b 368 i) 8 = 0) := by
  rw [R.sc 17 334 0 (by decide), P.ou]
theorem RR_chg {n i : Nat} {g b : CH} {v : Int32} (R : RR n g b) (hi : i < 16) (q : ¬ hR b 368 i = 0) (e5 : hI g (313 + 2 + i) 5 = hI g 313 3) (hv : ¬ v = -1) : RR n (cChange g i v 0) (mChange b (hR b 368 i) v 0) := by
  obtain ⟨t, t1, t2, t3, t4, t5⟩ := R.tm
  obtain ⟨p1, p2, p3⟩ := pgT R hi q
  have c0 : ¬ hI g (313 + 2 + i) 0 = -1 := fun z => q ((nul_iff R hi).mpr z)
  obtain ⟨w1, w2⟩ := fr_sp R hi c0
  have H' : House (cChange g i v 0) := House_change hi c0 R.hs
  have er := fun k => chg_row (g := g) (i := i) (k := k) (v := v) (fr := 0) hi
  have eo : ∀ x k, ¬ x = 313 + 2 + i → ¬ (x = 334 ∧ k = 2) → hI (cChange g i v 0) x k = hI g x k := fun x k => chg_oth
  obtain ⟨r1, r2, r3⟩ := chg_rt (g := g) (i := i) (v := v) (fr := 0)
  generalize cChange g i v 0 = A at H' er eo r1 r2 r3 ⊢
  obtain ⟨u1, u2, u3, u4, u5⟩ := mChg_rt (b := b) (p := hR b 368 i) (v := v) (nw := 0)
  have uI := fun k => mChg_I (b := b) (p := hR b 368 i) (k := k) (v := v) (nw := 0)
  have uJ := fun k => mChg_J (b := b) (p := hR b 368 i) (k := k) (v := v) (nw := 0)
  generalize mChange b (hR b 368 i) v 0 = B at u1 u2 u3 u4 u5 uI uJ ⊢
  have e0 : hI A (313 + 2 + i) 0 = hI g (313 + 2 + i) 0 := by
    rw [er, if_neg (by omega), if_neg (by omega), if_neg (by omega)]
    split <;> rfl
  refine RR_fr1 R H' hi r1 r2 (fun _ => by rw [r3]) (fun x k q1 _ _ _ q5 _ => eo x k q1 (by omega)) (fun x _ => by rw [u1]) (fun x k _ _ => by rw [u2]) (by omega) (fun x k q1 q2 q3 => u4 x k (fun z => q3 ⟨z, by omega⟩)) (fun x k q1 q2 q3 => u5 x k (fun z => q3 ⟨z, by omega⟩)) (Sc_cg R.sc (fun x k q => eo _ _ (by omega) (by omega)) (fun k hk => u4 _ _ (by omega))) t1 t2 ((eo _ _ (by omega) (by omega)).trans t3) ((u5 _ _ (by omega)).trans t4) (fun u h1 h2 => Nat.le_of_eq (tm_le t1 t2 t3 h1 h2)) ?_ ?_
  · rcases t5 i hi with z | ⟨z1, z2, z3, z4, P⟩
    · exact absurd z.1 c0
    have eS : cSum A (spN g i) = cSum g (spN g i) := (cVal_cg w2 (fun x k h1 h2 h3 h4 => eo _ _ (by omega) (by omega))).2
    have es : spN A i = spN g i := by unfold spN; rw [e0]
    refine Or.inr ⟨by rw [e0]; exact z1, by rw [u1, u2]; exact z2, by rw [u2]; exact z3, by rw [u2, u3]; exact z4, ?_⟩
    rw [es, eS, eo 332 _ (by omega) (by omega), u2]
    exact PgR_chg (by omega) P.pl P.pn P.mk P.ah P.ou P.us P.cm (fun w => ⟨(P.cl w).1, (P.cl w).2.2⟩) P.dt (e5.trans t3) t4 (fun _ => ⟨P.vl, fun w => (P.cl w).2.1⟩) (fun w => absurd rfl w) (fun w => ⟨(P.wk w).1, (P.wk w).2.2⟩) hv (no_iff R P) (fun w => Decidable.of_not_not (fun z => w (Or.inr z))) er uI uJ (fun _ => Decidable.em _)
  · exact Fm_cg R.fm (fun x k w => by
      by_cases c : x = 313 + 2 + i
      · rw [c, show k = 0 by omega]; exact e0
      · exact eo _ _ c (by omega))
theorem RR_comeW {n i s : Nat} {a b : CH} {v : Int32} (R : RR n a b) (hn : n + 1 < 5000) (hi : i < nN a) (hf : hI a (313 + 2 + i) 0 = -1) (hs : s < 128) (hno : ∀ j, j < 16 → ¬ hI a (313 + 2 + j) 0 = nI s) (hp : hI a 300 14 = 1) (hv : ¬ v = -1) : RR (n + 1) (cChange (cCome a 313 i (nI s) v) i v 1) (mChange (mComes b i s) (hN b) v 1) := by
  have h16 := R.ln.1
  have m23 := R.ml.2.2.2.2.2.2.2.2.2.2.2.2.2.2.2.2.2.2.2.2.2.2.2
  obtain ⟨t, t1, t2, t3, t4, t5⟩ := R.tm
  have Hg : House (cCome a 313 i (nI s) v) := House_come (by omega) hs R.hs
  have ge : ∀ x k, ¬ x = 313 + 2 + i → ¬ (x = 313 ∧ k = 3) → hI (cCome a 313 i (nI s) v) x k = hI a x k := fun x k q1 q2 => hI_come q1 q2
  have gr := fun k => come_row (a := a) (i := i) (k := k) (sp := nI s) (v := v) (by omega)
  have gt : hI (cCome a 313 i (nI s) v) 313 3 = nI (t + 1) := by rw [come_time (by omega), t3, nI_1]
  have grt : hT (cCome a 313 i (nI s) v) = hT a ∧ hR (cCome a 313 i (nI s) v) = hR a ∧ hJ (cCome a 313 i (nI s) v) = hJ a := ⟨rfl, rfl, rfl⟩
  have hH := no_log R hs hp hno
  rw [t3, nI_1] at gr
  generalize cCome a 313 i (nI s) v = g at Hg ge gr gt grt ⊢
  have g0 : hI g (313 + 2 + i) 0 = nI s := by rw [gr, if_pos rfl]
  have H' : House (cChange g i v 1) := House_change (by omega) (by rw [g0]; exact nI_n1 hs) Hg
  have er := fun k => chg_row (g := g) (i := i) (k := k) (v := v) (fr := 1) (by omega)
  have eo : ∀ x k, ¬ x = 313 + 2 + i → ¬ (x = 334 ∧ k = 2) → hI (cChange g i v 1) x k = hI g x k := fun x k => chg_oth
  obtain ⟨r1, r2, r3⟩ := chg_rt (g := g) (i := i) (v := v) (fr := 1)
  generalize cChange g i v 1 = A at H' er eo r1 r2 r3 ⊢
  obtain ⟨b1, b2, b3, b4, b5, b6, b7, b8⟩ := mComes_rd (b := b) (i := i) (s := s) m23
  have bt4 : hJ (mComes b i s) 361 28 = lN (t + 1) := by rw [b6, t4, lN_1]
  rw [t4, lN_1] at b8
  generalize mComes b i s = D at b1 b2 b3 b4 b5 b6 b7 b8 bt4 ⊢
  obtain ⟨u1, u2, u3, u4, u5⟩ := mChg_rt (b := D) (p := hN b) (v := v) (nw := 1)
  have uI := fun k => mChg_I (b := D) (p := hN b) (k := k) (v := v) (nw := 1)
  have uJ := fun k => mChg_J (b := D) (p := hN b) (k := k) (v := v) (nw := 1)
  generalize mChange D (hN b) v 1 = B at u1 u2 u3 u4 u5 uI uJ ⊢
  have e : ∀ x k, ¬ x = 313 + 2 + i → ¬ (x = 313 ∧ k = 3) → ¬ (x = 334 ∧ k = 2) → hI A x k = hI a x k := fun x k q1 q2 q3 => (eo x k q1 q3).trans (ge x k q1 q2)
  have e0 : hI A (313 + 2 + i) 0 = nI s := by
    rw [← g0, er, if_neg (by omega), if_neg (by omega), if_neg (by omega)]
    split <;> rfl
  refine RR_fr1 (t' := t + 1) R H' (by omega) (r1.trans grt.1) (r2.trans grt.2.1) (fun _ => by rw [r3, grt.2.2]) (fun x k q1 _ _ q4 q5 _ => e x k q1 (by omega) (by omega)) (fun x h => by rw [u1, b2, if_neg (by omega)]) (fun x k h q => by rw [u2, b3, if_neg q, if_neg (by omega)]) (by omega) (fun x k h q1 q2 => by rw [u4 _ _ (by omega)]; exact b4 _ _ (by omega)) (fun x k h q1 q2 => by rw [u5 _ _ (by omega)]; exact b5 _ _ (by omega) q1) (Sc_cg R.sc (fun x k q => e _ _ (by omega) (by omega) (by omega)) (fun k hk => by rw [u4 _ _ (by omega)]; exact b4 _ _ (by omega))) (by omega) (by omega) ((eo _ _ (by omega) (by omega)).trans gt) ((u5 _ _ (by omega)).trans bt4) (fun u h1 h2 => by have := tm_le t1 t2 t3 h1 h2; omega) ?_ (Fm_come R hi hs hno hp hf e e0)
  have ep : hR B 368 i = hN b := by rw [u2, b3, if_pos ⟨rfl, rfl⟩]
  have es : spN A i = s := by unfold spN; rw [e0]; exact nI_clamp (by omega)
  have eS : cSum A s = cSum a s := (cVal_cg hs (fun x k h1 h2 h3 h4 => e _ _ (by omega) (by omega) (by omega))).2
  refine Or.inr ⟨by rw [e0]; exact nI_n1 hs, ?_, ?_, ?_, ?_⟩
  · rw [ep, u1, b2, if_pos rfl]
  · rw [ep]; exact m23
  · rw [ep, u3]; omega
  · rw [ep, es, eS, e 332 s (by omega) (by omega) (by omega)]
    have gG : ∀ k, k = 2 ∨ k = 3 ∨ k = 8 ∨ k = 9 → hI g (313 + 2 + i) k = 0 := fun k h => by rw [gr, if_neg (by omega), if_neg (by omega), if_neg (by omega), if_neg (by omega), if_pos h]
    have iG : ∀ k, ¬ k = 0 → ¬ k = 6 → hI D (hN b) k = 0 := fun k h1 h2 => by rw [b7, if_neg h1, if_neg h2]
    have j3 : hJ D (hN b) 3 = -1 := by rw [b8]; rfl
    refine PgR_chg (by omega) (h0 := ?_) (h2 := ?_) (h6 := ?_) (h7 := ?_) (h8 := ?_) ⟨t + 1, Nat.le_refl _, ?_, ?_⟩ ⟨t + 1, Nat.le_refl _, ?_, ?_⟩ (fun _ => ⟨j3, hH⟩) (fun z => absurd (gG 3 (by omega)) z) ?_ bt4 (fun z => absurd z (by decide)) (fun _ => gG 3 (by omega)) (fun z => absurd (gG 9 (by omega)) z) hv ?_ (fun w => Decidable.of_not_not (fun z => w (Or.inr z))) er uI uJ (fun _ => Decidable.em _)
    · rw [b7, g0, if_pos rfl]
    · rw [iG 2 (by omega) (by omega), gG 2 (by omega)]
    · rw [b7, gr]; rfl
    · rw [iG 7 (by omega) (by omega), gG 8 (by omega)]
    · rw [iG 8 (by omega) (by omega), gG 9 (by omega)]
    · rw [gr]; rfl
    · rw [b8]; rfl
    · rw [gr]; rfl
    · rw [b8]; rfl
    · rw [gr]; rfl
    · rw [iG 8 (by omega) (by omega), gG 9 (by omega), ge 334 0 (by omega) (by omega), b4 361 17 (by omega), R.sc 17 334 0 (by decide)]
