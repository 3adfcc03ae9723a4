/-! COMMIT -/
theorem kp_has {h : CH} {sp s : Nat} {v : Int32} : hI (cKeep h 331 sp v) 332 s = if s = sp then (if hI h 332 sp = 0 then 1 else hI h 332 sp) else hI h 332 s := by
  unfold cKeep
  rw [hI_ne (by omega)]
  by_cases c : hI h (331 + 1) sp = 0
  · rw [if_pos c, if_pos c, hI_ne (by omega), hI_sI]
    by_cases d : s = sp
    · rw [if_pos ⟨rfl, d⟩, if_pos d]
    · rw [if_neg (fun z => d z.2), if_neg d]
  · rw [if_neg c, if_neg c]
    by_cases d : s = sp
    · rw [if_pos d, d]
    · rw [if_neg d]
theorem kp_val {h : CH} {sp s : Nat} {v : Int32} : hI (cKeep h 331 sp v) 333 s = if s = sp then v else hI h 333 s := by
  unfold cKeep
  rw [hI_sI]
  by_cases d : s = sp
  · rw [if_pos ⟨rfl, d⟩, if_pos d]
  · rw [if_neg (fun z => d z.2), if_neg d]
    split
    · rw [hI_ne (by omega), hI_ne (by omega)]
    · rfl
theorem kp_sz {h : CH} {sp : Nat} {v : Int32} : hI (cKeep h 331 sp v) 331 2 = if hI h 332 sp = 0 then hI h 331 2 + 1 else hI h 331 2 := by
  unfold cKeep
  rw [hI_ne (by omega)]
  by_cases c : hI h (331 + 1) sp = 0
  · rw [if_pos c, if_pos c, hI_eq]
  · rw [if_neg c, if_neg c]
theorem kp_rt {h : CH} {sp : Nat} {v : Int32} : hT (cKeep h 331 sp v) = hT h ∧ hR (cKeep h 331 sp v) = hR h ∧ hJ (cKeep h 331 sp v) = hJ h := by
  unfold cKeep
  split <;> exact ⟨rfl, rfl, rfl⟩
def cCK1 (a : CH) (i : Nat) : CH := sI (cKeep a 331 (spN a i) (hI a (313 + 2 + i) 1)) (313 + 2 + i) 9 0
def mCK1 (b : CH) (p : Nat) (s : Nat) : CH := sI (sI b 370 s (hI b p 1)) p 8 0
theorem RR_keep {n i : Nat} {a b : CH} (R : RR n a b) (hi : i < 16) (h9 : ¬ hI a (313 + 2 + i) 9 = 0) : RR n (cCK1 a i) (mCK1 b (hR b 368 i) (spN a i)) := by
  have c0 : ¬ hI a (313 + 2 + i) 0 = -1 := fun w => h9 (fr_hol R hi w).2
  have q : ¬ hR b 368 i = 0 := fun w => c0 ((nul_iff R hi).mp w)
  obtain ⟨w1, w2⟩ := fr_sp R hi c0
  obtain ⟨p1, p2, p3⟩ := pgT R hi q
  obtain ⟨t0, ht0, P⟩ := pgR R hi q
  obtain ⟨t, t1, t2, t3, t4, t5⟩ := R.tm
  have hW := P.wk h9
  have H' : House (cCK1 a i) := ⟨Hse_sI (Hse_keep R.hs.1) (OkC_frame hi (fun z => absurd z (by omega)) (fun z => absurd z (by omega))), Hol_s0 (Hol_keep R.hs.2) (by omega)⟩
  have e : ∀ x k, ¬ (x = 331 ∧ k = 2) → ¬ x = 332 → ¬ x = 333 → ¬ (x = 313 + 2 + i ∧ k = 9) → hI (cCK1 a i) x k = hI a x k := fun x k h1 h2 h3 h4 => by
    unfold cCK1
    rw [hI_sI, if_neg h4, hI_keep h1 h2 h3]
  have e2 : ∀ s, hI (cCK1 a i) 332 s = if s = spN a i then (if hI a 332 (spN a i) = 0 then 1 else hI a 332 (spN a i)) else hI a 332 s := fun s => by
    unfold cCK1
    rw [hI_ne (by omega), kp_has]
  have e3 : ∀ s, hI (cCK1 a i) 333 s = if s = spN a i then hI a (313 + 2 + i) 1 else hI a 333 s := fun s => by
    unfold cCK1
    rw [hI_ne (by omega), kp_val]
  have e1 : hI (cCK1 a i) 331 2 = if hI a 332 (spN a i) = 0 then hI a 331 2 + 1 else hI a 331 2 := by
    unfold cCK1
    rw [hI_ne (by omega), kp_sz]
  have e9 : hI (cCK1 a i) (313 + 2 + i) 9 = 0 := hI_eq _ _ _ _
  have rt : hT (cCK1 a i) = hT a ∧ hR (cCK1 a i) = hR a ∧ hJ (cCK1 a i) = hJ a := kp_rt (h := a) (sp := spN a i) (v := hI a (313 + 2 + i) 1)
  generalize cCK1 a i = A at H' e e1 e2 e3 e9 rt ⊢
  have u : ∀ x k, hI (mCK1 b (hR b 368 i) (spN a i)) x k = if x = hR b 368 i ∧ k = 8 then 0 else if x = 370 ∧ k = spN a i then hI a (313 + 2 + i) 1 else hI b x k := fun x k => by
    unfold mCK1
    rw [hI_sI, hI_sI, P.vl]
  have ur : hT (mCK1 b (hR b 368 i) (spN a i)) = hT b ∧ hR (mCK1 b (hR b 368 i) (spN a i)) = hR b ∧ hJ (mCK1 b (hR b 368 i) (spN a i)) = hJ b ∧ hN (mCK1 b (hR b 368 i) (spN a i)) = hN b := ⟨rfl, rfl, rfl, rfl⟩
  generalize mCK1 b (hR b 368 i) (spN a i) = B at u ur ⊢
  have ub : ∀ x k, ¬ x = hR b 368 i → ¬ x = 370 → hI B x k = hI b x k := fun x k h1 h2 => by rw [u, if_neg (fun z => h1 z.1), if_neg (fun z => h2 z.1)]
  have e332 : ¬ hI A 332 (spN a i) = 0 := by
    rw [e2, if_pos rfl]
    split
    · decide
    · next z => exact z
  have same : ∀ s, ¬ s = spN a i → hI A 332 s = hI a 332 s := fun s h => by rw [e2, if_neg h]
  refine RR_mid R H' rt.1 rt.2.1 (fun x k z => e _ _ (by omega) (by omega) (by omega) (by omega)) (fun x _ _ => by rw [ur.1]) (fun x k _ _ _ => by rw [ur.2.1]) (by omega) (fun x k z h1 h2 => ub _ _ (fun y => h2 (by rw [y]; exact p1)) (by omega)) (Sc_cg R.sc (fun x k z => e _ _ (by omega) (by omega) (by omega) (by omega)) (fun k hk => ub _ _ (by omega) (by omega))) (Vl_cg R.vl (fun x k h1 h2 h3 h4 => e _ _ (by omega) (by omega) (by omega) (by omega)) (fun x k h1 h2 => ub _ _ (by omega) (by omega))) (Bl_cg R.bl (fun k _ => by rw [rt.2.2]) (fun k _ => by rw [ur.2.2.1])) ⟨fun s hs => ?_, ?_⟩ ⟨t, t1, t2, (e _ _ (by omega) (by omega) (by omega) (by omega)).trans t3, by rw [ur.2.2.1]; exact t4, fun j hj => ?_⟩ ?_
  · by_cases c : s = spN a i
    · rw [c]
      refine Or.inr ⟨e332, ?_, ?_⟩
      · rw [u, if_neg (by omega), if_pos ⟨rfl, rfl⟩, e3, if_pos rfl]
      · rw [e3, if_pos rfl]; exact hW.2.1
    · rw [same s c, u, if_neg (by omega), if_neg (fun z => c z.2), e3, if_neg c]
      exact R.lg.1 s hs
  · rw [e1]
    by_cases c : hI a 332 (spN a i) = 0
    · rw [if_pos c, R.lg.2, cnt_less (p := lgP A) (q := lgP a) w2 (decide_eq_true e332) (decide_eq_false (fun z => z c)) (fun s hs hne => by unfold lgP; rw [same s hne])]
      exact nI_1 _
    · rw [if_neg c, R.lg.2]
      refine congrArg nI (cnt_cg (fun s hs => ?_))
      by_cases d : s = spN a i
      · rw [d]
        unfold lgP
        rw [decide_eq_true c, decide_eq_true e332]
      · unfold lgP
        rw [same s d]
  · by_cases c : j = i
    · subst c
      have es : spN A j = spN a j := by unfold spN; rw [e _ _ (by omega) (by omega) (by omega) (by omega)]
      have eF : ∀ k, ¬ k = 9 → hI A (313 + 2 + j) k = hI a (313 + 2 + j) k := fun k h => e _ _ (by omega) (by omega) (by omega) (by omega)
      have eI : ∀ k, ¬ k = 8 → hI B (hR b 368 j) k = hI b (hR b 368 j) k := fun k h => by rw [u, if_neg (fun z => h z.2), if_neg (by omega)]
      rcases t5 j hj with z | ⟨z1, z2, z3, z4, Pj⟩
      · exact absurd z.1 c0
      refine Or.inr ⟨by rw [eF _ (by omega)]; exact z1, by rw [ur.1, ur.2.1]; exact z2, by rw [ur.2.1]; exact z3, by rw [ur.2.1, ur.2.2.2]; exact z4, ?_⟩
      rw [ur.2.1, ur.2.2.1]
      refine PgR.of (by rw [eF 0 (by omega), eI 0 (by omega)]; exact Pj.pl) (by rw [eF 1 (by omega), eI 1 (by omega)]; exact Pj.vl) (by rw [eF 2 (by omega), eI 2 (by omega)]; exact Pj.pn) (fun z => ?_) (fun z => ?_) (by rw [eF 5 (by omega)]; exact Pj.us) (by rw [eF 6 (by omega)]; exact Pj.cm) (by rw [eF 7 (by omega), eI 6 (by omega)]; exact Pj.mk) (by rw [eF 8 (by omega), eI 7 (by omega)]; exact Pj.ah) (by rw [e9, u, if_pos ⟨rfl, rfl⟩]) (fun z => absurd e9 z)
      · rw [eF 3 (by omega)] at z
        exact absurd z hW.1
      · rw [eF 3 (by omega)] at z
        rw [eF 4 (by omega)]
        exact Pj.dt z
    · refine FrM_cg (t5 j hj) (Nat.le_refl _) (by omega) (fun k => e _ _ (by omega) (by omega) (by omega) (by omega)) (fun z => ⟨(cVal_cg (fr_sp R hj z).2 (fun x k h1 h2 h3 h4 => e _ _ (by omega) (by omega) (by omega) (by omega))).2, same _ (fun y => ?_)⟩) (by rw [ur.2.1]) (fun h1 h2 h3 => ?_)
      · have := R.fm.2.2.1 j i hj hi ((fr_sp R hj z).1.trans (by rw [y]; exact w1.symm)) z
        exact c this
      · have ne : ¬ hR b 368 j = hR b 368 i := pg_ne R hj hi c (by omega)
        exact ⟨by rw [ur.1]; exact h3, fun k => ub _ _ ne (by omega), fun k => by rw [ur.2.2.1]⟩
  · obtain ⟨f1, f2, f3, f4, f5, f6, f7, f8, f9, f10⟩ := R.fm
    have ee : ∀ x k, x < 331 → ¬ k = 9 → hI A x k = hI a x k := fun x k h1 h2 => e _ _ (by omega) (by omega) (by omega) (by omega)
    have en : nN A = nN a := by unfold nN; rw [ee _ _ (by omega) (by omega)]
    have eh : hdN A = hdN a := by unfold hdN; rw [ee _ _ (by omega) (by omega)]
    refine ⟨fun j h1 h2 => ?_, by rw [en, eh]; exact f2, fun j l hj hl => ?_, ?_, by rw [ee _ _ (by omega) (by omega)]; exact f5, by rw [ee _ _ (by omega) (by omega)]; exact f6, by rw [ee _ _ (by omega) (by omega)]; exact f7, by rw [ee _ _ (by omega) (by omega)]; exact f8, by rw [ee _ _ (by omega) (by omega), ee _ _ (by omega) (by omega)]; exact f9, by rw [ee _ _ (by omega) (by omega)]; exact f10⟩
    · rw [en] at h1
      rw [ee _ _ (by omega) (by omega)]
      exact f1 j h1 h2
    · rw [ee _ _ (by omega) (by omega), ee (313 + 2 + l) _ (by omega) (by omega)]
      exact f3 j l hj hl
    · rw [ee 300 14 (by omega) (by omega)]
      rcases f4 with ⟨g1, g2⟩ | ⟨g1, g2⟩
      · exact absurd (g2 i hi) c0
      · refine Or.inr ⟨g1, fun s' hs' hq => ?_⟩
        by_cases c : s' = spN a i
        · exact ⟨i, hi, by rw [ee _ _ (by omega) (by omega), c]; exact w1⟩
        · rw [same s' c] at hq
          obtain ⟨l, hl, w⟩ := g2 s' hs' hq
          exact ⟨l, hl, by rw [ee _ _ (by omega) (by omega)]; exact w⟩
