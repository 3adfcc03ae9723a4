/-! THE STEPS OF BOTH SIDES, II -/
theorem mPut_rt {b : CH} {s : Nat} {v : Int32} : hT (mPut b s v) = hT b ∧ hR (mPut b s v) = hR b ∧ hJ (mPut b s v) = hJ b ∧ hN (mPut b s v) = hN b := by
  unfold mPut
  split <;> exact ⟨rfl, rfl, rfl, rfl⟩
theorem hI_mPut {b : CH} {s x k : Nat} {v : Int32} : hI (mPut b s v) x k = if x = 370 ∧ k = s then -1 else if ¬ s < 64 ∧ x = 364 ∧ k = s - 64 then hI b 364 (s - 64) + 1 else if x = 363 ∧ k = s then v else if x = 362 ∧ k = s then v else hI b x k := by
  unfold mPut
  rw [hI_sI]
  by_cases c : x = 370 ∧ k = s
  · rw [if_pos c, if_pos c]
  · rw [if_neg c, if_neg c]
    by_cases d : s < 64
    · rw [if_pos d, if_neg (fun z => z.1 d), hI_sI, hI_sI]
    · rw [if_neg d, hI_sI, hI_ne (by omega), hI_ne (by omega)]
      by_cases e : x = 364 ∧ k = s - 64
      · rw [if_pos e, if_pos ⟨d, e⟩]
      · rw [if_neg e, if_neg (fun z => e z.2), hI_sI, hI_sI]
theorem fgt_rt {h : CH} {la s : Nat} : hT (cForget h la s) = hT h ∧ hR (cForget h la s) = hR h ∧ hJ (cForget h la s) = hJ h ∧ hN (cForget h la s) = hN h := by
  unfold cForget
  split <;> exact ⟨rfl, rfl, rfl, rfl⟩
theorem fgt_has {h : CH} {s : Nat} : hI (cForget h 331 s) 332 s = 0 := by
  unfold cForget
  split
  · next q => exact q
  · rw [hI_ne (by omega)]; exact hI_eq _ _ _ _
theorem fgt_oth {h : CH} {s x k : Nat} (h1 : ¬ (x = 331 ∧ k = 2)) (h2 : ¬ (x = 332 ∧ k = s)) : hI (cForget h 331 s) x k = hI h x k := by
  unfold cForget
  split
  · rfl
  · rw [hI_sI, if_neg h1, hI_sI, if_neg h2]
theorem fgt_sz {h : CH} {s : Nat} : hI (cForget h 331 s) 331 2 = if hI h 332 s = 0 then hI h 331 2 else hI h 331 2 - 1 := by
  unfold cForget
  by_cases c : hI h 332 s = 0
  · rw [if_pos c, if_pos c]
  · rw [if_neg c, if_neg c, hI_eq]
theorem cnt_less {p q : Nat → Bool} {s : Nat} : ∀ {n : Nat}, s < n → p s = true → q s = false → (∀ i, i < n → ¬ i = s → p i = q i) → cnt p n = cnt q n + 1
  | 0, h, _, _, _ => absurd h (Nat.not_lt_zero _)
  | n + 1, h, hp, hq, ho => by
    by_cases c : s = n
    · subst c
      rw [cnt_t hp, cnt_f hq, cnt_cg (fun i hi => ho i (by omega) (by omega))]
    · have ih := cnt_less (n := n) (by omega) hp hq (fun i hi => ho i (by omega))
      have e := ho n (by omega) (by omega)
      show cnt p n + (if p n then 1 else 0) = cnt q n + (if q n then 1 else 0) + 1
      rw [ih, e]
      omega
theorem put_val {a : CH} {s s' : Nat} {v : Int32} (h1 : s < 128) (h2 : s' < 128) : cVal (cPut a (302 + 4 * (s / 64)) (s % 64) v) s' = (if s' = s then v else cVal a s') ∧ cSum (cPut a (302 + 4 * (s / 64)) (s % 64) v) s' = if s' = s then v else cSum a s' := by
  unfold cVal cSum cPut
  constructor
  · rw [hI_sI, if_neg (by omega), hI_sI, if_neg (by omega), hI_sI]
    by_cases c : s' = s
    · rw [if_pos c, c, if_pos ⟨rfl, rfl⟩]
    · rw [if_neg c, if_neg (by omega)]
  · rw [hI_sI, if_neg (by omega), hI_sI]
    by_cases c : s' = s
    · rw [if_pos c, c, if_pos ⟨rfl, rfl⟩]
    · rw [if_neg c, if_neg (by omega), hI_sI, if_neg (by omega)]
/-- what a clean page's or a written page's relation rests on -/
theorem PgR_sum {t : Nat} {S S' H H' : Int32} {F I : Nat → Int32} {J : Nat → Int64} (P : PgR t S H F I J) (q3 : ¬ F 3 = 0) (q9 : F 9 = 0) : PgR t S' H' F I J := PgR.of P.pl P.vl P.pn (fun z => absurd z q3) P.dt P.us P.cm P.mk P.ah P.ou (fun z => absurd q9 z)
theorem RR_put {n s : Nat} {a b : CH} {v : Int32} (R : RR n a b) (hs : s < 128) (hd : ∀ i, i < 16 → hI a (313 + 2 + i) 0 = nI s → ¬ hI a (313 + 2 + i) 3 = 0 ∧ hI a (313 + 2 + i) 9 = 0) : RR n (cForget (cPut a (302 + 4 * (s / 64)) (s % 64) v) 331 s) (mPut b s v) := by
  have m23 := R.ml.2.2.2.2.2.2.2.2.2.2.2.2.2.2.2.2.2.2.2.2.2.2.2
  obtain ⟨t, t1, t2, t3, t4, t5⟩ := R.tm
  have H1 : House (cPut a (302 + 4 * (s / 64)) (s % 64) v) := House_sI (House_sI (House_sI R.hs (OkC_of (by omega)) (by omega)) (OkC_of (by omega)) (by omega)) (OkC_of (by omega)) (by omega)
  have H2 : House (cForget (cPut a (302 + 4 * (s / 64)) (s % 64) v) 331 s) := ⟨Hse_forget H1.1, Hol_forget H1.2⟩
  have eA : ∀ x k, (x < 303 ∨ 310 ≤ x ∨ x = 306) → hI (cPut a (302 + 4 * (s / 64)) (s % 64) v) x k = hI a x k := fun x k q => by
    unfold cPut
    rw [hI_ne (by omega), hI_ne (by omega), hI_ne (by omega)]
  have e309 : ∀ p, p < 64 → hI (cPut a (302 + 4 * (s / 64)) (s % 64) v) 309 p = if ¬ s < 64 ∧ p = s - 64 then hI a 309 p + 1 else hI a 309 p := fun p hp => by
    unfold cPut
    rw [hI_sI]
    by_cases c : 309 = 302 + 4 * (s / 64) + 3 ∧ p = s % 64
    · rw [if_pos c, if_pos (by omega), ← c.1, ← c.2]
    · rw [if_neg c, if_neg (by omega), hI_ne (by omega), hI_ne (by omega)]
  have eV := fun s' (h' : s' < 128) => put_val (a := a) (v := v) hs h'
  have e331 : hI (cPut a (302 + 4 * (s / 64)) (s % 64) v) 331 2 = hI a 331 2 := eA _ _ (by omega)
  have r0 : hT (cPut a (302 + 4 * (s / 64)) (s % 64) v) = hT a ∧ hR (cPut a (302 + 4 * (s / 64)) (s % 64) v) = hR a ∧ hJ (cPut a (302 + 4 * (s / 64)) (s % 64) v) = hJ a := ⟨rfl, rfl, rfl⟩
  generalize cPut a (302 + 4 * (s / 64)) (s % 64) v = A at H2 eA e309 eV e331 r0 ⊢
  obtain ⟨g1, g2, g3, g4⟩ := fgt_rt (h := A) (la := 331) (s := s)
  have fO : ∀ x k, ¬ (x = 331 ∧ k = 2) → ¬ (x = 332 ∧ k = s) → hI (cForget A 331 s) x k = hI A x k := fun x k => fgt_oth
  have fH := fgt_has (h := A) (s := s)
  have fS := fgt_sz (h := A) (s := s)
  have eV' : ∀ s', s' < 128 → cVal (cForget A 331 s) s' = (if s' = s then v else cVal a s') ∧ cSum (cForget A 331 s) s' = if s' = s then v else cSum a s' := fun s' h' => by
    rw [← (eV s' h').1, ← (eV s' h').2]
    unfold cVal cSum
    exact ⟨fO _ _ (by omega) (by omega), fO _ _ (by omega) (by omega)⟩
  rw [eA 332 s (by omega), e331] at fS
  rw [r0.1] at g1
  rw [r0.2.1] at g2
  rw [r0.2.2] at g3
  generalize cForget A 331 s = B at H2 g1 g2 g3 g4 fO fH fS eV' ⊢
  have eB : ∀ x k, (x < 303 ∨ 310 ≤ x ∨ x = 306) → ¬ (x = 331 ∧ k = 2) → ¬ (x = 332 ∧ k = s) → hI B x k = hI a x k := fun x k q1 q2 q3 => (fO x k q2 q3).trans (eA x k q1)
  obtain ⟨u1, u2, u3, u4⟩ := mPut_rt (b := b) (s := s) (v := v)
  have uI := fun x k => hI_mPut (b := b) (s := s) (x := x) (k := k) (v := v)
  generalize mPut b s v = b' at u1 u2 u3 u4 uI ⊢
  have uO : ∀ x k, (x < 362 ∨ 365 ≤ x) → ¬ (x = 370 ∧ k = s) → hI b' x k = hI b x k := fun x k q1 q2 => by rw [uI, if_neg q2, if_neg (by omega), if_neg (by omega), if_neg (by omega)]
  have hq0 : ∀ i k, i < 16 → hI B (313 + 2 + i) k = hI a (313 + 2 + i) k := fun i k hi => eB _ _ (by omega) (by omega) (by omega)
  refine RR_mid R H2 g1 g2 (fun x k q => eB x k (by omega) (by omega) (by omega)) (fun x _ _ => by rw [u1]) (fun x k _ _ _ => by rw [u2]) (by omega) (fun x k q _ _ => uO x k (by omega) (by omega)) (Sc_cg R.sc (fun x k q => eB _ _ (by omega) (by omega) (by omega)) (fun k hk => uO _ _ (by omega) (by omega))) ?_ (Bl_cg R.bl (fun k _ => by rw [g3]) (fun k _ => by rw [u3])) ?_ ⟨t, t1, t2, (eB _ _ (by omega) (by omega) (by omega)).trans t3, by rw [u3]; exact t4, fun i hi => ?_⟩ ?_
  · refine ⟨fun s' h' => ?_, fun p hp => ?_⟩
    · by_cases c : s' = s
      · refine ⟨?_, ?_⟩
        · rw [(eV' s' h').1, if_pos c, uI, if_neg (by omega), if_neg (by omega), if_neg (by omega), if_pos ⟨rfl, c⟩]
        · rw [(eV' s' h').2, if_pos c, uI, if_neg (by omega), if_neg (by omega), if_pos ⟨rfl, c⟩]
      · refine ⟨?_, ?_⟩
        · rw [(eV' s' h').1, if_neg c, uI, if_neg (by omega), if_neg (by omega), if_neg (by omega), if_neg (fun z => c z.2)]
          exact (R.vl.1 s' h').1
        · rw [(eV' s' h').2, if_neg c, uI, if_neg (by omega), if_neg (by omega), if_neg (fun z => c z.2), if_neg (by omega)]
          exact (R.vl.1 s' h').2
    · rw [uI, if_neg (by omega), fO _ _ (by omega) (by omega), e309 p hp]
      by_cases c : ¬ s < 64 ∧ p = s - 64
      · rw [if_pos ⟨c.1, rfl, c.2⟩, if_pos c, ← c.2, R.vl.2 p hp]
      · rw [if_neg (fun z => c ⟨z.1, z.2.2⟩), if_neg c, if_neg (by omega), if_neg (by omega)]
        exact R.vl.2 p hp
  · refine ⟨fun s' h' => ?_, ?_⟩
    · rw [uI]
      by_cases c : s' = s
      · rw [if_pos ⟨rfl, c⟩, c]
        exact Or.inl ⟨fH, rfl⟩
      · rw [if_neg (fun z => c z.2), if_neg (by omega), if_neg (by omega), if_neg (by omega), eB 332 s' (by omega) (by omega) (by omega), eB 333 s' (by omega) (by omega) (by omega)]
        exact R.lg.1 s' h'
    · rw [fS]
      have same : ∀ i, i < 128 → ¬ i = s → lgP a i = lgP B i := fun i hi hne => by
        unfold lgP
        rw [eB 332 i (by omega) (by omega) (by omega)]
      have z0 : lgP B s = false := decide_eq_false (fun z => z fH)
      by_cases c : hI a 332 s = 0
      · rw [if_pos c, R.lg.2]
        refine congrArg nI (cnt_cg (fun i hi => ?_))
        by_cases e : i = s
        · rw [e, z0]
          exact decide_eq_false (fun z => z c)
        · exact same i hi e
      · rw [if_neg c, R.lg.2, cnt_less (p := lgP a) (q := lgP B) hs (decide_eq_true c) z0 same]
        exact nI_pred _
  · have hrow : hI B (313 + 2 + i) = hI a (313 + 2 + i) := funext fun k => hq0 i k hi
    have hsp : spN B i = spN a i := by unfold spN; rw [hq0 i 0 hi]
    unfold FrM
    rw [hsp, hrow, u1, u2, u3, u4]
    rcases t5 i hi with q | ⟨q1, q2, q3, q4, P⟩
    · exact Or.inl q
    · refine Or.inr ⟨q1, q2, q3, q4, ?_⟩
      obtain ⟨w1, w2⟩ := fr_sp R hi q1
      rw [show hI b' (hR b 368 i) = hI b (hR b 368 i) from funext fun k => uO _ _ (by omega) (by omega)]
      by_cases c : spN a i = s
      · obtain ⟨v1, v2⟩ := hd i hi (by rw [w1, c])
        exact PgR_sum P v1 v2
      · rw [(eV' _ w2).2, if_neg c, eB 332 _ (by omega) (by omega) (by omega)]
        exact P
  · obtain ⟨f1, f2, f3, f4, f5, f6, f7, f8, f9, f10⟩ := R.fm
    have e : ∀ x k, (x < 303 ∨ 310 ≤ x ∧ x < 331 ∨ x = 306) → hI B x k = hI a x k := fun x k q => eB x k (by omega) (by omega) (by omega)
    have en : nN B = nN a := by unfold nN; rw [e _ _ (by omega)]
    have eh : hdN B = hdN a := by unfold hdN; rw [e _ _ (by omega)]
    refine ⟨fun i h1 h2 => ?_, by rw [en, eh]; exact f2, fun i j hi hj => ?_, ?_, by rw [e _ _ (by omega)]; exact f5, by rw [e _ _ (by omega)]; exact f6, by rw [e _ _ (by omega)]; exact f7, by rw [e _ _ (by omega)]; exact f8, by rw [e _ _ (by omega), e _ _ (by omega)]; exact f9, by rw [e _ _ (by omega)]; exact f10⟩
    · rw [en] at h1
      rw [e _ _ (by omega)]
      exact f1 i h1 h2
    · rw [e _ _ (by omega), e (313 + 2 + j) _ (by omega)]
      exact f3 i j hi hj
    · rw [e 300 14 (by omega)]
      rcases f4 with ⟨g1, g2⟩ | ⟨g1, g2⟩
      · exact Or.inl ⟨g1, fun i hi => by rw [e _ _ (by omega)]; exact g2 i hi⟩
      · refine Or.inr ⟨g1, fun s' hs' hq => ?_⟩
        have hne : ¬ s' = s := fun z => hq (by rw [z]; exact fH)
        rw [eB 332 s' (by omega) (by omega) (by omega)] at hq
        obtain ⟨i, hi, w⟩ := g2 s' hs' hq
        exact ⟨i, hi, by rw [e _ _ (by omega)]; exact w⟩
