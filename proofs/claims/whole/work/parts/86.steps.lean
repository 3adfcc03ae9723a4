/-! THE STEPS OF BOTH SIDES -/
theorem up2_id {α : Type} {f : Nat → Nat → α} {a k : Nat} {v : α} (e : f a k = v) : up2 f a k v = f := by
  funext x y
  unfold up2
  split
  · next q => rw [q.1, q.2]; exact e.symm
  · rfl
theorem sI_id {h : CH} {a k : Nat} {v : Int32} (e : hI h a k = v) : sI h a k v = h := by
  show (h.1, h.2.1, up2 h.2.2.1 a k v, h.2.2.2) = h
  rw [up2_id (f := h.2.2.1) e]
theorem up2_comm {α : Type} {f : Nat → Nat → α} {a k b j : Nat} {v w : α} (q : ¬ (a = b ∧ k = j)) : up2 (up2 f a k v) b j w = up2 (up2 f b j w) a k v := by
  funext x y
  unfold up2
  by_cases c1 : x = b ∧ y = j
  · rw [if_pos c1, if_neg (fun z => q ⟨z.1.symm.trans c1.1, z.2.symm.trans c1.2⟩), if_pos c1]
  · rw [if_neg c1]
    by_cases c2 : x = a ∧ y = k
    · rw [if_pos c2, if_pos c2]
    · rw [if_neg c2, if_neg c2, if_neg c1]
theorem sI_comm {h : CH} {a k b j : Nat} {v w : Int32} (q : ¬ (a = b ∧ k = j)) : sI (sI h a k v) b j w = sI (sI h b j w) a k v := by
  show (h.1, h.2.1, up2 (up2 h.2.2.1 a k v) b j w, h.2.2.2) = (h.1, h.2.1, up2 (up2 h.2.2.1 b j w) a k v, h.2.2.2)
  rw [up2_comm q]
def mCosts (b : CH) (t s : Nat) : CH := if s < 64 then sI (sJ b 369 t (hJ b 369 t + (1 + absI (nI s - hI b 361 14)).toInt64)) 361 14 (nI s) else sJ b 369 t (hJ b 369 t + 1)
def mPut (b : CH) (s : Nat) (v : Int32) : CH := sI (if s < 64 then sI (sI b 362 s v) 363 s v else sI (sI (sI b 362 s v) 363 s v) 364 (s - 64) (hI (sI (sI b 362 s v) 363 s v) 364 (s - 64) + 1)) 370 s (-1)
def mTick (b : CH) : CH := if hI b 361 20 = 0 then b else sI b 361 20 (hI b 361 20 - 1)
def mNul (b : CH) : Nat → CH
  | 0 => b
  | n + 1 => sR (mNul b n) 368 n 0
def mLose (b : CH) : CH := mNul (sI (sI b 361 19 0) 361 17 0) 16
theorem sc_in {k x j : Nat} (h : (k, x, j) ∈ scl) : 8 ≤ k ∧ ((x = 313 ∧ (j = 1 ∨ j = 2)) ∨ (x = 300 ∧ 10 ≤ j ∧ j ≤ 15) ∨ (x = 302 ∧ j = 4) ∨ (x = 334 ∧ j ≤ 1) ∨ (x = 358 ∧ j ≤ 4)) := scl_in _ h
/-- costs -/
theorem RR_costs {n s : Nat} {a b : CH} (R : RR n a b) (hs : s < 128) : RR n (cRdP a (tN a) s) (mCosts b (tN a) s) := by
  have h3 := (Hse_num R.hs.1).2.2.2.2.2.2
  have m23 := R.ml.2.2.2.2.2.2.2.2.2.2.2.2.2.2.2.2.2.2.2.2.2.2.2
  have e14 : hI b 361 14 = hI a 302 4 := R.sc 14 302 4 (by decide)
  obtain ⟨t, t1, t2, t3, t4, t5⟩ := R.tm
  obtain ⟨d0, d1⟩ := R.fm.2.2.2.2.2.2.2.2.1
  have H' : House (cRdP a (tN a) s) := ⟨Hse_rdP hs R.hs.1, Hol_rdP hs R.hs.2⟩
  by_cases c : s < 64
  · have ea : cRdP a (tN a) s = sJ (sI a 302 4 (nI s)) 360 (tN a) (hJ a 360 (tN a) + (1 + absI (nI s - hI b 361 14)).toInt64) := by
      unfold cRdP cReach cWay
      rw [show 302 + 4 * (s / 64) = 302 by omega, show s % 64 = s by omega, d0, if_neg (by decide), if_neg (by decide), e14, Int32.add_comm 1]
    have eb : mCosts b (tN a) s = sI (sJ b 369 (tN a) (hJ b 369 (tN a) + (1 + absI (nI s - hI b 361 14)).toInt64)) 361 14 (nI s) := if_pos c
    rw [ea] at H' ⊢
    rw [eb]
    generalize (1 + absI (nI s - hI b 361 14)).toInt64 = w at H' ⊢
    have e : ∀ x k, ¬ (x = 302 ∧ k = 4) → hI (sJ (sI a 302 4 (nI s)) 360 (tN a) (hJ a 360 (tN a) + w)) x k = hI a x k := fun x k q => by
      show hI (sI a 302 4 (nI s)) x k = _
      rw [hI_sI, if_neg q]
    have eb1 : ∀ x k, ¬ (x = 361 ∧ k = 14) → hI (sI (sJ b 369 (tN a) (hJ b 369 (tN a) + w)) 361 14 (nI s)) x k = hI b x k := fun x k q => by
      rw [hI_sI, if_neg q]
      rfl
    have jb : ∀ x k, ¬ x = 369 → hJ (sI (sJ b 369 (tN a) (hJ b 369 (tN a) + w)) 361 14 (nI s)) x k = hJ b x k := fun x k q => by
      show hJ (sJ b 369 (tN a) _) x k = _
      exact hJ_ne q
    refine RR_mid R H' rfl rfl (fun x k q => e _ _ (by omega)) (fun _ _ _ => rfl) (fun _ _ _ _ _ => rfl) (Nat.le_refl _) (fun x k q _ _ => eb1 _ _ (by omega)) (Sc_set R.sc (by decide)) (Vl_cg R.vl (fun x k h1 h2 h3 h4 => e _ _ (by omega)) (fun x k h1 h2 => eb1 _ _ (by omega))) ?_ (Lg_cg R.lg (fun x k h1 h2 => e _ _ (by omega)) (fun k hk => eb1 _ _ (by omega))) ⟨t, t1, t2, (e _ _ (by omega)).trans t3, (jb _ _ (by omega)).trans t4, fun i hi => ?_⟩ ?_
    · intro k hk
      show hJ (sJ b 369 (tN a) _) 369 k = hJ (sJ a 360 (tN a) _) 360 k
      rw [hJ_sJ, hJ_sJ]
      by_cases q : k = tN a
      · rw [if_pos ⟨rfl, q⟩, if_pos ⟨rfl, q⟩, R.bl (tN a) h3]
      · rw [if_neg (fun z => q z.2), if_neg (fun z => q z.2)]
        exact R.bl k hk
    · refine FrM_cg (t5 i hi) (Nat.le_refl _) (Nat.le_refl _) (fun k => e _ _ (by omega)) (fun q => ⟨(cVal_cg (fr_sp R hi q).2 (fun x k h1 h2 h3 h4 => e _ _ (by omega))).2, e _ _ (by omega)⟩) rfl (fun h1 h2 h3 => ⟨h3, fun k => eb1 _ _ (by omega), fun k => jb _ _ (by omega)⟩)
    · obtain ⟨f1, f2, f3, f4, f5, f6, f7, f8, f9, f10⟩ := R.fm
      refine ⟨fun i h1 h2 => (e _ _ (by omega)).trans (f1 i h1 h2), f2, fun i j hi hj => ?_, ?_, f5, f6, f7, f8, f9, ⟨s, c, by show hI (sI a 302 4 (nI s)) 302 4 = _; exact hI_eq _ _ _ _⟩⟩
      · rw [e _ _ (by omega), e (313 + 2 + j) _ (by omega)]
        exact f3 i j hi hj
      · rcases f4 with ⟨g1, g2⟩ | ⟨g1, g2⟩
        · exact Or.inl ⟨(e _ _ (by omega)).trans g1, fun i hi => (e _ _ (by omega)).trans (g2 i hi)⟩
        · refine Or.inr ⟨(e _ _ (by omega)).trans g1, fun s' hs' hq => ?_⟩
          obtain ⟨i, hi, w2⟩ := g2 s' hs' (fun z => hq ((e _ _ (by omega)).trans z))
          exact ⟨i, hi, (e _ _ (by omega)).trans w2⟩
  · have ea : cRdP a (tN a) s = sJ a 360 (tN a) (hJ a 360 (tN a) + 1) := by
      unfold cRdP cReach cWay
      rw [show 302 + 4 * (s / 64) = 306 by omega, d1, if_pos rfl, if_pos rfl, show (1 : Int32).toInt64 = 1 by decide]
    have eb : mCosts b (tN a) s = sJ b 369 (tN a) (hJ b 369 (tN a) + 1) := if_neg c
    rw [ea] at H' ⊢
    rw [eb]
    refine RR_mid R H' rfl rfl (fun x k q => rfl) (fun _ _ _ => rfl) (fun _ _ _ _ _ => rfl) (Nat.le_refl _) (fun x k q _ _ => rfl) R.sc R.vl ?_ R.lg ⟨t, t1, t2, t3, (hJ_ne (by omega)).trans t4, fun i hi => FrM_cg (t5 i hi) (Nat.le_refl _) (Nat.le_refl _) (fun k => rfl) (fun q => ⟨rfl, rfl⟩) rfl (fun h1 h2 h3 => ⟨h3, fun k => rfl, fun k => hJ_ne (by omega)⟩)⟩ R.fm
    intro k hk
    rw [hJ_sJ, hJ_sJ]
    by_cases q : k = tN a
    · rw [if_pos ⟨rfl, q⟩, if_pos ⟨rfl, q⟩, R.bl (tN a) h3]
    · rw [if_neg (fun z => q z.2), if_neg (fun z => q z.2)]
      exact R.bl k hk
/-- a write that may come is counted -/
theorem RR_tick {n : Nat} {a b : CH} (R : RR n a b) : RR n (cTick a) (mTick b) := by
  have e20 : hI b 361 20 = hI a 300 15 := R.sc 20 300 15 (by decide)
  unfold mTick
  rw [e20]
  by_cases c : hI a 300 15 = 0
  · rw [if_pos c, show cTick a = a from if_pos c]
    exact R
  · rw [if_neg c]
    have H' := House_tick R.hs
    have et : cTick a = sI a 300 15 (hI a 300 15 - 1) := if_neg c
    rw [et] at H' ⊢
    refine RR_scal R H' rfl rfl (fun _ => rfl) (fun x k q1 q2 q3 q4 q5 => by rw [hI_sI, if_neg (by omega)]) rfl rfl rfl rfl (fun x k q => hI_ne (by omega)) (Sc_set R.sc (by decide)) ?_
    have e : ∀ x k, ¬ (x = 300 ∧ k = 15) → hI (sI a 300 15 (hI a 300 15 - 1)) x k = hI a x k := fun x k q => by rw [hI_sI, if_neg q]
    obtain ⟨f1, f2, f3, f4, ⟨k, k1, k2⟩, f6, f7, f8, f9, f10⟩ := R.fm
    refine ⟨fun i h1 h2 => (e _ _ (by omega)).trans (f1 i h1 h2), f2, fun i j hi hj => ?_, ?_, ⟨k - 1, by omega, ?_⟩, f6, f7, f8, f9, f10⟩
    · rw [e _ _ (by omega), e _ _ (by omega)]
      exact f3 i j hi hj
    · rcases f4 with ⟨g1, g2⟩ | ⟨g1, g2⟩
      · exact Or.inl ⟨(e _ _ (by omega)).trans g1, fun i hi => (e _ _ (by omega)).trans (g2 i hi)⟩
      · refine Or.inr ⟨(e _ _ (by omega)).trans g1, fun s' hs' hq => ?_⟩
        obtain ⟨i, hi, w2⟩ := g2 s' hs' (fun z => hq ((e _ _ (by omega)).trans z))
        exact ⟨i, hi, (e _ _ (by omega)).trans w2⟩
    · rw [hI_eq, k2]
      cases k with
      | zero => exact absurd k2 c
      | succ k => exact nI_pred k
/-- the power lost -/
theorem hI_dropA {h : CH} {x k : Nat} : ∀ n, hI (cDropA h 313 n) x k = if 315 ≤ x ∧ x < 315 + n ∧ (k = 0 ∨ k = 2 ∨ k = 3 ∨ k = 8 ∨ k = 9) then (if k = 0 then -1 else 0) else hI h x k
  | 0 => by rw [if_neg (by omega)]; rfl
  | n + 1 => by
    show hI (cDrop (cDropA h 313 n) (313 + 2 + n)) x k = _
    have ih := hI_dropA (h := h) (x := x) (k := k) n
    by_cases c : x = 313 + 2 + n
    · subst c
      unfold cDrop
      rw [hI_sI, hI_sI, hI_sI, hI_sI, hI_sI]
      by_cases k0 : k = 0
      · subst k0
        rw [if_neg (by omega), if_neg (by omega), if_neg (by omega), if_neg (by omega), if_pos ⟨rfl, rfl⟩, if_pos (by omega), if_pos rfl]
      · by_cases k9 : k = 9
        · subst k9
          rw [if_pos ⟨rfl, rfl⟩, if_pos (by omega), if_neg (by omega)]
        · by_cases k8 : k = 8
          · subst k8
            rw [if_neg (by omega), if_pos ⟨rfl, rfl⟩, if_pos (by omega), if_neg (by omega)]
          · by_cases k3 : k = 3
            · subst k3
              rw [if_neg (by omega), if_neg (by omega), if_pos ⟨rfl, rfl⟩, if_pos (by omega), if_neg (by omega)]
            · by_cases k2 : k = 2
              · subst k2
                rw [if_neg (by omega), if_neg (by omega), if_neg (by omega), if_pos ⟨rfl, rfl⟩, if_pos (by omega), if_neg (by omega)]
              · rw [if_neg (by omega), if_neg (by omega), if_neg (by omega), if_neg (by omega), if_neg (by omega), ih, if_neg (by omega), if_neg (by omega)]
    · rw [hI_drop c, ih]
      by_cases d : 315 ≤ x ∧ x < 315 + n ∧ (k = 0 ∨ k = 2 ∨ k = 3 ∨ k = 8 ∨ k = 9)
      · rw [if_pos d, if_pos (show 315 ≤ x ∧ x < 315 + (n + 1) ∧ (k = 0 ∨ k = 2 ∨ k = 3 ∨ k = 8 ∨ k = 9) by omega)]
      · rw [if_neg d, if_neg (by omega)]
theorem rt_dropA {h : CH} {pa : Nat} : ∀ n, hT (cDropA h pa n) = hT h ∧ hR (cDropA h pa n) = hR h ∧ hJ (cDropA h pa n) = hJ h ∧ hN (cDropA h pa n) = hN h
  | 0 => ⟨rfl, rfl, rfl, rfl⟩
  | n + 1 => rt_dropA (h := h) (pa := pa) n
theorem mNul_rt {b : CH} : ∀ n, hT (mNul b n) = hT b ∧ hI (mNul b n) = hI b ∧ hJ (mNul b n) = hJ b ∧ hN (mNul b n) = hN b ∧ ∀ x k, hR (mNul b n) x k = if x = 368 ∧ k < n then 0 else hR b x k
  | 0 => ⟨rfl, rfl, rfl, rfl, fun x k => by rw [if_neg (by omega)]; rfl⟩
  | n + 1 => by
    obtain ⟨r1, r2, r3, r4, r5⟩ := mNul_rt (b := b) n
    refine ⟨r1, r2, r3, r4, fun x k => ?_⟩
    show hR (sR (mNul b n) 368 n 0) x k = _
    rw [hR_sR, r5]
    by_cases c : x = 368 ∧ k = n
    · rw [if_pos c, if_pos (by omega)]
    · rw [if_neg c]
      by_cases d : x = 368 ∧ k < n
      · rw [if_pos d, if_pos (by omega)]
      · rw [if_neg d, if_neg (by omega)]
theorem hI_lose {a : CH} {x k : Nat} : hI (cLose a) x k = if x = 334 ∧ (k = 0 ∨ k = 2) then 0 else if x = 300 ∧ k = 14 then 0 else if 315 ≤ x ∧ x < 331 ∧ (k = 0 ∨ k = 2 ∨ k = 3 ∨ k = 8 ∨ k = 9) then (if k = 0 then -1 else 0) else hI a x k := by
  unfold cLose
  rw [hI_sI, hI_sI, hI_dropA, hI_sI]
  by_cases c2 : x = 334 ∧ k = 2
  · rw [if_pos c2, if_pos (by omega)]
  · rw [if_neg c2]
    by_cases c0 : x = 334 ∧ k = 0
    · rw [if_pos c0, if_pos (by omega)]
    · rw [if_neg c0, if_neg (show ¬ (x = 334 ∧ (k = 0 ∨ k = 2)) by omega)]
      by_cases d : 315 ≤ x ∧ x < 331 ∧ (k = 0 ∨ k = 2 ∨ k = 3 ∨ k = 8 ∨ k = 9)
      · rw [if_pos (by omega), if_neg (show ¬ (x = 300 ∧ k = 14) by omega), if_pos d]
      · rw [if_neg (by omega), if_neg d]
theorem lose_rt {a : CH} : hT (cLose a) = hT a ∧ hR (cLose a) = hR a ∧ hJ (cLose a) = hJ a ∧ hN (cLose a) = hN a := by
  unfold cLose
  have z := rt_dropA (h := sI a 300 14 0) (pa := 313) 16
  generalize cDropA (sI a 300 14 0) 313 16 = g at z ⊢
  exact z
theorem mLose_rt {b : CH} : hT (mLose b) = hT b ∧ hJ (mLose b) = hJ b ∧ hN (mLose b) = hN b ∧ (∀ x k, hR (mLose b) x k = if x = 368 ∧ k < 16 then 0 else hR b x k) ∧ ∀ x k, hI (mLose b) x k = if x = 361 ∧ k = 17 then 0 else if x = 361 ∧ k = 19 then 0 else hI b x k := by
  unfold mLose
  have z := mNul_rt (b := sI (sI b 361 19 0) 361 17 0) 16
  generalize mNul (sI (sI b 361 19 0) 361 17 0) 16 = g at z ⊢
  obtain ⟨r1, r2, r3, r4, r5⟩ := z
  exact ⟨r1, r3, r4, r5, fun x k => by rw [r2, hI_sI, hI_sI]⟩
theorem RR_lose {n : Nat} {a b : CH} (R : RR n a b) : RR n (cLose a) (mLose b) := by
  have m23 := R.ml.2.2.2.2.2.2.2.2.2.2.2.2.2.2.2.2.2.2.2.2.2.2.2
  obtain ⟨t, t1, t2, t3, t4, t5⟩ := R.tm
  obtain ⟨r1, r3, r4, r5, r2⟩ := mLose_rt (b := b)
  obtain ⟨d1, d2, d3, d4⟩ := lose_rt (a := a)
  have hL := @hI_lose a
  have H' := House_lose R.hs
  generalize cLose a = a' at hL H' d1 d2 d3 d4 ⊢
  generalize mLose b = b' at r1 r2 r3 r4 r5 ⊢
  have ei : ∀ x k, ¬ (x = 334 ∧ (k = 0 ∨ k = 2)) → ¬ (x = 300 ∧ k = 14) → ¬ (315 ≤ x ∧ x < 331) → hI a' x k = hI a x k := fun x k q1 q2 q3 => by rw [hL, if_neg q1, if_neg q2, if_neg (by omega)]
  have e0 : ∀ i, i < 16 → hI a' (313 + 2 + i) 0 = -1 := fun i hi => by rw [hL, if_neg (by omega), if_neg (by omega), if_pos (by omega), if_pos rfl]
  have eb : ∀ x k, ¬ (x = 361 ∧ (k = 19 ∨ k = 17)) → hI b' x k = hI b x k := fun x k q => by rw [r2, if_neg (by omega), if_neg (by omega)]
  refine RR_mid R H' d1 d2 (fun x k q => ei x k (by omega) (by omega) (by omega)) (fun x _ _ => by rw [r1]) (fun x k _ _ q => by rw [r5, if_neg (by omega)]) (by omega) (fun x k q _ _ => eb x k (by omega)) ?_ (Vl_cg R.vl (fun x k h1 h2 h3 h4 => ei _ _ (by omega) (by omega) (by omega)) (fun x k h1 h2 => eb _ _ (by omega))) (Bl_cg R.bl (fun k _ => by rw [d3]) (fun k _ => by rw [r3])) (Lg_cg R.lg (fun x k h1 h2 => ei _ _ (by omega) (by omega) (by omega)) (fun k _ => eb _ _ (by omega))) ⟨t, t1, t2, (ei _ _ (by omega) (by omega) (by omega)).trans t3, by rw [r3]; exact t4, fun i hi => Or.inl ⟨e0 i hi, by rw [r5, if_pos ⟨rfl, hi⟩]⟩⟩ ?_
  · intro k x j h
    have u := sc_in h
    have hs := R.sc k x j h
    by_cases c : x = 334 ∧ j = 0
    · have hk : k = 17 := (scl_uq _ h (17, 334, 0) (by decide)).mpr ⟨c.1, c.2⟩
      rw [hL, if_pos (by omega), r2, if_pos ⟨rfl, hk⟩]
    · by_cases c2 : x = 300 ∧ j = 14
      · have hk : k = 19 := (scl_uq _ h (19, 300, 14) (by decide)).mpr ⟨c2.1, c2.2⟩
        rw [hL, if_neg (by omega), if_pos c2, r2, if_neg (by omega), if_pos ⟨rfl, hk⟩]
      · have h17 : ¬ k = 17 := fun z => c ((scl_uq _ h (17, 334, 0) (by decide)).mp z)
        have h19 : ¬ k = 19 := fun z => c2 ((scl_uq _ h (19, 300, 14) (by decide)).mp z)
        rw [eb _ _ (by omega), ei _ _ (by omega) (by omega) (by omega)]
        exact hs
  · obtain ⟨f1, f2, f3, f4, ⟨k, k1, k2⟩, f6, f7, f8, f9, f10⟩ := R.fm
    have en : nN a' = nN a := by unfold nN; rw [ei _ _ (by omega) (by omega) (by omega)]
    have eh : hdN a' = hdN a := by unfold hdN; rw [ei _ _ (by omega) (by omega) (by omega)]
    refine ⟨fun i _ h2 => e0 i h2, by rw [en, eh]; exact f2, fun i j hi hj _ q => absurd (e0 i hi) q, Or.inl ⟨?_, e0⟩, ⟨k, k1, (ei _ _ (by omega) (by omega) (by omega)).trans k2⟩, ?_, ?_, ?_, ?_, ?_⟩
    · rw [hL, if_neg (by omega), if_pos ⟨rfl, rfl⟩]
    · rw [ei _ _ (by omega) (by omega) (by omega)]; exact f6
    · rw [ei _ _ (by omega) (by omega) (by omega)]; exact f7
    · rw [ei _ _ (by omega) (by omega) (by omega)]; exact f8
    · rw [ei _ _ (by omega) (by omega) (by omega), ei _ _ (by omega) (by omega) (by omega)]; exact f9
    · rw [ei _ _ (by omega) (by omega) (by omega)]; exact f10
