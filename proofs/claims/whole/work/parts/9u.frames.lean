/-! SETFRAMES -/
theorem RR_resize {n f : Nat} {a b : CH} (R : RR n a b) (h1 : 1 ≤ f) (h16 : f ≤ 16) (hfree : ∀ i, f ≤ i → i < 16 → hI a (313 + 2 + i) 0 = -1) : RR n (cResize a 313 (nI f)) (sI (sI b 361 8 (nI f)) 361 13 (if nI (hdN a) < nI f then nI (hdN a) else 0)) := by
  obtain ⟨r1, r2, r3, r4, r5⟩ := R.ln
  have eh : hI a 313 2 = nI (hdN a) := (Hse_num R.hs.1).2.2.2.1
  have okn : OkC 313 1 (nI f) := ⟨fun _ => ⟨f, h1, h16, rfl⟩, fun q => absurd q (by omega), fun q => absurd q (by omega), fun q => absurd q (by omega), fun q => absurd q (by omega), fun q => absurd q (by omega), fun q => absurd q (by omega), fun q => absurd q (by omega)⟩
  have okh : OkC 313 2 0 := ⟨fun q => absurd q (by omega), fun _ => ⟨0, by omega, rfl⟩, fun q => absurd q (by omega), fun q => absurd q (by omega), fun q => absurd q (by omega), fun q => absurd q (by omega), fun q => absurd q (by omega), fun q => absurd q (by omega)⟩
  have Ff : ∀ A : CH, (∀ x k, ¬ (x = 313 ∧ k = 1) → ¬ (x = 313 ∧ k = 2) → hI A x k = hI a x k) → hI A 313 1 = nI f → (∃ j, j < f ∧ hI A 313 2 = nI j) → Fm A := fun A e eA ⟨j, j1, j2⟩ => by
    have en : nN A = f := by unfold nN; rw [eA]; exact nI_clamp (by omega)
    have ehd : hdN A = j := by unfold hdN; rw [j2]; exact nI_clamp (by omega)
    obtain ⟨f1, f2, f3, f4, f5, f6, f7, f8, f9, f10⟩ := R.fm
    refine ⟨fun i h1 h2 => ?_, by rw [en, ehd]; exact j1, fun i l hi hl => ?_, ?_, by rw [e _ _ (by omega) (by omega)]; exact f5, by rw [e _ _ (by omega) (by omega)]; exact f6, by rw [e _ _ (by omega) (by omega)]; exact f7, by rw [e _ _ (by omega) (by omega)]; exact f8, by rw [e _ _ (by omega) (by omega), e _ _ (by omega) (by omega)]; exact f9, by rw [e _ _ (by omega) (by omega)]; exact f10⟩
    · rw [en] at h1
      rw [e _ _ (by omega) (by omega)]
      exact hfree i h1 h2
    · rw [e _ _ (by omega) (by omega), e (313 + 2 + l) _ (by omega) (by omega)]
      exact f3 i l hi hl
    · rw [e 300 14 (by omega) (by omega)]
      rcases f4 with ⟨g1, g2⟩ | ⟨g1, g2⟩
      · exact Or.inl ⟨g1, fun i hi => by rw [e _ _ (by omega) (by omega)]; exact g2 i hi⟩
      · refine Or.inr ⟨g1, fun s' hs' hq => ?_⟩
        rw [e 332 s' (by omega) (by omega)] at hq
        obtain ⟨i, hi, w⟩ := g2 s' hs' hq
        exact ⟨i, hi, by rw [e _ _ (by omega) (by omega)]; exact w⟩
  have main : ∀ A : CH, House A → hT A = hT a → hR A = hR a → hJ A = hJ a → (∀ x k, ¬ (x = 313 ∧ k = 1) → ¬ (x = 313 ∧ k = 2) → hI A x k = hI a x k) → hI A 313 1 = nI f → (∃ j, j < f ∧ hI A 313 2 = nI j) → RR n A (sI (sI b 361 8 (nI f)) 361 13 (hI A 313 2)) := fun A HA t1 t2 t3 e eA ej => by
    refine RR_scal R HA t1 t2 (fun _ => by rw [t3]) (fun x k q1 q2 q3 q4 q5 => e _ _ (by omega) (by omega)) rfl rfl rfl rfl (fun x k q => by rw [hI_ne q, hI_ne q]) (fun k x j h => ?_) (Ff A e eA ej)
    have u := sc_in h
    rw [hI_sI, hI_sI]
    by_cases c : k = 13
    · obtain ⟨e1, e2⟩ := (scl_uq _ h (13, 313, 2) (by decide)).mp c
      rw [if_pos ⟨rfl, c⟩, show x = 313 from e1, show j = 2 from e2]
    · rw [if_neg (fun z => c z.2)]
      by_cases d : k = 8
      · obtain ⟨e1, e2⟩ := (scl_uq _ h (8, 313, 1) (by decide)).mp d
        rw [if_pos ⟨rfl, d⟩, show x = 313 from e1, show j = 1 from e2, eA]
      · rw [if_neg (fun z => d z.2), e x j (fun z => d ((scl_uq _ h (8, 313, 1) (by decide)).mpr z)) (fun z => c ((scl_uq _ h (13, 313, 2) (by decide)).mpr z))]
        exact R.sc k x j h
  unfold cResize
  rw [eh]
  by_cases c : nI (hdN a) < nI f
  · have c' := (nI_ltI (by omega) (by omega)).mp c
    rw [if_pos c, if_pos c]
    have z := main (sI a 313 1 (nI f)) (House_sI R.hs okn (by omega)) rfl rfl rfl (fun x k h1 h2 => by rw [hI_sI, if_neg h1]) (hI_eq _ _ _ _) ⟨hdN a, c', by rw [hI_nk (by omega)]; exact eh⟩
    rwa [hI_nk (by omega), eh] at z
  · rw [if_neg c, if_neg c]
    have z := main (sI (sI a 313 1 (nI f)) 313 2 0) (House_sI (House_sI R.hs okn (by omega)) okh (by omega)) rfl rfl rfl (fun x k h1 h2 => by rw [hI_sI, if_neg h2, hI_sI, if_neg h1]) (by rw [hI_nk (by omega), hI_eq]) ⟨0, by omega, hI_eq _ _ _ _⟩
    rwa [hI_eq] at z
theorem sR_id {h : CH} {a k v : Nat} (e : hR h a k = v) : sR h a k v = h := by
  show (h.1, h.2.1, h.2.2.1, h.2.2.2.1, up2 h.2.2.2.2.1 a k v, h.2.2.2.2.2) = h
  rw [up2_id (f := h.2.2.2.2.1) e]
theorem evF_low {n i x k : Nat} {a b : CH} (R : RR n a b) (hi : i < 16) (h1 : ¬ (x = 300 ∧ (k = 14 ∨ k = 15))) (h2 : x < 302 ∨ (310 ≤ x ∧ x < 315)) : hI (cEvF a i).1 x k = hI a x k := by
  unfold cEvF
  split
  · show hI (cLose (cTick a)) x k = _
    rw [hI_lose, if_neg (by omega), if_neg (by omega), if_neg (by omega), tick_oth (by omega)]
  · show hI (cEv a (tN a) i (spN a i)) x k = _
    unfold cEv
    split
    · exact hI_drop (by omega)
    · next d =>
      have hw := (fr_sp R hi (fun z => d (fr_hol R hi z).1)).2
      rw [hI_drop (by omega), flu_low hi hw (by omega) (by omega)]
theorem evF_sp {n i j : Nat} {a b : CH} (R : RR n a b) (hi : i < 16) (hj : j < 16) (h : (cEvF a i).2 = true) : hI (cEvF a i).1 300 14 = hI a 300 14 ∧ hI (cEvF a i).1 (313 + 2 + j) 0 = (if j = i then -1 else hI a (313 + 2 + j) 0) ∧ hI (cEvF a i).1 (313 + 2 + j) 9 = (if j = i then 0 else hI a (313 + 2 + j) 9) := by
  unfold cEvF at h ⊢
  split at h
  · cases h
  · next c =>
    rw [if_neg c]
    show hI (cEv a (tN a) i (spN a i)) 300 14 = _ ∧ hI (cEv a (tN a) i (spN a i)) (313 + 2 + j) 0 = _ ∧ hI (cEv a (tN a) i (spN a i)) (313 + 2 + j) 9 = _
    unfold cEv
    have gen : ∀ g : CH, hI g 300 14 = hI a 300 14 → (∀ k, k = 0 ∨ k = 9 → hI g (313 + 2 + j) k = hI a (313 + 2 + j) k) → hI (cDrop g (313 + 2 + i)) 300 14 = hI a 300 14 ∧ hI (cDrop g (313 + 2 + i)) (313 + 2 + j) 0 = (if j = i then -1 else hI a (313 + 2 + j) 0) ∧ hI (cDrop g (313 + 2 + i)) (313 + 2 + j) 9 = (if j = i then 0 else hI a (313 + 2 + j) 9) := fun g e1 e2 => by
      refine ⟨by rw [hI_drop (by omega)]; exact e1, ?_, ?_⟩
      · by_cases q : j = i
        · rw [if_pos q, q]; exact hI_drop0.1
        · rw [if_neg q, hI_drop (by omega)]; exact e2 0 (Or.inl rfl)
      · by_cases q : j = i
        · rw [if_pos q, q]; exact hI_drop0.2.2
        · rw [if_neg q, hI_drop (by omega)]; exact e2 9 (Or.inr rfl)
    split
    · exact gen a rfl (fun _ _ => rfl)
    · next d =>
      have hw := (fr_sp R hi (fun z => d (fr_hol R hi z).1)).2
      exact gen _ (flu_low hi hw (by omega) (by omega)) (fun k hk => by rw [flu_row hi hw hj, if_neg (by omega)])
theorem sf_loop {n f : Nat} {X : XT} {Q : QT} {held : Int32} (hX : Clo kX12_setFrames X Q) (h1 : 1 ≤ f) : ∀ (m : Nat) (a b : CH), f + m ≤ 16 → RR n a b → hI a 300 14 = 1 → (∀ i, f + m ≤ i → i < 16 → hI a (313 + 2 + i) 0 = -1) → (∀ i, f ≤ i → i < f + m → hI a (313 + 2 + i) 9 = 0) → (∀ b', RR n (cSF f m a).1 b' → T0 b b' → (cSF f m a).2 = true → (∀ i, f ≤ i → i < 16 → hI (cSF f m a).1 (313 + 2 + i) 0 = -1) → X 133 [.ref 361, .int (nI f), .int held, .int (nI f - 1)] [] b' 0 0) → (∀ b', RR n (cSF f m a).1 b' → T0 b b' → (cSF f m a).2 = false → Q (.inl [.int (-1)]) b') → X 103 [.ref 361, .int (nI f), .int held, .int (nI (f + m) - 1)] [] b 0 0
  | 0, a, b, h16, R, hp, hfr, h9, k1, k0 => by
    have m0 := R.ml.1
    have kk := k1 b R T0.rfl' rfl (fun i hi h2 => hfr i (by omega) h2)
    (refine go mX12_setFrames hX [103, 133] 400 ?_; conv => whnf)
    repeat (first | (refine rs ?_; conv => whnf) | unfold k_call | ((with_reducible refine And.intro ?_ ?_); (first | (first | assumption | rfl | exact True.intro | exact Nat.le_of_ble_eq_true rfl | exact Or.inl rfl | exact Or.inr rfl | exact okv3 (by assumption) | decide | (focus (simp (disch := omega) only [m0, nI_clamp, vp_in_nI, hT_sI, hR_sI, hT_sJ, hR_sJ, hT_sR, hI_sJ, hI_sR, hJ_sI, hJ_sR, hI_eq, hI_ne, hI_nk]; done)) | (focus (simp (disch := omega) only [m0, nI_clamp, vp_in_nI, hT_sI, hR_sI, hT_sJ, hR_sJ, hT_sR, hI_sJ, hI_sR, hJ_sI, hJ_sR, hI_eq, hI_ne, hI_nk]; first | assumption | exact okv3 (by assumption)))) | (focus (refine ⟨_, rfl, ?_⟩; (first | assumption | rfl | exact True.intro | exact Nat.le_of_ble_eq_true rfl | exact Or.inl rfl | exact Or.inr rfl | exact okv3 (by assumption) | decide | (focus (simp (disch := omega) only [m0, nI_clamp, vp_in_nI, hT_sI, hR_sI, hT_sJ, hR_sJ, hT_sR, hI_sJ, hI_sR, hJ_sI, hJ_sR, hI_eq, hI_ne, hI_nk]; done)) | (focus (simp (disch := omega) only [m0, nI_clamp, vp_in_nI, hT_sI, hR_sI, hT_sJ, hR_sJ, hT_sR, hI_sJ, hI_sR, hJ_sI, hJ_sR, hI_eq, hI_ne, hI_nk]; first | assumption | exact okv3 (by assumption)))))))))
    refine br_t ((lt_pr (by omega) (by omega)).mpr (by omega)) ?_
    repeat (first | (refine rs ?_; conv => whnf) | unfold k_call | ((with_reducible refine And.intro ?_ ?_); (first | (first | assumption | rfl | exact True.intro | exact Nat.le_of_ble_eq_true rfl | exact Or.inl rfl | exact Or.inr rfl | exact okv3 (by assumption) | decide | (focus (simp (disch := omega) only [m0, nI_clamp, vp_in_nI, hT_sI, hR_sI, hT_sJ, hR_sJ, hT_sR, hI_sJ, hI_sR, hJ_sI, hJ_sR, hI_eq, hI_ne, hI_nk]; done)) | (focus (simp (disch := omega) only [m0, nI_clamp, vp_in_nI, hT_sI, hR_sI, hT_sJ, hR_sJ, hT_sR, hI_sJ, hI_sR, hJ_sI, hJ_sR, hI_eq, hI_ne, hI_nk]; first | assumption | exact okv3 (by assumption)))) | (focus (refine ⟨_, rfl, ?_⟩; (first | assumption | rfl | exact True.intro | exact Nat.le_of_ble_eq_true rfl | exact Or.inl rfl | exact Or.inr rfl | exact okv3 (by assumption) | decide | (focus (simp (disch := omega) only [m0, nI_clamp, vp_in_nI, hT_sI, hR_sI, hT_sJ, hR_sJ, hT_sR, hI_sJ, hI_sR, hJ_sI, hJ_sR, hI_eq, hI_ne, hI_nk]; done)) | (focus (simp (disch := omega) only [m0, nI_clamp, vp_in_nI, hT_sI, hR_sI, hT_sJ, hR_sJ, hT_sR, hI_sJ, hI_sR, hJ_sI, hJ_sR, hI_eq, hI_ne, hI_nk]; first | assumption | exact okv3 (by assumption)))))))))
    exact kk
  | m + 1, a, b, h16, R, hp, hfr, h9, k1, k0 => by
    obtain ⟨m0, m1, m2, m3, m4, m5, m6, m7, m8, m9, m10, m11, m12, m13, m14, m15, m16, m17, m18, m19, m20, m21, m22, m23⟩ := id R.ml
    have hi : f + m < 16 := by omega
    have ep : nI (f + (m + 1)) - 1 = nI (f + m) := nI_pred (f + m)
    have ep2 : nI (f + m) + -1 = nI (f + m) - 1 := (Int32.sub_eq_add_neg _ _).symm
    have e0 : cSF f (m + 1) a = if (cEvF a (f + m)).2 then cSF f m (cEvF a (f + m)).1 else ((cEvF a (f + m)).1, false) := rfl
    rw [e0] at k1 k0
    rw [ep]
    have on : ∀ b', RR n (cEvF a (f + m)).1 b' → T0 b b' → (cEvF a (f + m)).2 = true → X 127 [.ref 361, .int (nI f), .int held, .int (nI (f + m))] [] b' 0 0 := fun b' R' T' ht => by
      rw [if_pos ht] at k1 k0
      have z := fun j (hj : j < 16) => evF_sp R hi hj ht
      have ih := sf_loop (held := held) hX h1 m (cEvF a (f + m)).1 b' (by omega) R' (by rw [(z 0 (by omega)).1]; exact hp) (fun i h1 h2 => by
        rw [(z i h2).2.1]
        split
        · rfl
        · exact hfr i (by omega) h2) (fun i h1 h2 => by
        rw [(z i (by omega)).2.2]
        split
        · rfl
        · exact h9 i h1 (by omega)) (fun b'' u1 u2 u3 u4 => k1 b'' u1 (T'.trans u2) u3 u4) (fun b'' u1 u2 u3 => k0 b'' u1 (T'.trans u2) u3)
      have q0 := R'.ml.1
      (refine go mX12_setFrames hX [103] 400 ?_; conv => whnf)
      repeat (first | (refine rs ?_; conv => whnf) | unfold k_call | ((with_reducible refine And.intro ?_ ?_); (first | (first | assumption | rfl | exact True.intro | exact Nat.le_of_ble_eq_true rfl | exact Or.inl rfl | exact Or.inr rfl | exact okv3 (by assumption) | decide | (focus (simp (disch := omega) only [q0, nI_clamp, vp_in_nI, hT_sI, hR_sI, hT_sJ, hR_sJ, hT_sR, hI_sJ, hI_sR, hJ_sI, hJ_sR, hI_eq, hI_ne, hI_nk]; done)) | (focus (simp (disch := omega) only [q0, nI_clamp, vp_in_nI, hT_sI, hR_sI, hT_sJ, hR_sJ, hT_sR, hI_sJ, hI_sR, hJ_sI, hJ_sR, hI_eq, hI_ne, hI_nk]; first | assumption | exact okv3 (by assumption)))) | (focus (refine ⟨_, rfl, ?_⟩; (first | assumption | rfl | exact True.intro | exact Nat.le_of_ble_eq_true rfl | exact Or.inl rfl | exact Or.inr rfl | exact okv3 (by assumption) | decide | (focus (simp (disch := omega) only [q0, nI_clamp, vp_in_nI, hT_sI, hR_sI, hT_sJ, hR_sJ, hT_sR, hI_sJ, hI_sR, hJ_sI, hJ_sR, hI_eq, hI_ne, hI_nk]; done)) | (focus (simp (disch := omega) only [q0, nI_clamp, vp_in_nI, hT_sI, hR_sI, hT_sJ, hR_sJ, hT_sR, hI_sJ, hI_sR, hJ_sI, hJ_sR, hI_eq, hI_ne, hI_nk]; first | assumption | exact okv3 (by assumption)))))))))
      show X 103 [.ref 361, .int (nI f), .int held, .int (nI (f + m) + -1)] [] b' 0 0
      rw [ep2]
      exact ih
    (refine go mX12_setFrames hX [103, 127, 133] 400 ?_; conv => whnf)
    repeat (first | (refine rs ?_; conv => whnf) | unfold k_call | ((with_reducible refine And.intro ?_ ?_); (first | (first | assumption | rfl | exact True.intro | exact Nat.le_of_ble_eq_true rfl | exact Or.inl rfl | exact Or.inr rfl | exact okv3 (by assumption) | decide | (focus (simp (disch := omega) only [m0, m7, m18, nI_clamp, vp_in_nI, hT_sI, hR_sI, hT_sJ, hR_sJ, hT_sR, hI_sJ, hI_sR, hJ_sI, hJ_sR, hI_eq, hI_ne, hI_nk]; done)) | (focus (simp (disch := omega) only [m0, m7, m18, nI_clamp, vp_in_nI, hT_sI, hR_sI, hT_sJ, hR_sJ, hT_sR, hI_sJ, hI_sR, hJ_sI, hJ_sR, hI_eq, hI_ne, hI_nk]; first | assumption | exact okv3 (by assumption)))) | (focus (refine ⟨_, rfl, ?_⟩; (first | assumption | rfl | exact True.intro | exact Nat.le_of_ble_eq_true rfl | exact Or.inl rfl | exact Or.inr rfl | exact okv3 (by assumption) | decide | (focus (simp (disch := omega) only [m0, m7, m18, nI_clamp, vp_in_nI, hT_sI, hR_sI, hT_sJ, hR_sJ, hT_sR, hI_sJ, hI_sR, hJ_sI, hJ_sR, hI_eq, hI_ne, hI_nk]; done)) | (focus (simp (disch := omega) only [m0, m7, m18, nI_clamp, vp_in_nI, hT_sI, hR_sI, hT_sJ, hR_sJ, hT_sR, hI_sJ, hI_sR, hJ_sI, hJ_sR, hI_eq, hI_ne, hI_nk]; first | assumption | exact okv3 (by assumption)))))))))
    refine br_f (nI_nlt (by omega) (by omega)) ?_
    repeat (first | (refine rs ?_; conv => whnf) | unfold k_call | ((with_reducible refine And.intro ?_ ?_); (first | (first | assumption | rfl | exact True.intro | exact Nat.le_of_ble_eq_true rfl | exact Or.inl rfl | exact Or.inr rfl | exact okv3 (by assumption) | decide | (focus (simp (disch := omega) only [m0, m7, m18, nI_clamp, vp_in_nI, hT_sI, hR_sI, hT_sJ, hR_sJ, hT_sR, hI_sJ, hI_sR, hJ_sI, hJ_sR, hI_eq, hI_ne, hI_nk]; done)) | (focus (simp (disch := omega) only [m0, m7, m18, nI_clamp, vp_in_nI, hT_sI, hR_sI, hT_sJ, hR_sJ, hT_sR, hI_sJ, hI_sR, hJ_sI, hJ_sR, hI_eq, hI_ne, hI_nk]; first | assumption | exact okv3 (by assumption)))) | (focus (refine ⟨_, rfl, ?_⟩; (first | assumption | rfl | exact True.intro | exact Nat.le_of_ble_eq_true rfl | exact Or.inl rfl | exact Or.inr rfl | exact okv3 (by assumption) | decide | (focus (simp (disch := omega) only [m0, m7, m18, nI_clamp, vp_in_nI, hT_sI, hR_sI, hT_sJ, hR_sJ, hT_sR, hI_sJ, hI_sR, hJ_sI, hJ_sR, hI_eq, hI_ne, hI_nk]; done)) | (focus (simp (disch := omega) only [m0, m7, m18, nI_clamp, vp_in_nI, hT_sI, hR_sI, hT_sJ, hR_sJ, hT_sR, hI_sJ, hI_sR, hJ_sI, hJ_sR, hI_eq, hI_ne, hI_nk]; first | assumption | exact okv3 (by assumption)))))))))
    (try simp (disch := omega) only [m0, m7, m18, nI_clamp, vp_in_nI, hT_sI, hR_sI, hT_sJ, hR_sJ, hT_sR, hI_sJ, hI_sR, hJ_sI, hJ_sR, hI_eq, hI_ne, hI_nk])
    (refine ⟨fun c => ?_, fun c => ?_⟩ <;> (try dsimp only at c))
    · have hc := (nul_iff R hi).mp c
      have ev : cEvF a (f + m) = (cDrop a (313 + 2 + (f + m)), true) := by
        unfold cEvF cEv
        rw [if_neg (fun w => w.1 (fr_hol R hi hc).1), if_pos (fr_hol R hi hc).1]
      have R2 := RR_drop R hi (fun _ w => absurd hc w)
      rw [sR_id c] at R2
      repeat (first | (refine rs ?_; conv => whnf) | unfold k_call | ((with_reducible refine And.intro ?_ ?_); (first | (first | assumption | rfl | exact True.intro | exact Nat.le_of_ble_eq_true rfl | exact Or.inl rfl | exact Or.inr rfl | exact okv3 (by assumption) | decide | (focus (simp (disch := omega) only [m0, m7, m18, nI_clamp, vp_in_nI, hT_sI, hR_sI, hT_sJ, hR_sJ, hT_sR, hI_sJ, hI_sR, hJ_sI, hJ_sR, hI_eq, hI_ne, hI_nk]; done)) | (focus (simp (disch := omega) only [m0, m7, m18, nI_clamp, vp_in_nI, hT_sI, hR_sI, hT_sJ, hR_sJ, hT_sR, hI_sJ, hI_sR, hJ_sI, hJ_sR, hI_eq, hI_ne, hI_nk]; first | assumption | exact okv3 (by assumption)))) | (focus (refine ⟨_, rfl, ?_⟩; (first | assumption | rfl | exact True.intro | exact Nat.le_of_ble_eq_true rfl | exact Or.inl rfl | exact Or.inr rfl | exact okv3 (by assumption) | decide | (focus (simp (disch := omega) only [m0, m7, m18, nI_clamp, vp_in_nI, hT_sI, hR_sI, hT_sJ, hR_sJ, hT_sR, hI_sJ, hI_sR, hJ_sI, hJ_sR, hI_eq, hI_ne, hI_nk]; done)) | (focus (simp (disch := omega) only [m0, m7, m18, nI_clamp, vp_in_nI, hT_sI, hR_sI, hT_sJ, hR_sJ, hT_sR, hI_sJ, hI_sR, hJ_sI, hJ_sR, hI_eq, hI_ne, hI_nk]; first | assumption | exact okv3 (by assumption)))))))))
      exact on b (by rw [ev]; exact R2) T0.rfl' (by rw [ev])
    · have hc : ¬ hI a (313 + 2 + (f + m)) 0 = -1 := fun w => c ((nul_iff R hi).mpr w)
      repeat (first | (refine rs ?_; conv => whnf) | unfold k_call | ((with_reducible refine And.intro ?_ ?_); (first | (first | assumption | rfl | exact True.intro | exact Nat.le_of_ble_eq_true rfl | exact Or.inl rfl | exact Or.inr rfl | exact okv3 (by assumption) | decide | (focus (simp (disch := omega) only [m0, m7, m18, nI_clamp, vp_in_nI, hT_sI, hR_sI, hT_sJ, hR_sJ, hT_sR, hI_sJ, hI_sR, hJ_sI, hJ_sR, hI_eq, hI_ne, hI_nk]; done)) | (focus (simp (disch := omega) only [m0, m7, m18, nI_clamp, vp_in_nI, hT_sI, hR_sI, hT_sJ, hR_sJ, hT_sR, hI_sJ, hI_sR, hJ_sI, hJ_sR, hI_eq, hI_ne, hI_nk]; first | assumption | exact okv3 (by assumption)))) | (focus (refine ⟨_, rfl, ?_⟩; (first | assumption | rfl | exact True.intro | exact Nat.le_of_ble_eq_true rfl | exact Or.inl rfl | exact Or.inr rfl | exact okv3 (by assumption) | decide | (focus (simp (disch := omega) only [m0, m7, m18, nI_clamp, vp_in_nI, hT_sI, hR_sI, hT_sJ, hR_sJ, hT_sR, hI_sJ, hI_sR, hJ_sI, hJ_sR, hI_eq, hI_ne, hI_nk]; done)) | (focus (simp (disch := omega) only [m0, m7, m18, nI_clamp, vp_in_nI, hT_sI, hR_sI, hT_sJ, hR_sJ, hT_sR, hI_sJ, hI_sR, hJ_sI, hJ_sR, hI_eq, hI_ne, hI_nk]; first | assumption | exact okv3 (by assumption)))))))))
      refine leaves_ok R hi hc (h9 _ (by omega) (by omega)) hp (fun b' R' T' => ?_)
      cases ht : (cEvF a (f + m)).2 with
      | true =>
        repeat (first | (refine rs ?_; conv => whnf) | unfold k_call | ((with_reducible refine And.intro ?_ ?_); (first | (first | assumption | rfl | exact True.intro | exact Nat.le_of_ble_eq_true rfl | exact Or.inl rfl | exact Or.inr rfl | exact okv3 (by assumption) | decide | (focus (simp (disch := omega) only [m0, m7, m18, nI_clamp, vp_in_nI, hT_sI, hR_sI, hT_sJ, hR_sJ, hT_sR, hI_sJ, hI_sR, hJ_sI, hJ_sR, hI_eq, hI_ne, hI_nk]; done)) | (focus (simp (disch := omega) only [m0, m7, m18, nI_clamp, vp_in_nI, hT_sI, hR_sI, hT_sJ, hR_sJ, hT_sR, hI_sJ, hI_sR, hJ_sI, hJ_sR, hI_eq, hI_ne, hI_nk]; first | assumption | exact okv3 (by assumption)))) | (focus (refine ⟨_, rfl, ?_⟩; (first | assumption | rfl | exact True.intro | exact Nat.le_of_ble_eq_true rfl | exact Or.inl rfl | exact Or.inr rfl | exact okv3 (by assumption) | decide | (focus (simp (disch := omega) only [m0, m7, m18, nI_clamp, vp_in_nI, hT_sI, hR_sI, hT_sJ, hR_sJ, hT_sR, hI_sJ, hI_sR, hJ_sI, hJ_sR, hI_eq, hI_ne, hI_nk]; done)) | (focus (simp (disch := omega) only [m0, m7, m18, nI_clamp, vp_in_nI, hT_sI, hR_sI, hT_sJ, hR_sJ, hT_sR, hI_sJ, hI_sR, hJ_sI, hJ_sR, hI_eq, hI_ne, hI_nk]; first | assumption | exact okv3 (by assumption)))))))))
        refine br_f (show ¬ (1 : Int32) = 0 by decide) ?_
        repeat (first | (refine rs ?_; conv => whnf) | unfold k_call | ((with_reducible refine And.intro ?_ ?_); (first | (first | assumption | rfl | exact True.intro | exact Nat.le_of_ble_eq_true rfl | exact Or.inl rfl | exact Or.inr rfl | exact okv3 (by assumption) | decide | (focus (simp (disch := omega) only [m0, m7, m18, nI_clamp, vp_in_nI, hT_sI, hR_sI, hT_sJ, hR_sJ, hT_sR, hI_sJ, hI_sR, hJ_sI, hJ_sR, hI_eq, hI_ne, hI_nk]; done)) | (focus (simp (disch := omega) only [m0, m7, m18, nI_clamp, vp_in_nI, hT_sI, hR_sI, hT_sJ, hR_sJ, hT_sR, hI_sJ, hI_sR, hJ_sI, hJ_sR, hI_eq, hI_ne, hI_nk]; first | assumption | exact okv3 (by assumption)))) | (focus (refine ⟨_, rfl, ?_⟩; (first | assumption | rfl | exact True.intro | exact Nat.le_of_ble_eq_true rfl | exact Or.inl rfl | exact Or.inr rfl | exact okv3 (by assumption) | decide | (focus (simp (disch := omega) only [m0, m7, m18, nI_clamp, vp_in_nI, hT_sI, hR_sI, hT_sJ, hR_sJ, hT_sR, hI_sJ, hI_sR, hJ_sI, hJ_sR, hI_eq, hI_ne, hI_nk]; done)) | (focus (simp (disch := omega) only [m0, m7, m18, nI_clamp, vp_in_nI, hT_sI, hR_sI, hT_sJ, hR_sJ, hT_sR, hI_sJ, hI_sR, hJ_sI, hJ_sR, hI_eq, hI_ne, hI_nk]; first | assumption | exact okv3 (by assumption)))))))))
        exact on b' R' T' ht
      | false =>
        have e3 : (if (cEvF a (f + m)).2 then cSF f m (cEvF a (f + m)).1 else ((cEvF a (f + m)).1, false)) = ((cEvF a (f + m)).1, false) := by rw [ht]; rfl
        rw [e3] at k0
        repeat (first | (refine rs ?_; conv => whnf) | unfold k_call | ((with_reducible refine And.intro ?_ ?_); (first | (first | assumption | rfl | exact True.intro | exact Nat.le_of_ble_eq_true rfl | exact Or.inl rfl | exact Or.inr rfl | exact okv3 (by assumption) | decide | (focus (simp (disch := omega) only [m0, m7, m18, nI_clamp, vp_in_nI, hT_sI, hR_sI, hT_sJ, hR_sJ, hT_sR, hI_sJ, hI_sR, hJ_sI, hJ_sR, hI_eq, hI_ne, hI_nk]; done)) | (focus (simp (disch := omega) only [m0, m7, m18, nI_clamp, vp_in_nI, hT_sI, hR_sI, hT_sJ, hR_sJ, hT_sR, hI_sJ, hI_sR, hJ_sI, hJ_sR, hI_eq, hI_ne, hI_nk]; first | assumption | exact okv3 (by assumption)))) | (focus (refine ⟨_, rfl, ?_⟩; (first | assumption | rfl | exact True.intro | exact Nat.le_of_ble_eq_true rfl | exact Or.inl rfl | exact Or.inr rfl | exact okv3 (by assumption) | decide | (focus (simp (disch := omega) only [m0, m7, m18, nI_clamp, vp_in_nI, hT_sI, hR_sI, hT_sJ, hR_sJ, hT_sR, hI_sJ, hI_sR, hJ_sI, hJ_sR, hI_eq, hI_ne, hI_nk]; done)) | (focus (simp (disch := omega) only [m0, m7, m18, nI_clamp, vp_in_nI, hT_sI, hR_sI, hT_sJ, hR_sJ, hT_sR, hI_sJ, hI_sR, hJ_sI, hJ_sR, hI_eq, hI_ne, hI_nk]; first | assumption | exact okv3 (by assumption)))))))))
        refine br_t rfl ?_
        repeat (first | (refine rs ?_; conv => whnf) | unfold k_call | ((with_reducible refine And.intro ?_ ?_); (first | (first | assumption | rfl | exact True.intro | exact Nat.le_of_ble_eq_true rfl | exact Or.inl rfl | exact Or.inr rfl | exact okv3 (by assumption) | decide | (focus (simp (disch := omega) only [m0, m7, m18, nI_clamp, vp_in_nI, hT_sI, hR_sI, hT_sJ, hR_sJ, hT_sR, hI_sJ, hI_sR, hJ_sI, hJ_sR, hI_eq, hI_ne, hI_nk]; done)) | (focus (simp (disch := omega) only [m0, m7, m18, nI_clamp, vp_in_nI, hT_sI, hR_sI, hT_sJ, hR_sJ, hT_sR, hI_sJ, hI_sR, hJ_sI, hJ_sR, hI_eq, hI_ne, hI_nk]; first | assumption | exact okv3 (by assumption)))) | (focus (refine ⟨_, rfl, ?_⟩; (first | assumption | rfl | exact True.intro | exact Nat.le_of_ble_eq_true rfl | exact Or.inl rfl | exact Or.inr rfl | exact okv3 (by assumption) | decide | (focus (simp (disch := omega) only [m0, m7, m18, nI_clamp, vp_in_nI, hT_sI, hR_sI, hT_sJ, hR_sJ, hT_sR, hI_sJ, hI_sR, hJ_sI, hJ_sR, hI_eq, hI_ne, hI_nk]; done)) | (focus (simp (disch := omega) only [m0, m7, m18, nI_clamp, vp_in_nI, hT_sI, hR_sI, hT_sJ, hR_sJ, hT_sR, hI_sJ, hI_sR, hJ_sI, hJ_sR, hI_eq, hI_ne, hI_nk]; first | assumption | exact okv3 (by assumption)))))))))
        exact k0 b' R' T' rfl
