/-! LAYBACK, the class's cells, and the frame asked in the midst of it -/
theorem hI_dropS0 {h : CH} {x y : Int32} {j : Nat} : ∀ m, hI (cDropS h 313 x y m) (313 + 2 + j) 0 = if j < m ∧ ¬ hI h (313 + 2 + j) 0 < x ∧ ¬ y ≤ hI h (313 + 2 + j) 0 then -1 else hI h (313 + 2 + j) 0
  | 0 => by rw [if_neg (fun z => absurd z.1 (Nat.not_lt_zero _))]; rfl
  | m + 1 => by
    have e1 : hI (cDropS h 313 x y m) (313 + 2 + m) 0 = hI h (313 + 2 + m) 0 := hI_dropS m (by omega)
    have u1 : cDropS h 313 x y (m + 1) = if ¬ hI h (313 + 2 + m) 0 < x ∧ ¬ y ≤ hI h (313 + 2 + m) 0 then cDrop (cDropS h 313 x y m) (313 + 2 + m) else cDropS h 313 x y m := by
      rw [← e1]
      rfl
    have ih := hI_dropS0 (h := h) (x := x) (y := y) (j := j) m
    rw [u1]
    by_cases c : j = m
    · subst c
      by_cases c2 : ¬ hI h (313 + 2 + j) 0 < x ∧ ¬ y ≤ hI h (313 + 2 + j) 0
      · rw [if_pos c2, hI_drop0.1, if_pos ⟨Nat.lt_succ_self _, c2⟩]
      · rw [if_neg c2, e1, if_neg (fun z => c2 z.2)]
    · have e2 : (if j < m + 1 ∧ ¬ hI h (313 + 2 + j) 0 < x ∧ ¬ y ≤ hI h (313 + 2 + j) 0 then -1 else hI h (313 + 2 + j) 0) = if j < m ∧ ¬ hI h (313 + 2 + j) 0 < x ∧ ¬ y ≤ hI h (313 + 2 + j) 0 then -1 else hI h (313 + 2 + j) 0 := by
        by_cases c3 : j < m
        · by_cases c2 : ¬ hI h (313 + 2 + j) 0 < x ∧ ¬ y ≤ hI h (313 + 2 + j) 0
          · rw [if_pos ⟨by omega, c2⟩, if_pos ⟨c3, c2⟩]
          · rw [if_neg (fun z => c2 z.2), if_neg (fun z => c2 z.2)]
        · rw [if_neg (fun z => absurd z.1 (by omega)), if_neg (fun z => c3 z.1)]
      rw [e2, ← ih]
      split
      · exact hI_drop (by omega)
      · rfl
theorem fgtN_oth {g : CH} {a x j : Nat} (h1 : ¬ x = 331) (h2 : ¬ x = 332) : ∀ n, hI (cFgt g a n) x j = hI g x j
  | 0 => rfl
  | n + 1 => (fgt_oth (fun z => h1 z.1) (fun z => h2 z.1)).trans (fgtN_oth h1 h2 n)
theorem cLB_oth {h : CH} {d qa qb k x j : Nat} (h1 : ¬ x = 331) (h2 : ¬ x = 332) (h3 : ¬ (x = 302 + 4 * d + 2 ∧ j < k)) (h4 : ¬ (x = 302 + 4 * d + 1 ∧ j < k)) (h5 : ¬ (315 ≤ x ∧ x < 331)) : hI (cLB h d qa qb k) x j = hI h x j := by
  unfold cLB
  rw [cTake_I, if_neg h3, if_neg h4, fgtN_oth h1 h2, hI_dropS 16 (by omega)]
theorem cLB_rt {h : CH} {d qa qb k : Nat} : hT (cLB h d qa qb k) = hT h ∧ hR (cLB h d qa qb k) = hR h := by
  have t : ∀ (g : CH) n, hT (cTake g (302 + 4 * d) qa qb n) = hT g ∧ hR (cTake g (302 + 4 * d) qa qb n) = hR g := fun g n => by
    induction n with
    | zero => exact ⟨rfl, rfl⟩
    | succ n ih => exact ih
  unfold cLB
  rw [(t _ _).1, (t _ _).2, (rt_fgt _).1, (rt_fgt _).2, (rt_dropS _).1, (rt_dropS _).2]
  exact ⟨rfl, rfl⟩
theorem cLB_fr {h : CH} {d qa qb k j : Nat} (hd : d < 2) (hk : k < 64) (hj : j < 16) : hI (cLB h d qa qb k) (313 + 2 + j) 0 = nI (d * 64 + k) ↔ hI h (313 + 2 + j) 0 = nI (d * 64 + k) := by
  have e : hI (cLB h d qa qb k) (313 + 2 + j) 0 = if j < 16 ∧ ¬ hI h (313 + 2 + j) 0 < nI (d * 64) ∧ ¬ nI (d * 64 + k) ≤ hI h (313 + 2 + j) 0 then -1 else hI h (313 + 2 + j) 0 := by
    unfold cLB
    rw [cTake_I, if_neg (by omega), if_neg (by omega), fgtN_oth (by omega) (by omega), hI_dropS0]
  rw [e]
  constructor
  · intro z
    by_cases c : j < 16 ∧ ¬ hI h (313 + 2 + j) 0 < nI (d * 64) ∧ ¬ nI (d * 64 + k) ≤ hI h (313 + 2 + j) 0
    · rw [if_pos c] at z
      exact absurd z.symm (nI_n1 (by omega))
    · rw [if_neg c] at z
      exact z
  · intro z
    rw [z, if_neg (fun w => w.2.2 (Int32.le_refl _))]
theorem cLB_0 {h : CH} {d qa qb : Nat} (hd : d < 2) : cLB h d qa qb 0 = h := by
  have : ∀ m, cDropS h 313 (nI (d * 64)) (nI (d * 64)) m = h := fun m => by
    induction m with
    | zero => rfl
    | succ m ih =>
      show (if ¬ hI (cDropS h 313 (nI (d * 64)) (nI (d * 64)) m) (313 + 2 + m) 0 < nI (d * 64) ∧ ¬ nI (d * 64) ≤ hI (cDropS h 313 (nI (d * 64)) (nI (d * 64)) m) (313 + 2 + m) 0 then cDrop (cDropS h 313 (nI (d * 64)) (nI (d * 64)) m) (313 + 2 + m) else cDropS h 313 (nI (d * 64)) (nI (d * 64)) m) = h
      rw [ih, if_neg (fun z => z.2 (Int32.not_lt.mp z.1))]
  exact this 16
theorem frameWithB {n s : Nat} {a b g : CH} {Q : QT} (R : RR n a b) (hs : s < 128) (m0 : (hT g 361).1 = 16) (m7 : hR g 361 7 = 368) (m18 : hT g 368 = (107, 16)) (er : ∀ i, hR g 368 i = hR b 368 i) (ep : ∀ i, i < 16 → ¬ hR b 368 i = 0 → (hT g (hR b 368 i)).1 = 15 ∧ hI g (hR b 368 i) 0 = hI b (hR b 368 i) 0) (k : Q (.inl [.int (ixI (lst (atP a 313 (nI s)) (nN a)))]) g) : wX12_frameWith [.ref 361, .int (nI s)] g Q := by
  refine wgo (fun X hX => ?_) (by show 2 ≤ 4; decide)
  have hn1 := nI_n1 hs
  have h16 : lst (atP a 313 (nI s)) 16 = lst (atP a 313 (nI s)) (nN a) := lst16 R.ln.1 (fun i h1 h2 => by
    unfold atP
    rw [R.fm.1 i h1 h2]
    exact decide_eq_false (fun q => hn1 q.symm))
  rw [← h16] at k
  have loop := up (n := 16) (G := fun i => X 4 [.ref 361, .int (nI s), .int (ixI (lst (atP a 313 (nI s)) i)), .int (nI i)] [] g 0 0) (by
    (refine go mX12_frameWith hX [4] 400 ?_; conv => whnf)
    repeat (first | (refine rs ?_; conv => whnf) | unfold k_call | ((with_reducible refine And.intro ?_ ?_); (first | (first | assumption | rfl | exact True.intro | exact Nat.le_of_ble_eq_true rfl | exact Or.inl rfl | exact Or.inr rfl | exact okv3 (by assumption) | decide | (focus (simp (disch := omega) only [m0, m7, m18, nI_clamp, vp_in_nI, hT_sI, hR_sI, hT_sJ, hR_sJ, hT_sR, hI_sJ, hI_sR, hJ_sI, hJ_sR, hI_eq, hI_ne, hI_nk]; done)) | (focus (simp (disch := omega) only [m0, m7, m18, nI_clamp, vp_in_nI, hT_sI, hR_sI, hT_sJ, hR_sJ, hT_sR, hI_sJ, hI_sR, hJ_sI, hJ_sR, hI_eq, hI_ne, hI_nk]; first | assumption | exact okv3 (by assumption)))) | (focus (refine ⟨_, rfl, ?_⟩; (first | assumption | rfl | exact True.intro | exact Nat.le_of_ble_eq_true rfl | exact Or.inl rfl | exact Or.inr rfl | exact okv3 (by assumption) | decide | (focus (simp (disch := omega) only [m0, m7, m18, nI_clamp, vp_in_nI, hT_sI, hR_sI, hT_sJ, hR_sJ, hT_sR, hI_sJ, hI_sR, hJ_sI, hJ_sR, hI_eq, hI_ne, hI_nk]; done)) | (focus (simp (disch := omega) only [m0, m7, m18, nI_clamp, vp_in_nI, hT_sI, hR_sI, hT_sJ, hR_sJ, hT_sR, hI_sJ, hI_sR, hJ_sI, hJ_sR, hI_eq, hI_ne, hI_nk]; first | assumption | exact okv3 (by assumption)))))))))
    refine br_t (by decide) ?_
    repeat (first | (refine rs ?_; conv => whnf) | unfold k_call | ((with_reducible refine And.intro ?_ ?_); (first | (first | assumption | rfl | exact True.intro | exact Nat.le_of_ble_eq_true rfl | exact Or.inl rfl | exact Or.inr rfl | exact okv3 (by assumption) | decide | (focus (simp (disch := omega) only [m0, m7, m18, nI_clamp, vp_in_nI, hT_sI, hR_sI, hT_sJ, hR_sJ, hT_sR, hI_sJ, hI_sR, hJ_sI, hJ_sR, hI_eq, hI_ne, hI_nk]; done)) | (focus (simp (disch := omega) only [m0, m7, m18, nI_clamp, vp_in_nI, hT_sI, hR_sI, hT_sJ, hR_sJ, hT_sR, hI_sJ, hI_sR, hJ_sI, hJ_sR, hI_eq, hI_ne, hI_nk]; first | assumption | exact okv3 (by assumption)))) | (focus (refine ⟨_, rfl, ?_⟩; (first | assumption | rfl | exact True.intro | exact Nat.le_of_ble_eq_true rfl | exact Or.inl rfl | exact Or.inr rfl | exact okv3 (by assumption) | decide | (focus (simp (disch := omega) only [m0, m7, m18, nI_clamp, vp_in_nI, hT_sI, hR_sI, hT_sJ, hR_sJ, hT_sR, hI_sJ, hI_sR, hJ_sI, hJ_sR, hI_eq, hI_ne, hI_nk]; done)) | (focus (simp (disch := omega) only [m0, m7, m18, nI_clamp, vp_in_nI, hT_sI, hR_sI, hT_sJ, hR_sJ, hT_sR, hI_sJ, hI_sR, hJ_sI, hJ_sR, hI_eq, hI_ne, hI_nk]; first | assumption | exact okv3 (by assumption)))))))))
    exact k) (fun i hi ih => by
    have no : hI a (313 + 2 + i) 0 ≠ nI s → X 37 [.ref 361, .int (nI s), .int (ixI (lst (atP a 313 (nI s)) i)), .int (nI i)] [.int (ixI (lst (atP a 313 (nI s)) i))] g 0 0 := fun q => by
      (refine go mX12_frameWith hX [4] 400 ?_; conv => whnf)
      repeat (first | (refine rs ?_; conv => whnf) | unfold k_call | ((with_reducible refine And.intro ?_ ?_); (first | (first | assumption | rfl | exact True.intro | exact Nat.le_of_ble_eq_true rfl | exact Or.inl rfl | exact Or.inr rfl | exact okv3 (by assumption) | decide | (focus (simp (disch := omega) only [m0, m7, m18, nI_clamp, vp_in_nI, hT_sI, hR_sI, hT_sJ, hR_sJ, hT_sR, hI_sJ, hI_sR, hJ_sI, hJ_sR, hI_eq, hI_ne, hI_nk]; done)) | (focus (simp (disch := omega) only [m0, m7, m18, nI_clamp, vp_in_nI, hT_sI, hR_sI, hT_sJ, hR_sJ, hT_sR, hI_sJ, hI_sR, hJ_sI, hJ_sR, hI_eq, hI_ne, hI_nk]; first | assumption | exact okv3 (by assumption)))) | (focus (refine ⟨_, rfl, ?_⟩; (first | assumption | rfl | exact True.intro | exact Nat.le_of_ble_eq_true rfl | exact Or.inl rfl | exact Or.inr rfl | exact okv3 (by assumption) | decide | (focus (simp (disch := omega) only [m0, m7, m18, nI_clamp, vp_in_nI, hT_sI, hR_sI, hT_sJ, hR_sJ, hT_sR, hI_sJ, hI_sR, hJ_sI, hJ_sR, hI_eq, hI_ne, hI_nk]; done)) | (focus (simp (disch := omega) only [m0, m7, m18, nI_clamp, vp_in_nI, hT_sI, hR_sI, hT_sJ, hR_sJ, hT_sR, hI_sJ, hI_sR, hJ_sI, hJ_sR, hI_eq, hI_ne, hI_nk]; first | assumption | exact okv3 (by assumption)))))))))
      show X 4 [.ref 361, .int (nI s), .int (ixI (lst (atP a 313 (nI s)) i)), .int (nI i + 1)] [] g 0 0
      have e : lst (atP a 313 (nI s)) (i + 1) = lst (atP a 313 (nI s)) i := by
        show (match lst (atP a 313 (nI s)) i with | some i => some i | none => if atP a 313 (nI s) i then some i else none) = _
        cases lst (atP a 313 (nI s)) i with
        | some j => rfl
        | none => exact if_neg (by unfold atP; simpa using q)
      rw [nI_1, ← e]
      exact ih
    (refine go mX12_frameWith hX [4, 37] 400 ?_; conv => whnf)
    repeat (first | (refine rs ?_; conv => whnf) | unfold k_call | ((with_reducible refine And.intro ?_ ?_); (first | (first | assumption | rfl | exact True.intro | exact Nat.le_of_ble_eq_true rfl | exact Or.inl rfl | exact Or.inr rfl | exact okv3 (by assumption) | decide | (focus (simp (disch := omega) only [m0, m7, m18, nI_clamp, vp_in_nI, hT_sI, hR_sI, hT_sJ, hR_sJ, hT_sR, hI_sJ, hI_sR, hJ_sI, hJ_sR, hI_eq, hI_ne, hI_nk]; done)) | (focus (simp (disch := omega) only [m0, m7, m18, nI_clamp, vp_in_nI, hT_sI, hR_sI, hT_sJ, hR_sJ, hT_sR, hI_sJ, hI_sR, hJ_sI, hJ_sR, hI_eq, hI_ne, hI_nk]; first | assumption | exact okv3 (by assumption)))) | (focus (refine ⟨_, rfl, ?_⟩; (first | assumption | rfl | exact True.intro | exact Nat.le_of_ble_eq_true rfl | exact Or.inl rfl | exact Or.inr rfl | exact okv3 (by assumption) | decide | (focus (simp (disch := omega) only [m0, m7, m18, nI_clamp, vp_in_nI, hT_sI, hR_sI, hT_sJ, hR_sJ, hT_sR, hI_sJ, hI_sR, hJ_sI, hJ_sR, hI_eq, hI_ne, hI_nk]; done)) | (focus (simp (disch := omega) only [m0, m7, m18, nI_clamp, vp_in_nI, hT_sI, hR_sI, hT_sJ, hR_sJ, hT_sR, hI_sJ, hI_sR, hJ_sI, hJ_sR, hI_eq, hI_ne, hI_nk]; first | assumption | exact okv3 (by assumption)))))))))
    refine br_f (nI_ge (a := i) (b := 16) hi (by decide)) ?_
    repeat (first | (refine rs ?_; conv => whnf) | unfold k_call | ((with_reducible refine And.intro ?_ ?_); (first | (first | assumption | rfl | exact True.intro | exact Nat.le_of_ble_eq_true rfl | exact Or.inl rfl | exact Or.inr rfl | exact okv3 (by assumption) | decide | (focus (simp (disch := omega) only [m0, m7, m18, nI_clamp, vp_in_nI, hT_sI, hR_sI, hT_sJ, hR_sJ, hT_sR, hI_sJ, hI_sR, hJ_sI, hJ_sR, hI_eq, hI_ne, hI_nk]; done)) | (focus (simp (disch := omega) only [m0, m7, m18, nI_clamp, vp_in_nI, hT_sI, hR_sI, hT_sJ, hR_sJ, hT_sR, hI_sJ, hI_sR, hJ_sI, hJ_sR, hI_eq, hI_ne, hI_nk]; first | assumption | exact okv3 (by assumption)))) | (focus (refine ⟨_, rfl, ?_⟩; (first | assumption | rfl | exact True.intro | exact Nat.le_of_ble_eq_true rfl | exact Or.inl rfl | exact Or.inr rfl | exact okv3 (by assumption) | decide | (focus (simp (disch := omega) only [m0, m7, m18, nI_clamp, vp_in_nI, hT_sI, hR_sI, hT_sJ, hR_sJ, hT_sR, hI_sJ, hI_sR, hJ_sI, hJ_sR, hI_eq, hI_ne, hI_nk]; done)) | (focus (simp (disch := omega) only [m0, m7, m18, nI_clamp, vp_in_nI, hT_sI, hR_sI, hT_sJ, hR_sJ, hT_sR, hI_sJ, hI_sR, hJ_sI, hJ_sR, hI_eq, hI_ne, hI_nk]; first | assumption | exact okv3 (by assumption)))))))))
    (try simp (disch := omega) only [m0, m7, m18, nI_clamp, vp_in_nI, hT_sI, hR_sI, hT_sJ, hR_sJ, hT_sR, hI_sJ, hI_sR, hJ_sI, hJ_sR, hI_eq, hI_ne, hI_nk])
    (refine ⟨fun c => ?_, fun c => ?_⟩ <;> (try dsimp only at c))
    · repeat (first | (refine rs ?_; conv => whnf) | unfold k_call | ((with_reducible refine And.intro ?_ ?_); (first | (first | assumption | rfl | exact True.intro | exact Nat.le_of_ble_eq_true rfl | exact Or.inl rfl | exact Or.inr rfl | exact okv3 (by assumption) | decide | (focus (simp (disch := omega) only [m0, m7, m18, nI_clamp, vp_in_nI, hT_sI, hR_sI, hT_sJ, hR_sJ, hT_sR, hI_sJ, hI_sR, hJ_sI, hJ_sR, hI_eq, hI_ne, hI_nk]; done)) | (focus (simp (disch := omega) only [m0, m7, m18, nI_clamp, vp_in_nI, hT_sI, hR_sI, hT_sJ, hR_sJ, hT_sR, hI_sJ, hI_sR, hJ_sI, hJ_sR, hI_eq, hI_ne, hI_nk]; first | assumption | exact okv3 (by assumption)))) | (focus (refine ⟨_, rfl, ?_⟩; (first | assumption | rfl | exact True.intro | exact Nat.le_of_ble_eq_true rfl | exact Or.inl rfl | exact Or.inr rfl | exact okv3 (by assumption) | decide | (focus (simp (disch := omega) only [m0, m7, m18, nI_clamp, vp_in_nI, hT_sI, hR_sI, hT_sJ, hR_sJ, hT_sR, hI_sJ, hI_sR, hJ_sI, hJ_sR, hI_eq, hI_ne, hI_nk]; done)) | (focus (simp (disch := omega) only [m0, m7, m18, nI_clamp, vp_in_nI, hT_sI, hR_sI, hT_sJ, hR_sJ, hT_sR, hI_sJ, hI_sR, hJ_sI, hJ_sR, hI_eq, hI_ne, hI_nk]; first | assumption | exact okv3 (by assumption)))))))))
      exact no (fun q => hn1 (q.symm.trans ((nul_iff R hi).mp ((er i).symm.trans c))))
    · have c' : ¬ hR b 368 i = 0 := fun z => c ((er i).trans z)
      have hc : ¬ hI a (313 + 2 + i) 0 = -1 := fun q => c' ((nul_iff R hi).mpr q)
      obtain ⟨e1, e2⟩ := ep i hi c'
      obtain ⟨t, _, P⟩ := pgR R hi c'
      have pt : (hT g (hR g 368 i)).1 = 15 := by rw [er]; exact e1
      have pl : hI g (hR g 368 i) 0 = hI a (313 + 2 + i) 0 := by rw [er, e2]; exact P.pl
      repeat (first | (refine rs ?_; conv => whnf) | unfold k_call | ((with_reducible refine And.intro ?_ ?_); (first | (first | assumption | rfl | exact True.intro | exact Nat.le_of_ble_eq_true rfl | exact Or.inl rfl | exact Or.inr rfl | exact okv3 (by assumption) | decide | (focus (simp (disch := omega) only [m0, m7, m18, pt, nI_clamp, vp_in_nI, hT_sI, hR_sI, hT_sJ, hR_sJ, hT_sR, hI_sJ, hI_sR, hJ_sI, hJ_sR, hI_eq, hI_ne, hI_nk]; done)) | (focus (simp (disch := omega) only [m0, m7, m18, pt, nI_clamp, vp_in_nI, hT_sI, hR_sI, hT_sJ, hR_sJ, hT_sR, hI_sJ, hI_sR, hJ_sI, hJ_sR, hI_eq, hI_ne, hI_nk]; first | assumption | exact okv3 (by assumption)))) | (focus (refine ⟨_, rfl, ?_⟩; (first | assumption | rfl | exact True.intro | exact Nat.le_of_ble_eq_true rfl | exact Or.inl rfl | exact Or.inr rfl | exact okv3 (by assumption) | decide | (focus (simp (disch := omega) only [m0, m7, m18, pt, nI_clamp, vp_in_nI, hT_sI, hR_sI, hT_sJ, hR_sJ, hT_sR, hI_sJ, hI_sR, hJ_sI, hJ_sR, hI_eq, hI_ne, hI_nk]; done)) | (focus (simp (disch := omega) only [m0, m7, m18, pt, nI_clamp, vp_in_nI, hT_sI, hR_sI, hT_sJ, hR_sJ, hT_sR, hI_sJ, hI_sR, hJ_sI, hJ_sR, hI_eq, hI_ne, hI_nk]; first | assumption | exact okv3 (by assumption)))))))))
      (try simp (disch := omega) only [m0, m7, m18, pt, nI_clamp, vp_in_nI, hT_sI, hR_sI, hT_sJ, hR_sJ, hT_sR, hI_sJ, hI_sR, hJ_sI, hJ_sR, hI_eq, hI_ne, hI_nk])
      rw [pl]
      (refine ⟨fun d => ?_, fun d => ?_⟩ <;> (try dsimp only at d))
      · repeat (first | (refine rs ?_; conv => whnf) | unfold k_call | ((with_reducible refine And.intro ?_ ?_); (first | (first | assumption | rfl | exact True.intro | exact Nat.le_of_ble_eq_true rfl | exact Or.inl rfl | exact Or.inr rfl | exact okv3 (by assumption) | decide | (focus (simp (disch := omega) only [m0, m7, m18, pt, nI_clamp, vp_in_nI, hT_sI, hR_sI, hT_sJ, hR_sJ, hT_sR, hI_sJ, hI_sR, hJ_sI, hJ_sR, hI_eq, hI_ne, hI_nk]; done)) | (focus (simp (disch := omega) only [m0, m7, m18, pt, nI_clamp, vp_in_nI, hT_sI, hR_sI, hT_sJ, hR_sJ, hT_sR, hI_sJ, hI_sR, hJ_sI, hJ_sR, hI_eq, hI_ne, hI_nk]; first | assumption | exact okv3 (by assumption)))) | (focus (refine ⟨_, rfl, ?_⟩; (first | assumption | rfl | exact True.intro | exact Nat.le_of_ble_eq_true rfl | exact Or.inl rfl | exact Or.inr rfl | exact okv3 (by assumption) | decide | (focus (simp (disch := omega) only [m0, m7, m18, pt, nI_clamp, vp_in_nI, hT_sI, hR_sI, hT_sJ, hR_sJ, hT_sR, hI_sJ, hI_sR, hJ_sI, hJ_sR, hI_eq, hI_ne, hI_nk]; done)) | (focus (simp (disch := omega) only [m0, m7, m18, pt, nI_clamp, vp_in_nI, hT_sI, hR_sI, hT_sJ, hR_sJ, hT_sR, hI_sJ, hI_sR, hJ_sI, hJ_sR, hI_eq, hI_ne, hI_nk]; first | assumption | exact okv3 (by assumption)))))))))
        have e : lst (atP a 313 (nI s)) (i + 1) = some i := lst_of (decide_eq_true d) (fun j hj => by
          unfold atP
          refine decide_eq_false (fun q => ?_)
          have := R.fm.2.2.1 i j hi (by omega) (d.trans q.symm) hc
          omega) (Nat.lt_succ_self _)
        rw [e] at ih
        (refine go mX12_frameWith hX [4] 400 ?_; conv => whnf)
        repeat (first | (refine rs ?_; conv => whnf) | unfold k_call | ((with_reducible refine And.intro ?_ ?_); (first | (first | assumption | rfl | exact True.intro | exact Nat.le_of_ble_eq_true rfl | exact Or.inl rfl | exact Or.inr rfl | exact okv3 (by assumption) | decide | (focus (simp (disch := omega) only [m0, m7, m18, pt, nI_clamp, vp_in_nI, hT_sI, hR_sI, hT_sJ, hR_sJ, hT_sR, hI_sJ, hI_sR, hJ_sI, hJ_sR, hI_eq, hI_ne, hI_nk]; done)) | (focus (simp (disch := omega) only [m0, m7, m18, pt, nI_clamp, vp_in_nI, hT_sI, hR_sI, hT_sJ, hR_sJ, hT_sR, hI_sJ, hI_sR, hJ_sI, hJ_sR, hI_eq, hI_ne, hI_nk]; first | assumption | exact okv3 (by assumption)))) | (focus (refine ⟨_, rfl, ?_⟩; (first | assumption | rfl | exact True.intro | exact Nat.le_of_ble_eq_true rfl | exact Or.inl rfl | exact Or.inr rfl | exact okv3 (by assumption) | decide | (focus (simp (disch := omega) only [m0, m7, m18, pt, nI_clamp, vp_in_nI, hT_sI, hR_sI, hT_sJ, hR_sJ, hT_sR, hI_sJ, hI_sR, hJ_sI, hJ_sR, hI_eq, hI_ne, hI_nk]; done)) | (focus (simp (disch := omega) only [m0, m7, m18, pt, nI_clamp, vp_in_nI, hT_sI, hR_sI, hT_sJ, hR_sJ, hT_sR, hI_sJ, hI_sR, hJ_sI, hJ_sR, hI_eq, hI_ne, hI_nk]; first | assumption | exact okv3 (by assumption)))))))))
        show X 4 [.ref 361, .int (nI s), .int (nI i), .int (nI i + 1)] [] g 0 0
        rw [nI_1]
        exact ih
      · repeat (first | (refine rs ?_; conv => whnf) | unfold k_call | ((with_reducible refine And.intro ?_ ?_); (first | (first | assumption | rfl | exact True.intro | exact Nat.le_of_ble_eq_true rfl | exact Or.inl rfl | exact Or.inr rfl | exact okv3 (by assumption) | decide | (focus (simp (disch := omega) only [m0, m7, m18, pt, nI_clamp, vp_in_nI, hT_sI, hR_sI, hT_sJ, hR_sJ, hT_sR, hI_sJ, hI_sR, hJ_sI, hJ_sR, hI_eq, hI_ne, hI_nk]; done)) | (focus (simp (disch := omega) only [m0, m7, m18, pt, nI_clamp, vp_in_nI, hT_sI, hR_sI, hT_sJ, hR_sJ, hT_sR, hI_sJ, hI_sR, hJ_sI, hJ_sR, hI_eq, hI_ne, hI_nk]; first | assumption | exact okv3 (by assumption)))) | (focus (refine ⟨_, rfl, ?_⟩; (first | assumption | rfl | exact True.intro | exact Nat.le_of_ble_eq_true rfl | exact Or.inl rfl | exact Or.inr rfl | exact okv3 (by assumption) | decide | (focus (simp (disch := omega) only [m0, m7, m18, pt, nI_clamp, vp_in_nI, hT_sI, hR_sI, hT_sJ, hR_sJ, hT_sR, hI_sJ, hI_sR, hJ_sI, hJ_sR, hI_eq, hI_ne, hI_nk]; done)) | (focus (simp (disch := omega) only [m0, m7, m18, pt, nI_clamp, vp_in_nI, hT_sI, hR_sI, hT_sJ, hR_sJ, hT_sR, hI_sJ, hI_sR, hJ_sI, hJ_sR, hI_eq, hI_ne, hI_nk]; first | assumption | exact okv3 (by assumption)))))))))
        exact no d)
  (refine go mX12_frameWith hX [4] 400 ?_; conv => whnf)
  repeat (first | (refine rs ?_; conv => whnf) | unfold k_call | ((with_reducible refine And.intro ?_ ?_); (first | (first | assumption | rfl | exact True.intro | exact Nat.le_of_ble_eq_true rfl | exact Or.inl rfl | exact Or.inr rfl | exact okv3 (by assumption) | decide | (focus (simp (disch := omega) only [m0, m7, m18, nI_clamp, vp_in_nI, hT_sI, hR_sI, hT_sJ, hR_sJ, hT_sR, hI_sJ, hI_sR, hJ_sI, hJ_sR, hI_eq, hI_ne, hI_nk]; done)) | (focus (simp (disch := omega) only [m0, m7, m18, nI_clamp, vp_in_nI, hT_sI, hR_sI, hT_sJ, hR_sJ, hT_sR, hI_sJ, hI_sR, hJ_sI, hJ_sR, hI_eq, hI_ne, hI_nk]; first | assumption | exact okv3 (by assumption)))) | (focus (refine ⟨_, rfl, ?_⟩; (first | assumption | rfl | exact True.intro | exact Nat.le_of_ble_eq_true rfl | exact Or.inl rfl | exact Or.inr rfl | exact okv3 (by assumption) | decide | (focus (simp (disch := omega) only [m0, m7, m18, nI_clamp, vp_in_nI, hT_sI, hR_sI, hT_sJ, hR_sJ, hT_sR, hI_sJ, hI_sR, hJ_sI, hJ_sR, hI_eq, hI_ne, hI_nk]; done)) | (focus (simp (disch := omega) only [m0, m7, m18, nI_clamp, vp_in_nI, hT_sI, hR_sI, hT_sJ, hR_sJ, hT_sR, hI_sJ, hI_sR, hJ_sI, hJ_sR, hI_eq, hI_ne, hI_nk]; first | assumption | exact okv3 (by assumption)))))))))
  exact loop 0 (Nat.zero_le _)
/-- one place laid back, both sides -/
theorem RR_lb {n d k i qa qb : Nat} {h b : CH} (R : RR n (cLB h d qa qb k) b) (hd : d < 2) (hk : k < 64) (q1 : 361 ≤ qa) (q2 : 361 ≤ qb) (hv : ∀ j, j < 16 → hI h (313 + 2 + j) 0 = -1 ∨ ∃ p, p < 128 ∧ hI h (313 + 2 + j) 0 = nI p) (hu : ∀ j, j < 16 → (hI h (313 + 2 + j) 0 = nI (d * 64 + k) ↔ j = i)) : RR n (cLB h d qa qb (k + 1)) (if i < 16 then sR (sI (sI (sI b 362 (d * 64 + k) (hI h qa k)) 363 (d * 64 + k) (hI h qb k)) 370 (d * 64 + k) (-1)) 368 i 0 else sI (sI (sI b 362 (d * 64 + k) (hI h qa k)) 363 (d * 64 + k) (hI h qb k)) 370 (d * 64 + k) (-1)) := by
  rw [cLB_step hd hk q1 q2 hv hu]
  have R1 := RR_forget (s := d * 64 + k) R (by omega)
  have hl : ∀ j, j < 16 → (hI (cForget (cLB h d qa qb k) 331 (d * 64 + k)) (313 + 2 + j) 0 = nI (d * 64 + k) ↔ j = i) := fun j hj => by
    rw [fgt_oth (by omega) (by omega)]
    exact (cLB_fr hd hk hj).trans (hu j hj)
  have hz := fgt_has (h := cLB h d qa qb k) (s := d * 64 + k)
  rw [sI_comm (b := 370) (fun z => absurd z.1 (by decide)), sI_comm (a := 362) (b := 370) (fun z => absurd z.1 (by decide))]
  generalize cForget (cLB h d qa qb k) 331 (d * 64 + k) = A at R1 hl hz ⊢
  by_cases c : i < 16
  · rw [if_pos c, if_pos c]
    have ei := (hl i c).mpr rfl
    have R2 := RR_drop R1 c (fun _ _ => by
      have : spN A i = d * 64 + k := by unfold spN; rw [ei]; exact nI_clamp (by omega)
      rw [this]
      exact hz)
    exact RR_val (u := hI h qa k) (w := hI h qb k) R2 hd hk rfl (fun j hj z => by
      by_cases e : j = i
      · rw [e, hI_drop0.1] at z
        exact absurd z.symm (nI_n1 (by omega))
      · rw [hI_drop (by omega)] at z
        exact e ((hl j hj).mp z))
  · rw [if_neg c, if_neg c]
    exact RR_val (u := hI h qa k) (w := hI h qb k) R1 hd hk rfl (fun j hj z => c (by rw [← (hl j hj).mp z]; exact hj))
