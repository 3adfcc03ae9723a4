/-! THE TRACE: misses, whole -/
theorem hI_dropS {h : CH} {pa a k : Nat} {x y : Int32} : ∀ n, ¬ (pa + 2 ≤ a ∧ a < pa + 2 + n) → hI (cDropS h pa x y n) a k = hI h a k
  | 0, _ => rfl
  | n + 1, ha => by
    unfold cDropS
    split
    · rw [hI_drop (by omega), hI_dropS n (by omega)]
    · exact hI_dropS n (by omega)
theorem hI_laB {ta a k : Nat} (h2 : ¬ a = ta + 2) (h3 : ¬ a = ta + 3) : ∀ (n : Nat) (g : CH), hI (laB ta n g) a k = hI g a k
  | 0, g => rfl
  | n + 1, g => by
    unfold laB
    rw [hI_laB h2 h3 n]
    unfold laStep
    rw [hI_ne h3, hI_ne h2]
theorem TraL_laB {ta : Nat} : ∀ (n : Nat) (g : CH), TraL g ta → TraL (laB ta n g) ta
  | 0, _, H => H
  | n + 1, g, H => TraL_laB n _ H
theorem TraL_dropS {h : CH} {ta pa : Nat} {x y : Int32} (H : TraL h ta) : ∀ n, TraL (cDropS h pa x y n) ta
  | 0 => H
  | n + 1 => by
    have z := TraL_dropS (pa := pa) (x := x) (y := y) H n
    unfold cDropS
    split <;> exact z
def cMs0 (h : CH) (ta len f : Nat) (pol : Int32) : CH := if pol = 98 then laB ta len (laA (cAnew h (ta + 5) (nI f)) ta 128) else cAnew h (ta + 5) (nI f)
theorem hI_anew {h : CH} {pa a k : Nat} {f : Int32} (h1 : ¬ a = pa) (h2 : ¬ (pa + 2 ≤ a ∧ a < pa + 18)) : hI (cAnew h pa f) a k = hI h a k := by
  unfold cAnew
  rw [hI_ne h1, hI_ne h1, hI_ne h1, hI_dropS 16 h2]
theorem TraL_anew {h : CH} {ta : Nat} {f : Int32} (ht : TraL h ta) : TraL (cAnew h (ta + 5) f) ta := by
  unfold cAnew
  have z := TraL_dropS (pa := ta + 5) (x := 0) (y := 128) ht 16
  generalize cDropS h (ta + 5) 0 128 16 = g at z ⊢
  exact z
theorem misses_ok {h : CH} {ta len f : Nat} {pol : Int32} {Q : QT} (ht : TraL h ta) (hn : hI h ta 1 = nI len) (h100 : len ≤ 100) (hp : ∀ i, i < len → hI h (ta + 1) i = nI (hI h (ta + 1) i).toNatClampNeg ∧ (hI h (ta + 1) i).toNatClampNeg < 128) (h1 : 1 ≤ f) (h16 : f ≤ 16) (k : Q (.inl [.int (cMs ta f pol len 0 0 (cMs0 h ta len f pol)).2]) (cMs ta f pol len 0 0 (cMs0 h ta len f pol)).1) : wX7_misses [.ref ta, .int pol, .int (nI f)] h Q := by
  refine wgo (fun X hX => ?_) (by show 3 ≤ 6; decide)
  obtain ⟨t0, t1, t2, t3, t4, t5, t6, t7, t8, t9, p0⟩ := id ht
  have p1 := p0.1
  have hA : TraL (cAnew h (ta + 5) (nI f)) ta := TraL_anew ht
  have a0 : ∀ i, hI (cAnew h (ta + 5) (nI f)) (ta + 1) i = hI h (ta + 1) i := fun i => hI_anew (by omega) (by omega)
  have a1 : hI (cAnew h (ta + 5) (nI f)) ta 1 = nI len := by rw [hI_anew (by omega) (by omega)]; exact hn
  have a2 : hI (cAnew h (ta + 5) (nI f)) (ta + 5) 1 = nI f := by unfold cAnew; rw [hI_eq]
  have a3 : hI (cAnew h (ta + 5) (nI f)) (ta + 5) 2 = nI 0 := by unfold cAnew; rw [hI_nk (by omega), hI_nk (by omega), hI_eq]; rfl
  unfold cMs0 at k
  (refine go mX7_misses hX [23] 400 ?_; conv => whnf)
  repeat (first | (refine rs ?_; conv => whnf) | unfold k_call | ((with_reducible refine And.intro ?_ ?_); (first | (first | assumption | rfl | exact True.intro | exact Nat.le_of_ble_eq_true rfl | exact Or.inl rfl | exact Or.inr rfl | exact okv3 (by assumption) | decide | (focus (simp (disch := omega) only [t0, t1, t2, t3, t4, t5, t6, t7, t8, t9, p1, nI_clamp, vp_in_nI, hT_sI, hR_sI, hT_sJ, hR_sJ, hT_sR, hI_sJ, hI_sR, hJ_sI, hJ_sR, hI_eq, hI_ne, hI_nk]; done)) | (focus (simp (disch := omega) only [t0, t1, t2, t3, t4, t5, t6, t7, t8, t9, p1, nI_clamp, vp_in_nI, hT_sI, hR_sI, hT_sJ, hR_sJ, hT_sR, hI_sJ, hI_sR, hJ_sI, hJ_sR, hI_eq, hI_ne, hI_nk]; first | assumption | exact okv3 (by assumption)))) | (focus (refine ⟨_, rfl, ?_⟩; (first | assumption | rfl | exact True.intro | exact Nat.le_of_ble_eq_true rfl | exact Or.inl rfl | exact Or.inr rfl | exact okv3 (by assumption) | decide | (focus (simp (disch := omega) only [t0, t1, t2, t3, t4, t5, t6, t7, t8, t9, p1, nI_clamp, vp_in_nI, hT_sI, hR_sI, hT_sJ, hR_sJ, hT_sR, hI_sJ, hI_sR, hJ_sI, hJ_sR, hI_eq, hI_ne, hI_nk]; done)) | (focus (simp (disch := omega) only [t0, t1, t2, t3, t4, t5, t6, t7, t8, t9, p1, nI_clamp, vp_in_nI, hT_sI, hR_sI, hT_sJ, hR_sJ, hT_sR, hI_sJ, hI_sR, hJ_sI, hJ_sR, hI_eq, hI_ne, hI_nk]; first | assumption | exact okv3 (by assumption)))))))))
  (try simp (disch := omega) only [t0, t1, t2, t3, t4, t5, t6, t7, t8, t9, p1, nI_clamp, vp_in_nI, hT_sI, hR_sI, hT_sJ, hR_sJ, hT_sR, hI_sJ, hI_sR, hJ_sI, hJ_sR, hI_eq, hI_ne, hI_nk])
  refine startAnew_ok p0 ?_
  generalize cAnew h (ta + 5) (nI f) = g at k hA a0 a1 a2 a3 ⊢
  have mi : ∀ g2 : CH, TraL g2 ta → hI g2 ta 1 = nI len → hI g2 (ta + 5) 1 = nI f → hI g2 (ta + 5) 2 = nI 0 → MsI g2 ta f len := fun g2 x1 x2 x3 x4 => by
    have e : hdP g2 (ta + 5) = 0 := by unfold hdP; rw [x4]; rfl
    unfold MsI
    rw [e]
    exact ⟨x1, x3, x4, by omega, x2⟩
  clear t0 t1 t2 t3 t4 t5 t6 t7 t8 t9 p1
  obtain ⟨t0, t1, t2, t3, t4, t5, t6, t7, t8, t9, p0⟩ := id hA
  have p1 := p0.1
  repeat (first | (refine rs ?_; conv => whnf) | unfold k_call | ((with_reducible refine And.intro ?_ ?_); (first | (first | assumption | rfl | exact True.intro | exact Nat.le_of_ble_eq_true rfl | exact Or.inl rfl | exact Or.inr rfl | exact okv3 (by assumption) | decide | (focus (simp (disch := omega) only [t0, t1, t2, t3, t4, t5, t6, t7, t8, t9, p1, nI_clamp, vp_in_nI, hT_sI, hR_sI, hT_sJ, hR_sJ, hT_sR, hI_sJ, hI_sR, hJ_sI, hJ_sR, hI_eq, hI_ne, hI_nk]; done)) | (focus (simp (disch := omega) only [t0, t1, t2, t3, t4, t5, t6, t7, t8, t9, p1, nI_clamp, vp_in_nI, hT_sI, hR_sI, hT_sJ, hR_sJ, hT_sR, hI_sJ, hI_sR, hJ_sI, hJ_sR, hI_eq, hI_ne, hI_nk]; first | assumption | exact okv3 (by assumption)))) | (focus (refine ⟨_, rfl, ?_⟩; (first | assumption | rfl | exact True.intro | exact Nat.le_of_ble_eq_true rfl | exact Or.inl rfl | exact Or.inr rfl | exact okv3 (by assumption) | decide | (focus (simp (disch := omega) only [t0, t1, t2, t3, t4, t5, t6, t7, t8, t9, p1, nI_clamp, vp_in_nI, hT_sI, hR_sI, hT_sJ, hR_sJ, hT_sR, hI_sJ, hI_sR, hJ_sI, hJ_sR, hI_eq, hI_ne, hI_nk]; done)) | (focus (simp (disch := omega) only [t0, t1, t2, t3, t4, t5, t6, t7, t8, t9, p1, nI_clamp, vp_in_nI, hT_sI, hR_sI, hT_sJ, hR_sJ, hT_sR, hI_sJ, hI_sR, hJ_sI, hJ_sR, hI_eq, hI_ne, hI_nk]; first | assumption | exact okv3 (by assumption)))))))))
  (refine ⟨fun c => ?_, fun c => ?_⟩ <;> (try dsimp only at c))
  · rw [if_pos c] at k
    repeat (first | (refine rs ?_; conv => whnf) | unfold k_call | ((with_reducible refine And.intro ?_ ?_); (first | (first | assumption | rfl | exact True.intro | exact Nat.le_of_ble_eq_true rfl | exact Or.inl rfl | exact Or.inr rfl | exact okv3 (by assumption) | decide | (focus (simp (disch := omega) only [t0, t1, t2, t3, t4, t5, t6, t7, t8, t9, p1, nI_clamp, vp_in_nI, hT_sI, hR_sI, hT_sJ, hR_sJ, hT_sR, hI_sJ, hI_sR, hJ_sI, hJ_sR, hI_eq, hI_ne, hI_nk]; done)) | (focus (simp (disch := omega) only [t0, t1, t2, t3, t4, t5, t6, t7, t8, t9, p1, nI_clamp, vp_in_nI, hT_sI, hR_sI, hT_sJ, hR_sJ, hT_sR, hI_sJ, hI_sR, hJ_sI, hJ_sR, hI_eq, hI_ne, hI_nk]; first | assumption | exact okv3 (by assumption)))) | (focus (refine ⟨_, rfl, ?_⟩; (first | assumption | rfl | exact True.intro | exact Nat.le_of_ble_eq_true rfl | exact Or.inl rfl | exact Or.inr rfl | exact okv3 (by assumption) | decide | (focus (simp (disch := omega) only [t0, t1, t2, t3, t4, t5, t6, t7, t8, t9, p1, nI_clamp, vp_in_nI, hT_sI, hR_sI, hT_sJ, hR_sJ, hT_sR, hI_sJ, hI_sR, hJ_sI, hJ_sR, hI_eq, hI_ne, hI_nk]; done)) | (focus (simp (disch := omega) only [t0, t1, t2, t3, t4, t5, t6, t7, t8, t9, p1, nI_clamp, vp_in_nI, hT_sI, hR_sI, hT_sJ, hR_sJ, hT_sR, hI_sJ, hI_sR, hJ_sI, hJ_sR, hI_eq, hI_ne, hI_nk]; first | assumption | exact okv3 (by assumption)))))))))
    refine lookAhead_ok hA a1 h100 (fun i hi => by rw [a0 i]; exact hp i hi) ?_
    repeat (first | (refine rs ?_; conv => whnf) | unfold k_call | ((with_reducible refine And.intro ?_ ?_); (first | (first | assumption | rfl | exact True.intro | exact Nat.le_of_ble_eq_true rfl | exact Or.inl rfl | exact Or.inr rfl | exact okv3 (by assumption) | decide | (focus (simp (disch := omega) only [t0, t1, t2, t3, t4, t5, t6, t7, t8, t9, p1, nI_clamp, vp_in_nI, hT_sI, hR_sI, hT_sJ, hR_sJ, hT_sR, hI_sJ, hI_sR, hJ_sI, hJ_sR, hI_eq, hI_ne, hI_nk]; done)) | (focus (simp (disch := omega) only [t0, t1, t2, t3, t4, t5, t6, t7, t8, t9, p1, nI_clamp, vp_in_nI, hT_sI, hR_sI, hT_sJ, hR_sJ, hT_sR, hI_sJ, hI_sR, hJ_sI, hJ_sR, hI_eq, hI_ne, hI_nk]; first | assumption | exact okv3 (by assumption)))) | (focus (refine ⟨_, rfl, ?_⟩; (first | assumption | rfl | exact True.intro | exact Nat.le_of_ble_eq_true rfl | exact Or.inl rfl | exact Or.inr rfl | exact okv3 (by assumption) | decide | (focus (simp (disch := omega) only [t0, t1, t2, t3, t4, t5, t6, t7, t8, t9, p1, nI_clamp, vp_in_nI, hT_sI, hR_sI, hT_sJ, hR_sJ, hT_sR, hI_sJ, hI_sR, hJ_sI, hJ_sR, hI_eq, hI_ne, hI_nk]; done)) | (focus (simp (disch := omega) only [t0, t1, t2, t3, t4, t5, t6, t7, t8, t9, p1, nI_clamp, vp_in_nI, hT_sI, hR_sI, hT_sJ, hR_sJ, hT_sR, hI_sJ, hI_sR, hJ_sI, hJ_sR, hI_eq, hI_ne, hI_nk]; first | assumption | exact okv3 (by assumption)))))))))
    exact ms_loop hX h1 h16 h100 len 0 0 _ _ (mi _ (TraL_laB _ _ (TraL_laA hA _)) (by rw [hI_laB (by omega) (by omega), hI_laA (by omega)]; exact a1) (by rw [hI_laB (by omega) (by omega), hI_laA (by omega)]; exact a2) (by rw [hI_laB (by omega) (by omega), hI_laA (by omega)]; exact a3)) (by omega) k
  · rw [if_neg c] at k
    repeat (first | (refine rs ?_; conv => whnf) | unfold k_call | ((with_reducible refine And.intro ?_ ?_); (first | (first | assumption | rfl | exact True.intro | exact Nat.le_of_ble_eq_true rfl | exact Or.inl rfl | exact Or.inr rfl | exact okv3 (by assumption) | decide | (focus (simp (disch := omega) only [t0, t1, t2, t3, t4, t5, t6, t7, t8, t9, p1, nI_clamp, vp_in_nI, hT_sI, hR_sI, hT_sJ, hR_sJ, hT_sR, hI_sJ, hI_sR, hJ_sI, hJ_sR, hI_eq, hI_ne, hI_nk]; done)) | (focus (simp (disch := omega) only [t0, t1, t2, t3, t4, t5, t6, t7, t8, t9, p1, nI_clamp, vp_in_nI, hT_sI, hR_sI, hT_sJ, hR_sJ, hT_sR, hI_sJ, hI_sR, hJ_sI, hJ_sR, hI_eq, hI_ne, hI_nk]; first | assumption | exact okv3 (by assumption)))) | (focus (refine ⟨_, rfl, ?_⟩; (first | assumption | rfl | exact True.intro | exact Nat.le_of_ble_eq_true rfl | exact Or.inl rfl | exact Or.inr rfl | exact okv3 (by assumption) | decide | (focus (simp (disch := omega) only [t0, t1, t2, t3, t4, t5, t6, t7, t8, t9, p1, nI_clamp, vp_in_nI, hT_sI, hR_sI, hT_sJ, hR_sJ, hT_sR, hI_sJ, hI_sR, hJ_sI, hJ_sR, hI_eq, hI_ne, hI_nk]; done)) | (focus (simp (disch := omega) only [t0, t1, t2, t3, t4, t5, t6, t7, t8, t9, p1, nI_clamp, vp_in_nI, hT_sI, hR_sI, hT_sJ, hR_sJ, hT_sR, hI_sJ, hI_sR, hJ_sI, hJ_sR, hI_eq, hI_ne, hI_nk]; first | assumption | exact okv3 (by assumption)))))))))
    exact ms_loop hX h1 h16 h100 len 0 0 _ _ (mi _ hA a1 a2 a3) (by omega) k
