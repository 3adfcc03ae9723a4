/-! A PAGE BROUGHT, ALSO OVER A CLEAN ONE -/
theorem drop_row {h : CH} {f k : Nat} : hI (cDrop h f) f k = if k = 0 then -1 else if k = 2 ∨ k = 3 ∨ k = 8 ∨ k = 9 then 0 else hI h f k := by
  unfold cDrop
  rw [hI_sI]
  by_cases k9 : k = 9
  · rw [if_pos ⟨rfl, k9⟩, if_neg (by omega), if_pos (by omega)]
  rw [if_neg (fun z => k9 z.2), hI_sI]
  by_cases k8 : k = 8
  · rw [if_pos ⟨rfl, k8⟩, if_neg (by omega), if_pos (by omega)]
  rw [if_neg (fun z => k8 z.2), hI_sI]
  by_cases k3 : k = 3
  · rw [if_pos ⟨rfl, k3⟩, if_neg (by omega), if_pos (by omega)]
  rw [if_neg (fun z => k3 z.2), hI_sI]
  by_cases k2 : k = 2
  · rw [if_pos ⟨rfl, k2⟩, if_neg (by omega), if_pos (by omega)]
  rw [if_neg (fun z => k2 z.2), hI_sI]
  by_cases k0 : k = 0
  · rw [if_pos ⟨rfl, k0⟩, if_pos k0]
  rw [if_neg (fun z => k0 z.2), if_neg k0, if_neg (by omega)]
theorem drop_drop {h : CH} {f : Nat} : cDrop (cDrop h f) f = cDrop h f := by
  refine CH_ext rfl rfl ?_ rfl rfl rfl
  funext x k
  show hI (cDrop (cDrop h f) f) x k = hI (cDrop h f) x k
  by_cases c : x = f
  · rw [c, drop_row]
    by_cases k0 : k = 0
    · rw [if_pos k0, drop_row, if_pos k0]
    · rw [if_neg k0]
      by_cases d : k = 2 ∨ k = 3 ∨ k = 8 ∨ k = 9
      · rw [if_pos d, drop_row, if_neg k0, if_pos d]
      · rw [if_neg d]
  · rw [hI_drop c]
theorem come_drop {a : CH} {i : Nat} {s v : Int32} (hi : i < 16) : cCome (cDrop a (313 + 2 + i)) 313 i s v = cCome a 313 i s v := by
  unfold cCome
  rw [drop_drop, hI_drop (show ¬ 313 = 313 + 2 + i by omega)]
theorem mComes_nul {b : CH} {i s : Nat} (h3 : 373 ≤ hN b) : mComes (sR b 368 i 0) i s = mComes b i s := by
  have r1 := (mComes_rd (b := sR b 368 i 0) (i := i) (s := s) h3).2.2.1
  have r2 := (mComes_rd (b := b) (i := i) (s := s) h3).2.2.1
  refine CH_ext rfl rfl rfl rfl ?_ rfl
  funext x k
  show hR (mComes (sR b 368 i 0) i s) x k = hR (mComes b i s) x k
  rw [r1, r2, hN_sR]
  by_cases c : x = 368 ∧ k = i
  · rw [if_pos c, if_pos c]
  · rw [if_neg c, if_neg c, hR_sR, if_neg c]
theorem RR_come2 {n i s : Nat} {a b : CH} {v : Int32} (R : RR n a b) (hn : n + 1 < 5000) (hi : i < nN a) (hf : hI a (313 + 2 + i) 3 = 0) (hs : s < 128) (hno : ∀ j, j < 16 → ¬ hI a (313 + 2 + j) 0 = nI s) (hp : hI a 300 14 = 1) (hv : v = cSum a s) : RR (n + 1) (cCome a 313 i (nI s) v) (sI (mComes b i s) (hN b) 1 v) := by
  have h16 := R.ln.1
  have m23 := R.ml.2.2.2.2.2.2.2.2.2.2.2.2.2.2.2.2.2.2.2.2.2.2.2
  have R1 := RR_drop R (show i < 16 by omega) (fun _ z => cl_log R (by omega) z hf)
  have e : ∀ x k, ¬ x = 313 + 2 + i → hI (cDrop a (313 + 2 + i)) x k = hI a x k := fun x k q => hI_drop q
  have en : nN (cDrop a (313 + 2 + i)) = nN a := by unfold nN; rw [e _ _ (by omega)]
  have R2 := RR_come (i := i) (s := s) (v := v) R1 hn (by rw [en]; exact hi) hI_drop0.1 hs (fun j hj => ?_) (by rw [e _ _ (by omega)]; exact hp) (by rw [hv]; unfold cSum; rw [e _ _ (by omega)])
  · rw [come_drop (by omega), mComes_nul m23] at R2
    exact R2
  · by_cases c : j = i
    · rw [c, hI_drop0.1]
      exact fun z => nI_n1 hs z.symm
    · rw [e _ _ (by omega)]
      exact hno j hj
def mBring (b : CH) (t i s : Nat) : CH := sI (mComes (mCosts b t s) i s) (hN b) 1 (hI b 362 s)
theorem RR_bring {n i s : Nat} {a b : CH} (R : RR n a b) (hn : n + 1 < 5000) (hi : i < nN a) (hf : hI a (313 + 2 + i) 3 = 0) (hs : s < 128) (hno : ∀ j, j < 16 → ¬ hI a (313 + 2 + j) 0 = nI s) (hp : hI a 300 14 = 1) (hv : cVal a s = cSum a s) : RR (n + 1) (cBring a i s) (mBring b (tN a) i s) := by
  have h16 := R.ln.1
  have R1 := RR_costs R hs
  have e : ∀ x k, (x < 302 ∨ 310 ≤ x) → hI (cRdP a (tN a) s) x k = hI a x k := fun x k q => hI_rdP (by omega)
  have en : nN (cRdP a (tN a) s) = nN a := by unfold nN; rw [e _ _ (by omega)]
  have eS : cSum (cRdP a (tN a) s) s = cSum a s := by
    unfold cSum
    rw [hI_rdP (by omega)]
  have R2 := RR_come2 (i := i) (s := s) (v := cVal a s) R1 hn (by rw [en]; exact hi) (by rw [e _ _ (by omega)]; exact hf) hs (fun j hj => by rw [e _ _ (by omega)]; exact hno j hj) (by rw [e _ _ (by omega)]; exact hp) (by rw [eS]; exact hv)
  unfold cBring mBring
  rw [mCosts_rt.2.2] at R2
  rw [(R.vl.1 s hs).1]
  exact R2
/-! READING AHEAD -/
def mBrA (b : CH) (t i s : Nat) : CH := sI (sI (mBring b t i s) (hN b) 7 1) 361 26 (hI (mBring b t i s) 361 26 + 1)
theorem bring_pg {n i s t : Nat} {a b : CH} (R : RR n a b) (m23 : 373 ≤ hN b) : hR (mBring b t i s) 368 i = hN b ∧ (∀ j, ¬ j = i → hR (mBring b t i s) 368 j = hR b 368 j) ∧ hT (mBring b t i s) (hN b) = (15, 0) ∧ hN (mBring b t i s) = hN b + 1 := by
  have r := mComes_rd (b := mCosts b t s) (i := i) (s := s) (by rw [mCosts_rt.2.2]; exact m23)
  rw [mCosts_rt.1, mCosts_rt.2.1, mCosts_rt.2.2] at r
  unfold mBring
  refine ⟨?_, fun j hj => ?_, ?_, ?_⟩
  · show hR (mComes (mCosts b t s) i s) 368 i = _
    rw [r.2.2.1, if_pos ⟨rfl, rfl⟩]
  · show hR (mComes (mCosts b t s) i s) 368 j = _
    rw [r.2.2.1, if_neg (fun z => hj z.2), if_neg (by omega)]
  · show hT (mComes (mCosts b t s) i s) (hN b) = _
    rw [r.2.1, if_pos rfl]
  · exact r.1
theorem bring_row {a : CH} {i s k : Nat} (hi : i < 16) (hs : s < 128) (j : Nat) (hj : j < 16) : hI (cBring a i s) (313 + 2 + j) 0 = if j = i then nI s else hI a (313 + 2 + j) 0 := by
  unfold cBring
  by_cases c : j = i
  · rw [if_pos c, c, come_row hi, if_pos rfl]
  · rw [if_neg c, hI_come (by omega) (by omega), hI_rdP (by omega)]
theorem RR_brA {n i s : Nat} {a b : CH} (R : RR n a b) (hn : n + 1 < 5000) (hi : i < nN a) (hf : hI a (313 + 2 + i) 3 = 0) (hs : s < 128) (hno : ∀ j, j < 16 → ¬ hI a (313 + 2 + j) 0 = nI s) (hp : hI a 300 14 = 1) (hv : cVal a s = cSum a s) : RR (n + 1) (cBrA1 a i s) (mBrA b (tN a) i s) := by
  have h16 := R.ln.1
  have m23 := R.ml.2.2.2.2.2.2.2.2.2.2.2.2.2.2.2.2.2.2.2.2.2.2.2
  have R1 := RR_bring R hn hi hf hs hno hp hv
  obtain ⟨g1, g2, g3, g4⟩ := bring_pg (i := i) (s := s) (t := tN a) R m23
  have R2 := RR_cell (i := i) (fk := 8) (ik := 7) (v := 1) R1 (by omega) (by rw [g1]; omega) (by omega)
  have e26 : hI (mBring b (tN a) i s) 361 26 = hI (cBring a i s) 358 3 := R1.sc 26 358 3 (by decide)
  rw [g1] at R2
  unfold cBrA1 mBrA
  rw [e26]
  exact RR_cnt R2 (by decide)
