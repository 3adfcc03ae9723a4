/-! WHAT THE MADE HOUSE HOLDS -/
theorem I_o {h : CH} {t : Nat × Nat} {b k : Nat} (q : b < hN h) : hI (nw h t) b k = hI h b k := by rw [hI_nw, if_neg (Nat.ne_of_lt q)]
theorem I_n {h : CH} {t : Nat × Nat} {k : Nat} : hI (nw h t) (hN h) k = 0 := by rw [hI_nw, if_pos rfl]
theorem DevL_sm {g h : CH} {lo hi a : Nat} (S : Same g h lo hi) (h1 : lo ≤ a) (h2 : a + 4 ≤ hi) (H : DevL h a) : DevL g a := by
  unfold DevL at H ⊢
  rw [(S a h1 (by omega)).1, (S a h1 (by omega)).2.2.2, (S (a + 1) (by omega) (by omega)).1, (S (a + 2) (by omega) (by omega)).1, (S (a + 3) (by omega) (by omega)).1]
  exact H
theorem FilL_sm {g h : CH} {lo hi a : Nat} (S : Same g h lo hi) (h1 : lo ≤ a) (h2 : a + 3 ≤ hi) (H : FilL h a) : FilL g a := by
  unfold FilL at H ⊢
  rw [(S a h1 (by omega)).1, (S a h1 (by omega)).2.2.2, (S (a + 1) (by omega) (by omega)).1, (S (a + 2) (by omega) (by omega)).1]
  exact H
theorem LogL_sm {g h : CH} {lo hi a : Nat} (S : Same g h lo hi) (h1 : lo ≤ a) (h2 : a + 3 ≤ hi) (H : LogL h a) : LogL g a := by
  unfold LogL at H ⊢
  rw [(S a h1 (by omega)).1, (S a h1 (by omega)).2.2.2, (S (a + 1) (by omega) (by omega)).1, (S (a + 2) (by omega) (by omega)).1]
  exact H
theorem PoolL_sm {g h : CH} {lo hi a : Nat} (S : Same g h lo hi) (h1 : lo ≤ a) (h2 : a + 18 ≤ hi) (H : PoolL h a) : PoolL g a := by
  obtain ⟨p1, p2, p3, p4, p5⟩ := H
  refine ⟨?_, ?_, ?_, fun i hi9 => ?_, fun i hi9 => ?_⟩
  · rw [(S a h1 (by omega)).1]; exact p1
  · rw [(S a h1 (by omega)).2.2.2]; exact p2
  · rw [(S (a + 1) (by omega) (by omega)).1]; exact p3
  · rw [(S (a + 1) (by omega) (by omega)).2.2.2]; exact p4 i hi9
  · rw [(S (a + 2 + i) (by omega) (by omega)).1]; exact p5 i hi9
theorem TraL_sm {g h : CH} {lo hi a : Nat} (S : Same g h lo hi) (h1 : lo ≤ a) (h2 : a + 23 ≤ hi) (H : TraL h a) : TraL g a := by
  obtain ⟨t0, t1, t2, t3, t4, t5, t6, t7, t8, t9, p0⟩ := H
  refine ⟨?_, ?_, ?_, ?_, ?_, ?_, ?_, ?_, ?_, ?_, PoolL_sm S (by omega) (by omega) p0⟩
  · rw [(S a h1 (by omega)).1]; exact t0
  · rw [(S a h1 (by omega)).2.2.2]; exact t1
  · rw [(S a h1 (by omega)).2.2.2]; exact t2
  · rw [(S a h1 (by omega)).2.2.2]; exact t3
  · rw [(S a h1 (by omega)).2.2.2]; exact t4
  · rw [(S a h1 (by omega)).2.2.2]; exact t5
  · rw [(S (a + 1) (by omega) (by omega)).1]; exact t6
  · rw [(S (a + 2) (by omega) (by omega)).1]; exact t7
  · rw [(S (a + 3) (by omega) (by omega)).1]; exact t8
  · rw [(S (a + 4) (by omega) (by omega)).1]; exact t9
theorem mkDev_L {h : CH} {a : Nat} {b : Int32} (hn : hN h = a + 1) (t0 : (hT h a).1 = 5) : DevL (mkDev h a b) a := by
  unfold DevL mkDev
  have e2 : ¬ a = a + 1 + 1 := by omega
  have e3 : ¬ a = a + 1 + 1 + 1 := by omega
  have e4 : ¬ a = a + 1 + 1 + 1 + 1 := by omega
  simp [e2, e3, e4, hT_sI, hT_sR, hT_nw, hR_sI, hR_sR, hR_nw, hN_sR, hN_nw, hn, t0]
theorem mkDev_I {h : CH} {a : Nat} {b : Int32} (hn : hN h = a + 1) (hz : ∀ k, hI h a k = 0) : ∀ x k, a ≤ x → x < a + 4 → hI (mkDev h a b) x k = if x = a ∧ k = 0 then b else 0 := fun x k h1 h2 => by
  unfold mkDev
  rw [hI_sI]
  split
  · rfl
  · rw [hI_sR, hI_nw, hI_sR, hI_nw, hI_sR, hI_nw, hN_sR, hN_nw, hN_sR, hN_nw, hn]
    split
    · rfl
    · split
      · rfl
      · split
        · rfl
        · have e : x = a := by omega
          rw [e]
          exact hz k
theorem mkFil_L {h : CH} {a : Nat} (hn : hN h = a + 1) (t0 : (hT h a).1 = 6) : FilL (mkFil h a) a := by
  unfold FilL mkFil
  have e2 : ¬ a = a + 1 + 1 := by omega
  have e3 : ¬ a = a + 1 + 1 + 1 := by omega
  have e4 : ¬ a = a + 1 + 1 + 1 + 1 := by omega
  simp [e2, e3, e4, hT_sI, hT_sR, hT_nw, hR_sI, hR_sR, hR_nw, hN_sR, hN_nw, hn, t0]
theorem mkFil_I {h : CH} {a : Nat} (hn : hN h = a + 1) (hz : ∀ k, hI h a k = 0) : ∀ x k, a ≤ x → x < a + 3 → hI (mkFil h a) x k = 0 := fun x k h1 h2 => by
  unfold mkFil
  rw [hI_sR, hI_nw, hI_sR, hI_nw, hN_sR, hN_nw, hn]
  split
  · rfl
  · split
    · rfl
    · have e : x = a := by omega
      rw [e]
      exact hz k
theorem mkLog_L {h : CH} {a : Nat} (hn : hN h = a + 1) (t0 : (hT h a).1 = 9) : LogL (mkLog h a) a := by
  unfold LogL mkLog
  have e2 : ¬ a = a + 1 + 1 := by omega
  have e3 : ¬ a = a + 1 + 1 + 1 := by omega
  have e4 : ¬ a = a + 1 + 1 + 1 + 1 := by omega
  simp [e2, e3, e4, hT_sI, hT_sR, hT_nw, hR_sI, hR_sR, hR_nw, hN_sR, hN_nw, hn, t0]
theorem mkLog_I {h : CH} {a : Nat} (hn : hN h = a + 1) (hz : ∀ k, hI h a k = 0) : ∀ x k, a ≤ x → x < a + 3 → hI (mkLog h a) x k = 0 := fun x k h1 h2 => by
  unfold mkLog
  rw [hI_sR, hI_nw, hI_sR, hI_nw, hN_sR, hN_nw, hn]
  split
  · rfl
  · split
    · rfl
    · have e : x = a := by omega
      rw [e]
      exact hz k
theorem mkPool_L {h : CH} {a : Nat} {v : Int32} (hn : hN h = a + 1) (t0 : (hT h a).1 = 10) : PoolL (mkPool h a v) a := by
  have hr : hN h < hN (sR (nw h (105, 16)) a 0 (hN h)) := Nat.lt_succ_self _
  obtain ⟨m1, m2, m3⟩ := mkFrs_sm (r := hN h) (h := sR (nw h (105, 16)) a 0 (hN h)) hr 16
  have n1 : hN (sR (nw h (105, 16)) a 0 (hN h)) = a + 2 := by rw [hN_sR, hN_nw, hn]
  rw [n1] at m1 m2 m3
  unfold PoolL mkPool
  refine ⟨?_, ?_, ?_, fun i hi => ?_, fun i hi => ?_⟩
  · rw [hT_sI, (m1 a (by omega)).1, hT_sR, T_o (by omega)]; exact t0
  · rw [hR_sI, (m1 a (by omega)).2.2.2 (by omega), R_s, hn]
  · rw [hT_sI, (m1 (a + 1) (by omega)).1, hT_sR, T_n hn.symm]
  · rw [hR_sI, ← hn]; exact (m2 i hi).trans (by omega)
  · rw [hT_sI, (m3 i hi).1]
theorem mkPool_I {h : CH} {a : Nat} {v : Int32} (hn : hN h = a + 1) (hz : ∀ k, hI h a k = 0) : ∀ x k, a ≤ x → x < a + 18 → hI (mkPool h a v) x k = if x = a ∧ k = 1 then v else if a + 2 ≤ x ∧ k = 0 then -1 else 0 := fun x k h1 h2 => by
  have hr : hN h < hN (sR (nw h (105, 16)) a 0 (hN h)) := Nat.lt_succ_self _
  obtain ⟨m1, m2, m3⟩ := mkFrs_sm (r := hN h) (h := sR (nw h (105, 16)) a 0 (hN h)) hr 16
  have n1 : hN (sR (nw h (105, 16)) a 0 (hN h)) = a + 2 := by rw [hN_sR, hN_nw, hn]
  rw [n1] at m1 m2 m3
  unfold mkPool
  rw [hI_sI]
  split
  · rfl
  · by_cases c : a + 2 ≤ x
    · have e : a + 2 + (x - (a + 2)) = x := by omega
      have z := (m3 (x - (a + 2)) (by omega)).2 k
      rw [e] at z
      rw [z]
      by_cases d : k = 0
      · rw [if_pos d, if_pos ⟨c, d⟩]
      · rw [if_neg d, if_neg (fun q => d q.2)]
    · rw [if_neg (fun q => c q.1), (m1 x (by omega)).2.1, hI_sR]
      by_cases d : x = a
      · rw [d, I_o (by omega)]
        exact hz k
      · have e : x = hN h := by omega
        rw [e, I_n]
theorem mkTra_L {h : CH} {a : Nat} (hn : hN h = a + 1) (t0 : (hT h a).1 = 11) : TraL (mkTra h a) a := by
  have n4 : hN (mkTr4 h a) = a + 5 := by rw [N_tr4, hn]
  have hp : PoolL (mkPool (nw (mkTr4 h a) (10, 0)) (hN (mkTr4 h a)) 16) (hN (mkTr4 h a)) := mkPool_L rfl (congrArg Prod.fst (T_n (h := mkTr4 h a) (t := (10, 0)) rfl))
  have S : Same (mkPool (nw (mkTr4 h a) (10, 0)) (hN (mkTr4 h a)) 16) (mkTr4 h a) 0 (hN (mkTr4 h a)) := (sm_pool (Nat.lt_succ_self _)).trans (sm_nw (Nat.le_refl _))
  have q4 : (hT (mkTr4 h a) a).1 = 11 ∧ hR (mkTr4 h a) a 0 = a + 1 ∧ hR (mkTr4 h a) a 2 = a + 2 ∧ hR (mkTr4 h a) a 3 = a + 3 ∧ hR (mkTr4 h a) a 4 = a + 4 ∧ hT (mkTr4 h a) (a + 1) = (100, 100) ∧ hT (mkTr4 h a) (a + 2) = (100, 100) ∧ hT (mkTr4 h a) (a + 3) = (100, 128) ∧ hT (mkTr4 h a) (a + 4) = (100, 16) := by
    unfold mkTr4
    have e2 : ¬ a = a + 1 + 1 := by omega
    have e3 : ¬ a = a + 1 + 1 + 1 := by omega
    have e4 : ¬ a = a + 1 + 1 + 1 + 1 := by omega
    simp [e2, e3, e4, hT_sI, hT_sR, hT_nw, hR_sI, hR_sR, hR_nw, hN_sR, hN_nw, hn, t0]
  unfold mkTra
  rw [n4] at hp S ⊢
  generalize mkPool (nw (mkTr4 h a) (10, 0)) (a + 5) 16 = g at hp S ⊢
  obtain ⟨q0, q1, q2, q3, q5, q6, q7, q8, q9⟩ := q4
  refine ⟨?_, ?_, ?_, ?_, ?_, ?_, ?_, ?_, ?_, ?_, ?_⟩
  · rw [hT_sR, (S a (by omega) (by omega)).1]; exact q0
  · rw [R_k (by omega), (S a (by omega) (by omega)).2.2.2]; exact q1
  · rw [R_k (by omega), (S a (by omega) (by omega)).2.2.2]; exact q2
  · rw [R_k (by omega), (S a (by omega) (by omega)).2.2.2]; exact q3
  · rw [R_k (by omega), (S a (by omega) (by omega)).2.2.2]; exact q5
  · rw [R_s]
  · rw [hT_sR, (S (a + 1) (by omega) (by omega)).1]; exact q6
  · rw [hT_sR, (S (a + 2) (by omega) (by omega)).1]; exact q7
  · rw [hT_sR, (S (a + 3) (by omega) (by omega)).1]; exact q8
  · rw [hT_sR, (S (a + 4) (by omega) (by omega)).1]; exact q9
  · exact PoolL_sm (lo := a + 5) (hi := a + 23) (sm_sR (by omega)) (Nat.le_refl _) (by omega) hp
theorem mkTr4_I {h : CH} {a : Nat} (hn : hN h = a + 1) (hz : ∀ k, hI h a k = 0) : ∀ x k, a ≤ x → x < a + 5 → hI (mkTr4 h a) x k = 0 := fun x k h1 h2 => by
  unfold mkTr4
  rw [hI_sR, hI_nw, hI_sR, hI_nw, hI_sR, hI_nw, hI_sR, hI_nw, hN_sR, hN_nw, hN_sR, hN_nw, hN_sR, hN_nw, hn]
  split
  · rfl
  · split
    · rfl
    · split
      · rfl
      · split
        · rfl
        · have e : x = a := by omega
          rw [e]
          exact hz k
theorem mkTra_I {h : CH} {a : Nat} (hn : hN h = a + 1) (hz : ∀ k, hI h a k = 0) : ∀ x k, a ≤ x → x < a + 23 → hI (mkTra h a) x k = if x = a + 5 ∧ k = 1 then 16 else if a + 7 ≤ x ∧ k = 0 then -1 else 0 := fun x k h1 h2 => by
  have n4 : hN (mkTr4 h a) = a + 5 := by rw [N_tr4, hn]
  have S : Same (mkPool (nw (mkTr4 h a) (10, 0)) (hN (mkTr4 h a)) 16) (mkTr4 h a) 0 (hN (mkTr4 h a)) := (sm_pool (Nat.lt_succ_self _)).trans (sm_nw (Nat.le_refl _))
  have z4 := mkTr4_I hn hz
  have zp := mkPool_I (h := nw (mkTr4 h a) (10, 0)) (a := hN (mkTr4 h a)) (v := 16) rfl (fun k => I_n)
  unfold mkTra
  rw [hI_sR]
  by_cases c : x < a + 5
  · rw [(S x (Nat.zero_le _) (by omega)).2.1, z4 x k h1 c, if_neg (by omega), if_neg (by omega)]
  · rw [zp x k (by omega) (by omega), n4]
def Stg (f g : CH) (idx sz : Nat) : Prop := Same f g 302 (hN g) ∧ hT f 300 = hT g 300 ∧ hI f 300 = hI g 300 ∧ (∀ j, hR f 300 j = if j = idx then hN g else hR g 300 j) ∧ hT f 301 = hT g 301 ∧ hI f 301 = hI g 301 ∧ hR f 301 = hR g 301 ∧ hN f = hN g + sz
theorem stg_of {g m : CH} {idx sz : Nat} (hn : 302 ≤ hN g) (S : Same m g 0 (hN g)) (N : hN m = hN g + sz) : Stg (sR m 300 idx (hN g)) g idx sz := by
  obtain ⟨a1, a2, a3, a4⟩ := S 300 (Nat.zero_le _) (by omega)
  obtain ⟨b1, b2, b3, b4⟩ := S 301 (Nat.zero_le _) (by omega)
  refine ⟨(sm_sR (by omega)).trans (S.sub (Nat.zero_le _) (Nat.le_refl _)), a1, a2, fun j => ?_, b1, b2, Eq.trans (funext fun j => R_a (by omega)) b4, N⟩
  by_cases c : j = idx
  · rw [if_pos c, c, R_s]
  · rw [if_neg c, R_k c, a4]
theorem stg_fl {g : CH} (hn : 302 ≤ hN g) : Stg (hFl g) g 1 3 := stg_of hn ((sm_fil (Nat.le_of_lt (Nat.lt_succ_self _))).trans (sm_nw (Nat.le_refl _))) rfl
theorem stg_pl {g : CH} (hn : 302 ≤ hN g) : Stg (hPl g) g 2 18 := stg_of hn ((sm_pool (Nat.lt_succ_self _)).trans (sm_nw (Nat.le_refl _))) (by rw [N_pool, hN_nw])
theorem stg_lg {g : CH} (hn : 302 ≤ hN g) : Stg (hLg g) g 3 3 := stg_of hn ((sm_log (Nat.le_of_lt (Nat.lt_succ_self _))).trans (sm_nw (Nat.le_refl _))) rfl
theorem stg_wk {g : CH} (hn : 302 ≤ hN g) : Stg (hWk g) g 4 1 := stg_of hn (sm_nw (Nat.le_refl _)) rfl
theorem stg_tr {g : CH} (hn : 302 ≤ hN g) : Stg (hTr g) g 5 23 := stg_of hn ((sm_tra (Nat.le_of_lt (Nat.lt_succ_self _))).trans (sm_nw (Nat.le_refl _))) (by rw [N_tra, hN_nw])
theorem stg_co {g : CH} (hn : 302 ≤ hN g) : Stg (hCo g) g 6 1 := stg_of hn (sm_nw (Nat.le_refl _)) rfl
theorem stg_im {g : CH} (hn : 302 ≤ hN g) : Stg (hIm g) g 7 1 := stg_of hn (sm_nw (Nat.le_refl _)) rfl
theorem stg_bl {g : CH} (hn : 302 ≤ hN g) : Stg (hBl g) g 9 1 := stg_of hn (sm_nw (Nat.le_refl _)) rfl
theorem stg_dv {g : CH} {i : Nat} {b : Int32} (hn : 302 ≤ hN g) : Same (hDv g i b) g 302 (hN g) ∧ hT (hDv g i b) 300 = hT g 300 ∧ hI (hDv g i b) 300 = hI g 300 ∧ hR (hDv g i b) 300 = hR g 300 ∧ hT (hDv g i b) 301 = hT g 301 ∧ hI (hDv g i b) 301 = hI g 301 ∧ (∀ j, hR (hDv g i b) 301 j = if j = i then hN g else hR g 301 j) ∧ hN (hDv g i b) = hN g + 4 := by
  have S : Same (mkDev (nw g (5, 0)) (hN g) b) g 0 (hN g) := (sm_dev (Nat.le_of_lt (Nat.lt_succ_self _))).trans (sm_nw (Nat.le_refl _))
  obtain ⟨a1, a2, a3, a4⟩ := S 300 (Nat.zero_le _) (by omega)
  obtain ⟨b1, b2, b3, b4⟩ := S 301 (Nat.zero_le _) (by omega)
  refine ⟨(sm_sR (by omega)).trans (S.sub (Nat.zero_le _) (Nat.le_refl _)), a1, a2, Eq.trans (funext fun j => R_a (by omega)) a4, b1, b2, fun j => ?_, rfl⟩
  show hR (sR (mkDev (nw g (5, 0)) (hN g) b) 301 i (hN g)) 301 j = _
  by_cases c : j = i
  · rw [if_pos c, c, R_s]
  · rw [if_neg c, R_k c, b4]
