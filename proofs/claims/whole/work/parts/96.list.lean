/-! A LIST CHANGED: what else is as it was -/
def LFr (b b' : CH) (la : Nat) : Prop := hN b ≤ hN b' ∧ (∀ x, x < hN b → hT b' x = hT b x) ∧ (∀ x k, x < hN b → ¬ x = la → hI b' x k = hI b x k) ∧ (∀ x k, x < hN b → hJ b' x k = hJ b x k) ∧ (∀ x k, x < hN b → ¬ x = la → ¬ x = hR b la 1 → hR b' x k = hR b x k) ∧ (hR b' la 1 = hR b la 1 ∨ hN b ≤ hR b' la 1)
def upF (f : Nat → Nat) (n w : Nat) : Nat → Nat := fun i => if i = n then w else f i
theorem lfr_room {h : CH} {la v n : Nat} (hne : ¬ hR h la 1 = la) : LFr h (cLAdd h la v n) la := by
  refine ⟨Nat.le_refl _, fun _ _ => rfl, fun x k _ q => ?_, fun _ _ _ => rfl, fun x k _ q1 q2 => ?_, Or.inl ?_⟩
  · show hI (sI (sI h la 0 _) la 2 _) x k = _
    rw [hI_ne q, hI_ne q]
  · show hR (sR (sI h la 0 _) (hR h la 1) n v) x k = _
    rw [hR_sR, if_neg (fun z => q2 z.1)]
    rfl
  · show hR (sR (sI h la 0 _) (hR h la 1) n v) la 1 = _
    rw [hR_sR, if_neg (fun z => hne z.1.symm)]
    rfl
theorem lfr_first {h : CH} {la v : Nat} (hl : la < hN h) : LFr h (cLAdd1 h la v) la := by
  have e : ∀ x k, hR (cLAdd1 h la v) x k = if x = hN h ∧ k = 0 then v else if x = la ∧ k = 1 then hN h else if x = hN h then 0 else hR h x k := fun x k => by
    show hR (sR (sR (nw (sI h la 0 _) (108, 10)) la 1 (hN h)) (hN h) 0 v) x k = _
    rw [hR_sR, hR_sR, hR_nw]
    rfl
  refine ⟨Nat.le_succ _, fun x hx => ?_, fun x k hx q => ?_, fun x k hx => ?_, fun x k hx q1 q2 => ?_, Or.inr ?_⟩
  · show hT (nw (sI h la 0 _) (108, 10)) x = _
    rw [hT_nw, hN_sI, if_neg (by omega)]
    rfl
  · show hI (sI (nw (sI h la 0 _) (108, 10)) la 2 _) x k = _
    rw [hI_ne q, hI_nw, hN_sI, if_neg (by omega), hI_ne q]
  · show hJ (nw (sI h la 0 _) (108, 10)) x k = _
    rw [hJ_nw, hN_sI, if_neg (by omega)]
    rfl
  · rw [e, if_neg (by omega), if_neg (fun z => q1 z.1), if_neg (by omega)]
  · rw [e, if_neg (by omega), if_pos ⟨rfl, rfl⟩]
    exact Nat.le_refl _
theorem first_rd {h : CH} {la v : Nat} (hl : la < hN h) : hN (cLAdd1 h la v) = hN h + 1 ∧ hR (cLAdd1 h la v) la 1 = hN h ∧ hT (cLAdd1 h la v) (hN h) = (108, 10) ∧ (∀ k, hR (cLAdd1 h la v) (hN h) k = if k = 0 then v else 0) ∧ hI (cLAdd1 h la v) la 2 = nI 0 + 1 := by
  have e : ∀ x k, hR (cLAdd1 h la v) x k = if x = hN h ∧ k = 0 then v else if x = la ∧ k = 1 then hN h else if x = hN h then 0 else hR h x k := fun x k => by
    show hR (sR (sR (nw (sI h la 0 _) (108, 10)) la 1 (hN h)) (hN h) 0 v) x k = _
    rw [hR_sR, hR_sR, hR_nw]
    rfl
  refine ⟨rfl, by rw [e, if_neg (by omega), if_pos ⟨rfl, rfl⟩], ?_, fun k => ?_, ?_⟩
  · show hT (nw (sI h la 0 _) (108, 10)) (hN h) = _
    rw [hT_nw, hN_sI, if_pos rfl]
  · rw [e]
    by_cases c : k = 0
    · rw [if_pos ⟨rfl, c⟩, if_pos c]
    · rw [if_neg (fun z => c z.2), if_neg c, if_neg (by omega), if_pos rfl]
  · show hI (sI _ la 2 (nI 0 + 1)) la 2 = _
    exact hI_eq _ _ _ _
theorem more_rd {h : CH} {la v n : Nat} (hl : la < hN h) : hN (cLAddG h la v n) = hN h + 1 ∧ hR (cLAddG h la v n) la 1 = hN h ∧ hT (cLAddG h la v n) (hN h) = (108, n + n / 2) ∧ (∀ k, hR (cLAddG h la v n) (hN h) k = if k = n then v else if k < n then hR (nw (sI h la 0 (hI h la 0 + 1)) (108, n + n / 2)) (hR h la 1) k else 0) ∧ hI (cLAddG h la v n) la 2 = nI n + 1 ∧ LFr h (cLAddG h la v n) la := by
  have e : ∀ x k, hR (cLAddG h la v n) x k = if x = hN h ∧ k = n then v else if x = la ∧ k = 1 then hN h else if x = hN h then (if k < n then hR (nw (sI h la 0 (hI h la 0 + 1)) (108, n + n / 2)) (hR h la 1) k else 0) else hR h x k := fun x k => by
    show hR (sR (sR (cpR (nw (sI h la 0 (hI h la 0 + 1)) (108, n + n / 2)) (hR h la 1) (hN h) 0 0 n) la 1 (hN h)) (hN h) n v) x k = _
    rw [hR_sR, hR_sR, hR_cpR]
    by_cases c1 : x = hN h ∧ k = n
    · rw [if_pos c1, if_pos c1]
    rw [if_neg c1, if_neg c1]
    by_cases c2 : x = la ∧ k = 1
    · rw [if_pos c2, if_pos c2]
    rw [if_neg c2, if_neg c2]
    by_cases c3 : x = hN h
    · rw [if_pos c3, if_pos c3]
      unfold va_cpy
      by_cases c4 : k < n
      · rw [if_pos (by omega), if_pos c4, show 0 + (k - 0) = k by omega]
      · rw [if_neg (by omega), if_neg c4, hR_nw, hN_sI, if_pos rfl]
    · rw [if_neg c3, if_neg c3, hR_nw, hN_sI, if_neg c3]
      rfl
  refine ⟨rfl, by rw [e, if_neg (by omega), if_pos ⟨rfl, rfl⟩], ?_, fun k => ?_, ?_, Nat.le_succ _, fun x hx => ?_, fun x k hx q => ?_, fun x k hx => ?_, fun x k hx q1 q2 => ?_, Or.inr ?_⟩
  · show hT (nw (sI h la 0 _) (108, n + n / 2)) (hN h) = _
    rw [hT_nw, hN_sI, if_pos rfl]
  · rw [e]
    by_cases c : k = n
    · rw [if_pos ⟨rfl, c⟩, if_pos c]
    · rw [if_neg (fun z => c z.2), if_neg c, if_neg (by omega), if_pos rfl]
  · show hI (sI _ la 2 (nI n + 1)) la 2 = _
    exact hI_eq _ _ _ _
  · show hT (nw (sI h la 0 _) (108, n + n / 2)) x = _
    rw [hT_nw, hN_sI, if_neg (by omega)]
    rfl
  · show hI (sI (nw (sI h la 0 _) (108, n + n / 2)) la 2 _) x k = _
    rw [hI_ne q, hI_nw, hN_sI, if_neg (by omega), hI_ne q]
  · show hJ (nw (sI h la 0 _) (108, n + n / 2)) x k = _
    rw [hJ_nw, hN_sI, if_neg (by omega)]
    rfl
  · rw [e, if_neg (by omega), if_neg (fun z => q1 z.1), if_neg (by omega)]
  · rw [e, if_neg (by omega), if_pos ⟨rfl, rfl⟩]
    exact Nat.le_refl _
theorem box_add {h : CH} {la n w : Nat} {f : Nat → Nat} {caps : List Nat} {Q : QT} (t0 : (hT h la).1 = 3) (hl : la < hN h) (hl0 : la < 373) (h3 : 373 ≤ hN h) (B : BoxL h la n f caps) (hw : w ≤ 127) (h10 : 10 ∈ caps) (hc : ∀ c, c ∈ caps → c ≤ 128) (hg : ∀ c, c ∈ caps → n = c → 2 ≤ n ∧ n + n / 2 ∈ caps) (k : ∀ b', BoxL b' la (n + 1) (upF f n w) caps → LFr h b' la → Q (.inl [.int 1]) b') : wJx4a65c_add_9ea2d [.ref la, .ref (w + 129)] h Q := by
  obtain ⟨e2, e3, e4⟩ := B
  have up1 : ∀ i, i < n → upF f n w i = f i := fun i hi => if_neg (by omega)
  have up2 : upF f n w n = w := if_pos rfl
  rcases e3 with ⟨n0, e257⟩ | ⟨a1, a2, cap, a3, a4, a5, a6⟩
  · subst n0
    refine ladd_first t0 e2 e257 hl (Or.inl (by omega)) ?_
    obtain ⟨r1, r2, r3, r4, r5⟩ := first_rd (v := w + 129) hl
    refine k _ ⟨r5.trans (nI_1 0), Or.inr ⟨by rw [r2]; exact h3, by rw [r2, r1]; omega, 10, h10, by omega, by rw [r2]; exact r3, fun i hi => ?_⟩, fun i hi => ?_⟩ (lfr_first hl)
    · rw [r2, r4]
      split <;> omega
    · rw [r2, r4, if_pos (by omega), show i = 0 by omega, up2]
  · have hne : ¬ hR h la 1 = la := by omega
    by_cases c : n = cap
    · subst c
      obtain ⟨g1, g2⟩ := hg n a3 rfl
      have g3 := hc _ g2
      refine ladd_more t0 e2 rfl a5 (by omega) g1 g3 a6 hl a2 (by omega) ?_
      obtain ⟨r1, r2, r3, r4, r5, r6⟩ := more_rd (v := w + 129) (n := n) hl
      have old : ∀ i, hR (nw (sI h la 0 (hI h la 0 + 1)) (108, n + n / 2)) (hR h la 1) i = hR h (hR h la 1) i := fun i => by
        rw [hR_nw, hN_sI, if_neg (by omega)]
        rfl
      refine k _ ⟨r5.trans (nI_1 n), Or.inr ⟨by rw [r2]; exact h3, by rw [r2, r1]; omega, n + n / 2, g2, by omega, by rw [r2]; exact r3, fun i hi => ?_⟩, fun i hi => ?_⟩ r6
      · rw [r2, r4, old]
        split
        · omega
        · split
          · next q => exact a6 i q
          · omega
      · rw [r2, r4, old]
        by_cases q : i = n
        · rw [if_pos q, q, up2]
        · rw [if_neg q, if_pos (by omega), up1 i (by omega)]
          exact e4 i (by omega)
    · have hcb := hc cap a3
      refine ladd_room t0 e2 a5 (by omega) (by omega) (by omega) (Or.inl (by omega)) ?_
      have er : ∀ x k, hR (cLAdd h la (w + 129) n) x k = if x = hR h la 1 ∧ k = n then w + 129 else hR h x k := fun x k => by
        show hR (sR (sI h la 0 _) (hR h la 1) n (w + 129)) x k = _
        rw [hR_sR]
        rfl
      have ea : hR (cLAdd h la (w + 129) n) la 1 = hR h la 1 := by rw [er, if_neg (fun z => hne z.1.symm)]
      refine k _ ⟨(hI_eq _ _ _ _).trans (nI_1 n), Or.inr ⟨by rw [ea]; exact a1, by rw [ea]; exact a2, cap, a3, by omega, by rw [ea]; exact a5, fun i hi => ?_⟩, fun i hi => ?_⟩ (lfr_room hne)
      · rw [ea, er]
        split
        · omega
        · exact a6 i hi
      · rw [ea, er]
        by_cases q : i = n
        · rw [if_pos ⟨rfl, q⟩, q, up2]
        · rw [if_neg (fun z => q z.2), up1 i (by omega)]
          exact e4 i (by omega)
theorem box_rem {h : CH} {la n : Nat} {f : Nat → Nat} {caps : List Nat} {Q : QT} (t0 : (hT h la).1 = 3) (hl0 : la < 373) (B : BoxL h la (n + 2) f caps) (hc : ∀ c, c ∈ caps → c ≤ 128) (k : ∀ b', BoxL b' la (n + 1) (fun i => f (i + 1)) caps → LFr h b' la → Q (.inl [.ref (f 0 + 129)]) b') : wJx4a65c_remove_915e3 [.ref la, .int (nI 0)] h Q := by
  obtain ⟨e2, e3, e4⟩ := B
  rcases e3 with ⟨n0, e257⟩ | ⟨a1, a2, cap, a3, a4, a5, a6⟩
  · omega
  have hne : ¬ hR h la 1 = la := by omega
  have hcb := hc cap a3
  refine lrem0_ok t0 e2 rfl a5 a4 (by omega) (fun i hi => a6 _ (by omega)) ?_
  rw [e4 0 (by omega)]
  have er : ∀ x k, hR (cRem0 h la n) x k = if x = hR h la 1 then (if k = n + 1 then 0 else if k < n + 1 then hR h x (k + 1) else hR h x k) else hR h x k := fun x k => by
    show hR (sR (cpR (sI h la 0 _) (hR h la 1) (hR h la 1) 1 0 (n + 1)) (hR h la 1) (n + 1) 0) x k = _
    rw [hR_sR, hR_cpR]
    by_cases c : x = hR h la 1
    · rw [if_pos c, if_pos c]
      by_cases d : k = n + 1
      · rw [if_pos ⟨c, d⟩, if_pos d]
      · rw [if_neg (fun z => d z.2), if_neg d]
        unfold va_cpy
        by_cases e : k < n + 1
        · rw [if_pos (by omega), if_pos e, ← c, show 1 + (k - 0) = k + 1 by omega]
          rfl
        · rw [if_neg (by omega), if_neg e, ← c]
          rfl
    · rw [if_neg (fun z => c z.1), if_neg c, if_neg c]
      rfl
  have ea : hR (cRem0 h la n) la 1 = hR h la 1 := by rw [er, if_neg (fun z => hne z.symm)]
  have ei : hI (cRem0 h la n) la 2 = nI (n + 1) := by
    show hI (sI (cpR (sI h la 0 _) (hR h la 1) (hR h la 1) 1 0 (n + 1)) la 2 (nI (n + 1))) la 2 = _
    exact hI_eq _ _ _ _
  refine k _ ⟨ei, Or.inr ⟨by rw [ea]; exact a1, by rw [ea]; exact a2, cap, a3, by omega, by rw [ea]; exact a5, fun i hi => ?_⟩, fun i hi => ?_⟩ ⟨Nat.le_refl _, fun _ _ => rfl, fun x j _ q => ?_, fun _ _ _ => rfl, fun x j _ q1 q2 => ?_, Or.inl ea⟩
  · rw [ea, er, if_pos rfl]
    split
    · omega
    · split
      · exact a6 _ (by omega)
      · exact a6 i hi
  · rw [ea, er, if_pos rfl, if_neg (by omega), if_pos hi]
    exact e4 (i + 1) (by omega)
  · show hI (sI (cpR (sI h la 0 _) (hR h la 1) (hR h la 1) 1 0 (n + 1)) la 2 (nI (n + 1))) x j = _
    rw [hI_ne q]
    show hI (sI h la 0 _) x j = _
    rw [hI_ne q]
  · rw [er, if_neg q2]
