/-! LAYBACK, the steps -/
theorem PgR_for {t : Nat} {S H : Int32} {F I : Nat → Int32} {J : Nat → Int64} (P : PgR t S H F I J) : PgR t S 0 F I J := PgR.of P.pl P.vl P.pn (fun z => ⟨(P.cl z).1, (P.cl z).2.1, rfl⟩) P.dt P.us P.cm P.mk P.ah P.ou (fun z => by
  obtain ⟨w1, w2, w3, w4, w5, w6, w7, w8⟩ := P.wk z
  exact ⟨w1, w2, w3, w4, w5, w6, w7, fun _ => rfl⟩)
theorem RR_forget {n s : Nat} {a b : CH} (R : RR n a b) (hs : s < 128) : RR n (cForget a 331 s) (sI b 370 s (-1)) := by
  have m23 := R.ml.2.2.2.2.2.2.2.2.2.2.2.2.2.2.2.2.2.2.2.2.2.2.2
  obtain ⟨t, t1, t2, t3, t4, t5⟩ := R.tm
  have H2 : House (cForget a 331 s) := ⟨Hse_forget R.hs.1, Hol_forget R.hs.2⟩
  obtain ⟨g1, g2, g3, g4⟩ := fgt_rt (h := a) (la := 331) (s := s)
  have eB : ∀ x k, ¬ (x = 331 ∧ k = 2) → ¬ (x = 332 ∧ k = s) → hI (cForget a 331 s) x k = hI a x k := fun x k => fgt_oth
  have fH := fgt_has (h := a) (s := s)
  have fS := fgt_sz (h := a) (s := s)
  generalize cForget a 331 s = B at H2 g1 g2 g3 g4 eB fH fS ⊢
  have hq0 : ∀ i k, i < 16 → hI B (313 + 2 + i) k = hI a (313 + 2 + i) k := fun i k hi => eB _ _ (by omega) (by omega)
  refine RR_mid R H2 g1 g2 (fun x k q => eB x k (by omega) (by omega)) (fun x _ _ => rfl) (fun x k _ _ _ => rfl) (Nat.le_refl _) (fun x k q _ _ => hI_ne (by omega)) (Sc_cg R.sc (fun x k q => eB _ _ (by omega) (by omega)) (fun k hk => hI_ne (by omega))) (Vl_cg R.vl (fun x k h1 h2 h3 h4 => eB _ _ (by omega) (by omega)) (fun x k h1 h2 => hI_ne (by omega))) (Bl_cg R.bl (fun k _ => by rw [g3]) (fun k _ => rfl)) ?_ ⟨t, t1, t2, (eB _ _ (by omega) (by omega)).trans t3, t4, fun i hi => ?_⟩ ?_
  · refine ⟨fun s' h' => ?_, ?_⟩
    · rw [hI_sI]
      by_cases c : s' = s
      · rw [if_pos ⟨rfl, c⟩, c]
        exact Or.inl ⟨fH, rfl⟩
      · rw [if_neg (fun z => c z.2), eB 332 s' (by omega) (by omega), eB 333 s' (by omega) (by omega)]
        exact R.lg.1 s' h'
    · rw [fS]
      have same : ∀ i, i < 128 → ¬ i = s → lgP a i = lgP B i := fun i hi hne => by
        unfold lgP
        rw [eB 332 i (by omega) (by omega)]
      have z0 : lgP B s = false := decide_eq_false (fun z => z fH)
      by_cases c : hI a 332 s = 0
      · rw [if_pos c, R.lg.2]
        refine congrArg nI (cnt_cg (fun i hi => ?_))
        by_cases e : i = s
        · rw [e, z0]
          exact decide_eq_false (fun z => z c)
        · exact same i hi e
      · rw [if_neg c, R.lg.2, cnt_less (p := lgP a) (q := lgP B) hs (decide_eq_true c) z0 same]
        exact nI_pred _
  · have hrow : hI B (313 + 2 + i) = hI a (313 + 2 + i) := funext fun k => hq0 i k hi
    have hsp : spN B i = spN a i := by unfold spN; rw [hq0 i 0 hi]
    unfold FrM
    rw [hsp, hrow]
    rcases t5 i hi with q | ⟨q1, q2, q3, q4, P⟩
    · exact Or.inl q
    · refine Or.inr ⟨q1, q2, q3, q4, ?_⟩
      obtain ⟨w1, w2⟩ := fr_sp R hi q1
      rw [show hI (sI b 370 s (-1)) (hR (sI b 370 s (-1)) 368 i) = hI b (hR b 368 i) from funext fun k => hI_ne (by show ¬ hR b 368 i = 370; omega)]
      have es : cSum B (spN a i) = cSum a (spN a i) := (cVal_cg w2 (fun x k h1 h2 h3 h4 => eB _ _ (by omega) (by omega))).2
      rw [es]
      by_cases c : spN a i = s
      · rw [c, fH, ← c]
        exact PgR_for P
      · rw [eB 332 _ (by omega) (by omega)]
        exact P
  · obtain ⟨f1, f2, f3, f4, f5, f6, f7, f8, f9, f10⟩ := R.fm
    have e : ∀ x k, ¬ x = 331 → ¬ x = 332 → hI B x k = hI a x k := fun x k q r => eB x k (by omega) (by omega)
    have en : nN B = nN a := by unfold nN; rw [e _ _ (by omega) (by omega)]
    have eh : hdN B = hdN a := by unfold hdN; rw [e _ _ (by omega) (by omega)]
    refine ⟨fun i h1 h2 => ?_, by rw [en, eh]; exact f2, fun i j hi hj => ?_, ?_, by rw [e _ _ (by omega) (by omega)]; exact f5, by rw [e _ _ (by omega) (by omega)]; exact f6, by rw [e _ _ (by omega) (by omega)]; exact f7, by rw [e _ _ (by omega) (by omega)]; exact f8, by rw [e _ _ (by omega) (by omega), e _ _ (by omega) (by omega)]; exact f9, by rw [e _ _ (by omega) (by omega)]; exact f10⟩
    · rw [en] at h1
      rw [e _ _ (by omega) (by omega)]
      exact f1 i h1 h2
    · rw [e _ _ (by omega) (by omega), e (313 + 2 + j) _ (by omega) (by omega)]
      exact f3 i j hi hj
    · rw [e 300 14 (by omega) (by omega)]
      rcases f4 with ⟨g1, g2⟩ | ⟨g1, g2⟩
      · exact Or.inl ⟨g1, fun i hi => by rw [e _ _ (by omega) (by omega)]; exact g2 i hi⟩
      · refine Or.inr ⟨g1, fun s' hs' hq => ?_⟩
        have hne : ¬ s' = s := fun z => hq (by rw [z]; exact fH)
        rw [eB 332 s' (by omega) (by omega)] at hq
        obtain ⟨i, hi, w⟩ := g2 s' hs' hq
        exact ⟨i, hi, by rw [e _ _ (by omega) (by omega)]; exact w⟩
def cVS (a : CH) (da p : Nat) (u w : Int32) : CH := sI (sI a (da + 1) p u) (da + 2) p w
theorem RR_val {n s d p : Nat} {a b : CH} {u w : Int32} (R : RR n a b) (hd : d < 2) (hp : p < 64) (es : s = d * 64 + p) (hf : ∀ i, i < 16 → ¬ hI a (313 + 2 + i) 0 = nI s) : RR n (cVS a (302 + 4 * d) p u w) (sI (sI b 362 s u) 363 s w) := by
  obtain ⟨t, t1, t2, t3, t4, t5⟩ := R.tm
  have H2 : House (cVS a (302 + 4 * d) p u w) := House_sI (House_sI R.hs (OkC_of (by omega)) (by omega)) (OkC_of (by omega)) (by omega)
  have eB : ∀ x k, (x < 303 ∨ 309 ≤ x ∨ x = 306 ∨ x = 305) → hI (cVS a (302 + 4 * d) p u w) x k = hI a x k := fun x k q => by
    unfold cVS
    rw [hI_ne (by omega), hI_ne (by omega)]
  have eV : ∀ s', s' < 128 → cVal (cVS a (302 + 4 * d) p u w) s' = (if s' = s then u else cVal a s') ∧ cSum (cVS a (302 + 4 * d) p u w) s' = if s' = s then w else cSum a s' := fun s' h' => by
    unfold cVal cSum cVS
    refine ⟨?_, ?_⟩
    · rw [hI_sI, if_neg (by omega), hI_sI]
      by_cases c : s' = s
      · rw [if_pos c, if_pos (by omega)]
      · rw [if_neg c, if_neg (by omega)]
    · rw [hI_sI]
      by_cases c : s' = s
      · rw [if_pos c, if_pos (by omega)]
      · rw [if_neg c, if_neg (by omega), hI_sI, if_neg (by omega)]
  have rt : hT (cVS a (302 + 4 * d) p u w) = hT a ∧ hR (cVS a (302 + 4 * d) p u w) = hR a ∧ hJ (cVS a (302 + 4 * d) p u w) = hJ a := ⟨rfl, rfl, rfl⟩
  generalize cVS a (302 + 4 * d) p u w = B at H2 eB eV rt ⊢
  obtain ⟨g1, g2, g3⟩ := rt
  have hb : ∀ x k, ¬ x = 362 → ¬ x = 363 → hI (sI (sI b 362 s u) 363 s w) x k = hI b x k := fun x k h1 h2 => by rw [hI_ne h2, hI_ne h1]
  refine RR_mid R H2 g1 g2 (fun x k q => eB x k (by omega)) (fun x _ _ => rfl) (fun x k _ _ _ => rfl) (Nat.le_refl _) (fun x k q _ _ => hb _ _ (by omega) (by omega)) (Sc_cg R.sc (fun x k q => eB _ _ (by omega)) (fun k hk => hb _ _ (by omega) (by omega))) ⟨fun s' h' => ?_, fun p' hp' => ?_⟩ (Bl_cg R.bl (fun k _ => by rw [g3]) (fun k _ => rfl)) (Lg_cg R.lg (fun x k h1 h2 => eB _ _ (by omega)) (fun k hk => hb _ _ (by omega) (by omega))) ⟨t, t1, t2, (eB _ _ (by omega)).trans t3, t4, fun i hi => ?_⟩ (Fm_cg R.fm (fun x k q => eB _ _ (by omega)))
  · rw [(eV s' h').1, (eV s' h').2, hI_ne (by omega), hI_sI, hI_sI, hI_ne (by omega)]
    obtain ⟨v1, v2⟩ := R.vl.1 s' h'
    by_cases c : s' = s
    · rw [if_pos c, if_pos c, if_pos ⟨rfl, c⟩, if_pos ⟨rfl, c⟩]
      exact ⟨rfl, rfl⟩
    · rw [if_neg c, if_neg c, if_neg (fun z => c z.2), if_neg (fun z => c z.2)]
      exact ⟨v1, v2⟩
  · rw [hb _ _ (by omega) (by omega), eB _ _ (by omega)]
    exact R.vl.2 p' hp'
  · have hrow : hI B (313 + 2 + i) = hI a (313 + 2 + i) := funext fun k => eB _ _ (by omega)
    have hsp : spN B i = spN a i := by unfold spN; rw [eB _ _ (by omega)]
    unfold FrM
    rw [hsp, hrow]
    rcases t5 i hi with q | ⟨q1, q2, q3, q4, P⟩
    · exact Or.inl q
    · refine Or.inr ⟨q1, q2, q3, q4, ?_⟩
      obtain ⟨w1, w2⟩ := fr_sp R hi q1
      rw [show hI (sI (sI b 362 s u) 363 s w) (hR (sI (sI b 362 s u) 363 s w) 368 i) = hI b (hR b 368 i) from funext fun k => hb _ _ (by show ¬ hR b 368 i = 362; omega) (by show ¬ hR b 368 i = 363; omega)]
      rw [(eV _ w2).2, if_neg (fun z => hf i hi (by rw [← z]; exact w1)), eB 332 _ (by omega)]
      exact P
/-! the class's side, place by place -/
theorem fgt_sI {h : CH} {x k s : Nat} {v : Int32} (h1 : ¬ x = 331) (h2 : ¬ x = 332) : cForget (sI h x k v) 331 s = sI (cForget h 331 s) x k v := by
  have e1 : hI (sI h x k v) (331 + 1) s = hI h (331 + 1) s := hI_ne (by omega)
  have e2 : hI (sI h x k v) 331 2 = hI h 331 2 := hI_ne (by omega)
  unfold cForget
  rw [e1, e2]
  split
  · rfl
  · rw [sI_comm (h := h) (a := x) (k := k) (v := v) (b := 331 + 1) (fun z => h2 z.1), sI_comm (a := x) (k := k) (v := v) (b := 331) (fun z => h1 z.1)]
theorem drop_sI {h : CH} {x k f : Nat} {v : Int32} (q : ¬ x = f) : cDrop (sI h x k v) f = sI (cDrop h f) x k v := by
  have s : ∀ (g : CH) (j : Nat) (w : Int32), sI (sI g x k v) f j w = sI (sI g f j w) x k v := fun g j w => sI_comm (fun z => q z.1)
  unfold cDrop
  rw [s, s, s, s, s]
theorem drop_comm {h : CH} {f g : Nat} (q : ¬ f = g) : cDrop (cDrop h f) g = cDrop (cDrop h g) f := by
  show cDrop (sI (sI (sI (sI (sI h f 0 (-1)) f 2 0) f 3 0) f 8 0) f 9 0) g = _
  rw [drop_sI q, drop_sI q, drop_sI q, drop_sI q, drop_sI q]
  rfl
theorem fgt_drop {h : CH} {f s : Nat} (h1 : ¬ f = 331) (h2 : ¬ f = 332) : cForget (cDrop h f) 331 s = cDrop (cForget h 331 s) f := by
  unfold cDrop
  rw [fgt_sI h1 h2, fgt_sI h1 h2, fgt_sI h1 h2, fgt_sI h1 h2, fgt_sI h1 h2]
theorem fgtN_drop {h : CH} {f a : Nat} (h1 : ¬ f = 331) (h2 : ¬ f = 332) : ∀ n, cFgt (cDrop h f) a n = cDrop (cFgt h a n) f
  | 0 => rfl
  | n + 1 => by
    show cForget (cFgt (cDrop h f) a n) 331 (a + n) = _
    rw [fgtN_drop h1 h2 n, fgt_drop h1 h2]
    rfl
theorem take_fgt {h : CH} {s da qa qb : Nat} (h1 : da + 2 < 331) (q1 : 361 ≤ qa) (q2 : 361 ≤ qb) : ∀ n, cTake (cForget h 331 s) da qa qb n = cForget (cTake h da qa qb n) 331 s
  | 0 => rfl
  | n + 1 => by
    show sI (sI (cTake (cForget h 331 s) da qa qb n) (da + 1) n (hI (cForget h 331 s) qa n)) (da + 2) n (hI (cForget h 331 s) qb n) = cForget (sI (sI (cTake h da qa qb n) (da + 1) n (hI h qa n)) (da + 2) n (hI h qb n)) 331 s
    rw [take_fgt h1 q1 q2 n, fgt_oth (by omega) (by omega), fgt_oth (by omega) (by omega), fgt_sI (by omega) (by omega), fgt_sI (by omega) (by omega)]
theorem take_drop {h : CH} {f da qa qb : Nat} (h1 : da + 2 < f) (h2 : f < 361) (q1 : 361 ≤ qa) (q2 : 361 ≤ qb) : ∀ n, cTake (cDrop h f) da qa qb n = cDrop (cTake h da qa qb n) f
  | 0 => rfl
  | n + 1 => by
    show sI (sI (cTake (cDrop h f) da qa qb n) (da + 1) n (hI (cDrop h f) qa n)) (da + 2) n (hI (cDrop h f) qb n) = cDrop (sI (sI (cTake h da qa qb n) (da + 1) n (hI h qa n)) (da + 2) n (hI h qb n)) f
    rw [take_drop h1 h2 q1 q2 n, hI_drop (by omega), hI_drop (by omega), drop_sI (by omega), drop_sI (by omega)]
theorem dropS_cond {lo s : Nat} {v : Int32} (hs : s < 128) (h : v = -1 ∨ ∃ p, p < 128 ∧ v = nI p) (hne : ¬ v = nI s) : (¬ v < nI lo ∧ ¬ nI (s + 1) ≤ v) ↔ (¬ v < nI lo ∧ ¬ nI s ≤ v) := by
  rcases h with h | ⟨p, hp, h⟩
  · have n1 : ∀ m, m < 200 → ¬ nI m ≤ (-1 : Int32) := fun m hm z => absurd (Int32.lt_of_le_of_lt z (by decide : (-1 : Int32) < 0)) (nI_pos (by omega))
    rw [h]
    exact ⟨fun z => ⟨z.1, n1 _ (by omega)⟩, fun z => ⟨z.1, n1 _ (by omega)⟩⟩
  · subst h
    have : ¬ p = s := fun z => hne (by rw [z])
    rw [nI_leI (by omega) (by omega), nI_leI (by omega) (by omega)]
    constructor
    · exact fun z => ⟨z.1, by omega⟩
    · exact fun z => ⟨z.1, by omega⟩
theorem dropS_step {h : CH} {lo s i : Nat} (hl : lo ≤ s) (hs : s < 128) (hv : ∀ j, j < 16 → hI h (313 + 2 + j) 0 = -1 ∨ ∃ p, p < 128 ∧ hI h (313 + 2 + j) 0 = nI p) (hu : ∀ j, j < 16 → (hI h (313 + 2 + j) 0 = nI s ↔ j = i)) : ∀ m, m ≤ 16 → cDropS h 313 (nI lo) (nI (s + 1)) m = if i < m then cDrop (cDropS h 313 (nI lo) (nI s) m) (313 + 2 + i) else cDropS h 313 (nI lo) (nI s) m
  | 0, _ => rfl
  | m + 1, hm => by
    have ih := dropS_step hl hs hv hu m (by omega)
    have e1 : ∀ y, hI (cDropS h 313 (nI lo) y m) (313 + 2 + m) 0 = hI h (313 + 2 + m) 0 := fun y => hI_dropS m (by omega)
    have u1 : cDropS h 313 (nI lo) (nI (s + 1)) (m + 1) = if ¬ hI h (313 + 2 + m) 0 < nI lo ∧ ¬ nI (s + 1) ≤ hI h (313 + 2 + m) 0 then cDrop (cDropS h 313 (nI lo) (nI (s + 1)) m) (313 + 2 + m) else cDropS h 313 (nI lo) (nI (s + 1)) m := by
      rw [← e1 (nI (s + 1))]
      rfl
    have u2 : cDropS h 313 (nI lo) (nI s) (m + 1) = if ¬ hI h (313 + 2 + m) 0 < nI lo ∧ ¬ nI s ≤ hI h (313 + 2 + m) 0 then cDrop (cDropS h 313 (nI lo) (nI s) m) (313 + 2 + m) else cDropS h 313 (nI lo) (nI s) m := by
      rw [← e1 (nI s)]
      rfl
    rw [u1, u2, ih]
    by_cases c : m = i
    · have ev := (hu m (by omega)).mpr c
      rw [ev]
      have c1 : ¬ nI s < nI lo ∧ ¬ nI (s + 1) ≤ nI s := ⟨fun z => absurd ((nI_ltI (a := s) (b := lo) (by omega) (by omega)).mp z) (by omega), fun z => absurd ((nI_leI (a := s + 1) (b := s) (by omega) (by omega)).mp z) (by omega)⟩
      rw [if_pos c1, if_neg (show ¬ (¬ nI s < nI lo ∧ ¬ nI s ≤ nI s) from fun z => z.2 (Int32.le_refl _)), if_neg (show ¬ i < m by omega), if_pos (show i < m + 1 by omega), c]
    · have hne : ¬ hI h (313 + 2 + m) 0 = nI s := fun z => c ((hu m (by omega)).mp z)
      have cc := dropS_cond (lo := lo) hs (hv m (by omega)) hne
      by_cases c2 : ¬ hI h (313 + 2 + m) 0 < nI lo ∧ ¬ nI s ≤ hI h (313 + 2 + m) 0
      · rw [if_pos c2, if_pos (cc.mpr c2)]
        by_cases c3 : i < m
        · rw [if_pos c3, if_pos (show i < m + 1 by omega), drop_comm (by omega)]
        · rw [if_neg c3, if_neg (show ¬ i < m + 1 by omega)]
      · rw [if_neg c2, if_neg (fun z => c2 (cc.mp z))]
        by_cases c3 : i < m
        · rw [if_pos c3, if_pos (show i < m + 1 by omega)]
        · rw [if_neg c3, if_neg (show ¬ i < m + 1 by omega)]
def cLB (h : CH) (d qa qb k : Nat) : CH := cTake (cFgt (cDropS h 313 (nI (d * 64)) (nI (d * 64 + k)) 16) (d * 64) k) (302 + 4 * d) qa qb k
theorem cLB_step {h : CH} {d qa qb k i : Nat} (hd : d < 2) (hk : k < 64) (q1 : 361 ≤ qa) (q2 : 361 ≤ qb) (hv : ∀ j, j < 16 → hI h (313 + 2 + j) 0 = -1 ∨ ∃ p, p < 128 ∧ hI h (313 + 2 + j) 0 = nI p) (hu : ∀ j, j < 16 → (hI h (313 + 2 + j) 0 = nI (d * 64 + k) ↔ j = i)) : cLB h d qa qb (k + 1) = cVS (if i < 16 then cDrop (cForget (cLB h d qa qb k) 331 (d * 64 + k)) (313 + 2 + i) else cForget (cLB h d qa qb k) 331 (d * 64 + k)) (302 + 4 * d) k (hI h qa k) (hI h qb k) := by
  have e := dropS_step (lo := d * 64) (s := d * 64 + k) (by omega) (by omega) hv hu 16 (Nat.le_refl _)
  have base : ∀ x j, 361 ≤ x → hI (cFgt (cDropS h 313 (nI (d * 64)) (nI (d * 64 + (k + 1))) 16) (d * 64) (k + 1)) x j = hI h x j := fun x j hx => by
    have f : ∀ (g : CH) n, hI (cFgt g (d * 64) n) x j = hI g x j := fun g n => by
      induction n with
      | zero => rfl
      | succ n ih => exact (fgt_oth (by omega) (by omega)).trans ih
    rw [f]
    exact hI_dropS 16 (by omega)
  show sI (sI (cTake (cFgt (cDropS h 313 (nI (d * 64)) (nI (d * 64 + (k + 1))) 16) (d * 64) (k + 1)) (302 + 4 * d) qa qb k) (302 + 4 * d + 1) k (hI (cFgt (cDropS h 313 (nI (d * 64)) (nI (d * 64 + (k + 1))) 16) (d * 64) (k + 1)) qa k)) (302 + 4 * d + 2) k (hI (cFgt (cDropS h 313 (nI (d * 64)) (nI (d * 64 + (k + 1))) 16) (d * 64) (k + 1)) qb k) = _
  rw [base qa k q1, base qb k q2]
  have e2 : cTake (cFgt (cDropS h 313 (nI (d * 64)) (nI (d * 64 + (k + 1))) 16) (d * 64) (k + 1)) (302 + 4 * d) qa qb k = if i < 16 then cDrop (cForget (cLB h d qa qb k) 331 (d * 64 + k)) (313 + 2 + i) else cForget (cLB h d qa qb k) 331 (d * 64 + k) := by
    show cTake (cForget (cFgt (cDropS h 313 (nI (d * 64)) (nI (d * 64 + k + 1)) 16) (d * 64) k) 331 (d * 64 + k)) (302 + 4 * d) qa qb k = _
    rw [take_fgt (by omega) q1 q2, e]
    by_cases c : i < 16
    · rw [if_pos c, if_pos c, fgtN_drop (by omega) (by omega), take_drop (by omega) (by omega) q1 q2, fgt_drop (by omega) (by omega)]
      rfl
    · rw [if_neg c, if_neg c]
      rfl
  rw [e2]
  rfl
