/-! THE INSTRUCTIONS, 1: what touches no heap -/
def cat2 : Value → Bool
  | .long _ => true
  | .double _ => true
  | _ => false
/-- a place of the locals is written: a double value just ahead of it is gone -/
def put1 (lv : List Value) : Nat → Value → List Value
  | 0, v => lv.set 0 v
  | j + 1, v => if cat2 (lv.getD j .null) = true then (lv.set j .null).set (j + 1) v else lv.set (j + 1) v
def put2 (lv : List Value) (i : Nat) (v : Value) : List Value := (put1 lv i v).set (i + 1) .null
def k_push (n : Nat) (v : Value) : Sem := fun X _ lv st h c s => X n lv (v :: st) h c s
def k_goto (n : Nat) : Sem := fun X _ lv st h c s => X n lv st h c s
def k_ldI (n i : Nat) : Sem := fun X _ lv st h c s => match lv.getD i .null with
  | .int x => X n lv (.int x :: st) h c s
  | _ => False
def k_ldL (n i : Nat) : Sem := fun X _ lv st h c s => match lv.getD i .null with
  | .long x => X n lv (.long x :: st) h c s
  | _ => False
def k_ldF (n i : Nat) : Sem := fun X _ lv st h c s => match lv.getD i .null with
  | .float x => X n lv (.float x :: st) h c s
  | _ => False
def k_ldD (n i : Nat) : Sem := fun X _ lv st h c s => match lv.getD i .null with
  | .double x => X n lv (.double x :: st) h c s
  | _ => False
def k_ldA (n i : Nat) : Sem := fun X _ lv st h c s => match lv.getD i .null with
  | .ref x => X n lv (.ref x :: st) h c s
  | _ => False
def k_stI (n i : Nat) : Sem := fun X _ lv st h c s => match st with
  | .int x :: r => X n (put1 lv i (.int x)) r h c s
  | _ => False
def k_stF (n i : Nat) : Sem := fun X _ lv st h c s => match st with
  | .float x :: r => X n (put1 lv i (.float x)) r h c s
  | _ => False
def k_stA (n i : Nat) : Sem := fun X _ lv st h c s => match st with
  | .ref x :: r => X n (put1 lv i (.ref x)) r h c s
  | _ => False
def k_stL (n i : Nat) : Sem := fun X _ lv st h c s => match st with
  | .long x :: r => X n (put2 lv i (.long x)) r h c s
  | _ => False
def k_stD (n i : Nat) : Sem := fun X _ lv st h c s => match st with
  | .double x :: r => X n (put2 lv i (.double x)) r h c s
  | _ => False
def k_iinc (n i : Nat) (d : Int32) : Sem := fun X _ lv st h c s => match lv.getD i .null with
  | .int x => X n (put1 lv i (.int (x + d))) st h c s
  | _ => False
def k_bI (n : Nat) (f : Int32 → Int32 → Int32) : Sem := fun X _ lv st h c s => match st with
  | .int y :: .int x :: r => X n lv (.int (f x y) :: r) h c s
  | _ => False
def k_dI (n : Nat) (f : Int32 → Int32 → Int32) : Sem := fun X _ lv st h c s => match st with
  | .int y :: .int x :: r => ¬ y = 0 ∧ X n lv (.int (f x y) :: r) h c s
  | _ => False
def k_bL (n : Nat) (f : Int64 → Int64 → Int64) : Sem := fun X _ lv st h c s => match st with
  | .long y :: .long x :: r => X n lv (.long (f x y) :: r) h c s
  | _ => False
def k_lcmp (n : Nat) : Sem := fun X _ lv st h c s => match st with
  | .long y :: .long x :: r => X n lv (.int (lg_cmp x y) :: r) h c s
  | _ => False
def k_uI (n : Nat) (f : Int32 → Value) : Sem := fun X _ lv st h c s => match st with
  | .int x :: r => X n lv (f x :: r) h c s
  | _ => False
def k_l2d (n : Nat) : Sem := fun X _ lv st h c s => match st with
  | .long x :: r => X n lv (.double (FP.l2d x) :: r) h c s
  | _ => False
def k_f2i (n : Nat) : Sem := fun X _ lv st h c s => match st with
  | .float x :: r => X n lv (.int (FP.f2i x) :: r) h c s
  | _ => False
def k_f2d (n : Nat) : Sem := fun X _ lv st h c s => match st with
  | .float x :: r => vf_n64 (FP.f2d x) ∧ X n lv (.double (FP.f2d x) :: r) h c s
  | _ => False
def k_bF (n : Nat) (f : UInt32 → UInt32 → UInt32) : Sem := fun X _ lv st h c s => match st with
  | .float y :: .float x :: r => vf_n32 (f x y) ∧ X n lv (.float (f x y) :: r) h c s
  | _ => False
def k_bD (n : Nat) (f : UInt64 → UInt64 → UInt64) : Sem := fun X _ lv st h c s => match st with
  | .double y :: .double x :: r => vf_n64 (f x y) ∧ X n lv (.double (f x y) :: r) h c s
  | _ => False
def k_fcmp (n : Nat) (op : CmpOp) : Sem := fun X _ lv st h c s => match st with
  | .float y :: .float x :: r => X n lv (.int (Op.cmpValue (FP.fcmp x y) op) :: r) h c s
  | _ => False
def k_dcmp (n : Nat) (op : CmpOp) : Sem := fun X _ lv st h c s => match st with
  | .double y :: .double x :: r => X n lv (.int (Op.cmpValue (FP.dcmp x y) op) :: r) h c s
  | _ => False
def k_if (n t : Nat) (P : Int32 → Prop) : Sem := fun X _ lv st h c s => match st with
  | .int x :: r => (P x → X t lv r h c s) ∧ (¬ P x → X n lv r h c s)
  | _ => False
def k_ic (n t : Nat) (P : Int32 → Int32 → Prop) : Sem := fun X _ lv st h c s => match st with
  | .int y :: .int x :: r => (P x y → X t lv r h c s) ∧ (¬ P x y → X n lv r h c s)
  | _ => False
/-- null: on to n; else to t -/
def k_nul (n t : Nat) : Sem := fun X _ lv st h c s => match st with
  | .ref a :: r => (a = 0 → X n lv r h c s) ∧ (¬ a = 0 → X t lv r h c s)
  | _ => False
def k_dup (n : Nat) : Sem := fun X _ lv st h c s => match st with
  | v :: r => cat2 v = false ∧ X n lv (v :: v :: r) h c s
  | _ => False
def k_pop (n : Nat) : Sem := fun X _ lv st h c s => match st with
  | v :: r => cat2 v = false ∧ X n lv r h c s
  | _ => False
def k_dupx1 (n : Nat) : Sem := fun X _ lv st h c s => match st with
  | v :: w :: r => cat2 v = false ∧ cat2 w = false ∧ X n lv (v :: w :: v :: r) h c s
  | _ => False
def k_dup2 (n : Nat) : Sem := fun X _ lv st h c s => match st with
  | v :: w :: r => cat2 v = false ∧ cat2 w = false ∧ X n lv (v :: w :: v :: w :: r) h c s
  | _ => False
def k_no : Sem := fun _ _ _ _ _ _ _ => False
theorem mono_no : Mono k_no := fun _ _ _ _ _ _ _ _ _ _ _ k => k
theorem mono_push (n : Nat) (v : Value) : Mono (k_push n v) := fun _ _ _ _ hX _ _ _ _ _ _ k => hX _ _ _ _ _ _ k
theorem mono_goto (n : Nat) : Mono (k_goto n) := fun _ _ _ _ hX _ _ _ _ _ _ k => hX _ _ _ _ _ _ k
theorem mono_ldI (n i : Nat) : Mono (k_ldI n i) := by
  intro X Y Q Q' hX hQ lv st h c s k
  unfold k_ldI at *; split at k <;> first | exact hX _ _ _ _ _ _ k | exact k.elim
theorem mono_ldL (n i : Nat) : Mono (k_ldL n i) := by
  intro X Y Q Q' hX hQ lv st h c s k
  unfold k_ldL at *; split at k <;> first | exact hX _ _ _ _ _ _ k | exact k.elim
theorem mono_ldF (n i : Nat) : Mono (k_ldF n i) := by
  intro X Y Q Q' hX hQ lv st h c s k
  unfold k_ldF at *; split at k <;> first | exact hX _ _ _ _ _ _ k | exact k.elim
theorem mono_ldD (n i : Nat) : Mono (k_ldD n i) := by
  intro X Y Q Q' hX hQ lv st h c s k
  unfold k_ldD at *; split at k <;> first | exact hX _ _ _ _ _ _ k | exact k.elim
theorem mono_ldA (n i : Nat) : Mono (k_ldA n i) := by
  intro X Y Q Q' hX hQ lv st h c s k
  unfold k_ldA at *; split at k <;> first | exact hX _ _ _ _ _ _ k | exact k.elim
theorem mono_stI (n i : Nat) : Mono (k_stI n i) := by
  intro X Y Q Q' hX hQ lv st h c s k
  unfold k_stI at *; split at k <;> first | exact hX _ _ _ _ _ _ k | exact k.elim
theorem mono_stF (n i : Nat) : Mono (k_stF n i) := by
  intro X Y Q Q' hX hQ lv st h c s k
  unfold k_stF at *; split at k <;> first | exact hX _ _ _ _ _ _ k | exact k.elim
theorem mono_stA (n i : Nat) : Mono (k_stA n i) := by
  intro X Y Q Q' hX hQ lv st h c s k
  unfold k_stA at *; split at k <;> first | exact hX _ _ _ _ _ _ k | exact k.elim
theorem mono_stL (n i : Nat) : Mono (k_stL n i) := by
  intro X Y Q Q' hX hQ lv st h c s k
  unfold k_stL at *; split at k <;> first | exact hX _ _ _ _ _ _ k | exact k.elim
theorem mono_stD (n i : Nat) : Mono (k_stD n i) := by
  intro X Y Q Q' hX hQ lv st h c s k
  unfold k_stD at *; split at k <;> first | exact hX _ _ _ _ _ _ k | exact k.elim
theorem mono_iinc (n i : Nat) (d : Int32) : Mono (k_iinc n i d) := by
  intro X Y Q Q' hX hQ lv st h c s k
  unfold k_iinc at *; split at k <;> first | exact hX _ _ _ _ _ _ k | exact k.elim
theorem mono_bI (n : Nat) (f : Int32 → Int32 → Int32) : Mono (k_bI n f) := by
  intro X Y Q Q' hX hQ lv st h c s k
  unfold k_bI at *; split at k <;> first | exact hX _ _ _ _ _ _ k | exact k.elim
theorem mono_dI (n : Nat) (f : Int32 → Int32 → Int32) : Mono (k_dI n f) := by
  intro X Y Q Q' hX hQ lv st h c s k
  unfold k_dI at *; split at k <;> first | exact ⟨k.1, hX _ _ _ _ _ _ k.2⟩ | exact k.elim
theorem mono_bL (n : Nat) (f : Int64 → Int64 → Int64) : Mono (k_bL n f) := by
  intro X Y Q Q' hX hQ lv st h c s k
  unfold k_bL at *; split at k <;> first | exact hX _ _ _ _ _ _ k | exact k.elim
theorem mono_lcmp (n : Nat) : Mono (k_lcmp n) := by
  intro X Y Q Q' hX hQ lv st h c s k
  unfold k_lcmp at *; split at k <;> first | exact hX _ _ _ _ _ _ k | exact k.elim
theorem mono_uI (n : Nat) (f : Int32 → Value) : Mono (k_uI n f) := by
  intro X Y Q Q' hX hQ lv st h c s k
  unfold k_uI at *; split at k <;> first | exact hX _ _ _ _ _ _ k | exact k.elim
theorem mono_l2d (n : Nat) : Mono (k_l2d n) := by
  intro X Y Q Q' hX hQ lv st h c s k
  unfold k_l2d at *; split at k <;> first | exact hX _ _ _ _ _ _ k | exact k.elim
theorem mono_f2i (n : Nat) : Mono (k_f2i n) := by
  intro X Y Q Q' hX hQ lv st h c s k
  unfold k_f2i at *; split at k <;> first | exact hX _ _ _ _ _ _ k | exact k.elim
theorem mono_f2d (n : Nat) : Mono (k_f2d n) := by
  intro X Y Q Q' hX hQ lv st h c s k
  unfold k_f2d at *; split at k <;> first | exact ⟨k.1, hX _ _ _ _ _ _ k.2⟩ | exact k.elim
theorem mono_bF (n : Nat) (f : UInt32 → UInt32 → UInt32) : Mono (k_bF n f) := by
  intro X Y Q Q' hX hQ lv st h c s k
  unfold k_bF at *; split at k <;> first | exact ⟨k.1, hX _ _ _ _ _ _ k.2⟩ | exact k.elim
theorem mono_bD (n : Nat) (f : UInt64 → UInt64 → UInt64) : Mono (k_bD n f) := by
  intro X Y Q Q' hX hQ lv st h c s k
  unfold k_bD at *; split at k <;> first | exact ⟨k.1, hX _ _ _ _ _ _ k.2⟩ | exact k.elim
theorem mono_fcmp (n : Nat) (op : CmpOp) : Mono (k_fcmp n op) := by
  intro X Y Q Q' hX hQ lv st h c s k
  unfold k_fcmp at *; split at k <;> first | exact hX _ _ _ _ _ _ k | exact k.elim
theorem mono_dcmp (n : Nat) (op : CmpOp) : Mono (k_dcmp n op) := by
  intro X Y Q Q' hX hQ lv st h c s k
  unfold k_dcmp at *; split at k <;> first | exact hX _ _ _ _ _ _ k | exact k.elim
theorem mono_if (n t : Nat) (P : Int32 → Prop) : Mono (k_if n t P) := by
  intro X Y Q Q' hX hQ lv st h c s k
  unfold k_if at *; split at k <;> first | exact ⟨fun q => hX _ _ _ _ _ _ (k.1 q), fun q => hX _ _ _ _ _ _ (k.2 q)⟩ | exact k.elim
theorem mono_ic (n t : Nat) (P : Int32 → Int32 → Prop) : Mono (k_ic n t P) := by
  intro X Y Q Q' hX hQ lv st h c s k
  unfold k_ic at *; split at k <;> first | exact ⟨fun q => hX _ _ _ _ _ _ (k.1 q), fun q => hX _ _ _ _ _ _ (k.2 q)⟩ | exact k.elim
theorem mono_nul (n t : Nat) : Mono (k_nul n t) := by
  intro X Y Q Q' hX hQ lv st h c s k
  unfold k_nul at *; split at k <;> first | exact ⟨fun q => hX _ _ _ _ _ _ (k.1 q), fun q => hX _ _ _ _ _ _ (k.2 q)⟩ | exact k.elim
theorem mono_dup (n : Nat) : Mono (k_dup n) := by
  intro X Y Q Q' hX hQ lv st h c s k
  unfold k_dup at *; split at k <;> first | exact ⟨k.1, hX _ _ _ _ _ _ k.2⟩ | exact k.elim
theorem mono_pop (n : Nat) : Mono (k_pop n) := by
  intro X Y Q Q' hX hQ lv st h c s k
  unfold k_pop at *; split at k <;> first | exact ⟨k.1, hX _ _ _ _ _ _ k.2⟩ | exact k.elim
theorem mono_dupx1 (n : Nat) : Mono (k_dupx1 n) := by
  intro X Y Q Q' hX hQ lv st h c s k
  unfold k_dupx1 at *; split at k <;> first | exact ⟨k.1, k.2.1, hX _ _ _ _ _ _ k.2.2⟩ | exact k.elim
theorem mono_dup2 (n : Nat) : Mono (k_dup2 n) := by
  intro X Y Q Q' hX hQ lv st h c s k
  unfold k_dup2 at *; split at k <;> first | exact ⟨k.1, k.2.1, hX _ _ _ _ _ _ k.2.2⟩ | exact k.elim
theorem cat2_cv {ad : Nat → Nat} {v : Value} (h : cat2 v = false) : (cv ad v).category = 1 := by
  cases v with
  | ref a => show (va_rf (ro ad a)).category = 1; unfold ro; split <;> rfl
  | long x => cases h
  | double x => cases h
  | _ => rfl
theorem cat2_cv2 {ad : Nat → Nat} {v : Value} (h : cat2 v = true) : (cv ad v).category = 2 := by
  cases v with
  | long x => rfl
  | double x => rfl
  | _ => cases h
theorem getD_some {lv : List Value} {i : Nat} {v : Value} (h : lv.getD i .null = v) (hv : v ≠ .null) : lv[i]? = some v := by
  rw [List.getD_eq_getElem?_getD] at h
  cases hq : lv[i]? with
  | none => rw [hq] at h; exact absurd h.symm hv
  | some x => rw [hq] at h; rw [← h]; rfl
theorem lvr_at {ad : Nat → Nat} {ls : Array Slot} {lv : List Value} {nL i : Nat} {v : Value} (h : lvr ad ls lv nL) (hi : lv.getD i .null = v) (hv : v ≠ .null) : ls[i]? = some (.val (cv ad v)) := h.2.2.2 i v (getD_some hi hv) hv
theorem mem_getD {lv : List Value} {i : Nat} {v : Value} (h : lv.getD i .null = v) (hv : v ≠ .null) : v ∈ lv := List.mem_of_getElem? (getD_some h hv)
theorem put1_z (lv : List Value) (v : Value) : put1 lv 0 v = lv.set 0 v := rfl
theorem put1_s (lv : List Value) (j : Nat) (v : Value) : put1 lv (j + 1) v = if cat2 (lv.getD j .null) = true then (lv.set j .null).set (j + 1) v else lv.set (j + 1) v := rfl
theorem put1_len (lv : List Value) (i : Nat) (v : Value) : (put1 lv i v).length = lv.length := by
  cases i with
  | zero => rw [put1_z, List.length_set]
  | succ j => rw [put1_s]; split <;> simp only [List.length_set]
theorem put1_mem {lv : List Value} {i : Nat} {v w : Value} (h : w ∈ put1 lv i v) : w ∈ lv ∨ w = v ∨ w = .null := by
  cases i with
  | zero =>
    have h : w ∈ lv.set 0 v := h
    rcases List.mem_or_eq_of_mem_set h with q | q
    · exact Or.inl q
    · exact Or.inr (Or.inl q)
  | succ j =>
    rw [put1_s] at h
    split at h
    · rcases List.mem_or_eq_of_mem_set h with q | q
      · rcases List.mem_or_eq_of_mem_set q with q | q
        · exact Or.inl q
        · exact Or.inr (Or.inr q)
      · exact Or.inr (Or.inl q)
    · rcases List.mem_or_eq_of_mem_set h with q | q
      · exact Or.inl q
      · exact Or.inr (Or.inl q)
theorem put1_ref {n : Nat} {lv : List Value} {i : Nat} {v : Value} (h : ∀ w ∈ lv, refOK n w) (hv : refOK n v) : ∀ w ∈ put1 lv i v, refOK n w := by
  intro w hw
  rcases put1_mem hw with q | q | q
  · exact h w q
  · rw [q]; exact hv
  · rw [q]; trivial
theorem put2_ref {n : Nat} {lv : List Value} {i : Nat} {v : Value} (h : ∀ w ∈ lv, refOK n w) (hv : refOK n v) : ∀ w ∈ put2 lv i v, refOK n w := by
  intro w hw
  rcases List.mem_or_eq_of_mem_set hw with q | q
  · exact put1_ref h hv w q
  · rw [q]; trivial
/-- the locals as an association list, as the kit has them -/
def alist (ad : Nat → Nat) (lv : List Value) : List (Nat × Value) := (List.range lv.length).filterMap (fun i => match lv[i]? with
  | some Value.null => none
  | some v => some (i, cv ad v)
  | none => none)
theorem alist_mem {ad : Nat → Nat} {lv : List Value} {q : Nat × Value} : q ∈ alist ad lv ↔ ∃ v, lv[q.1]? = some v ∧ v ≠ .null ∧ q.2 = cv ad v := by
  unfold alist
  rw [List.mem_filterMap]
  constructor
  · rintro ⟨i, hi, hq⟩
    cases hl : lv[i]? with
    | none => rw [hl] at hq; cases hq
    | some v =>
      rw [hl] at hq
      by_cases hv : v = .null
      · subst hv; cases hq
      · have : (some (i, cv ad v) : Option (Nat × Value)) = some q := by
          cases v <;> first | exact hq | exact absurd rfl hv
        cases this
        exact ⟨v, hl, hv, rfl⟩
  · rintro ⟨v, hl, hv, h2⟩
    refine ⟨q.1, ?_, ?_⟩
    · rw [List.mem_range]
      exact (List.getElem?_eq_some_iff.mp hl).1
    · rw [hl]
      have : (some (q.1, cv ad v) : Option (Nat × Value)) = some q := by rw [← h2]
      cases v <;> first | exact this | exact absurd rfl hv
theorem lvr_has {ad : Nat → Nat} {ls : Array Slot} {lv : List Value} {nL : Nat} (h : lvr ad ls lv nL) : lv_has ls nL (alist ad lv) := by
  refine ⟨h.1, h.2.2.1, fun q hq => ?_⟩
  obtain ⟨v, h1, h2, h3⟩ := alist_mem.mp hq
  rw [h3]
  exact h.2.2.2 _ _ h1 h2
theorem lvr_put1 {ad : Nat → Nat} {ls : Array Slot} {lv : List Value} {nL i : Nat} {v : Value} (h : lvr ad ls lv nL) (hi : i < nL) (hc : cat2 v = false) : ∃ ls', storeLocals ls i (cv ad v) = some ls' ∧ lvr ad ls' (put1 lv i v) nL := by
  obtain ⟨ls', e, h'⟩ := lv_store1 (lvr_has h) hi (cat2_cv (ad := ad) hc)
  refine ⟨ls', e, h'.1, by rw [put1_len]; exact h.2.1, h'.2.1, fun j w hw hn => ?_⟩
  by_cases hj : j = i
  · subst hj
    have hwv : w = v := by
      cases j with
      | zero =>
        have hw : (lv.set 0 v)[0]? = some w := hw
        rw [List.getElem?_set] at hw
        simp at hw
        exact hw.2.symm
      | succ j =>
        rw [put1_s] at hw
        split at hw <;> (rw [List.getElem?_set] at hw; simp at hw; exact hw.2.symm)
    subst hwv
    exact h'.2.2 (j, cv ad w) List.mem_cons_self
  · refine h'.2.2 (j, cv ad w) (List.mem_cons_of_mem _ (List.mem_filter.mpr ⟨?_, ?_⟩))
    · refine alist_mem.mpr ⟨w, ?_, hn, rfl⟩
      cases i with
      | zero =>
        have hw : (lv.set 0 v)[j]? = some w := hw
        rw [List.getElem?_set, if_neg (fun q => hj q.symm)] at hw
        exact hw
      | succ i =>
        rw [put1_s] at hw
        split at hw
        · rw [List.getElem?_set, if_neg (fun q => hj q.symm), List.getElem?_set] at hw
          split at hw
          · split at hw
            · cases hw; exact absurd rfl hn
            · cases hw
          · exact hw
        · rw [List.getElem?_set, if_neg (fun q => hj q.symm)] at hw
          exact hw
    · simp only [Bool.and_eq_true, Bool.not_eq_true', beq_eq_false_iff_ne, ne_eq, Bool.and_eq_false_iff]
      refine ⟨hj, ?_⟩
      by_cases hji : j + 1 = i
      · right
        subst hji
        rw [put1_s] at hw
        split at hw
        · rw [List.getElem?_set, if_neg (by omega), List.getElem?_set] at hw
          simp at hw
          exact absurd hw.2.symm hn
        · next hcc =>
          rw [List.getElem?_set, if_neg (by omega)] at hw
          have hd : lv.getD j .null = w := by rw [List.getD_eq_getElem?_getD, hw]; rfl
          rw [hd] at hcc
          have := cat2_cv (ad := ad) (v := w) (by simpa using hcc)
          rw [this]
          decide
      · left; exact hji
theorem lvr_put2 {ad : Nat → Nat} {ls : Array Slot} {lv : List Value} {nL i : Nat} {v : Value} (h : lvr ad ls lv nL) (hi : i + 1 < nL) (hc : cat2 v = true) : ∃ ls', storeLocals ls i (cv ad v) = some ls' ∧ lvr ad ls' (put2 lv i v) nL := by
  obtain ⟨ls', e, h'⟩ := lv_store2 (lvr_has h) hi (cat2_cv2 (ad := ad) hc)
  refine ⟨ls', e, h'.1, by unfold put2; rw [List.length_set, put1_len]; exact h.2.1, h'.2.1, fun j w hw hn => ?_⟩
  have hj2 : ¬ j = i + 1 := by
    intro q
    subst q
    unfold put2 at hw
    rw [List.getElem?_set] at hw
    simp at hw
    exact hn hw.2.symm
  unfold put2 at hw
  rw [List.getElem?_set, if_neg (fun q => hj2 q.symm)] at hw
  by_cases hj : j = i
  · subst hj
    have hwv : w = v := by
      cases j with
      | zero =>
        have hw : (lv.set 0 v)[0]? = some w := hw
        rw [List.getElem?_set] at hw
        simp at hw
        exact hw.2.symm
      | succ j =>
        rw [put1_s] at hw
        split at hw <;> (rw [List.getElem?_set] at hw; simp at hw; exact hw.2.symm)
    subst hwv
    exact h'.2.2 (j, cv ad w) List.mem_cons_self
  · refine h'.2.2 (j, cv ad w) (List.mem_cons_of_mem _ (List.mem_filter.mpr ⟨?_, ?_⟩))
    · refine alist_mem.mpr ⟨w, ?_, hn, rfl⟩
      cases i with
      | zero =>
        have hw : (lv.set 0 v)[j]? = some w := hw
        rw [List.getElem?_set, if_neg (fun q => hj q.symm)] at hw
        exact hw
      | succ i =>
        rw [put1_s] at hw
        split at hw
        · rw [List.getElem?_set, if_neg (fun q => hj q.symm), List.getElem?_set] at hw
          split at hw
          · split at hw
            · cases hw; exact absurd rfl hn
            · cases hw
          · exact hw
        · rw [List.getElem?_set, if_neg (fun q => hj q.symm)] at hw
          exact hw
    · simp only [Bool.and_eq_true, Bool.not_eq_true', beq_eq_false_iff_ne, ne_eq, Bool.and_eq_false_iff]
      refine ⟨hj, hj2, ?_⟩
      by_cases hji : j + 1 = i
      · right
        subst hji
        rw [put1_s] at hw
        split at hw
        · rw [List.getElem?_set, if_neg (by omega), List.getElem?_set] at hw
          simp at hw
          exact absurd hw.2.symm hn
        · next hcc =>
          rw [List.getElem?_set, if_neg (by omega)] at hw
          have hd : lv.getD j .null = w := by rw [List.getD_eq_getElem?_getD, hw]; rfl
          rw [hd] at hcc
          have := cat2_cv (ad := ad) (v := w) (by simpa using hcc)
          rw [this]
          decide
      · left; exact hji
