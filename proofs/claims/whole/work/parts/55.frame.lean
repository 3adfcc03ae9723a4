/-! EACH SIDE KEEPS TO ITSELF: what runs on cells of C (closed, with all cells to come) changes no other cell (printed by wip/whole/mkfr.py) -/
def InC (C : Nat → Prop) : Value → Prop
  | .ref a => C a
  | _ => True
def CB (C : Nat → Prop) (h : CH) (a : Nat) : Prop := C a ∧ a < hN h
def CloC (C : Nat → Prop) (h : CH) : Prop := (∀ a, hN h ≤ a → C a) ∧ (∀ a, a < W0 → CB C h a) ∧ (∀ a k, C a → CB C h (hR h a k)) ∧ (∀ a, a < W0 → (hT h a).1 = 99 ∧ ∀ k, hR h a k = 0) ∧ ∀ a k, hN h ≤ a → hR h a k = 0
def Fr (C : Nat → Prop) (h0 h : CH) : Prop := hN h0 ≤ hN h ∧ ∀ a, ¬ C a → hT h a = hT h0 a ∧ hI h a = hI h0 a ∧ hJ h a = hJ h0 a ∧ hR h a = hR h0 a ∧ hD h a = hD h0 a
def Good (C : Nat → Prop) (h0 : CH) (lv st : List Value) (h : CH) : Prop := (∀ v ∈ lv, InC (CB C h) v) ∧ (∀ v ∈ st, InC (CB C h) v) ∧ CloC C h ∧ Fr C h0 h
def XG (C : Nat → Prop) (h0 : CH) (X : XT) : XT := fun pc lv st h c s => X pc lv st h c s ∧ Good C h0 lv st h
def QG (C : Nat → Prop) (h0 : CH) (Q : QT) : QT := fun r h => Q r h ∧ CloC C h ∧ Fr C h0 h ∧ ∀ vs, r = .inl vs → ∀ v ∈ vs, InC (CB C h) v
def FrS (sm : Sem) : Prop := ∀ (C : Nat → Prop) (h0 : CH) (X : XT) (Q : QT) (lv st : List Value) (h : CH) (c s : Nat), Good C h0 lv st h → sm X Q lv st h c s → sm (XG C h0 X) (QG C h0 Q) lv st h c s
def FrW (w : WT) : Prop := ∀ (C : Nat → Prop) (h0 : CH) (av : List Value) (h : CH) (Q : QT), Good C h0 [] av h → w av h Q → w av h (QG C h0 Q)
section FRM
variable {C : Nat → Prop} {h0 h : CH} {lv st r : List Value} {v : Value} {a k : Nat}
theorem CB_le {h' : CH} (hn : hN h ≤ hN h') (H : CB C h a) : CB C h' a := ⟨H.1, Nat.lt_of_lt_of_le H.2 hn⟩
theorem InC_le {h' : CH} (hn : hN h ≤ hN h') (H : InC (CB C h) v) : InC (CB C h') v := by
  cases v <;> first | trivial | exact CB_le hn H
theorem G1 (G : Good C h0 lv (v :: r) h) : InC (CB C h) v ∧ Good C h0 lv r h := ⟨G.2.1 v List.mem_cons_self, G.1, fun w hw => G.2.1 w (List.mem_cons_of_mem _ hw), G.2.2⟩
theorem Gp (G : Good C h0 lv r h) (hv : InC (CB C h) v) : Good C h0 lv (v :: r) h := ⟨G.1, List.forall_mem_cons.mpr ⟨hv, G.2.1⟩, G.2.2⟩
theorem Gd (G : Good C h0 lv st h) (i : Nat) : InC (CB C h) (lv.getD i .null) := by
  rw [List.getD_eq_getElem?_getD]
  cases e : lv[i]? with
  | none => trivial
  | some w => exact G.1 w (List.mem_of_getElem? e)
theorem mem_set_InC {i : Nat} (hl : ∀ w ∈ lv, InC C w) (hv : InC C v) : ∀ w ∈ lv.set i v, InC C w := fun w hw => by
  rcases List.mem_or_eq_of_mem_set hw with q | q
  · exact hl w q
  · rw [q]; exact hv
theorem put1_InC (hl : ∀ w ∈ lv, InC C w) (hv : InC C v) : ∀ i, ∀ w ∈ put1 lv i v, InC C w
  | 0 => mem_set_InC hl hv
  | j + 1 => by
    show ∀ w ∈ (if cat2 (lv.getD j .null) = true then (lv.set j .null).set (j + 1) v else lv.set (j + 1) v), InC C w
    split
    · exact mem_set_InC (mem_set_InC hl trivial) hv
    · exact mem_set_InC hl hv
theorem Gl {i : Nat} (G : Good C h0 lv st h) (hv : InC (CB C h) v) : Good C h0 (put1 lv i v) st h := ⟨put1_InC G.1 hv i, G.2⟩
theorem Gl2 {i : Nat} (G : Good C h0 lv st h) (hv : InC (CB C h) v) : Good C h0 (put2 lv i v) st h := ⟨mem_set_InC (put1_InC G.1 hv i) trivial, G.2⟩
theorem Gh {h' : CH} (G : Good C h0 lv st h) (c : CloC C h') (f : Fr C h0 h') (hn : hN h ≤ hN h' := by first | exact Nat.le_refl _ | exact Nat.le_succ _) : Good C h0 lv st h' := ⟨fun w q => InC_le hn (G.1 w q), fun w q => InC_le hn (G.2.1 w q), c, f⟩
theorem W0_of {c : Nat} (H : CloC C h) (e : (hT h a).1 = c) (hc : c ≠ 99) : W0 ≤ a := by
  rcases Nat.lt_or_ge a W0 with q | q
  · exact absurd (e.symm.trans (H.2.2.2.1 a q).1) hc
  · exact q
theorem W0_hN (H : CloC C h) : W0 ≤ hN h := by
  have z := (H.2.1 299 (by decide)).2
  have e : W0 = 300 := rfl
  omega
theorem CloC_sR {w : Nat} (H : CloC C h) (ha : W0 ≤ a) (ha2 : a < hN h) (hw : CB C h w) : CloC C (sR h a k w) := ⟨H.1, H.2.1, fun b j hb => by
  rw [hR_sR]
  split
  · exact hw
  · exact H.2.2.1 b j hb, fun b hb => ⟨(H.2.2.2.1 b hb).1, fun j => by
  rw [hR_sR, if_neg (fun z => by omega)]
  exact (H.2.2.2.1 b hb).2 j⟩, fun b j hb => by
  rw [hN_sR] at hb
  rw [hR_sR, if_neg (fun z => by omega)]
  exact H.2.2.2.2 b j hb⟩
theorem CloC_nw {t : Nat × Nat} (H : CloC C h) : CloC C (nw h t) := ⟨fun b hb => H.1 b (by rw [hN_nw] at hb; omega), fun b q => CB_le (Nat.le_succ _) (H.2.1 b q), fun b j hb => by
  rw [hR_nw]
  split
  · exact CB_le (Nat.le_succ _) (H.2.1 0 (by decide))
  · exact CB_le (Nat.le_succ _) (H.2.2.1 b j hb), fun b hb => by
  have hw := W0_hN H
  rw [hT_nw, if_neg (by omega)]
  refine ⟨(H.2.2.2.1 b hb).1, fun j => ?_⟩
  rw [hR_nw, if_neg (by omega)]
  exact (H.2.2.2.1 b hb).2 j, fun b j hb => by
  rw [hN_nw] at hb
  rw [hR_nw, if_neg (by omega)]
  exact H.2.2.2.2 b j (by omega)⟩
theorem CloC_clI (H : CloC C h) : CloC C (clI h a) := ⟨fun b hb => H.1 b (by rw [hN_clI] at hb; omega), fun b q => CB_le (Nat.le_succ _) (H.2.1 b q), fun b j hb => by
  rw [hR_clI]
  split
  · exact CB_le (Nat.le_succ _) (H.2.1 0 (by decide))
  · exact CB_le (Nat.le_succ _) (H.2.2.1 b j hb), fun b hb => by
  have hw := W0_hN H
  rw [hT_clI, if_neg (by omega)]
  refine ⟨(H.2.2.2.1 b hb).1, fun j => ?_⟩
  rw [hR_clI, if_neg (by omega)]
  exact (H.2.2.2.1 b hb).2 j, fun b j hb => by
  rw [hN_clI] at hb
  rw [hR_clI, if_neg (by omega)]
  exact H.2.2.2.2 b j (by omega)⟩
theorem CloC_cpR {b sp dp n : Nat} (H : CloC C h) (ha : CB C h a) (hb : CB C h b) (hb0 : W0 ≤ b) : CloC C (cpR h a b sp dp n) := ⟨H.1, H.2.1, fun x j hx => by
  rw [hR_cpR]
  split
  · unfold va_cpy
    split
    · exact H.2.2.1 _ _ ha.1
    · exact H.2.2.1 _ _ hb.1
  · exact H.2.2.1 x j hx, fun x hx => ⟨(H.2.2.2.1 x hx).1, fun j => by
  rw [hR_cpR, if_neg (by omega)]
  exact (H.2.2.2.1 x hx).2 j⟩, fun x j hx => by
  have h2 : hN h ≤ x := hx
  rw [hR_cpR, if_neg (by have := hb.2; omega)]
  exact H.2.2.2.2 x j h2⟩
theorem Fr_of {h' : CH} (F : Fr C h0 h) (hn : hN h ≤ hN h') (e : ∀ b, ¬ C b → hT h' b = hT h b ∧ hI h' b = hI h b ∧ hJ h' b = hJ h b ∧ hR h' b = hR h b ∧ hD h' b = hD h b) : Fr C h0 h' := ⟨Nat.le_trans F.1 hn, fun b hb => by
  obtain ⟨a1, a2, a3, a4, a5⟩ := e b hb
  obtain ⟨b1, b2, b3, b4, b5⟩ := F.2 b hb
  exact ⟨a1.trans b1, a2.trans b2, a3.trans b3, a4.trans b4, a5.trans b5⟩⟩
theorem Fr_sI {w : Int32} (F : Fr C h0 h) (ha : CB C h a) : Fr C h0 (sI h a k w) := Fr_of F (Nat.le_refl _) fun b hb => ⟨rfl, funext fun j => by rw [hI_sI, if_neg (fun (q : b = a ∧ j = k) => hb (q.1 ▸ ha.1))], rfl, rfl, rfl⟩
theorem Fr_sJ {w : Int64} (F : Fr C h0 h) (ha : CB C h a) : Fr C h0 (sJ h a k w) := Fr_of F (Nat.le_refl _) fun b hb => ⟨rfl, rfl, funext fun j => by rw [hJ_sJ, if_neg (fun (q : b = a ∧ j = k) => hb (q.1 ▸ ha.1))], rfl, rfl⟩
theorem Fr_sR {w : Nat} (F : Fr C h0 h) (ha : CB C h a) : Fr C h0 (sR h a k w) := Fr_of F (Nat.le_refl _) fun b hb => ⟨rfl, rfl, rfl, funext fun j => by rw [hR_sR, if_neg (fun (q : b = a ∧ j = k) => hb (q.1 ▸ ha.1))], rfl⟩
theorem Fr_sD {w : UInt64} (F : Fr C h0 h) (ha : CB C h a) : Fr C h0 (sD h a k w) := Fr_of F (Nat.le_refl _) fun b hb => ⟨rfl, rfl, rfl, rfl, funext fun j => by rw [hD_sD, if_neg (fun (q : b = a ∧ j = k) => hb (q.1 ▸ ha.1))]⟩
theorem Fr_nw {t : Nat × Nat} (F : Fr C h0 h) (H : CloC C h) : Fr C h0 (nw h t) := Fr_of F (Nat.le_succ _) fun b hb => by
  have hne : b ≠ hN h := fun q => hb (H.1 b (by omega))
  exact ⟨by rw [hT_nw, if_neg hne], funext fun j => by rw [hI_nw, if_neg hne], funext fun j => by rw [hJ_nw, if_neg hne], funext fun j => by rw [hR_nw, if_neg hne], funext fun j => by rw [hD_nw, if_neg hne]⟩
theorem Fr_clI (F : Fr C h0 h) (H : CloC C h) : Fr C h0 (clI h a) := Fr_of F (Nat.le_succ _) fun b hb => by
  have hne : b ≠ hN h := fun q => hb (H.1 b (by omega))
  exact ⟨by rw [hT_clI, if_neg hne], funext fun j => by rw [hI_clI, if_neg hne], funext fun j => by rw [hJ_clI, if_neg hne], funext fun j => by rw [hR_clI, if_neg hne], funext fun j => by rw [hD_clI, if_neg hne]⟩
theorem Fr_cpI {b sp dp n : Nat} (F : Fr C h0 h) (hb : CB C h b) : Fr C h0 (cpI h a b sp dp n) := Fr_of F (Nat.le_refl _) fun x hx => ⟨rfl, funext fun j => by rw [hI_cpI, if_neg (fun (q : x = b) => hx (q ▸ hb.1))], rfl, rfl, rfl⟩
theorem Fr_cpR {b sp dp n : Nat} (F : Fr C h0 h) (hb : CB C h b) : Fr C h0 (cpR h a b sp dp n) := Fr_of F (Nat.le_refl _) fun x hx => ⟨rfl, rfl, rfl, funext fun j => by rw [hR_cpR, if_neg (fun (q : x = b) => hx (q ▸ hb.1))], rfl⟩
theorem Gret (G : Good C h0 lv [v] h) : CloC C h ∧ Fr C h0 h ∧ ∀ vs, (.inl [v] : List Value ⊕ String) = .inl vs → ∀ w ∈ vs, InC (CB C h) w := ⟨G.2.2.1, G.2.2.2, fun vs e w hw => by cases e; exact G.2.1 w hw⟩
end FRM
theorem fr_goto (n : Nat) : FrS (k_goto n) := fun _ _ _ _ _ _ _ _ _ G k => ⟨k, G⟩
theorem fr_no : FrS k_no := fun _ _ _ _ _ _ _ _ _ _ k => k
theorem fr_pushI (n : Nat) (v : Int32) : FrS (k_push n (.int v)) := fun _ _ _ _ _ _ _ _ _ G k => ⟨k, Gp G trivial⟩
theorem fr_ldI (n : Nat) (i : Nat) : FrS (k_ldI n i) := by
  intro C h0 X Q lv st h c s G k
  unfold k_ldI at *
  split at k
  · exact ⟨k, Gp G trivial⟩
  · exact k.elim
theorem fr_pushL (n : Nat) (v : Int64) : FrS (k_push n (.long v)) := fun _ _ _ _ _ _ _ _ _ G k => ⟨k, Gp G trivial⟩
theorem fr_ldL (n : Nat) (i : Nat) : FrS (k_ldL n i) := by
  intro C h0 X Q lv st h c s G k
  unfold k_ldL at *
  split at k
  · exact ⟨k, Gp G trivial⟩
  · exact k.elim
theorem fr_pushF (n : Nat) (v : UInt32) : FrS (k_push n (.float v)) := fun _ _ _ _ _ _ _ _ _ G k => ⟨k, Gp G trivial⟩
theorem fr_ldF (n : Nat) (i : Nat) : FrS (k_ldF n i) := by
  intro C h0 X Q lv st h c s G k
  unfold k_ldF at *
  split at k
  · exact ⟨k, Gp G trivial⟩
  · exact k.elim
theorem fr_pushD (n : Nat) (v : UInt64) : FrS (k_push n (.double v)) := fun _ _ _ _ _ _ _ _ _ G k => ⟨k, Gp G trivial⟩
theorem fr_ldD (n : Nat) (i : Nat) : FrS (k_ldD n i) := by
  intro C h0 X Q lv st h c s G k
  unfold k_ldD at *
  split at k
  · exact ⟨k, Gp G trivial⟩
  · exact k.elim
theorem fr_pushR (n q : Nat) (hq : q < W0) : FrS (k_push n (.ref q)) := fun _ _ _ _ _ _ _ _ _ G k => ⟨k, Gp G (G.2.2.1.2.1 q hq)⟩
theorem fr_ldA (n : Nat) (i : Nat) : FrS (k_ldA n i) := by
  intro C h0 X Q lv st h c s G k
  unfold k_ldA at *
  have d := Gd G i
  split at k
  · next x e => rw [e] at d; exact ⟨k, Gp G d⟩
  · exact k.elim
theorem fr_stI (n : Nat) (i : Nat) : FrS (k_stI n i) := by
  intro C h0 X Q lv st h c s G k
  unfold k_stI at *
  split at k
  · exact ⟨k, Gl (G1 G).2 (G1 G).1⟩
  · exact k.elim
theorem fr_stF (n : Nat) (i : Nat) : FrS (k_stF n i) := by
  intro C h0 X Q lv st h c s G k
  unfold k_stF at *
  split at k
  · exact ⟨k, Gl (G1 G).2 (G1 G).1⟩
  · exact k.elim
theorem fr_stA (n : Nat) (i : Nat) : FrS (k_stA n i) := by
  intro C h0 X Q lv st h c s G k
  unfold k_stA at *
  split at k
  · exact ⟨k, Gl (G1 G).2 (G1 G).1⟩
  · exact k.elim
theorem fr_stL (n : Nat) (i : Nat) : FrS (k_stL n i) := by
  intro C h0 X Q lv st h c s G k
  unfold k_stL at *
  split at k
  · exact ⟨k, Gl2 (G1 G).2 (G1 G).1⟩
  · exact k.elim
theorem fr_stD (n : Nat) (i : Nat) : FrS (k_stD n i) := by
  intro C h0 X Q lv st h c s G k
  unfold k_stD at *
  split at k
  · exact ⟨k, Gl2 (G1 G).2 (G1 G).1⟩
  · exact k.elim
theorem fr_iinc (n : Nat) (i : Nat) (d : Int32) : FrS (k_iinc n i d) := by
  intro C h0 X Q lv st h c s G k
  unfold k_iinc at *
  split at k
  · exact ⟨k, Gl G trivial⟩
  · exact k.elim
theorem fr_bI (n : Nat) (f : Int32 → Int32 → Int32) : FrS (k_bI n f) := by
  intro C h0 X Q lv st h c s G k
  unfold k_bI at *
  split at k
  · exact ⟨k, Gp (G1 (G1 G).2).2 trivial⟩
  · exact k.elim
theorem fr_dI (n : Nat) (f : Int32 → Int32 → Int32) : FrS (k_dI n f) := by
  intro C h0 X Q lv st h c s G k
  unfold k_dI at *
  split at k
  · exact ⟨k.1, k.2, Gp (G1 (G1 G).2).2 trivial⟩
  · exact k.elim
theorem fr_bL (n : Nat) (f : Int64 → Int64 → Int64) : FrS (k_bL n f) := by
  intro C h0 X Q lv st h c s G k
  unfold k_bL at *
  split at k
  · exact ⟨k, Gp (G1 (G1 G).2).2 trivial⟩
  · exact k.elim
theorem fr_lcmp (n : Nat) : FrS (k_lcmp n) := by
  intro C h0 X Q lv st h c s G k
  unfold k_lcmp at *
  split at k
  · exact ⟨k, Gp (G1 (G1 G).2).2 trivial⟩
  · exact k.elim
theorem fr_uI (n : Nat) (f : Int32 → Value) (hf : ∀ C x, InC C (f x)) : FrS (k_uI n f) := by
  intro C h0 X Q lv st h c s G k
  unfold k_uI at *
  split at k
  · exact ⟨k, Gp (G1 G).2 (hf _ _)⟩
  · exact k.elim
theorem fr_l2d (n : Nat) : FrS (k_l2d n) := by
  intro C h0 X Q lv st h c s G k
  unfold k_l2d at *
  split at k
  · exact ⟨k, Gp (G1 G).2 trivial⟩
  · exact k.elim
theorem fr_f2i (n : Nat) : FrS (k_f2i n) := by
  intro C h0 X Q lv st h c s G k
  unfold k_f2i at *
  split at k
  · exact ⟨k, Gp (G1 G).2 trivial⟩
  · exact k.elim
theorem fr_f2d (n : Nat) : FrS (k_f2d n) := by
  intro C h0 X Q lv st h c s G k
  unfold k_f2d at *
  split at k
  · exact ⟨k.1, k.2, Gp (G1 G).2 trivial⟩
  · exact k.elim
theorem fr_bF (n : Nat) (f : UInt32 → UInt32 → UInt32) : FrS (k_bF n f) := by
  intro C h0 X Q lv st h c s G k
  unfold k_bF at *
  split at k
  · exact ⟨k.1, k.2, Gp (G1 (G1 G).2).2 trivial⟩
  · exact k.elim
theorem fr_bD (n : Nat) (f : UInt64 → UInt64 → UInt64) : FrS (k_bD n f) := by
  intro C h0 X Q lv st h c s G k
  unfold k_bD at *
  split at k
  · exact ⟨k.1, k.2, Gp (G1 (G1 G).2).2 trivial⟩
  · exact k.elim
theorem fr_fcmp (n : Nat) (op : CmpOp) : FrS (k_fcmp n op) := by
  intro C h0 X Q lv st h c s G k
  unfold k_fcmp at *
  split at k
  · exact ⟨k, Gp (G1 (G1 G).2).2 trivial⟩
  · exact k.elim
theorem fr_dcmp (n : Nat) (op : CmpOp) : FrS (k_dcmp n op) := by
  intro C h0 X Q lv st h c s G k
  unfold k_dcmp at *
  split at k
  · exact ⟨k, Gp (G1 (G1 G).2).2 trivial⟩
  · exact k.elim
theorem fr_if (n t : Nat) (P : Int32 → Prop) : FrS (k_if n t P) := by
  intro C h0 X Q lv st h c s G k
  unfold k_if at *
  split at k
  · exact ⟨fun q => ⟨k.1 q, (G1 G).2⟩, fun q => ⟨k.2 q, (G1 G).2⟩⟩
  · exact k.elim
theorem fr_ic (n t : Nat) (P : Int32 → Int32 → Prop) : FrS (k_ic n t P) := by
  intro C h0 X Q lv st h c s G k
  unfold k_ic at *
  split at k
  · exact ⟨fun q => ⟨k.1 q, (G1 (G1 G).2).2⟩, fun q => ⟨k.2 q, (G1 (G1 G).2).2⟩⟩
  · exact k.elim
theorem fr_nul (n t : Nat) : FrS (k_nul n t) := by
  intro C h0 X Q lv st h c s G k
  unfold k_nul at *
  split at k
  · exact ⟨fun q => ⟨k.1 q, (G1 G).2⟩, fun q => ⟨k.2 q, (G1 G).2⟩⟩
  · exact k.elim
theorem fr_dup (n : Nat) : FrS (k_dup n) := by
  intro C h0 X Q lv st h c s G k
  unfold k_dup at *
  split at k
  · exact ⟨k.1, k.2, Gp G (G1 G).1⟩
  · exact k.elim
theorem fr_pop (n : Nat) : FrS (k_pop n) := by
  intro C h0 X Q lv st h c s G k
  unfold k_pop at *
  split at k
  · exact ⟨k.1, k.2, (G1 G).2⟩
  · exact k.elim
theorem fr_dupx1 (n : Nat) : FrS (k_dupx1 n) := by
  intro C h0 X Q lv st h c s G k
  unfold k_dupx1 at *
  split at k
  · exact ⟨k.1, k.2.1, k.2.2, Gp (Gp (Gp (G1 (G1 G).2).2 (G1 G).1) (G1 (G1 G).2).1) (G1 G).1⟩
  · exact k.elim
theorem fr_dup2 (n : Nat) : FrS (k_dup2 n) := by
  intro C h0 X Q lv st h c s G k
  unfold k_dup2 at *
  split at k
  · exact ⟨k.1, k.2.1, k.2.2, Gp (Gp G (G1 (G1 G).2).1) (G1 G).1⟩
  · exact k.elim
theorem fr_gI (n c f : Nat) : FrS (k_gI n c f) := by
  intro C h0 X Q lv st h cs ss G k
  unfold k_gI at *
  split at k
  · exact ⟨k.1, k.2, Gp (G1 G).2 trivial⟩
  · exact k.elim
theorem fr_gJ (n c f : Nat) : FrS (k_gJ n c f) := by
  intro C h0 X Q lv st h cs ss G k
  unfold k_gJ at *
  split at k
  · exact ⟨k.1, k.2, Gp (G1 G).2 trivial⟩
  · exact k.elim
theorem fr_gR (n c f : Nat) : FrS (k_gR n c f) := by
  intro C h0 X Q lv st h cs ss G k
  unfold k_gR at *
  split at k
  · exact ⟨k.1, k.2, Gp (G1 G).2 (G.2.2.1.2.2.1 _ _ (G1 G).1.1)⟩
  · exact k.elim
theorem fr_pI (n c f t : Nat) : FrS (k_pI n c f t) := by
  intro C h0 X Q lv st h cs ss G k
  unfold k_pI at *
  split at k
  · exact ⟨k.1, k.2.1, k.2.2, Gh (G1 (G1 G).2).2 G.2.2.1 (Fr_sI G.2.2.2 (G1 (G1 G).2).1)⟩
  · exact k.elim
theorem fr_pJ (n c f : Nat) : FrS (k_pJ n c f) := by
  intro C h0 X Q lv st h cs ss G k
  unfold k_pJ at *
  split at k
  · exact ⟨k.1, k.2, Gh (G1 (G1 G).2).2 G.2.2.1 (Fr_sJ G.2.2.2 (G1 (G1 G).2).1)⟩
  · exact k.elim
theorem fr_pR (n c f : Nat) (hc : c ≠ 99 := by decide) : FrS (k_pR n c f) := by
  intro C h0 X Q lv st h cs ss G k
  unfold k_pR at *
  split at k
  · exact ⟨k.1, k.2, Gh (G1 (G1 G).2).2 (CloC_sR G.2.2.1 (W0_of G.2.2.1 k.1 hc) (G1 (G1 G).2).1.2 (G1 G).1) (Fr_sR G.2.2.2 (G1 (G1 G).2).1)⟩
  · exact k.elim
theorem fr_aI (n kd : Nat) : FrS (k_aI n kd) := by
  intro C h0 X Q lv st h cs ss G k
  unfold k_aI at *
  split at k
  · exact ⟨k.1, k.2.1, k.2.2, Gp (G1 (G1 G).2).2 trivial⟩
  · exact k.elim
theorem fr_aJ (n kd : Nat) : FrS (k_aJ n kd) := by
  intro C h0 X Q lv st h cs ss G k
  unfold k_aJ at *
  split at k
  · exact ⟨k.1, k.2.1, k.2.2, Gp (G1 (G1 G).2).2 trivial⟩
  · exact k.elim
theorem fr_aD (n kd : Nat) : FrS (k_aD n kd) := by
  intro C h0 X Q lv st h cs ss G k
  unfold k_aD at *
  split at k
  · exact ⟨k.1, k.2.1, k.2.2, Gp (G1 (G1 G).2).2 trivial⟩
  · exact k.elim
theorem fr_aR (n kd : Nat) : FrS (k_aR n kd) := by
  intro C h0 X Q lv st h cs ss G k
  unfold k_aR at *
  split at k
  · exact ⟨k.1, k.2.1, k.2.2, Gp (G1 (G1 G).2).2 (G.2.2.1.2.2.1 _ _ (G1 (G1 G).2).1.1)⟩
  · exact k.elim
theorem fr_sI (n kd t : Nat) : FrS (k_sI n kd t) := by
  intro C h0 X Q lv st h cs ss G k
  unfold k_sI at *
  split at k
  · exact ⟨k.1, k.2.1, k.2.2.1, k.2.2.2, Gh (G1 (G1 (G1 G).2).2).2 G.2.2.1 (Fr_sI G.2.2.2 (G1 (G1 (G1 G).2).2).1)⟩
  · exact k.elim
theorem fr_sJ (n kd : Nat) : FrS (k_sJ n kd) := by
  intro C h0 X Q lv st h cs ss G k
  unfold k_sJ at *
  split at k
  · exact ⟨k.1, k.2.1, k.2.2, Gh (G1 (G1 (G1 G).2).2).2 G.2.2.1 (Fr_sJ G.2.2.2 (G1 (G1 (G1 G).2).2).1)⟩
  · exact k.elim
theorem fr_sD (n kd : Nat) : FrS (k_sD n kd) := by
  intro C h0 X Q lv st h cs ss G k
  unfold k_sD at *
  split at k
  · exact ⟨k.1, k.2.1, k.2.2, Gh (G1 (G1 (G1 G).2).2).2 G.2.2.1 (Fr_sD G.2.2.2 (G1 (G1 (G1 G).2).2).1)⟩
  · exact k.elim
theorem fr_sR (n kd c : Nat) (hc : kd ≠ 99 := by decide) : FrS (k_sR n kd c) := by
  intro C h0 X Q lv st h cs ss G k
  unfold k_sR at *
  split at k
  · exact ⟨k.1, k.2.1, k.2.2.1, k.2.2.2, Gh (G1 (G1 (G1 G).2).2).2 (CloC_sR G.2.2.1 (W0_of G.2.2.1 k.1 hc) (G1 (G1 (G1 G).2).2).1.2 (G1 G).1) (Fr_sR G.2.2.2 (G1 (G1 (G1 G).2).2).1)⟩
  · exact k.elim
theorem fr_sO (n : Nat) : FrS (k_sO n) := by
  intro C h0 X Q lv st h cs ss G k
  unfold k_sO at *
  split at k
  · exact ⟨k.1, k.2.1, k.2.2.1, k.2.2.2, Gh (G1 (G1 (G1 G).2).2).2 (CloC_sR G.2.2.1 (W0_of G.2.2.1 k.1 (by decide)) (G1 (G1 (G1 G).2).2).1.2 (G1 G).1) (Fr_sR G.2.2.2 (G1 (G1 (G1 G).2).2).1)⟩
  · exact k.elim
theorem fr_alen (n : Nat) : FrS (k_alen n) := by
  intro C h0 X Q lv st h cs ss G k
  unfold k_alen at *
  split at k
  · exact ⟨k.1, k.2, Gp (G1 G).2 trivial⟩
  · exact k.elim
theorem fr_new (n c N MC MS : Nat) : FrS (k_new n c N MC MS) := fun C h0 X Q lv st h cs ss G k => ⟨k.1, k.2.1, k.2.2, Gp (Gh G (CloC_nw G.2.2.1) (Fr_nw G.2.2.2 G.2.2.1)) ⟨G.2.2.1.1 _ (Nat.le_refl _), Nat.lt_succ_self _⟩⟩
theorem fr_newa (n kd MC MS : Nat) : FrS (k_newa n kd MC MS) := by
  intro C h0 X Q lv st h cs ss G k
  unfold k_newa at *
  split at k
  · exact ⟨k.1, k.2.1, k.2.2.1, k.2.2.2, Gp (Gh (G1 G).2 (CloC_nw G.2.2.1) (Fr_nw G.2.2.2 G.2.2.1)) ⟨G.2.2.1.1 _ (Nat.le_refl _), Nat.lt_succ_self _⟩⟩
  · exact k.elim
theorem fr_cast (n c : Nat) : FrS (k_cast n c) := by
  intro C h0 X Q lv st h cs ss G k
  unfold k_cast at *
  split at k
  · exact ⟨k.1, k.2, G⟩
  · exact k.elim
theorem fr_oinit (n : Nat) : FrS (k_oinit n) := by
  intro C h0 X Q lv st h cs ss G k
  unfold k_oinit at *
  split at k
  · exact ⟨k.1, k.2.1, k.2.2, (G1 G).2⟩
  · exact k.elim
theorem fr_abs (n MC MS : Nat) : FrS (k_abs n MC MS) := by
  intro C h0 X Q lv st h cs ss G k
  unfold k_abs at *
  split at k
  · exact ⟨k.1, k.2.1, k.2.2.1, k.2.2.2, Gp (G1 G).2 trivial⟩
  · exact k.elim
theorem fr_max (n MC MS : Nat) : FrS (k_max n MC MS) := by
  intro C h0 X Q lv st h cs ss G k
  unfold k_max at *
  split at k
  · exact ⟨k.1, k.2.1, k.2.2.1, k.2.2.2, Gp (G1 (G1 G).2).2 trivial⟩
  · exact k.elim
theorem fr_min (n MC MS : Nat) : FrS (k_min n MC MS) := by
  intro C h0 X Q lv st h cs ss G k
  unfold k_min at *
  split at k
  · exact ⟨k.1, k.2.1, k.2.2.1, k.2.2.2, Gp (G1 (G1 G).2).2 trivial⟩
  · exact k.elim
theorem fr_copyI (n : Nat) : FrS (k_copyI n) := by
  intro C h0 X Q lv st h cs ss G k
  unfold k_copyI at *
  split at k
  · exact ⟨k.1, k.2.1, k.2.2.1, k.2.2.2.1, k.2.2.2.2.1, k.2.2.2.2.2.1, k.2.2.2.2.2.2.1, k.2.2.2.2.2.2.2.1, k.2.2.2.2.2.2.2.2, Gh (G1 (G1 (G1 (G1 (G1 G).2).2).2).2).2 G.2.2.1 (Fr_cpI G.2.2.2 (G1 (G1 (G1 G).2).2).1)⟩
  · exact k.elim
theorem fr_copyR (n : Nat) : FrS (k_copyR n) := by
  intro C h0 X Q lv st h cs ss G k
  unfold k_copyR at *
  split at k
  · exact ⟨k.1, k.2.1, k.2.2.1, k.2.2.2.1, k.2.2.2.2.1, k.2.2.2.2.2.1, k.2.2.2.2.2.2.1, k.2.2.2.2.2.2.2.1, k.2.2.2.2.2.2.2.2.1, k.2.2.2.2.2.2.2.2.2, Gh (G1 (G1 (G1 (G1 (G1 G).2).2).2).2).2 (CloC_cpR G.2.2.1 (G1 (G1 (G1 (G1 (G1 G).2).2).2).2).1 (G1 (G1 (G1 G).2).2).1 (W0_of G.2.2.1 k.2.1 (by decide))) (Fr_cpR G.2.2.2 (G1 (G1 (G1 G).2).2).1)⟩
  · exact k.elim
theorem fr_aBox (n : Nat) : FrS (k_aBox n) := by
  intro C h0 X Q lv st h cs ss G k
  unfold k_aBox at *
  split at k
  · exact ⟨k.1, k.2.1, k.2.2, Gp (G1 (G1 G).2).2 (G.2.2.1.2.1 _ (by have := k.2.1; unfold vp_in at this; unfold W0; have h9 : _ < 256 := Nat.not_le.mp (fun q => this (Or.inr q)); omega))⟩
  · exact k.elim
theorem fr_gBox (n : Nat) : FrS (k_gBox n) := by
  intro C h0 X Q lv st h cs ss G k
  unfold k_gBox at *
  split at k
  · exact ⟨k.1, k.2, Gp (G1 G).2 trivial⟩
  · exact k.elim
theorem fr_cc (n : Nat) (P : Nat → Prop) : FrS (k_cc n P) := by
  intro C h0 X Q lv st h cs ss G k
  unfold k_cc at *
  split at k
  · exact ⟨k.1, k.2, G⟩
  · exact k.elim
theorem fr_alenX (n q N : Nat) : FrS (k_alenX n q N) := by
  intro C h0 X Q lv st h cs ss G k
  unfold k_alenX at *
  split at k
  · split at k
    · next e => simp only [e, if_true]; exact ⟨k, Gp (G1 G).2 trivial⟩
    · next e => simp only [e, if_false]; exact ⟨k.1, k.2, Gp (G1 G).2 trivial⟩
  · exact k.elim
theorem fr_aeq (t : Nat) : FrS (k_aeq t) := by
  intro C h0 X Q lv st h cs ss G k
  unfold k_aeq at *
  split at k
  · exact ⟨k.1, k.2, (G1 (G1 G).2).2⟩
  · exact k.elim
theorem fr_getC (n : Nat) : FrS (k_getC n) := by
  intro C h0 X Q lv st h cs ss G k
  unfold k_getC at *
  split at k
  · exact ⟨k.1, k.2.1, k.2.2, Gp (G1 G).2 (G.2.2.1.2.1 _ (by decide))⟩
  · exact k.elim
theorem fr_clo (n MC MS : Nat) : FrS (k_clo n MC MS) := by
  intro C h0 X Q lv st h cs ss G k
  unfold k_clo at *
  split at k
  · exact ⟨k.1, k.2.1, k.2.2.1, k.2.2.2.1, k.2.2.2.2, Gp (Gh (G1 G).2 (CloC_clI G.2.2.1) (Fr_clI G.2.2.2 G.2.2.1)) ⟨G.2.2.1.1 _ (Nat.le_refl _), Nat.lt_succ_self _⟩⟩
  · exact k.elim
theorem fr_gTx (n : Nat) (v : Value) (hv : ∀ a, v = .ref a → a < W0) : FrS (k_gTx n v) := by
  intro C h0 X Q lv st h cs ss G k
  unfold k_gTx at *
  split at k
  · exact ⟨k.1, k.2, Gp (G1 G).2 (by cases v <;> first | trivial | exact G.2.2.1.2.1 _ (hv _ rfl))⟩
  · exact k.elim
theorem fr_aTx (n : Nat) : FrS (k_aTx n) := by
  intro C h0 X Q lv st h cs ss G k
  unfold k_aTx at *
  split at k
  · exact ⟨k.1, k.2.1, k.2.2, Gp (G1 (G1 G).2).2 trivial⟩
  · exact k.elim
theorem fr_bits (n : Nat) : FrS (k_bits n) := by
  intro C h0 X Q lv st h cs ss G k
  unfold k_bits at *
  split at k
  · exact ⟨k.1, k.2, Gp (G1 G).2 trivial⟩
  · exact k.elim
theorem fr_retV (MC MS : Nat) : FrS (k_retV MC MS) := by
  intro C h0 X Q lv st h cs ss G k
  unfold k_retV at *
  split at k
  · exact ⟨k.1, k.2.1, k.2.2, G.2.2.1, G.2.2.2, fun vs e w hw => by cases e; cases hw⟩
  · exact k.elim
theorem fr_retI (t MC MS : Nat) : FrS (k_retI t MC MS) := by
  intro C h0 X Q lv st h cs ss G k
  unfold k_retI at *
  split at k
  · exact ⟨k.1, k.2.1, k.2.2.1, k.2.2.2, Gret G⟩
  · exact k.elim
theorem fr_retL (MC MS : Nat) : FrS (k_retL MC MS) := by
  intro C h0 X Q lv st h cs ss G k
  unfold k_retL at *
  split at k
  · exact ⟨k.1, k.2.1, k.2.2, Gret G⟩
  · exact k.elim
theorem fr_retF (MC MS : Nat) : FrS (k_retF MC MS) := by
  intro C h0 X Q lv st h cs ss G k
  unfold k_retF at *
  split at k
  · exact ⟨k.1, k.2.1, k.2.2, Gret G⟩
  · exact k.elim
theorem fr_retD (MC MS : Nat) : FrS (k_retD MC MS) := by
  intro C h0 X Q lv st h cs ss G k
  unfold k_retD at *
  split at k
  · exact ⟨k.1, k.2.1, k.2.2, Gret G⟩
  · exact k.elim
theorem fr_retA (MC MS : Nat) : FrS (k_retA MC MS) := by
  intro C h0 X Q lv st h cs ss G k
  unfold k_retA at *
  split at k
  · exact ⟨k.1, k.2.1, k.2.2, Gret G⟩
  · exact k.elim
theorem fr_throw (E : String) (MC MS : Nat) : FrS (k_throw E MC MS) := fun C h0 X Q lv st h cs ss G k => ⟨k.1, k.2.1, k.2.2.1, k.2.2.2, G.2.2.1, G.2.2.2, fun vs e => by cases e⟩
theorem Fr_rfl (C : Nat → Prop) (h : CH) : Fr C h h := ⟨Nat.le_refl _, fun _ _ => ⟨rfl, rfl, rfl, rfl, rfl⟩⟩
theorem Fr_tr {C : Nat → Prop} {f g h : CH} (F : Fr C f g) (G : Fr C g h) : Fr C f h := ⟨Nat.le_trans F.1 G.1, fun b hb => by
  obtain ⟨a1, a2, a3, a4, a5⟩ := G.2 b hb
  obtain ⟨b1, b2, b3, b4, b5⟩ := F.2 b hb
  exact ⟨a1.trans b1, a2.trans b2, a3.trans b3, a4.trans b4, a5.trans b5⟩⟩
theorem Good_st {C : Nat → Prop} {h0 h : CH} {lv st : List Value} (G : Good C h0 lv st h) : Good C h lv st h := ⟨G.1, G.2.1, G.2.2.1, Fr_rfl C h⟩
theorem Gargs {C : Nat → Prop} {h0 h : CH} {lv st : List Value} (G : Good C h0 lv st h) (na : Nat) : Good C h0 [] (st.take na).reverse h := ⟨fun v hv => (by cases hv), fun v hv => G.2.1 v (List.mem_of_mem_take (List.mem_reverse.mp hv)), G.2.2⟩
theorem Gback {C : Nat → Prop} {h0 h h' : CH} {lv st vs : List Value} (G : Good C h0 lv st h) (na : Nat) (c : CloC C h') (f : Fr C h h') (hv : ∀ v ∈ vs, InC (CB C h') v) : Good C h0 lv (vs ++ st.drop na) h' := ⟨fun v q => InC_le f.1 (G.1 v q), fun v q => (List.mem_append.mp q).elim (hv v) (fun z => InC_le f.1 (G.2.1 v (List.mem_of_mem_drop z))), c, Fr_tr G.2.2.2 f⟩
theorem fr_call (n na mc ms MC MS : Nat) (w : WT) (hw : ∀ av h (Q Q' : QT), (∀ r h, Q r h → Q' r h) → w av h Q → w av h Q') (hf : FrW w) : FrS (k_call n na mc ms MC MS w) := by
  intro C h0 X Q lv st h cs ss G k
  refine ⟨k.1, k.2.1, k.2.2.1, k.2.2.2.1, hw _ _ _ _ (fun r h' q => ?_) (hf C h _ _ _ (Good_st (Gargs G na)) k.2.2.2.2)⟩
  obtain ⟨q1, q2, q3, q4⟩ := q
  cases r with
  | inl vs => exact ⟨q1, Gback G na q2 q3 (q4 vs rfl)⟩
  | inr E => exact ⟨q1, q2, Fr_tr G.2.2.2 q3, fun vs e => by cases e⟩
theorem fr_callV (n na ci mc ms MC MS : Nat) (w : WT) (hw : ∀ av h (Q Q' : QT), (∀ r h, Q r h → Q' r h) → w av h Q → w av h Q') (hf : FrW w) : FrS (k_callV n na ci mc ms MC MS w) := fun C h0 X Q lv st h cs ss G k => ⟨k.1, fr_call n na mc ms MC MS w hw hf C h0 X Q lv st h cs ss G k.2⟩
theorem fr_callO (n na : Nat) (P : Nat → Prop) (mc ms MC MS : Nat) (w : WT) (hw : ∀ av h (Q Q' : QT), (∀ r h, Q r h → Q' r h) → w av h Q → w av h Q') (hf : FrW w) : FrS (k_callO n na P mc ms MC MS w) := fun C h0 X Q lv st h cs ss G k => ⟨k.1, fr_call n na mc ms MC MS w hw hf C h0 X Q lv st h cs ss G k.2⟩
theorem fr_callI (n na mc ms MC MS : Nat) (w : WT) (hw : ∀ av h (Q Q' : QT), (∀ r h, Q r h → Q' r h) → w av h Q → w av h Q') (hf : FrW w) : FrS (k_callI n na mc ms MC MS w) := by
  intro C h0 X Q lv st h cs ss G k
  refine ⟨k.1, k.2.1, k.2.2.1, k.2.2.2.1, hw _ _ _ _ (fun r h' q => ?_) (hf C h _ _ _ (Good_st (Gargs G (na + 1))) k.2.2.2.2)⟩
  obtain ⟨q1, q2, q3, q4⟩ := q
  cases r with
  | inl vs => exact ⟨q1, Gback G (na + 1) q2 q3 (q4 vs rfl)⟩
  | inr E => exact q1
def AllF : List (Nat × Sem) → Prop
  | [] => True
  | q :: r => FrS q.2 ∧ AllF r
theorem tab_fr : ∀ {L : List (Nat × Sem)}, AllF L → ∀ pc, FrS (tab L pc)
  | [], _, pc => fr_no
  | q :: r, h, pc => by
    rw [tab_cons]
    split
    · exact h.1
    · exact tab_fr h.2 pc
theorem wpI_fr {code : Nat → Sem} (hm : ∀ pc, Mono (code pc)) (hf : ∀ pc, FrS (code pc)) {C : Nat → Prop} {h0 : CH} {Q : QT} {pc : Nat} {lv st : List Value} {h : CH} {c s : Nat} (G : Good C h0 lv st h) (k : wpI code Q pc lv st h c s) : wpI code (QG C h0 Q) pc lv st h c s :=
  k (fun pc lv st h c s => Good C h0 lv st h → wpI code (QG C h0 Q) pc lv st h c s) (fun pc lv st h c s q G => wpI.step hm (hm pc _ _ _ _ (fun pc lv st h c s z => z.1 z.2) (fun _ _ z => z) _ _ _ _ _ (hf pc C h0 _ Q lv st h c s G q))) G
theorem ent_InC {C : Nat → Prop} {maxL : Nat} {av : List Value} (h : ∀ v ∈ av, InC C v) : ∀ v ∈ ent maxL av, InC C v := fun v hv => by
  rcases List.mem_append.mp hv with q | q
  · obtain ⟨x, hx, hq⟩ := List.mem_flatMap.mp q
    split at hq
    · rcases List.mem_cons.mp hq with z | z
      · rw [z]; exact h x hx
      · rw [List.mem_singleton.mp z]; trivial
    · rw [List.mem_singleton.mp hq]; exact h x hx
  · rw [List.eq_of_mem_replicate q]; trivial
theorem wT_fr {maxL : Nat} {L : List (Nat × Sem)} (hm : AllM L) (hf : AllF L) : FrW (wT maxL L) := fun C h0 av h Q G k => ⟨k.1, wpI_fr (tab_mono hm) (tab_fr hf) ⟨ent_InC G.2.1, fun v hv => (by cases hv), G.2.2⟩ k.2⟩
