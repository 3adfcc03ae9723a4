/-! THE INSTRUCTIONS, 3: fields, arrays, new (printed by wip/whole/mk07.py) -/
def k_gI (n c k : Nat) : Sem := fun X _ lv st h cs ss => match st with
  | .ref a :: r => (hT h a).1 = c ∧ X n lv (.int (hI h a k) :: r) h cs ss
  | _ => False
def k_gJ (n c k : Nat) : Sem := fun X _ lv st h cs ss => match st with
  | .ref a :: r => (hT h a).1 = c ∧ X n lv (.long (hJ h a k) :: r) h cs ss
  | _ => False
def k_gR (n c k : Nat) : Sem := fun X _ lv st h cs ss => match st with
  | .ref a :: r => (hT h a).1 = c ∧ X n lv (.ref (hR h a k) :: r) h cs ss
  | _ => False
def okC (v : Int32) : Prop := 0 ≤ v ∧ v ≤ 65535
def okv : Nat → Int32 → Prop
  | 3, v => v = 0 ∨ v = 1
  | 4, v => okC v
  | _, _ => True
def k_pI (n c k t : Nat) : Sem := fun X _ lv st h cs ss => match st with
  | .int v :: .ref a :: r => (hT h a).1 = c ∧ okv t v ∧ X n lv r (sI h a k v) cs ss
  | _ => False
def k_pJ (n c k : Nat) : Sem := fun X _ lv st h cs ss => match st with
  | .long v :: .ref a :: r => (hT h a).1 = c ∧ X n lv r (sJ h a k v) cs ss
  | _ => False
def k_pR (n c k : Nat) : Sem := fun X _ lv st h cs ss => match st with
  | .ref v :: .ref a :: r => (hT h a).1 = c ∧ X n lv r (sR h a k v) cs ss
  | _ => False
/-- arrays, by their kinds: 100 int, 101 long, 102 boolean, 103 double, from 104 on references -/
def k_aI (n kd : Nat) : Sem := fun X _ lv st h cs ss => match st with
  | .int i :: .ref a :: r => (hT h a).1 = kd ∧ vp_in i (hT h a).2 ∧ X n lv (.int (hI h a i.toNatClampNeg) :: r) h cs ss
  | _ => False
def k_aJ (n kd : Nat) : Sem := fun X _ lv st h cs ss => match st with
  | .int i :: .ref a :: r => (hT h a).1 = kd ∧ vp_in i (hT h a).2 ∧ X n lv (.long (hJ h a i.toNatClampNeg) :: r) h cs ss
  | _ => False
def k_aD (n kd : Nat) : Sem := fun X _ lv st h cs ss => match st with
  | .int i :: .ref a :: r => (hT h a).1 = kd ∧ vp_in i (hT h a).2 ∧ X n lv (.double (hD h a i.toNatClampNeg) :: r) h cs ss
  | _ => False
def k_aR (n kd : Nat) : Sem := fun X _ lv st h cs ss => match st with
  | .int i :: .ref a :: r => (hT h a).1 = kd ∧ vp_in i (hT h a).2 ∧ X n lv (.ref (hR h a i.toNatClampNeg) :: r) h cs ss
  | _ => False
def k_sI (n kd t : Nat) : Sem := fun X _ lv st h cs ss => match st with
  | .int v :: .int i :: .ref a :: r => (hT h a).1 = kd ∧ vp_in i (hT h a).2 ∧ okv t v ∧ X n lv r (sI h a i.toNatClampNeg v) cs ss
  | _ => False
def k_sJ (n kd : Nat) : Sem := fun X _ lv st h cs ss => match st with
  | .long v :: .int i :: .ref a :: r => (hT h a).1 = kd ∧ vp_in i (hT h a).2 ∧ X n lv r (sJ h a i.toNatClampNeg v) cs ss
  | _ => False
def k_sD (n kd : Nat) : Sem := fun X _ lv st h cs ss => match st with
  | .double v :: .int i :: .ref a :: r => (hT h a).1 = kd ∧ vp_in i (hT h a).2 ∧ X n lv r (sD h a i.toNatClampNeg v) cs ss
  | _ => False
/-- a reference into an array of references to objects of the class c, or null -/
def k_sR (n kd c : Nat) : Sem := fun X _ lv st h cs ss => match st with
  | .ref v :: .int i :: .ref a :: r => (hT h a).1 = kd ∧ vp_in i (hT h a).2 ∧ (v = 0 ∨ (hT h v).1 = c) ∧ X n lv r (sR h a i.toNatClampNeg v) cs ss
  | _ => False
def k_alen (n : Nat) : Sem := fun X _ lv st h cs ss => match st with
  | .ref a :: r => 100 ≤ (hT h a).1 ∧ X n lv (.int (Int32.ofNat (hT h a).2) :: r) h cs ss
  | _ => False
def k_new (n c N MC MS : Nat) : Sem := fun X _ lv st h cs ss => cs + 1 ≤ MC ∧ ss + N ≤ MS ∧ X n lv (.ref (hN h) :: st) (nw h (c, 0)) (cs + 1) (ss + N)
def k_newa (n kd MC MS : Nat) : Sem := fun X _ lv st h cs ss => match st with
  | .int x :: r => ¬ x < 0 ∧ cs + 1 ≤ MC ∧ ss + x.toNatClampNeg ≤ MS ∧ X n lv (.ref (hN h) :: r) (nw h (kd, x.toNatClampNeg)) (cs + 1) (ss + x.toNatClampNeg)
  | _ => False
/-- a cast of an object of the class c to its own class -/
def k_cast (n c : Nat) : Sem := fun X _ lv st h cs ss => match st with
  | .ref a :: r => (hT h a).1 = c ∧ X n lv st h cs ss
  | _ => False
/-! an update of one cell changes no other -/
theorem ccell_ext {dA : Nat → ClassId} {ad : Nat → Nat} {h h' : CH} {b : Nat} (eT : hT h' b = hT h b) (eI : hI h' b = hI h b) (eJ : hJ h' b = hJ h b) (eR : hR h' b = hR h b) (eD : hD h' b = hD h b) : ccell dA ad h' b = ccell dA ad h b := by
  have e1 : ∀ k t, cfv ad h' b k t = cfv ad h b k t := fun k t => by unfold cfv; split <;> simp only [eI, eJ, eR]
  have e2 : ∀ t, carr ad h' b t = carr ad h b t := fun t => by unfold carr; simp only [eT, eI, eJ, eR, eD]
  unfold ccell cfs
  simp only [eT, e1, e2]
theorem ccell_sI {dA : Nat → ClassId} {ad : Nat → Nat} {h : CH} {a k b : Nat} {v : Int32} (hb : b ≠ a) : ccell dA ad (sI h a k v) b = ccell dA ad h b := ccell_ext rfl (funext fun j => by rw [hI_sI, if_neg (fun q => hb q.1)]) rfl rfl rfl
theorem ccell_sJ {dA : Nat → ClassId} {ad : Nat → Nat} {h : CH} {a k b : Nat} {v : Int64} (hb : b ≠ a) : ccell dA ad (sJ h a k v) b = ccell dA ad h b := ccell_ext rfl rfl (funext fun j => by rw [hJ_sJ, if_neg (fun q => hb q.1)]) rfl rfl
theorem ccell_sR {dA : Nat → ClassId} {ad : Nat → Nat} {h : CH} {a k b : Nat} {v : Nat} (hb : b ≠ a) : ccell dA ad (sR h a k v) b = ccell dA ad h b := ccell_ext rfl rfl rfl (funext fun j => by rw [hR_sR, if_neg (fun q => hb q.1)]) rfl
theorem ccell_sD {dA : Nat → ClassId} {ad : Nat → Nat} {h : CH} {a k b : Nat} {v : UInt64} (hb : b ≠ a) : ccell dA ad (sD h a k v) b = ccell dA ad h b := ccell_ext rfl rfl rfl rfl (funext fun j => by rw [hD_sD, if_neg (fun q => hb q.1)])
theorem wsOf_nw {dA : Nat → ClassId} {ad : Nat → Nat} {h : CH} {t : Nat × Nat} {q : Nat} (hw : WFh h) : wsOf dA (fun a => if a = hN h then q else ad a) (nw h t) = wsOf dA ad h ++ [(q, ccell dA (fun a => if a = hN h then q else ad a) (nw h t) (hN h))] := by
  have e1 : hN (nw h t) - W0 = (hN h - W0) + 1 := by have := hw.1; rw [hN_nw]; omega
  unfold wsOf
  rw [e1, List.range_succ, List.map_append]
  have e2 : W0 + (hN h - W0) = hN h := by have := hw.1; omega
  have eA : (List.range (hN h - W0)).map (fun i => ((fun a => if a = hN h then q else ad a) (W0 + i), ccell dA (fun a => if a = hN h then q else ad a) (nw h t) (W0 + i))) = (List.range (hN h - W0)).map (fun i => (ad (W0 + i), ccell dA ad h (W0 + i))) := by
    apply List.map_congr_left
    intro i hi
    rw [List.mem_range] at hi
    have hne : W0 + i ≠ hN h := by omega
    show ((if W0 + i = hN h then q else ad (W0 + i)), _) = _
    rw [if_neg hne]
    have c1 : ccell dA (fun a => if a = hN h then q else ad a) (nw h t) (W0 + i) = ccell dA (fun a => if a = hN h then q else ad a) h (W0 + i) := ccell_ext (by rw [hT_nw, if_neg hne]) (funext fun j => by rw [hI_nw, if_neg hne]) (funext fun j => by rw [hJ_nw, if_neg hne]) (funext fun j => by rw [hR_nw, if_neg hne]) (funext fun j => by rw [hD_nw, if_neg hne])
    rw [c1, ccell_congr hw.2.1 (fun a ha => if_neg (Nat.ne_of_lt ha))]
  rw [eA]
  simp only [List.map_cons, List.map_nil, e2, if_true]
theorem cfv_new (ad : Nat → Nat) (h : CH) (t : Nat × Nat) (j x : Nat) : cfv ad (nw h t) (hN h) j x = match x with | 1 => .long 0 | 2 => .null | _ => .int 0 := by
  match x with
  | 0 => show Value.int (hI (nw h t) (hN h) j) = _; rw [hI_nw, if_pos rfl]; rfl
  | 1 => show Value.long (hJ (nw h t) (hN h) j) = _; rw [hJ_nw, if_pos rfl]; rfl
  | 2 => show va_rf (ro ad (hR (nw h t) (hN h) j)) = _; rw [hR_nw, if_pos rfl]; rfl
  | n + 3 => show Value.int (hI (nw h t) (hN h) j) = _; rw [hI_nw, if_pos rfl]; rfl
theorem WFh_nw {h : CH} {t : Nat × Nat} (hw : WFh h) (ht : t.1 ≤ 108) : WFh (nw h t) := by
  refine ⟨by rw [hN_nw]; exact Nat.le_succ_of_le hw.1, fun a k => ?_, fun a ha => ?_, fun a ha => ?_⟩
  · rw [hR_nw, hN_nw]
    split
    · omega
    · exact Nat.lt_succ_of_lt (hw.2.1 a k)
  · rw [hT_nw, if_neg (by have := hw.1; omega)]
    exact hw.2.2.1 a ha
  · rw [hT_nw]
    split
    · exact ht
    · rw [hN_nw] at ha
      exact hw.2.2.2 a (by omega)
theorem WFh_sR {h : CH} {a k v : Nat} (hw : WFh h) (hv : v < hN h) : WFh (sR h a k v) := by
  refine ⟨hw.1, fun b j => ?_, hw.2.2.1, hw.2.2.2⟩
  rw [hR_sR, hN_sR]
  split
  · exact hv
  · exact hw.2.1 b j
theorem refOK_mono {n n' : Nat} (h : n ≤ n') {v : Value} (hv : refOK n v) : refOK n' v := by
  cases v <;> first | trivial | exact Nat.lt_of_lt_of_le hv h
theorem lvr_congr {ad ad' : Nat → Nat} {ls : Array Slot} {lv : List Value} {nL n : Nat} (h : lvr ad ls lv nL) (hr : ∀ v ∈ lv, refOK n v) (ha : ∀ a, a < n → ad' a = ad a) : lvr ad' ls lv nL := ⟨h.1, h.2.1, h.2.2.1, fun i v hi hv => by rw [cv_congr ha (hr v (List.mem_of_getElem? hi))]; exact h.2.2.2 i v hi hv⟩
theorem map_congr_ref {ad ad' : Nat → Nat} {n : Nat} {st : List Value} (hr : ∀ v ∈ st, refOK n v) (ha : ∀ a, a < n → ad' a = ad a) : st.map (cv ad') = st.map (cv ad) := List.map_congr_left fun v hv => cv_congr ha (hr v hv)
theorem Rel.low {g : Gc} {ad : Nat → Nat} {h : CH} {H : Heap} {a c : Nat} (hRel : Rel g ad h H) (hc : (hT h a).1 = c) (h99 : c ≠ 99) : W0 ≤ a := by
  rcases Nat.lt_or_ge a W0 with q | q
  · exact absurd (hc.symm.trans (hRel.2.2.1.2.2.1 a q)) h99
  · exact q
theorem cv_ref {ad : Nat → Nat} {a : Nat} (h : W0 ≤ a) : cv ad (.ref a) = .ref (ad a) := by
  show va_rf (ro ad a) = _
  unfold ro
  rw [if_neg (by unfold W0 at h; omega)]
  rfl
section HEAP
variable {g : Gc} {n0 : Nat} {ads : Nat → Nat} {p : Program} {l : Launch} {e : Env} {R : Room} {s : State} {m : MethodId} {args : Array Value} {below : List Frame} {meth : Method} {c : Code} {nL : Nat} {Qf : State → Prop} {Q : QT} {cc : ByteArray} {own : String} {pc : Nat}

theorem o_gI (A : Act g p l s m args meth c cc nL own) {ref C : String} {T : u_T} {N ci index : Nat} (hc : vwCl[ci]? = some (C, T, N)) (h99 : ci < 99) (hin : ∀ w ∈ u_ws C T N, w ∈ AW) (hNN : N = (FT ci).length) (f : Nat) (hk : f < N) (hlink : Cond.fieldLink own index ref (T f).2.1 (T f).2.2.1 ∈ AW) (hsame : ∀ (U : State) x, (∀ w ∈ AW, w.before args U = true) → U.fieldFound? (T f).1 (T f).2.1 (T f).2.2.1 = some x → U.fieldFound? ref (T f).2.1 (T f).2.2.1 = some x) (hv : ∀ (ad : Nat → Nat) (h : CH) (a : Nat), cfv ad h a f ((FT ci).getD f 0) = .int (hI h a f)) (hd : decode cc pc = .ok (.getfield index, 3)) : Snd g n0 ads p l e R s m args below meth c nL Qf Q pc (k_gI (pc + 3) ci f) := by
  intro lv st h cs ss k ad H locs ls hRel h0 ha hS hl hlv hst
  unfold k_gI at k
  split at k
  · next a r =>
    have q := List.forall_mem_cons.mp hst
    have ha0 := hRel.low k.1 (by omega)
    show W p l e R s m args below meth c H locs cs ss Qf (F0 m pc ls (cv ad (.ref a) :: r.map (cv ad)))
    rw [cv_ref ha0]
    have he := wsOf_at (dA := gA g) (ad := ad) ha0 q.1
    rw [ccell_obj k.1 (by omega)] at he
    exact va_get A.1 A.2.1 A.2.2.2.2.1 hin A.2.2.2.1 A.2.2.2.2.2.1.1 hRel.1 (a - W0) he hc f hk (A.2.2.2.2.1 _ hlink) (fun x hx => hsame s x A.2.2.2.2.1 hx) ((cfs_at (by omega)).trans (congrArg some (hv ad h a))) hd (k.2 ad H locs ls hRel h0 ha hS hl hlv (List.forall_mem_cons.mpr ⟨trivial, q.2⟩))
  · exact k.elim
theorem o_gJ (A : Act g p l s m args meth c cc nL own) {ref C : String} {T : u_T} {N ci index : Nat} (hc : vwCl[ci]? = some (C, T, N)) (h99 : ci < 99) (hin : ∀ w ∈ u_ws C T N, w ∈ AW) (hNN : N = (FT ci).length) (f : Nat) (hk : f < N) (hlink : Cond.fieldLink own index ref (T f).2.1 (T f).2.2.1 ∈ AW) (hsame : ∀ (U : State) x, (∀ w ∈ AW, w.before args U = true) → U.fieldFound? (T f).1 (T f).2.1 (T f).2.2.1 = some x → U.fieldFound? ref (T f).2.1 (T f).2.2.1 = some x) (hv : ∀ (ad : Nat → Nat) (h : CH) (a : Nat), cfv ad h a f ((FT ci).getD f 0) = .long (hJ h a f)) (hd : decode cc pc = .ok (.getfield index, 3)) : Snd g n0 ads p l e R s m args below meth c nL Qf Q pc (k_gJ (pc + 3) ci f) := by
  intro lv st h cs ss k ad H locs ls hRel h0 ha hS hl hlv hst
  unfold k_gJ at k
  split at k
  · next a r =>
    have q := List.forall_mem_cons.mp hst
    have ha0 := hRel.low k.1 (by omega)
    show W p l e R s m args below meth c H locs cs ss Qf (F0 m pc ls (cv ad (.ref a) :: r.map (cv ad)))
    rw [cv_ref ha0]
    have he := wsOf_at (dA := gA g) (ad := ad) ha0 q.1
    rw [ccell_obj k.1 (by omega)] at he
    exact va_get A.1 A.2.1 A.2.2.2.2.1 hin A.2.2.2.1 A.2.2.2.2.2.1.1 hRel.1 (a - W0) he hc f hk (A.2.2.2.2.1 _ hlink) (fun x hx => hsame s x A.2.2.2.2.1 hx) ((cfs_at (by omega)).trans (congrArg some (hv ad h a))) hd (k.2 ad H locs ls hRel h0 ha hS hl hlv (List.forall_mem_cons.mpr ⟨trivial, q.2⟩))
  · exact k.elim
theorem o_gR (A : Act g p l s m args meth c cc nL own) {ref C : String} {T : u_T} {N ci index : Nat} (hc : vwCl[ci]? = some (C, T, N)) (h99 : ci < 99) (hin : ∀ w ∈ u_ws C T N, w ∈ AW) (hNN : N = (FT ci).length) (f : Nat) (hk : f < N) (hlink : Cond.fieldLink own index ref (T f).2.1 (T f).2.2.1 ∈ AW) (hsame : ∀ (U : State) x, (∀ w ∈ AW, w.before args U = true) → U.fieldFound? (T f).1 (T f).2.1 (T f).2.2.1 = some x → U.fieldFound? ref (T f).2.1 (T f).2.2.1 = some x) (hv : ∀ (ad : Nat → Nat) (h : CH) (a : Nat), cfv ad h a f ((FT ci).getD f 0) = va_rf (ro ad (hR h a f))) (hd : decode cc pc = .ok (.getfield index, 3)) : Snd g n0 ads p l e R s m args below meth c nL Qf Q pc (k_gR (pc + 3) ci f) := by
  intro lv st h cs ss k ad H locs ls hRel h0 ha hS hl hlv hst
  unfold k_gR at k
  split at k
  · next a r =>
    have q := List.forall_mem_cons.mp hst
    have ha0 := hRel.low k.1 (by omega)
    show W p l e R s m args below meth c H locs cs ss Qf (F0 m pc ls (cv ad (.ref a) :: r.map (cv ad)))
    rw [cv_ref ha0]
    have he := wsOf_at (dA := gA g) (ad := ad) ha0 q.1
    rw [ccell_obj k.1 (by omega)] at he
    exact va_get A.1 A.2.1 A.2.2.2.2.1 hin A.2.2.2.1 A.2.2.2.2.2.1.1 hRel.1 (a - W0) he hc f hk (A.2.2.2.2.1 _ hlink) (fun x hx => hsame s x A.2.2.2.2.1 hx) ((cfs_at (by omega)).trans (congrArg some (hv ad h a))) hd (k.2 ad H locs ls hRel h0 ha hS hl hlv (List.forall_mem_cons.mpr ⟨(hRel.2.2.1.2.1 a f), q.2⟩))
  · exact k.elim
theorem o_pI (A : Act g p l s m args meth c cc nL own) {ref C : String} {T : u_T} {N ci index : Nat} (hc : vwCl[ci]? = some (C, T, N)) (h99 : ci < 99) (hin : ∀ w ∈ u_ws C T N, w ∈ AW) (hNN : N = (FT ci).length) (f : Nat) (hk : f < N) (ty0 : Nat → FieldType) (hty : ∀ k, k < N → parseFieldDescriptor (T k).2.2.1 = some (ty0 k)) (hnm : ∀ a, a < N → ∀ b, b < N → a ≠ b → (T a).2.1 ≠ (T b).2.1) (hlink : Cond.fieldLink own index ref (T f).2.1 (T f).2.2.1 ∈ AW) (hsame : ∀ (U : State) x, (∀ w ∈ AW, w.before args U = true) → U.fieldFound? (T f).1 (T f).2.1 (T f).2.2.1 = some x → U.fieldFound? ref (T f).2.1 (T f).2.2.1 = some x) (hfin : (T f).2.2.2 = false) {t : Nat} {fty : FieldType} (hpd : parseFieldDescriptor (T f).2.2.1 = some fty) (hok : ∀ v : Int32, okv t v → narrow fty (.int v) = .int v ∧ fits fty (.int v) = true) (hv : ∀ (ad : Nat → Nat) (h : CH) (a j : Nat), cfv ad h a j ((FT ci).getD f 0) = .int (hI h a j))  (hd : decode cc pc = .ok (.putfield index, 3)) : Snd g n0 ads p l e R s m args below meth c nL Qf Q pc (k_pI (pc + 3) ci f t) := by
  intro lv st h cs ss k ad H locs ls hRel h0 ha hS hl hlv hst
  unfold k_pI at k
  split at k
  · next v a r =>
    have q := List.forall_mem_cons.mp hst
    have q2 := List.forall_mem_cons.mp q.2
    have ha0 := hRel.low k.1 (by omega)
    show W p l e R s m args below meth c H locs cs ss Qf (F0 m pc ls (cv ad (.int v) :: cv ad (.ref a) :: r.map (cv ad)))
    rw [cv_ref ha0]
    have he := wsOf_at (dA := gA g) (ad := ad) ha0 q2.1
    rw [ccell_obj k.1 (by omega)] at he
    have hx := hok v k.2.1
    have hcs : (cfs ad h a ci).set f (.int v) = cfs ad (sI h a f v) a ci := cfs_set (by rw [hv, hI_sI, if_pos ⟨rfl, rfl⟩]) (fun j t hj => by unfold cfv; split <;> simp only [hI_sI, hJ_sI, hR_sI, hI_sJ, hJ_sJ, hR_sJ, hI_sR, hJ_sR, hR_sR, hj, and_false, if_false])
    have hws : (wsOf (gA g) ad h).set (a - W0) (ad a, .inr (ci, (cfs ad h a ci).set f (.int v))) = wsOf (gA g) ad (sI h a f v) := by
      rw [wsOf_set (h' := sI h a f v) ha0 q2.1 rfl (fun b hb => ccell_sI hb), ccell_obj (h := sI h a f v) (c := ci) k.1 (by omega), hcs]
    refine va_put A.1 A.2.1 A.2.2.2.2.1 hin ty0 hty hnm A.2.2.2.1 A.2.2.2.2.2.1.1 hRel.1 hRel.2.1 hS (a - W0) he hc f hk (A.2.2.2.2.1 _ hlink) (fun x hx => hsame s x A.2.2.2.2.1 hx) hfin hpd hx.1 hx.2 (by unfold cfs; rw [List.length_map, List.length_range, ← hNN]; exact hk) hd (fun H1 locs1 hP1 hD1 hS1 => ?_)
    have hP1 : va_P (gD g) vwCl ((wsOf (gA g) ad h).set (a - W0) (ad a, .inr (ci, (cfs ad h a ci).set f (.int v)))) H1 := hP1
    have hD1 : va_D (gF g) ((wsOf (gA g) ad h).set (a - W0) (ad a, .inr (ci, (cfs ad h a ci).set f (.int v)))) := hD1
    rw [hws] at hP1 hD1
    exact k.2.2 ad H1 locs1 ls ⟨hP1, hD1, hRel.2.2.1, hRel.2.2.2⟩ h0 ha hS1 hl hlv q2.2
  · exact k.elim
theorem o_pJ (A : Act g p l s m args meth c cc nL own) {ref C : String} {T : u_T} {N ci index : Nat} (hc : vwCl[ci]? = some (C, T, N)) (h99 : ci < 99) (hin : ∀ w ∈ u_ws C T N, w ∈ AW) (hNN : N = (FT ci).length) (f : Nat) (hk : f < N) (ty0 : Nat → FieldType) (hty : ∀ k, k < N → parseFieldDescriptor (T k).2.2.1 = some (ty0 k)) (hnm : ∀ a, a < N → ∀ b, b < N → a ≠ b → (T a).2.1 ≠ (T b).2.1) (hlink : Cond.fieldLink own index ref (T f).2.1 (T f).2.2.1 ∈ AW) (hsame : ∀ (U : State) x, (∀ w ∈ AW, w.before args U = true) → U.fieldFound? (T f).1 (T f).2.1 (T f).2.2.1 = some x → U.fieldFound? ref (T f).2.1 (T f).2.2.1 = some x) (hfin : (T f).2.2.2 = false) {fty : FieldType} (hpd : parseFieldDescriptor (T f).2.2.1 = some fty) (hok : ∀ v : Int64, narrow fty (.long v) = .long v ∧ fits fty (.long v) = true) (hv : ∀ (ad : Nat → Nat) (h : CH) (a j : Nat), cfv ad h a j ((FT ci).getD f 0) = .long (hJ h a j))  (hd : decode cc pc = .ok (.putfield index, 3)) : Snd g n0 ads p l e R s m args below meth c nL Qf Q pc (k_pJ (pc + 3) ci f) := by
  intro lv st h cs ss k ad H locs ls hRel h0 ha hS hl hlv hst
  unfold k_pJ at k
  split at k
  · next v a r =>
    have q := List.forall_mem_cons.mp hst
    have q2 := List.forall_mem_cons.mp q.2
    have ha0 := hRel.low k.1 (by omega)
    show W p l e R s m args below meth c H locs cs ss Qf (F0 m pc ls (cv ad (.long v) :: cv ad (.ref a) :: r.map (cv ad)))
    rw [cv_ref ha0]
    have he := wsOf_at (dA := gA g) (ad := ad) ha0 q2.1
    rw [ccell_obj k.1 (by omega)] at he
    have hx := hok v
    have hcs : (cfs ad h a ci).set f (.long v) = cfs ad (sJ h a f v) a ci := cfs_set (by rw [hv, hJ_sJ, if_pos ⟨rfl, rfl⟩]) (fun j t hj => by unfold cfv; split <;> simp only [hI_sI, hJ_sI, hR_sI, hI_sJ, hJ_sJ, hR_sJ, hI_sR, hJ_sR, hR_sR, hj, and_false, if_false])
    have hws : (wsOf (gA g) ad h).set (a - W0) (ad a, .inr (ci, (cfs ad h a ci).set f (.long v))) = wsOf (gA g) ad (sJ h a f v) := by
      rw [wsOf_set (h' := sJ h a f v) ha0 q2.1 rfl (fun b hb => ccell_sJ hb), ccell_obj (h := sJ h a f v) (c := ci) k.1 (by omega), hcs]
    refine va_put A.1 A.2.1 A.2.2.2.2.1 hin ty0 hty hnm A.2.2.2.1 A.2.2.2.2.2.1.1 hRel.1 hRel.2.1 hS (a - W0) he hc f hk (A.2.2.2.2.1 _ hlink) (fun x hx => hsame s x A.2.2.2.2.1 hx) hfin hpd hx.1 hx.2 (by unfold cfs; rw [List.length_map, List.length_range, ← hNN]; exact hk) hd (fun H1 locs1 hP1 hD1 hS1 => ?_)
    have hP1 : va_P (gD g) vwCl ((wsOf (gA g) ad h).set (a - W0) (ad a, .inr (ci, (cfs ad h a ci).set f (.long v)))) H1 := hP1
    have hD1 : va_D (gF g) ((wsOf (gA g) ad h).set (a - W0) (ad a, .inr (ci, (cfs ad h a ci).set f (.long v)))) := hD1
    rw [hws] at hP1 hD1
    exact k.2 ad H1 locs1 ls ⟨hP1, hD1, hRel.2.2.1, hRel.2.2.2⟩ h0 ha hS1 hl hlv q2.2
  · exact k.elim
theorem o_pR (A : Act g p l s m args meth c cc nL own) {ref C : String} {T : u_T} {N ci index : Nat} (hc : vwCl[ci]? = some (C, T, N)) (h99 : ci < 99) (hin : ∀ w ∈ u_ws C T N, w ∈ AW) (hNN : N = (FT ci).length) (f : Nat) (hk : f < N) (ty0 : Nat → FieldType) (hty : ∀ k, k < N → parseFieldDescriptor (T k).2.2.1 = some (ty0 k)) (hnm : ∀ a, a < N → ∀ b, b < N → a ≠ b → (T a).2.1 ≠ (T b).2.1) (hlink : Cond.fieldLink own index ref (T f).2.1 (T f).2.2.1 ∈ AW) (hsame : ∀ (U : State) x, (∀ w ∈ AW, w.before args U = true) → U.fieldFound? (T f).1 (T f).2.1 (T f).2.2.1 = some x → U.fieldFound? ref (T f).2.1 (T f).2.2.1 = some x) (hfin : (T f).2.2.2 = false) {fty : FieldType} (hpd : parseFieldDescriptor (T f).2.2.1 = some fty) (hok : ∀ v : Value, v = .null ∨ (∃ a, v = .ref a) → narrow fty v = v ∧ fits fty v = true) (hv : ∀ (ad : Nat → Nat) (h : CH) (a j : Nat), cfv ad h a j ((FT ci).getD f 0) = va_rf (ro ad (hR h a j)))  (hd : decode cc pc = .ok (.putfield index, 3)) : Snd g n0 ads p l e R s m args below meth c nL Qf Q pc (k_pR (pc + 3) ci f) := by
  intro lv st h cs ss k ad H locs ls hRel h0 ha hS hl hlv hst
  unfold k_pR at k
  split at k
  · next v a r =>
    have q := List.forall_mem_cons.mp hst
    have q2 := List.forall_mem_cons.mp q.2
    have ha0 := hRel.low k.1 (by omega)
    show W p l e R s m args below meth c H locs cs ss Qf (F0 m pc ls (cv ad (.ref v) :: cv ad (.ref a) :: r.map (cv ad)))
    rw [cv_ref ha0]
    have he := wsOf_at (dA := gA g) (ad := ad) ha0 q2.1
    rw [ccell_obj k.1 (by omega)] at he
    have hx := hok (va_rf (ro ad v)) ((va_rf_cases ad v).imp id (fun z => ⟨_, z⟩))
    have hcs : (cfs ad h a ci).set f (va_rf (ro ad v)) = cfs ad (sR h a f v) a ci := cfs_set (by rw [hv, hR_sR, if_pos ⟨rfl, rfl⟩]) (fun j t hj => by unfold cfv; split <;> simp only [hI_sI, hJ_sI, hR_sI, hI_sJ, hJ_sJ, hR_sJ, hI_sR, hJ_sR, hR_sR, hj, and_false, if_false])
    have hws : (wsOf (gA g) ad h).set (a - W0) (ad a, .inr (ci, (cfs ad h a ci).set f (va_rf (ro ad v)))) = wsOf (gA g) ad (sR h a f v) := by
      rw [wsOf_set (h' := sR h a f v) ha0 q2.1 rfl (fun b hb => ccell_sR hb), ccell_obj (h := sR h a f v) (c := ci) k.1 (by omega), hcs]
    refine va_put A.1 A.2.1 A.2.2.2.2.1 hin ty0 hty hnm A.2.2.2.1 A.2.2.2.2.2.1.1 hRel.1 hRel.2.1 hS (a - W0) he hc f hk (A.2.2.2.2.1 _ hlink) (fun x hx => hsame s x A.2.2.2.2.1 hx) hfin hpd hx.1 hx.2 (by unfold cfs; rw [List.length_map, List.length_range, ← hNN]; exact hk) hd (fun H1 locs1 hP1 hD1 hS1 => ?_)
    have hP1 : va_P (gD g) vwCl ((wsOf (gA g) ad h).set (a - W0) (ad a, .inr (ci, (cfs ad h a ci).set f (va_rf (ro ad v))))) H1 := hP1
    have hD1 : va_D (gF g) ((wsOf (gA g) ad h).set (a - W0) (ad a, .inr (ci, (cfs ad h a ci).set f (va_rf (ro ad v))))) := hD1
    rw [hws] at hP1 hD1
    exact k.2 ad H1 locs1 ls ⟨hP1, hD1, (WFh_sR hRel.2.2.1 q.1), hRel.2.2.2⟩ h0 ha hS1 hl hlv q2.2
  · exact k.elim
theorem o_pIF (A : Act g p l s m args meth c cc nL own) {ref C : String} {T : u_T} {N ci index : Nat} (hc : vwCl[ci]? = some (C, T, N)) (h99 : ci < 99) (hin : ∀ w ∈ u_ws C T N, w ∈ AW) (hNN : N = (FT ci).length) (f : Nat) (hk : f < N) (ty0 : Nat → FieldType) (hty : ∀ k, k < N → parseFieldDescriptor (T k).2.2.1 = some (ty0 k)) (hnm : ∀ a, a < N → ∀ b, b < N → a ≠ b → (T a).2.1 ≠ (T b).2.1) (hlink : Cond.fieldLink own index ref (T f).2.1 (T f).2.2.1 ∈ AW) (hsame : ∀ (U : State) x, (∀ w ∈ AW, w.before args U = true) → U.fieldFound? (T f).1 (T f).2.1 (T f).2.2.1 = some x → U.fieldFound? ref (T f).2.1 (T f).2.2.1 = some x) (hfin : (T f).2.2.2 = true) (hini : meth.name = "<init>") (hdecl : (T f).1 = own) {t : Nat} {fty : FieldType} (hpd : parseFieldDescriptor (T f).2.2.1 = some fty) (hok : ∀ v : Int32, okv t v → narrow fty (.int v) = .int v ∧ fits fty (.int v) = true) (hv : ∀ (ad : Nat → Nat) (h : CH) (a j : Nat), cfv ad h a j ((FT ci).getD f 0) = .int (hI h a j))  (hd : decode cc pc = .ok (.putfield index, 3)) : Snd g n0 ads p l e R s m args below meth c nL Qf Q pc (k_pI (pc + 3) ci f t) := by
  intro lv st h cs ss k ad H locs ls hRel h0 ha hS hl hlv hst
  unfold k_pI at k
  split at k
  · next v a r =>
    have q := List.forall_mem_cons.mp hst
    have q2 := List.forall_mem_cons.mp q.2
    have ha0 := hRel.low k.1 (by omega)
    show W p l e R s m args below meth c H locs cs ss Qf (F0 m pc ls (cv ad (.int v) :: cv ad (.ref a) :: r.map (cv ad)))
    rw [cv_ref ha0]
    have he := wsOf_at (dA := gA g) (ad := ad) ha0 q2.1
    rw [ccell_obj k.1 (by omega)] at he
    have hx := hok v k.2.1
    have hcs : (cfs ad h a ci).set f (.int v) = cfs ad (sI h a f v) a ci := cfs_set (by rw [hv, hI_sI, if_pos ⟨rfl, rfl⟩]) (fun j t hj => by unfold cfv; split <;> simp only [hI_sI, hJ_sI, hR_sI, hI_sJ, hJ_sJ, hR_sJ, hI_sR, hJ_sR, hR_sR, hj, and_false, if_false])
    have hws : (wsOf (gA g) ad h).set (a - W0) (ad a, .inr (ci, (cfs ad h a ci).set f (.int v))) = wsOf (gA g) ad (sI h a f v) := by
      rw [wsOf_set (h' := sI h a f v) ha0 q2.1 rfl (fun b hb => ccell_sI hb), ccell_obj (h := sI h a f v) (c := ci) k.1 (by omega), hcs]
    refine va_putF A.1 A.2.1 A.2.2.2.2.1 hin ty0 hty hnm A.2.2.2.1 A.2.2.2.2.2.1.1 hRel.1 hRel.2.1 hS (a - W0) he hc f hk (A.2.2.2.2.1 _ hlink) (fun x hx => hsame s x A.2.2.2.2.1 hx) hfin hini hdecl hpd hx.1 hx.2 (by unfold cfs; rw [List.length_map, List.length_range, ← hNN]; exact hk) hd (fun H1 locs1 hP1 hD1 hS1 => ?_)
    have hP1 : va_P (gD g) vwCl ((wsOf (gA g) ad h).set (a - W0) (ad a, .inr (ci, (cfs ad h a ci).set f (.int v)))) H1 := hP1
    have hD1 : va_D (gF g) ((wsOf (gA g) ad h).set (a - W0) (ad a, .inr (ci, (cfs ad h a ci).set f (.int v)))) := hD1
    rw [hws] at hP1 hD1
    exact k.2.2 ad H1 locs1 ls ⟨hP1, hD1, hRel.2.2.1, hRel.2.2.2⟩ h0 ha hS1 hl hlv q2.2
  · exact k.elim
theorem o_pJF (A : Act g p l s m args meth c cc nL own) {ref C : String} {T : u_T} {N ci index : Nat} (hc : vwCl[ci]? = some (C, T, N)) (h99 : ci < 99) (hin : ∀ w ∈ u_ws C T N, w ∈ AW) (hNN : N = (FT ci).length) (f : Nat) (hk : f < N) (ty0 : Nat → FieldType) (hty : ∀ k, k < N → parseFieldDescriptor (T k).2.2.1 = some (ty0 k)) (hnm : ∀ a, a < N → ∀ b, b < N → a ≠ b → (T a).2.1 ≠ (T b).2.1) (hlink : Cond.fieldLink own index ref (T f).2.1 (T f).2.2.1 ∈ AW) (hsame : ∀ (U : State) x, (∀ w ∈ AW, w.before args U = true) → U.fieldFound? (T f).1 (T f).2.1 (T f).2.2.1 = some x → U.fieldFound? ref (T f).2.1 (T f).2.2.1 = some x) (hfin : (T f).2.2.2 = true) (hini : meth.name = "<init>") (hdecl : (T f).1 = own) {fty : FieldType} (hpd : parseFieldDescriptor (T f).2.2.1 = some fty) (hok : ∀ v : Int64, narrow fty (.long v) = .long v ∧ fits fty (.long v) = true) (hv : ∀ (ad : Nat → Nat) (h : CH) (a j : Nat), cfv ad h a j ((FT ci).getD f 0) = .long (hJ h a j))  (hd : decode cc pc = .ok (.putfield index, 3)) : Snd g n0 ads p l e R s m args below meth c nL Qf Q pc (k_pJ (pc + 3) ci f) := by
  intro lv st h cs ss k ad H locs ls hRel h0 ha hS hl hlv hst
  unfold k_pJ at k
  split at k
  · next v a r =>
    have q := List.forall_mem_cons.mp hst
    have q2 := List.forall_mem_cons.mp q.2
    have ha0 := hRel.low k.1 (by omega)
    show W p l e R s m args below meth c H locs cs ss Qf (F0 m pc ls (cv ad (.long v) :: cv ad (.ref a) :: r.map (cv ad)))
    rw [cv_ref ha0]
    have he := wsOf_at (dA := gA g) (ad := ad) ha0 q2.1
    rw [ccell_obj k.1 (by omega)] at he
    have hx := hok v
    have hcs : (cfs ad h a ci).set f (.long v) = cfs ad (sJ h a f v) a ci := cfs_set (by rw [hv, hJ_sJ, if_pos ⟨rfl, rfl⟩]) (fun j t hj => by unfold cfv; split <;> simp only [hI_sI, hJ_sI, hR_sI, hI_sJ, hJ_sJ, hR_sJ, hI_sR, hJ_sR, hR_sR, hj, and_false, if_false])
    have hws : (wsOf (gA g) ad h).set (a - W0) (ad a, .inr (ci, (cfs ad h a ci).set f (.long v))) = wsOf (gA g) ad (sJ h a f v) := by
      rw [wsOf_set (h' := sJ h a f v) ha0 q2.1 rfl (fun b hb => ccell_sJ hb), ccell_obj (h := sJ h a f v) (c := ci) k.1 (by omega), hcs]
    refine va_putF A.1 A.2.1 A.2.2.2.2.1 hin ty0 hty hnm A.2.2.2.1 A.2.2.2.2.2.1.1 hRel.1 hRel.2.1 hS (a - W0) he hc f hk (A.2.2.2.2.1 _ hlink) (fun x hx => hsame s x A.2.2.2.2.1 hx) hfin hini hdecl hpd hx.1 hx.2 (by unfold cfs; rw [List.length_map, List.length_range, ← hNN]; exact hk) hd (fun H1 locs1 hP1 hD1 hS1 => ?_)
    have hP1 : va_P (gD g) vwCl ((wsOf (gA g) ad h).set (a - W0) (ad a, .inr (ci, (cfs ad h a ci).set f (.long v)))) H1 := hP1
    have hD1 : va_D (gF g) ((wsOf (gA g) ad h).set (a - W0) (ad a, .inr (ci, (cfs ad h a ci).set f (.long v)))) := hD1
    rw [hws] at hP1 hD1
    exact k.2 ad H1 locs1 ls ⟨hP1, hD1, hRel.2.2.1, hRel.2.2.2⟩ h0 ha hS1 hl hlv q2.2
  · exact k.elim
theorem o_pRF (A : Act g p l s m args meth c cc nL own) {ref C : String} {T : u_T} {N ci index : Nat} (hc : vwCl[ci]? = some (C, T, N)) (h99 : ci < 99) (hin : ∀ w ∈ u_ws C T N, w ∈ AW) (hNN : N = (FT ci).length) (f : Nat) (hk : f < N) (ty0 : Nat → FieldType) (hty : ∀ k, k < N → parseFieldDescriptor (T k).2.2.1 = some (ty0 k)) (hnm : ∀ a, a < N → ∀ b, b < N → a ≠ b → (T a).2.1 ≠ (T b).2.1) (hlink : Cond.fieldLink own index ref (T f).2.1 (T f).2.2.1 ∈ AW) (hsame : ∀ (U : State) x, (∀ w ∈ AW, w.before args U = true) → U.fieldFound? (T f).1 (T f).2.1 (T f).2.2.1 = some x → U.fieldFound? ref (T f).2.1 (T f).2.2.1 = some x) (hfin : (T f).2.2.2 = true) (hini : meth.name = "<init>") (hdecl : (T f).1 = own) {fty : FieldType} (hpd : parseFieldDescriptor (T f).2.2.1 = some fty) (hok : ∀ v : Value, v = .null ∨ (∃ a, v = .ref a) → narrow fty v = v ∧ fits fty v = true) (hv : ∀ (ad : Nat → Nat) (h : CH) (a j : Nat), cfv ad h a j ((FT ci).getD f 0) = va_rf (ro ad (hR h a j)))  (hd : decode cc pc = .ok (.putfield index, 3)) : Snd g n0 ads p l e R s m args below meth c nL Qf Q pc (k_pR (pc + 3) ci f) := by
  intro lv st h cs ss k ad H locs ls hRel h0 ha hS hl hlv hst
  unfold k_pR at k
  split at k
  · next v a r =>
    have q := List.forall_mem_cons.mp hst
    have q2 := List.forall_mem_cons.mp q.2
    have ha0 := hRel.low k.1 (by omega)
    show W p l e R s m args below meth c H locs cs ss Qf (F0 m pc ls (cv ad (.ref v) :: cv ad (.ref a) :: r.map (cv ad)))
    rw [cv_ref ha0]
    have he := wsOf_at (dA := gA g) (ad := ad) ha0 q2.1
    rw [ccell_obj k.1 (by omega)] at he
    have hx := hok (va_rf (ro ad v)) ((va_rf_cases ad v).imp id (fun z => ⟨_, z⟩))
    have hcs : (cfs ad h a ci).set f (va_rf (ro ad v)) = cfs ad (sR h a f v) a ci := cfs_set (by rw [hv, hR_sR, if_pos ⟨rfl, rfl⟩]) (fun j t hj => by unfold cfv; split <;> simp only [hI_sI, hJ_sI, hR_sI, hI_sJ, hJ_sJ, hR_sJ, hI_sR, hJ_sR, hR_sR, hj, and_false, if_false])
    have hws : (wsOf (gA g) ad h).set (a - W0) (ad a, .inr (ci, (cfs ad h a ci).set f (va_rf (ro ad v)))) = wsOf (gA g) ad (sR h a f v) := by
      rw [wsOf_set (h' := sR h a f v) ha0 q2.1 rfl (fun b hb => ccell_sR hb), ccell_obj (h := sR h a f v) (c := ci) k.1 (by omega), hcs]
    refine va_putF A.1 A.2.1 A.2.2.2.2.1 hin ty0 hty hnm A.2.2.2.1 A.2.2.2.2.2.1.1 hRel.1 hRel.2.1 hS (a - W0) he hc f hk (A.2.2.2.2.1 _ hlink) (fun x hx => hsame s x A.2.2.2.2.1 hx) hfin hini hdecl hpd hx.1 hx.2 (by unfold cfs; rw [List.length_map, List.length_range, ← hNN]; exact hk) hd (fun H1 locs1 hP1 hD1 hS1 => ?_)
    have hP1 : va_P (gD g) vwCl ((wsOf (gA g) ad h).set (a - W0) (ad a, .inr (ci, (cfs ad h a ci).set f (va_rf (ro ad v))))) H1 := hP1
    have hD1 : va_D (gF g) ((wsOf (gA g) ad h).set (a - W0) (ad a, .inr (ci, (cfs ad h a ci).set f (va_rf (ro ad v))))) := hD1
    rw [hws] at hP1 hD1
    exact k.2 ad H1 locs1 ls ⟨hP1, hD1, (WFh_sR hRel.2.2.1 q.1), hRel.2.2.2⟩ h0 ha hS1 hl hlv q2.2
  · exact k.elim
theorem o_gIN (A : Act g p l s m args meth c cc nL own) {ref C : String} {T : u_T} {N ci index : Nat} (hc : vwCl[ci]? = some (C, T, N)) (h99 : ci < 99) (hin : ∀ w ∈ u_ws C T N, w ∈ AW) (hNN : N = (FT ci).length) (f : Nat) (hk : f < N) {host : String} (hlink : Cond.fieldLinkNest own index ref (T f).2.1 (T f).2.2.1 host ∈ OW) (hsame : ∀ (U : State) x, (∀ w ∈ AW, w.before args U = true) → U.fieldFound? (T f).1 (T f).2.1 (T f).2.2.1 = some x → U.fieldFound? ref (T f).2.1 (T f).2.2.1 = some x) (hv : ∀ (ad : Nat → Nat) (h : CH) (a : Nat), cfv ad h a f ((FT ci).getD f 0) = .int (hI h a f)) (hd : decode cc pc = .ok (.getfield index, 3)) : Snd g n0 ads p l e R s m args below meth c nL Qf Q pc (k_gI (pc + 3) ci f) := by
  intro lv st h cs ss k ad H locs ls hRel h0 ha hS hl hlv hst
  unfold k_gI at k
  split at k
  · next a r =>
    have q := List.forall_mem_cons.mp hst
    have ha0 := hRel.low k.1 (by omega)
    show W p l e R s m args below meth c H locs cs ss Qf (F0 m pc ls (cv ad (.ref a) :: r.map (cv ad)))
    rw [cv_ref ha0]
    have he := wsOf_at (dA := gA g) (ad := ad) ha0 q.1
    rw [ccell_obj k.1 (by omega)] at he
    exact va_getN A.1 A.2.1 A.2.2.2.2.1 hin A.2.2.2.1 A.2.2.2.2.2.1.1 hRel.1 (a - W0) he hc f hk (va_Nw.use rfl (A.2.2.2.2.2.1.2.2.2.1 _ hlink)) (fun x hx => hsame s x A.2.2.2.2.1 hx) ((cfs_at (by omega)).trans (congrArg some (hv ad h a))) hd (k.2 ad H locs ls hRel h0 ha hS hl hlv (List.forall_mem_cons.mpr ⟨trivial, q.2⟩))
  · exact k.elim
theorem o_gJN (A : Act g p l s m args meth c cc nL own) {ref C : String} {T : u_T} {N ci index : Nat} (hc : vwCl[ci]? = some (C, T, N)) (h99 : ci < 99) (hin : ∀ w ∈ u_ws C T N, w ∈ AW) (hNN : N = (FT ci).length) (f : Nat) (hk : f < N) {host : String} (hlink : Cond.fieldLinkNest own index ref (T f).2.1 (T f).2.2.1 host ∈ OW) (hsame : ∀ (U : State) x, (∀ w ∈ AW, w.before args U = true) → U.fieldFound? (T f).1 (T f).2.1 (T f).2.2.1 = some x → U.fieldFound? ref (T f).2.1 (T f).2.2.1 = some x) (hv : ∀ (ad : Nat → Nat) (h : CH) (a : Nat), cfv ad h a f ((FT ci).getD f 0) = .long (hJ h a f)) (hd : decode cc pc = .ok (.getfield index, 3)) : Snd g n0 ads p l e R s m args below meth c nL Qf Q pc (k_gJ (pc + 3) ci f) := by
  intro lv st h cs ss k ad H locs ls hRel h0 ha hS hl hlv hst
  unfold k_gJ at k
  split at k
  · next a r =>
    have q := List.forall_mem_cons.mp hst
    have ha0 := hRel.low k.1 (by omega)
    show W p l e R s m args below meth c H locs cs ss Qf (F0 m pc ls (cv ad (.ref a) :: r.map (cv ad)))
    rw [cv_ref ha0]
    have he := wsOf_at (dA := gA g) (ad := ad) ha0 q.1
    rw [ccell_obj k.1 (by omega)] at he
    exact va_getN A.1 A.2.1 A.2.2.2.2.1 hin A.2.2.2.1 A.2.2.2.2.2.1.1 hRel.1 (a - W0) he hc f hk (va_Nw.use rfl (A.2.2.2.2.2.1.2.2.2.1 _ hlink)) (fun x hx => hsame s x A.2.2.2.2.1 hx) ((cfs_at (by omega)).trans (congrArg some (hv ad h a))) hd (k.2 ad H locs ls hRel h0 ha hS hl hlv (List.forall_mem_cons.mpr ⟨trivial, q.2⟩))
  · exact k.elim
theorem o_gRN (A : Act g p l s m args meth c cc nL own) {ref C : String} {T : u_T} {N ci index : Nat} (hc : vwCl[ci]? = some (C, T, N)) (h99 : ci < 99) (hin : ∀ w ∈ u_ws C T N, w ∈ AW) (hNN : N = (FT ci).length) (f : Nat) (hk : f < N) {host : String} (hlink : Cond.fieldLinkNest own index ref (T f).2.1 (T f).2.2.1 host ∈ OW) (hsame : ∀ (U : State) x, (∀ w ∈ AW, w.before args U = true) → U.fieldFound? (T f).1 (T f).2.1 (T f).2.2.1 = some x → U.fieldFound? ref (T f).2.1 (T f).2.2.1 = some x) (hv : ∀ (ad : Nat → Nat) (h : CH) (a : Nat), cfv ad h a f ((FT ci).getD f 0) = va_rf (ro ad (hR h a f))) (hd : decode cc pc = .ok (.getfield index, 3)) : Snd g n0 ads p l e R s m args below meth c nL Qf Q pc (k_gR (pc + 3) ci f) := by
  intro lv st h cs ss k ad H locs ls hRel h0 ha hS hl hlv hst
  unfold k_gR at k
  split at k
  · next a r =>
    have q := List.forall_mem_cons.mp hst
    have ha0 := hRel.low k.1 (by omega)
    show W p l e R s m args below meth c H locs cs ss Qf (F0 m pc ls (cv ad (.ref a) :: r.map (cv ad)))
    rw [cv_ref ha0]
    have he := wsOf_at (dA := gA g) (ad := ad) ha0 q.1
    rw [ccell_obj k.1 (by omega)] at he
    exact va_getN A.1 A.2.1 A.2.2.2.2.1 hin A.2.2.2.1 A.2.2.2.2.2.1.1 hRel.1 (a - W0) he hc f hk (va_Nw.use rfl (A.2.2.2.2.2.1.2.2.2.1 _ hlink)) (fun x hx => hsame s x A.2.2.2.2.1 hx) ((cfs_at (by omega)).trans (congrArg some (hv ad h a))) hd (k.2 ad H locs ls hRel h0 ha hS hl hlv (List.forall_mem_cons.mpr ⟨(hRel.2.2.1.2.1 a f), q.2⟩))
  · exact k.elim
theorem o_pIN (A : Act g p l s m args meth c cc nL own) {ref C : String} {T : u_T} {N ci index : Nat} (hc : vwCl[ci]? = some (C, T, N)) (h99 : ci < 99) (hin : ∀ w ∈ u_ws C T N, w ∈ AW) (hNN : N = (FT ci).length) (f : Nat) (hk : f < N) (ty0 : Nat → FieldType) (hty : ∀ k, k < N → parseFieldDescriptor (T k).2.2.1 = some (ty0 k)) (hnm : ∀ a, a < N → ∀ b, b < N → a ≠ b → (T a).2.1 ≠ (T b).2.1) {host : String} (hlink : Cond.fieldLinkNest own index ref (T f).2.1 (T f).2.2.1 host ∈ OW) (hsame : ∀ (U : State) x, (∀ w ∈ AW, w.before args U = true) → U.fieldFound? (T f).1 (T f).2.1 (T f).2.2.1 = some x → U.fieldFound? ref (T f).2.1 (T f).2.2.1 = some x) (hfin : (T f).2.2.2 = false) {t : Nat} {fty : FieldType} (hpd : parseFieldDescriptor (T f).2.2.1 = some fty) (hok : ∀ v : Int32, okv t v → narrow fty (.int v) = .int v ∧ fits fty (.int v) = true) (hv : ∀ (ad : Nat → Nat) (h : CH) (a j : Nat), cfv ad h a j ((FT ci).getD f 0) = .int (hI h a j))  (hd : decode cc pc = .ok (.putfield index, 3)) : Snd g n0 ads p l e R s m args below meth c nL Qf Q pc (k_pI (pc + 3) ci f t) := by
  intro lv st h cs ss k ad H locs ls hRel h0 ha hS hl hlv hst
  unfold k_pI at k
  split at k
  · next v a r =>
    have q := List.forall_mem_cons.mp hst
    have q2 := List.forall_mem_cons.mp q.2
    have ha0 := hRel.low k.1 (by omega)
    show W p l e R s m args below meth c H locs cs ss Qf (F0 m pc ls (cv ad (.int v) :: cv ad (.ref a) :: r.map (cv ad)))
    rw [cv_ref ha0]
    have he := wsOf_at (dA := gA g) (ad := ad) ha0 q2.1
    rw [ccell_obj k.1 (by omega)] at he
    have hx := hok v k.2.1
    have hcs : (cfs ad h a ci).set f (.int v) = cfs ad (sI h a f v) a ci := cfs_set (by rw [hv, hI_sI, if_pos ⟨rfl, rfl⟩]) (fun j t hj => by unfold cfv; split <;> simp only [hI_sI, hJ_sI, hR_sI, hI_sJ, hJ_sJ, hR_sJ, hI_sR, hJ_sR, hR_sR, hj, and_false, if_false])
    have hws : (wsOf (gA g) ad h).set (a - W0) (ad a, .inr (ci, (cfs ad h a ci).set f (.int v))) = wsOf (gA g) ad (sI h a f v) := by
      rw [wsOf_set (h' := sI h a f v) ha0 q2.1 rfl (fun b hb => ccell_sI hb), ccell_obj (h := sI h a f v) (c := ci) k.1 (by omega), hcs]
    refine va_putN A.1 A.2.1 A.2.2.2.2.1 hin ty0 hty hnm A.2.2.2.1 A.2.2.2.2.2.1.1 hRel.1 hRel.2.1 hS (a - W0) he hc f hk (va_Nw.use rfl (A.2.2.2.2.2.1.2.2.2.1 _ hlink)) (fun x hx => hsame s x A.2.2.2.2.1 hx) hfin hpd hx.1 hx.2 (by unfold cfs; rw [List.length_map, List.length_range, ← hNN]; exact hk) hd (fun H1 locs1 hP1 hD1 hS1 => ?_)
    have hP1 : va_P (gD g) vwCl ((wsOf (gA g) ad h).set (a - W0) (ad a, .inr (ci, (cfs ad h a ci).set f (.int v)))) H1 := hP1
    have hD1 : va_D (gF g) ((wsOf (gA g) ad h).set (a - W0) (ad a, .inr (ci, (cfs ad h a ci).set f (.int v)))) := hD1
    rw [hws] at hP1 hD1
    exact k.2.2 ad H1 locs1 ls ⟨hP1, hD1, hRel.2.2.1, hRel.2.2.2⟩ h0 ha hS1 hl hlv q2.2
  · exact k.elim
theorem o_pJN (A : Act g p l s m args meth c cc nL own) {ref C : String} {T : u_T} {N ci index : Nat} (hc : vwCl[ci]? = some (C, T, N)) (h99 : ci < 99) (hin : ∀ w ∈ u_ws C T N, w ∈ AW) (hNN : N = (FT ci).length) (f : Nat) (hk : f < N) (ty0 : Nat → FieldType) (hty : ∀ k, k < N → parseFieldDescriptor (T k).2.2.1 = some (ty0 k)) (hnm : ∀ a, a < N → ∀ b, b < N → a ≠ b → (T a).2.1 ≠ (T b).2.1) {host : String} (hlink : Cond.fieldLinkNest own index ref (T f).2.1 (T f).2.2.1 host ∈ OW) (hsame : ∀ (U : State) x, (∀ w ∈ AW, w.before args U = true) → U.fieldFound? (T f).1 (T f).2.1 (T f).2.2.1 = some x → U.fieldFound? ref (T f).2.1 (T f).2.2.1 = some x) (hfin : (T f).2.2.2 = false) {fty : FieldType} (hpd : parseFieldDescriptor (T f).2.2.1 = some fty) (hok : ∀ v : Int64, narrow fty (.long v) = .long v ∧ fits fty (.long v) = true) (hv : ∀ (ad : Nat → Nat) (h : CH) (a j : Nat), cfv ad h a j ((FT ci).getD f 0) = .long (hJ h a j))  (hd : decode cc pc = .ok (.putfield index, 3)) : Snd g n0 ads p l e R s m args below meth c nL Qf Q pc (k_pJ (pc + 3) ci f) := by
  intro lv st h cs ss k ad H locs ls hRel h0 ha hS hl hlv hst
  unfold k_pJ at k
  split at k
  · next v a r =>
    have q := List.forall_mem_cons.mp hst
    have q2 := List.forall_mem_cons.mp q.2
    have ha0 := hRel.low k.1 (by omega)
    show W p l e R s m args below meth c H locs cs ss Qf (F0 m pc ls (cv ad (.long v) :: cv ad (.ref a) :: r.map (cv ad)))
    rw [cv_ref ha0]
    have he := wsOf_at (dA := gA g) (ad := ad) ha0 q2.1
    rw [ccell_obj k.1 (by omega)] at he
    have hx := hok v
    have hcs : (cfs ad h a ci).set f (.long v) = cfs ad (sJ h a f v) a ci := cfs_set (by rw [hv, hJ_sJ, if_pos ⟨rfl, rfl⟩]) (fun j t hj => by unfold cfv; split <;> simp only [hI_sI, hJ_sI, hR_sI, hI_sJ, hJ_sJ, hR_sJ, hI_sR, hJ_sR, hR_sR, hj, and_false, if_false])
    have hws : (wsOf (gA g) ad h).set (a - W0) (ad a, .inr (ci, (cfs ad h a ci).set f (.long v))) = wsOf (gA g) ad (sJ h a f v) := by
      rw [wsOf_set (h' := sJ h a f v) ha0 q2.1 rfl (fun b hb => ccell_sJ hb), ccell_obj (h := sJ h a f v) (c := ci) k.1 (by omega), hcs]
    refine va_putN A.1 A.2.1 A.2.2.2.2.1 hin ty0 hty hnm A.2.2.2.1 A.2.2.2.2.2.1.1 hRel.1 hRel.2.1 hS (a - W0) he hc f hk (va_Nw.use rfl (A.2.2.2.2.2.1.2.2.2.1 _ hlink)) (fun x hx => hsame s x A.2.2.2.2.1 hx) hfin hpd hx.1 hx.2 (by unfold cfs; rw [List.length_map, List.length_range, ← hNN]; exact hk) hd (fun H1 locs1 hP1 hD1 hS1 => ?_)
    have hP1 : va_P (gD g) vwCl ((wsOf (gA g) ad h).set (a - W0) (ad a, .inr (ci, (cfs ad h a ci).set f (.long v)))) H1 := hP1
    have hD1 : va_D (gF g) ((wsOf (gA g) ad h).set (a - W0) (ad a, .inr (ci, (cfs ad h a ci).set f (.long v)))) := hD1
    rw [hws] at hP1 hD1
    exact k.2 ad H1 locs1 ls ⟨hP1, hD1, hRel.2.2.1, hRel.2.2.2⟩ h0 ha hS1 hl hlv q2.2
  · exact k.elim
theorem o_pRN (A : Act g p l s m args meth c cc nL own) {ref C : String} {T : u_T} {N ci index : Nat} (hc : vwCl[ci]? = some (C, T, N)) (h99 : ci < 99) (hin : ∀ w ∈ u_ws C T N, w ∈ AW) (hNN : N = (FT ci).length) (f : Nat) (hk : f < N) (ty0 : Nat → FieldType) (hty : ∀ k, k < N → parseFieldDescriptor (T k).2.2.1 = some (ty0 k)) (hnm : ∀ a, a < N → ∀ b, b < N → a ≠ b → (T a).2.1 ≠ (T b).2.1) {host : String} (hlink : Cond.fieldLinkNest own index ref (T f).2.1 (T f).2.2.1 host ∈ OW) (hsame : ∀ (U : State) x, (∀ w ∈ AW, w.before args U = true) → U.fieldFound? (T f).1 (T f).2.1 (T f).2.2.1 = some x → U.fieldFound? ref (T f).2.1 (T f).2.2.1 = some x) (hfin : (T f).2.2.2 = false) {fty : FieldType} (hpd : parseFieldDescriptor (T f).2.2.1 = some fty) (hok : ∀ v : Value, v = .null ∨ (∃ a, v = .ref a) → narrow fty v = v ∧ fits fty v = true) (hv : ∀ (ad : Nat → Nat) (h : CH) (a j : Nat), cfv ad h a j ((FT ci).getD f 0) = va_rf (ro ad (hR h a j)))  (hd : decode cc pc = .ok (.putfield index, 3)) : Snd g n0 ads p l e R s m args below meth c nL Qf Q pc (k_pR (pc + 3) ci f) := by
  intro lv st h cs ss k ad H locs ls hRel h0 ha hS hl hlv hst
  unfold k_pR at k
  split at k
  · next v a r =>
    have q := List.forall_mem_cons.mp hst
    have q2 := List.forall_mem_cons.mp q.2
    have ha0 := hRel.low k.1 (by omega)
    show W p l e R s m args below meth c H locs cs ss Qf (F0 m pc ls (cv ad (.ref v) :: cv ad (.ref a) :: r.map (cv ad)))
    rw [cv_ref ha0]
    have he := wsOf_at (dA := gA g) (ad := ad) ha0 q2.1
    rw [ccell_obj k.1 (by omega)] at he
    have hx := hok (va_rf (ro ad v)) ((va_rf_cases ad v).imp id (fun z => ⟨_, z⟩))
    have hcs : (cfs ad h a ci).set f (va_rf (ro ad v)) = cfs ad (sR h a f v) a ci := cfs_set (by rw [hv, hR_sR, if_pos ⟨rfl, rfl⟩]) (fun j t hj => by unfold cfv; split <;> simp only [hI_sI, hJ_sI, hR_sI, hI_sJ, hJ_sJ, hR_sJ, hI_sR, hJ_sR, hR_sR, hj, and_false, if_false])
    have hws : (wsOf (gA g) ad h).set (a - W0) (ad a, .inr (ci, (cfs ad h a ci).set f (va_rf (ro ad v)))) = wsOf (gA g) ad (sR h a f v) := by
      rw [wsOf_set (h' := sR h a f v) ha0 q2.1 rfl (fun b hb => ccell_sR hb), ccell_obj (h := sR h a f v) (c := ci) k.1 (by omega), hcs]
    refine va_putN A.1 A.2.1 A.2.2.2.2.1 hin ty0 hty hnm A.2.2.2.1 A.2.2.2.2.2.1.1 hRel.1 hRel.2.1 hS (a - W0) he hc f hk (va_Nw.use rfl (A.2.2.2.2.2.1.2.2.2.1 _ hlink)) (fun x hx => hsame s x A.2.2.2.2.1 hx) hfin hpd hx.1 hx.2 (by unfold cfs; rw [List.length_map, List.length_range, ← hNN]; exact hk) hd (fun H1 locs1 hP1 hD1 hS1 => ?_)
    have hP1 : va_P (gD g) vwCl ((wsOf (gA g) ad h).set (a - W0) (ad a, .inr (ci, (cfs ad h a ci).set f (va_rf (ro ad v))))) H1 := hP1
    have hD1 : va_D (gF g) ((wsOf (gA g) ad h).set (a - W0) (ad a, .inr (ci, (cfs ad h a ci).set f (va_rf (ro ad v))))) := hD1
    rw [hws] at hP1 hD1
    exact k.2 ad H1 locs1 ls ⟨hP1, hD1, (WFh_sR hRel.2.2.1 q.1), hRel.2.2.2⟩ h0 ha hS1 hl hlv q2.2
  · exact k.elim
theorem o_iald (A : Act g p l s m args meth c cc nL own)  (hd : decode cc pc = .ok (.iaload, 1)) : Snd g n0 ads p l e R s m args below meth c nL Qf Q pc (k_aI (pc + 1) 100) := by
  intro lv st h cs ss k ad H locs ls hRel h0 ha hS hl hlv hst
  unfold k_aI at k
  split at k
  · next i a r =>
    have q := List.forall_mem_cons.mp hst
    have q2 := List.forall_mem_cons.mp q.2
    have ha0 := hRel.low k.1 (by omega)
    show W p l e R s m args below meth c H locs cs ss Qf (F0 m pc ls (.int i :: cv ad (.ref a) :: r.map (cv ad)))
    rw [cv_ref ha0]
    have he := wsOf_at (dA := gA g) (ad := ad) ha0 q2.1
    rw [ccell100 k.1] at he
    exact va_iald A.1 A.2.1 A.2.2.2.2.2.1.1 hRel.1 (a - W0) 0 he rfl k.2.1 hd (k.2.2 ad H locs ls hRel h0 ha hS hl hlv (List.forall_mem_cons.mpr ⟨trivial, q2.2⟩))
  · exact k.elim
theorem o_zald (A : Act g p l s m args meth c cc nL own)  (hd : decode cc pc = .ok (.baload, 1)) : Snd g n0 ads p l e R s m args below meth c nL Qf Q pc (k_aI (pc + 1) 102) := by
  intro lv st h cs ss k ad H locs ls hRel h0 ha hS hl hlv hst
  unfold k_aI at k
  split at k
  · next i a r =>
    have q := List.forall_mem_cons.mp hst
    have q2 := List.forall_mem_cons.mp q.2
    have ha0 := hRel.low k.1 (by omega)
    show W p l e R s m args below meth c H locs cs ss Qf (F0 m pc ls (.int i :: cv ad (.ref a) :: r.map (cv ad)))
    rw [cv_ref ha0]
    have he := wsOf_at (dA := gA g) (ad := ad) ha0 q2.1
    rw [ccell102 k.1] at he
    exact va_zald A.1 A.2.1 A.2.2.2.2.2.1.1 hRel.1 (a - W0) 2 he rfl k.2.1 hd (k.2.2 ad H locs ls hRel h0 ha hS hl hlv (List.forall_mem_cons.mpr ⟨trivial, q2.2⟩))
  · exact k.elim
theorem o_lald (A : Act g p l s m args meth c cc nL own)  (hd : decode cc pc = .ok (.laload, 1)) : Snd g n0 ads p l e R s m args below meth c nL Qf Q pc (k_aJ (pc + 1) 101) := by
  intro lv st h cs ss k ad H locs ls hRel h0 ha hS hl hlv hst
  unfold k_aJ at k
  split at k
  · next i a r =>
    have q := List.forall_mem_cons.mp hst
    have q2 := List.forall_mem_cons.mp q.2
    have ha0 := hRel.low k.1 (by omega)
    show W p l e R s m args below meth c H locs cs ss Qf (F0 m pc ls (.int i :: cv ad (.ref a) :: r.map (cv ad)))
    rw [cv_ref ha0]
    have he := wsOf_at (dA := gA g) (ad := ad) ha0 q2.1
    rw [ccell101 k.1] at he
    exact va_lald A.1 A.2.1 A.2.2.2.2.2.1.1 hRel.1 (a - W0) 1 he rfl k.2.1 hd (k.2.2 ad H locs ls hRel h0 ha hS hl hlv (List.forall_mem_cons.mpr ⟨trivial, q2.2⟩))
  · exact k.elim
theorem o_dald (A : Act g p l s m args meth c cc nL own)  (hd : decode cc pc = .ok (.daload, 1)) : Snd g n0 ads p l e R s m args below meth c nL Qf Q pc (k_aD (pc + 1) 103) := by
  intro lv st h cs ss k ad H locs ls hRel h0 ha hS hl hlv hst
  unfold k_aD at k
  split at k
  · next i a r =>
    have q := List.forall_mem_cons.mp hst
    have q2 := List.forall_mem_cons.mp q.2
    have ha0 := hRel.low k.1 (by omega)
    show W p l e R s m args below meth c H locs cs ss Qf (F0 m pc ls (.int i :: cv ad (.ref a) :: r.map (cv ad)))
    rw [cv_ref ha0]
    have he := wsOf_at (dA := gA g) (ad := ad) ha0 q2.1
    rw [ccell103 k.1] at he
    exact va_dald A.1 A.2.1 A.2.2.2.2.2.1.1 hRel.1 (a - W0) 3 he rfl k.2.1 hd (k.2.2 ad H locs ls hRel h0 ha hS hl hlv (List.forall_mem_cons.mpr ⟨trivial, q2.2⟩))
  · exact k.elim
theorem o_ald104 (A : Act g p l s m args meth c cc nL own)  (hd : decode cc pc = .ok (.aaload, 1)) : Snd g n0 ads p l e R s m args below meth c nL Qf Q pc (k_aR (pc + 1) 104) := by
  intro lv st h cs ss k ad H locs ls hRel h0 ha hS hl hlv hst
  unfold k_aR at k
  split at k
  · next i a r =>
    have q := List.forall_mem_cons.mp hst
    have q2 := List.forall_mem_cons.mp q.2
    have ha0 := hRel.low k.1 (by omega)
    show W p l e R s m args below meth c H locs cs ss Qf (F0 m pc ls (.int i :: cv ad (.ref a) :: r.map (cv ad)))
    rw [cv_ref ha0]
    have he := wsOf_at (dA := gA g) (ad := ad) ha0 q2.1
    rw [ccellR (c := 4) (by decide) k.1] at he
    exact va_aldq A.1 A.2.1 A.2.2.2.2.2.1.1 hRel.1 (a - W0) 4 he rfl k.2.1 hd (k.2.2 ad H locs ls hRel h0 ha hS hl hlv (List.forall_mem_cons.mpr ⟨hRel.2.2.1.2.1 a _, q2.2⟩))
  · exact k.elim
theorem o_ald105 (A : Act g p l s m args meth c cc nL own)  (hd : decode cc pc = .ok (.aaload, 1)) : Snd g n0 ads p l e R s m args below meth c nL Qf Q pc (k_aR (pc + 1) 105) := by
  intro lv st h cs ss k ad H locs ls hRel h0 ha hS hl hlv hst
  unfold k_aR at k
  split at k
  · next i a r =>
    have q := List.forall_mem_cons.mp hst
    have q2 := List.forall_mem_cons.mp q.2
    have ha0 := hRel.low k.1 (by omega)
    show W p l e R s m args below meth c H locs cs ss Qf (F0 m pc ls (.int i :: cv ad (.ref a) :: r.map (cv ad)))
    rw [cv_ref ha0]
    have he := wsOf_at (dA := gA g) (ad := ad) ha0 q2.1
    rw [ccellR (c := 5) (by decide) k.1] at he
    exact va_aldq A.1 A.2.1 A.2.2.2.2.2.1.1 hRel.1 (a - W0) 5 he rfl k.2.1 hd (k.2.2 ad H locs ls hRel h0 ha hS hl hlv (List.forall_mem_cons.mpr ⟨hRel.2.2.1.2.1 a _, q2.2⟩))
  · exact k.elim
theorem o_ald106 (A : Act g p l s m args meth c cc nL own)  (hd : decode cc pc = .ok (.aaload, 1)) : Snd g n0 ads p l e R s m args below meth c nL Qf Q pc (k_aR (pc + 1) 106) := by
  intro lv st h cs ss k ad H locs ls hRel h0 ha hS hl hlv hst
  unfold k_aR at k
  split at k
  · next i a r =>
    have q := List.forall_mem_cons.mp hst
    have q2 := List.forall_mem_cons.mp q.2
    have ha0 := hRel.low k.1 (by omega)
    show W p l e R s m args below meth c H locs cs ss Qf (F0 m pc ls (.int i :: cv ad (.ref a) :: r.map (cv ad)))
    rw [cv_ref ha0]
    have he := wsOf_at (dA := gA g) (ad := ad) ha0 q2.1
    rw [ccellR (c := 6) (by decide) k.1] at he
    exact va_aldq A.1 A.2.1 A.2.2.2.2.2.1.1 hRel.1 (a - W0) 6 he rfl k.2.1 hd (k.2.2 ad H locs ls hRel h0 ha hS hl hlv (List.forall_mem_cons.mpr ⟨hRel.2.2.1.2.1 a _, q2.2⟩))
  · exact k.elim
theorem o_ald107 (A : Act g p l s m args meth c cc nL own)  (hd : decode cc pc = .ok (.aaload, 1)) : Snd g n0 ads p l e R s m args below meth c nL Qf Q pc (k_aR (pc + 1) 107) := by
  intro lv st h cs ss k ad H locs ls hRel h0 ha hS hl hlv hst
  unfold k_aR at k
  split at k
  · next i a r =>
    have q := List.forall_mem_cons.mp hst
    have q2 := List.forall_mem_cons.mp q.2
    have ha0 := hRel.low k.1 (by omega)
    show W p l e R s m args below meth c H locs cs ss Qf (F0 m pc ls (.int i :: cv ad (.ref a) :: r.map (cv ad)))
    rw [cv_ref ha0]
    have he := wsOf_at (dA := gA g) (ad := ad) ha0 q2.1
    rw [ccellR (c := 7) (by decide) k.1] at he
    exact va_aldq A.1 A.2.1 A.2.2.2.2.2.1.1 hRel.1 (a - W0) 7 he rfl k.2.1 hd (k.2.2 ad H locs ls hRel h0 ha hS hl hlv (List.forall_mem_cons.mpr ⟨hRel.2.2.1.2.1 a _, q2.2⟩))
  · exact k.elim
theorem o_ald108 (A : Act g p l s m args meth c cc nL own)  (hd : decode cc pc = .ok (.aaload, 1)) : Snd g n0 ads p l e R s m args below meth c nL Qf Q pc (k_aR (pc + 1) 108) := by
  intro lv st h cs ss k ad H locs ls hRel h0 ha hS hl hlv hst
  unfold k_aR at k
  split at k
  · next i a r =>
    have q := List.forall_mem_cons.mp hst
    have q2 := List.forall_mem_cons.mp q.2
    have ha0 := hRel.low k.1 (by omega)
    show W p l e R s m args below meth c H locs cs ss Qf (F0 m pc ls (.int i :: cv ad (.ref a) :: r.map (cv ad)))
    rw [cv_ref ha0]
    have he := wsOf_at (dA := gA g) (ad := ad) ha0 q2.1
    rw [ccellR (c := 8) (by decide) k.1] at he
    exact va_aldq A.1 A.2.1 A.2.2.2.2.2.1.1 hRel.1 (a - W0) 8 he rfl k.2.1 hd (k.2.2 ad H locs ls hRel h0 ha hS hl hlv (List.forall_mem_cons.mpr ⟨hRel.2.2.1.2.1 a _, q2.2⟩))
  · exact k.elim
theorem o_iast (A : Act g p l s m args meth c cc nL own)  (hd : decode cc pc = .ok (.iastore, 1)) : Snd g n0 ads p l e R s m args below meth c nL Qf Q pc (k_sI (pc + 1) 100 0) := by
  intro lv st h cs ss k ad H locs ls hRel h0 ha hS hl hlv hst
  unfold k_sI at k
  split at k
  · next v i a r =>
    have q := List.forall_mem_cons.mp hst
    have q2 := List.forall_mem_cons.mp q.2
    have q3 := List.forall_mem_cons.mp q2.2
    have ha0 := hRel.low k.1 (by omega)
    show W p l e R s m args below meth c H locs cs ss Qf (F0 m pc ls (.int v :: .int i :: cv ad (.ref a) :: r.map (cv ad)))
    rw [cv_ref ha0]
    have he := wsOf_at (dA := gA g) (ad := ad) ha0 q3.1
    rw [ccell100 k.1] at he
    have hf : upd (hI h a) i.toNatClampNeg v = hI (sI h a i.toNatClampNeg v) a := funext fun j => by rw [hI_sI]; unfold upd; simp only [true_and]
    have hws : (wsOf (gA g) ad h).set (a - W0) (ad a, .inl (gA g 0, (hT h a).2, .inl (upd (hI h a) i.toNatClampNeg v))) = wsOf (gA g) ad (sI h a i.toNatClampNeg v) := by
      rw [wsOf_set (h' := sI h a i.toNatClampNeg v) ha0 q3.1 rfl (fun b hb => ccell_sI hb), ccell100 (h := sI h a i.toNatClampNeg v) k.1, hf]
      rfl
    refine va_iast A.1 A.2.1 A.2.2.2.2.2.1.1 hRel.1 hRel.2.1 hS (a - W0) 0 he rfl k.2.1 hd (fun H1 locs1 hP1 hD1 hS1 => ?_)
    have hP1 : va_P (gD g) vwCl ((wsOf (gA g) ad h).set (a - W0) (ad a, .inl (gA g 0, (hT h a).2, .inl (upd (hI h a) i.toNatClampNeg (v))))) H1 := hP1
    have hD1 : va_D (gF g) ((wsOf (gA g) ad h).set (a - W0) (ad a, .inl (gA g 0, (hT h a).2, .inl (upd (hI h a) i.toNatClampNeg (v))))) := hD1
    rw [hws] at hP1 hD1
    exact k.2.2.2 ad H1 locs1 ls ⟨hP1, hD1, hRel.2.2.1, hRel.2.2.2⟩ h0 ha hS1 hl hlv q3.2
  · exact k.elim
theorem o_zast (A : Act g p l s m args meth c cc nL own)  (hd : decode cc pc = .ok (.bastore, 1)) : Snd g n0 ads p l e R s m args below meth c nL Qf Q pc (k_sI (pc + 1) 102 3) := by
  intro lv st h cs ss k ad H locs ls hRel h0 ha hS hl hlv hst
  unfold k_sI at k
  split at k
  · next v i a r =>
    have q := List.forall_mem_cons.mp hst
    have q2 := List.forall_mem_cons.mp q.2
    have q3 := List.forall_mem_cons.mp q2.2
    have ha0 := hRel.low k.1 (by omega)
    show W p l e R s m args below meth c H locs cs ss Qf (F0 m pc ls (.int v :: .int i :: cv ad (.ref a) :: r.map (cv ad)))
    rw [cv_ref ha0]
    have he := wsOf_at (dA := gA g) (ad := ad) ha0 q3.1
    rw [ccell102 k.1] at he
    have hf : upd (hI h a) i.toNatClampNeg v = hI (sI h a i.toNatClampNeg v) a := funext fun j => by rw [hI_sI]; unfold upd; simp only [true_and]
    have hws : (wsOf (gA g) ad h).set (a - W0) (ad a, .inl (gA g 2, (hT h a).2, .inl (upd (hI h a) i.toNatClampNeg v))) = wsOf (gA g) ad (sI h a i.toNatClampNeg v) := by
      rw [wsOf_set (h' := sI h a i.toNatClampNeg v) ha0 q3.1 rfl (fun b hb => ccell_sI hb), ccell102 (h := sI h a i.toNatClampNeg v) k.1, hf]
      rfl
    have hz : vp_nar .boolean v = v := by rcases (k.2.2.1 : v = 0 ∨ v = 1) with z | z <;> rw [z] <;> rfl
    refine va_zast A.1 A.2.1 A.2.2.2.2.2.1.1 hRel.1 hRel.2.1 hS (a - W0) 2 he rfl k.2.1 hd (fun H1 locs1 hP1 hD1 hS1 => ?_)
    have hP1 : va_P (gD g) vwCl ((wsOf (gA g) ad h).set (a - W0) (ad a, .inl (gA g 2, (hT h a).2, .inl (upd (hI h a) i.toNatClampNeg (vp_nar .boolean v))))) H1 := hP1
    have hD1 : va_D (gF g) ((wsOf (gA g) ad h).set (a - W0) (ad a, .inl (gA g 2, (hT h a).2, .inl (upd (hI h a) i.toNatClampNeg (vp_nar .boolean v))))) := hD1
    rw [hz] at hP1 hD1
    rw [hws] at hP1 hD1
    exact k.2.2.2 ad H1 locs1 ls ⟨hP1, hD1, hRel.2.2.1, hRel.2.2.2⟩ h0 ha hS1 hl hlv q3.2
  · exact k.elim
theorem o_last (A : Act g p l s m args meth c cc nL own)  (hd : decode cc pc = .ok (.lastore, 1)) : Snd g n0 ads p l e R s m args below meth c nL Qf Q pc (k_sJ (pc + 1) 101) := by
  intro lv st h cs ss k ad H locs ls hRel h0 ha hS hl hlv hst
  unfold k_sJ at k
  split at k
  · next v i a r =>
    have q := List.forall_mem_cons.mp hst
    have q2 := List.forall_mem_cons.mp q.2
    have q3 := List.forall_mem_cons.mp q2.2
    have ha0 := hRel.low k.1 (by omega)
    show W p l e R s m args below meth c H locs cs ss Qf (F0 m pc ls (.long v :: .int i :: cv ad (.ref a) :: r.map (cv ad)))
    rw [cv_ref ha0]
    have he := wsOf_at (dA := gA g) (ad := ad) ha0 q3.1
    rw [ccell101 k.1] at he
    have hf : vp_updL (hJ h a) i.toNatClampNeg v = hJ (sJ h a i.toNatClampNeg v) a := funext fun j => by rw [hJ_sJ]; unfold vp_updL; simp only [true_and]
    have hws : (wsOf (gA g) ad h).set (a - W0) (ad a, .inl (gA g 1, (hT h a).2, .inr (.inl (vp_updL (hJ h a) i.toNatClampNeg v)))) = wsOf (gA g) ad (sJ h a i.toNatClampNeg v) := by
      rw [wsOf_set (h' := sJ h a i.toNatClampNeg v) ha0 q3.1 rfl (fun b hb => ccell_sJ hb), ccell101 (h := sJ h a i.toNatClampNeg v) k.1, hf]
      rfl
    refine va_last A.1 A.2.1 A.2.2.2.2.2.1.1 hRel.1 hRel.2.1 hS (a - W0) 1 he rfl k.2.1 hd (fun H1 locs1 hP1 hD1 hS1 => ?_)
    have hP1 : va_P (gD g) vwCl ((wsOf (gA g) ad h).set (a - W0) (ad a, .inl (gA g 1, (hT h a).2, .inr (.inl (vp_updL (hJ h a) i.toNatClampNeg (v)))))) H1 := hP1
    have hD1 : va_D (gF g) ((wsOf (gA g) ad h).set (a - W0) (ad a, .inl (gA g 1, (hT h a).2, .inr (.inl (vp_updL (hJ h a) i.toNatClampNeg (v)))))) := hD1
    rw [hws] at hP1 hD1
    exact k.2.2 ad H1 locs1 ls ⟨hP1, hD1, hRel.2.2.1, hRel.2.2.2⟩ h0 ha hS1 hl hlv q3.2
  · exact k.elim
theorem o_dast (A : Act g p l s m args meth c cc nL own)  (hd : decode cc pc = .ok (.dastore, 1)) : Snd g n0 ads p l e R s m args below meth c nL Qf Q pc (k_sD (pc + 1) 103) := by
  intro lv st h cs ss k ad H locs ls hRel h0 ha hS hl hlv hst
  unfold k_sD at k
  split at k
  · next v i a r =>
    have q := List.forall_mem_cons.mp hst
    have q2 := List.forall_mem_cons.mp q.2
    have q3 := List.forall_mem_cons.mp q2.2
    have ha0 := hRel.low k.1 (by omega)
    show W p l e R s m args below meth c H locs cs ss Qf (F0 m pc ls (.double v :: .int i :: cv ad (.ref a) :: r.map (cv ad)))
    rw [cv_ref ha0]
    have he := wsOf_at (dA := gA g) (ad := ad) ha0 q3.1
    rw [ccell103 k.1] at he
    have hf : vf_upd (hD h a) i.toNatClampNeg v = hD (sD h a i.toNatClampNeg v) a := funext fun j => by rw [hD_sD]; unfold vf_upd; simp only [true_and]
    have hws : (wsOf (gA g) ad h).set (a - W0) (ad a, .inl (gA g 3, (hT h a).2, .inr (.inr (.inr (.inl (vf_upd (hD h a) i.toNatClampNeg v)))))) = wsOf (gA g) ad (sD h a i.toNatClampNeg v) := by
      rw [wsOf_set (h' := sD h a i.toNatClampNeg v) ha0 q3.1 rfl (fun b hb => ccell_sD hb), ccell103 (h := sD h a i.toNatClampNeg v) k.1, hf]
      rfl
    refine va_dast A.1 A.2.1 A.2.2.2.2.2.1.1 hRel.1 hRel.2.1 hS (a - W0) 3 he rfl k.2.1 hd (fun H1 locs1 hP1 hD1 hS1 => ?_)
    have hP1 : va_P (gD g) vwCl ((wsOf (gA g) ad h).set (a - W0) (ad a, .inl (gA g 3, (hT h a).2, .inr (.inr (.inr (.inl (vf_upd (hD h a) i.toNatClampNeg (v)))))))) H1 := hP1
    have hD1 : va_D (gF g) ((wsOf (gA g) ad h).set (a - W0) (ad a, .inl (gA g 3, (hT h a).2, .inr (.inr (.inr (.inl (vf_upd (hD h a) i.toNatClampNeg (v)))))))) := hD1
    rw [hws] at hP1 hD1
    exact k.2.2 ad H1 locs1 ls ⟨hP1, hD1, hRel.2.2.1, hRel.2.2.2⟩ h0 ha hS1 hl hlv q3.2
  · exact k.elim
theorem o_ast104 (A : Act g p l s m args meth c cc nL own)  (hd : decode cc pc = .ok (.aastore, 1)) : Snd g n0 ads p l e R s m args below meth c nL Qf Q pc (k_sR (pc + 1) 104 5) := by
  intro lv st h cs ss k ad H locs ls hRel h0 ha hS hl hlv hst
  unfold k_sR at k
  split at k
  · next v i a r =>
    have q := List.forall_mem_cons.mp hst
    have q2 := List.forall_mem_cons.mp q.2
    have q3 := List.forall_mem_cons.mp q2.2
    have ha0 := hRel.low k.1 (by omega)
    show W p l e R s m args below meth c H locs cs ss Qf (F0 m pc ls (cv ad (.ref v) :: .int i :: cv ad (.ref a) :: r.map (cv ad)))
    rw [cv_ref ha0]
    have he := wsOf_at (dA := gA g) (ad := ad) ha0 q3.1
    rw [ccellR (c := 4) (by decide) k.1] at he
    have hf : va_up (fun j => ro ad (hR h a j)) i.toNatClampNeg (ro ad v) = fun j => ro ad (hR (sR h a i.toNatClampNeg v) a j) := funext fun j => by
      rw [hR_sR]; unfold va_up; simp only [true_and]; split <;> rfl
    have hws : (wsOf (gA g) ad h).set (a - W0) (ad a, .inl (gA g 4, (hT h a).2, .inr (.inr (.inr (.inr (va_up (fun j => ro ad (hR h a j)) i.toNatClampNeg (ro ad v))))))) = wsOf (gA g) ad (sR h a i.toNatClampNeg v) := by
      rw [wsOf_set (h' := sR h a i.toNatClampNeg v) ha0 q3.1 rfl (fun b hb => ccell_sR hb), ccellR (h := sR h a i.toNatClampNeg v) (c := 4) (by decide) k.1, hf]
      rfl
    have fin : ∀ (H1 : Heap) (locs1 : List Loc), va_P (gD g) vwCl ((wsOf (gA g) ad h).set (a - W0) (ad a, .inl (gA g 4, (hT h a).2, .inr (.inr (.inr (.inr (va_up (fun j => ro ad (hR h a j)) i.toNatClampNeg (ro ad v)))))))) H1 → va_D (gF g) ((wsOf (gA g) ad h).set (a - W0) (ad a, .inl (gA g 4, (hT h a).2, .inr (.inr (.inr (.inr (va_up (fun j => ro ad (hR h a j)) i.toNatClampNeg (ro ad v)))))))) → va_S (gF g) s.heap H1 locs1 → W p l e R s m args below meth c H1 locs1 cs ss Qf (F0 m (pc + 1) ls (r.map (cv ad))) := by
      intro H1 locs1 hP1 hD1 hS1
      rw [hws] at hP1 hD1
      exact k.2.2.2 ad H1 locs1 ls ⟨hP1, hD1, WFh_sR hRel.2.2.1 q.1, hRel.2.2.2⟩ h0 ha hS1 hl hlv q3.2
    rcases k.2.2.1 with z | z
    · have z2 : ro ad v = none := by unfold ro; rw [if_pos z]
      have z3 : cv ad (.ref v) = .null := by show va_rf (ro ad v) = _; rw [z2]; rfl
      rw [z2] at fin
      rw [z3]
      exact va_astqN A.1 A.2.1 A.2.2.2.2.2.1.1 hRel.1 hRel.2.1 hS (a - W0) 4 he rfl k.2.1 hd fin
    · have hv0 := hRel.low z (by omega)
      have z2 : ro ad v = some (ad v) := by unfold ro; rw [if_neg (by unfold W0 at hv0; omega)]
      rw [z2] at fin
      rw [cv_ref hv0]
      have hev := wsOf_at (dA := gA g) (ad := ad) hv0 q.1
      rw [ccell_obj z (by omega)] at hev
      exact va_astq A.1 A.2.1 A.2.2.2.2.2.1.1 hRel.1 hRel.2.1 hS (a - W0) 4 (v - W0) 5 (r := (RX1, TX1, 6)) he rfl hev rfl k.2.1 hd fin
  · exact k.elim
theorem o_ast105 (A : Act g p l s m args meth c cc nL own)  (hd : decode cc pc = .ok (.aastore, 1)) : Snd g n0 ads p l e R s m args below meth c nL Qf Q pc (k_sR (pc + 1) 105 7) := by
  intro lv st h cs ss k ad H locs ls hRel h0 ha hS hl hlv hst
  unfold k_sR at k
  split at k
  · next v i a r =>
    have q := List.forall_mem_cons.mp hst
    have q2 := List.forall_mem_cons.mp q.2
    have q3 := List.forall_mem_cons.mp q2.2
    have ha0 := hRel.low k.1 (by omega)
    show W p l e R s m args below meth c H locs cs ss Qf (F0 m pc ls (cv ad (.ref v) :: .int i :: cv ad (.ref a) :: r.map (cv ad)))
    rw [cv_ref ha0]
    have he := wsOf_at (dA := gA g) (ad := ad) ha0 q3.1
    rw [ccellR (c := 5) (by decide) k.1] at he
    have hf : va_up (fun j => ro ad (hR h a j)) i.toNatClampNeg (ro ad v) = fun j => ro ad (hR (sR h a i.toNatClampNeg v) a j) := funext fun j => by
      rw [hR_sR]; unfold va_up; simp only [true_and]; split <;> rfl
    have hws : (wsOf (gA g) ad h).set (a - W0) (ad a, .inl (gA g 5, (hT h a).2, .inr (.inr (.inr (.inr (va_up (fun j => ro ad (hR h a j)) i.toNatClampNeg (ro ad v))))))) = wsOf (gA g) ad (sR h a i.toNatClampNeg v) := by
      rw [wsOf_set (h' := sR h a i.toNatClampNeg v) ha0 q3.1 rfl (fun b hb => ccell_sR hb), ccellR (h := sR h a i.toNatClampNeg v) (c := 5) (by decide) k.1, hf]
      rfl
    have fin : ∀ (H1 : Heap) (locs1 : List Loc), va_P (gD g) vwCl ((wsOf (gA g) ad h).set (a - W0) (ad a, .inl (gA g 5, (hT h a).2, .inr (.inr (.inr (.inr (va_up (fun j => ro ad (hR h a j)) i.toNatClampNeg (ro ad v)))))))) H1 → va_D (gF g) ((wsOf (gA g) ad h).set (a - W0) (ad a, .inl (gA g 5, (hT h a).2, .inr (.inr (.inr (.inr (va_up (fun j => ro ad (hR h a j)) i.toNatClampNeg (ro ad v)))))))) → va_S (gF g) s.heap H1 locs1 → W p l e R s m args below meth c H1 locs1 cs ss Qf (F0 m (pc + 1) ls (r.map (cv ad))) := by
      intro H1 locs1 hP1 hD1 hS1
      rw [hws] at hP1 hD1
      exact k.2.2.2 ad H1 locs1 ls ⟨hP1, hD1, WFh_sR hRel.2.2.1 q.1, hRel.2.2.2⟩ h0 ha hS1 hl hlv q3.2
    rcases k.2.2.1 with z | z
    · have z2 : ro ad v = none := by unfold ro; rw [if_pos z]
      have z3 : cv ad (.ref v) = .null := by show va_rf (ro ad v) = _; rw [z2]; rfl
      rw [z2] at fin
      rw [z3]
      exact va_astqN A.1 A.2.1 A.2.2.2.2.2.1.1 hRel.1 hRel.2.1 hS (a - W0) 5 he rfl k.2.1 hd fin
    · have hv0 := hRel.low z (by omega)
      have z2 : ro ad v = some (ad v) := by unfold ro; rw [if_neg (by unfold W0 at hv0; omega)]
      rw [z2] at fin
      rw [cv_ref hv0]
      have hev := wsOf_at (dA := gA g) (ad := ad) hv0 q.1
      rw [ccell_obj z (by omega)] at hev
      exact va_astq A.1 A.2.1 A.2.2.2.2.2.1.1 hRel.1 hRel.2.1 hS (a - W0) 5 (v - W0) 7 (r := (RX3, TX3, 13)) he rfl hev rfl k.2.1 hd fin
  · exact k.elim
theorem o_ast106 (A : Act g p l s m args meth c cc nL own)  (hd : decode cc pc = .ok (.aastore, 1)) : Snd g n0 ads p l e R s m args below meth c nL Qf Q pc (k_sR (pc + 1) 106 8) := by
  intro lv st h cs ss k ad H locs ls hRel h0 ha hS hl hlv hst
  unfold k_sR at k
  split at k
  · next v i a r =>
    have q := List.forall_mem_cons.mp hst
    have q2 := List.forall_mem_cons.mp q.2
    have q3 := List.forall_mem_cons.mp q2.2
    have ha0 := hRel.low k.1 (by omega)
    show W p l e R s m args below meth c H locs cs ss Qf (F0 m pc ls (cv ad (.ref v) :: .int i :: cv ad (.ref a) :: r.map (cv ad)))
    rw [cv_ref ha0]
    have he := wsOf_at (dA := gA g) (ad := ad) ha0 q3.1
    rw [ccellR (c := 6) (by decide) k.1] at he
    have hf : va_up (fun j => ro ad (hR h a j)) i.toNatClampNeg (ro ad v) = fun j => ro ad (hR (sR h a i.toNatClampNeg v) a j) := funext fun j => by
      rw [hR_sR]; unfold va_up; simp only [true_and]; split <;> rfl
    have hws : (wsOf (gA g) ad h).set (a - W0) (ad a, .inl (gA g 6, (hT h a).2, .inr (.inr (.inr (.inr (va_up (fun j => ro ad (hR h a j)) i.toNatClampNeg (ro ad v))))))) = wsOf (gA g) ad (sR h a i.toNatClampNeg v) := by
      rw [wsOf_set (h' := sR h a i.toNatClampNeg v) ha0 q3.1 rfl (fun b hb => ccell_sR hb), ccellR (h := sR h a i.toNatClampNeg v) (c := 6) (by decide) k.1, hf]
      rfl
    have fin : ∀ (H1 : Heap) (locs1 : List Loc), va_P (gD g) vwCl ((wsOf (gA g) ad h).set (a - W0) (ad a, .inl (gA g 6, (hT h a).2, .inr (.inr (.inr (.inr (va_up (fun j => ro ad (hR h a j)) i.toNatClampNeg (ro ad v)))))))) H1 → va_D (gF g) ((wsOf (gA g) ad h).set (a - W0) (ad a, .inl (gA g 6, (hT h a).2, .inr (.inr (.inr (.inr (va_up (fun j => ro ad (hR h a j)) i.toNatClampNeg (ro ad v)))))))) → va_S (gF g) s.heap H1 locs1 → W p l e R s m args below meth c H1 locs1 cs ss Qf (F0 m (pc + 1) ls (r.map (cv ad))) := by
      intro H1 locs1 hP1 hD1 hS1
      rw [hws] at hP1 hD1
      exact k.2.2.2 ad H1 locs1 ls ⟨hP1, hD1, WFh_sR hRel.2.2.1 q.1, hRel.2.2.2⟩ h0 ha hS1 hl hlv q3.2
    rcases k.2.2.1 with z | z
    · have z2 : ro ad v = none := by unfold ro; rw [if_pos z]
      have z3 : cv ad (.ref v) = .null := by show va_rf (ro ad v) = _; rw [z2]; rfl
      rw [z2] at fin
      rw [z3]
      exact va_astqN A.1 A.2.1 A.2.2.2.2.2.1.1 hRel.1 hRel.2.1 hS (a - W0) 6 he rfl k.2.1 hd fin
    · have hv0 := hRel.low z (by omega)
      have z2 : ro ad v = some (ad v) := by unfold ro; rw [if_neg (by unfold W0 at hv0; omega)]
      rw [z2] at fin
      rw [cv_ref hv0]
      have hev := wsOf_at (dA := gA g) (ad := ad) hv0 q.1
      rw [ccell_obj z (by omega)] at hev
      exact va_astq A.1 A.2.1 A.2.2.2.2.2.1.1 hRel.1 hRel.2.1 hS (a - W0) 6 (v - W0) 8 (r := (RX4, TX4, 3)) he rfl hev rfl k.2.1 hd fin
  · exact k.elim
theorem o_ast107 (A : Act g p l s m args meth c cc nL own)  (hd : decode cc pc = .ok (.aastore, 1)) : Snd g n0 ads p l e R s m args below meth c nL Qf Q pc (k_sR (pc + 1) 107 15) := by
  intro lv st h cs ss k ad H locs ls hRel h0 ha hS hl hlv hst
  unfold k_sR at k
  split at k
  · next v i a r =>
    have q := List.forall_mem_cons.mp hst
    have q2 := List.forall_mem_cons.mp q.2
    have q3 := List.forall_mem_cons.mp q2.2
    have ha0 := hRel.low k.1 (by omega)
    show W p l e R s m args below meth c H locs cs ss Qf (F0 m pc ls (cv ad (.ref v) :: .int i :: cv ad (.ref a) :: r.map (cv ad)))
    rw [cv_ref ha0]
    have he := wsOf_at (dA := gA g) (ad := ad) ha0 q3.1
    rw [ccellR (c := 7) (by decide) k.1] at he
    have hf : va_up (fun j => ro ad (hR h a j)) i.toNatClampNeg (ro ad v) = fun j => ro ad (hR (sR h a i.toNatClampNeg v) a j) := funext fun j => by
      rw [hR_sR]; unfold va_up; simp only [true_and]; split <;> rfl
    have hws : (wsOf (gA g) ad h).set (a - W0) (ad a, .inl (gA g 7, (hT h a).2, .inr (.inr (.inr (.inr (va_up (fun j => ro ad (hR h a j)) i.toNatClampNeg (ro ad v))))))) = wsOf (gA g) ad (sR h a i.toNatClampNeg v) := by
      rw [wsOf_set (h' := sR h a i.toNatClampNeg v) ha0 q3.1 rfl (fun b hb => ccell_sR hb), ccellR (h := sR h a i.toNatClampNeg v) (c := 7) (by decide) k.1, hf]
      rfl
    have fin : ∀ (H1 : Heap) (locs1 : List Loc), va_P (gD g) vwCl ((wsOf (gA g) ad h).set (a - W0) (ad a, .inl (gA g 7, (hT h a).2, .inr (.inr (.inr (.inr (va_up (fun j => ro ad (hR h a j)) i.toNatClampNeg (ro ad v)))))))) H1 → va_D (gF g) ((wsOf (gA g) ad h).set (a - W0) (ad a, .inl (gA g 7, (hT h a).2, .inr (.inr (.inr (.inr (va_up (fun j => ro ad (hR h a j)) i.toNatClampNeg (ro ad v)))))))) → va_S (gF g) s.heap H1 locs1 → W p l e R s m args below meth c H1 locs1 cs ss Qf (F0 m (pc + 1) ls (r.map (cv ad))) := by
      intro H1 locs1 hP1 hD1 hS1
      rw [hws] at hP1 hD1
      exact k.2.2.2 ad H1 locs1 ls ⟨hP1, hD1, WFh_sR hRel.2.2.1 q.1, hRel.2.2.2⟩ h0 ha hS1 hl hlv q3.2
    rcases k.2.2.1 with z | z
    · have z2 : ro ad v = none := by unfold ro; rw [if_pos z]
      have z3 : cv ad (.ref v) = .null := by show va_rf (ro ad v) = _; rw [z2]; rfl
      rw [z2] at fin
      rw [z3]
      exact va_astqN A.1 A.2.1 A.2.2.2.2.2.1.1 hRel.1 hRel.2.1 hS (a - W0) 7 he rfl k.2.1 hd fin
    · have hv0 := hRel.low z (by omega)
      have z2 : ro ad v = some (ad v) := by unfold ro; rw [if_neg (by unfold W0 at hv0; omega)]
      rw [z2] at fin
      rw [cv_ref hv0]
      have hev := wsOf_at (dA := gA g) (ad := ad) hv0 q.1
      rw [ccell_obj z (by omega)] at hev
      exact va_astq A.1 A.2.1 A.2.2.2.2.2.1.1 hRel.1 hRel.2.1 hS (a - W0) 7 (v - W0) 15 (r := (RX11, TX11, 12)) he rfl hev rfl k.2.1 hd fin
  · exact k.elim
theorem o_alen (A : Act g p l s m args meth c cc nL own)  (hd : decode cc pc = .ok (.arraylength, 1)) : Snd g n0 ads p l e R s m args below meth c nL Qf Q pc (k_alen (pc + 1)) := by
  intro lv st h cs ss k ad H locs ls hRel h0 ha hS hl hlv hst
  unfold k_alen at k
  split at k
  · next a r =>
    have q := List.forall_mem_cons.mp hst
    have ha0 := hRel.low (c := (hT h a).1) rfl (by have := k.1; omega)
    show W p l e R s m args below meth c H locs cs ss Qf (F0 m pc ls (cv ad (.ref a) :: r.map (cv ad)))
    rw [cv_ref ha0]
    have he := wsOf_at (dA := gA g) (ad := ad) ha0 q.1
    obtain ⟨kd, hkd⟩ : ∃ kd, (hT h a).1 = 100 + kd := ⟨(hT h a).1 - 100, by omega⟩
    have hle := hRel.2.2.1.2.2.2 a q.1
    rw [ccell_arr hkd] at he
    have hlen := carr_len ad h a (100 + kd)
    have hty : ∃ ty, (tysA (gA g))[kd]? = some (gA g kd, ty) := by
      have : kd ≤ 8 := by omega
      have h9 : kd = 0 ∨ kd = 1 ∨ kd = 2 ∨ kd = 3 ∨ kd = 4 ∨ kd = 5 ∨ kd = 6 ∨ kd = 7 ∨ kd = 8 := by omega
      rcases h9 with z | z | z | z | z | z | z | z | z <;> rw [z] <;> exact ⟨_, rfl⟩
    obtain ⟨ty, hty⟩ := hty
    exact va_alen A.1 A.2.1 A.2.2.2.2.2.1.1 hRel.1 (a - W0) kd he hty (by rw [hlen]) hd (k.2 ad H locs ls hRel h0 ha hS hl hlv (List.forall_mem_cons.mpr ⟨trivial, q.2⟩))
  · exact k.elim
theorem o_new (A : Act g p l s m args meth c cc nL own) {C : String} {T : u_T} {N ci index : Nat} (hc : vwCl[ci]? = some (C, T, N)) (h99 : ci < 99) (hin : ∀ w ∈ u_ws C T N, w ∈ AW) (hNN : N = (FT ci).length) (ty : Nat → FieldType) (hty : ∀ k, k < N → parseFieldDescriptor (T k).2.2.1 = some (ty k)) (hdef : ∀ j, j < N → defaultValue (ty j) = match (FT ci).getD j 0 with | 1 => .long 0 | 2 => .null | _ => .int 0) (hcl : Cond.classLink own index C ∈ AW) (hinst : Cond.instantiable C N ∈ AW) (hini : Cond.initialized C ∈ AW) {MC MS : Nat} (hC : MC ≤ R.cells) (hM : MS ≤ R.slots) (hd : decode cc pc = .ok (.new index, 3)) : Snd g n0 ads p l e R s m args below meth c nL Qf Q pc (k_new (pc + 3) ci N MC MS) := by
  intro lv st h cs ss k ad H locs ls hRel h0 ha hS hl hlv hst
  obtain ⟨k1, k2, k3⟩ := k
  refine va_new A.1 A.2.1 A.2.2.2.2.1 hin ty hty A.2.2.2.1 (A.2.2.2.2.1 _ hcl) (A.2.2.2.2.1 _ hinst) (A.2.2.2.2.1 _ hini) A.2.2.2.2.2.1.1 hRel.1 hRel.2.1 hS (fun q hq => Nat.le_trans A.2.2.2.2.2.2.2.2.1 hq) hc (fs := cfs ad (nw h (ci, 0)) (hN h) ci) (fun j hj => ?_) (Nat.le_trans k1 hC) (Nat.le_trans k2 hM) hd (fun q H1 hP1 hD1 hS1 => ?_)
  · rw [hdef j hj]
    have e9 : vp_V (cfs ad (nw h (ci, 0)) (hN h) ci) j = cfv ad (nw h (ci, 0)) (hN h) j ((FT ci).getD j 0) := by
      show (cfs ad (nw h (ci, 0)) (hN h) ci).getD j .null = _
      rw [List.getD_eq_getElem?_getD, cfs_at (by omega)]
      rfl
    rw [e9]
    exact (cfv_new ad h (ci, 0) j _).symm
  · have hwf := WFh_nw (t := (ci, 0)) hRel.2.2.1 (by show ci ≤ 108; omega)
    have hce : ccell (gA g) (fun a => if a = hN h then q else ad a) (nw h (ci, 0)) (hN h) = .inr (ci, cfs ad (nw h (ci, 0)) (hN h) ci) := by
      rw [ccell_obj (c := ci) (by rw [hT_nw, if_pos rfl]) (by omega)]
      unfold cfs
      congr 2
      apply List.map_congr_left
      intro j hj
      unfold cfv
      split
      · rfl
      · rw [hR_nw, if_pos rfl]
        rfl
      · rfl
    have hws := wsOf_nw (dA := gA g) (ad := ad) (t := (ci, 0)) (q := q) hRel.2.2.1
    have hws : wsOf (gA g) (fun a => if a = hN h then q else ad a) (nw h (ci, 0)) = wsOf (gA g) ad h ++ [(q, .inr (ci, cfs ad (nw h (ci, 0)) (hN h) ci))] := hws.trans (by rw [hce])
    rw [← hws] at hP1 hD1
    have hag : ∀ a, a < hN h → (fun a => if a = hN h then q else ad a) a = ad a := fun a ha => if_neg (Nat.ne_of_lt ha)
    have hW0 : W0 ≤ hN h := hRel.2.2.1.1
    refine W.cs rfl rfl ?_
    have := k3 (fun a => if a = hN h then q else ad a) H1 locs ls ⟨hP1, hD1, hwf, fun a ha => (hag a (Nat.lt_of_lt_of_le ha hW0)).trans (hRel.2.2.2 a ha)⟩ (Nat.le_succ_of_le h0) (fun a ha2 => (hag a (Nat.lt_of_lt_of_le ha2 h0)).trans (ha a ha2)) hS1 (lvr_congr hl hlv hag) (fun v hv => refOK_mono (Nat.le_succ _) (hlv v hv)) (List.forall_mem_cons.mpr ⟨Nat.lt_succ_self _, fun v hv => refOK_mono (Nat.le_succ _) (hst v hv)⟩)
    rw [List.map_cons, map_congr_ref hst hag, cv_ref hW0, if_pos rfl] at this
    exact this
theorem o_newa_int (A : Act g p l s m args meth c cc nL own) (hw : Cond.arrayClass .int ∈ AW) {MC MS : Nat} (hC : MC ≤ R.cells) (hM : MS ≤ R.slots) (hB : MS ≤ 67108864) (hd : decode cc pc = .ok (.newarray .int, 2)) : Snd g n0 ads p l e R s m args below meth c nL Qf Q pc (k_newa (pc + 2) 100 MC MS) := by
  intro lv st h cs ss k ad H locs ls hRel h0 ha hS hl hlv hst
  unfold k_newa at k
  split at k
  · next x r =>
    obtain ⟨k0, k1, k2, k3⟩ := k
    have qst := (List.forall_mem_cons.mp hst).2
    refine va_newa A.1 A.2.1 (atype := .int) (A.2.2.2.2.1 _ hw) (ty := .int) rfl A.2.2.2.2.2.1.1 hRel.1 hRel.2.1 hS (fun q hq => Nat.le_trans A.2.2.2.2.2.2.2.2.1 hq) (N' := x.toNatClampNeg) (a0 := (x.toNatClampNeg, .inl (fun _ => 0))) (fun cA => rfl) k0 rfl (by show _ * 4 ≤ _; omega) (Nat.le_trans k1 hC) (Nat.le_trans k2 hM) hd (fun q cA H1 hK1 hP1 hD1 hS1 => ?_)
    have hcA : cA = gA g 0 := by
      have r1 := (hK1.2 9 (cA, .int) rfl).2
      have r2 := (A.2.2.2.2.2.1.1.2 0 (gA g 0, .int) rfl).2
      have r1 : s.vm.findClass ("[" ++ (FieldType.int).toString) = some cA := r1
      have r2 : s.vm.findClass ("[" ++ (FieldType.int).toString) = some (gA g 0) := r2
      rw [r1] at r2
      exact Option.some.inj r2
    subst hcA
    have hwf := WFh_nw (t := (100, x.toNatClampNeg)) hRel.2.2.1 (by show 100 ≤ 108; decide)
    have hce : ccell (gA g) (fun a => if a = hN h then q else ad a) (nw h (100, x.toNatClampNeg)) (hN h) = .inl (gA g 0, x.toNatClampNeg, .inl (fun _ => 0)) := by
      rw [ccell100 (by rw [hT_nw, if_pos rfl])]
      simp only [hT_nw, if_true]
      have ef : hI (nw h (100, x.toNatClampNeg)) (hN h) = fun _ => 0 := funext fun j => by rw [hI_nw, if_pos rfl]
      simp only [ef]
    have hws := wsOf_nw (dA := gA g) (ad := ad) (t := (100, x.toNatClampNeg)) (q := q) hRel.2.2.1
    rw [hce] at hws
    rw [← hws] at hP1 hD1
    have hag : ∀ a, a < hN h → (fun a => if a = hN h then q else ad a) a = ad a := fun a ha => if_neg (Nat.ne_of_lt ha)
    have hW0 : W0 ≤ hN h := hRel.2.2.1.1
    have := k3 (fun a => if a = hN h then q else ad a) H1 locs ls ⟨hP1, hD1, hwf, fun a ha => (hag a (Nat.lt_of_lt_of_le ha hW0)).trans (hRel.2.2.2 a ha)⟩ (Nat.le_succ_of_le h0) (fun a ha2 => (hag a (Nat.lt_of_lt_of_le ha2 h0)).trans (ha a ha2)) hS1 (lvr_congr hl hlv hag) (fun v hv => refOK_mono (Nat.le_succ _) (hlv v hv)) (List.forall_mem_cons.mpr ⟨Nat.lt_succ_self _, fun v hv => refOK_mono (Nat.le_succ _) (qst v hv)⟩)
    rw [List.map_cons, map_congr_ref qst hag, cv_ref hW0, if_pos rfl] at this
    exact this
  · exact k.elim
theorem o_newa_long (A : Act g p l s m args meth c cc nL own) (hw : Cond.arrayClass .long ∈ AW) {MC MS : Nat} (hC : MC ≤ R.cells) (hM : MS ≤ R.slots) (hB : MS ≤ 67108864) (hd : decode cc pc = .ok (.newarray .long, 2)) : Snd g n0 ads p l e R s m args below meth c nL Qf Q pc (k_newa (pc + 2) 101 MC MS) := by
  intro lv st h cs ss k ad H locs ls hRel h0 ha hS hl hlv hst
  unfold k_newa at k
  split at k
  · next x r =>
    obtain ⟨k0, k1, k2, k3⟩ := k
    have qst := (List.forall_mem_cons.mp hst).2
    refine va_newa A.1 A.2.1 (atype := .long) (A.2.2.2.2.1 _ hw) (ty := .long) rfl A.2.2.2.2.2.1.1 hRel.1 hRel.2.1 hS (fun q hq => Nat.le_trans A.2.2.2.2.2.2.2.2.1 hq) (N' := x.toNatClampNeg) (a0 := (x.toNatClampNeg, .inr (.inl (fun _ => 0)))) (fun cA => rfl) k0 rfl (by show _ * 8 ≤ _; omega) (Nat.le_trans k1 hC) (Nat.le_trans k2 hM) hd (fun q cA H1 hK1 hP1 hD1 hS1 => ?_)
    have hcA : cA = gA g 1 := by
      have r1 := (hK1.2 9 (cA, .long) rfl).2
      have r2 := (A.2.2.2.2.2.1.1.2 1 (gA g 1, .long) rfl).2
      have r1 : s.vm.findClass ("[" ++ (FieldType.long).toString) = some cA := r1
      have r2 : s.vm.findClass ("[" ++ (FieldType.long).toString) = some (gA g 1) := r2
      rw [r1] at r2
      exact Option.some.inj r2
    subst hcA
    have hwf := WFh_nw (t := (101, x.toNatClampNeg)) hRel.2.2.1 (by show 101 ≤ 108; decide)
    have hce : ccell (gA g) (fun a => if a = hN h then q else ad a) (nw h (101, x.toNatClampNeg)) (hN h) = .inl (gA g 1, x.toNatClampNeg, .inr (.inl (fun _ => 0))) := by
      rw [ccell101 (by rw [hT_nw, if_pos rfl])]
      simp only [hT_nw, if_true]
      have ef : hJ (nw h (101, x.toNatClampNeg)) (hN h) = fun _ => 0 := funext fun j => by rw [hJ_nw, if_pos rfl]
      simp only [ef]
    have hws := wsOf_nw (dA := gA g) (ad := ad) (t := (101, x.toNatClampNeg)) (q := q) hRel.2.2.1
    rw [hce] at hws
    rw [← hws] at hP1 hD1
    have hag : ∀ a, a < hN h → (fun a => if a = hN h then q else ad a) a = ad a := fun a ha => if_neg (Nat.ne_of_lt ha)
    have hW0 : W0 ≤ hN h := hRel.2.2.1.1
    have := k3 (fun a => if a = hN h then q else ad a) H1 locs ls ⟨hP1, hD1, hwf, fun a ha => (hag a (Nat.lt_of_lt_of_le ha hW0)).trans (hRel.2.2.2 a ha)⟩ (Nat.le_succ_of_le h0) (fun a ha2 => (hag a (Nat.lt_of_lt_of_le ha2 h0)).trans (ha a ha2)) hS1 (lvr_congr hl hlv hag) (fun v hv => refOK_mono (Nat.le_succ _) (hlv v hv)) (List.forall_mem_cons.mpr ⟨Nat.lt_succ_self _, fun v hv => refOK_mono (Nat.le_succ _) (qst v hv)⟩)
    rw [List.map_cons, map_congr_ref qst hag, cv_ref hW0, if_pos rfl] at this
    exact this
  · exact k.elim
theorem o_newa_boolean (A : Act g p l s m args meth c cc nL own) (hw : Cond.arrayClass .boolean ∈ AW) {MC MS : Nat} (hC : MC ≤ R.cells) (hM : MS ≤ R.slots) (hB : MS ≤ 67108864) (hd : decode cc pc = .ok (.newarray .boolean, 2)) : Snd g n0 ads p l e R s m args below meth c nL Qf Q pc (k_newa (pc + 2) 102 MC MS) := by
  intro lv st h cs ss k ad H locs ls hRel h0 ha hS hl hlv hst
  unfold k_newa at k
  split at k
  · next x r =>
    obtain ⟨k0, k1, k2, k3⟩ := k
    have qst := (List.forall_mem_cons.mp hst).2
    refine va_newa A.1 A.2.1 (atype := .boolean) (A.2.2.2.2.1 _ hw) (ty := .boolean) rfl A.2.2.2.2.2.1.1 hRel.1 hRel.2.1 hS (fun q hq => Nat.le_trans A.2.2.2.2.2.2.2.2.1 hq) (N' := x.toNatClampNeg) (a0 := (x.toNatClampNeg, .inl (fun _ => 0))) (fun cA => rfl) k0 rfl (by show _ * 1 ≤ _; omega) (Nat.le_trans k1 hC) (Nat.le_trans k2 hM) hd (fun q cA H1 hK1 hP1 hD1 hS1 => ?_)
    have hcA : cA = gA g 2 := by
      have r1 := (hK1.2 9 (cA, .boolean) rfl).2
      have r2 := (A.2.2.2.2.2.1.1.2 2 (gA g 2, .boolean) rfl).2
      have r1 : s.vm.findClass ("[" ++ (FieldType.boolean).toString) = some cA := r1
      have r2 : s.vm.findClass ("[" ++ (FieldType.boolean).toString) = some (gA g 2) := r2
      rw [r1] at r2
      exact Option.some.inj r2
    subst hcA
    have hwf := WFh_nw (t := (102, x.toNatClampNeg)) hRel.2.2.1 (by show 102 ≤ 108; decide)
    have hce : ccell (gA g) (fun a => if a = hN h then q else ad a) (nw h (102, x.toNatClampNeg)) (hN h) = .inl (gA g 2, x.toNatClampNeg, .inl (fun _ => 0)) := by
      rw [ccell102 (by rw [hT_nw, if_pos rfl])]
      simp only [hT_nw, if_true]
      have ef : hI (nw h (102, x.toNatClampNeg)) (hN h) = fun _ => 0 := funext fun j => by rw [hI_nw, if_pos rfl]
      simp only [ef]
    have hws := wsOf_nw (dA := gA g) (ad := ad) (t := (102, x.toNatClampNeg)) (q := q) hRel.2.2.1
    rw [hce] at hws
    rw [← hws] at hP1 hD1
    have hag : ∀ a, a < hN h → (fun a => if a = hN h then q else ad a) a = ad a := fun a ha => if_neg (Nat.ne_of_lt ha)
    have hW0 : W0 ≤ hN h := hRel.2.2.1.1
    have := k3 (fun a => if a = hN h then q else ad a) H1 locs ls ⟨hP1, hD1, hwf, fun a ha => (hag a (Nat.lt_of_lt_of_le ha hW0)).trans (hRel.2.2.2 a ha)⟩ (Nat.le_succ_of_le h0) (fun a ha2 => (hag a (Nat.lt_of_lt_of_le ha2 h0)).trans (ha a ha2)) hS1 (lvr_congr hl hlv hag) (fun v hv => refOK_mono (Nat.le_succ _) (hlv v hv)) (List.forall_mem_cons.mpr ⟨Nat.lt_succ_self _, fun v hv => refOK_mono (Nat.le_succ _) (qst v hv)⟩)
    rw [List.map_cons, map_congr_ref qst hag, cv_ref hW0, if_pos rfl] at this
    exact this
  · exact k.elim
theorem o_newa_double (A : Act g p l s m args meth c cc nL own) (hw : Cond.arrayClass .double ∈ AW) {MC MS : Nat} (hC : MC ≤ R.cells) (hM : MS ≤ R.slots) (hB : MS ≤ 67108864) (hd : decode cc pc = .ok (.newarray .double, 2)) : Snd g n0 ads p l e R s m args below meth c nL Qf Q pc (k_newa (pc + 2) 103 MC MS) := by
  intro lv st h cs ss k ad H locs ls hRel h0 ha hS hl hlv hst
  unfold k_newa at k
  split at k
  · next x r =>
    obtain ⟨k0, k1, k2, k3⟩ := k
    have qst := (List.forall_mem_cons.mp hst).2
    refine va_newa A.1 A.2.1 (atype := .double) (A.2.2.2.2.1 _ hw) (ty := .double) rfl A.2.2.2.2.2.1.1 hRel.1 hRel.2.1 hS (fun q hq => Nat.le_trans A.2.2.2.2.2.2.2.2.1 hq) (N' := x.toNatClampNeg) (a0 := (x.toNatClampNeg, .inr (.inr (.inr (.inl (fun _ => 0)))))) (fun cA => rfl) k0 rfl (by show _ * 8 ≤ _; omega) (Nat.le_trans k1 hC) (Nat.le_trans k2 hM) hd (fun q cA H1 hK1 hP1 hD1 hS1 => ?_)
    have hcA : cA = gA g 3 := by
      have r1 := (hK1.2 9 (cA, .double) rfl).2
      have r2 := (A.2.2.2.2.2.1.1.2 3 (gA g 3, .double) rfl).2
      have r1 : s.vm.findClass ("[" ++ (FieldType.double).toString) = some cA := r1
      have r2 : s.vm.findClass ("[" ++ (FieldType.double).toString) = some (gA g 3) := r2
      rw [r1] at r2
      exact Option.some.inj r2
    subst hcA
    have hwf := WFh_nw (t := (103, x.toNatClampNeg)) hRel.2.2.1 (by show 103 ≤ 108; decide)
    have hce : ccell (gA g) (fun a => if a = hN h then q else ad a) (nw h (103, x.toNatClampNeg)) (hN h) = .inl (gA g 3, x.toNatClampNeg, .inr (.inr (.inr (.inl (fun _ => 0))))) := by
      rw [ccell103 (by rw [hT_nw, if_pos rfl])]
      simp only [hT_nw, if_true]
      have ef : hD (nw h (103, x.toNatClampNeg)) (hN h) = fun _ => 0 := funext fun j => by rw [hD_nw, if_pos rfl]
      simp only [ef]
    have hws := wsOf_nw (dA := gA g) (ad := ad) (t := (103, x.toNatClampNeg)) (q := q) hRel.2.2.1
    rw [hce] at hws
    rw [← hws] at hP1 hD1
    have hag : ∀ a, a < hN h → (fun a => if a = hN h then q else ad a) a = ad a := fun a ha => if_neg (Nat.ne_of_lt ha)
    have hW0 : W0 ≤ hN h := hRel.2.2.1.1
    have := k3 (fun a => if a = hN h then q else ad a) H1 locs ls ⟨hP1, hD1, hwf, fun a ha => (hag a (Nat.lt_of_lt_of_le ha hW0)).trans (hRel.2.2.2 a ha)⟩ (Nat.le_succ_of_le h0) (fun a ha2 => (hag a (Nat.lt_of_lt_of_le ha2 h0)).trans (ha a ha2)) hS1 (lvr_congr hl hlv hag) (fun v hv => refOK_mono (Nat.le_succ _) (hlv v hv)) (List.forall_mem_cons.mpr ⟨Nat.lt_succ_self _, fun v hv => refOK_mono (Nat.le_succ _) (qst v hv)⟩)
    rw [List.map_cons, map_congr_ref qst hag, cv_ref hW0, if_pos rfl] at this
    exact this
  · exact k.elim
theorem o_newq104 (A : Act g p l s m args meth c cc nL own) {index : Nat} (hcl : Cond.classLink own index "Writeback$Device" ∈ AW) {MC MS : Nat} (hC : MC ≤ R.cells) (hM : MS ≤ R.slots) (hB : MS ≤ 67108864) (hd : decode cc pc = .ok (.anewarray index, 3)) : Snd g n0 ads p l e R s m args below meth c nL Qf Q pc (k_newa (pc + 3) 104 MC MS) := by
  intro lv st h cs ss k ad H locs ls hRel h0 ha hS hl hlv hst
  unfold k_newa at k
  split at k
  · next x r =>
    obtain ⟨k0, k1, k2, k3⟩ := k
    have qst := (List.forall_mem_cons.mp hst).2
    refine va_newq A.1 A.2.1 A.2.2.2.1 (A.2.2.2.2.1 _ hcl) A.2.2.2.2.2.1.2.1.2.2.1 A.2.2.2.2.2.1.1 hRel.1 hRel.2.1 hS (fun q hq => Nat.le_trans A.2.2.2.2.2.2.2.2.1 hq) (N' := x.toNatClampNeg) k0 rfl (by omega) (Nat.le_trans k1 hC) (Nat.le_trans k2 hM) hd (fun q cA H1 hK1 hP1 hD1 hS1 => ?_)
    have hcA : cA = gA g 4 := by
      obtain ⟨_, _, -, -, -, r1⟩ := (hK1.2 9 (cA, .object "Writeback$Device") rfl).2
      obtain ⟨_, _, -, -, -, r2⟩ := (A.2.2.2.2.2.1.1.2 4 (gA g 4, .object "Writeback$Device") rfl).2
      rw [r1] at r2
      exact Option.some.inj r2
    subst hcA
    have hwf := WFh_nw (t := (104, x.toNatClampNeg)) hRel.2.2.1 (by show 104 ≤ 108; decide)
    have hce : ccell (gA g) (fun a => if a = hN h then q else ad a) (nw h (104, x.toNatClampNeg)) (hN h) = .inl (gA g 4, x.toNatClampNeg, .inr (.inr (.inr (.inr (fun _ => none))))) := by
      rw [ccellR (c := 4) (by decide) (by rw [hT_nw, if_pos rfl])]
      simp only [hT_nw, if_true]
      have ef : (fun j => ro (fun a => if a = hN h then q else ad a) (hR (nw h (104, x.toNatClampNeg)) (hN h) j)) = fun _ => none := funext fun j => by rw [hR_nw, if_pos rfl]; rfl
      simp only [ef]
    have hws := wsOf_nw (dA := gA g) (ad := ad) (t := (104, x.toNatClampNeg)) (q := q) hRel.2.2.1
    rw [hce] at hws
    rw [← hws] at hP1 hD1
    have hag : ∀ a, a < hN h → (fun a => if a = hN h then q else ad a) a = ad a := fun a ha => if_neg (Nat.ne_of_lt ha)
    have hW0 : W0 ≤ hN h := hRel.2.2.1.1
    have := k3 (fun a => if a = hN h then q else ad a) H1 locs ls ⟨hP1, hD1, hwf, fun a ha => (hag a (Nat.lt_of_lt_of_le ha hW0)).trans (hRel.2.2.2 a ha)⟩ (Nat.le_succ_of_le h0) (fun a ha2 => (hag a (Nat.lt_of_lt_of_le ha2 h0)).trans (ha a ha2)) hS1 (lvr_congr hl hlv hag) (fun v hv => refOK_mono (Nat.le_succ _) (hlv v hv)) (List.forall_mem_cons.mpr ⟨Nat.lt_succ_self _, fun v hv => refOK_mono (Nat.le_succ _) (qst v hv)⟩)
    rw [List.map_cons, map_congr_ref qst hag, cv_ref hW0, if_pos rfl] at this
    exact this
  · exact k.elim
theorem o_newq105 (A : Act g p l s m args meth c cc nL own) {index : Nat} (hcl : Cond.classLink own index "Writeback$Frame" ∈ AW) {MC MS : Nat} (hC : MC ≤ R.cells) (hM : MS ≤ R.slots) (hB : MS ≤ 67108864) (hd : decode cc pc = .ok (.anewarray index, 3)) : Snd g n0 ads p l e R s m args below meth c nL Qf Q pc (k_newa (pc + 3) 105 MC MS) := by
  intro lv st h cs ss k ad H locs ls hRel h0 ha hS hl hlv hst
  unfold k_newa at k
  split at k
  · next x r =>
    obtain ⟨k0, k1, k2, k3⟩ := k
    have qst := (List.forall_mem_cons.mp hst).2
    refine va_newq A.1 A.2.1 A.2.2.2.1 (A.2.2.2.2.1 _ hcl) A.2.2.2.2.2.1.2.1.2.2.2.1 A.2.2.2.2.2.1.1 hRel.1 hRel.2.1 hS (fun q hq => Nat.le_trans A.2.2.2.2.2.2.2.2.1 hq) (N' := x.toNatClampNeg) k0 rfl (by omega) (Nat.le_trans k1 hC) (Nat.le_trans k2 hM) hd (fun q cA H1 hK1 hP1 hD1 hS1 => ?_)
    have hcA : cA = gA g 5 := by
      obtain ⟨_, _, -, -, -, r1⟩ := (hK1.2 9 (cA, .object "Writeback$Frame") rfl).2
      obtain ⟨_, _, -, -, -, r2⟩ := (A.2.2.2.2.2.1.1.2 5 (gA g 5, .object "Writeback$Frame") rfl).2
      rw [r1] at r2
      exact Option.some.inj r2
    subst hcA
    have hwf := WFh_nw (t := (105, x.toNatClampNeg)) hRel.2.2.1 (by show 105 ≤ 108; decide)
    have hce : ccell (gA g) (fun a => if a = hN h then q else ad a) (nw h (105, x.toNatClampNeg)) (hN h) = .inl (gA g 5, x.toNatClampNeg, .inr (.inr (.inr (.inr (fun _ => none))))) := by
      rw [ccellR (c := 5) (by decide) (by rw [hT_nw, if_pos rfl])]
      simp only [hT_nw, if_true]
      have ef : (fun j => ro (fun a => if a = hN h then q else ad a) (hR (nw h (105, x.toNatClampNeg)) (hN h) j)) = fun _ => none := funext fun j => by rw [hR_nw, if_pos rfl]; rfl
      simp only [ef]
    have hws := wsOf_nw (dA := gA g) (ad := ad) (t := (105, x.toNatClampNeg)) (q := q) hRel.2.2.1
    rw [hce] at hws
    rw [← hws] at hP1 hD1
    have hag : ∀ a, a < hN h → (fun a => if a = hN h then q else ad a) a = ad a := fun a ha => if_neg (Nat.ne_of_lt ha)
    have hW0 : W0 ≤ hN h := hRel.2.2.1.1
    have := k3 (fun a => if a = hN h then q else ad a) H1 locs ls ⟨hP1, hD1, hwf, fun a ha => (hag a (Nat.lt_of_lt_of_le ha hW0)).trans (hRel.2.2.2 a ha)⟩ (Nat.le_succ_of_le h0) (fun a ha2 => (hag a (Nat.lt_of_lt_of_le ha2 h0)).trans (ha a ha2)) hS1 (lvr_congr hl hlv hag) (fun v hv => refOK_mono (Nat.le_succ _) (hlv v hv)) (List.forall_mem_cons.mpr ⟨Nat.lt_succ_self _, fun v hv => refOK_mono (Nat.le_succ _) (qst v hv)⟩)
    rw [List.map_cons, map_congr_ref qst hag, cv_ref hW0, if_pos rfl] at this
    exact this
  · exact k.elim
theorem o_newq106 (A : Act g p l s m args meth c cc nL own) {index : Nat} (hcl : Cond.classLink own index "Writeback$Image" ∈ AW) {MC MS : Nat} (hC : MC ≤ R.cells) (hM : MS ≤ R.slots) (hB : MS ≤ 67108864) (hd : decode cc pc = .ok (.anewarray index, 3)) : Snd g n0 ads p l e R s m args below meth c nL Qf Q pc (k_newa (pc + 3) 106 MC MS) := by
  intro lv st h cs ss k ad H locs ls hRel h0 ha hS hl hlv hst
  unfold k_newa at k
  split at k
  · next x r =>
    obtain ⟨k0, k1, k2, k3⟩ := k
    have qst := (List.forall_mem_cons.mp hst).2
    refine va_newq A.1 A.2.1 A.2.2.2.1 (A.2.2.2.2.1 _ hcl) A.2.2.2.2.2.1.2.1.2.2.2.2.1 A.2.2.2.2.2.1.1 hRel.1 hRel.2.1 hS (fun q hq => Nat.le_trans A.2.2.2.2.2.2.2.2.1 hq) (N' := x.toNatClampNeg) k0 rfl (by omega) (Nat.le_trans k1 hC) (Nat.le_trans k2 hM) hd (fun q cA H1 hK1 hP1 hD1 hS1 => ?_)
    have hcA : cA = gA g 6 := by
      obtain ⟨_, _, -, -, -, r1⟩ := (hK1.2 9 (cA, .object "Writeback$Image") rfl).2
      obtain ⟨_, _, -, -, -, r2⟩ := (A.2.2.2.2.2.1.1.2 6 (gA g 6, .object "Writeback$Image") rfl).2
      rw [r1] at r2
      exact Option.some.inj r2
    subst hcA
    have hwf := WFh_nw (t := (106, x.toNatClampNeg)) hRel.2.2.1 (by show 106 ≤ 108; decide)
    have hce : ccell (gA g) (fun a => if a = hN h then q else ad a) (nw h (106, x.toNatClampNeg)) (hN h) = .inl (gA g 6, x.toNatClampNeg, .inr (.inr (.inr (.inr (fun _ => none))))) := by
      rw [ccellR (c := 6) (by decide) (by rw [hT_nw, if_pos rfl])]
      simp only [hT_nw, if_true]
      have ef : (fun j => ro (fun a => if a = hN h then q else ad a) (hR (nw h (106, x.toNatClampNeg)) (hN h) j)) = fun _ => none := funext fun j => by rw [hR_nw, if_pos rfl]; rfl
      simp only [ef]
    have hws := wsOf_nw (dA := gA g) (ad := ad) (t := (106, x.toNatClampNeg)) (q := q) hRel.2.2.1
    rw [hce] at hws
    rw [← hws] at hP1 hD1
    have hag : ∀ a, a < hN h → (fun a => if a = hN h then q else ad a) a = ad a := fun a ha => if_neg (Nat.ne_of_lt ha)
    have hW0 : W0 ≤ hN h := hRel.2.2.1.1
    have := k3 (fun a => if a = hN h then q else ad a) H1 locs ls ⟨hP1, hD1, hwf, fun a ha => (hag a (Nat.lt_of_lt_of_le ha hW0)).trans (hRel.2.2.2 a ha)⟩ (Nat.le_succ_of_le h0) (fun a ha2 => (hag a (Nat.lt_of_lt_of_le ha2 h0)).trans (ha a ha2)) hS1 (lvr_congr hl hlv hag) (fun v hv => refOK_mono (Nat.le_succ _) (hlv v hv)) (List.forall_mem_cons.mpr ⟨Nat.lt_succ_self _, fun v hv => refOK_mono (Nat.le_succ _) (qst v hv)⟩)
    rw [List.map_cons, map_congr_ref qst hag, cv_ref hW0, if_pos rfl] at this
    exact this
  · exact k.elim
theorem o_newq107 (A : Act g p l s m args meth c cc nL own) {index : Nat} (hcl : Cond.classLink own index "WritebackModel$Page" ∈ AW) {MC MS : Nat} (hC : MC ≤ R.cells) (hM : MS ≤ R.slots) (hB : MS ≤ 67108864) (hd : decode cc pc = .ok (.anewarray index, 3)) : Snd g n0 ads p l e R s m args below meth c nL Qf Q pc (k_newa (pc + 3) 107 MC MS) := by
  intro lv st h cs ss k ad H locs ls hRel h0 ha hS hl hlv hst
  unfold k_newa at k
  split at k
  · next x r =>
    obtain ⟨k0, k1, k2, k3⟩ := k
    have qst := (List.forall_mem_cons.mp hst).2
    refine va_newq A.1 A.2.1 A.2.2.2.1 (A.2.2.2.2.1 _ hcl) A.2.2.2.2.2.1.2.1.2.2.2.2.2.1 A.2.2.2.2.2.1.1 hRel.1 hRel.2.1 hS (fun q hq => Nat.le_trans A.2.2.2.2.2.2.2.2.1 hq) (N' := x.toNatClampNeg) k0 rfl (by omega) (Nat.le_trans k1 hC) (Nat.le_trans k2 hM) hd (fun q cA H1 hK1 hP1 hD1 hS1 => ?_)
    have hcA : cA = gA g 7 := by
      obtain ⟨_, _, -, -, -, r1⟩ := (hK1.2 9 (cA, .object "WritebackModel$Page") rfl).2
      obtain ⟨_, _, -, -, -, r2⟩ := (A.2.2.2.2.2.1.1.2 7 (gA g 7, .object "WritebackModel$Page") rfl).2
      rw [r1] at r2
      exact Option.some.inj r2
    subst hcA
    have hwf := WFh_nw (t := (107, x.toNatClampNeg)) hRel.2.2.1 (by show 107 ≤ 108; decide)
    have hce : ccell (gA g) (fun a => if a = hN h then q else ad a) (nw h (107, x.toNatClampNeg)) (hN h) = .inl (gA g 7, x.toNatClampNeg, .inr (.inr (.inr (.inr (fun _ => none))))) := by
      rw [ccellR (c := 7) (by decide) (by rw [hT_nw, if_pos rfl])]
      simp only [hT_nw, if_true]
      have ef : (fun j => ro (fun a => if a = hN h then q else ad a) (hR (nw h (107, x.toNatClampNeg)) (hN h) j)) = fun _ => none := funext fun j => by rw [hR_nw, if_pos rfl]; rfl
      simp only [ef]
    have hws := wsOf_nw (dA := gA g) (ad := ad) (t := (107, x.toNatClampNeg)) (q := q) hRel.2.2.1
    rw [hce] at hws
    rw [← hws] at hP1 hD1
    have hag : ∀ a, a < hN h → (fun a => if a = hN h then q else ad a) a = ad a := fun a ha => if_neg (Nat.ne_of_lt ha)
    have hW0 : W0 ≤ hN h := hRel.2.2.1.1
    have := k3 (fun a => if a = hN h then q else ad a) H1 locs ls ⟨hP1, hD1, hwf, fun a ha => (hag a (Nat.lt_of_lt_of_le ha hW0)).trans (hRel.2.2.2 a ha)⟩ (Nat.le_succ_of_le h0) (fun a ha2 => (hag a (Nat.lt_of_lt_of_le ha2 h0)).trans (ha a ha2)) hS1 (lvr_congr hl hlv hag) (fun v hv => refOK_mono (Nat.le_succ _) (hlv v hv)) (List.forall_mem_cons.mpr ⟨Nat.lt_succ_self _, fun v hv => refOK_mono (Nat.le_succ _) (qst v hv)⟩)
    rw [List.map_cons, map_congr_ref qst hag, cv_ref hW0, if_pos rfl] at this
    exact this
  · exact k.elim
theorem o_newq108 (A : Act g p l s m args meth c cc nL own) {index : Nat} (hcl : Cond.classLink own index "java/lang/Object" ∈ AW) {MC MS : Nat} (hC : MC ≤ R.cells) (hM : MS ≤ R.slots) (hB : MS ≤ 67108864) (hd : decode cc pc = .ok (.anewarray index, 3)) : Snd g n0 ads p l e R s m args below meth c nL Qf Q pc (k_newa (pc + 3) 108 MC MS) := by
  intro lv st h cs ss k ad H locs ls hRel h0 ha hS hl hlv hst
  unfold k_newa at k
  split at k
  · next x r =>
    obtain ⟨k0, k1, k2, k3⟩ := k
    have qst := (List.forall_mem_cons.mp hst).2
    refine va_newq A.1 A.2.1 A.2.2.2.1 (A.2.2.2.2.1 _ hcl) A.2.2.2.2.2.1.2.1.2.2.2.2.2.2 A.2.2.2.2.2.1.1 hRel.1 hRel.2.1 hS (fun q hq => Nat.le_trans A.2.2.2.2.2.2.2.2.1 hq) (N' := x.toNatClampNeg) k0 rfl (by omega) (Nat.le_trans k1 hC) (Nat.le_trans k2 hM) hd (fun q cA H1 hK1 hP1 hD1 hS1 => ?_)
    have hcA : cA = gA g 8 := by
      obtain ⟨_, _, -, -, -, r1⟩ := (hK1.2 9 (cA, .object "java/lang/Object") rfl).2
      obtain ⟨_, _, -, -, -, r2⟩ := (A.2.2.2.2.2.1.1.2 8 (gA g 8, .object "java/lang/Object") rfl).2
      rw [r1] at r2
      exact Option.some.inj r2
    subst hcA
    have hwf := WFh_nw (t := (108, x.toNatClampNeg)) hRel.2.2.1 (by show 108 ≤ 108; decide)
    have hce : ccell (gA g) (fun a => if a = hN h then q else ad a) (nw h (108, x.toNatClampNeg)) (hN h) = .inl (gA g 8, x.toNatClampNeg, .inr (.inr (.inr (.inr (fun _ => none))))) := by
      rw [ccellR (c := 8) (by decide) (by rw [hT_nw, if_pos rfl])]
      simp only [hT_nw, if_true]
      have ef : (fun j => ro (fun a => if a = hN h then q else ad a) (hR (nw h (108, x.toNatClampNeg)) (hN h) j)) = fun _ => none := funext fun j => by rw [hR_nw, if_pos rfl]; rfl
      simp only [ef]
    have hws := wsOf_nw (dA := gA g) (ad := ad) (t := (108, x.toNatClampNeg)) (q := q) hRel.2.2.1
    rw [hce] at hws
    rw [← hws] at hP1 hD1
    have hag : ∀ a, a < hN h → (fun a => if a = hN h then q else ad a) a = ad a := fun a ha => if_neg (Nat.ne_of_lt ha)
    have hW0 : W0 ≤ hN h := hRel.2.2.1.1
    have := k3 (fun a => if a = hN h then q else ad a) H1 locs ls ⟨hP1, hD1, hwf, fun a ha => (hag a (Nat.lt_of_lt_of_le ha hW0)).trans (hRel.2.2.2 a ha)⟩ (Nat.le_succ_of_le h0) (fun a ha2 => (hag a (Nat.lt_of_lt_of_le ha2 h0)).trans (ha a ha2)) hS1 (lvr_congr hl hlv hag) (fun v hv => refOK_mono (Nat.le_succ _) (hlv v hv)) (List.forall_mem_cons.mpr ⟨Nat.lt_succ_self _, fun v hv => refOK_mono (Nat.le_succ _) (qst v hv)⟩)
    rw [List.map_cons, map_congr_ref qst hag, cv_ref hW0, if_pos rfl] at this
    exact this
  · exact k.elim
end HEAP
theorem mono_gI (n c k : Nat) : Mono (k_gI n c k) := by
  intro X Y Q Q' hX hQ lv st h cs ss k
  unfold k_gI at *; split at k <;> first | exact ⟨k.1, hX _ _ _ _ _ _ k.2⟩ | exact k.elim
theorem mono_gJ (n c k : Nat) : Mono (k_gJ n c k) := by
  intro X Y Q Q' hX hQ lv st h cs ss k
  unfold k_gJ at *; split at k <;> first | exact ⟨k.1, hX _ _ _ _ _ _ k.2⟩ | exact k.elim
theorem mono_gR (n c k : Nat) : Mono (k_gR n c k) := by
  intro X Y Q Q' hX hQ lv st h cs ss k
  unfold k_gR at *; split at k <;> first | exact ⟨k.1, hX _ _ _ _ _ _ k.2⟩ | exact k.elim
theorem mono_pI (n c k t : Nat) : Mono (k_pI n c k t) := by
  intro X Y Q Q' hX hQ lv st h cs ss k
  unfold k_pI at *; split at k <;> first | exact ⟨k.1, k.2.1, hX _ _ _ _ _ _ k.2.2⟩ | exact k.elim
theorem mono_pJ (n c k : Nat) : Mono (k_pJ n c k) := by
  intro X Y Q Q' hX hQ lv st h cs ss k
  unfold k_pJ at *; split at k <;> first | exact ⟨k.1, hX _ _ _ _ _ _ k.2⟩ | exact k.elim
theorem mono_pR (n c k : Nat) : Mono (k_pR n c k) := by
  intro X Y Q Q' hX hQ lv st h cs ss k
  unfold k_pR at *; split at k <;> first | exact ⟨k.1, hX _ _ _ _ _ _ k.2⟩ | exact k.elim
theorem mono_aI (n kd : Nat) : Mono (k_aI n kd) := by
  intro X Y Q Q' hX hQ lv st h cs ss k
  unfold k_aI at *; split at k <;> first | exact ⟨k.1, k.2.1, hX _ _ _ _ _ _ k.2.2⟩ | exact k.elim
theorem mono_aJ (n kd : Nat) : Mono (k_aJ n kd) := by
  intro X Y Q Q' hX hQ lv st h cs ss k
  unfold k_aJ at *; split at k <;> first | exact ⟨k.1, k.2.1, hX _ _ _ _ _ _ k.2.2⟩ | exact k.elim
theorem mono_aD (n kd : Nat) : Mono (k_aD n kd) := by
  intro X Y Q Q' hX hQ lv st h cs ss k
  unfold k_aD at *; split at k <;> first | exact ⟨k.1, k.2.1, hX _ _ _ _ _ _ k.2.2⟩ | exact k.elim
theorem mono_aR (n kd : Nat) : Mono (k_aR n kd) := by
  intro X Y Q Q' hX hQ lv st h cs ss k
  unfold k_aR at *; split at k <;> first | exact ⟨k.1, k.2.1, hX _ _ _ _ _ _ k.2.2⟩ | exact k.elim
theorem mono_sI (n kd t : Nat) : Mono (k_sI n kd t) := by
  intro X Y Q Q' hX hQ lv st h cs ss k
  unfold k_sI at *; split at k <;> first | exact ⟨k.1, k.2.1, k.2.2.1, hX _ _ _ _ _ _ k.2.2.2⟩ | exact k.elim
theorem mono_sJ (n kd : Nat) : Mono (k_sJ n kd) := by
  intro X Y Q Q' hX hQ lv st h cs ss k
  unfold k_sJ at *; split at k <;> first | exact ⟨k.1, k.2.1, hX _ _ _ _ _ _ k.2.2⟩ | exact k.elim
theorem mono_sD (n kd : Nat) : Mono (k_sD n kd) := by
  intro X Y Q Q' hX hQ lv st h cs ss k
  unfold k_sD at *; split at k <;> first | exact ⟨k.1, k.2.1, hX _ _ _ _ _ _ k.2.2⟩ | exact k.elim
theorem mono_sR (n kd c : Nat) : Mono (k_sR n kd c) := by
  intro X Y Q Q' hX hQ lv st h cs ss k
  unfold k_sR at *; split at k <;> first | exact ⟨k.1, k.2.1, k.2.2.1, hX _ _ _ _ _ _ k.2.2.2⟩ | exact k.elim
theorem mono_alen (n : Nat) : Mono (k_alen n) := by
  intro X Y Q Q' hX hQ lv st h cs ss k
  unfold k_alen at *; split at k <;> first | exact ⟨k.1, hX _ _ _ _ _ _ k.2⟩ | exact k.elim
theorem mono_cast (n c : Nat) : Mono (k_cast n c) := by
  intro X Y Q Q' hX hQ lv st h cs ss k
  unfold k_cast at *; split at k <;> first | exact ⟨k.1, hX _ _ _ _ _ _ k.2⟩ | exact k.elim
theorem mono_newa (n kd MC MS : Nat) : Mono (k_newa n kd MC MS) := by
  intro X Y Q Q' hX hQ lv st h cs ss k
  unfold k_newa at *; split at k <;> first | exact ⟨k.1, k.2.1, k.2.2.1, hX _ _ _ _ _ _ k.2.2.2⟩ | exact k.elim
theorem mono_new (n c N MC MS : Nat) : Mono (k_new n c N MC MS) := fun X Y Q Q' hX hQ lv st h cs ss k => ⟨k.1, k.2.1, hX _ _ _ _ _ _ k.2.2⟩
