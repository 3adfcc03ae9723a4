/-! METHODS WITH HANDLERS: a call whose exceptions are caught at once -/
theorem lvr_weaken {ad : Nat → Nat} {ls : Array Slot} {lv lv' : List Value} {nL : Nat} (h : lvr ad ls lv nL) (hn : lv'.length ≤ nL) (e : ∀ (j : Nat) (v : Value), lv'[j]? = some v → v ≠ .null → lv[j]? = some v) : lvr ad ls lv' nL := ⟨h.1, hn, h.2.2.1, fun j v hj hv => h.2.2.2 j v (e j v hj hv) hv⟩
theorem set_null {lv : List Value} {i j : Nat} {v w : Value} (h : (lv.set i .null)[j]? = some v) (hv : v ≠ .null) : (lv.set i w)[j]? = some v := by
  rw [List.getElem?_set] at h ⊢
  by_cases c : i = j
  · rw [if_pos c] at h
    split at h
    · exact absurd (Option.some.inj h).symm hv
    · cases h
  · rw [if_neg c] at h ⊢
    exact h
theorem put1_null {lv : List Value} {j : Nat} {v w : Value} : ∀ {i : Nat}, (put1 lv i .null)[j]? = some v → v ≠ .null → (put1 lv i w)[j]? = some v
  | 0, h, hv => set_null h hv
  | i + 1, h, hv => by
    have h : (if cat2 (lv.getD i .null) = true then (lv.set i .null).set (i + 1) .null else lv.set (i + 1) .null)[j]? = some v := h
    show (if cat2 (lv.getD i .null) = true then (lv.set i .null).set (i + 1) w else lv.set (i + 1) w)[j]? = some v
    split at h
    · next c => rw [if_pos c]; exact set_null h hv
    · next c => rw [if_neg c]; exact set_null h hv
theorem put1_refN {n : Nat} {lv : List Value} (h : ∀ v ∈ lv, refOK n v) {i : Nat} : ∀ v ∈ put1 lv i .null, refOK n v := put1_ref h trivial
/-- something unknown is put away -/
theorem lvr_away {ad : Nat → Nat} {ls : Array Slot} {lv : List Value} {nL i q n : Nat} (hl : lvr ad ls lv nL) (hlv : ∀ v ∈ lv, refOK n v) (hn : n ≠ 0) (hb : i < nL) : ∃ ls', storeLocals ls i (.ref q) = some ls' ∧ lvr ad ls' (put1 lv i .null) nL := by
  have hag : ∀ a, a < n → (fun a => if a = n then q else ad a) a = ad a := fun a ha => if_neg (Nat.ne_of_lt ha)
  have hl2 := lvr_congr hl hlv hag
  obtain ⟨ls', e', h'⟩ := lvr_put1 (v := .ref n) hl2 hb rfl
  rw [cv_ne0 hn, if_pos rfl] at e'
  refine ⟨ls', e', ?_⟩
  have hw : lvr (fun a => if a = n then q else ad a) ls' (put1 lv i .null) nL := lvr_weaken h' (by rw [put1_len]; exact hl.2.1) (fun j v hj hv => put1_null hj hv)
  exact ⟨hw.1, hw.2.1, hw.2.2.1, fun j v hj hv => by
    rw [← cv_congr hag (put1_refN hlv v (List.mem_of_getElem? hj))]
    exact hw.2.2.2 j v hj hv⟩
/-- the row of the table that takes the exception q.1, where its handler goes on (behind the store of the exception), and the local that it goes to -/
def HOk (own : String) (cc : ByteArray) (hh : List (Nat × Nat × Nat × Nat)) (pc nL : Nat) (q : String × Nat × Nat) : Prop := ∃ (pre : List ExceptionTableEntry) (x : ExceptionTableEntry) (suf : List ExceptionTableEntry), tableOf hh = pre ++ x :: suf ∧ (∀ z ∈ pre, covers z pc = false ∨ (z.catchType ≠ 0 ∧ ∃ nm, Cond.classLink own z.catchType nm ∈ AW ∧ (q.1, nm) ∈ NCL)) ∧ covers x pc = true ∧ x.catchType ≠ 0 ∧ Cond.classLink own x.catchType q.1 ∈ AW ∧ Cond.castable q.1 q.1 ∈ OW ∧ q.2.2 < nL ∧ ((∃ j : Fin 4, (j : Nat) = q.2.2 ∧ decode cc x.handlerPc = .ok (.astore_n j, 1) ∧ q.2.1 = x.handlerPc + 1) ∨ (decode cc x.handlerPc = .ok (.astore q.2.2, 2) ∧ q.2.1 = x.handlerPc + 2))
def k_callH (n na ci mc ms MC MS : Nat) (w : WT) (hs : List (String × Nat × Nat)) : Sem := fun X _ lv st h cs ss => (∃ b : Nat, st[na - 1]? = some (.ref b) ∧ (hT h b).1 = ci) ∧ na ≤ st.length ∧ cs + mc ≤ MC ∧ ss + ms ≤ MS ∧ ((st.drop na).map (fun v => v.category)).sum ≤ 8 ∧ w (st.take na).reverse h (fun r h' => match r with
  | .inl vs => X n lv (vs ++ st.drop na) h' (cs + mc) (ss + ms)
  | .inr E => match hs.find? (fun q => q.1 == E) with
    | some q => ∀ cs' ss', cs' ≤ MC → ss' ≤ MS → X q.2.1 (put1 lv q.2.2 .null) [] h' cs' ss'
    | none => False)
theorem mono_callH (n na ci mc ms MC MS : Nat) (w : WT) (hs : List (String × Nat × Nat)) (hw : ∀ av h (Q Q' : QT), (∀ r h, Q r h → Q' r h) → w av h Q → w av h Q') : Mono (k_callH n na ci mc ms MC MS w hs) := by
  intro X Y Q Q' hX hQ lv st h cs ss k
  refine ⟨k.1, k.2.1, k.2.2.1, k.2.2.2.1, k.2.2.2.2.1, hw _ _ _ _ (fun r h' q => ?_) k.2.2.2.2.2⟩
  cases r with
  | inl vs => exact hX _ _ _ _ _ _ q
  | inr E =>
    dsimp only at q ⊢
    split at q
    · next x e => exact fun cs' ss' h1 h2 => hX _ _ _ _ _ _ (q cs' ss' h1 h2)
    · exact q.elim
section HND
variable {g : Gc} {n0 : Nat} {ads : Nat → Nat} {p : Program} {l : Launch} {e : Env} {R : Room} {s : State} {m : MethodId} {args : Array Value} {below : List Frame} {meth : Method} {c : Code} {nL : Nat} {Qf : State → Prop} {Q : QT} {cc : ByteArray} {own : String} {pc : Nat}
theorem st_away (A : Act g p l s m args meth c cc nL own) {H : Heap} {locs : List Loc} {ls ls' : Array Slot} {cs ss i q hpc n : Nat} (hd : (∃ j : Fin 4, (j : Nat) = i ∧ decode cc hpc = .ok (.astore_n j, 1) ∧ n = hpc + 1) ∨ (decode cc hpc = .ok (.astore i, 2) ∧ n = hpc + 2)) (e' : storeLocals ls i (.ref q) = some ls') (k : W p l e R s m args below meth c H locs cs ss Qf (F0 m n ls' [])) : W p l e R s m args below meth c H locs cs ss Qf (F0 m hpc ls [.ref q]) := by
  intro T hT X
  obtain ⟨t, a, b⟩ := k T hT X
  refine ⟨t, ?_, b⟩
  rcases hd with ⟨j, rfl, hd, rfl⟩ | ⟨hd, rfl⟩
  · jvm_step X.here [X.here.top, ↓top_set X.here.top, A.1, A.2.1, hd, e', Value.isRef]
    exact a
  · jvm_step X.here [X.here.top, ↓top_set X.here.top, A.1, A.2.1, hd, e', Value.isRef]
    exact a
/-- behind a call that may throw -/
theorem u_callH {Qx : String → CH → Prop} {ad : Nat → Nat} {h : CH} {H : Heap} {locs : List Loc} {ls : Array Slot} {cs ss mc ms MC MS : Nat} {lv st rest : List Value} {a : Array Value} {st0 : List Value} (A : Act g p l s m args meth c cc nL own)
    (hr : vx_Run p l e R s m args below meth c H locs cs ss mc ms (F0 m pc ls st0) (rest.map (cv ad)) (Qcu g ad h (fun r h' => match r with
      | .inl vs => Wok g n0 ads p l e R s m args below meth c nL Qf (pc + 3) lv (vs ++ rest) h' (cs + mc) (ss + ms)
      | .inr E => Qx E h') a) (XCu g ad h (fun r h' => match r with
      | .inl vs => Wok g n0 ads p l e R s m args below meth c nL Qf (pc + 3) lv (vs ++ rest) h' (cs + mc) (ss + ms)
      | .inr E => Qx E h')) (gF g))
    (hE : ∀ (E : String) (ad' : Nat → Nat) (h' : CH) (H' : Heap) (locs' : List Loc) (cs' ss' : Nat) (q : Addr) (ce : Cell), Qx E h' → Rel g ad' h' H' → hN h ≤ hN h' → (∀ a, a < hN h → ad' a = ad a) → va_S (gF g) s.heap H' locs' → H'[q]? = some ce → ce.vm = .none → s.vm.findClass E = some ce.cls → cs' ≤ MC → ss' ≤ MS → vx_W p l e R s m args below meth c H' locs' cs' ss' Qf (F0 m pc ls (rest.map (cv ad))) q) (h0 : n0 ≤ hN h) (ha : ∀ a, a < n0 → ad a = ads a) (hS : va_S (gF g) s.heap H locs) (hl : lvr ad ls lv nL) (hlv : ∀ v ∈ lv, refOK (hN h) v) (hrest : ∀ v ∈ rest, refOK (hN h) v) (hC : cs + mc ≤ MC) (hM : ss + ms ≤ MS) : W p l e R s m args below meth c H locs cs ss Qf (F0 m pc ls st0) := by
  intro T hT X
  have keep : ∀ {st₀ t T' : State} {L : List Loc}, st₀.heap = H → T'.heap = t.heap → (∀ q ∈ L, gF g q.base) → va_F (gF g) st₀ t → va_S (gF g) s.heap T'.heap (locs ++ L) := by
    intro st₀ t T' L e0 e1 hL hF
    obtain ⟨hz, hk⟩ := hF
    rw [e0] at hz hk
    refine ⟨Nat.le_trans hS.1 (by rw [e1]; exact hz), fun q h1 h2 => by rw [e1, hk q (Nat.lt_of_lt_of_le h1 hS.1) h2]; exact hS.2.1 q h1 h2, fun q hq => ?_⟩
    rcases List.mem_append.mp hq with z | z
    · exact hS.2.2 q z
    · exact hL q z
  rcases hr T hT X with ⟨v, st₀, t, T', L, e0, X', hL, e1, e2, ⟨⟨vs, ad', h', ho, hlen, hQ, hR', hn, hag, hok⟩, hF⟩, go⟩ | ⟨q, st₀, t, T', L, E, ce, e0, X', hL, e1, e2, ⟨⟨ad', h', hQ, hR', hn, hag⟩, hF⟩, hce, hcv, hcl, go⟩
  · cases ho
    have hQ : Wok g n0 ads p l e R s m args below meth c nL Qf (pc + 3) lv (vs ++ rest) h' (cs + mc) (ss + ms) := hQ
    have k := hQ ad' T'.heap (locs ++ L) ls (by rw [e1]; exact hR') (Nat.le_trans h0 hn) (fun a ha2 => (hag a (Nat.lt_of_lt_of_le ha2 h0)).trans (ha a ha2)) (keep e0 e1 hL hF) (lvr_congr hl hlv hag) (fun v hv => refOK_mono hn (hlv v hv)) (fun v hv => by
      rcases List.mem_append.mp hv with z | z
      · exact hok v z
      · exact refOK_mono hn (hrest v z))
    have es : ((vs.map (cv ad')).head?).toList ++ rest.map (cv ad) = (vs ++ rest).map (cv ad') := by
      rw [List.map_append, map_congr_ref hrest hag]
      congr 1
      match vs, hlen with
      | [], _ => rfl
      | [x], _ => rfl
    obtain ⟨t2, a1, b1⟩ := k T' rfl X'
    refine ⟨t2, go t2 ?_, b1⟩
    show Steps p.tables e below (T'.setTop { F0 m pc ls st0 with pc := pc + 3, stack := ((vs.map (cv ad')).head?).toList ++ rest.map (cv ad) }) t2
    rw [es]
    exact a1
  · have k := hE E ad' h' T'.heap (locs ++ L) (cs + mc) (ss + ms) q ce hQ (by rw [e1]; exact hR') hn hag (keep e0 e1 hL hF) (by rw [e1]; exact hce) hcv hcl hC hM
    obtain ⟨t2, a1, b1⟩ := k T' rfl X'
    exact ⟨t2, Steps.trans go a1, b1⟩
theorem o_callH (A : Act g p l s m args meth c cc nL own) {y : MethodName} {bytes : ByteArray} {maxL index na ci MC MS N : Nat} {ret : Option FieldType} {rm : Room} {w : WT} {C : String} {T : u_T} {hh : List (Nat × Nat × Nat × Nat)} {hs : List (String × Nat × Nat)} (ht : c.exceptionTable.toList = tableOf hh) (hH : ∀ q ∈ hs, HOk own cc hh pc nL q) (hU : UM y bytes maxL ret rm w) (hcode : Cond.code y bytes maxL ret ∈ AW) (hcls : y.cls = C) (hc : vwCl[ci]? = some (C, T, N)) (h99 : ci < 99) (hlink : Cond.methodLink own index y ∈ AW) (hst9 : Cond.instanceMethod y ∈ AW) (hsel : Cond.selects C y y ∈ AW) (hini : Cond.initialized C ∈ AW)
    (hd9 : y.cls ≠ "java/lang/invoke/MethodHandle" ∧ y.cls ≠ "java/lang/invoke/VarHandle" ∧ (parseMethodDescriptor y.desc).map (fun d => d.parameters.length) = some na) (hRm : rm.frames + 1 ≤ R.frames ∧ 8 + (maxL + 11) + rm.locals ≤ R.locals) (hMC : MC ≤ R.cells) (hMS : MS ≤ R.slots) (hd : decode cc pc = .ok (.invokevirtual index, 3)) : Snd g n0 ads p l e R s m args below meth c nL Qf Q pc (k_callH (pc + 3) (na + 1) ci rm.cells rm.slots MC MS w hs) := by
  intro lv st h cs ss k ad H locs ls hR h0 ha hS hl hlv hst
  obtain ⟨⟨b, hb1, hb2⟩, k1, k2, k3, k5, k4⟩ := k
  have hb1 : st[na]? = some (.ref b) := hb1
  have etk : st.take (na + 1) = st.take na ++ [.ref b] := by rw [List.take_add_one, hb1]; rfl
  have erev : (st.take (na + 1)).reverse = .ref b :: (st.take na).reverse := by rw [etk, List.reverse_append]; rfl
  have es : st = (st.take na) ++ .ref b :: st.drop (na + 1) := by
    have := (List.take_append_drop (na + 1) st).symm
    rw [etk] at this
    rw [List.append_assoc] at this
    exact this
  have hS9 : CallFix p m c cc nL s args AW own := ⟨A.1, A.2.1, A.2.2.1, A.2.2.2.1, A.2.2.2.2.1⟩
  have hok : ∀ v ∈ (st.take (na + 1)).reverse, refOK (hN h) v := fun v hv => hst v (List.mem_of_mem_take (List.mem_reverse.mp hv))
  have hb0 := hR.low hb2 (by omega)
  have hbn : b < hN h := hst _ (List.mem_of_getElem? hb1)
  have he := wsOf_at (dA := gA g) (ad := ad) hb0 hbn
  rw [ccell_obj hb2 (by omega)] at he
  have hargs : ((st.take (na + 1)).reverse.map (cv ad)) = .ref (ad b) :: ((st.take na).reverse).map (cv ad) := by rw [erev, List.map_cons, cv_ref hb0]
  have hp : PreV s H C (ad b) (Pcu g ad h (st.take (na + 1)).reverse) (((st.take na).reverse).map (cv ad)) := ⟨Pcu_blind, va_recv A.2.2.2.2.2.1.1 hR.1 hc he, fun U hU9 hW => by
    have := A.pre hR hS hok U hU9 hW
    rw [hargs] at this
    exact this⟩
  refine u_callH (Qx := fun E h' => match hs.find? (fun q => q.1 == E) with
      | some q => ∀ cs' ss', cs' ≤ MC → ss' ≤ MS → Wok g n0 ads p l e R s m args below meth c nL Qf q.2.1 (put1 lv q.2.2 .null) [] h' cs' ss'
      | none => False) (MC := MC) (MS := MS) (rest := st.drop (na + 1)) (st := st) A (vx_runV (b := ad b) (C := C) (As := ((st.take na).reverse).map (cv ad)) (rest := (st.drop (na + 1)).map (cv ad)) hS9 (hU l A.2.2.2.2.2.2.2.1 g ad h _ _ k4) (cwV na A.2.2.2.2.1 (goodIn_UM (ws := [.methodLink own index y, .instanceMethod y, .selects C y y, .initialized C]) hcode (by
      intro w hw
      rcases List.mem_cons.mp hw with q | hw
      · rw [q]; exact hlink
      rcases List.mem_cons.mp hw with q | hw
      · rw [q]; exact hst9
      rcases List.mem_cons.mp hw with q | hw
      · rw [q]; exact hsel
      rcases List.mem_cons.mp hw with q | hw
      · rw [q]; exact hini
      · cases hw)) rfl rfl rfl ⟨hcls, hd9⟩ hRm) hp rfl (by rw [List.length_map, List.length_reverse, List.length_take]; omega) hl.1 ?_ ?_ hd ⟨Nat.le_trans k2 hMC, Nat.le_trans k3 hMS⟩) (fun E ad' h' H' locs' cs' ss' q ce hQ hR' hn hag hS' g1 g2 g3 hc' hs' => ?_) h0 ha hS hl hlv (fun v hv => hst v (List.mem_of_mem_drop hv)) k2 k3
  · show st.map (cv ad) = _
    rw [← List.map_reverse, List.reverse_reverse, ← cv_ref hb0, ← List.map_cons, ← List.map_append, ← es]
  · refine lv_room ?_
    rw [sum_cv]
    exact k5
  · split at hQ
    · next z ez =>
      have hzE : z.1 = E := by simpa using List.find?_some ez
      obtain ⟨pre, x, suf, t1, t2, t3, t4, t5, t6, t7, t8⟩ := hH z (List.mem_of_find?_eq_some ez)
      have hlv' : ∀ v ∈ lv, refOK (hN h') v := fun v hv => refOK_mono hn (hlv v hv)
      have hl' := lvr_congr hl hlv hag
      obtain ⟨ls', e1, e2⟩ := lvr_away (q := q) (n := hN h') hl' hlv' (by have := hR'.2.2.1.1; unfold W0 at this; omega) t7
      refine vx_catch A.2.2.2.1 pre x suf (ht.trans t1) (fun y hy => ?_) t3 t4 (A.2.2.2.2.1 _ t5) (va_Nw.use rfl (A.ow t6)) g1 g2 (by rw [hzE]; exact g3) (st_away A t8 e1 (hQ cs' ss' hc' hs' ad' H' locs' ls' hR' (Nat.le_trans h0 hn) (fun a ha2 => (hag a (Nat.lt_of_lt_of_le ha2 h0)).trans (ha a ha2)) hS' e2 (put1_refN hlv') (fun v hv => by cases hv)))
      rcases t2 y hy with r | ⟨r1, nm, r2, r3⟩
      · exact Or.inl r
      · exact Or.inr ⟨r1, nm, A.2.2.2.2.1 _ r2, A.2.2.2.2.2.1.2.2.2.2.1 _ r3⟩
    · exact hQ.elim
end HND
/-! contracts of methods with handlers -/
def UMH (y : MethodName) (cc : ByteArray) (maxL : Nat) (ret : Option FieldType) (hh : List (Nat × Nat × Nat × Nat)) (rm : Room) (w : WT) : Prop :=
  ∀ (l : Launch), l.stackTraces = false → ∀ (g : Gc) (ad : Nat → Nat) (h : CH) (av : List Value) (Q : QT), w av h Q → vx_Met l y (Cond.codeWith y cc maxL ret hh :: AW) rm (Pcu g ad h av) (Qcu g ad h Q) (XCu g ad h Q) rm.cells rm.slots (gF g)
def SndH (y : MethodName) (cc : ByteArray) (maxL : Nat) (ret : Option FieldType) (hh : List (Nat × Nat × Nat × Nat)) (rm : Room) (pc : Nat) (sm : Sem) : Prop :=
  ∀ (g : Gc) (h0 : CH) (ads : Nat → Nat) (p : Program) (l : Launch) (e : Env) (s : State) (m : MethodId) (args : Array Value) (below : List Frame) (meth : Method) (c : Code) (Q : QT), Act g p l s m args meth c cc maxL y.cls → meth.sig.returnType = ret → meth.name = y.name → c.exceptionTable.toList = tableOf hh → Snd g (hN h0) ads p l e rm s m args below meth c maxL (vx_MQ below (Qcu g ads h0 Q) (XCu g ads h0 Q) args s rm.cells rm.slots (gF g)) Q pc sm
theorem UMH.of {y : MethodName} {cc : ByteArray} {maxL : Nat} {ret : Option FieldType} {hh : List (Nat × Nat × Nat × Nat)} {rm : Room} {code : Nat → Sem} (hy : plainName y.cls = true) (hc : ∀ pc, SndH y cc maxL ret hh rm pc (code pc)) : UMH y cc maxL ret hh rm (fun av h Q => (av.flatMap (fun v => if cat2 v = true then [v, Value.null] else [v])).length ≤ maxL ∧ wpI code Q 0 (ent maxL av) [] h 0 0) := by
  intro l hl g ad h av Q hw
  refine vx_ofWH (cc := cc) (maxL := maxL) (ret := ret) (hh := hh) hy rfl ?_
  intro p e s m args below meth c s₁ B hml hP
  obtain ⟨rfl, hX, hR, hb1, hb2, hav⟩ := hP
  have hts : ∀ w ∈ Cond.codeWith y cc maxL ret hh :: AW, w.before (av.map (cv ad)).toArray s = true := atoms_spec (ws := Cond.codeWith y cc maxL ret hh :: AW) B.pre
  have ht := vx_table (x := y) B (hts _ List.mem_cons_self)
  have hown : s.vm.findClass y.cls = some m.cls := findClass_of_methodNamed B.named
  have A : Act g p l s m (av.map (cv ad)).toArray meth c cc maxL y.cls := ⟨B.exec, B.bytes, hml, hown, (fun w hw => hts w (List.mem_cons_of_mem _ hw)), hX, B.notSynchronized, hl, hb1, hb2⟩
  have hS : va_S (gF g) s.heap s.heap [] := va_S.rf
  have hlen : (lg_sl (av.map (cv ad))).length ≤ maxL := by rw [← ent_len]; exact hw.1
  have hent := lv_entry (av.map (cv ad)) (n := maxL) hlen
  have key := hw.2 (Wok g (hN h) ad p l e rm s m (av.map (cv ad)).toArray below meth c maxL (vx_MQ below (Qcu g ad h Q) (XCu g ad h Q) (av.map (cv ad)).toArray s rm.cells rm.slots (gF g))) (fun pc => hc pc g h ad p l e s m _ below meth c Q A B.returns (name_of_methodNamed B.named B.method).1 ht)
  rw [lg_entry_eq]
  have hl0 : lvr ad (lg_sl (av.map (cv ad)) ++ List.replicate (maxL - (lg_sl (av.map (cv ad))).length) Slot.unset).toArray (ent maxL av) maxL := by
    refine ⟨hent.1, ?_, hent.2.1, fun i v hi hv => ?_⟩
    · show (_ ++ _ : List Value).length ≤ maxL
      rw [List.length_append, List.length_replicate]
      omega
    · have hi : ((av.flatMap (fun v => if cat2 v = true then [v, Value.null] else [v])) ++ List.replicate (maxL - (av.flatMap (fun v => if cat2 v = true then [v, Value.null] else [v])).length) Value.null)[i]? = some v := hi
      rcases Nat.lt_or_ge i (av.flatMap (fun v => if cat2 v = true then [v, Value.null] else [v])).length with q | q
      · rw [List.getElem?_append_left q] at hi
        have := ent_at (ad := ad) av 0 i v hi hv
        rw [Nat.zero_add] at this
        exact hent.2.2 _ this
      · rw [List.getElem?_append_right q] at hi
        exact absurd (List.eq_of_mem_replicate (List.mem_of_getElem? hi)) hv
  exact key ad s.heap [] _ hR (Nat.le_refl _) (fun _ _ => rfl) hS hl0 (ent_ref hav) (fun v hv => by cases hv)
def AllH (y : MethodName) (cc : ByteArray) (maxL : Nat) (ret : Option FieldType) (hh : List (Nat × Nat × Nat × Nat)) (rm : Room) : List (Nat × Sem) → Prop
  | [] => True
  | q :: r => SndH y cc maxL ret hh rm q.1 q.2 ∧ AllH y cc maxL ret hh rm r
theorem tab_sndH {y : MethodName} {cc : ByteArray} {maxL : Nat} {ret : Option FieldType} {hh : List (Nat × Nat × Nat × Nat)} {rm : Room} : ∀ {L : List (Nat × Sem)}, AllH y cc maxL ret hh rm L → ∀ pc, SndH y cc maxL ret hh rm pc (tab L pc)
  | [], _, pc => fun _ _ _ _ _ _ _ _ _ _ _ _ _ _ _ _ _ => snd_no
  | q :: r, h, pc => by
    rw [tab_cons]
    split
    · next e => subst e; exact h.1
    · exact tab_sndH h.2 pc
theorem UMH.ofT {y : MethodName} {cc : ByteArray} {maxL : Nat} {ret : Option FieldType} {hh : List (Nat × Nat × Nat × Nat)} {rm : Room} {L : List (Nat × Sem)} (hy : plainName y.cls = true) (hc : AllH y cc maxL ret hh rm L) : UMH y cc maxL ret hh rm (wT maxL L) := UMH.of hy (tab_sndH hc)
/-- a static call of a method with handlers that throws nothing -/
def k_callN (n na mc ms MC MS : Nat) (w : WT) : Sem := fun X _ lv st h cs ss => na ≤ st.length ∧ cs + mc ≤ MC ∧ ss + ms ≤ MS ∧ ((st.drop na).map (fun v => v.category)).sum ≤ 8 ∧ w (st.take na).reverse h (fun r h' => match r with
  | .inl vs => X n lv (vs ++ st.drop na) h' (cs + mc) (ss + ms)
  | .inr _ => False)
theorem mono_callN (n na mc ms MC MS : Nat) (w : WT) (hw : ∀ av h (Q Q' : QT), (∀ r h, Q r h → Q' r h) → w av h Q → w av h Q') : Mono (k_callN n na mc ms MC MS w) := by
  intro X Y Q Q' hX hQ lv st h cs ss k
  refine ⟨k.1, k.2.1, k.2.2.1, k.2.2.2.1, hw _ _ _ _ (fun r h' q => ?_) k.2.2.2.2⟩
  cases r with
  | inl vs => exact hX _ _ _ _ _ _ q
  | inr E => exact q
section HND2
variable {g : Gc} {n0 : Nat} {ads : Nat → Nat} {p : Program} {l : Launch} {e : Env} {R : Room} {s : State} {m : MethodId} {args : Array Value} {below : List Frame} {meth : Method} {c : Code} {nL : Nat} {Qf : State → Prop} {Q : QT} {cc : ByteArray} {own : String} {pc : Nat}
theorem o_callN (A : Act g p l s m args meth c cc nL own) {y : MethodName} {bytes : ByteArray} {maxL index na MC MS : Nat} {ret : Option FieldType} {hh : List (Nat × Nat × Nat × Nat)} {rm : Room} {w : WT} (hU : UMH y bytes maxL ret hh rm w) (hcode : Cond.codeWith y bytes maxL ret hh ∈ AW) (hlink : Cond.methodLink own index y ∈ AW) (hst9 : Cond.static y ∈ AW) (hini : Cond.initialized y.cls ∈ AW)
    (hd9 : y.cls ≠ "java/lang/invoke/MethodHandle" ∧ y.cls ≠ "java/lang/invoke/VarHandle" ∧ (parseMethodDescriptor y.desc).map (fun d => d.parameters.length) = some na) (hRm : rm.frames + 1 ≤ R.frames ∧ 8 + (maxL + 11) + rm.locals ≤ R.locals) (hMC : MC ≤ R.cells) (hMS : MS ≤ R.slots) (hd : decode cc pc = .ok (.invokestatic index, 3)) : Snd g n0 ads p l e R s m args below meth c nL Qf Q pc (k_callN (pc + 3) na rm.cells rm.slots MC MS w) := by
  intro lv st h cs ss k ad H locs ls hR h0 ha hS hl hlv hst
  obtain ⟨k1, k2, k3, k5, k4⟩ := k
  have es : st = (st.take na).reverse.reverse ++ st.drop na := by rw [List.reverse_reverse, List.take_append_drop]
  have hS9 : CallFix p m c cc nL s args AW own := ⟨A.1, A.2.1, A.2.2.1, A.2.2.2.1, A.2.2.2.2.1⟩
  have hok : ∀ v ∈ (st.take na).reverse, refOK (hN h) v := fun v hv => hst v (List.mem_of_mem_take (List.mem_reverse.mp hv))
  have hM := met_of_vx (hU l A.2.2.2.2.2.2.2.1 g ad h _ _ k4) (fun E s1 t q => by
    obtain ⟨⟨_, _, q, -⟩, -⟩ := q
    exact q)
  have hrun : va_Run p l e R s m args below meth c H locs cs ss rm.cells rm.slots (F0 m pc ls (st.map (cv ad))) ((st.drop na).map (cv ad)) (Qcu g ad h (fun r h' => match r with
      | .inl vs => Wok g n0 ads p l e R s m args below meth c nL Qf (pc + 3) lv (vs ++ st.drop na) h' (cs + rm.cells) (ss + rm.slots)
      | .inr _ => False) (((st.take na).reverse).map (cv ad)).toArray) (gF g) := vx_runSW (As := ((st.take na).reverse).map (cv ad)) (rest := (st.drop na).map (cv ad)) (g := F0 m pc ls (st.map (cv ad))) hS9 hM (vx_cwSW (R := R) (own := own) (index := index) (ws' := AW) na A.2.2.2.2.1 (goodIn_AW (by
      intro w hw
      rcases List.mem_append.mp hw with hw | hw
      · rcases List.mem_cons.mp hw with q | hw
        · rw [q]; exact hlink
        rcases List.mem_cons.mp hw with q | hw
        · rw [q]; exact hst9
        rcases List.mem_cons.mp hw with q | hw
        · rw [q]; exact hini
        · cases hw
      · rcases List.mem_cons.mp hw with q | hw
        · rw [q]; exact hcode
        · exact hw)) rfl rfl rfl hd9 hRm) ⟨Pcu_blind, fun U hU9 hW => A.pre hR hS hok U hU9 hW⟩ rfl (by rw [List.length_map, List.length_reverse, List.length_take]; omega) hl.1 (by show st.map (cv ad) = _; rw [← List.map_reverse, ← List.map_append, ← es]) (lv_room (by rw [sum_cv]; exact k5)) hd ⟨Nat.le_trans k2 hMC, Nat.le_trans k3 hMS⟩
  have hrun2 := va_to_vx (XC := XCu g ad h (fun r h' => match r with
      | .inl vs => Wok g n0 ads p l e R s m args below meth c nL Qf (pc + 3) lv (vs ++ st.drop na) h' (cs + rm.cells) (ss + rm.slots)
      | .inr _ => False)) hrun
  exact u_call (Q := fun _ _ => False) (MC := MC) (MS := MS) (rest := st.drop na) (st := st) A hrun2 (fun _ _ _ _ _ _ _ _ _ _ _ q => q.elim) h0 ha hS hl hlv (fun v hv => hst v (List.mem_of_mem_drop hv)) k2 k3
end HND2
