/-! THE INSTRUCTIONS, 4: a method's contract, calls, returns, throws -/
def Pcu (g : Gc) (ad : Nat → Nat) (h : CH) (av : List Value) : Array Value → State → Prop := va_Pc (av.map (cv ad)) (fun U => GX g U ∧ Rel g ad h U.heap ∧ gB g ≤ U.heap.size ∧ (∀ q, q < gB g → U.heap[q]? = (gH g)[q]?) ∧ ∀ v ∈ av, refOK (hN h) v)
def Qcu (g : Gc) (ad : Nat → Nat) (h : CH) (Q : QT) : Array Value → State → Outcome → State → Prop := fun _ st o t => (∃ (vs : List Value) (ad' : Nat → Nat) (h' : CH), o = .returned (vs.map (cv ad')).head? ∧ vs.length ≤ 1 ∧ Q (.inl vs) h' ∧ Rel g ad' h' t.heap ∧ hN h ≤ hN h' ∧ (∀ a, a < hN h → ad' a = ad a) ∧ ∀ v ∈ vs, refOK (hN h') v) ∧ va_F (gF g) st t
def XCu (g : Gc) (ad : Nat → Nat) (h : CH) (Q : QT) : String → State → State → Prop := fun E st t => (∃ (ad' : Nat → Nat) (h' : CH), Q (.inr E) h' ∧ Rel g ad' h' t.heap ∧ hN h ≤ hN h' ∧ ∀ a, a < hN h → ad' a = ad a) ∧ va_F (gF g) st t
abbrev WT : Type := List Value → CH → QT → Prop
/-- the contract of a method, for all clean starts of which w says that Q comes of it -/
def UM (y : MethodName) (cc : ByteArray) (maxL : Nat) (ret : Option FieldType) (rm : Room) (w : WT) : Prop :=
  ∀ (l : Launch), l.stackTraces = false → ∀ (g : Gc) (ad : Nat → Nat) (h : CH) (av : List Value) (Q : QT), w av h Q → vx_Met l y (Cond.code y cc maxL ret :: AW) rm (Pcu g ad h av) (Qcu g ad h Q) (XCu g ad h Q) rm.cells rm.slots (gF g)
theorem Pcu_blind {g : Gc} {ad : Nat → Nat} {h : CH} {av : List Value} : FrameBlind (Pcu g ad h av) := fun a U gg mk q => ⟨q.1, GX.same (u := U) (U := U.calling gg mk a) rfl q.2.1, q.2.2⟩
/-- the locals at the start -/
def ent (nL : Nat) (av : List Value) : List Value :=
  let l := av.flatMap (fun v => if cat2 v = true then [v, .null] else [v])
  l ++ List.replicate (nL - l.length) .null
theorem AW_in {args : Array Value} {s : State} {y : MethodName} {cc : ByteArray} {maxL : Nat} {ret : Option FieldType} (hts : ∀ w ∈ Cond.code y cc maxL ret :: AW, w.before args s = true) : ∀ w ∈ AW, w.before args s = true := fun w hw => hts w (List.mem_cons_of_mem _ hw)
theorem good_AW {w : Cond} (h : w ∈ AW) : (w.onTables && w.keeps) = true ∨ ∃ ty, w = .arrayClass ty := good_of_word (AW_good w h)
theorem goodIn_AW {ws : List Cond} (h : ∀ w ∈ ws, w ∈ AW) : GoodIn AW ws := fun w hw => ⟨h w hw, good_AW (h w hw)⟩
theorem goodIn_UM {y : MethodName} {cc : ByteArray} {maxL : Nat} {ret : Option FieldType} (hc : Cond.code y cc maxL ret ∈ AW) {ws : List Cond} (h : ∀ w ∈ ws, w ∈ AW) : GoodIn AW (ws ++ (Cond.code y cc maxL ret :: AW)) := goodIn_AW fun w hw => by
  rcases List.mem_append.mp hw with q | q
  · exact h w q
  · rcases List.mem_cons.mp q with q | q
    · rw [q]; exact hc
    · exact q
/-- what the caller meets when the callee throws: handed on -/
def Exc (g : Gc) (n0 : Nat) (ads : Nat → Nat) (p : Program) (l : Launch) (e : Env) (R : Room) (s : State) (m : MethodId) (args : Array Value) (below : List Frame) (meth : Method) (c : Code) (MC MS : Nat) (Qf : State → Prop) (Q : QT) (pc : Nat) : Prop :=
  ∀ (E : String) (ad : Nat → Nat) (h : CH) (H : Heap) (locs : List Loc) (ls : Array Slot) (rest : List Value) (cs ss : Nat) (q : Addr) (ce : Cell), Q (.inr E) h → Rel g ad h H → n0 ≤ hN h → (∀ a, a < n0 → ad a = ads a) → va_S (gF g) s.heap H locs → H[q]? = some ce → ce.vm = .none → s.vm.findClass E = some ce.cls → cs ≤ MC → ss ≤ MS → vx_W p l e R s m args below meth c H locs cs ss Qf (F0 m pc ls rest) q
theorem exc_out {g : Gc} {h0 : CH} {ads : Nat → Nat} {p : Program} {l : Launch} {e : Env} {R : Room} {s : State} {m : MethodId} {args : Array Value} {below : List Frame} {meth : Method} {c : Code} {Q : QT} {pc MC MS : Nat} (hx : ∀ x ∈ c.exceptionTable.toList, False) (hlocks : meth.locks = false) : Exc g (hN h0) ads p l e R s m args below meth c MC MS (vx_MQ below (Qcu g ads h0 Q) (XCu g ads h0 Q) args s MC MS (gF g)) Q pc := by
  intro E ad h H locs ls rest cs ss q ce hQ hR h1 h2 hS hc hv hcl hcs hss
  exact vx_out (fun x q => (hx x q).elim) hlocks hc hv hcl (fun t ht hA => ⟨⟨ad, h, hQ, by rw [ht]; exact hR, h1, h2⟩, va_S.F hS ht⟩) (fun z hz => hS.2.2 z hz) hcs hss
def k_call (n na mc ms MC MS : Nat) (w : WT) : Sem := fun X Q lv st h cs ss => na ≤ st.length ∧ cs + mc ≤ MC ∧ ss + ms ≤ MS ∧ ((st.drop na).map (fun v => v.category)).sum ≤ 8 ∧ w (st.take na).reverse h (fun r h' => match r with
  | .inl vs => X n lv (vs ++ st.drop na) h' (cs + mc) (ss + ms)
  | .inr E => Q (.inr E) h')
/-- a call on an object of the class ci -/
def k_callV (n na ci mc ms MC MS : Nat) (w : WT) : Sem := fun X Q lv st h cs ss => (∃ b : Nat, st[na - 1]? = some (.ref b) ∧ (hT h b).1 = ci) ∧ k_call n na mc ms MC MS w X Q lv st h cs ss
section CALL
variable {g : Gc} {n0 : Nat} {ads : Nat → Nat} {p : Program} {l : Launch} {e : Env} {R : Room} {s : State} {m : MethodId} {args : Array Value} {below : List Frame} {meth : Method} {c : Code} {nL : Nat} {Qf : State → Prop} {Q : QT} {cc : ByteArray} {own : String} {pc : Nat}
/-- behind a call -/
theorem u_call {ad : Nat → Nat} {h : CH} {H : Heap} {locs : List Loc} {ls : Array Slot} {cs ss mc ms MC MS : Nat} {lv st rest : List Value} {a : Array Value} {st0 : List Value} (A : Act g p l s m args meth c cc nL own)
    (hr : vx_Run p l e R s m args below meth c H locs cs ss mc ms (F0 m pc ls st0) (rest.map (cv ad)) (Qcu g ad h (fun r h' => match r with
      | .inl vs => Wok g n0 ads p l e R s m args below meth c nL Qf (pc + 3) lv (vs ++ rest) h' (cs + mc) (ss + ms)
      | .inr E => Q (.inr E) h') a) (XCu g ad h (fun r h' => match r with
      | .inl vs => Wok g n0 ads p l e R s m args below meth c nL Qf (pc + 3) lv (vs ++ rest) h' (cs + mc) (ss + ms)
      | .inr E => Q (.inr E) h')) (gF g))
    (hE : Exc g n0 ads p l e R s m args below meth c MC MS Qf Q pc) (h0 : n0 ≤ hN h) (ha : ∀ a, a < n0 → ad a = ads a) (hS : va_S (gF g) s.heap H locs) (hl : lvr ad ls lv nL) (hlv : ∀ v ∈ lv, refOK (hN h) v) (hrest : ∀ v ∈ rest, refOK (hN h) v) (hC : cs + mc ≤ MC) (hM : ss + ms ≤ MS) : W p l e R s m args below meth c H locs cs ss Qf (F0 m pc ls st0) := by
  intro T hT X
  have keep : ∀ {st₀ t T' : State} {L : List Loc}, st₀.heap = H → T'.heap = t.heap → (∀ q ∈ L, gF g q.base) → va_F (gF g) st₀ t → va_S (gF g) s.heap T'.heap (locs ++ L) := by
    intro st₀ t T' L e0 e1 hL hF
    obtain ⟨hz, hk⟩ := hF
    rw [e0] at hz hk
    refine ⟨Nat.le_trans hS.1 (by rw [e1]; exact hz), fun q h1 h2 => by rw [e1, hk q (Nat.lt_of_lt_of_le h1 hS.1) h2]; exact hS.2.1 q h1 h2, fun q hq => ?_⟩
    rcases List.mem_append.mp hq with z | z
    · exact hS.2.2 q z
    · exact hL q z
  rcases hr T hT X with ⟨v, st₀, t, T', L, e0, X', hL, e1, e2, ⟨⟨vs, ad', h', ho, hlen, hQ, hR', hn, hag, hok⟩, hF⟩, go⟩ | ⟨q, st₀, t, T', L, E, ce, e0, X', hL, e1, e2, ⟨⟨ad', h', hQ, hR', hn, hag⟩, hF⟩, hce, hcv, hcl, go⟩
  · cases ho
    have hQ : Wok g n0 ads p l e R s m args below meth c nL Qf (pc + 3) lv (vs ++ rest) h' (cs + mc) (ss + ms) := hQ
    have k := hQ ad' T'.heap (locs ++ L) ls (by rw [e1]; exact hR') (Nat.le_trans h0 hn) (fun a ha2 => (hag a (Nat.lt_of_lt_of_le ha2 h0)).trans (ha a ha2)) (keep e0 e1 hL hF) (lvr_congr hl hlv hag) (fun v hv => refOK_mono hn (hlv v hv)) (fun v hv => by
      rcases List.mem_append.mp hv with z | z
      · exact hok v z
      · exact refOK_mono hn (hrest v z))
    have es : ((vs.map (cv ad')).head?).toList ++ rest.map (cv ad) = (vs ++ rest).map (cv ad') := by
      rw [List.map_append, map_congr_ref hrest hag]
      congr 1
      match vs, hlen with
      | [], _ => rfl
      | [x], _ => rfl
    obtain ⟨t2, a1, b1⟩ := k T' rfl X'
    refine ⟨t2, go t2 ?_, b1⟩
    show Steps p.tables e below (T'.setTop { F0 m pc ls st0 with pc := pc + 3, stack := ((vs.map (cv ad')).head?).toList ++ rest.map (cv ad) }) t2
    rw [es]
    exact a1
  · have k := hE E ad' h' T'.heap (locs ++ L) ls (rest.map (cv ad)) (cs + mc) (ss + ms) q ce hQ (by rw [e1]; exact hR') (Nat.le_trans h0 hn) (fun a ha2 => (hag a (Nat.lt_of_lt_of_le ha2 h0)).trans (ha a ha2)) (keep e0 e1 hL hF) (by rw [e1]; exact hce) hcv hcl hC hM
    obtain ⟨t2, a1, b1⟩ := k T' rfl X'
    exact ⟨t2, Steps.trans go a1, b1⟩
theorem Act.base (A : Act g p l s m args meth c cc nL own) {H : Heap} {locs : List Loc} (hS : va_S (gF g) s.heap H locs) : gB g ≤ H.size ∧ ∀ q, q < gB g → H[q]? = (gH g)[q]? := by
  obtain ⟨-, -, -, -, -, -, -, -, h1, h2⟩ := A
  exact ⟨Nat.le_trans h1 hS.1, fun q hq => (hS.2.1 q (Nat.lt_of_lt_of_le hq h1) (Nat.not_le.mpr hq)).trans (h2 q hq)⟩
theorem Act.pre (A : Act g p l s m args meth c cc nL own) {ad : Nat → Nat} {h : CH} {H : Heap} {locs : List Loc} {av : List Value} (hR : Rel g ad h H) (hS : va_S (gF g) s.heap H locs) (hav : ∀ v ∈ av, refOK (hN h) v) (U : State) (hU : U.heap = H) (hW : s.WarmedH U.vm) : Pcu g ad h av (av.map (cv ad)).toArray U := by
  have hb := A.base hS
  exact ⟨rfl, GX.warm hW A.2.2.2.2.2.1, by rw [hU]; exact hR, by rw [hU]; exact hb.1, by rw [hU]; exact hb.2, hav⟩
theorem sum_cv (ad : Nat → Nat) (l : List Value) : ((l.map (cv ad)).map fun v => v.category).sum = (l.map fun v => v.category).sum := by
  rw [List.map_map]
  congr 1
  apply List.map_congr_left
  intro v _
  show (cv ad v).category = v.category
  cases v <;> first | rfl | (show (va_rf (ro ad _)).category = 1; unfold ro; split <;> rfl)
theorem o_callS (A : Act g p l s m args meth c cc nL own) {y : MethodName} {bytes : ByteArray} {maxL index na MC MS : Nat} {ret : Option FieldType} {rm : Room} {w : WT} (hU : UM y bytes maxL ret rm w) (hcode : Cond.code y bytes maxL ret ∈ AW) (hcls : y.cls = own) (hlink : Cond.methodLink own index y ∈ AW) (hst9 : Cond.static y ∈ AW) (hini : Cond.initialized own ∈ AW)
    (hd9 : y.cls ≠ "java/lang/invoke/MethodHandle" ∧ y.cls ≠ "java/lang/invoke/VarHandle" ∧ (parseMethodDescriptor y.desc).map (fun d => d.parameters.length) = some na) (hRm : rm.frames + 1 ≤ R.frames ∧ 8 + (maxL + 11) + rm.locals ≤ R.locals) (hMC : MC ≤ R.cells) (hMS : MS ≤ R.slots) (hE : Exc g n0 ads p l e R s m args below meth c MC MS Qf Q pc) (hd : decode cc pc = .ok (.invokestatic index, 3)) : Snd g n0 ads p l e R s m args below meth c nL Qf Q pc (k_call (pc + 3) na rm.cells rm.slots MC MS w) := by
  intro lv st h cs ss k ad H locs ls hR h0 ha hS hl hlv hst
  obtain ⟨k1, k2, k3, k5, k4⟩ := k
  have e : st = (st.take na).reverse.reverse ++ st.drop na := by rw [List.reverse_reverse, List.take_append_drop]
  have hS9 : CallFix p m c cc nL s args AW own := ⟨A.1, A.2.1, A.2.2.1, A.2.2.2.1, A.2.2.2.2.1⟩
  have hok : ∀ v ∈ (st.take na).reverse, refOK (hN h) v := fun v hv => hst v (List.mem_of_mem_take (List.mem_reverse.mp hv))
  refine u_call (MC := MC) (MS := MS) (rest := st.drop na) (st := st) A (vx_runS (As := ((st.take na).reverse).map (cv ad)) (rest := (st.drop na).map (cv ad)) hS9 (hU l A.2.2.2.2.2.2.2.1 g ad h _ _ k4) (cwS na A.2.2.2.2.1 (goodIn_UM (ws := [.methodLink own index y, .static y, .initialized own]) hcode (by
      intro w hw
      rcases List.mem_cons.mp hw with q | hw
      · rw [q]; exact hlink
      rcases List.mem_cons.mp hw with q | hw
      · rw [q]; exact hst9
      rcases List.mem_cons.mp hw with q | hw
      · rw [q]; exact hini
      · cases hw)) rfl rfl rfl ⟨hcls, hd9⟩ hRm) ⟨Pcu_blind, fun U hU9 hW => A.pre hR hS hok U hU9 hW⟩ rfl (by rw [List.length_map, List.length_reverse, List.length_take]; omega) hl.1 ?_ ?_ hd ⟨Nat.le_trans k2 hMC, Nat.le_trans k3 hMS⟩) hE h0 ha hS hl hlv (fun v hv => hst v (List.mem_of_mem_drop hv)) k2 k3
  · show st.map (cv ad) = _
    rw [← List.map_reverse, ← List.map_append, ← e]
  · refine lv_room ?_
    rw [sum_cv]
    exact k5
theorem o_callV (A : Act g p l s m args meth c cc nL own) {y : MethodName} {bytes : ByteArray} {maxL index na ci MC MS N : Nat} {ret : Option FieldType} {rm : Room} {w : WT} {C : String} {T : u_T} (hU : UM y bytes maxL ret rm w) (hcode : Cond.code y bytes maxL ret ∈ AW) (hcls : y.cls = C) (hc : vwCl[ci]? = some (C, T, N)) (h99 : ci < 99) (hlink : Cond.methodLink own index y ∈ AW) (hst9 : Cond.instanceMethod y ∈ AW) (hsel : Cond.selects C y y ∈ AW) (hini : Cond.initialized C ∈ AW)
    (hd9 : y.cls ≠ "java/lang/invoke/MethodHandle" ∧ y.cls ≠ "java/lang/invoke/VarHandle" ∧ (parseMethodDescriptor y.desc).map (fun d => d.parameters.length) = some na) (hRm : rm.frames + 1 ≤ R.frames ∧ 8 + (maxL + 11) + rm.locals ≤ R.locals) (hMC : MC ≤ R.cells) (hMS : MS ≤ R.slots) (hE : Exc g n0 ads p l e R s m args below meth c MC MS Qf Q pc) (hd : decode cc pc = .ok (.invokevirtual index, 3)) : Snd g n0 ads p l e R s m args below meth c nL Qf Q pc (k_callV (pc + 3) (na + 1) ci rm.cells rm.slots MC MS w) := by
  intro lv st h cs ss k ad H locs ls hR h0 ha hS hl hlv hst
  obtain ⟨⟨b, hb1, hb2⟩, k1, k2, k3, k5, k4⟩ := k
  have hb1 : st[na]? = some (.ref b) := hb1
  have etk : st.take (na + 1) = st.take na ++ [.ref b] := by rw [List.take_succ, hb1]; rfl
  have erev : (st.take (na + 1)).reverse = .ref b :: (st.take na).reverse := by rw [etk, List.reverse_append]; rfl
  have e : st = (st.take na) ++ .ref b :: st.drop (na + 1) := by
    have := (List.take_append_drop (na + 1) st).symm
    rw [etk] at this
    rw [List.append_assoc] at this
    exact this
  have hS9 : CallFix p m c cc nL s args AW own := ⟨A.1, A.2.1, A.2.2.1, A.2.2.2.1, A.2.2.2.2.1⟩
  have hok : ∀ v ∈ (st.take (na + 1)).reverse, refOK (hN h) v := fun v hv => hst v (List.mem_of_mem_take (List.mem_reverse.mp hv))
  have hb0 := hR.low hb2 (by omega)
  have hbn : b < hN h := hst _ (List.mem_of_getElem? hb1)
  have he := wsOf_at (dA := gA g) (ad := ad) hb0 hbn
  rw [ccell_obj hb2 (by omega)] at he
  have hargs : ((st.take (na + 1)).reverse.map (cv ad)) = .ref (ad b) :: ((st.take na).reverse).map (cv ad) := by rw [erev, List.map_cons, cv_ref hb0]
  have hp : PreV s H C (ad b) (Pcu g ad h (st.take (na + 1)).reverse) (((st.take na).reverse).map (cv ad)) := ⟨Pcu_blind, va_recv A.2.2.2.2.2.1.1 hR.1 hc he, fun U hU9 hW => by
    have := A.pre hR hS hok U hU9 hW
    rw [hargs] at this
    exact this⟩
  refine u_call (MC := MC) (MS := MS) (rest := st.drop (na + 1)) (st := st) A (vx_runV (b := ad b) (C := C) (As := ((st.take na).reverse).map (cv ad)) (rest := (st.drop (na + 1)).map (cv ad)) hS9 (hU l A.2.2.2.2.2.2.2.1 g ad h _ _ k4) (cwV na A.2.2.2.2.1 (goodIn_UM (ws := [.methodLink own index y, .instanceMethod y, .selects C y y, .initialized C]) hcode (by
      intro w hw
      rcases List.mem_cons.mp hw with q | hw
      · rw [q]; exact hlink
      rcases List.mem_cons.mp hw with q | hw
      · rw [q]; exact hst9
      rcases List.mem_cons.mp hw with q | hw
      · rw [q]; exact hsel
      rcases List.mem_cons.mp hw with q | hw
      · rw [q]; exact hini
      · cases hw)) rfl rfl rfl ⟨hcls, hd9⟩ hRm) hp rfl (by rw [List.length_map, List.length_reverse, List.length_take]; omega) hl.1 ?_ ?_ hd ⟨Nat.le_trans k2 hMC, Nat.le_trans k3 hMS⟩) hE h0 ha hS hl hlv (fun v hv => hst v (List.mem_of_mem_drop hv)) k2 k3
  · show st.map (cv ad) = _
    rw [← List.map_reverse, List.reverse_reverse, ← cv_ref hb0, ← List.map_cons, ← List.map_append, ← e]
  · refine lv_room ?_
    rw [sum_cv]
    exact k5
end CALL
theorem mono_call (n na mc ms MC MS : Nat) (w : WT) (hw : ∀ av h (Q Q' : QT), (∀ r h, Q r h → Q' r h) → w av h Q → w av h Q') : Mono (k_call n na mc ms MC MS w) := by
  intro X Y Q Q' hX hQ lv st h cs ss k
  refine ⟨k.1, k.2.1, k.2.2.1, k.2.2.2.1, hw _ _ _ _ (fun r h' q => ?_) k.2.2.2.2⟩
  cases r with
  | inl vs => exact hX _ _ _ _ _ _ q
  | inr E => exact hQ _ _ q
theorem mono_callV (n na ci mc ms MC MS : Nat) (w : WT) (hw : ∀ av h (Q Q' : QT), (∀ r h, Q r h → Q' r h) → w av h Q → w av h Q') : Mono (k_callV n na ci mc ms MC MS w) := fun X Y Q Q' hX hQ lv st h cs ss k => ⟨k.1, mono_call n na mc ms MC MS w hw X Y Q Q' hX hQ lv st h cs ss k.2⟩
