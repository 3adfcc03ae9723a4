/-! THE LAW'S OWN ROWS: the script, the switch; contracts for a run's own script -/
def ScrG (g : Gc) (S : Nat × (Nat → Int32)) : Prop := ga g 300 = S.1 ∧ ∀ k, k < S.1 → scv (ga g (301 + k)) = S.2 k
def k_scr (n : Nat) (S : Nat × (Nat → Int32)) : Sem := fun X _ lv st h cs ss => match st with
  | .int i :: .ref a :: r => a = 258 ∧ vp_in i S.1 ∧ X n lv (.int (S.2 i.toNatClampNeg) :: r) h cs ss
  | _ => False
def tsw (d : Nat) (L : List Nat) (x : Int32) : Nat := if x < 0 then d else L.getD x.toNatClampNeg d
def k_tsw (d : Nat) (L : List Nat) : Sem := fun X _ lv st h cs ss => match st with
  | .int x :: r => X (tsw d L x) lv r h cs ss
  | _ => False
theorem mono_scr (n : Nat) (S : Nat × (Nat → Int32)) : Mono (k_scr n S) := by
  intro X Y Q Q' hX hQ lv st h cs ss k
  unfold k_scr at *; split at k <;> first | exact ⟨k.1, k.2.1, hX _ _ _ _ _ _ k.2.2⟩ | exact k.elim
theorem mono_tsw (d : Nat) (L : List Nat) : Mono (k_tsw d L) := by
  intro X Y Q Q' hX hQ lv st h cs ss k
  unfold k_tsw at *; split at k <;> first | exact hX _ _ _ _ _ _ k | exact k.elim
section LAWR
variable {g : Gc} {n0 : Nat} {ads : Nat → Nat} {p : Program} {l : Launch} {e : Env} {R : Room} {s : State} {m : MethodId} {args : Array Value} {below : List Frame} {meth : Method} {c : Code} {nL : Nat} {Qf : State → Prop} {Q : QT} {cc : ByteArray} {own : String} {pc : Nat}
theorem o_scr (A : Act g p l s m args meth c cc nL own) {S : Nat × (Nat → Int32)} (G : ScrG g S) (hd : decode cc pc = .ok (.iaload, 1)) : Snd g n0 ads p l e R s m args below meth c nL Qf Q pc (k_scr (pc + 1) S) := by
  intro lv st h cs ss k ad H locs ls hR h0 ha hS hl hlv hst
  unfold k_scr at k
  split at k
  · next i a r =>
    obtain ⟨rfl, hin, k⟩ := k
    have hi : i.toNatClampNeg < S.1 := Nat.not_le.mp fun q => hin (Or.inr q)
    show W p l e R s m args below meth c H locs cs ss Qf (F0 m pc ls (.int i :: cv ad (.ref 258) :: r.map (cv ad)))
    rw [cv_out hR (by decide) (by decide)]
    have hT := A.gex.2.2.2.2.2.2.1.1.kept A.kq
    rw [G.1] at hT
    exact va_ti A.1 A.2.1 hT hS hin (congrArg Value.int (G.2 _ hi)) hd (k ad H locs ls hR h0 ha hS hl hlv (List.forall_mem_cons.mpr ⟨trivial, (List.forall_mem_cons.mp (List.forall_mem_cons.mp hst).2).2⟩))
  · exact k.elim
theorem o_scrlen (A : Act g p l s m args meth c cc nL own) {S : Nat × (Nat → Int32)} (G : ScrG g S) (hd : decode cc pc = .ok (.arraylength, 1)) : Snd g n0 ads p l e R s m args below meth c nL Qf Q pc (k_alenX (pc + 1) 258 S.1) := by
  have hT := A.gex.2.2.2.2.2.2.1.1
  rw [G.1] at hT
  exact o_alenX A (by decide) (by decide) hT hd
theorem toInt_nn {z : Int32} (hz : ¬ z < 0) : z.toInt = (z.toNatClampNeg : Int) := by
  have hz0 : (0 : Int) ≤ z.toInt := by
    have := Int32.not_lt.mp hz
    simpa using Int32.le_iff_toInt_le.mp this
  show z.toInt = ((z.toInt.toNat : Nat) : Int)
  omega
theorem o_tsw (A : Act g p l s m args meth c cc nL own) {dflt hi : Int} {offs : Array Int} {len d : Nat} {L : List Nat} (hL : ((L.length : Nat) : Int) = hi + 1) (hdf : (pc : Int) + dflt = (d : Int)) (hof : ∀ k, k < L.length → ∃ off : Int, offs[k]? = some off ∧ (pc : Int) + off = ((L.getD k d : Nat) : Int)) (hd : decode cc pc = .ok (.tableswitch dflt 0 hi offs, len)) : Snd g n0 ads p l e R s m args below meth c nL Qf Q pc (k_tsw d L) := by
  intro lv st h cs ss k ad H locs ls hR h0 ha hS hl hlv hst
  unfold k_tsw tsw at k
  split at k
  · next x r =>
    have k2 := k ad H locs ls hR h0 ha hS hl hlv (List.forall_mem_cons.mp hst).2
    by_cases hx : x < 0
    · rw [if_pos hx] at k2
      refine lv_tableOut A.1 A.2.1 hd (Or.inl ?_) hdf k2
      simpa using Int32.lt_iff_toInt_lt.mp hx
    · rw [if_neg hx] at k2
      have e := toInt_nn hx
      by_cases hk : x.toNatClampNeg < L.length
      · obtain ⟨off, o1, o2⟩ := hof _ hk
        refine lv_tableIn A.1 A.2.1 hd (by omega) (by omega) ?_ o2 k2
        rw [e]
        simpa using o1
      · rw [List.getD_eq_getElem?_getD, List.getElem?_eq_none (by omega)] at k2
        exact lv_tableOut A.1 A.2.1 hd (Or.inr (by omega)) hdf k2
  · exact k.elim
end LAWR
theorem offs_ok {pc d : Nat} {L : List Nat} {offs : Array Int} (h : (List.range L.length).all (fun k => match offs[k]? with | some off => decide ((pc : Int) + off = ((L.getD k d : Nat) : Int)) | none => false) = true) : ∀ k, k < L.length → ∃ off : Int, offs[k]? = some off ∧ (pc : Int) + off = ((L.getD k d : Nat) : Int) := fun k hk => by
  have := List.all_eq_true.mp h k (List.mem_range.mpr hk)
  split at this
  · next off e => exact ⟨off, e, by simpa using this⟩
  · cases this
def SndS (S : Nat × (Nat → Int32)) (y : MethodName) (cc : ByteArray) (maxL : Nat) (ret : Option FieldType) (rm : Room) (pc : Nat) (sm : Sem) : Prop :=
  ∀ (g : Gc) (h0 : CH) (ads : Nat → Nat) (p : Program) (l : Launch) (e : Env) (s : State) (m : MethodId) (args : Array Value) (below : List Frame) (meth : Method) (c : Code) (Q : QT), ScrG g S → Act g p l s m args meth c cc maxL y.cls → meth.sig.returnType = ret → meth.name = y.name → (∀ x ∈ c.exceptionTable.toList, False) → Snd g (hN h0) ads p l e rm s m args below meth c maxL (vx_MQ below (Qcu g ads h0 Q) (XCu g ads h0 Q) args s rm.cells rm.slots (gF g)) Q pc sm
def AllL (S : Nat × (Nat → Int32)) (y : MethodName) (cc : ByteArray) (maxL : Nat) (ret : Option FieldType) (rm : Room) : List (Nat × Sem) → Prop
  | [] => True
  | q :: r => SndS S y cc maxL ret rm q.1 q.2 ∧ AllL S y cc maxL ret rm r
theorem tab_sndS {S : Nat × (Nat → Int32)} {y : MethodName} {cc : ByteArray} {maxL : Nat} {ret : Option FieldType} {rm : Room} : ∀ {L : List (Nat × Sem)}, AllL S y cc maxL ret rm L → ∀ pc, SndS S y cc maxL ret rm pc (tab L pc)
  | [], _, pc => fun _ _ _ _ _ _ _ _ _ _ _ _ _ _ _ _ _ _ => snd_no
  | q :: r, h, pc => by
    rw [tab_cons]
    split
    · next e => subst e; exact h.1
    · exact tab_sndS h.2 pc
theorem AllL_app {S : Nat × (Nat → Int32)} {y : MethodName} {cc : ByteArray} {maxL : Nat} {ret : Option FieldType} {rm : Room} : ∀ {L M : List (Nat × Sem)}, AllL S y cc maxL ret rm L → AllL S y cc maxL ret rm M → AllL S y cc maxL ret rm (L ++ M)
  | [], _, _, h => h
  | _ :: _, _, h1, h2 => ⟨h1.1, AllL_app h1.2 h2⟩
theorem AllM_app : ∀ {L M : List (Nat × Sem)}, AllM L → AllM M → AllM (L ++ M)
  | [], _, _, h => h
  | _ :: _, _, h1, h2 => ⟨h1.1, AllM_app h1.2 h2⟩
def UMS (S : Nat × (Nat → Int32)) (y : MethodName) (cc : ByteArray) (maxL : Nat) (ret : Option FieldType) (rm : Room) (w : WT) : Prop :=
  ∀ (l : Launch), l.stackTraces = false → ∀ (g : Gc) (ad : Nat → Nat) (h : CH) (av : List Value) (Q : QT), ScrG g S → w av h Q → vx_Met l y (Cond.code y cc maxL ret :: AW) rm (Pcu g ad h av) (Qcu g ad h Q) (XCu g ad h Q) rm.cells rm.slots (gF g)
theorem UMS.of {S : Nat × (Nat → Int32)} {y : MethodName} {cc : ByteArray} {maxL : Nat} {ret : Option FieldType} {rm : Room} {code : Nat → Sem} (hy : plainName y.cls = true) (hc : ∀ pc, SndS S y cc maxL ret rm pc (code pc)) : UMS S y cc maxL ret rm (fun av h Q => (av.flatMap (fun v => if cat2 v = true then [v, Value.null] else [v])).length ≤ maxL ∧ wpI code Q 0 (ent maxL av) [] h 0 0) := by
  intro l hl g ad h av Q hG hw
  refine vx_ofW (cc := cc) (maxL := maxL) (ret := ret) hy rfl ?_
  intro p e s m args below meth c s₁ B hml ht hP
  obtain ⟨rfl, hX, hR, hb1, hb2, hav⟩ := hP
  have hts : ∀ w ∈ Cond.code y cc maxL ret :: AW, w.before (av.map (cv ad)).toArray s = true := atoms_spec (ws := Cond.code y cc maxL ret :: AW) B.pre
  have hown : s.vm.findClass y.cls = some m.cls := findClass_of_methodNamed B.named
  have A : Act g p l s m (av.map (cv ad)).toArray meth c cc maxL y.cls := ⟨B.exec, B.bytes, hml, hown, AW_in hts, hX, B.notSynchronized, hl, hb1, hb2⟩
  have hS : va_S (gF g) s.heap s.heap [] := va_S.rf
  have hlen : (lg_sl (av.map (cv ad))).length ≤ maxL := by rw [← ent_len]; exact hw.1
  have hent := lv_entry (av.map (cv ad)) (n := maxL) hlen
  have key := hw.2 (Wok g (hN h) ad p l e rm s m (av.map (cv ad)).toArray below meth c maxL (vx_MQ below (Qcu g ad h Q) (XCu g ad h Q) (av.map (cv ad)).toArray s rm.cells rm.slots (gF g))) (fun pc => hc pc g h ad p l e s m _ below meth c Q hG A B.returns (name_of_methodNamed B.named B.method).1 ht)
  rw [lg_entry_eq]
  have hl0 : lvr ad (lg_sl (av.map (cv ad)) ++ List.replicate (maxL - (lg_sl (av.map (cv ad))).length) Slot.unset).toArray (ent maxL av) maxL := by
    refine ⟨hent.1, ?_, hent.2.1, fun i v hi hv => ?_⟩
    · show (_ ++ _ : List Value).length ≤ maxL
      rw [List.length_append, List.length_replicate]
      omega
    · have hi : ((av.flatMap (fun v => if cat2 v = true then [v, Value.null] else [v])) ++ List.replicate (maxL - (av.flatMap (fun v => if cat2 v = true then [v, Value.null] else [v])).length) Value.null)[i]? = some v := hi
      rcases Nat.lt_or_ge i (av.flatMap (fun v => if cat2 v = true then [v, Value.null] else [v])).length with q | q
      · rw [List.getElem?_append_left q] at hi
        have := ent_at (ad := ad) av 0 i v hi hv
        rw [Nat.zero_add] at this
        exact hent.2.2 _ this
      · rw [List.getElem?_append_right q] at hi
        exact absurd (List.eq_of_mem_replicate (List.mem_of_getElem? hi)) hv
  exact key ad s.heap [] _ hR (Nat.le_refl _) (fun _ _ => rfl) hS hl0 (ent_ref hav) (fun v hv => by cases hv)
theorem UMS.ofT {S : Nat × (Nat → Int32)} {y : MethodName} {cc : ByteArray} {maxL : Nat} {ret : Option FieldType} {rm : Room} {L : List (Nat × Sem)} (hy : plainName y.cls = true) (hc : AllL S y cc maxL ret rm L) : UMS S y cc maxL ret rm (wT maxL L) := UMS.of hy (tab_sndS hc)
