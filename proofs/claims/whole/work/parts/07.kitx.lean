/-! own rows over the kit: contracts over all of the tables' words; reads leave the heap as it is, writes tell their cells -/
theorem zq_good {w : Cond} (h : w ∈ zt) : (goodWord w || zq_nest w) = true := (List.mem_filter.mp h).2
theorem zq_warm {w : Cond} (hw : (goodWord w || zq_nest w) = true) {s U : State} (hW : s.WarmedH U.vm) (h : va_Nw w s) : va_Nw w U := by
  cases hg : goodWord w with
  | true => exact word_at hW (good_of_word hg) h
  | false =>
    rw [hg, Bool.false_or] at hw
    cases w <;> first | exact va_Nw.warmM hW h | exact va_Nw.warmF hW h | (exact absurd hw (by simp [zq_nest]))
theorem zq_use {w : Cond} (hw : (goodWord w || zq_nest w) = true) {s : State} {args : Array Value} (h : va_Nw w s) : w.before args s = true := by
  cases hg : goodWord w with
  | true => exact word_at (State.WarmedH.refl s) (good_of_word hg) h
  | false =>
    rw [hg, Bool.false_or] at hw
    cases w <;> first | exact va_Nw.use rfl h | (exact absurd hw (by simp [zq_nest]))
theorem zq_of {w : Cond} (hw : (goodWord w || zq_nest w) = true) {s : State} {args : Array Value} (h : w.before args s = true) : va_Nw w s := by
  cases hg : goodWord w with
  | true => exact word_at (State.WarmedH.refl s) (good_of_word hg) h
  | false =>
    rw [hg, Bool.false_or] at hw
    cases w <;> first | exact va_Nw.of rfl h | (exact absurd hw (by simp [zq_nest]))
def tb (D : va_G) (cI cZ : ClassId) (U : State) : Prop := va_K D vwCl [(cI, .int), (cZ, .boolean)] U ∧ ∀ w ∈ zt, va_Nw w U
theorem tb_warm {D : va_G} {cI cZ : ClassId} {s U : State} (hW : s.WarmedH U.vm) (h : tb D cI cZ s) : tb D cI cZ U := ⟨va_K.moved hW.alike h.1, fun w hw => zq_warm (zq_good hw) hW (h.2 w hw)⟩
theorem tb_call {D : va_G} {cI cZ : ClassId} {U : State} {g : JFrame} {mk : MethodId} {a : Array Value} (h : tb D cI cZ U) : tb D cI cZ (U.calling g mk a) := tb_warm (State.WarmedH.refl U) h
theorem tb_hts {D : va_G} {cI cZ : ClassId} {s : State} (h : tb D cI cZ s) (args : Array Value) : ∀ w ∈ zt, w.before args s = true := fun w hw => zq_use (zq_good hw) (h.2 w hw)
abbrev PcR (D : va_G) (cI cZ : ClassId) (av : List Value) (wc : va_W) : Array Value → State → Prop := va_Pc av (fun U => tb D cI cZ U ∧ va_P D vwCl wc U.heap)
abbrev PcW (D : va_G) (cI cZ : ClassId) (av : List Value) (wc : va_W) : Array Value → State → Prop := va_Pc av (fun U => tb D cI cZ U ∧ va_P D vwCl wc U.heap ∧ va_D (fun _ => True) wc)
abbrev QcR (ov : Option Value) : Array Value → State → Outcome → State → Prop := fun _ st oc t => oc = .returned ov ∧ t.heap = st.heap
def zA (wc : va_W) (q : Nat) : Prop := ∃ (k : Nat) (e : va_E), wc[k]? = some (q, e)
abbrev zN : Addr → Prop := fun _ => False
abbrev QcE (D : va_G) {S : Type} (ov : Option Value) (post : S → Prop) (wf : S → va_W) (A : Nat → Prop) : Array Value → State → Outcome → State → Prop := fun _ st oc t => oc = .returned ov ∧ (∃ u : S, post u ∧ va_P D vwCl (wf u) t.heap) ∧ va_F A st t
abbrev QcW (D : va_G) (ov : Option Value) (w' : va_W) (A : Nat → Prop) : Array Value → State → Outcome → State → Prop := QcE D (S := Unit) ov (fun _ => True) (fun _ => w') A
section ZB
variable {l : Launch} {y : MethodName} {cc : ByteArray} {maxL : Nat} {rm : Room} {D : va_G} {cI cZ : ClassId} {av : List Value} {wc : va_W}
theorem z_entry (m : MethodId) {args : Array Value} (h : args = av.toArray) (n : Nat) : entryFrame m args n = F0 m 0 ((lg_sl av ++ List.replicate (n - (lg_sl av).length) Slot.unset).toArray) [] := by rw [h]; exact lg_entry_eq m av n
theorem mtRi {v : Int32} (hy : plainName y.cls = true) (hlen : (lg_sl av).length ≤ maxL)
    (body : ∀ (p : Program) (e : Env) (s : State) (m : MethodId) (args : Array Value) (below : List Frame) (meth : Method) (c : Code) (Q : State → Prop), CallFix p m c cc maxL s args zt y.cls → tb D cI cZ s → va_P D vwCl wc s.heap →
      (∀ (pc : Nat) (ls : Array Slot) (x : Int32), decode cc pc = .ok (.ireturn, 1) → x = v → W p l e rm s m args below meth c s.heap [] 0 0 Q (F0 m pc ls [.int x])) →
      ∀ ls : Array Slot, lv_has ls maxL (lv_args 0 av) → W p l e rm s m args below meth c s.heap [] 0 0 Q (F0 m 0 ls [])) :
    Met l y [.code y cc maxL (some .int)] rm (PcR D cI cZ av wc) (QcR (some (.int v))) 0 0 zN := by
  refine Met.ofW (cc := cc) (maxL := maxL) (ret := some .int) hy rfl ?_
  intro p e s m args below meth c s₁ B hml hv
  obtain ⟨hargs, hT, hP⟩ := hv
  have hlocks := B.notSynchronized
  rw [z_entry m hargs maxL]
  exact body p e s m args below meth c _ ⟨B.exec, B.bytes, hml, findClass_of_methodNamed B.named, tb_hts hT args⟩ hT hP (fun pc ls x hd hxv => by
    subst hxv
    exact W.iret B.exec B.bytes B.returns (fun t ht hW => ⟨rfl, ht⟩) (fun q h => by cases h) hd) _ (lv_entry av (n := maxL) hlen)
theorem mtRz {v : Int32} (hv01 : narrow .boolean (.int v) = .int v) (hy : plainName y.cls = true) (hlen : (lg_sl av).length ≤ maxL)
    (body : ∀ (p : Program) (e : Env) (s : State) (m : MethodId) (args : Array Value) (below : List Frame) (meth : Method) (c : Code) (Q : State → Prop), CallFix p m c cc maxL s args zt y.cls → tb D cI cZ s → va_P D vwCl wc s.heap →
      (∀ (pc : Nat) (ls : Array Slot) (x : Int32), decode cc pc = .ok (.ireturn, 1) → x = v → W p l e rm s m args below meth c s.heap [] 0 0 Q (F0 m pc ls [.int x])) →
      ∀ ls : Array Slot, lv_has ls maxL (lv_args 0 av) → W p l e rm s m args below meth c s.heap [] 0 0 Q (F0 m 0 ls [])) :
    Met l y [.code y cc maxL (some .boolean)] rm (PcR D cI cZ av wc) (QcR (some (.int v))) 0 0 zN := by
  refine Met.ofW (cc := cc) (maxL := maxL) (ret := some .boolean) hy rfl ?_
  intro p e s m args below meth c s₁ B hml hv
  obtain ⟨hargs, hT, hP⟩ := hv
  have hlocks := B.notSynchronized
  rw [z_entry m hargs maxL]
  exact body p e s m args below meth c _ ⟨B.exec, B.bytes, hml, findClass_of_methodNamed B.named, tb_hts hT args⟩ hT hP (fun pc ls x hd hxv => by
    subst hxv
    exact W.zret B.exec B.bytes B.returns hv01 (fun t ht hW => ⟨rfl, ht⟩) (fun q h => by cases h) hd) _ (lv_entry av (n := maxL) hlen)
theorem mtRl {v : Int64} (hy : plainName y.cls = true) (hlen : (lg_sl av).length ≤ maxL)
    (body : ∀ (p : Program) (e : Env) (s : State) (m : MethodId) (args : Array Value) (below : List Frame) (meth : Method) (c : Code) (Q : State → Prop), CallFix p m c cc maxL s args zt y.cls → tb D cI cZ s → va_P D vwCl wc s.heap →
      (∀ (pc : Nat) (ls : Array Slot) (x : Int64), decode cc pc = .ok (.lreturn, 1) → x = v → W p l e rm s m args below meth c s.heap [] 0 0 Q (F0 m pc ls [.long x])) →
      ∀ ls : Array Slot, lv_has ls maxL (lv_args 0 av) → W p l e rm s m args below meth c s.heap [] 0 0 Q (F0 m 0 ls [])) :
    Met l y [.code y cc maxL (some .long)] rm (PcR D cI cZ av wc) (QcR (some (.long v))) 0 0 zN := by
  refine Met.ofW (cc := cc) (maxL := maxL) (ret := some .long) hy rfl ?_
  intro p e s m args below meth c s₁ B hml hv
  obtain ⟨hargs, hT, hP⟩ := hv
  have hlocks := B.notSynchronized
  rw [z_entry m hargs maxL]
  exact body p e s m args below meth c _ ⟨B.exec, B.bytes, hml, findClass_of_methodNamed B.named, tb_hts hT args⟩ hT hP (fun pc ls x hd hxv => by
    subst hxv
    exact W.lret B.exec B.bytes B.returns (fun t ht hW => ⟨rfl, ht⟩) (fun q h => by cases h) hd) _ (lv_entry av (n := maxL) hlen)
theorem mtRr {a : Nat} {n : String} (hy : plainName y.cls = true) (hlen : (lg_sl av).length ≤ maxL)
    (body : ∀ (p : Program) (e : Env) (s : State) (m : MethodId) (args : Array Value) (below : List Frame) (meth : Method) (c : Code) (Q : State → Prop), CallFix p m c cc maxL s args zt y.cls → tb D cI cZ s → va_P D vwCl wc s.heap →
      (∀ (pc : Nat) (ls : Array Slot) (x : Nat), decode cc pc = .ok (.areturn, 1) → x = a → W p l e rm s m args below meth c s.heap [] 0 0 Q (F0 m pc ls [.ref x])) →
      ∀ ls : Array Slot, lv_has ls maxL (lv_args 0 av) → W p l e rm s m args below meth c s.heap [] 0 0 Q (F0 m 0 ls [])) :
    Met l y [.code y cc maxL (some (.object n))] rm (PcR D cI cZ av wc) (QcR (some (.ref a))) 0 0 zN := by
  refine Met.ofW (cc := cc) (maxL := maxL) (ret := some (.object n)) hy rfl ?_
  intro p e s m args below meth c s₁ B hml hv
  obtain ⟨hargs, hT, hP⟩ := hv
  have hlocks := B.notSynchronized
  rw [z_entry m hargs maxL]
  exact body p e s m args below meth c _ ⟨B.exec, B.bytes, hml, findClass_of_methodNamed B.named, tb_hts hT args⟩ hT hP (fun pc ls x hd hxv => by
    subst hxv
    exact W.aret B.exec B.bytes B.returns (Or.inl ⟨n, rfl⟩) (Or.inr ⟨x, rfl⟩) (fun t ht hW => ⟨rfl, ht⟩) (fun q h => by cases h) hd) _ (lv_entry av (n := maxL) hlen)
theorem mtWi {S : Type} {post : S → Prop} {wf : S → va_W} {v : Int32} (hy : plainName y.cls = true) (hlen : (lg_sl av).length ≤ maxL)
    (body : ∀ (p : Program) (e : Env) (s : State) (m : MethodId) (args : Array Value) (below : List Frame) (meth : Method) (c : Code) (Q : State → Prop) (A : Nat → Prop), CallFix p m c cc maxL s args zt y.cls → tb D cI cZ s → va_P D vwCl wc s.heap → va_D A wc → va_S A s.heap s.heap [] →
      (∀ (pc : Nat) (ls : Array Slot) (x : Int32) (H : Heap) (locs : List Loc) (u : S), decode cc pc = .ok (.ireturn, 1) → x = v → post u → va_P D vwCl (wf u) H → va_S A s.heap H locs → W p l e rm s m args below meth c H locs 0 0 Q (F0 m pc ls [.int x])) →
      ∀ ls : Array Slot, lv_has ls maxL (lv_args 0 av) → W p l e rm s m args below meth c s.heap [] 0 0 Q (F0 m 0 ls [])) :
    Met l y [.code y cc maxL (some .int)] rm (PcW D cI cZ av wc) (QcE D (some (.int v)) post wf (zA wc)) 0 0 (zA wc) := by
  refine Met.ofW (cc := cc) (maxL := maxL) (ret := some .int) hy rfl ?_
  intro p e s m args below meth c s₁ B hml hv
  obtain ⟨hargs, hT, hP, hD⟩ := hv
  have hlocks := B.notSynchronized
  rw [z_entry m hargs maxL]
  exact body p e s m args below meth c _ (zA wc) ⟨B.exec, B.bytes, hml, findClass_of_methodNamed B.named, tb_hts hT args⟩ hT hP ⟨hD.1, fun k q h => ⟨k, q.2, h⟩⟩ va_S.rf (fun pc ls x H locs u hd hxv hu hP1 hS => by
    subst hxv
    exact W.iret B.exec B.bytes B.returns (fun t ht hW => ⟨rfl, ⟨u, hu, by rw [ht]; exact hP1⟩, hS.F ht⟩) hS.2.2 hd) _ (lv_entry av (n := maxL) hlen)
theorem mtWz {S : Type} {post : S → Prop} {wf : S → va_W} {v : Int32} (hv01 : narrow .boolean (.int v) = .int v) (hy : plainName y.cls = true) (hlen : (lg_sl av).length ≤ maxL)
    (body : ∀ (p : Program) (e : Env) (s : State) (m : MethodId) (args : Array Value) (below : List Frame) (meth : Method) (c : Code) (Q : State → Prop) (A : Nat → Prop), CallFix p m c cc maxL s args zt y.cls → tb D cI cZ s → va_P D vwCl wc s.heap → va_D A wc → va_S A s.heap s.heap [] →
      (∀ (pc : Nat) (ls : Array Slot) (x : Int32) (H : Heap) (locs : List Loc) (u : S), decode cc pc = .ok (.ireturn, 1) → x = v → post u → va_P D vwCl (wf u) H → va_S A s.heap H locs → W p l e rm s m args below meth c H locs 0 0 Q (F0 m pc ls [.int x])) →
      ∀ ls : Array Slot, lv_has ls maxL (lv_args 0 av) → W p l e rm s m args below meth c s.heap [] 0 0 Q (F0 m 0 ls [])) :
    Met l y [.code y cc maxL (some .boolean)] rm (PcW D cI cZ av wc) (QcE D (some (.int v)) post wf (zA wc)) 0 0 (zA wc) := by
  refine Met.ofW (cc := cc) (maxL := maxL) (ret := some .boolean) hy rfl ?_
  intro p e s m args below meth c s₁ B hml hv
  obtain ⟨hargs, hT, hP, hD⟩ := hv
  have hlocks := B.notSynchronized
  rw [z_entry m hargs maxL]
  exact body p e s m args below meth c _ (zA wc) ⟨B.exec, B.bytes, hml, findClass_of_methodNamed B.named, tb_hts hT args⟩ hT hP ⟨hD.1, fun k q h => ⟨k, q.2, h⟩⟩ va_S.rf (fun pc ls x H locs u hd hxv hu hP1 hS => by
    subst hxv
    exact W.zret B.exec B.bytes B.returns hv01 (fun t ht hW => ⟨rfl, ⟨u, hu, by rw [ht]; exact hP1⟩, hS.F ht⟩) hS.2.2 hd) _ (lv_entry av (n := maxL) hlen)
theorem mtWl {S : Type} {post : S → Prop} {wf : S → va_W} {v : Int64} (hy : plainName y.cls = true) (hlen : (lg_sl av).length ≤ maxL)
    (body : ∀ (p : Program) (e : Env) (s : State) (m : MethodId) (args : Array Value) (below : List Frame) (meth : Method) (c : Code) (Q : State → Prop) (A : Nat → Prop), CallFix p m c cc maxL s args zt y.cls → tb D cI cZ s → va_P D vwCl wc s.heap → va_D A wc → va_S A s.heap s.heap [] →
      (∀ (pc : Nat) (ls : Array Slot) (x : Int64) (H : Heap) (locs : List Loc) (u : S), decode cc pc = .ok (.lreturn, 1) → x = v → post u → va_P D vwCl (wf u) H → va_S A s.heap H locs → W p l e rm s m args below meth c H locs 0 0 Q (F0 m pc ls [.long x])) →
      ∀ ls : Array Slot, lv_has ls maxL (lv_args 0 av) → W p l e rm s m args below meth c s.heap [] 0 0 Q (F0 m 0 ls [])) :
    Met l y [.code y cc maxL (some .long)] rm (PcW D cI cZ av wc) (QcE D (some (.long v)) post wf (zA wc)) 0 0 (zA wc) := by
  refine Met.ofW (cc := cc) (maxL := maxL) (ret := some .long) hy rfl ?_
  intro p e s m args below meth c s₁ B hml hv
  obtain ⟨hargs, hT, hP, hD⟩ := hv
  have hlocks := B.notSynchronized
  rw [z_entry m hargs maxL]
  exact body p e s m args below meth c _ (zA wc) ⟨B.exec, B.bytes, hml, findClass_of_methodNamed B.named, tb_hts hT args⟩ hT hP ⟨hD.1, fun k q h => ⟨k, q.2, h⟩⟩ va_S.rf (fun pc ls x H locs u hd hxv hu hP1 hS => by
    subst hxv
    exact W.lret B.exec B.bytes B.returns (fun t ht hW => ⟨rfl, ⟨u, hu, by rw [ht]; exact hP1⟩, hS.F ht⟩) hS.2.2 hd) _ (lv_entry av (n := maxL) hlen)
theorem mtWv {S : Type} {post : S → Prop} {wf : S → va_W} (hy : plainName y.cls = true) (hlen : (lg_sl av).length ≤ maxL)
    (body : ∀ (p : Program) (e : Env) (s : State) (m : MethodId) (args : Array Value) (below : List Frame) (meth : Method) (c : Code) (Q : State → Prop) (A : Nat → Prop), CallFix p m c cc maxL s args zt y.cls → tb D cI cZ s → va_P D vwCl wc s.heap → va_D A wc → va_S A s.heap s.heap [] →
      (∀ (pc : Nat) (ls : Array Slot) (H : Heap) (locs : List Loc) (u : S), decode cc pc = .ok (.return_, 1) → post u → va_P D vwCl (wf u) H → va_S A s.heap H locs → W p l e rm s m args below meth c H locs 0 0 Q (F0 m pc ls [])) →
      ∀ ls : Array Slot, lv_has ls maxL (lv_args 0 av) → W p l e rm s m args below meth c s.heap [] 0 0 Q (F0 m 0 ls [])) :
    Met l y [.code y cc maxL none] rm (PcW D cI cZ av wc) (QcE D none post wf (zA wc)) 0 0 (zA wc) := by
  refine Met.ofW (cc := cc) (maxL := maxL) (ret := none) hy rfl ?_
  intro p e s m args below meth c s₁ B hml hv
  obtain ⟨hargs, hT, hP, hD⟩ := hv
  have hlocks := B.notSynchronized
  rw [z_entry m hargs maxL]
  exact body p e s m args below meth c _ (zA wc) ⟨B.exec, B.bytes, hml, findClass_of_methodNamed B.named, tb_hts hT args⟩ hT hP ⟨hD.1, fun k q h => ⟨k, q.2, h⟩⟩ va_S.rf (fun pc ls H locs u hd hu hP1 hS =>
    W.vret B.exec B.bytes B.returns (fun t ht hW => ⟨rfl, ⟨u, hu, by rw [ht]; exact hP1⟩, hS.F ht⟩) hS.2.2 hd) _ (lv_entry av (n := maxL) hlen)
end ZB
/-- what the tables say of a method that is called on an object, and of a static one -/
def mwI (C : String) (y : MethodName) (bytes : ByteArray) (maxL : Nat) (ret : Option FieldType) (n : Nat) : Prop :=
  (y.cls = C ∧ y.cls ≠ "java/lang/invoke/MethodHandle" ∧ y.cls ≠ "java/lang/invoke/VarHandle" ∧ (parseMethodDescriptor y.desc).map (fun d => d.parameters.length) = some n) ∧ Cond.instanceMethod y ∈ zt ∧ Cond.selects C y y ∈ zt ∧ Cond.initialized C ∈ zt ∧ Cond.code y bytes maxL ret ∈ zt
def mwS (y : MethodName) (bytes : ByteArray) (maxL : Nat) (ret : Option FieldType) (n : Nat) : Prop :=
  (y.cls ≠ "java/lang/invoke/MethodHandle" ∧ y.cls ≠ "java/lang/invoke/VarHandle" ∧ (parseMethodDescriptor y.desc).map (fun d => d.parameters.length) = some n) ∧ Cond.static y ∈ zt ∧ Cond.initialized y.cls ∈ zt ∧ Cond.code y bytes maxL ret ∈ zt
abbrev zR (rm R : Room) (maxL cells slots : Nat) : Prop := rm.cells = 0 ∧ rm.slots = 0 ∧ rm.frames + 1 ≤ R.frames ∧ 8 + (maxL + 11) + rm.locals ≤ R.locals ∧ cells + 0 ≤ R.cells ∧ slots + 0 ≤ R.slots
theorem zq_code (y : MethodName) (bytes : ByteArray) (maxL : Nat) (ret : Option FieldType) (h : Cond.code y bytes maxL ret ∈ zt) : GoodIn zt [Cond.code y bytes maxL ret] := by
  intro w hw
  rw [List.mem_singleton.mp hw]
  exact ⟨h, Or.inl rfl⟩
section ZC
variable {p : Program} {l : Launch} {e : Env} {R : Room} {s : State} {m : MethodId} {args : Array Value} {below : List Frame} {meth : Method} {c : Code} {H : Heap} {locs : List Loc} {cells slots : Nat} {Q : State → Prop}
variable {cc bytes : ByteArray} {nL maxL index pc : Nat} {own C : String} {y : MethodName} {ret : Option FieldType} {rm : Room} {D : va_G} {cI cZ : ClassId} {As rest st : List Value} {b : Addr} {wc ws : va_W} {ov : Option Value} {ls : Array Slot}
variable {Pc : Array Value → State → Prop} {Qc : Array Value → State → Outcome → State → Prop} {free : Addr → Prop}
theorem zV (S : CallFix p m c cc nL s args zt own) (hM : Met l y [.code y bytes maxL ret] rm Pc Qc 0 0 free) (hw : mwI C y bytes maxL ret As.length) (lk : Cond.methodLink own index y ∈ zt) (hR : zR rm R maxL cells slots)
    (hp : PreV s H C b Pc As) (hsz : ls.size = nL) (hst : (rest.map fun v => v.category).sum ≤ 8) (hdg : decode cc pc = .ok (.invokevirtual index, 3)) (hs : st = As.reverse ++ .ref b :: rest) :
    va_Run p l e R s m args below meth c H locs cells slots 0 0 (F0 m pc ls st) rest (Qc (Value.ref b :: As).toArray) free := by
  obtain ⟨hd, h1, h2, h3, h4⟩ := hw
  obtain ⟨r1, r2, r3, r4, r5, r6⟩ := hR
  have hts := S.2.2.2.2
  have cw : CallW R s args own C index y bytes maxL ret [.code y bytes maxL ret] rm 0 0 As.length := ⟨callB_of As.length hts (zq_code y bytes maxL ret h4) rfl r1 r2 (by rw [hd.1]; exact hts _ h3) (hts _ lk) hd.2 ⟨r3, r4⟩, hts _ h1, hts _ h2⟩
  exact va_runV S hM cw hp rfl rfl hsz hs (lv_room hst) hdg ⟨r5, r6⟩
theorem zS (S : CallFix p m c cc nL s args zt own) (hM : Met l y [.code y bytes maxL ret] rm Pc Qc 0 0 free) (hw : mwS y bytes maxL ret As.length) (lk : Cond.methodLink own index y ∈ zt) (hR : zR rm R maxL cells slots)
    (hp : PreS s H Pc As) (hsz : ls.size = nL) (hst : (rest.map fun v => v.category).sum ≤ 8) (hdg : decode cc pc = .ok (.invokestatic index, 3)) (hs : st = As.reverse ++ rest) :
    va_Run p l e R s m args below meth c H locs cells slots 0 0 (F0 m pc ls st) rest (Qc As.toArray) free := by
  obtain ⟨hd, h1, h3, h4⟩ := hw
  obtain ⟨r1, r2, r3, r4, r5, r6⟩ := hR
  have hts := S.2.2.2.2
  exact va_runS S hM ⟨callB_of As.length hts (zq_code y bytes maxL ret h4) rfl r1 r2 (hts _ h3) (hts _ lk) hd ⟨r3, r4⟩, hts _ h1⟩ hp rfl rfl hsz hs (lv_room hst) hdg ⟨r5, r6⟩
theorem zM {host : String} (S : CallFix p m c cc nL s args zt own) (hM : Met l y [.code y bytes maxL ret] rm Pc Qc 0 0 free) (hw : mwS y bytes maxL ret As.length) (lk : Cond.methodLinkNest own index y host ∈ zt) (hR : zR rm R maxL cells slots)
    (hp : PreS s H Pc As) (hsz : ls.size = nL) (hst : (rest.map fun v => v.category).sum ≤ 8) (hdg : decode cc pc = .ok (.invokestatic index, 3)) (hs : st = As.reverse ++ rest) :
    va_Run p l e R s m args below meth c H locs cells slots 0 0 (F0 m pc ls st) rest (Qc As.toArray) free := by
  obtain ⟨hd, h1, h3, h4⟩ := hw
  obtain ⟨r1, r2, r3, r4, r5, r6⟩ := hR
  have hts := S.2.2.2.2
  exact va_runSN S hM ⟨va_cnB (host := host) As.length hts (zq_code y bytes maxL ret h4) rfl r1 r2 (va_Nw.of rfl (hts _ lk)) (hts _ h3) hd ⟨r3, r4⟩, hts _ h1, trivial⟩ hp rfl rfl hsz hs (lv_room hst) hdg ⟨r5, r6⟩
theorem zR0 {a : Array Value} {st1 : List Value} (hr : va_Run p l e R s m args below meth c H locs cells slots 0 0 (F0 m pc ls st) rest (QcR ov a) zN) (hs1 : st1 = ov.toList ++ rest)
    (kk : W p l e R s m args below meth c H locs cells slots Q (F0 m (pc + 3) ls st1)) : W p l e R s m args below meth c H locs cells slots Q (F0 m pc ls st) := by
  intro T hT X
  obtain ⟨v, st₀, t, T', L, h0, X', hL, e1, e2, ⟨ho, hh⟩, stp⟩ := hr T hT X
  cases ho
  subst hs1
  obtain ⟨t2, a1, b1⟩ := kk T' (by rw [e1, hh, h0]) (Stand.forget X' (fun q h => (hL q h).elim))
  exact ⟨t2, stp t2 a1, b1⟩
theorem z_preR {s : State} {H : Heap} {As : List Value} (hT : tb D cI cZ s) (hP : va_P D vwCl ws H) (is : List Nat) (hi : is.filterMap (fun i => ws[i]?) = wc) : PreS s H (PcR D cI cZ As wc) As :=
  ⟨fun _ _ _ _ q => ⟨q.1, tb_call q.2.1, q.2.2⟩, fun U hU hW => ⟨rfl, tb_warm hW hT, by rw [hU]; exact hP.sub is hi⟩⟩
theorem z_recv {s : State} {H : Heap} {q0 ci N : Nat} {T : u_T} {fs : List Value} (hT : tb D cI cZ s) (hP : va_P D vwCl ws H) (he : ws[q0]? = some (b, .inr (ci, fs))) (hc : vwCl[ci]? = some (C, T, N)) : ∃ cellB : Cell, H[b]? = some cellB ∧ cellB.vm.isStatics = false ∧ s.vm.findClass C = some cellB.cls :=
  va_recv hT.1 hP hc he
/-- a read: on an object -/
theorem kRV {st1 : List Value} {ci N q0 : Nat} {T : u_T} {fs : List Value} (S : CallFix p m c cc nL s args zt own) (hT : tb D cI cZ s) (hP : va_P D vwCl ws H) (hM : Met l y [.code y bytes maxL ret] rm (PcR D cI cZ (.ref b :: As) wc) (QcR ov) 0 0 zN) (hs : st = As.reverse ++ .ref b :: rest) (hs1 : st1 = ov.toList ++ rest)
    (hw : mwI C y bytes maxL ret As.length) (lk : Cond.methodLink own index y ∈ zt) (hR : zR rm R maxL cells slots) (is : List Nat) (hi : is.filterMap (fun i => ws[i]?) = wc) (he : ws[q0]? = some (b, .inr (ci, fs))) (hc : vwCl[ci]? = some (C, T, N))
    (hsz : ls.size = nL) (hst : (rest.map fun v => v.category).sum ≤ 8) (hdg : decode cc pc = .ok (.invokevirtual index, 3))
    (kk : W p l e R s m args below meth c H locs cells slots Q (F0 m (pc + 3) ls st1)) : W p l e R s m args below meth c H locs cells slots Q (F0 m pc ls st) := by
  have hp := z_preR (As := .ref b :: As) hT hP is hi
  exact zR0 (zV S hM hw lk hR ⟨hp.1, z_recv hT hP he hc, hp.2⟩ hsz hst hdg hs) hs1 kk
theorem kRS {st1 : List Value} (S : CallFix p m c cc nL s args zt own) (hT : tb D cI cZ s) (hP : va_P D vwCl ws H) (hM : Met l y [.code y bytes maxL ret] rm (PcR D cI cZ As wc) (QcR ov) 0 0 zN) (hs : st = As.reverse ++ rest) (hs1 : st1 = ov.toList ++ rest)
    (hw : mwS y bytes maxL ret As.length) (lk : Cond.methodLink own index y ∈ zt) (hR : zR rm R maxL cells slots) (is : List Nat) (hi : is.filterMap (fun i => ws[i]?) = wc)
    (hsz : ls.size = nL) (hst : (rest.map fun v => v.category).sum ≤ 8) (hdg : decode cc pc = .ok (.invokestatic index, 3))
    (kk : W p l e R s m args below meth c H locs cells slots Q (F0 m (pc + 3) ls st1)) : W p l e R s m args below meth c H locs cells slots Q (F0 m pc ls st) :=
  zR0 (zS S hM hw lk hR (z_preR hT hP is hi) hsz hst hdg hs) hs1 kk
theorem kRM {host : String} {st1 : List Value} (S : CallFix p m c cc nL s args zt own) (hT : tb D cI cZ s) (hP : va_P D vwCl ws H) (hM : Met l y [.code y bytes maxL ret] rm (PcR D cI cZ As wc) (QcR ov) 0 0 zN) (hs : st = As.reverse ++ rest) (hs1 : st1 = ov.toList ++ rest)
    (hw : mwS y bytes maxL ret As.length) (lk : Cond.methodLinkNest own index y host ∈ zt) (hR : zR rm R maxL cells slots) (is : List Nat) (hi : is.filterMap (fun i => ws[i]?) = wc)
    (hsz : ls.size = nL) (hst : (rest.map fun v => v.category).sum ≤ 8) (hdg : decode cc pc = .ok (.invokestatic index, 3))
    (kk : W p l e R s m args below meth c H locs cells slots Q (F0 m (pc + 3) ls st1)) : W p l e R s m args below meth c H locs cells slots Q (F0 m pc ls st) :=
  zR0 (zM S hM hw lk hR (z_preR hT hP is hi) hsz hst hdg hs) hs1 kk
end ZC
/-- a world with other cells at some places -/
def zmg : va_W → List Nat → va_W → va_W
  | ws, i :: is, c :: cs => zmg (ws.set i c) is cs
  | ws, _, _ => ws
theorem zmg_out : ∀ (is : List Nat) (cs ws : va_W) (k : Nat), k ∉ is → (zmg ws is cs)[k]? = ws[k]?
  | [], _, _, _, _ => by rw [zmg]; intro _ _ _ _ h; cases h
  | _ :: _, [], _, _, _ => by rw [zmg]; intro _ _ _ _ _ h; cases h
  | i :: is, c :: cs, ws, k, h => by
    rw [zmg, zmg_out is cs _ k (fun q => h (List.mem_cons_of_mem _ q)), List.getElem?_set_ne (fun e => h (by rw [e]; exact List.mem_cons_self))]
theorem zmg_in : ∀ (is : List Nat) (cs ws : va_W) (j k : Nat), va_nd is = true → (∀ i ∈ is, i < ws.length) → is.length = cs.length → is[j]? = some k → (zmg ws is cs)[k]? = cs[j]?
  | [], _, _, j, k, _, _, _, h => by simp at h
  | i :: is, [], _, _, _, _, _, hl, _ => by simp at hl
  | i :: is, c :: cs, ws, 0, k, hn, hw, hl, h => by
    rw [List.getElem?_cons_zero] at h
    cases h
    simp only [va_nd, Bool.and_eq_true, decide_eq_true_eq] at hn
    rw [zmg, zmg_out is cs _ i hn.1, List.getElem?_set_self (hw i List.mem_cons_self), List.getElem?_cons_zero]
  | i :: is, c :: cs, ws, j + 1, k, hn, hw, hl, h => by
    rw [List.getElem?_cons_succ] at h
    simp only [va_nd, Bool.and_eq_true, decide_eq_true_eq] at hn
    rw [zmg, zmg_in is cs _ j k hn.2 (fun q hq => by rw [List.length_set]; exact hw q (List.mem_cons_of_mem _ hq)) (by simpa using hl) h, List.getElem?_cons_succ]
theorem z_merge {D : va_G} {A : Nat → Prop} {ws wc wc' : va_W} {H H1 : Heap} (hP : va_P D vwCl ws H) (hD : va_D A ws) (is al : List Nat) (hn : va_nd is = true) (hi : is.map (fun i => ws[i]?) = wc.map some) (h1 : wc.map (·.1) = al) (h2 : wc'.map (·.1) = al)
    (hP1 : va_P D vwCl wc' H1) (hk : ∀ q : Nat, q < H.size → ¬ zA wc q → H1[q]? = H[q]?) : va_P D vwCl (zmg ws is wc') H1 ∧ va_D A (zmg ws is wc') := by
  have hlen : is.length = wc.length := by
    have hh := congrArg List.length hi
    rwa [List.length_map, List.length_map] at hh
  have hlen2 : is.length = wc'.length := by
    rw [hlen, ← List.length_map (f := fun x : Nat × va_E => x.1), h1, ← h2, List.length_map]
  have at1 : ∀ (j k : Nat), is[j]? = some k → ws[k]? = wc[j]? := by
    intro j k hj
    have h3 : (is.map (fun i => ws[i]?))[j]? = some (ws[k]?) := by rw [List.getElem?_map, hj]; rfl
    rw [hi, List.getElem?_map] at h3
    cases h4 : wc[j]? with
    | none => rw [h4] at h3; cases h3
    | some x => rw [h4] at h3; exact (Option.some.inj h3).symm
  have hlt : ∀ i ∈ is, i < ws.length := by
    intro i hmem
    obtain ⟨j, hj⟩ := List.getElem?_of_mem hmem
    have hjl : j < wc.length := by rw [← hlen]; exact (List.getElem?_eq_some_iff.mp hj).1
    have := at1 j i hj
    rw [List.getElem?_eq_getElem hjl] at this
    exact (List.getElem?_eq_some_iff.mp this).1
  have hin : ∀ (j k : Nat), is[j]? = some k → (zmg ws is wc')[k]? = wc'[j]? := fun j k hj => zmg_in is wc' ws j k hn hlt hlen2 hj
  have adr : ∀ (j : Nat) (q : Nat × va_E), wc'[j]? = some q → ∃ q0, wc[j]? = some q0 ∧ q0.1 = q.1 := by
    intro j q h
    have h3 : (wc'.map (·.1))[j]? = some q.1 := by rw [List.getElem?_map, h]; rfl
    rw [h2, ← h1, List.getElem?_map] at h3
    cases h4 : wc[j]? with
    | none => rw [h4] at h3; cases h3
    | some q0 => rw [h4] at h3; exact ⟨q0, rfl, Option.some.inj h3⟩
  have key : ∀ (k : Nat) (q : Nat × va_E), (zmg ws is wc')[k]? = some q → ∃ q0, ws[k]? = some q0 ∧ q0.1 = q.1 := by
    intro k q h
    by_cases hmem : k ∈ is
    · obtain ⟨j, hj⟩ := List.getElem?_of_mem hmem
      rw [hin j k hj] at h
      obtain ⟨q0, e1, e2⟩ := adr j q h
      exact ⟨q0, by rw [at1 j k hj, e1], e2⟩
    · rw [zmg_out is wc' ws k hmem] at h
      exact ⟨q, h, rfl⟩
  refine ⟨fun k q hq => ?_, fun i j x y hx hy hxy => ?_, fun k q hq => ?_⟩
  · by_cases hmem : k ∈ is
    · obtain ⟨j, hj⟩ := List.getElem?_of_mem hmem
      rw [hin j k hj] at hq
      exact hP1 j q hq
    · rw [zmg_out is wc' ws k hmem] at hq
      have hlt2 := (hP k q hq).lt
      refine (hP k q hq).kept (hk q.1 hlt2 (fun hz => ?_))
      obtain ⟨k2, e2, hz⟩ := hz
      have hl2 : k2 < is.length := by rw [hlen]; exact (List.getElem?_eq_some_iff.mp hz).1
      have h5 := at1 k2 is[k2] (List.getElem?_eq_getElem hl2)
      rw [hz] at h5
      have := hD.1 _ _ _ _ h5 hq rfl
      exact hmem (by rw [← this]; exact List.getElem_mem hl2)
  · obtain ⟨x0, g1, g2⟩ := key i x hx
    obtain ⟨y0, g3, g4⟩ := key j y hy
    exact hD.1 i j x0 y0 g1 g3 (g2.trans (hxy.trans g4.symm))
  · obtain ⟨q0, g1, g2⟩ := key k q hq
    rw [← g2]
    exact hD.2 k q0 g1
section ZD
variable {p : Program} {l : Launch} {e : Env} {R : Room} {s : State} {m : MethodId} {args : Array Value} {below : List Frame} {meth : Method} {c : Code} {H : Heap} {locs : List Loc} {cells slots : Nat} {Q : State → Prop}
variable {cc bytes : ByteArray} {nL maxL index pc : Nat} {own C : String} {y : MethodName} {ret : Option FieldType} {rm : Room} {D : va_G} {cI cZ : ClassId} {As rest st st1 : List Value} {b : Addr} {wc ws : va_W} {ov : Option Value} {ls : Array Slot} {A : Nat → Prop} {H0 : Heap} {U : Type} {post : U → Prop} {wf : U → va_W}
theorem zE0 {a : Array Value}  (hr : va_Run p l e R s m args below meth c H locs cells slots 0 0 (F0 m pc ls st) rest (QcE D ov post wf (zA wc) a) (zA wc)) (hP : va_P D vwCl ws H) (hD : va_D A ws) (hS : va_S A H0 H locs)
    (is al : List Nat) (hn : va_nd is = true) (hi : is.map (fun i => ws[i]?) = wc.map some) (h1 : wc.map (·.1) = al) (h2 : ∀ u, (wf u).map (·.1) = al) (hs1 : st1 = ov.toList ++ rest)
    (kk : ∀ (u : U) (H1 : Heap) (locs1 : List Loc), post u → va_P D vwCl (zmg ws is (wf u)) H1 → va_D A (zmg ws is (wf u)) → va_S A H0 H1 locs1 → W p l e R s m args below meth c H1 locs1 cells slots Q (F0 m (pc + 3) ls st1)) : W p l e R s m args below meth c H locs cells slots Q (F0 m pc ls st) := by
  intro T hT X
  obtain ⟨v, st₀, t, T', L, h0, X', hL, e1, e2, ⟨ho, ⟨u, hu, hP1⟩, hz, hk⟩, stp⟩ := hr T hT X
  cases ho
  subst hs1
  rw [h0] at hz hk
  have hin : ∀ q, zA wc q → A q := by
    intro q ⟨k, e', hq⟩
    have h1 : (is.map (fun i => ws[i]?))[k]? = some (some (q, e')) := by rw [hi, List.getElem?_map, hq]; rfl
    rw [List.getElem?_map] at h1
    cases h2 : is[k]? with
    | none => rw [h2] at h1; cases h1
    | some i => rw [h2] at h1; exact hD.2 i (q, e') (Option.some.inj h1)
  obtain ⟨m1, m2⟩ := z_merge hP hD is al hn hi h1 (h2 u) hP1 hk
  obtain ⟨t2, a1, b1⟩ := kk u t.heap (locs ++ L) hu m1 m2 ⟨Nat.le_trans hS.1 hz, fun q h1 h2 => by
      rw [hk q (Nat.lt_of_lt_of_le h1 hS.1) (fun z => h2 (hin q z))]; exact hS.2.1 q h1 h2, fun q hq => by
      rcases List.mem_append.mp hq with h | h
      · exact hS.2.2 q h
      · exact hin _ (hL q h)⟩ T' e1 X'
  exact ⟨t2, stp t2 a1, b1⟩
theorem z_preW {s : State} {H : Heap} {As : List Value} (hT : tb D cI cZ s) (hP : va_P D vwCl ws H) (hD : va_D A ws) (is : List Nat) (hn : va_nd is = true) (hi : is.map (fun i => ws[i]?) = wc.map some) : PreS s H (PcW D cI cZ As wc) As := by
  refine ⟨fun _ _ _ _ q => ⟨q.1, tb_call q.2.1, q.2.2.1, q.2.2.2⟩, fun U hU hW => ⟨rfl, tb_warm hW hT, ?_, (hD.sub is hn hi).weaken (fun _ _ _ _ => trivial)⟩⟩
  rw [hU]
  intro k q hq
  have h1 : (is.map (fun i => ws[i]?))[k]? = some (some q) := by rw [hi, List.getElem?_map, hq]; rfl
  rw [List.getElem?_map] at h1
  cases h2 : is[k]? with
  | none => rw [h2] at h1; cases h1
  | some i => rw [h2] at h1; exact hP i q (Option.some.inj h1)
/-- a call that writes: on an object -/
theorem kEV  {ci N q0 : Nat} {T : u_T} {fs : List Value} (S : CallFix p m c cc nL s args zt own) (hT : tb D cI cZ s) (hP : va_P D vwCl ws H) (hD : va_D A ws) (hS : va_S A H0 H locs) (hM : Met l y [.code y bytes maxL ret] rm (PcW D cI cZ (.ref b :: As) wc) (QcE D ov post wf (zA wc)) 0 0 (zA wc)) (hs : st = As.reverse ++ .ref b :: rest) (hs1 : st1 = ov.toList ++ rest)
    (hw : mwI C y bytes maxL ret As.length) (lk : Cond.methodLink own index y ∈ zt) (hR : zR rm R maxL cells slots) (is al : List Nat) (hn : va_nd is = true) (hi : is.map (fun i => ws[i]?) = wc.map some) (h1 : wc.map (·.1) = al) (h2 : ∀ u, (wf u).map (·.1) = al)
    (he : ws[q0]? = some (b, .inr (ci, fs))) (hc : vwCl[ci]? = some (C, T, N)) (hsz : ls.size = nL) (hst : (rest.map fun v => v.category).sum ≤ 8) (hdg : decode cc pc = .ok (.invokevirtual index, 3))
    (kk : ∀ (u : U) (H1 : Heap) (locs1 : List Loc), post u → va_P D vwCl (zmg ws is (wf u)) H1 → va_D A (zmg ws is (wf u)) → va_S A H0 H1 locs1 → W p l e R s m args below meth c H1 locs1 cells slots Q (F0 m (pc + 3) ls st1)) : W p l e R s m args below meth c H locs cells slots Q (F0 m pc ls st) := by
  have hp := z_preW (As := .ref b :: As) hT hP hD is hn hi
  exact zE0 (zV S hM hw lk hR ⟨hp.1, z_recv hT hP he hc, hp.2⟩ hsz hst hdg hs) hP hD hS is al hn hi h1 h2 hs1 kk
theorem kES  (S : CallFix p m c cc nL s args zt own) (hT : tb D cI cZ s) (hP : va_P D vwCl ws H) (hD : va_D A ws) (hS : va_S A H0 H locs) (hM : Met l y [.code y bytes maxL ret] rm (PcW D cI cZ As wc) (QcE D ov post wf (zA wc)) 0 0 (zA wc)) (hs : st = As.reverse ++ rest) (hs1 : st1 = ov.toList ++ rest)
    (hw : mwS y bytes maxL ret As.length) (lk : Cond.methodLink own index y ∈ zt) (hR : zR rm R maxL cells slots) (is al : List Nat) (hn : va_nd is = true) (hi : is.map (fun i => ws[i]?) = wc.map some) (h1 : wc.map (·.1) = al) (h2 : ∀ u, (wf u).map (·.1) = al)
    (hsz : ls.size = nL) (hst : (rest.map fun v => v.category).sum ≤ 8) (hdg : decode cc pc = .ok (.invokestatic index, 3))
    (kk : ∀ (u : U) (H1 : Heap) (locs1 : List Loc), post u → va_P D vwCl (zmg ws is (wf u)) H1 → va_D A (zmg ws is (wf u)) → va_S A H0 H1 locs1 → W p l e R s m args below meth c H1 locs1 cells slots Q (F0 m (pc + 3) ls st1)) : W p l e R s m args below meth c H locs cells slots Q (F0 m pc ls st) :=
  zE0 (zS S hM hw lk hR (z_preW hT hP hD is hn hi) hsz hst hdg hs) hP hD hS is al hn hi h1 h2 hs1 kk
theorem kEM {host : String} (S : CallFix p m c cc nL s args zt own) (hT : tb D cI cZ s) (hP : va_P D vwCl ws H) (hD : va_D A ws) (hS : va_S A H0 H locs) (hM : Met l y [.code y bytes maxL ret] rm (PcW D cI cZ As wc) (QcE D ov post wf (zA wc)) 0 0 (zA wc)) (hs : st = As.reverse ++ rest) (hs1 : st1 = ov.toList ++ rest)
    (hw : mwS y bytes maxL ret As.length) (lk : Cond.methodLinkNest own index y host ∈ zt) (hR : zR rm R maxL cells slots) (is al : List Nat) (hn : va_nd is = true) (hi : is.map (fun i => ws[i]?) = wc.map some) (h1 : wc.map (·.1) = al) (h2 : ∀ u, (wf u).map (·.1) = al)
    (hsz : ls.size = nL) (hst : (rest.map fun v => v.category).sum ≤ 8) (hdg : decode cc pc = .ok (.invokestatic index, 3))
    (kk : ∀ (u : U) (H1 : Heap) (locs1 : List Loc), post u → va_P D vwCl (zmg ws is (wf u)) H1 → va_D A (zmg ws is (wf u)) → va_S A H0 H1 locs1 → W p l e R s m args below meth c H1 locs1 cells slots Q (F0 m (pc + 3) ls st1)) : W p l e R s m args below meth c H locs cells slots Q (F0 m pc ls st) :=
  zE0 (zM S hM hw lk hR (z_preW hT hP hD is hn hi) hsz hst hdg hs) hP hD hS is al hn hi h1 h2 hs1 kk
end ZD
/-- an array's contents are told up to its length -/
theorem z_cong {cA : ClassId} {n : Nat} {f g : Nat → Int32} (h : ∀ j, j < n → f j = g j) : vp_cell cA (n, .inl f) = vp_cell cA (n, .inl g) := by
  rw [vp_cell_i, vp_cell_i]
  have he : (Array.ofFn (n := n) fun j : Fin n => Value.int (f j.val)) = (Array.ofFn (n := n) fun j : Fin n => Value.int (g j.val)) := by
    congr 1
    funext j
    rw [h j.val j.isLt]
  show ({ cls := cA, slots := Array.ofFn (n := n) fun j : Fin n => Value.int (f j.val), vm := .none } : Cell) = _
  rw [he]
  rfl
theorem z_fun {D : va_G} {ws : va_W} {H : Heap} {k n : Nat} {a : Nat} {cA : ClassId} {f g : Nat → Int32} (hP : va_P D vwCl ws H) (hk : ws[k]? = some (a, .inl (cA, n, .inl f))) (h : ∀ j, j < n → f j = g j) : va_P D vwCl (ws.set k (a, .inl (cA, n, .inl g))) H := by
  intro j q hj
  by_cases hjk : j = k
  · subst hjk
    rw [List.getElem?_set_self (List.getElem?_eq_some_iff.mp hk).1] at hj
    cases hj
    show H[a]? = some (vp_cell _ _)
    rw [← z_cong h]
    exact hP j _ hk
  · rw [List.getElem?_set_ne (Ne.symm hjk)] at hj
    exact hP j q hj
section ZI
variable {p : Program} {l : Launch} {e : Env} {R : Room} {s : State} {m : MethodId} {args : Array Value} {below : List Frame} {meth : Method} {c : Code} {H : Heap} {locs : List Loc} {cells slots : Nat} {Q : State → Prop}
variable {cc : ByteArray} {pc : Nat} {ls : Array Slot} {rest : List Value} {D : va_G} {cl : List vw_C} {A : Nat → Prop} {a : Nat} {tys : List (ClassId × FieldType)} {ws : va_W} {H0 : Heap}
theorem zI {x y : Int32} (h : x = y) (k : W p l e R s m args below meth c H locs cells slots Q (F0 m pc ls (.int y :: rest))) : W p l e R s m args below meth c H locs cells slots Q (F0 m pc ls (.int x :: rest)) := h ▸ k
theorem zL {x y : Int64} (h : x = y) (k : W p l e R s m args below meth c H locs cells slots Q (F0 m pc ls (.long y :: rest))) : W p l e R s m args below meth c H locs cells slots Q (F0 m pc ls (.long x :: rest)) := h ▸ k
theorem zald (hexec : p.tables.exec = Jvm.exec) (hb : c.code = cc) (hK : va_K D cl tys s) (hP : va_P D cl ws H) (q0 t0 : Nat) {cA : ClassId} {n : Nat} {f : Nat → Int32} (ha : ws[q0]? = some (a, .inl (cA, n, .inl f))) (ht : tys[t0]? = some (cA, .int)) {k : Nat} (hk : k < n) (hn : n < 2 ^ 31) (hdg : decode cc pc = .ok (.iaload, 1))
    (kk : W p l e R s m args below meth c H locs cells slots Q (F0 m (pc + 1) ls (.int (f k) :: rest))) : W p l e R s m args below meth c H locs cells slots Q (F0 m pc ls (.int (nI k) :: .ref a :: rest)) := by
  refine va_iald hexec hb hK hP q0 t0 ha ht (vp_in_nI hk hn) hdg ?_
  rw [nI_clamp (Nat.lt_trans hk hn)]
  exact kk
theorem zast (hexec : p.tables.exec = Jvm.exec) (hb : c.code = cc) (hK : va_K D cl tys s) (hP : va_P D cl ws H) (hD : va_D A ws) (hS : va_S A H0 H locs) (q0 t0 : Nat) {cA : ClassId} {n : Nat} {f : Nat → Int32} (ha : ws[q0]? = some (a, .inl (cA, n, .inl f))) (ht : tys[t0]? = some (cA, .int)) {k : Nat} {x : Int32} (hk : k < n) (hn : n < 2 ^ 31) (hdg : decode cc pc = .ok (.iastore, 1))
    (kk : ∀ (H1 : Heap) (locs1 : List Loc), va_P D cl (ws.set q0 (a, .inl (cA, n, .inl (upd f k x)))) H1 → va_D A (ws.set q0 (a, .inl (cA, n, .inl (upd f k x)))) → va_S A H0 H1 locs1 → W p l e R s m args below meth c H1 locs1 cells slots Q (F0 m (pc + 1) ls rest)) : W p l e R s m args below meth c H locs cells slots Q (F0 m pc ls (.int x :: .int (nI k) :: .ref a :: rest)) := by
  refine va_iast hexec hb hK hP hD hS q0 t0 ha ht (vp_in_nI hk hn) hdg ?_
  rw [nI_clamp (Nat.lt_trans hk hn)]
  exact kk
end ZI
theorem zNle {a b : Nat} (h : nI a ≤ nI b) (ha : a < 2 ^ 31) (hb : b < 2 ^ 31) : a ≤ b := (nI_leI ha hb).mp h
theorem zNlt {a b : Nat} (h : nI a < nI b) (ha : a < 2 ^ 31) (hb : b < 2 ^ 31) : a < b := (nI_ltI ha hb).mp h
theorem zNnle {a b : Nat} (h : ¬ nI a ≤ nI b) (ha : a < 2 ^ 31) (hb : b < 2 ^ 31) : b < a := Nat.lt_of_not_le (fun q => h ((nI_leI ha hb).mpr q))
theorem zNnlt {a b : Nat} (h : ¬ nI a < nI b) (ha : a < 2 ^ 31) (hb : b < 2 ^ 31) : b ≤ a := Nat.le_of_not_lt (fun q => h ((nI_ltI ha hb).mpr q))
theorem zNeq {a b : Nat} (h : nI a = nI b) (ha : a < 2 ^ 31) (hb : b < 2 ^ 31) : a = b := (nI_eq ha hb).mp h
theorem zNne {a b : Nat} (h : ¬ nI a = nI b) (ha : a < 2 ^ 31) (hb : b < 2 ^ 31) : a ≠ b := fun q => h ((nI_eq ha hb).mpr q)
theorem zvin {i : Int32} {n : Nat} (h1 : ¬ i < 0) (h2 : ¬ nI n ≤ i) (hn : n < 2 ^ 31) : vp_in i n := by
  obtain ⟨j, hj, rfl⟩ := nI_of h1
  exact vp_in_nI (zNnle h2 hn hj) hn
theorem zpos1 {x : Int32} (h : ¬ x < 1) : ¬ x = 0 := fun e => h (by rw [e]; decide)
theorem zmin12 {q : Nat} (h : q ≤ 12) : (if 12 < nI q + 1 then (12 : Int32) else nI q + 1) = nI (min (q + 1) 12) := by
  have : ∀ q, q < 13 → (if 12 < nI q + 1 then (12 : Int32) else nI q + 1) = nI (min (q + 1) 12) := by decide
  exact this q (by omega)
theorem zpred {k : Nat} (h : 0 < k) : nI k + (-1) = nI (k - 1) := by
  obtain ⟨j, rfl⟩ : ∃ j, k = j + 1 := ⟨k - 1, by omega⟩
  rw [pk_m1, Nat.add_sub_cancel]
theorem zl0 {x : Int64} (h : ¬ lg_cmp x 0 = 0) : ¬ x = 0 := fun e => h ((lg_cmp_eq x 0).mpr e)
theorem zge1 {x : Int64} (h : 0 ≤ lg_cmp x 1) : ¬ x = 0 := fun e => by
  have := (lg_cmp_ge x 1).mp h
  rw [e] at this
  exact absurd this (by decide)
theorem znm6 {k : Nat} (h : k ≤ 60) : ¬ nI k = -6 := by
  have : ∀ k, k < 61 → ¬ nI k = -6 := by decide
  exact this k (by omega)
theorem zpred2 {k : Nat} (h : 0 < k) : nI k - 1 = nI (k - 1) := by
  obtain ⟨j, rfl⟩ : ∃ j, k = j + 1 := ⟨k - 1, by omega⟩
  rw [nI_pred, Nat.add_sub_cancel]
