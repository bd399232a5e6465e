/-! own rows: contracts with one thing more asked of the start (static arrays), and reads of a static array -/
abbrev PcX (D : va_G) (cI cZ : ClassId) (av : List Value) (wc : va_W) (X : State → Prop) : Array Value → State → Prop := va_Pc av (fun U => tb D cI cZ U ∧ va_P D vwCl wc U.heap ∧ va_D (fun _ => True) wc ∧ X U)
theorem mtXi {l : Launch} {y : MethodName} {cc : ByteArray} {maxL : Nat} {rm : Room} {D : va_G} {cI cZ : ClassId} {av : List Value} {wc : va_W} {X : State → Prop} {S : Type} {post : S → Prop} {wf : S → va_W} {v : Int32} (hy : plainName y.cls = true) (hlen : (lg_sl av).length ≤ maxL)
    (body : ∀ (p : Program) (e : Env) (s : State) (m : MethodId) (args : Array Value) (below : List Frame) (meth : Method) (c : Code) (Q : State → Prop) (A : Nat → Prop), CallFix p m c cc maxL s args zt y.cls → tb D cI cZ s → va_P D vwCl wc s.heap → va_D A wc → va_S A s.heap s.heap [] → X s →
      (∀ (pc : Nat) (ls : Array Slot) (x : Int32) (H : Heap) (locs : List Loc) (u : S), decode cc pc = .ok (.ireturn, 1) → x = v → post u → va_P D vwCl (wf u) H → va_S A s.heap H locs → W p l e rm s m args below meth c H locs 0 0 Q (F0 m pc ls [.int x])) →
      ∀ ls : Array Slot, lv_has ls maxL (lv_args 0 av) → W p l e rm s m args below meth c s.heap [] 0 0 Q (F0 m 0 ls [])) :
    Met l y [.code y cc maxL (some .int)] rm (PcX D cI cZ av wc X) (QcE D (some (.int v)) post wf (zA wc)) 0 0 (zA wc) := by
  refine Met.ofW (cc := cc) (maxL := maxL) (ret := some .int) hy rfl ?_
  intro p e s m args below meth c s₁ B hml hv
  obtain ⟨hargs, hT, hP, hD, hX⟩ := hv
  have hlocks := B.notSynchronized
  rw [z_entry m hargs maxL]
  exact body p e s m args below meth c _ (zA wc) ⟨B.exec, B.bytes, hml, findClass_of_methodNamed B.named, tb_hts hT args⟩ hT hP ⟨hD.1, fun k q h => ⟨k, q.2, h⟩⟩ va_S.rf hX (fun pc ls x H locs u hd hxv hu hP1 hS => by
    subst hxv
    exact W.iret B.exec B.bytes B.returns (fun t ht hW => ⟨rfl, ⟨u, hu, by rw [ht]; exact hP1⟩, hS.F ht⟩) hS.2.2 hd) _ (lv_entry av (n := maxL) hlen)
/-- a static array of ints that nobody writes: as the start has it -/
abbrev zTab (t n : Nat) (f : Nat → Int32) (U : State) (H : Heap) : Prop := va_T .int t n (fun j => .int (f j)) (fun _ => False) U H
abbrev PcT (D : va_G) (cI cZ : ClassId) (av : List Value) (t n : Nat) (f : Nat → Int32) : Array Value → State → Prop := va_Pc av (fun U => tb D cI cZ U ∧ zTab t n f U U.heap)
theorem mtTi {l : Launch} {y : MethodName} {cc : ByteArray} {maxL : Nat} {rm : Room} {D : va_G} {cI cZ : ClassId} {av : List Value} {t n : Nat} {f : Nat → Int32} {v : Int32} (hy : plainName y.cls = true) (hlen : (lg_sl av).length ≤ maxL)
    (body : ∀ (p : Program) (e : Env) (s : State) (m : MethodId) (args : Array Value) (below : List Frame) (meth : Method) (c : Code) (Q : State → Prop), CallFix p m c cc maxL s args zt y.cls → tb D cI cZ s → zTab t n f s s.heap →
      (∀ (pc : Nat) (ls : Array Slot) (x : Int32), decode cc pc = .ok (.ireturn, 1) → x = v → W p l e rm s m args below meth c s.heap [] 0 0 Q (F0 m pc ls [.int x])) →
      ∀ ls : Array Slot, lv_has ls maxL (lv_args 0 av) → W p l e rm s m args below meth c s.heap [] 0 0 Q (F0 m 0 ls [])) :
    Met l y [.code y cc maxL (some .int)] rm (PcT D cI cZ av t n f) (QcR (some (.int v))) 0 0 zN := by
  refine Met.ofW (cc := cc) (maxL := maxL) (ret := some .int) hy rfl ?_
  intro p e s m args below meth c s₁ B hml hv
  obtain ⟨hargs, hT, hX⟩ := hv
  have hlocks := B.notSynchronized
  rw [z_entry m hargs maxL]
  exact body p e s m args below meth c _ ⟨B.exec, B.bytes, hml, findClass_of_methodNamed B.named, tb_hts hT args⟩ hT hX (fun pc ls x hd hxv => by
    subst hxv
    exact W.iret B.exec B.bytes B.returns (fun t ht hW => ⟨rfl, ht⟩) (fun q h => by cases h) hd) _ (lv_entry av (n := maxL) hlen)
section ZT
variable {p : Program} {l : Launch} {e : Env} {R : Room} {s : State} {m : MethodId} {args : Array Value} {below : List Frame} {meth : Method} {c : Code} {H : Heap} {locs : List Loc} {cells slots : Nat} {Q : State → Prop}
variable {cc bytes : ByteArray} {nL maxL index pc : Nat} {own C : String} {y : MethodName} {ret : Option FieldType} {rm : Room} {D : va_G} {cI cZ : ClassId} {As rest st st1 : List Value} {ov : Option Value} {ls : Array Slot} {t n : Nat} {f : Nat → Int32}
theorem z_preT (hT : tb D cI cZ s) (hX : zTab t n f s H) : PreS s H (PcT D cI cZ As t n f) As :=
  ⟨fun _ U _ _ q => ⟨q.1, tb_call q.2.1, va_T.moved (u := U) (Vm.Alike.refl U.vm) q.2.2⟩, fun U hU hW => ⟨rfl, tb_warm hW hT, by rw [hU]; exact va_T.moved hW.alike hX⟩⟩
theorem kTS (S : CallFix p m c cc nL s args zt own) (hT : tb D cI cZ s) (hX : zTab t n f s H) (hM : Met l y [.code y bytes maxL ret] rm (PcT D cI cZ As t n f) (QcR ov) 0 0 zN) (hs : st = As.reverse ++ rest) (hs1 : st1 = ov.toList ++ rest)
    (hw : mwS y bytes maxL ret As.length) (lk : Cond.methodLink own index y ∈ zt) (hR : zR rm R maxL cells slots)
    (hsz : ls.size = nL) (hst : (rest.map fun v => v.category).sum ≤ 8) (hdg : decode cc pc = .ok (.invokestatic index, 3))
    (kk : W p l e R s m args below meth c H locs cells slots Q (F0 m (pc + 3) ls st1)) : W p l e R s m args below meth c H locs cells slots Q (F0 m pc ls st) :=
  zR0 (zS S hM hw lk hR (z_preT hT hX) hsz hst hdg hs) hs1 kk
end ZT
/-- the class's three static arrays -/
def zcL (j : Nat) : Int32 := if j = 3 ∨ j = 5 then 1 else 0
def zcG (j : Nat) : Int32 := if j = 0 then 40 else if j = 1 then 99 else if j = 2 ∨ j = 4 then 9 else 20
def zcF (j : Nat) : Int32 := if j = 0 ∨ j = 3 then 10 else if j = 1 then 50 else if j = 2 then 1 else if j = 4 then 3 else 5
abbrev zZ (n : String) (t : Nat) (U : State) (H : Heap) : Prop := va_Z "SneezeRace" n "[I" (.ref t) (fun _ => False) U H
def zST (tL tG tF : Nat) (U : State) : Prop := (zZ "LEAST" tL U U.heap ∧ zTab tL 6 zcL U U.heap) ∧ (zZ "GREATEST" tG U U.heap ∧ zTab tG 6 zcG U U.heap) ∧ (zZ "AT_FIRST" tF U U.heap ∧ zTab tF 6 zcF U U.heap)
