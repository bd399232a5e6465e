/-! own rows: constructors -/
abbrev PcI (D : va_G) (cI cZ : ClassId) (av : List Value) (wc : va_W) (sz : Nat) (X : (Nat → Prop) → State → Prop) : Array Value → State → Prop := va_Pc av (fun U => U.heap.size = sz ∧ tb D cI cZ U ∧ va_P D vwCl wc U.heap ∧ va_D (fun _ => True) wc ∧ X (va_A wc sz) U)
abbrev QcI (D : va_G) {S : Type} (wf : S → va_W) (A : Nat → Prop) : Array Value → State → Outcome → State → Prop := fun _ st oc t => (oc = .returned none ∧ ∃ u : S, va_P D vwCl (wf u) t.heap ∧ va_D A (wf u)) ∧ va_F A st t
/-- nothing more is asked -/
def zX0 (_ : Nat → Prop) (_ : State) : Prop := True
/-- AT_FIRST lies at tF and is none of the cells that may change -/
def zXF (tF : Nat) (A : Nat → Prop) (U : State) : Prop := va_Z "SneezeRace" "AT_FIRST" "[I" (.ref tF) A U U.heap ∧ va_T .int tF 6 (fun j => .int (zcF j)) A U U.heap
theorem zXF_call {tF : Nat} {A : Nat → Prop} {U : State} {g : JFrame} {mk : MethodId} {a : Array Value} (h : zXF tF A U) : zXF tF A (U.calling g mk a) :=
  ⟨va_Z.moved (u := U) (U := U.calling g mk a) (Vm.Alike.refl U.vm) h.1, va_T.moved (u := U) (U := U.calling g mk a) (Vm.Alike.refl U.vm) h.2⟩
theorem mtI {l : Launch} {y : MethodName} {cc : ByteArray} {maxL : Nat} {rm : Room} {D : va_G} {cI cZ : ClassId} {av : List Value} {wc : va_W} {sz mc ms : Nat} {X : (Nat → Prop) → State → Prop} {S : Type} {wf : S → va_W} (hy : plainName y.cls = true) (hny : y.name = "<init>") (hlen : (lg_sl av).length ≤ maxL)
    (body : ∀ (p : Program) (e : Env) (s : State) (m : MethodId) (args : Array Value) (below : List Frame) (meth : Method) (c : Code) (Q : State → Prop) (A : Nat → Prop), CallFix p m c cc maxL s args zt y.cls → tb D cI cZ s → va_P D vwCl wc s.heap → va_D A wc → va_S A s.heap s.heap [] → (∀ q : Nat, s.heap.size ≤ q → A q) → meth.name = "<init>" → X A s →
      (∀ (pc : Nat) (ls : Array Slot) (H : Heap) (locs : List Loc) (u : S), decode cc pc = .ok (.return_, 1) → va_P D vwCl (wf u) H → va_D A (wf u) → va_S A s.heap H locs → W p l e rm s m args below meth c H locs mc ms Q (F0 m pc ls [])) →
      ∀ ls : Array Slot, lv_has ls maxL (lv_args 0 av) → W p l e rm s m args below meth c s.heap [] 0 0 Q (F0 m 0 ls [])) :
    Met l y [.code y cc maxL none] rm (PcI D cI cZ av wc sz X) (QcI D wf (va_A wc sz)) mc ms (va_A wc sz) := by
  refine Met.ofW (cc := cc) (maxL := maxL) (ret := none) hy rfl ?_
  intro p e s m args below meth c s₁ B hml hv
  obtain ⟨hargs, hsz, hT, hP, hD, hX⟩ := hv
  have hlocks := B.notSynchronized
  subst hsz
  rw [z_entry m hargs maxL]
  exact body p e s m args below meth c _ (va_A wc s.heap.size) ⟨B.exec, B.bytes, hml, findClass_of_methodNamed B.named, tb_hts hT args⟩ hT hP hD.self va_S.rf (fun q h => Or.inr h) ((name_of_methodNamed B.named B.method).1.trans hny) hX (fun pc ls H locs u hd hP1 hD1 hS =>
    W.vret B.exec B.bytes B.returns (fun t ht hW => ⟨⟨rfl, ⟨u, by rw [ht]; exact hP1, hD1⟩⟩, hS.F ht⟩) hS.2.2 hd) _ (lv_entry av (n := maxL) hlen)
def mwN (y : MethodName) (bytes : ByteArray) (maxL : Nat) : Prop :=
  y.name = "<init>" ∧ (y.cls ≠ "java/lang/invoke/MethodHandle" ∧ y.cls ≠ "java/lang/invoke/VarHandle" ∧ (parseMethodDescriptor y.desc).map (fun d => d.parameters.length) = some 0) ∧ Cond.instanceMethod y ∈ zt ∧ Cond.initialized y.cls ∈ zt ∧ Cond.code y bytes maxL none ∈ zt
section ZN
variable {p : Program} {l : Launch} {e : Env} {R : Room} {s : State} {m : MethodId} {args : Array Value} {below : List Frame} {meth : Method} {c : Code} {H : Heap} {locs : List Loc} {cells slots : Nat} {Q : State → Prop}
variable {cc bytes : ByteArray} {nL maxL index pc : Nat} {own : String} {y : MethodName} {rm : Room} {D : va_G} {cI cZ : ClassId} {rest : List Value} {ws pw : va_W} {ls : Array Slot} {A : Nat → Prop} {H0 : Heap} {U : Type} {wf : U → va_W} {mc ms : Nat} {X : (Nat → Prop) → State → Prop} {b : Nat} {e0 : va_E}
/-- a new array of ints -/
theorem znewa (S : CallFix p m c cc nL s args zt own) (hT : tb D cI cZ s) (hP : va_P D vwCl ws H) (hD : va_D A ws) (hS : va_S A H0 H locs) (hA : ∀ q : Nat, H0.size ≤ q → A q) {n : Int32} {N' : Nat} (hn : ¬ n < 0) (hN : n.toNatClampNeg = N') (hbytes : N' * componentBytes .int ≤ 536870912) (hcells : cells + 1 ≤ R.cells) (hslots : slots + N' ≤ R.slots) (hdg : decode cc pc = .ok (.newarray .int, 2))
    (kk : ∀ (q : Nat) (H1 : Heap), va_P D vwCl (ws ++ [(q, .inl (cI, N', .inl (fun _ => 0)))]) H1 → va_D A (ws ++ [(q, .inl (cI, N', .inl (fun _ => 0)))]) → va_S A H0 H1 locs → W p l e R s m args below meth c H1 locs (cells + 1) (slots + N') Q (F0 m (pc + 2) ls (.ref q :: rest))) : W p l e R s m args below meth c H locs cells slots Q (F0 m pc ls (.int n :: rest)) := by
  obtain ⟨hx, hb, hml, hown, hts⟩ := id S
  refine va_newa (D := D) (atype := .int) (ty := .int) (a0 := (N', .inl (fun _ => 0))) hx hb (hts _ ac_int) rfl hT.1 hP hD hS hA (fun cA => rfl) hn hN hbytes hcells hslots hdg (fun q cA H1 hK1 hP1 hD1 hS1 => ?_)
  have h0 := (hK1.2 0 _ rfl).2
  have h2 := (hK1.2 2 _ rfl).2
  have h3 : cA = cI := Option.some.inj ((show s.vm.findClass _ = some cA from h2).symm.trans (show s.vm.findClass _ = some cI from h0))
  subst h3
  exact kk q H1 hP1 hD1 hS1
/-- a new array of booleans -/
theorem znewz (S : CallFix p m c cc nL s args zt own) (hT : tb D cI cZ s) (hP : va_P D vwCl ws H) (hD : va_D A ws) (hS : va_S A H0 H locs) (hA : ∀ q : Nat, H0.size ≤ q → A q) {n : Int32} {N' : Nat} (hn : ¬ n < 0) (hN : n.toNatClampNeg = N') (hbytes : N' * componentBytes .boolean ≤ 536870912) (hcells : cells + 1 ≤ R.cells) (hslots : slots + N' ≤ R.slots) (hdg : decode cc pc = .ok (.newarray .boolean, 2))
    (kk : ∀ (q : Nat) (H1 : Heap), va_P D vwCl (ws ++ [(q, .inl (cZ, N', .inl (fun _ => 0)))]) H1 → va_D A (ws ++ [(q, .inl (cZ, N', .inl (fun _ => 0)))]) → va_S A H0 H1 locs → W p l e R s m args below meth c H1 locs (cells + 1) (slots + N') Q (F0 m (pc + 2) ls (.ref q :: rest))) : W p l e R s m args below meth c H locs cells slots Q (F0 m pc ls (.int n :: rest)) := by
  obtain ⟨hx, hb, hml, hown, hts⟩ := id S
  refine va_newa (D := D) (atype := .boolean) (ty := .boolean) (a0 := (N', .inl (fun _ => 0))) hx hb (hts _ ac_boolean) rfl hT.1 hP hD hS hA (fun cA => rfl) hn hN hbytes hcells hslots hdg (fun q cA H1 hK1 hP1 hD1 hS1 => ?_)
  have h0 := (hK1.2 1 _ rfl).2
  have h2 := (hK1.2 2 _ rfl).2
  have h3 : cA = cZ := Option.some.inj ((show s.vm.findClass _ = some cA from h2).symm.trans (show s.vm.findClass _ = some cZ from h0))
  subst h3
  exact kk q H1 hP1 hD1 hS1
theorem zN0 {a : Array Value} (hr : va_Run p l e R s m args below meth c H locs cells slots mc ms (F0 m pc ls (.ref b :: rest)) rest (QcI D wf (va_A [(b, e0)] H.size) a) (va_A [(b, e0)] H.size)) (hP : va_P D vwCl (pw ++ [(b, e0)]) H) (hD : va_D A (pw ++ [(b, e0)])) (hS : va_S A H0 H locs) (hA : ∀ q : Nat, H0.size ≤ q → A q)
    (kk : ∀ (u : U) (H1 : Heap) (locs1 : List Loc), va_P D vwCl (pw ++ wf u) H1 → va_D A (pw ++ wf u) → va_S A H0 H1 locs1 → W p l e R s m args below meth c H1 locs1 (cells + mc) (slots + ms) Q (F0 m (pc + 3) ls rest)) : W p l e R s m args below meth c H locs cells slots Q (F0 m pc ls (.ref b :: rest)) := by
  intro T hT X
  obtain ⟨v, st₀, t, T', L, h0, X', hL, e1, e2, ⟨⟨ho, u, hP1, hD1⟩, hz, hk⟩, stp⟩ := hr T hT X
  cases ho
  rw [h0] at hz hk
  have hlast : (pw ++ [(b, e0)])[pw.length]? = some (b, e0) := by simp
  have hin : ∀ q, va_A [(b, e0)] H.size q → A q := by
    intro q hq
    rcases hq with ⟨k, x, hq⟩ | hq
    · cases k with
      | zero => cases hq; exact hD.2 _ _ hlast
      | succ k => simp at hq
    · exact hA q (Nat.le_trans hS.1 hq)
  have hpw : ∀ (k : Nat) (q : Nat × va_E), pw[k]? = some q → (pw ++ [(b, e0)])[k]? = some q ∧ k < pw.length := by
    intro k q hq
    have hl := (List.getElem?_eq_some_iff.mp hq).1
    exact ⟨by rw [List.getElem?_append_left hl]; exact hq, hl⟩
  have apart : ∀ (k : Nat) (q : Nat × va_E), pw[k]? = some q → q.1 < H.size ∧ ¬ va_A [(b, e0)] H.size q.1 := by
    intro k q hq
    obtain ⟨h1, hl⟩ := hpw k q hq
    have hlt := (hP k q h1).lt
    refine ⟨hlt, fun h => ?_⟩
    rcases h with ⟨k2, x, h⟩ | h
    · cases k2 with
      | zero =>
        have h3 : (b, e0) = (q.1, x) := Option.some.inj h
        have h2 := hD.1 k pw.length q (b, e0) h1 hlast (congrArg Prod.fst h3).symm
        omega
      | succ k2 => simp at h
    · omega
  have m1 : va_P D vwCl (pw ++ wf u) t.heap := va_P.app (fun k q hq => (hP k q (hpw k q hq).1).kept (hk q.1 (apart k q hq).1 (apart k q hq).2)) hP1
  have m2 : va_D A (pw ++ wf u) := va_D.app ⟨fun i j x0 y0 hi hj => hD.1 i j x0 y0 (hpw i x0 hi).1 (hpw j y0 hj).1, fun k q h => hD.2 k q (hpw k q h).1⟩ (hD1.weaken (fun k q _ h => hin q.1 h)) (fun i j x0 y0 hx0 hy0 hxy => (apart i x0 hx0).2 (by rw [hxy]; exact hD1.2 j y0 hy0))
  obtain ⟨t2, a1, b1⟩ := kk u t.heap (locs ++ L) m1 m2 ⟨Nat.le_trans hS.1 hz, fun q h1 h2 => by
      rw [hk q (Nat.lt_of_lt_of_le h1 hS.1) (fun z => h2 (hin q z))]; exact hS.2.1 q h1 h2, fun q hq => by
      rcases List.mem_append.mp hq with h | h
      · exact hS.2.2 q h
      · exact hin _ (hL q h)⟩ T' e1 X'
  exact ⟨t2, stp t2 a1, b1⟩
theorem z_preI (hT : tb D cI cZ s) (hP : va_P D vwCl (pw ++ [(b, e0)]) H) (hXc : ∀ (B : Nat → Prop) (V : State) (g : JFrame) (mk : MethodId) (a : Array Value), X B V → X B (V.calling g mk a)) (hX : ∀ V : State, V.heap = H → s.WarmedH V.vm → X (va_A [(b, e0)] H.size) V) : PreS s H (PcI D cI cZ [.ref b] [(b, e0)] H.size X) [.ref b] := by
  refine ⟨fun _ V g mk q => ⟨q.1, q.2.1, tb_call q.2.2.1, q.2.2.2.1, q.2.2.2.2.1, hXc _ V g mk _ q.2.2.2.2.2⟩, fun V hV hW => ⟨rfl, by rw [hV], tb_warm hW hT, ?_, ⟨fun i j x0 y0 hi hj _ => ?_, fun _ _ _ => trivial⟩, hX V hV hW⟩⟩
  · rw [hV]
    intro k q hq
    cases k with
    | zero => cases hq; exact hP pw.length (b, e0) (by simp)
    | succ k => simp at hq
  · cases i with
    | zero => cases j with
      | zero => rfl
      | succ j => simp at hj
    | succ i => simp at hi
theorem kNI (S : CallFix p m c cc nL s args zt own) (hT : tb D cI cZ s) (hP : va_P D vwCl (pw ++ [(b, e0)]) H) (hD : va_D A (pw ++ [(b, e0)])) (hS : va_S A H0 H locs) (hA : ∀ q : Nat, H0.size ≤ q → A q)
    (hM : Met l y [.code y bytes maxL none] rm (PcI D cI cZ [.ref b] [(b, e0)] H.size X) (QcI D wf (va_A [(b, e0)] H.size)) mc ms (va_A [(b, e0)] H.size)) (hw : mwN y bytes maxL) (lk : Cond.methodLink own index y ∈ zt)
    (hR : rm.cells = mc ∧ rm.slots = ms ∧ rm.frames + 1 ≤ R.frames ∧ 8 + (maxL + 11) + rm.locals ≤ R.locals ∧ cells + mc ≤ R.cells ∧ slots + ms ≤ R.slots)
    (hXc : ∀ (B : Nat → Prop) (V : State) (g : JFrame) (mk : MethodId) (a : Array Value), X B V → X B (V.calling g mk a)) (hX : ∀ V : State, V.heap = H → s.WarmedH V.vm → X (va_A [(b, e0)] H.size) V)
    (hsz : ls.size = nL) (hst : (rest.map fun v => v.category).sum ≤ 8) (hdg : decode cc pc = .ok (.invokespecial index, 3))
    (kk : ∀ (u : U) (H1 : Heap) (locs1 : List Loc), va_P D vwCl (pw ++ wf u) H1 → va_D A (pw ++ wf u) → va_S A H0 H1 locs1 → W p l e R s m args below meth c H1 locs1 (cells + mc) (slots + ms) Q (F0 m (pc + 3) ls rest)) : W p l e R s m args below meth c H locs cells slots Q (F0 m pc ls (.ref b :: rest)) := by
  obtain ⟨hnm, hd, h1, h3, h4⟩ := hw
  obtain ⟨r1, r2, r3, r4, r5, r6⟩ := hR
  have hts := S.2.2.2.2
  exact zN0 (va_runI (As := []) (rest := rest) S hM (cwI 0 hts (zq_code y bytes maxL none h4) rfl r1 r2 (hts _ h3) (hts _ lk) (hts _ h1) hnm hd ⟨r3, r4⟩) (z_preI hT hP hXc hX) rfl rfl hsz rfl (lv_room hst) hdg ⟨r5, r6⟩) hP hD hS hA kk
theorem kNN {host : String} (S : CallFix p m c cc nL s args zt own) (hT : tb D cI cZ s) (hP : va_P D vwCl (pw ++ [(b, e0)]) H) (hD : va_D A (pw ++ [(b, e0)])) (hS : va_S A H0 H locs) (hA : ∀ q : Nat, H0.size ≤ q → A q)
    (hM : Met l y [.code y bytes maxL none] rm (PcI D cI cZ [.ref b] [(b, e0)] H.size X) (QcI D wf (va_A [(b, e0)] H.size)) mc ms (va_A [(b, e0)] H.size)) (hw : mwN y bytes maxL) (lk : Cond.methodLinkNest own index y host ∈ zt)
    (hR : rm.cells = mc ∧ rm.slots = ms ∧ rm.frames + 1 ≤ R.frames ∧ 8 + (maxL + 11) + rm.locals ≤ R.locals ∧ cells + mc ≤ R.cells ∧ slots + ms ≤ R.slots)
    (hXc : ∀ (B : Nat → Prop) (V : State) (g : JFrame) (mk : MethodId) (a : Array Value), X B V → X B (V.calling g mk a)) (hX : ∀ V : State, V.heap = H → s.WarmedH V.vm → X (va_A [(b, e0)] H.size) V)
    (hsz : ls.size = nL) (hst : (rest.map fun v => v.category).sum ≤ 8) (hdg : decode cc pc = .ok (.invokespecial index, 3))
    (kk : ∀ (u : U) (H1 : Heap) (locs1 : List Loc), va_P D vwCl (pw ++ wf u) H1 → va_D A (pw ++ wf u) → va_S A H0 H1 locs1 → W p l e R s m args below meth c H1 locs1 (cells + mc) (slots + ms) Q (F0 m (pc + 3) ls rest)) : W p l e R s m args below meth c H locs cells slots Q (F0 m pc ls (.ref b :: rest)) := by
  obtain ⟨hnm, hd, h1, h3, h4⟩ := hw
  obtain ⟨r1, r2, r3, r4, r5, r6⟩ := hR
  have hts := S.2.2.2.2
  exact zN0 (va_runIN (As := []) (rest := rest) S hM ⟨va_cnB (host := host) 0 hts (zq_code y bytes maxL none h4) rfl r1 r2 (va_Nw.of rfl (hts _ lk)) (hts _ h3) hd ⟨r3, r4⟩, hnm, hts _ h1⟩ (z_preI hT hP hXc hX) rfl rfl hsz rfl (lv_room hst) hdg ⟨r5, r6⟩) hP hD hS hA kk
end ZN
/-- the statics are still there behind what the caller has done, and out of the callee's reach -/
theorem zXF_at {tF : Nat} {A : Nat → Prop} {s V : State} {H : Heap} {locs : List Loc} {b : Nat} {e0 : va_E} {pw : va_W} (hX : zXF tF A s) (hS : va_S A s.heap H locs) (hA : ∀ q : Nat, s.heap.size ≤ q → A q) (hD : va_D A (pw ++ [(b, e0)])) (hV : V.heap = H) (hW : s.WarmedH V.vm) : zXF tF (va_A [(b, e0)] H.size) V := by
  have hin : ∀ q, va_A [(b, e0)] H.size q → A q := by
    intro q hq
    rcases hq with ⟨k, x, hq⟩ | hq
    · cases k with
      | zero => cases hq; exact hD.2 pw.length (b, e0) (by simp)
      | succ k => simp at hq
    · exact hA q (Nat.le_trans hS.1 hq)
  unfold zXF
  rw [hV]
  exact ⟨va_Z.moved hW.alike ((hX.1.kept hS.2.1).narrow hin), va_T.moved hW.alike ((hX.2.kept hS.2.1).narrow hin)⟩
