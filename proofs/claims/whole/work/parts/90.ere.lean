/-! what each call leaves of the numbers' limits -/
theorem zI_wind {ea la : Nat → Int32} (hh lt v : Int32) (he : zwb ea) (hl : zwb la) : zwb (s_X9_wind_ea ea hh lt v) ∧ zwb (s_X9_wind_la la hh lt v) := by
  unfold s_X9_wind_ea s_X9_wind_la
  rw [zwi (a := hh) (lo := 0) (hi := 4) (l := 0) (h := 4) (by decide) (by decide), zwi (a := lt) (lo := 0) (hi := 1) (l := 0) (h := 1) (by decide) (by decide), zwi (a := v) (lo := -9) (hi := 9) (l := -9) (h := 9) (by decide) (by decide)]
  by_cases a : s_X8_within hh 0 4 = 0
  · rw [if_pos a, if_pos a]; exact ⟨he, hl⟩
  · by_cases b : s_X8_within lt 0 1 = 0
    · rw [if_neg a, if_neg a, if_pos b, if_pos b]; exact ⟨he, hl⟩
    · by_cases c : s_X8_within v (-9) 9 = 0
      · rw [if_neg a, if_neg a, if_neg b, if_neg b, if_pos c, if_pos c]; exact ⟨he, hl⟩
      · rw [if_neg a, if_neg a, if_neg b, if_neg b, if_neg c, if_neg c]
        obtain ⟨k, h1, h2, rfl⟩ := zwr (a := 0) (b := 4) a (by decide) (by decide)
        have hv := zwint (a := -9) (b := 9) c (by decide) (by decide)
        rw [nI_clamp (by omega)]
        constructor
        · intro j hj
          by_cases e : j = k
          · rw [e, pk_us]
            by_cases g : lt = 0
            · rw [if_pos g]; exact hv
            · rw [if_neg g]; exact he k (by omega)
          · rw [pk_un e]; exact he j hj
        · by_cases g : lt = 1
          · rw [if_pos g]
            intro j hj
            by_cases e : j = k
            · rw [e, pk_us]; exact hv
            · rw [pk_un e]; exact hl j hj
          · rw [if_neg g]
            intro j hj
            rw [zupd_id]
            exact hl j hj
theorem zI_set {tu ga lk stp dbt win : Int32} (wh v : Int32) (h : zNm ga lk stp dbt win) : zNm (s_X9_set_ga ga wh v) (s_X9_set_lk lk wh v) (s_X9_set_stp stp wh v) (s_X9_set_dbt dbt wh v) (s_X9_set_win win wh v) := by
  unfold s_X9_set_ga s_X9_set_lk s_X9_set_stp s_X9_set_dbt s_X9_set_win
  simp only [zwi05, zwi (a := v) (lo := ((if wh = 3 then 1 else (if wh = 5 then 1 else 0)) : Int32)) (hi := ((if wh = 0 then 40 else (if wh = 1 then 99 else (if wh = 2 then 9 else (if wh = 4 then 9 else 20)))) : Int32)) rfl rfl]
  by_cases c : s_X8_within wh 0 5 = 0
  · simp only [if_pos c]; exact h
  · simp only [if_neg c]
    obtain ⟨i, hi, rfl⟩ := zw05_of c
    by_cases c2 : s_X8_within v ((if nI i = 3 then 1 else (if nI i = 5 then 1 else 0)) : Int32) ((if nI i = 0 then 40 else (if nI i = 1 then 99 else (if nI i = 2 then 9 else (if nI i = 4 then 9 else 20)))) : Int32) = 0
    · simp only [if_pos c2]; exact h
    · simp only [if_neg c2]
      have hv := zw_of c2
      obtain ⟨h1, h2, h3, h4, h5⟩ := h
      rcases (show i = 0 ∨ i = 1 ∨ i = 2 ∨ i = 3 ∨ i = 4 ∨ i = 5 by omega) with rfl | rfl | rfl | rfl | rfl | rfl
      · exact ⟨h1, h2, h3, h4, h5⟩
      · exact ⟨hv.1, h2, h3, h4, h5⟩
      · exact ⟨h1, hv.1, h3, h4, h5⟩
      · exact ⟨h1, h2, hv.1, h4, h5⟩
      · refine ⟨h1, h2, h3, ?_, h5⟩
        have hv2 : v ≤ 9 := hv.2
        have hv1 : (0 : Int32) ≤ v := hv.1
        obtain ⟨k, k1, k2⟩ := nI_of (x := v) (Int32.not_lt.mpr hv1)
        rw [k2] at hv2
        have := zNle (b := 9) hv2 k1 (by decide)
        exact ⟨k, by omega, k2⟩
      · refine ⟨h1, h2, h3, h4, ?_⟩
        have hv2 : v ≤ 20 := hv.2
        have hv1 : (1 : Int32) ≤ v := hv.1
        obtain ⟨k, k1, k2⟩ := nI_of (x := v) (Int32.not_lt.mpr (Int32.le_trans (by decide) hv1))
        rw [k2] at hv1 hv2
        have e1 := zNle (a := 1) hv1 (by decide) k1
        have e2 := zNle (b := 20) hv2 k1 (by decide)
        exact ⟨k, ⟨e1, e2⟩, k2⟩
theorem zI_fell {sn : Nat} {mT mP : Nat → Int32} (t pl : Int32) (h6 : sn ≤ 6) (h : zsg sn mT mP) : s_X9_fell_sn sn t pl ≤ 6 ∧ zsg (s_X9_fell_sn sn t pl) (s_X9_fell_mT sn mT t pl) (s_X9_fell_mP sn mP t pl) := by
  unfold s_X9_fell_sn s_X9_fell_mT s_X9_fell_mP
  rw [zwi05, zwi (a := pl) (lo := -600) (hi := 600) (l := -600) (h := 600) (by decide) (by decide)]
  by_cases a : s_X8_within t 0 5 = 0
  · rw [if_pos a, if_pos a, if_pos a]; exact ⟨h6, h⟩
  · by_cases b : s_X8_within pl (-600) 600 = 0
    · rw [if_neg a, if_neg a, if_neg a, if_pos b, if_pos b, if_pos b]; exact ⟨h6, h⟩
    · rw [if_neg a, if_neg a, if_neg a, if_neg b, if_neg b, if_neg b]
      by_cases c : nI sn = 6
      · rw [if_pos c, if_pos c, if_pos c]; exact ⟨h6, h⟩
      · have hs : sn ≠ 6 := zNne (b := 6) c (by omega) (by decide)
        obtain ⟨k, hk, rfl⟩ := zw05_of a
        have hp := zwint (a := -600) (b := 600) b (by decide) (by decide)
        rw [if_neg c, if_neg c, if_neg c]
        refine ⟨by omega, fun j hj => ?_⟩
        by_cases e : j = sn
        · rw [e, pk_us, pk_us]; exact ⟨⟨k, hk, rfl⟩, hp⟩
        · rw [pk_un e, pk_un e]; exact h j (by omega)
theorem zsg_vp {sn : Nat} {mT mP : Nat → Int32} (h : zsg sn mT mP) : ∀ j, j < sn → vp_in (mT j) 6 := fun j hj => by
  obtain ⟨t, ht, e⟩ := (h j hj).1
  rw [e]
  exact vp_in_nI ht (by decide)
/-! own rows for the law: a call that asks for the static rows, the statics at the law's start -/
def zSA (tL tG tF : Nat) (A : Nat → Prop) (U : State) (H : Heap) : Prop := (va_Z "SneezeRace" "LEAST" "[I" (.ref tL) A U H ∧ va_T .int tL 6 (fun j => .int (zcL j)) A U H) ∧ (va_Z "SneezeRace" "GREATEST" "[I" (.ref tG) A U H ∧ va_T .int tG 6 (fun j => .int (zcG j)) A U H) ∧ (va_Z "SneezeRace" "AT_FIRST" "[I" (.ref tF) A U H ∧ va_T .int tF 6 (fun j => .int (zcF j)) A U H)
theorem zSA_at {tL tG tF : Nat} {A : Nat → Prop} {s V : State} {H : Heap} {locs : List Loc} (hZ : zSA tL tG tF A s s.heap) (hS : va_S A s.heap H locs) (hV : V.heap = H) (hW : s.WarmedH V.vm) : zST tL tG tF V := by
  have hn : ∀ q : Nat, (fun _ : Nat => False) q → A q := fun q h => h.elim
  obtain ⟨⟨a1, a2⟩, ⟨b1, b2⟩, c1, c2⟩ := hZ
  unfold zST
  rw [hV]
  exact ⟨⟨va_Z.moved hW.alike ((a1.kept hS.2.1).narrow hn), va_T.moved hW.alike ((a2.kept hS.2.1).narrow hn)⟩, ⟨va_Z.moved hW.alike ((b1.kept hS.2.1).narrow hn), va_T.moved hW.alike ((b2.kept hS.2.1).narrow hn)⟩, va_Z.moved hW.alike ((c1.kept hS.2.1).narrow hn), va_T.moved hW.alike ((c2.kept hS.2.1).narrow hn)⟩
theorem zST_call {tL tG tF : Nat} {U : State} {g : JFrame} {mk : MethodId} {a : Array Value} (h : zST tL tG tF U) : zST tL tG tF (U.calling g mk a) := by
  obtain ⟨⟨a1, a2⟩, ⟨b1, b2⟩, c1, c2⟩ := h
  exact ⟨⟨va_Z.moved (u := U) (U := U.calling g mk a) (Vm.Alike.refl U.vm) a1, va_T.moved (u := U) (U := U.calling g mk a) (Vm.Alike.refl U.vm) a2⟩, ⟨va_Z.moved (u := U) (U := U.calling g mk a) (Vm.Alike.refl U.vm) b1, va_T.moved (u := U) (U := U.calling g mk a) (Vm.Alike.refl U.vm) b2⟩, va_Z.moved (u := U) (U := U.calling g mk a) (Vm.Alike.refl U.vm) c1, va_T.moved (u := U) (U := U.calling g mk a) (Vm.Alike.refl U.vm) c2⟩
section ZX
variable {p : Program} {l : Launch} {e : Env} {R : Room} {s : State} {m : MethodId} {args : Array Value} {below : List Frame} {meth : Method} {c : Code} {H : Heap} {locs : List Loc} {cells slots : Nat} {Q : State → Prop}
variable {cc bytes : ByteArray} {nL maxL index pc : Nat} {own C : String} {y : MethodName} {ret : Option FieldType} {rm : Room} {D : va_G} {cI cZ : ClassId} {As rest st st1 : List Value} {b : Addr} {wc ws : va_W} {ov : Option Value} {ls : Array Slot} {A : Nat → Prop} {H0 : Heap} {U : Type} {post : U → Prop} {wf : U → va_W}
theorem kXV {ci N q0 : Nat} {T : u_T} {fs : List Value} {X : State → Prop} (S : CallFix p m c cc nL s args zt own) (hT : tb D cI cZ s) (hP : va_P D vwCl ws H) (hD : va_D A ws) (hS : va_S A H0 H locs) (hM : Met l y [.code y bytes maxL ret] rm (PcX D cI cZ (.ref b :: As) wc X) (QcE D ov post wf (zA wc)) 0 0 (zA wc))
    (hXc : ∀ (V : State) (g : JFrame) (mk : MethodId) (a : Array Value), X V → X (V.calling g mk a)) (hX : ∀ V : State, V.heap = H → s.WarmedH V.vm → X V) (hs : st = As.reverse ++ .ref b :: rest) (hs1 : st1 = ov.toList ++ rest)
    (hw : mwI C y bytes maxL ret As.length) (lk : Cond.methodLink own index y ∈ zt) (hR : zR rm R maxL cells slots) (is al : List Nat) (hn : va_nd is = true) (hi : is.map (fun i => ws[i]?) = wc.map some) (h1 : wc.map (·.1) = al) (h2 : ∀ u, (wf u).map (·.1) = al)
    (he : ws[q0]? = some (b, .inr (ci, fs))) (hc : vwCl[ci]? = some (C, T, N)) (hsz : ls.size = nL) (hst : (rest.map fun v => v.category).sum ≤ 8) (hdg : decode cc pc = .ok (.invokevirtual index, 3))
    (kk : ∀ (u : U) (H1 : Heap) (locs1 : List Loc), post u → va_P D vwCl (zmg ws is (wf u)) H1 → va_D A (zmg ws is (wf u)) → va_S A H0 H1 locs1 → W p l e R s m args below meth c H1 locs1 cells slots Q (F0 m (pc + 3) ls st1)) : W p l e R s m args below meth c H locs cells slots Q (F0 m pc ls st) := by
  have hp := z_preW (As := .ref b :: As) hT hP hD is hn hi
  have hpx : PreS s H (PcX D cI cZ (.ref b :: As) wc X) (.ref b :: As) := ⟨fun v V g mk q => ⟨q.1, tb_call q.2.1, q.2.2.1, q.2.2.2.1, hXc V g mk _ q.2.2.2.2⟩, fun V hV hW => ⟨(hp.2 V hV hW).1, (hp.2 V hV hW).2.1, (hp.2 V hV hW).2.2.1, (hp.2 V hV hW).2.2.2, hX V hV hW⟩⟩
  exact zE0 (zV S hM hw lk hR ⟨hpx.1, z_recv hT hP he hc, hpx.2⟩ hsz hst hdg hs) hP hD hS is al hn hi h1 h2 hs1 kk
end ZX
def R_law : String := "SneezeRaceLaw"
def lw_P (b : Addr) (xs : List Int32) (args : Array Value) (s : State) : Prop := args = #[.ref b] ∧ s.IntsAt b xs ∧ xs.length ≤ 320 ∧ (Jvm.Cond.and given_1 narrow_1).before args s = true
def lw_Q (_ : Array Value) (s : State) (o : Outcome) (t : State) : Prop := o = .returned (some (.int 1)) ∧ Framed s o t [] 600000 7302250
def lw_Z (below : List Frame) (a : Array Value) (s : State) : State → Prop := fun t => ∃ o, t.status = .running ∧ Ended t below o ∧ lw_Q a s o t
/-- the law's own end, with 1 on the stack, nothing written that was there before, its room as the claim has it -/
theorem lw_ret {p : Program} {l : Launch} {e : Env} {s : State} {m : MethodId} {below : List Frame} {meth : Method} {c : Code} {b : Nat} (hx : p.tables.exec = Jvm.exec) (hb : c.code = code) (hr : meth.sig.returnType = ret) (hlocks : meth.locks = false) {pc : Nat} {H : Heap} {ls : Array Slot} (hdg : decode code pc = .ok (.ireturn, 1)) : W p l e room_1 s m #[Value.ref b] below meth c H [] 600000 7302250 (lw_Z below #[Value.ref b] s) (F0 m pc ls [.int 1]) := by
  intro T hT X
  obtain ⟨fs, hret, hrun, hended, hW, hframe⟩ := X.leave (v := some (.int 1)) (hlocks := hlocks) (fun h => by rw [hr] at h; cases h)
  have hmeth' : T.vm.method? m = some meth := X.method'
  refine ⟨T.setFrames fs, ?_, .returned (some (.int 1)), hrun, hended, rfl, ⟨_, rfl⟩, hW, hframe⟩
  jvm_step X.here [X.here.top, hx, hb, hdg, hmeth', hr, ret, narrow_b1]
  (try refine ⟨rfl, ?_⟩); (try refine ⟨rfl, ?_⟩)
  first | (intro acts; rw [hret _ acts rfl rfl rfl]) | rw [hret _ _ rfl rfl rfl]
  exact Steps.refl _
/-- what holds at the law's entry: the machine, the code, the tables' words (any of lw_tbl by 'hts w (by decide +kernel)'), the script of L ints xs at the cell b, what the Statement gives of the start (any of its parts by flat_of_before) -/
def lw_At (p : Program) (s : State) (m : MethodId) (meth : Method) (c : Code) (b L : Nat) (xs : Nat → Int32) : Prop :=
  p.tables.exec = Jvm.exec ∧ c.code = code ∧ meth.sig.returnType = ret ∧ c.maxLocals = 4 ∧ s.vm.findClass R_law = some m.cls ∧ (∀ w ∈ lw_tbl, w.before #[Value.ref b] s = true) ∧ va_X b L xs s s.heap ∧ b < s.heap.size ∧ meth.locks = false ∧ (Jvm.Cond.and given_1 narrow_1).before #[Value.ref b] s = true
