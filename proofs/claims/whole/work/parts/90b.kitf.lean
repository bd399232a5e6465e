/-! own rows: a call beside a frame of cells that it doesn't touch; that cells are apart is told by their places alone -/
def zDa (A : Nat → Prop) (al : List Nat) : Prop := (∀ (i j : Nat) (a : Nat), al[i]? = some a → al[j]? = some a → i = j) ∧ ∀ (i : Nat) (a : Nat), al[i]? = some a → A a
theorem zDa_of {A : Nat → Prop} {ws : va_W} (h : va_D A ws) : zDa A (ws.map (·.1)) := by
  refine ⟨fun i j a hi hj => ?_, fun i a hi => ?_⟩
  · rw [List.getElem?_map] at hi hj
    cases e1 : ws[i]? with
    | none => rw [e1] at hi; cases hi
    | some q1 =>
      cases e2 : ws[j]? with
      | none => rw [e2] at hj; cases hj
      | some q2 =>
        rw [e1] at hi; rw [e2] at hj
        exact h.1 i j q1 q2 e1 e2 ((Option.some.inj hi).trans (Option.some.inj hj).symm)
  · rw [List.getElem?_map] at hi
    cases e1 : ws[i]? with
    | none => rw [e1] at hi; cases hi
    | some q1 => rw [e1] at hi; rw [← Option.some.inj hi]; exact h.2 i q1 e1
theorem zDa_to {A : Nat → Prop} {ws : va_W} {al : List Nat} (h : zDa A al) (e : ws.map (·.1) = al) : va_D A ws := by
  subst e
  refine ⟨fun i j q1 q2 hi hj hq => h.1 i j q1.1 (by rw [List.getElem?_map, hi]; rfl) (by rw [List.getElem?_map, hj, hq]; rfl), fun k q hk => h.2 k q.1 (by rw [List.getElem?_map, hk]; rfl)⟩
theorem zDa_sw {A : Nat → Prop} {a b : List Nat} (h : zDa A (a ++ b)) : zDa A (b ++ a) := by
  have key : ∀ (i : Nat) (q : Nat), (b ++ a)[i]? = some q → ∃ k, (a ++ b)[k]? = some q ∧ ((i < b.length ∧ k = i + a.length) ∨ (b.length ≤ i ∧ k = i - b.length ∧ k < a.length)) := by
    intro i q hi
    rcases Nat.lt_or_ge i b.length with c | c
    · rw [List.getElem?_append_left c] at hi
      exact ⟨i + a.length, by rw [List.getElem?_append_right (Nat.le_add_left _ _), Nat.add_sub_cancel]; exact hi, Or.inl ⟨c, rfl⟩⟩
    · rw [List.getElem?_append_right c] at hi
      have hl := (List.getElem?_eq_some_iff.mp hi).1
      exact ⟨i - b.length, by rw [List.getElem?_append_left hl]; exact hi, Or.inr ⟨c, rfl, hl⟩⟩
  refine ⟨fun i j q hi hj => ?_, fun i q hi => ?_⟩
  · obtain ⟨k1, e1, c1⟩ := key i q hi
    obtain ⟨k2, e2, c2⟩ := key j q hj
    have := h.1 k1 k2 q e1 e2
    rcases c1 with c1 | c1 <;> rcases c2 with c2 | c2 <;> omega
  · obtain ⟨k1, e1, _⟩ := key i q hi
    exact h.2 k1 q e1
theorem zmg_app : ∀ (is : List Nat) (cs ws fr : va_W), (∀ i ∈ is, i < ws.length) → zmg (ws ++ fr) is cs = zmg ws is cs ++ fr := by
  intro is
  induction is with
  | nil => intro cs ws fr _; cases cs <;> rfl
  | cons i is ih =>
    intro cs ws fr h
    cases cs with
    | nil => rfl
    | cons c cs =>
      show zmg ((ws ++ fr).set i c) is cs = zmg (ws.set i c) is cs ++ fr
      rw [List.set_append_left _ _ (h i List.mem_cons_self)]
      exact ih cs (ws.set i c) fr (fun j hj => by rw [List.length_set]; exact h j (List.mem_cons_of_mem _ hj))
theorem z_some {is : List Nat} {ws wc : va_W} (hi : is.map (fun i => ws[i]?) = wc.map some) : ∀ i ∈ is, i < ws.length := by
  intro i h
  have h1 : ws[i]? ∈ is.map (fun i => ws[i]?) := List.mem_map.mpr ⟨i, h, rfl⟩
  rw [hi] at h1
  obtain ⟨q, _, hq⟩ := List.mem_map.mp h1
  exact (List.getElem?_eq_some_iff.mp hq.symm).1
theorem z_hi {is : List Nat} {ws wc : va_W} (fr : va_W) (hi : is.map (fun i => ws[i]?) = wc.map some) : is.map (fun i => (ws ++ fr)[i]?) = wc.map some := by
  rw [← hi]
  refine List.map_congr_left (fun i h => ?_)
  rw [List.getElem?_append_left (z_some hi i h)]
theorem z_spl {D : va_G} {cl : List vw_C} {a b : va_W} {H : Heap} (h : va_P D cl (a ++ b) H) : va_P D cl a H ∧ va_P D cl b H := by
  refine ⟨fun k q hk => h k q ?_, fun k q hk => h (a.length + k) q ?_⟩
  · rw [List.getElem?_append_left (List.getElem?_eq_some_iff.mp hk).1]; exact hk
  · rw [List.getElem?_append_right (Nat.le_add_right _ _), Nat.add_sub_cancel_left]; exact hk
section ZF
variable {p : Program} {l : Launch} {e : Env} {R : Room} {s : State} {m : MethodId} {args : Array Value} {below : List Frame} {meth : Method} {c : Code} {H : Heap} {locs : List Loc} {cells slots : Nat} {Q : State → Prop}
variable {cc bytes : ByteArray} {nL maxL index pc : Nat} {own C : String} {y : MethodName} {ret : Option FieldType} {rm : Room} {D : va_G} {cI cZ : ClassId} {As rest st st1 : List Value} {b : Addr} {wc ws fr : va_W} {ov : Option Value} {ls : Array Slot} {A : Nat → Prop} {H0 : Heap} {U : Type} {post : U → Prop} {wf : U → va_W} {aD : List Nat}
theorem kEF {ci N q0 : Nat} {T : u_T} {fs : List Value} (S : CallFix p m c cc nL s args zt own) (hT : tb D cI cZ s) (hP : va_P D vwCl ws H) (hF : va_P D vwCl fr H) (hDa : zDa A aD) (h0 : (ws ++ fr).map (·.1) = aD) (hS : va_S A H0 H locs) (hM : Met l y [.code y bytes maxL ret] rm (PcW D cI cZ (.ref b :: As) wc) (QcE D ov post wf (zA wc)) 0 0 (zA wc)) (hs : st = As.reverse ++ .ref b :: rest) (hs1 : st1 = ov.toList ++ rest)
    (hw : mwI C y bytes maxL ret As.length) (lk : Cond.methodLink own index y ∈ zt) (hR : zR rm R maxL cells slots) (is al : List Nat) (hn : va_nd is = true) (hi : is.map (fun i => ws[i]?) = wc.map some) (h1 : wc.map (·.1) = al) (h2 : ∀ u, (wf u).map (·.1) = al)
    (he : ws[q0]? = some (b, .inr (ci, fs))) (hc : vwCl[ci]? = some (C, T, N)) (hsz : ls.size = nL) (hst : (rest.map fun v => v.category).sum ≤ 8) (hdg : decode cc pc = .ok (.invokevirtual index, 3))
    (kk : ∀ (u : U) (H1 : Heap) (locs1 : List Loc), post u → va_P D vwCl (zmg ws is (wf u)) H1 → va_P D vwCl fr H1 → va_S A H0 H1 locs1 → W p l e R s m args below meth c H1 locs1 cells slots Q (F0 m (pc + 3) ls st1)) : W p l e R s m args below meth c H locs cells slots Q (F0 m pc ls st) := by
  have he2 : (ws ++ fr)[q0]? = some (b, .inr (ci, fs)) := by rw [List.getElem?_append_left (List.getElem?_eq_some_iff.mp he).1]; exact he
  refine kEV S hT (hP.app hF) (zDa_to hDa h0) hS hM hs hs1 hw lk hR is al hn (z_hi fr hi) h1 h2 he2 hc hsz hst hdg (fun u H1 locs1 hu hP1 _ hS1 => ?_)
  rw [zmg_app is (wf u) ws fr (z_some hi)] at hP1
  exact kk u H1 locs1 hu (z_spl hP1).1 (z_spl hP1).2 hS1
theorem kXF {ci N q0 : Nat} {T : u_T} {fs : List Value} {X : State → Prop} (S : CallFix p m c cc nL s args zt own) (hT : tb D cI cZ s) (hP : va_P D vwCl ws H) (hF : va_P D vwCl fr H) (hDa : zDa A aD) (h0 : (ws ++ fr).map (·.1) = aD) (hS : va_S A H0 H locs) (hM : Met l y [.code y bytes maxL ret] rm (PcX D cI cZ (.ref b :: As) wc X) (QcE D ov post wf (zA wc)) 0 0 (zA wc))
    (hXc : ∀ (V : State) (g : JFrame) (mk : MethodId) (a : Array Value), X V → X (V.calling g mk a)) (hX : ∀ V : State, V.heap = H → s.WarmedH V.vm → X V) (hs : st = As.reverse ++ .ref b :: rest) (hs1 : st1 = ov.toList ++ rest)
    (hw : mwI C y bytes maxL ret As.length) (lk : Cond.methodLink own index y ∈ zt) (hR : zR rm R maxL cells slots) (is al : List Nat) (hn : va_nd is = true) (hi : is.map (fun i => ws[i]?) = wc.map some) (h1 : wc.map (·.1) = al) (h2 : ∀ u, (wf u).map (·.1) = al)
    (he : ws[q0]? = some (b, .inr (ci, fs))) (hc : vwCl[ci]? = some (C, T, N)) (hsz : ls.size = nL) (hst : (rest.map fun v => v.category).sum ≤ 8) (hdg : decode cc pc = .ok (.invokevirtual index, 3))
    (kk : ∀ (u : U) (H1 : Heap) (locs1 : List Loc), post u → va_P D vwCl (zmg ws is (wf u)) H1 → va_P D vwCl fr H1 → va_S A H0 H1 locs1 → W p l e R s m args below meth c H1 locs1 cells slots Q (F0 m (pc + 3) ls st1)) : W p l e R s m args below meth c H locs cells slots Q (F0 m pc ls st) := by
  have he2 : (ws ++ fr)[q0]? = some (b, .inr (ci, fs)) := by rw [List.getElem?_append_left (List.getElem?_eq_some_iff.mp he).1]; exact he
  refine kXV S hT (hP.app hF) (zDa_to hDa h0) hS hM hXc hX hs hs1 hw lk hR is al hn (z_hi fr hi) h1 h2 he2 hc hsz hst hdg (fun u H1 locs1 hu hP1 _ hS1 => ?_)
  rw [zmg_app is (wf u) ws fr (z_some hi)] at hP1
  exact kk u H1 locs1 hu (z_spl hP1).1 (z_spl hP1).2 hS1
end ZF
