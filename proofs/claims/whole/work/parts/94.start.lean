/-! the law from its entry -/
theorem z_eqi {args : Array Value} {s : State} {t : Term} {z : Int32} (h : (Cond.eq t (.int z)).before args s = true) : t.eval args s none [] s = some (.int z) := by
  cases hv : t.eval args s none [] s with
  | none => simp [Cond.before, Cond.holds, Cond.value, hv] at h
  | some w =>
    have hz : (Term.int z).eval args s none [] s = some (.int z) := rfl
    simp only [Cond.before, Cond.holds, Cond.value, hv, hz] at h
    cases w <;> simp_all
theorem z_stat {args : Array Value} {s : State} (n : String) (f : Nat → Int32) {A : Nat → Prop} (hl : (Cond.laysStatic "SneezeRace" n "[I").before args s = true) (hini : (Cond.initialized "SneezeRace").before args s = true) (harr : (Cond.arrayOf (.static "SneezeRace" n "[I") .int).before args s = true) (hlen : (Cond.eq (.length (.static "SneezeRace" n "[I")) (.int 6)).before args s = true) (hel : ∀ j : Nat, j < 6 → (Cond.eq (.elem (.static "SneezeRace" n "[I") (.int (Int32.ofNat j))) (.int (f j))).before args s = true) (hA : ∀ a : Nat, a < s.heap.size → ¬ A a) : ∃ t : Nat, va_Z "SneezeRace" n "[I" (.ref t) A s s.heap ∧ va_T .int t 6 (fun j => .int (f j)) A s s.heap := by
  obtain ⟨t, h1, h2⟩ := va_Tof (tm := .static "SneezeRace" n "[I") (N := 6) (f := fun j => .int (f j)) (A := A) (by decide) harr (z_eqi hlen) (fun j hj => z_eqi (hel j hj)) hA
  exact ⟨t, va_Zref hl hini h1 hA, h2⟩
theorem zwb_0 : zwb nI := by unfold zwb; decide +kernel
theorem zwb_1 : zwb ziL := by unfold zwb; decide +kernel
set_option maxRecDepth 100000 in
theorem zw_lays : Cond.laysStatic "SneezeRace" "AT_FIRST" "[I" ∈ lw_tbl ∧ Cond.laysStatic "SneezeRace" "LEAST" "[I" ∈ lw_tbl ∧ Cond.laysStatic "SneezeRace" "GREATEST" "[I" ∈ lw_tbl := ⟨List.mem_of_getElem? (i := 67) (by decide +kernel), List.mem_of_getElem? (i := 254) (by decide +kernel), List.mem_of_getElem? (i := 257) (by decide +kernel)⟩
set_option maxRecDepth 100000 in
set_option maxHeartbeats 4000000 in
theorem z_start {args : Array Value} {s : State} {A : Nat → Prop} (hts : ∀ w ∈ lw_tbl, w.before args s = true) (hini : (Cond.initialized "SneezeRace").before args s = true) (hgv : (Jvm.Cond.and given_1 narrow_1).before args s = true) (hA : ∀ a : Nat, a < s.heap.size → ¬ A a) : ∃ tL tG tF : Nat, zSA tL tG tF A s s.heap := by
  have hs := flat_of_before _ hgv
  obtain ⟨tzcL, azcL⟩ := z_stat (A := A) "LEAST" zcL (hts _ zw_lays.2.1) hini (hs _ (by decide +kernel)) (hs _ (by decide +kernel)) (fun j hj => by
    rcases (show j = 0 ∨ j = 1 ∨ j = 2 ∨ j = 3 ∨ j = 4 ∨ j = 5 by omega) with rfl | rfl | rfl | rfl | rfl | rfl
    · exact hs _ (by decide +kernel)
    · exact hs _ (by decide +kernel)
    · exact hs _ (by decide +kernel)
    · exact hs _ (by decide +kernel)
    · exact hs _ (by decide +kernel)
    · exact hs _ (by decide +kernel)) hA
  obtain ⟨tzcG, azcG⟩ := z_stat (A := A) "GREATEST" zcG (hts _ zw_lays.2.2) hini (hs _ (by decide +kernel)) (hs _ (by decide +kernel)) (fun j hj => by
    rcases (show j = 0 ∨ j = 1 ∨ j = 2 ∨ j = 3 ∨ j = 4 ∨ j = 5 by omega) with rfl | rfl | rfl | rfl | rfl | rfl
    · exact hs _ (by decide +kernel)
    · exact hs _ (by decide +kernel)
    · exact hs _ (by decide +kernel)
    · exact hs _ (by decide +kernel)
    · exact hs _ (by decide +kernel)
    · exact hs _ (by decide +kernel)) hA
  obtain ⟨tzcF, azcF⟩ := z_stat (A := A) "AT_FIRST" zcF (hts _ zw_lays.1) hini (hs _ (by decide +kernel)) (hs _ (by decide +kernel)) (fun j hj => by
    rcases (show j = 0 ∨ j = 1 ∨ j = 2 ∨ j = 3 ∨ j = 4 ∨ j = 5 by omega) with rfl | rfl | rfl | rfl | rfl | rfl
    · exact hs _ (by decide +kernel)
    · exact hs _ (by decide +kernel)
    · exact hs _ (by decide +kernel)
    · exact hs _ (by decide +kernel)
    · exact hs _ (by decide +kernel)
    · exact hs _ (by decide +kernel)) hA
  exact ⟨tzcL, tzcG, tzcF, azcL, azcG, azcF⟩
set_option maxRecDepth 100000 in
set_option maxHeartbeats 4000000 in
theorem whole_start {p : Program} {e : Env} {s : State} {m : MethodId} {below : List Frame} {meth : Method} {c : Code} (l : Launch) (hflags : l.flags = flags0) {b L : Nat} {xs : Nat → Int32} (hL : L ≤ 320) (C0 : lw_At p s m meth c b L xs) : W p l e room_1 s m #[Value.ref b] below meth c s.heap [] 0 0 (lw_Z below #[Value.ref b] s) (entryFrame m ([Value.ref b] : List Value).toArray 4) := by
  obtain ⟨hx, hb, hr, hml, hown, hts0, hX, hbl, hlocks, hgv⟩ := id C0
  have hts : ∀ w ∈ zt, w.before #[Value.ref b] s = true := fun w hw => hts0 w (List.mem_filter.mp hw).1
  have S : CallFix p m c cL_law 4 s #[Value.ref b] zt RL := ⟨hx, hb, hml, hown, hts⟩
  have hA : ∀ q : Nat, s.heap.size ≤ q → (fun q : Nat => s.heap.size ≤ q) q := fun _ h => h
  obtain ⟨c0, i0, k0⟩ := u_known (C := RX0) (T := TX0) (N := 4) (n := 4) hts in_X0 (hts _ it_RX0)
  obtain ⟨c1, i1, k1⟩ := u_known (C := RX1) (T := TX1) (N := 1) (n := 1) hts in_X1 (hts _ it_RX1)
  obtain ⟨c2, i2, k2⟩ := u_known (C := RX2) (T := TX2) (N := 2) (n := 2) hts in_X2 (hts _ it_RX2)
  obtain ⟨c3, i3, k3⟩ := u_known (C := RX3) (T := TX3) (N := 2) (n := 2) hts in_X3 (hts _ it_RX3)
  obtain ⟨c4, i4, k4⟩ := u_known (C := RX4) (T := TX4) (N := 2) (n := 2) hts in_X4 (hts _ it_RX4)
  obtain ⟨c5, i5, k5⟩ := u_known (C := RX5) (T := TX5) (N := 2) (n := 2) hts in_X5 (hts _ it_RX5)
  obtain ⟨c6, i6, k6⟩ := u_known (C := RX6) (T := TX6) (N := 5) (n := 5) hts in_X6 (hts _ it_RX6)
  obtain ⟨c7, i7, k7⟩ := u_known (C := RX7) (T := TX7) (N := 7) (n := 7) hts in_X7 (hts _ it_RX7)
  obtain ⟨c8, i8, k8⟩ := u_known (C := RX8) (T := TX8) (N := 11) (n := 11) hts in_X8 (hts _ it_RX8)
  obtain ⟨c9, i9, k9⟩ := u_known (C := RX9) (T := TX9) (N := 27) (n := 27) hts in_X9 (hts _ it_RX9)
  obtain ⟨D, hKc⟩ : ∃ D : va_G, ∀ (k : Nat) (q : vw_C), vwCl[k]? = some q → u_Kn s q.1 q.2.1 q.2.2 (D.1 k) (D.2 k) := by
    refine ⟨(fun k => match k with | 0 => c0 | 1 => c1 | 2 => c2 | 3 => c3 | 4 => c4 | 5 => c5 | 6 => c6 | 7 => c7 | 8 => c8 | _ => c9, fun k => match k with | 0 => i0 | 1 => i1 | 2 => i2 | 3 => i3 | 4 => i4 | 5 => i5 | 6 => i6 | 7 => i7 | 8 => i8 | _ => i9), ?_⟩
    intro k q hq
    match k, hq with
    | 0, hq => cases hq; exact k0
    | 1, hq => cases hq; exact k1
    | 2, hq => cases hq; exact k2
    | 3, hq => cases hq; exact k3
    | 4, hq => cases hq; exact k4
    | 5, hq => cases hq; exact k5
    | 6, hq => cases hq; exact k6
    | 7, hq => cases hq; exact k7
    | 8, hq => cases hq; exact k8
    | 9, hq => cases hq; exact k9
    | k + 10, hq => simp [vwCl] at hq
  obtain ⟨cI, kI, compI, a1, a2, a3⟩ := Cond.arrayClass_spec (hts _ ac_int)
  obtain ⟨cZ, kZ, compZ, b1, b2, b3⟩ := Cond.arrayClass_spec (hts _ ac_boolean)
  have hK : va_K D vwCl [(cI, .int), (cZ, .boolean)] s := by
    refine ⟨hKc, fun k q h => ?_⟩
    match k, h with
    | 0, h => cases h; exact ⟨fun n z => ⟨fun k h => (by cases h), kI, a2, compI, a3⟩, a1⟩
    | 1, h => cases h; exact ⟨fun n z => ⟨fun k h => (by cases h), kZ, b2, compZ, b3⟩, b1⟩
    | k + 2, h => simp at h
  have hT : tb D cI cZ s := ⟨hK, fun w hw => zq_of (zq_good hw) (hts w hw)⟩
  obtain ⟨tL, tG, tF, hZ⟩ := z_start (A := (fun q : Nat => s.heap.size ≤ q)) hts0 (hts _ ini_RX8) hgv (fun a h => Nat.not_le.mpr h)
  have hXF : zXF tF (fun q : Nat => s.heap.size ≤ q) s := hZ.2.2
  have hS : va_S (fun q : Nat => s.heap.size ≤ q) s.heap s.heap [] := va_S.rf
  have hP : va_P D vwCl [] s.heap := fun k q h => by simp at h
  have hD : va_D (fun q : Nat => s.heap.size ≤ q) [] := ⟨fun i j p q h => by simp at h, fun k q h => by simp at h⟩
  have hl := lv_entry ([.ref b]) (n := 4) (Nat.le_of_ble_eq_true rfl)
  rw [lg_entry_eq]
  generalize (lg_sl ([.ref b]) ++ List.replicate (4 - (lg_sl ([.ref b])).length) Slot.unset).toArray = ls at hl ⊢
  have hl : lv_has ls 4 [(0, .ref b)] := hl
  refine va_new (D := D) (ci := 8) (fs := [.null, .null, .null, .null, .null, .null, .null, .null, .null, .null, .null]) (C := RX8) (T := TX8) (N := 11) hx hb hts in_X8 tyX8 tyX8_ok hown (hts _ cl_RL_7) (hts _ it_RX8) (hts _ ini_RX8) hT.1 hP hD hS hA rfl (fun j hj => by rcases (show j = 0 ∨ j = 1 ∨ j = 2 ∨ j = 3 ∨ j = 4 ∨ j = 5 ∨ j = 6 ∨ j = 7 ∨ j = 8 ∨ j = 9 ∨ j = 10 by omega) with rfl | rfl | rfl | rfl | rfl | rfl | rfl | rfl | rfl | rfl | rfl <;> rfl) (Nat.le_of_ble_eq_true rfl) (Nat.le_of_ble_eq_true rfl) dL_law_0 (fun x H hP hD hS => ?_)
  have hP : va_P D vwCl [(x, .inr (8, [.null, .null, .null, .null, .null, .null, .null, .null, .null, .null, .null]))] H := hP
  have hD : va_D (fun q : Nat => s.heap.size ≤ q) [(x, .inr (8, [.null, .null, .null, .null, .null, .null, .null, .null, .null, .null, .null]))] := hD
  refine lv_dup hx hb dL_law_3 rfl ?_
  refine kNI (pw := []) S hT hP hD hS hA (c_X8_init l D cI cZ x H.size tF) mw_X8_init lk_RL_9 ⟨rfl, rfl, (Nat.le_of_ble_eq_true rfl), (Nat.le_of_ble_eq_true rfl), (Nat.le_of_ble_eq_true rfl), (Nat.le_of_ble_eq_true rfl)⟩ (fun _ _ _ _ _ h => zXF_call h) (fun _ hV hW => zXF_at (pw := []) hXF hS hA hD hV hW) hl.1 (Nat.le_of_ble_eq_true rfl) dL_law_4 (fun u H locs hP hD hS => ?_)
  obtain ⟨h, hn, hw, ht, hs, hp, h0, hn0, hw0, ht0, hs0, hp0, h1, hn1, hw1, ht1, hs1, hp1, pd, pg, bb, bbr, pp, pm, ch, cd, se, s1, s2, cc, cl, fa, ff⟩ := u
  have hP : va_P D vwCl [(x, .inr (8, [.ref h, .ref h0, .ref h1, .ref pd, .ref bb, .ref bbr, .ref pp, .ref ch, .ref se, .ref cc, .ref fa])), (h, .inr (7, [.ref hn, .ref hw, .ref ht, .ref hs, .ref hp, .int 0, .int 0])), (hn, .inl (cI, 6, .inl zcF)), (hw, .inl (cI, 10, .inl ziW)), (ht, .inl (cI, 6, .inl (fun _ => 0))), (hs, .inl (cI, 6, .inl (fun _ => 0))), (hp, .inl (cI, 6, .inl (fun _ => 0))), (h0, .inr (7, [.ref hn0, .ref hw0, .ref ht0, .ref hs0, .ref hp0, .int 0, .int 0])), (hn0, .inl (cI, 6, .inl zcF)), (hw0, .inl (cI, 10, .inl ziW)), (ht0, .inl (cI, 6, .inl (fun _ => 0))), (hs0, .inl (cI, 6, .inl (fun _ => 0))), (hp0, .inl (cI, 6, .inl (fun _ => 0))), (h1, .inr (7, [.ref hn1, .ref hw1, .ref ht1, .ref hs1, .ref hp1, .int 0, .int 0])), (hn1, .inl (cI, 6, .inl zcF)), (hw1, .inl (cI, 10, .inl ziW)), (ht1, .inl (cI, 6, .inl (fun _ => 0))), (hs1, .inl (cI, 6, .inl (fun _ => 0))), (hp1, .inl (cI, 6, .inl (fun _ => 0))), (pd, .inr (4, [.ref pg, .int 0])), (pg, .inl (cI, 60, .inl (fun _ => 0))), (bb, .inr (0, [.int 0, .int 0, .int 0, .int 0])), (bbr, .inr (0, [.int 0, .int 0, .int 0, .int 0])), (pp, .inr (5, [.ref pm, .int 0])), (pm, .inl (cI, 24, .inl (fun _ => 0))), (ch, .inr (2, [.ref cd, .int 0])), (cd, .inl (cI, 832, .inl (fun _ => 0))), (se, .inr (6, [.ref s1, .ref s2, .int 0, .int 0, .int 0])), (s1, .inl (cI, 6, .inl (fun _ => 0))), (s2, .inl (cI, 6, .inl (fun _ => 0))), (cc, .inr (1, [.ref cl])), (cl, .inl (cI, 7, .inl (fun _ => 0))), (fa, .inr (3, [.ref ff, .int 0])), (ff, .inl (cI, 6, .inl (fun _ => 0)))] H := hP
  have hD : va_D (fun q : Nat => s.heap.size ≤ q) [(x, .inr (8, [.ref h, .ref h0, .ref h1, .ref pd, .ref bb, .ref bbr, .ref pp, .ref ch, .ref se, .ref cc, .ref fa])), (h, .inr (7, [.ref hn, .ref hw, .ref ht, .ref hs, .ref hp, .int 0, .int 0])), (hn, .inl (cI, 6, .inl zcF)), (hw, .inl (cI, 10, .inl ziW)), (ht, .inl (cI, 6, .inl (fun _ => 0))), (hs, .inl (cI, 6, .inl (fun _ => 0))), (hp, .inl (cI, 6, .inl (fun _ => 0))), (h0, .inr (7, [.ref hn0, .ref hw0, .ref ht0, .ref hs0, .ref hp0, .int 0, .int 0])), (hn0, .inl (cI, 6, .inl zcF)), (hw0, .inl (cI, 10, .inl ziW)), (ht0, .inl (cI, 6, .inl (fun _ => 0))), (hs0, .inl (cI, 6, .inl (fun _ => 0))), (hp0, .inl (cI, 6, .inl (fun _ => 0))), (h1, .inr (7, [.ref hn1, .ref hw1, .ref ht1, .ref hs1, .ref hp1, .int 0, .int 0])), (hn1, .inl (cI, 6, .inl zcF)), (hw1, .inl (cI, 10, .inl ziW)), (ht1, .inl (cI, 6, .inl (fun _ => 0))), (hs1, .inl (cI, 6, .inl (fun _ => 0))), (hp1, .inl (cI, 6, .inl (fun _ => 0))), (pd, .inr (4, [.ref pg, .int 0])), (pg, .inl (cI, 60, .inl (fun _ => 0))), (bb, .inr (0, [.int 0, .int 0, .int 0, .int 0])), (bbr, .inr (0, [.int 0, .int 0, .int 0, .int 0])), (pp, .inr (5, [.ref pm, .int 0])), (pm, .inl (cI, 24, .inl (fun _ => 0))), (ch, .inr (2, [.ref cd, .int 0])), (cd, .inl (cI, 832, .inl (fun _ => 0))), (se, .inr (6, [.ref s1, .ref s2, .int 0, .int 0, .int 0])), (s1, .inl (cI, 6, .inl (fun _ => 0))), (s2, .inl (cI, 6, .inl (fun _ => 0))), (cc, .inr (1, [.ref cl])), (cl, .inl (cI, 7, .inl (fun _ => 0))), (fa, .inr (3, [.ref ff, .int 0])), (ff, .inl (cI, 6, .inl (fun _ => 0)))] := hD
  refine lv_astore_n (lv' := [(1, .ref x), (0, .ref b)]) hx hb dL_law_7 rfl hl (by decide) rfl (fun ls hl => ?_)
  refine va_new (D := D) (ci := 9) (fs := [.int 0, .int 0, .int 0, .int 0, .int 0, .int 0, .null, .null, .null, .null, .null, .int 0, .null, .int 0, .int 0, .int 0, .int 0, .int 0, .null, .null, .null, .null, .null, .null, .null, .int 0, .int 0]) (C := RX9) (T := TX9) (N := 27) hx hb hts in_X9 tyX9 tyX9_ok hown (hts _ cl_RL_10) (hts _ it_RX9) (hts _ ini_RX9) hT.1 hP hD hS hA rfl (fun j hj => by rcases (show j = 0 ∨ j = 1 ∨ j = 2 ∨ j = 3 ∨ j = 4 ∨ j = 5 ∨ j = 6 ∨ j = 7 ∨ j = 8 ∨ j = 9 ∨ j = 10 ∨ j = 11 ∨ j = 12 ∨ j = 13 ∨ j = 14 ∨ j = 15 ∨ j = 16 ∨ j = 17 ∨ j = 18 ∨ j = 19 ∨ j = 20 ∨ j = 21 ∨ j = 22 ∨ j = 23 ∨ j = 24 ∨ j = 25 ∨ j = 26 by omega) with rfl | rfl | rfl | rfl | rfl | rfl | rfl | rfl | rfl | rfl | rfl | rfl | rfl | rfl | rfl | rfl | rfl | rfl | rfl | rfl | rfl | rfl | rfl | rfl | rfl | rfl | rfl <;> rfl) (Nat.le_of_ble_eq_true rfl) (Nat.le_of_ble_eq_true rfl) dL_law_8 (fun mo H hP hD hS => ?_)
  refine lv_dup hx hb dL_law_11 rfl ?_
  refine kNI (pw := [(x, .inr (8, [.ref h, .ref h0, .ref h1, .ref pd, .ref bb, .ref bbr, .ref pp, .ref ch, .ref se, .ref cc, .ref fa])), (h, .inr (7, [.ref hn, .ref hw, .ref ht, .ref hs, .ref hp, .int 0, .int 0])), (hn, .inl (cI, 6, .inl zcF)), (hw, .inl (cI, 10, .inl ziW)), (ht, .inl (cI, 6, .inl (fun _ => 0))), (hs, .inl (cI, 6, .inl (fun _ => 0))), (hp, .inl (cI, 6, .inl (fun _ => 0))), (h0, .inr (7, [.ref hn0, .ref hw0, .ref ht0, .ref hs0, .ref hp0, .int 0, .int 0])), (hn0, .inl (cI, 6, .inl zcF)), (hw0, .inl (cI, 10, .inl ziW)), (ht0, .inl (cI, 6, .inl (fun _ => 0))), (hs0, .inl (cI, 6, .inl (fun _ => 0))), (hp0, .inl (cI, 6, .inl (fun _ => 0))), (h1, .inr (7, [.ref hn1, .ref hw1, .ref ht1, .ref hs1, .ref hp1, .int 0, .int 0])), (hn1, .inl (cI, 6, .inl zcF)), (hw1, .inl (cI, 10, .inl ziW)), (ht1, .inl (cI, 6, .inl (fun _ => 0))), (hs1, .inl (cI, 6, .inl (fun _ => 0))), (hp1, .inl (cI, 6, .inl (fun _ => 0))), (pd, .inr (4, [.ref pg, .int 0])), (pg, .inl (cI, 60, .inl (fun _ => 0))), (bb, .inr (0, [.int 0, .int 0, .int 0, .int 0])), (bbr, .inr (0, [.int 0, .int 0, .int 0, .int 0])), (pp, .inr (5, [.ref pm, .int 0])), (pm, .inl (cI, 24, .inl (fun _ => 0))), (ch, .inr (2, [.ref cd, .int 0])), (cd, .inl (cI, 832, .inl (fun _ => 0))), (se, .inr (6, [.ref s1, .ref s2, .int 0, .int 0, .int 0])), (s1, .inl (cI, 6, .inl (fun _ => 0))), (s2, .inl (cI, 6, .inl (fun _ => 0))), (cc, .inr (1, [.ref cl])), (cl, .inl (cI, 7, .inl (fun _ => 0))), (fa, .inr (3, [.ref ff, .int 0])), (ff, .inl (cI, 6, .inl (fun _ => 0)))]) S hT hP hD hS hA (c_X9_init l D cI cZ mo H.size) mw_X9_init lk_RL_12 ⟨rfl, rfl, (Nat.le_of_ble_eq_true rfl), (Nat.le_of_ble_eq_true rfl), (Nat.le_of_ble_eq_true rfl), (Nat.le_of_ble_eq_true rfl)⟩ (fun _ _ _ _ _ h => h) (fun _ _ _ => trivial) hl.1 (Nat.le_of_ble_eq_true rfl) dL_law_12 (fun u H locs hP hD hS => ?_)
  obtain ⟨rea, rla, rwe, rst, rsp, rpa, rsa, rta, rbe, rfa, rpl, rke, rik⟩ := u
  have hDa : zDa (fun q : Nat => s.heap.size ≤ q) [x, h, hn, hw, ht, hs, hp, h0, hn0, hw0, ht0, hs0, hp0, h1, hn1, hw1, ht1, hs1, hp1, pd, pg, bb, bbr, pp, pm, ch, cd, se, s1, s2, cc, cl, fa, ff, mo, rea, rla, rwe, rst, rsp, rpa, rsa, rta, rbe, rfa, rpl, rke, rik] := zDa_of hD
  have hDs : zDa (fun q : Nat => s.heap.size ≤ q) [mo, rea, rla, rwe, rst, rsp, rpa, rsa, rta, rbe, rfa, rpl, rke, rik, x, h, hn, hw, ht, hs, hp, h0, hn0, hw0, ht0, hs0, hp0, h1, hn1, hw1, ht1, hs1, hp1, pd, pg, bb, bbr, pp, pm, ch, cd, se, s1, s2, cc, cl, fa, ff] := zDa_sw (a := [x, h, hn, hw, ht, hs, hp, h0, hn0, hw0, ht0, hs0, hp0, h1, hn1, hw1, ht1, hs1, hp1, pd, pg, bb, bbr, pp, pm, ch, cd, se, s1, s2, cc, cl, fa, ff]) (b := [mo, rea, rla, rwe, rst, rsp, rpa, rsa, rta, rbe, rfa, rpl, rke, rik]) hDa
  obtain ⟨hP, hM⟩ := z_spl hP
  have hP := z_fun (k := 2) (g := nmF 10 50 1 10 3 5) hP rfl (by decide +kernel)
  have hP := z_fun (k := 3) (g := wdF nI ziL) hP rfl (by decide +kernel)
  have hP := z_fun (k := 8) (g := nmF 10 50 1 10 3 5) hP rfl (by decide +kernel)
  have hP := z_fun (k := 9) (g := wdF nI ziL) hP rfl (by decide +kernel)
  have hP := z_fun (k := 14) (g := nmF 10 50 1 10 3 5) hP rfl (by decide +kernel)
  have hP := z_fun (k := 15) (g := wdF nI ziL) hP rfl (by decide +kernel)
  have hP : va_P D vwCl [(x, .inr (8, [.ref h, .ref h0, .ref h1, .ref pd, .ref bb, .ref bbr, .ref pp, .ref ch, .ref se, .ref cc, .ref fa])), (h, .inr (7, [.ref hn, .ref hw, .ref ht, .ref hs, .ref hp, .int (nI 0), .int 0])), (hn, .inl (cI, 6, .inl (nmF 10 50 1 10 3 5))), (hw, .inl (cI, 10, .inl (wdF nI ziL))), (ht, .inl (cI, 6, .inl (fun _ => 0))), (hs, .inl (cI, 6, .inl (fun _ => 0))), (hp, .inl (cI, 6, .inl (fun _ => 0))), (h0, .inr (7, [.ref hn0, .ref hw0, .ref ht0, .ref hs0, .ref hp0, .int (nI 0), .int 0])), (hn0, .inl (cI, 6, .inl (nmF 10 50 1 10 3 5))), (hw0, .inl (cI, 10, .inl (wdF nI ziL))), (ht0, .inl (cI, 6, .inl (fun _ => 0))), (hs0, .inl (cI, 6, .inl (fun _ => 0))), (hp0, .inl (cI, 6, .inl (fun _ => 0))), (h1, .inr (7, [.ref hn1, .ref hw1, .ref ht1, .ref hs1, .ref hp1, .int (nI 0), .int 0])), (hn1, .inl (cI, 6, .inl (nmF 10 50 1 10 3 5))), (hw1, .inl (cI, 10, .inl (wdF nI ziL))), (ht1, .inl (cI, 6, .inl (fun _ => 0))), (hs1, .inl (cI, 6, .inl (fun _ => 0))), (hp1, .inl (cI, 6, .inl (fun _ => 0))), (pd, .inr (4, [.ref pg, .int (nI 0)])), (pg, .inl (cI, 60, .inl (fun _ => 0))), (bb, .inr (0, [.int 0, .int 0, .int 0, .int 0])), (bbr, .inr (0, [.int 0, .int 0, .int 0, .int 0])), (pp, .inr (5, [.ref pm, .int (nI 0)])), (pm, .inl (cI, 24, .inl (fun _ => 0))), (ch, .inr (2, [.ref cd, .int (nI 0)])), (cd, .inl (cI, 832, .inl (fun _ => 0))), (se, .inr (6, [.ref s1, .ref s2, .int 0, .int 0, .int 0])), (s1, .inl (cI, 6, .inl (fun _ => 0))), (s2, .inl (cI, 6, .inl (fun _ => 0))), (cc, .inr (1, [.ref cl])), (cl, .inl (cI, 7, .inl (fun _ => 0))), (fa, .inr (3, [.ref ff, .int 0])), (ff, .inl (cI, 6, .inl (fun _ => 0)))] H := hP
  have hM : va_P D vwCl [(mo, .inr (9, [.int 10, .int 50, .int 1, .int 10, .int 3, .int 5, .ref rea, .ref rla, .ref rwe, .ref rst, .ref rsp, .int (nI 0), .ref rpa, .int (nI 0), .int 0, .int 0, .int 0, .int 0, .ref rsa, .ref rta, .ref rbe, .ref rfa, .ref rpl, .ref rke, .ref rik, .int (nI 0), .int 0])), (rea, .inl (cI, 5, .inl nI)), (rla, .inl (cI, 5, .inl ziL)), (rwe, .inl (cI, 6, .inl (fun _ => 0))), (rst, .inl (cI, 6, .inl (fun _ => 0))), (rsp, .inl (cI, 6, .inl (fun _ => 0))), (rpa, .inl (cI, 60, .inl (fun _ => 0))), (rsa, .inl (cI, 61, .inl (fun _ => 0))), (rta, .inl (cI, 12, .inl (fun _ => 0))), (rbe, .inl (cI, 12, .inl (fun _ => 0))), (rfa, .inl (cI, 6, .inl (fun _ => 0))), (rpl, .inl (cI, 60, .inl (fun _ => 0))), (rke, .inl (cI, 100, .inl (fun _ => 0))), (rik, .inl (cZ, 2, .inl (fun _ => 0)))] H := hM
  refine lv_astore_n (lv' := [(2, .ref mo), (1, .ref x), (0, .ref b)]) hx hb dL_law_15 rfl hl (by decide) rfl (fun ls hl => ?_)
  refine lv_iconst (v := 0) hx hb dL_law_16 (by decide) ?_
  refine lv_istore_n (lv' := [(3, .int 0), (2, .ref mo), (1, .ref x), (0, .ref b)]) hx hb dL_law_17 rfl hl (by decide) rfl (fun ls hl => ?_)
  refine W.widen (k := 600000) (n := 7302250) (Nat.le_of_ble_eq_true rfl) (Nat.le_of_ble_eq_true rfl) ?_
  have h := zl_loop (l := l) (e := e) (below := below) S hT hX hbl hr hlocks hDa hDs hL hZ (L + 1) 0 (Nat.zero_le _) (by omega)
  unfold zKL at h
  have hnm : zNm 50 1 10 3 5 := ⟨by decide, by decide, by decide, ⟨3, by decide, rfl⟩, 5, by decide, rfl⟩
  exact h 10 50 1 10 3 5 0 10 50 1 10 3 5 0 10 50 1 10 3 5 0 0 0 0 0 0 0 0 0 0 0 0 0 0 0 0 0 0 0 0 0 0 0 0 0 nI ziL (fun _ => 0) (fun _ => 0) (fun _ => 0) (fun _ => 0) nI ziL (fun _ => 0) (fun _ => 0) (fun _ => 0) nI ziL (fun _ => 0) (fun _ => 0) (fun _ => 0) (fun _ => 0) (fun _ => 0) (fun _ => 0) (fun _ => 0) (fun _ => 0) (fun _ => 0) (fun _ => 0) (fun _ => 0) (fun _ => 0) (fun _ => 0) (fun _ => 0) (fun _ => 0) (fun _ => 0) ⟨⟨hnm, zwb_0, zwb_1, Nat.zero_le _, fun j hj => absurd hj (Nat.not_lt_zero _)⟩, Nat.zero_le _, fun k hk => absurd hk (Nat.not_lt_zero _), rfl, rfl, ⟨Or.inl rfl, 0, rfl⟩, ⟨Or.inl rfl, 0, rfl⟩⟩ H locs ls hP hM hS (lv_sub hl [0, 3, 2, 1] rfl)
