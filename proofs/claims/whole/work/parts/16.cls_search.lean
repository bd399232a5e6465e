abbrev rm_X6_begin : Room := { frames := 0, cells := 0, slots := 0, locals := 0 }
set_option maxRecDepth 100000 in
set_option maxHeartbeats 4000000 in
theorem c_X6_begin (l : Launch) (D : va_G) (cI cZ : ClassId) (se s1 s2 : Nat) (go off thr : Int32) (pk be : Nat → Int32) (goal : Int32) : Met l yX6_begin [.code yX6_begin cX6_begin 2 none] rm_X6_begin (PcW D cI cZ [.ref se, .int goal] [(se, .inr (6, [.ref s1, .ref s2, .int go, .int off, .int thr])), (s1, .inl (cI, 6, .inl pk)), (s2, .inl (cI, 6, .inl be))]) (QcE D (S := Unit) none (fun _ => True) (fun _ => [(se, .inr (6, [.ref s1, .ref s2, .int goal, .int 1201, .int 0])), (s1, .inl (cI, 6, .inl pk)), (s2, .inl (cI, 6, .inl be))]) (zA [(se, .inr (6, [.ref s1, .ref s2, .int go, .int off, .int thr])), (s1, .inl (cI, 6, .inl pk)), (s2, .inl (cI, 6, .inl be))])) 0 0 (zA [(se, .inr (6, [.ref s1, .ref s2, .int go, .int off, .int thr])), (s1, .inl (cI, 6, .inl pk)), (s2, .inl (cI, 6, .inl be))]) := by
  refine mtWv (by decide) (Nat.le_of_ble_eq_true rfl) (fun p e s m args below meth c Q A S hT hP hD hS hret ls hl => ?_)
  have S : CallFix p m c cX6_begin 2 s args zt RX6 := S
  obtain ⟨hx, hb, hml, hown, hts⟩ := id S
  have hl : lv_has ls 2 [(0, .ref se), (1, .int goal)] := hl
  refine lv_aload_n hx hb dX6_begin_0 rfl (lv_at hl 0 rfl) ?_
  refine lv_iload_n hx hb dX6_begin_1 rfl (lv_at hl 1 rfl) ?_
  refine va_put (D := D) (ci := 6) (v := .int goal) (ty := .int) (C := RX6) (T := TX6) (N := 5) hx hb hts in_X6 tyX6 tyX6_ok nmX6 hown hT.1 hP hD hS 0 rfl rfl 2 (by decide) (hts _ fl_RX6_18) (fun _ h9 => h9) rfl (by decide +kernel) rfl rfl (Nat.le_of_ble_eq_true rfl) dX6_begin_2 (fun H locs hP hD hS => ?_)
  have hP : va_P D vwCl [(se, .inr (6, [.ref s1, .ref s2, .int goal, .int off, .int thr])), (s1, .inl (cI, 6, .inl pk)), (s2, .inl (cI, 6, .inl be))] H := hP
  have hD : va_D A [(se, .inr (6, [.ref s1, .ref s2, .int goal, .int off, .int thr])), (s1, .inl (cI, 6, .inl pk)), (s2, .inl (cI, 6, .inl be))] := hD
  refine lv_aload_n hx hb dX6_begin_5 rfl (lv_at hl 0 rfl) ?_
  refine lv_sipush (v := 1201) hx hb dX6_begin_6 (by decide) ?_
  refine va_put (D := D) (ci := 6) (v := .int 1201) (ty := .int) (C := RX6) (T := TX6) (N := 5) hx hb hts in_X6 tyX6 tyX6_ok nmX6 hown hT.1 hP hD hS 0 rfl rfl 3 (by decide) (hts _ fl_RX6_22) (fun _ h9 => h9) rfl (by decide +kernel) rfl rfl (Nat.le_of_ble_eq_true rfl) dX6_begin_9 (fun H locs hP hD hS => ?_)
  have hP : va_P D vwCl [(se, .inr (6, [.ref s1, .ref s2, .int goal, .int 1201, .int thr])), (s1, .inl (cI, 6, .inl pk)), (s2, .inl (cI, 6, .inl be))] H := hP
  have hD : va_D A [(se, .inr (6, [.ref s1, .ref s2, .int goal, .int 1201, .int thr])), (s1, .inl (cI, 6, .inl pk)), (s2, .inl (cI, 6, .inl be))] := hD
  refine lv_aload_n hx hb dX6_begin_12 rfl (lv_at hl 0 rfl) ?_
  refine lv_iconst (v := 0) hx hb dX6_begin_13 (by decide) ?_
  refine va_put (D := D) (ci := 6) (v := .int 0) (ty := .int) (C := RX6) (T := TX6) (N := 5) hx hb hts in_X6 tyX6 tyX6_ok nmX6 hown hT.1 hP hD hS 0 rfl rfl 4 (by decide) (hts _ fl_RX6_25) (fun _ h9 => h9) rfl (by decide +kernel) rfl rfl (Nat.le_of_ble_eq_true rfl) dX6_begin_14 (fun H locs hP hD hS => ?_)
  have hP : va_P D vwCl [(se, .inr (6, [.ref s1, .ref s2, .int goal, .int 1201, .int 0])), (s1, .inl (cI, 6, .inl pk)), (s2, .inl (cI, 6, .inl be))] H := hP
  have hD : va_D A [(se, .inr (6, [.ref s1, .ref s2, .int goal, .int 1201, .int 0])), (s1, .inl (cI, 6, .inl pk)), (s2, .inl (cI, 6, .inl be))] := hD
  exact hret _ _ H locs () dX6_begin_17  trivial hP hS
abbrev rm_X6_pick : Room := { frames := 1, cells := 0, slots := 0, locals := 22 }
set_option maxRecDepth 100000 in
set_option maxHeartbeats 4000000 in
theorem c_X6_pick (l : Launch) (D : va_G) (cI cZ : ClassId) (se s1 s2 : Nat) (go off thr : Int32) (pk be : Nat → Int32) (q t : Int32) : Met l yX6_pick [.code yX6_pick cX6_pick 3 none] rm_X6_pick (PcW D cI cZ [.ref se, .int q, .int t] [(se, .inr (6, [.ref s1, .ref s2, .int go, .int off, .int thr])), (s1, .inl (cI, 6, .inl pk)), (s2, .inl (cI, 6, .inl be))]) (QcE D (S := Unit) none (fun _ => True) (fun _ => [(se, .inr (6, [.ref s1, .ref s2, .int go, .int off, .int thr])), (s1, .inl (cI, 6, .inl (s_X8_put_f 6 pk q t))), (s2, .inl (cI, 6, .inl be))]) (zA [(se, .inr (6, [.ref s1, .ref s2, .int go, .int off, .int thr])), (s1, .inl (cI, 6, .inl pk)), (s2, .inl (cI, 6, .inl be))])) 0 0 (zA [(se, .inr (6, [.ref s1, .ref s2, .int go, .int off, .int thr])), (s1, .inl (cI, 6, .inl pk)), (s2, .inl (cI, 6, .inl be))]) := by
  refine mtWv (by decide) (Nat.le_of_ble_eq_true rfl) (fun p e s m args below meth c Q A S hT hP hD hS hret ls hl => ?_)
  have S : CallFix p m c cX6_pick 3 s args zt RX6 := S
  obtain ⟨hx, hb, hml, hown, hts⟩ := id S
  have hl : lv_has ls 3 [(0, .ref se), (1, .int q), (2, .int t)] := hl
  refine lv_aload_n hx hb dX6_pick_0 rfl (lv_at hl 0 rfl) ?_
  refine va_get (D := D) (ci := 6) (v := .ref s1) (C := RX6) (T := TX6) (N := 5) hx hb hts in_X6 hown hT.1 hP 0 rfl rfl 0 (by decide) (hts _ fl_RX6_9) (fun _ h9 => h9) rfl dX6_pick_1 ?_
  refine lv_iload_n hx hb dX6_pick_4 rfl (lv_at hl 1 rfl) ?_
  refine lv_iload_n hx hb dX6_pick_5 rfl (lv_at hl 2 rfl) ?_
  refine kEM (st1 := []) S hT hP hD hS (c_X8_put l D cI cZ s1 6 pk q t (by first | assumption | decide | omega)) rfl rfl mw_X8_put ln_RX6_28 ⟨rfl, rfl, (Nat.le_of_ble_eq_true rfl), (Nat.le_of_ble_eq_true rfl), (Nat.le_of_ble_eq_true rfl), (Nat.le_of_ble_eq_true rfl)⟩ [1] [s1] (by decide) rfl rfl (fun _ => rfl) hl.1 (Nat.le_of_ble_eq_true rfl) dX6_pick_6 (fun _ H locs _ hP hD hS => ?_)
  have hP : va_P D vwCl [(se, .inr (6, [.ref s1, .ref s2, .int go, .int off, .int thr])), (s1, .inl (cI, 6, .inl (s_X8_put_f 6 pk q t))), (s2, .inl (cI, 6, .inl be))] H := hP
  have hD : va_D A [(se, .inr (6, [.ref s1, .ref s2, .int go, .int off, .int thr])), (s1, .inl (cI, 6, .inl (s_X8_put_f 6 pk q t))), (s2, .inl (cI, 6, .inl be))] := hD
  exact hret _ _ H locs () dX6_pick_9  trivial hP hS
def s_X6_end_off (go : Int32) (off : Int32) (thr : Int32) (pl : Int32) (tm : Int32) : Int32 := if (if 0 ≤ (pl - go) then pl - go else 0 - (pl - go)) < off then if 0 ≤ (pl - go) then pl - go else 0 - (pl - go) else (if (if 0 ≤ (pl - go) then pl - go else 0 - (pl - go)) = off then (if thr ≤ tm then off else if 0 ≤ (pl - go) then pl - go else 0 - (pl - go)) else off)
def s_X6_end_thr (go : Int32) (off : Int32) (thr : Int32) (pl : Int32) (tm : Int32) : Int32 := if (if 0 ≤ (pl - go) then pl - go else 0 - (pl - go)) < off then tm else (if (if 0 ≤ (pl - go) then pl - go else 0 - (pl - go)) = off then (if thr ≤ tm then thr else tm) else thr)
def s_X6_end_be (go : Int32) (off : Int32) (thr : Int32) (pk : Nat → Int32) (be : Nat → Int32) (pl : Int32) (tm : Int32) : Nat → Int32 := if (if 0 ≤ (pl - go) then pl - go else 0 - (pl - go)) < off then pk else (if (if 0 ≤ (pl - go) then pl - go else 0 - (pl - go)) = off then (if thr ≤ tm then be else pk) else be)
abbrev rm_X6_end : Room := { frames := 1, cells := 0, slots := 0, locals := 22 }
set_option maxRecDepth 100000 in
set_option maxHeartbeats 4000000 in
theorem c_X6_end (l : Launch) (D : va_G) (cI cZ : ClassId) (se s1 s2 : Nat) (go off thr : Int32) (pk be : Nat → Int32) (pl tm : Int32) : Met l yX6_end [.code yX6_end cX6_end 4 none] rm_X6_end (PcW D cI cZ [.ref se, .int pl, .int tm] [(se, .inr (6, [.ref s1, .ref s2, .int go, .int off, .int thr])), (s1, .inl (cI, 6, .inl pk)), (s2, .inl (cI, 6, .inl be))]) (QcE D (S := Unit) none (fun _ => True) (fun _ => [(se, .inr (6, [.ref s1, .ref s2, .int go, .int (s_X6_end_off go off thr pl tm), .int (s_X6_end_thr go off thr pl tm)])), (s1, .inl (cI, 6, .inl pk)), (s2, .inl (cI, 6, .inl (s_X6_end_be go off thr pk be pl tm)))]) (zA [(se, .inr (6, [.ref s1, .ref s2, .int go, .int off, .int thr])), (s1, .inl (cI, 6, .inl pk)), (s2, .inl (cI, 6, .inl be))])) 0 0 (zA [(se, .inr (6, [.ref s1, .ref s2, .int go, .int off, .int thr])), (s1, .inl (cI, 6, .inl pk)), (s2, .inl (cI, 6, .inl be))]) := by
  refine mtWv (by decide) (Nat.le_of_ble_eq_true rfl) (fun p e s m args below meth c Q A S hT hP hD hS hret ls hl => ?_)
  have S : CallFix p m c cX6_end 4 s args zt RX6 := S
  obtain ⟨hx, hb, hml, hown, hts⟩ := id S
  have hl : lv_has ls 4 [(0, .ref se), (1, .int pl), (2, .int tm)] := hl
  refine lv_iload_n hx hb dX6_end_0 rfl (lv_at hl 1 rfl) ?_
  refine lv_aload_n hx hb dX6_end_1 rfl (lv_at hl 0 rfl) ?_
  refine va_get (D := D) (ci := 6) (v := .int go) (C := RX6) (T := TX6) (N := 5) hx hb hts in_X6 hown hT.1 hP 0 rfl rfl 2 (by decide) (hts _ fl_RX6_18) (fun _ h9 => h9) rfl dX6_end_2 ?_
  refine lv_isub hx hb dX6_end_5 ?_
  refine va_mabs hx hb (by rw [hml]; exact hl.1.symm) hown (hts _ lm_RX6_32) (hts _ sm_Math_abs) (hts _ ini_Math) (hts _ cd_Math_abs) (Nat.le_of_ble_eq_true rfl) (Nat.le_of_ble_eq_true rfl) (Nat.le_of_ble_eq_true rfl) (Nat.le_of_ble_eq_true rfl) dX6_end_6 ?_
  refine lv_istore_n (lv' := [(3, .int (if 0 ≤ (pl - go) then pl - go else 0 - (pl - go))), (0, .ref se), (1, .int pl), (2, .int tm)]) hx hb dX6_end_9 rfl hl (by decide) rfl (fun ls hl => ?_)
  refine lv_iload_n hx hb dX6_end_10 rfl (lv_at hl 0 rfl) ?_
  refine lv_aload_n hx hb dX6_end_11 rfl (lv_at hl 1 rfl) ?_
  refine va_get (D := D) (ci := 6) (v := .int off) (C := RX6) (T := TX6) (N := 5) hx hb hts in_X6 hown hT.1 hP 0 rfl rfl 3 (by decide) (hts _ fl_RX6_22) (fun _ h9 => h9) rfl dX6_end_12 ?_
  refine lv_icmp_lt (tgt := 34) hx hb dX6_end_15 (by decide) (fun c1 => ?_) (fun c1 => ?_)
  · refine lv_aload_n hx hb dX6_end_34 rfl (lv_at hl 1 rfl) ?_
    refine lv_iload_n hx hb dX6_end_35 rfl (lv_at hl 0 rfl) ?_
    refine va_put (D := D) (ci := 6) (v := .int (if 0 ≤ (pl - go) then pl - go else 0 - (pl - go))) (ty := .int) (C := RX6) (T := TX6) (N := 5) hx hb hts in_X6 tyX6 tyX6_ok nmX6 hown hT.1 hP hD hS 0 rfl rfl 3 (by decide) (hts _ fl_RX6_22) (fun _ h9 => h9) rfl (by decide +kernel) rfl rfl (Nat.le_of_ble_eq_true rfl) dX6_end_36 (fun H locs hP hD hS => ?_)
    have hP : va_P D vwCl [(se, .inr (6, [.ref s1, .ref s2, .int go, .int (if 0 ≤ (pl - go) then pl - go else 0 - (pl - go)), .int thr])), (s1, .inl (cI, 6, .inl pk)), (s2, .inl (cI, 6, .inl be))] H := hP
    have hD : va_D A [(se, .inr (6, [.ref s1, .ref s2, .int go, .int (if 0 ≤ (pl - go) then pl - go else 0 - (pl - go)), .int thr])), (s1, .inl (cI, 6, .inl pk)), (s2, .inl (cI, 6, .inl be))] := hD
    refine lv_aload_n hx hb dX6_end_39 rfl (lv_at hl 1 rfl) ?_
    refine lv_iload_n hx hb dX6_end_40 rfl (lv_at hl 3 rfl) ?_
    refine va_put (D := D) (ci := 6) (v := .int tm) (ty := .int) (C := RX6) (T := TX6) (N := 5) hx hb hts in_X6 tyX6 tyX6_ok nmX6 hown hT.1 hP hD hS 0 rfl rfl 4 (by decide) (hts _ fl_RX6_25) (fun _ h9 => h9) rfl (by decide +kernel) rfl rfl (Nat.le_of_ble_eq_true rfl) dX6_end_41 (fun H locs hP hD hS => ?_)
    have hP : va_P D vwCl [(se, .inr (6, [.ref s1, .ref s2, .int go, .int (if 0 ≤ (pl - go) then pl - go else 0 - (pl - go)), .int tm])), (s1, .inl (cI, 6, .inl pk)), (s2, .inl (cI, 6, .inl be))] H := hP
    have hD : va_D A [(se, .inr (6, [.ref s1, .ref s2, .int go, .int (if 0 ≤ (pl - go) then pl - go else 0 - (pl - go)), .int tm])), (s1, .inl (cI, 6, .inl pk)), (s2, .inl (cI, 6, .inl be))] := hD
    refine lv_aload_n hx hb dX6_end_44 rfl (lv_at hl 1 rfl) ?_
    refine va_get (D := D) (ci := 6) (v := .ref s1) (C := RX6) (T := TX6) (N := 5) hx hb hts in_X6 hown hT.1 hP 0 rfl rfl 0 (by decide) (hts _ fl_RX6_9) (fun _ h9 => h9) rfl dX6_end_45 ?_
    refine lv_aload_n hx hb dX6_end_48 rfl (lv_at hl 1 rfl) ?_
    refine va_get (D := D) (ci := 6) (v := .ref s2) (C := RX6) (T := TX6) (N := 5) hx hb hts in_X6 hown hT.1 hP 0 rfl rfl 1 (by decide) (hts _ fl_RX6_15) (fun _ h9 => h9) rfl dX6_end_49 ?_
    refine kEM (st1 := []) S hT hP hD hS (c_X8_copy l D cI cZ s1 s2 6 pk be (by first | assumption | decide | omega)) rfl rfl mw_X8_copy ln_RX6_38 ⟨rfl, rfl, (Nat.le_of_ble_eq_true rfl), (Nat.le_of_ble_eq_true rfl), (Nat.le_of_ble_eq_true rfl), (Nat.le_of_ble_eq_true rfl)⟩ [1, 2] [s1, s2] (by decide) rfl rfl (fun _ => rfl) hl.1 (Nat.le_of_ble_eq_true rfl) dX6_end_52 (fun _ H locs _ hP hD hS => ?_)
    have hP : va_P D vwCl [(se, .inr (6, [.ref s1, .ref s2, .int go, .int (if 0 ≤ (pl - go) then pl - go else 0 - (pl - go)), .int tm])), (s1, .inl (cI, 6, .inl pk)), (s2, .inl (cI, 6, .inl pk))] H := hP
    have hD : va_D A [(se, .inr (6, [.ref s1, .ref s2, .int go, .int (if 0 ≤ (pl - go) then pl - go else 0 - (pl - go)), .int tm])), (s1, .inl (cI, 6, .inl pk)), (s2, .inl (cI, 6, .inl pk))] := hD
    have eo1 : s_X6_end_off go off thr pl tm = if 0 ≤ (pl - go) then pl - go else 0 - (pl - go) := (by unfold s_X6_end_off; rw [if_pos c1])
    have eo2 : s_X6_end_thr go off thr pl tm = tm := (by unfold s_X6_end_thr; rw [if_pos c1])
    have eo3 : s_X6_end_be go off thr pk be pl tm = pk := (by unfold s_X6_end_be; rw [if_pos c1])
    exact hret _ _ H locs () dX6_end_55  trivial (by show va_P D vwCl [(se, .inr (6, [.ref s1, .ref s2, .int go, .int (s_X6_end_off go off thr pl tm), .int (s_X6_end_thr go off thr pl tm)])), (s1, .inl (cI, 6, .inl pk)), (s2, .inl (cI, 6, .inl (s_X6_end_be go off thr pk be pl tm)))] H; rw [eo1, eo2, eo3]; exact hP) hS
  · refine lv_iload_n hx hb dX6_end_18 rfl (lv_at hl 0 rfl) ?_
    refine lv_aload_n hx hb dX6_end_19 rfl (lv_at hl 1 rfl) ?_
    refine va_get (D := D) (ci := 6) (v := .int off) (C := RX6) (T := TX6) (N := 5) hx hb hts in_X6 hown hT.1 hP 0 rfl rfl 3 (by decide) (hts _ fl_RX6_22) (fun _ h9 => h9) rfl dX6_end_20 ?_
    refine lv_icmp_ne (tgt := 55) hx hb dX6_end_23 (by decide) (fun c2 => ?_) (fun c2 => ?_)
    · have eo1 : s_X6_end_off go off thr pl tm = off := (by unfold s_X6_end_off; rw [if_neg c1, if_neg c2])
      have eo2 : s_X6_end_thr go off thr pl tm = thr := (by unfold s_X6_end_thr; rw [if_neg c1, if_neg c2])
      have eo3 : s_X6_end_be go off thr pk be pl tm = be := (by unfold s_X6_end_be; rw [if_neg c1, if_neg c2])
      exact hret _ _ s.heap [] () dX6_end_55  trivial (by show va_P D vwCl [(se, .inr (6, [.ref s1, .ref s2, .int go, .int (s_X6_end_off go off thr pl tm), .int (s_X6_end_thr go off thr pl tm)])), (s1, .inl (cI, 6, .inl pk)), (s2, .inl (cI, 6, .inl (s_X6_end_be go off thr pk be pl tm)))] s.heap; rw [eo1, eo2, eo3]; exact hP) hS
    · refine lv_iload_n hx hb dX6_end_26 rfl (lv_at hl 3 rfl) ?_
      refine lv_aload_n hx hb dX6_end_27 rfl (lv_at hl 1 rfl) ?_
      refine va_get (D := D) (ci := 6) (v := .int thr) (C := RX6) (T := TX6) (N := 5) hx hb hts in_X6 hown hT.1 hP 0 rfl rfl 4 (by decide) (hts _ fl_RX6_25) (fun _ h9 => h9) rfl dX6_end_28 ?_
      refine lv_icmp_ge (tgt := 55) hx hb dX6_end_31 (by decide) (fun c3 => ?_) (fun c3 => ?_)
      · have eo1 : s_X6_end_off go off thr pl tm = off := (by unfold s_X6_end_off; rw [if_neg c1, if_pos c2, if_pos c3])
        have eo2 : s_X6_end_thr go off thr pl tm = thr := (by unfold s_X6_end_thr; rw [if_neg c1, if_pos c2, if_pos c3])
        have eo3 : s_X6_end_be go off thr pk be pl tm = be := (by unfold s_X6_end_be; rw [if_neg c1, if_pos c2, if_pos c3])
        exact hret _ _ s.heap [] () dX6_end_55  trivial (by show va_P D vwCl [(se, .inr (6, [.ref s1, .ref s2, .int go, .int (s_X6_end_off go off thr pl tm), .int (s_X6_end_thr go off thr pl tm)])), (s1, .inl (cI, 6, .inl pk)), (s2, .inl (cI, 6, .inl (s_X6_end_be go off thr pk be pl tm)))] s.heap; rw [eo1, eo2, eo3]; exact hP) hS
      · refine lv_aload_n hx hb dX6_end_34 rfl (lv_at hl 1 rfl) ?_
        refine lv_iload_n hx hb dX6_end_35 rfl (lv_at hl 0 rfl) ?_
        refine va_put (D := D) (ci := 6) (v := .int (if 0 ≤ (pl - go) then pl - go else 0 - (pl - go))) (ty := .int) (C := RX6) (T := TX6) (N := 5) hx hb hts in_X6 tyX6 tyX6_ok nmX6 hown hT.1 hP hD hS 0 rfl rfl 3 (by decide) (hts _ fl_RX6_22) (fun _ h9 => h9) rfl (by decide +kernel) rfl rfl (Nat.le_of_ble_eq_true rfl) dX6_end_36 (fun H locs hP hD hS => ?_)
        have hP : va_P D vwCl [(se, .inr (6, [.ref s1, .ref s2, .int go, .int (if 0 ≤ (pl - go) then pl - go else 0 - (pl - go)), .int thr])), (s1, .inl (cI, 6, .inl pk)), (s2, .inl (cI, 6, .inl be))] H := hP
        have hD : va_D A [(se, .inr (6, [.ref s1, .ref s2, .int go, .int (if 0 ≤ (pl - go) then pl - go else 0 - (pl - go)), .int thr])), (s1, .inl (cI, 6, .inl pk)), (s2, .inl (cI, 6, .inl be))] := hD
        refine lv_aload_n hx hb dX6_end_39 rfl (lv_at hl 1 rfl) ?_
        refine lv_iload_n hx hb dX6_end_40 rfl (lv_at hl 3 rfl) ?_
        refine va_put (D := D) (ci := 6) (v := .int tm) (ty := .int) (C := RX6) (T := TX6) (N := 5) hx hb hts in_X6 tyX6 tyX6_ok nmX6 hown hT.1 hP hD hS 0 rfl rfl 4 (by decide) (hts _ fl_RX6_25) (fun _ h9 => h9) rfl (by decide +kernel) rfl rfl (Nat.le_of_ble_eq_true rfl) dX6_end_41 (fun H locs hP hD hS => ?_)
        have hP : va_P D vwCl [(se, .inr (6, [.ref s1, .ref s2, .int go, .int (if 0 ≤ (pl - go) then pl - go else 0 - (pl - go)), .int tm])), (s1, .inl (cI, 6, .inl pk)), (s2, .inl (cI, 6, .inl be))] H := hP
        have hD : va_D A [(se, .inr (6, [.ref s1, .ref s2, .int go, .int (if 0 ≤ (pl - go) then pl - go else 0 - (pl - go)), .int tm])), (s1, .inl (cI, 6, .inl pk)), (s2, .inl (cI, 6, .inl be))] := hD
        refine lv_aload_n hx hb dX6_end_44 rfl (lv_at hl 1 rfl) ?_
        refine va_get (D := D) (ci := 6) (v := .ref s1) (C := RX6) (T := TX6) (N := 5) hx hb hts in_X6 hown hT.1 hP 0 rfl rfl 0 (by decide) (hts _ fl_RX6_9) (fun _ h9 => h9) rfl dX6_end_45 ?_
        refine lv_aload_n hx hb dX6_end_48 rfl (lv_at hl 1 rfl) ?_
        refine va_get (D := D) (ci := 6) (v := .ref s2) (C := RX6) (T := TX6) (N := 5) hx hb hts in_X6 hown hT.1 hP 0 rfl rfl 1 (by decide) (hts _ fl_RX6_15) (fun _ h9 => h9) rfl dX6_end_49 ?_
        refine kEM (st1 := []) S hT hP hD hS (c_X8_copy l D cI cZ s1 s2 6 pk be (by first | assumption | decide | omega)) rfl rfl mw_X8_copy ln_RX6_38 ⟨rfl, rfl, (Nat.le_of_ble_eq_true rfl), (Nat.le_of_ble_eq_true rfl), (Nat.le_of_ble_eq_true rfl), (Nat.le_of_ble_eq_true rfl)⟩ [1, 2] [s1, s2] (by decide) rfl rfl (fun _ => rfl) hl.1 (Nat.le_of_ble_eq_true rfl) dX6_end_52 (fun _ H locs _ hP hD hS => ?_)
        have hP : va_P D vwCl [(se, .inr (6, [.ref s1, .ref s2, .int go, .int (if 0 ≤ (pl - go) then pl - go else 0 - (pl - go)), .int tm])), (s1, .inl (cI, 6, .inl pk)), (s2, .inl (cI, 6, .inl pk))] H := hP
        have hD : va_D A [(se, .inr (6, [.ref s1, .ref s2, .int go, .int (if 0 ≤ (pl - go) then pl - go else 0 - (pl - go)), .int tm])), (s1, .inl (cI, 6, .inl pk)), (s2, .inl (cI, 6, .inl pk))] := hD
        have eo1 : s_X6_end_off go off thr pl tm = if 0 ≤ (pl - go) then pl - go else 0 - (pl - go) := (by unfold s_X6_end_off; rw [if_neg c1, if_pos c2, if_neg c3])
        have eo2 : s_X6_end_thr go off thr pl tm = tm := (by unfold s_X6_end_thr; rw [if_neg c1, if_pos c2, if_neg c3])
        have eo3 : s_X6_end_be go off thr pk be pl tm = pk := (by unfold s_X6_end_be; rw [if_neg c1, if_pos c2, if_neg c3])
        exact hret _ _ H locs () dX6_end_55  trivial (by show va_P D vwCl [(se, .inr (6, [.ref s1, .ref s2, .int go, .int (s_X6_end_off go off thr pl tm), .int (s_X6_end_thr go off thr pl tm)])), (s1, .inl (cI, 6, .inl pk)), (s2, .inl (cI, 6, .inl (s_X6_end_be go off thr pk be pl tm)))] H; rw [eo1, eo2, eo3]; exact hP) hS
abbrev rm_X6_off : Room := { frames := 0, cells := 0, slots := 0, locals := 0 }
set_option maxRecDepth 100000 in
set_option maxHeartbeats 4000000 in
theorem c_X6_off (l : Launch) (D : va_G) (cI cZ : ClassId) (se s1 s2 : Nat) (go off thr : Int32) (pk be : Nat → Int32) : Met l yX6_off [.code yX6_off cX6_off 1 (some .int)] rm_X6_off (PcR D cI cZ [.ref se] [(se, .inr (6, [.ref s1, .ref s2, .int go, .int off, .int thr])), (s1, .inl (cI, 6, .inl pk)), (s2, .inl (cI, 6, .inl be))]) (QcR (some (.int off))) 0 0 zN := by
  refine mtRi (by decide) (Nat.le_of_ble_eq_true rfl) (fun p e s m args below meth c Q S hT hP hret ls hl => ?_)
  have S : CallFix p m c cX6_off 1 s args zt RX6 := S
  obtain ⟨hx, hb, hml, hown, hts⟩ := id S
  have hl : lv_has ls 1 [(0, .ref se)] := hl
  refine lv_aload_n hx hb dX6_off_0 rfl (lv_at hl 0 rfl) ?_
  refine va_get (D := D) (ci := 6) (v := .int off) (C := RX6) (T := TX6) (N := 5) hx hb hts in_X6 hown hT.1 hP 0 rfl rfl 3 (by decide) (hts _ fl_RX6_22) (fun _ h9 => h9) rfl dX6_off_1 ?_
  exact hret _ _ _ dX6_off_4 rfl
abbrev rm_X6_chosen : Room := { frames := 1, cells := 0, slots := 0, locals := 21 }
set_option maxRecDepth 100000 in
set_option maxHeartbeats 4000000 in
theorem c_X6_chosen (l : Launch) (D : va_G) (cI cZ : ClassId) (se s1 s2 : Nat) (go off thr : Int32) (pk be : Nat → Int32) (q : Int32) : Met l yX6_chosen [.code yX6_chosen cX6_chosen 2 (some .int)] rm_X6_chosen (PcR D cI cZ [.ref se, .int q] [(se, .inr (6, [.ref s1, .ref s2, .int go, .int off, .int thr])), (s1, .inl (cI, 6, .inl pk)), (s2, .inl (cI, 6, .inl be))]) (QcR (some (.int (s_X8_cell 6 be q)))) 0 0 zN := by
  refine mtRi (by decide) (Nat.le_of_ble_eq_true rfl) (fun p e s m args below meth c Q S hT hP hret ls hl => ?_)
  have S : CallFix p m c cX6_chosen 2 s args zt RX6 := S
  obtain ⟨hx, hb, hml, hown, hts⟩ := id S
  have hl : lv_has ls 2 [(0, .ref se), (1, .int q)] := hl
  refine lv_aload_n hx hb dX6_chosen_0 rfl (lv_at hl 0 rfl) ?_
  refine va_get (D := D) (ci := 6) (v := .ref s2) (C := RX6) (T := TX6) (N := 5) hx hb hts in_X6 hown hT.1 hP 0 rfl rfl 1 (by decide) (hts _ fl_RX6_15) (fun _ h9 => h9) rfl dX6_chosen_1 ?_
  refine lv_iload_n hx hb dX6_chosen_4 rfl (lv_at hl 1 rfl) ?_
  refine kRM (st1 := [.int (s_X8_cell 6 be q)]) S hT hP (c_X8_cell l D cI cZ s2 6 be q (by first | assumption | decide | omega)) rfl rfl mw_X8_cell ln_RX6_42 ⟨rfl, rfl, (Nat.le_of_ble_eq_true rfl), (Nat.le_of_ble_eq_true rfl), (Nat.le_of_ble_eq_true rfl), (Nat.le_of_ble_eq_true rfl)⟩ [2] rfl hl.1 (Nat.le_of_ble_eq_true rfl) dX6_chosen_5 ?_
  exact hret _ _ _ dX6_chosen_8 rfl
