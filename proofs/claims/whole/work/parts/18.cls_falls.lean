abbrev rm_X3_clear : Room := { frames := 0, cells := 0, slots := 0, locals := 0 }
set_option maxRecDepth 100000 in
set_option maxHeartbeats 4000000 in
theorem c_X3_clear (l : Launch) (D : va_G) (cI cZ : ClassId) (fa ff : Nat) (fn : Int32) (fp : Nat → Int32) : Met l yX3_clear [.code yX3_clear cX3_clear 1 none] rm_X3_clear (PcW D cI cZ [.ref fa] [(fa, .inr (3, [.ref ff, .int fn])), (ff, .inl (cI, 6, .inl fp))]) (QcE D (S := Unit) none (fun _ => True) (fun _ => [(fa, .inr (3, [.ref ff, .int 0])), (ff, .inl (cI, 6, .inl fp))]) (zA [(fa, .inr (3, [.ref ff, .int fn])), (ff, .inl (cI, 6, .inl fp))])) 0 0 (zA [(fa, .inr (3, [.ref ff, .int fn])), (ff, .inl (cI, 6, .inl fp))]) := by
  refine mtWv (by decide) (Nat.le_of_ble_eq_true rfl) (fun p e s m args below meth c Q A S hT hP hD hS hret ls hl => ?_)
  have S : CallFix p m c cX3_clear 1 s args zt RX3 := S
  obtain ⟨hx, hb, hml, hown, hts⟩ := id S
  have hl : lv_has ls 1 [(0, .ref fa)] := hl
  refine lv_aload_n hx hb dX3_clear_0 rfl (lv_at hl 0 rfl) ?_
  refine lv_iconst (v := 0) hx hb dX3_clear_1 (by decide) ?_
  refine va_put (D := D) (ci := 3) (v := .int 0) (ty := .int) (C := RX3) (T := TX3) (N := 2) hx hb hts in_X3 tyX3 tyX3_ok nmX3 hown hT.1 hP hD hS 0 rfl rfl 1 (by decide) (hts _ fl_RX3_15) (fun _ h9 => h9) rfl (by decide +kernel) rfl rfl (Nat.le_of_ble_eq_true rfl) dX3_clear_2 (fun H locs hP hD hS => ?_)
  have hP : va_P D vwCl [(fa, .inr (3, [.ref ff, .int 0])), (ff, .inl (cI, 6, .inl fp))] H := hP
  have hD : va_D A [(fa, .inr (3, [.ref ff, .int 0])), (ff, .inl (cI, 6, .inl fp))] := hD
  exact hret _ _ H locs () dX3_clear_5  trivial hP hS
def s_X3_note_fn (fn : Int32) (t : Int32) : Int32 := if s_X8_within t 0 5 = 0 then fn else fn ||| (1 <<< (t &&& 31))
def s_X3_note_fp (fp : Nat → Int32) (t : Int32) (pl : Int32) : Nat → Int32 := if s_X8_within t 0 5 = 0 then fp else s_X8_put_f 6 fp t pl
abbrev rm_X3_note : Room := { frames := 2, cells := 0, slots := 0, locals := 42 }
set_option maxRecDepth 100000 in
set_option maxHeartbeats 4000000 in
theorem c_X3_note (l : Launch) (D : va_G) (cI cZ : ClassId) (fa ff : Nat) (fn : Int32) (fp : Nat → Int32) (t pl : Int32) : Met l yX3_note [.code yX3_note cX3_note 3 none] rm_X3_note (PcW D cI cZ [.ref fa, .int t, .int pl] [(fa, .inr (3, [.ref ff, .int fn])), (ff, .inl (cI, 6, .inl fp))]) (QcE D (S := Unit) none (fun _ => True) (fun _ => [(fa, .inr (3, [.ref ff, .int (s_X3_note_fn fn t)])), (ff, .inl (cI, 6, .inl (s_X3_note_fp fp t pl)))]) (zA [(fa, .inr (3, [.ref ff, .int fn])), (ff, .inl (cI, 6, .inl fp))])) 0 0 (zA [(fa, .inr (3, [.ref ff, .int fn])), (ff, .inl (cI, 6, .inl fp))]) := by
  refine mtWv (by decide) (Nat.le_of_ble_eq_true rfl) (fun p e s m args below meth c Q A S hT hP hD hS hret ls hl => ?_)
  have S : CallFix p m c cX3_note 3 s args zt RX3 := S
  obtain ⟨hx, hb, hml, hown, hts⟩ := id S
  have hl : lv_has ls 3 [(0, .ref fa), (1, .int t), (2, .int pl)] := hl
  refine lv_iload_n hx hb dX3_note_0 rfl (lv_at hl 1 rfl) ?_
  refine kRM (st1 := [.int (s_X8_within t 0 5)]) S hT hP (c_X8_isThing l D cI cZ t) rfl rfl mw_X8_isThing ln_RX3_19 ⟨rfl, rfl, (Nat.le_of_ble_eq_true rfl), (Nat.le_of_ble_eq_true rfl), (Nat.le_of_ble_eq_true rfl), (Nat.le_of_ble_eq_true rfl)⟩ [] rfl hl.1 (Nat.le_of_ble_eq_true rfl) dX3_note_1 ?_
  refine lv_if_eq (tgt := 28) hx hb dX3_note_4 (by decide) (fun c1 => ?_) (fun c1 => ?_)
  · have eo1 : s_X3_note_fn fn t = fn := (by unfold s_X3_note_fn; rw [if_pos c1])
    have eo2 : s_X3_note_fp fp t pl = fp := (by unfold s_X3_note_fp; rw [if_pos c1])
    exact hret _ _ s.heap [] () dX3_note_28  trivial (by show va_P D vwCl [(fa, .inr (3, [.ref ff, .int (s_X3_note_fn fn t)])), (ff, .inl (cI, 6, .inl (s_X3_note_fp fp t pl)))] s.heap; rw [eo1, eo2]; exact hP) hS
  · refine lv_aload_n hx hb dX3_note_7 rfl (lv_at hl 0 rfl) ?_
    refine va_get (D := D) (ci := 3) (v := .ref ff) (C := RX3) (T := TX3) (N := 2) hx hb hts in_X3 hown hT.1 hP 0 rfl rfl 0 (by decide) (hts _ fl_RX3_9) (fun _ h9 => h9) rfl dX3_note_8 ?_
    refine lv_iload_n hx hb dX3_note_11 rfl (lv_at hl 1 rfl) ?_
    refine lv_iload_n hx hb dX3_note_12 rfl (lv_at hl 2 rfl) ?_
    refine kEM (st1 := []) S hT hP hD hS (c_X8_put l D cI cZ ff 6 fp t pl (by first | assumption | decide | omega)) rfl rfl mw_X8_put ln_RX3_23 ⟨rfl, rfl, (Nat.le_of_ble_eq_true rfl), (Nat.le_of_ble_eq_true rfl), (Nat.le_of_ble_eq_true rfl), (Nat.le_of_ble_eq_true rfl)⟩ [1] [ff] (by decide) rfl rfl (fun _ => rfl) hl.1 (Nat.le_of_ble_eq_true rfl) dX3_note_13 (fun _ H locs _ hP hD hS => ?_)
    have hP : va_P D vwCl [(fa, .inr (3, [.ref ff, .int fn])), (ff, .inl (cI, 6, .inl (s_X8_put_f 6 fp t pl)))] H := hP
    have hD : va_D A [(fa, .inr (3, [.ref ff, .int fn])), (ff, .inl (cI, 6, .inl (s_X8_put_f 6 fp t pl)))] := hD
    refine lv_aload_n hx hb dX3_note_16 rfl (lv_at hl 0 rfl) ?_
    refine lv_dup hx hb dX3_note_17 rfl ?_
    refine va_get (D := D) (ci := 3) (v := .int fn) (C := RX3) (T := TX3) (N := 2) hx hb hts in_X3 hown hT.1 hP 0 rfl rfl 1 (by decide) (hts _ fl_RX3_15) (fun _ h9 => h9) rfl dX3_note_18 ?_
    refine lv_iconst (v := 1) hx hb dX3_note_21 (by decide) ?_
    refine lv_iload_n hx hb dX3_note_22 rfl (lv_at hl 1 rfl) ?_
    refine lv_ishl hx hb dX3_note_23 ?_
    refine lv_ior hx hb dX3_note_24 ?_
    refine va_put (D := D) (ci := 3) (v := .int (fn ||| (1 <<< (t &&& 31)))) (ty := .int) (C := RX3) (T := TX3) (N := 2) hx hb hts in_X3 tyX3 tyX3_ok nmX3 hown hT.1 hP hD hS 0 rfl rfl 1 (by decide) (hts _ fl_RX3_15) (fun _ h9 => h9) rfl (by decide +kernel) rfl rfl (Nat.le_of_ble_eq_true rfl) dX3_note_25 (fun H locs hP hD hS => ?_)
    have hP : va_P D vwCl [(fa, .inr (3, [.ref ff, .int (fn ||| (1 <<< (t &&& 31)))])), (ff, .inl (cI, 6, .inl (s_X8_put_f 6 fp t pl)))] H := hP
    have hD : va_D A [(fa, .inr (3, [.ref ff, .int (fn ||| (1 <<< (t &&& 31)))])), (ff, .inl (cI, 6, .inl (s_X8_put_f 6 fp t pl)))] := hD
    have eo1 : s_X3_note_fn fn t = fn ||| (1 <<< (t &&& 31)) := (by unfold s_X3_note_fn; rw [if_neg c1])
    have eo2 : s_X3_note_fp fp t pl = s_X8_put_f 6 fp t pl := (by unfold s_X3_note_fp; rw [if_neg c1])
    exact hret _ _ H locs () dX3_note_28  trivial (by show va_P D vwCl [(fa, .inr (3, [.ref ff, .int (s_X3_note_fn fn t)])), (ff, .inl (cI, 6, .inl (s_X3_note_fp fp t pl)))] H; rw [eo1, eo2]; exact hP) hS
def s_X3_saw (fn : Int32) (fp : Nat → Int32) (t : Int32) (pl : Int32) : Int32 := if s_X8_has fn t = 0 then 0 else (if s_X8_cell 6 fp t = pl then 1 else 0)
abbrev rm_X3_saw : Room := { frames := 1, cells := 0, slots := 0, locals := 21 }
set_option maxRecDepth 100000 in
set_option maxHeartbeats 4000000 in
theorem c_X3_saw (l : Launch) (D : va_G) (cI cZ : ClassId) (fa ff : Nat) (fn : Int32) (fp : Nat → Int32) (t pl : Int32) : Met l yX3_saw [.code yX3_saw cX3_saw 3 (some .boolean)] rm_X3_saw (PcR D cI cZ [.ref fa, .int t, .int pl] [(fa, .inr (3, [.ref ff, .int fn])), (ff, .inl (cI, 6, .inl fp))]) (QcR (some (.int (s_X3_saw fn fp t pl)))) 0 0 zN := by
  refine mtRz (by first | rfl | (unfold s_X3_saw; repeat (first | rfl | split))) (by decide) (Nat.le_of_ble_eq_true rfl) (fun p e s m args below meth c Q S hT hP hret ls hl => ?_)
  have S : CallFix p m c cX3_saw 3 s args zt RX3 := S
  obtain ⟨hx, hb, hml, hown, hts⟩ := id S
  have hl : lv_has ls 3 [(0, .ref fa), (1, .int t), (2, .int pl)] := hl
  refine lv_aload_n hx hb dX3_saw_0 rfl (lv_at hl 0 rfl) ?_
  refine va_get (D := D) (ci := 3) (v := .int fn) (C := RX3) (T := TX3) (N := 2) hx hb hts in_X3 hown hT.1 hP 0 rfl rfl 1 (by decide) (hts _ fl_RX3_15) (fun _ h9 => h9) rfl dX3_saw_1 ?_
  refine lv_iload_n hx hb dX3_saw_4 rfl (lv_at hl 1 rfl) ?_
  refine kRM (st1 := [.int (s_X8_has fn t)]) S hT hP (c_X8_has l D cI cZ fn t) rfl rfl mw_X8_has ln_RX3_27 ⟨rfl, rfl, (Nat.le_of_ble_eq_true rfl), (Nat.le_of_ble_eq_true rfl), (Nat.le_of_ble_eq_true rfl), (Nat.le_of_ble_eq_true rfl)⟩ [] rfl hl.1 (Nat.le_of_ble_eq_true rfl) dX3_saw_5 ?_
  refine lv_if_eq (tgt := 27) hx hb dX3_saw_8 (by decide) (fun c1 => ?_) (fun c1 => ?_)
  · refine lv_iconst (v := 0) hx hb dX3_saw_27 (by decide) ?_
    exact hret _ _ _ dX3_saw_28 (by unfold s_X3_saw; rw [if_pos c1])
  · refine lv_aload_n hx hb dX3_saw_11 rfl (lv_at hl 0 rfl) ?_
    refine va_get (D := D) (ci := 3) (v := .ref ff) (C := RX3) (T := TX3) (N := 2) hx hb hts in_X3 hown hT.1 hP 0 rfl rfl 0 (by decide) (hts _ fl_RX3_9) (fun _ h9 => h9) rfl dX3_saw_12 ?_
    refine lv_iload_n hx hb dX3_saw_15 rfl (lv_at hl 1 rfl) ?_
    refine kRM (st1 := [.int (s_X8_cell 6 fp t)]) S hT hP (c_X8_cell l D cI cZ ff 6 fp t (by first | assumption | decide | omega)) rfl rfl mw_X8_cell ln_RX3_31 ⟨rfl, rfl, (Nat.le_of_ble_eq_true rfl), (Nat.le_of_ble_eq_true rfl), (Nat.le_of_ble_eq_true rfl), (Nat.le_of_ble_eq_true rfl)⟩ [1] rfl hl.1 (Nat.le_of_ble_eq_true rfl) dX3_saw_16 ?_
    refine lv_iload_n hx hb dX3_saw_19 rfl (lv_at hl 2 rfl) ?_
    refine lv_icmp_ne (tgt := 27) hx hb dX3_saw_20 (by decide) (fun c2 => ?_) (fun c2 => ?_)
    · refine lv_iconst (v := 0) hx hb dX3_saw_27 (by decide) ?_
      exact hret _ _ _ dX3_saw_28 (by unfold s_X3_saw; rw [if_neg c1, if_neg c2])
    · refine lv_iconst (v := 1) hx hb dX3_saw_23 (by decide) ?_
      refine lv_goto (tgt := 28) hx hb dX3_saw_24 (by decide) ?_
      exact hret _ _ _ dX3_saw_28 (by unfold s_X3_saw; rw [if_neg c1, if_pos c2])
