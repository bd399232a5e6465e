def s_X8_wind (wd : Nat → Int32) (hh : Int32) (lt : Int32) (v : Int32) : Int32 := if s_X8_within hh 0 4 = 0 then (-1) else (if s_X8_within lt 0 1 = 0 then (-2) else (if (s_X8_within v (-9) 9) = 0 then (-2) else (s_X8_cell 10 wd ((lt * 5) + hh)) + 100))
def s_X8_wind_wd (wd : Nat → Int32) (hh : Int32) (lt : Int32) (v : Int32) : Nat → Int32 := if s_X8_within hh 0 4 = 0 then wd else (if s_X8_within lt 0 1 = 0 then wd else (if (s_X8_within v (-9) 9) = 0 then wd else s_X8_put_f 10 wd ((lt * 5) + hh) v))
abbrev rm_X8_wind : Room := { frames := 2, cells := 0, slots := 0, locals := 45 }
set_option maxRecDepth 100000 in
set_option maxHeartbeats 4000000 in
theorem c_X8_wind (l : Launch) (D : va_G) (cI cZ : ClassId) (x h h0 h1 pd bb bbr pp ch se cc fa hn hw ht hs hp sn : Nat) (kp : Int32) (nm wd wt sT sP : Nat → Int32) (hh lt v : Int32) : Met l yX8_wind [.code yX8_wind cX8_wind 5 (some .int)] rm_X8_wind (PcW D cI cZ [.ref x, .int hh, .int lt, .int v] [(x, .inr (8, [.ref h, .ref h0, .ref h1, .ref pd, .ref bb, .ref bbr, .ref pp, .ref ch, .ref se, .ref cc, .ref fa])), (h, .inr (7, [.ref hn, .ref hw, .ref ht, .ref hs, .ref hp, .int (nI sn), .int kp])), (hn, .inl (cI, 6, .inl nm)), (hw, .inl (cI, 10, .inl wd)), (ht, .inl (cI, 6, .inl wt)), (hs, .inl (cI, 6, .inl sT)), (hp, .inl (cI, 6, .inl sP))]) (QcE D (S := Unit) (some (.int (s_X8_wind wd hh lt v))) (fun _ => True) (fun _ => [(x, .inr (8, [.ref h, .ref h0, .ref h1, .ref pd, .ref bb, .ref bbr, .ref pp, .ref ch, .ref se, .ref cc, .ref fa])), (h, .inr (7, [.ref hn, .ref hw, .ref ht, .ref hs, .ref hp, .int (nI sn), .int kp])), (hn, .inl (cI, 6, .inl nm)), (hw, .inl (cI, 10, .inl (s_X8_wind_wd wd hh lt v))), (ht, .inl (cI, 6, .inl wt)), (hs, .inl (cI, 6, .inl sT)), (hp, .inl (cI, 6, .inl sP))]) (zA [(x, .inr (8, [.ref h, .ref h0, .ref h1, .ref pd, .ref bb, .ref bbr, .ref pp, .ref ch, .ref se, .ref cc, .ref fa])), (h, .inr (7, [.ref hn, .ref hw, .ref ht, .ref hs, .ref hp, .int (nI sn), .int kp])), (hn, .inl (cI, 6, .inl nm)), (hw, .inl (cI, 10, .inl wd)), (ht, .inl (cI, 6, .inl wt)), (hs, .inl (cI, 6, .inl sT)), (hp, .inl (cI, 6, .inl sP))])) 0 0 (zA [(x, .inr (8, [.ref h, .ref h0, .ref h1, .ref pd, .ref bb, .ref bbr, .ref pp, .ref ch, .ref se, .ref cc, .ref fa])), (h, .inr (7, [.ref hn, .ref hw, .ref ht, .ref hs, .ref hp, .int (nI sn), .int kp])), (hn, .inl (cI, 6, .inl nm)), (hw, .inl (cI, 10, .inl wd)), (ht, .inl (cI, 6, .inl wt)), (hs, .inl (cI, 6, .inl sT)), (hp, .inl (cI, 6, .inl sP))]) := by
  refine mtWi (by decide) (Nat.le_of_ble_eq_true rfl) (fun p e s m args below meth c Q A S hT hP hD hS hret ls hl => ?_)
  have S : CallFix p m c cX8_wind 5 s args zt RX8 := S
  obtain ⟨hx, hb, hml, hown, hts⟩ := id S
  have hl : lv_has ls 5 [(0, .ref x), (1, .int hh), (2, .int lt), (3, .int v)] := hl
  refine lv_iload_n hx hb dX8_wind_0 rfl (lv_at hl 1 rfl) ?_
  refine lv_iconst (v := 0) hx hb dX8_wind_1 (by decide) ?_
  refine lv_iconst (v := 4) hx hb dX8_wind_2 (by decide) ?_
  refine kRS (st1 := [.int (s_X8_within hh 0 4)]) S hT hP (c_X8_within l D cI cZ hh 0 4) rfl rfl mw_X8_within lk_RX8_74 ⟨rfl, rfl, (Nat.le_of_ble_eq_true rfl), (Nat.le_of_ble_eq_true rfl), (Nat.le_of_ble_eq_true rfl), (Nat.le_of_ble_eq_true rfl)⟩ [] rfl hl.1 (Nat.le_of_ble_eq_true rfl) dX8_wind_3 ?_
  refine lv_if_ne (tgt := 11) hx hb dX8_wind_6 (by decide) (fun c1 => ?_) (fun c1 => ?_)
  · refine lv_iload_n hx hb dX8_wind_11 rfl (lv_at hl 2 rfl) ?_
    refine lv_iconst (v := 0) hx hb dX8_wind_12 (by decide) ?_
    refine lv_iconst (v := 1) hx hb dX8_wind_13 (by decide) ?_
    refine kRS (st1 := [.int (s_X8_within lt 0 1)]) S hT hP (c_X8_within l D cI cZ lt 0 1) rfl rfl mw_X8_within lk_RX8_74 ⟨rfl, rfl, (Nat.le_of_ble_eq_true rfl), (Nat.le_of_ble_eq_true rfl), (Nat.le_of_ble_eq_true rfl), (Nat.le_of_ble_eq_true rfl)⟩ [] rfl hl.1 (Nat.le_of_ble_eq_true rfl) dX8_wind_14 ?_
    refine lv_if_eq (tgt := 31) hx hb dX8_wind_17 (by decide) (fun c2 => ?_) (fun c2 => ?_)
    · refine lv_bipush (v := (-2)) hx hb dX8_wind_31 (by decide) ?_
      have eo1 : s_X8_wind_wd wd hh lt v = wd := (by unfold s_X8_wind_wd; rw [if_neg c1, if_pos c2])
      exact hret _ _ _ s.heap [] () dX8_wind_33 (by unfold s_X8_wind; rw [if_neg c1, if_pos c2]) trivial (by show va_P D vwCl [(x, .inr (8, [.ref h, .ref h0, .ref h1, .ref pd, .ref bb, .ref bbr, .ref pp, .ref ch, .ref se, .ref cc, .ref fa])), (h, .inr (7, [.ref hn, .ref hw, .ref ht, .ref hs, .ref hp, .int (nI sn), .int kp])), (hn, .inl (cI, 6, .inl nm)), (hw, .inl (cI, 10, .inl (s_X8_wind_wd wd hh lt v))), (ht, .inl (cI, 6, .inl wt)), (hs, .inl (cI, 6, .inl sT)), (hp, .inl (cI, 6, .inl sP))] s.heap; rw [eo1]; exact hP) hS
    · refine lv_iload_n hx hb dX8_wind_20 rfl (lv_at hl 3 rfl) ?_
      refine lv_bipush (v := (-9)) hx hb dX8_wind_21 (by decide) ?_
      refine lv_bipush (v := 9) hx hb dX8_wind_23 (by decide) ?_
      refine kRS (st1 := [.int (s_X8_within v (-9) 9)]) S hT hP (c_X8_within l D cI cZ v (-9) 9) rfl rfl mw_X8_within lk_RX8_74 ⟨rfl, rfl, (Nat.le_of_ble_eq_true rfl), (Nat.le_of_ble_eq_true rfl), (Nat.le_of_ble_eq_true rfl), (Nat.le_of_ble_eq_true rfl)⟩ [] rfl hl.1 (Nat.le_of_ble_eq_true rfl) dX8_wind_25 ?_
      refine lv_if_ne (tgt := 34) hx hb dX8_wind_28 (by decide) (fun c3 => ?_) (fun c3 => ?_)
      · refine lv_aload_n hx hb dX8_wind_34 rfl (lv_at hl 0 rfl) ?_
        refine va_get (D := D) (ci := 8) (v := .ref h) (C := RX8) (T := TX8) (N := 11) hx hb hts in_X8 hown hT.1 hP 0 rfl rfl 0 (by decide) (hts _ fl_RX8_12) (fun _ h9 => h9) rfl dX8_wind_35 ?_
        refine lv_iload_n hx hb dX8_wind_38 rfl (lv_at hl 1 rfl) ?_
        refine lv_iload_n hx hb dX8_wind_39 rfl (lv_at hl 2 rfl) ?_
        refine kRV (q0 := 1) (st1 := [.int (s_X8_cell 10 wd ((lt * 5) + hh))]) S hT hP (c_X7_windAt l D cI cZ h hn hw ht hs hp sn kp nm wd wt sT sP hh lt) rfl rfl mw_X7_windAt lk_RX8_78 ⟨rfl, rfl, (Nat.le_of_ble_eq_true rfl), (Nat.le_of_ble_eq_true rfl), (Nat.le_of_ble_eq_true rfl), (Nat.le_of_ble_eq_true rfl)⟩ [1, 2, 3, 4, 5, 6] rfl rfl rfl hl.1 (Nat.le_of_ble_eq_true rfl) dX8_wind_40 ?_
        refine lv_istore (lv' := [(4, .int (s_X8_cell 10 wd ((lt * 5) + hh))), (0, .ref x), (1, .int hh), (2, .int lt), (3, .int v)]) hx hb dX8_wind_43 hl (by decide) rfl (fun ls hl => ?_)
        refine lv_aload_n hx hb dX8_wind_45 rfl (lv_at hl 1 rfl) ?_
        refine va_get (D := D) (ci := 8) (v := .ref h) (C := RX8) (T := TX8) (N := 11) hx hb hts in_X8 hown hT.1 hP 0 rfl rfl 0 (by decide) (hts _ fl_RX8_12) (fun _ h9 => h9) rfl dX8_wind_46 ?_
        refine lv_iload_n hx hb dX8_wind_49 rfl (lv_at hl 2 rfl) ?_
        refine lv_iload_n hx hb dX8_wind_50 rfl (lv_at hl 3 rfl) ?_
        refine lv_iload_n hx hb dX8_wind_51 rfl (lv_at hl 4 rfl) ?_
        refine kEV (q0 := 1) (st1 := []) S hT hP hD hS (c_X7_changeWind l D cI cZ h hn hw ht hs hp sn kp nm wd wt sT sP hh lt v) rfl rfl mw_X7_changeWind lk_RX8_82 ⟨rfl, rfl, (Nat.le_of_ble_eq_true rfl), (Nat.le_of_ble_eq_true rfl), (Nat.le_of_ble_eq_true rfl), (Nat.le_of_ble_eq_true rfl)⟩ [1, 2, 3, 4, 5, 6] [h, hn, hw, ht, hs, hp] (by decide) rfl rfl (fun _ => rfl) rfl rfl hl.1 (Nat.le_of_ble_eq_true rfl) dX8_wind_52 (fun _ H locs _ hP hD hS => ?_)
        have hP : va_P D vwCl [(x, .inr (8, [.ref h, .ref h0, .ref h1, .ref pd, .ref bb, .ref bbr, .ref pp, .ref ch, .ref se, .ref cc, .ref fa])), (h, .inr (7, [.ref hn, .ref hw, .ref ht, .ref hs, .ref hp, .int (nI sn), .int kp])), (hn, .inl (cI, 6, .inl nm)), (hw, .inl (cI, 10, .inl (s_X8_put_f 10 wd ((lt * 5) + hh) v))), (ht, .inl (cI, 6, .inl wt)), (hs, .inl (cI, 6, .inl sT)), (hp, .inl (cI, 6, .inl sP))] H := hP
        have hD : va_D A [(x, .inr (8, [.ref h, .ref h0, .ref h1, .ref pd, .ref bb, .ref bbr, .ref pp, .ref ch, .ref se, .ref cc, .ref fa])), (h, .inr (7, [.ref hn, .ref hw, .ref ht, .ref hs, .ref hp, .int (nI sn), .int kp])), (hn, .inl (cI, 6, .inl nm)), (hw, .inl (cI, 10, .inl (s_X8_put_f 10 wd ((lt * 5) + hh) v))), (ht, .inl (cI, 6, .inl wt)), (hs, .inl (cI, 6, .inl sT)), (hp, .inl (cI, 6, .inl sP))] := hD
        refine lv_iload hx hb dX8_wind_55 (lv_at hl 0 rfl) ?_
        refine lv_bipush (v := 100) hx hb dX8_wind_57 (by decide) ?_
        refine lv_iadd hx hb dX8_wind_59 ?_
        have eo1 : s_X8_wind_wd wd hh lt v = s_X8_put_f 10 wd ((lt * 5) + hh) v := (by unfold s_X8_wind_wd; rw [if_neg c1, if_neg c2, if_neg c3])
        exact hret _ _ _ H locs () dX8_wind_60 (by unfold s_X8_wind; rw [if_neg c1, if_neg c2, if_neg c3]) trivial (by show va_P D vwCl [(x, .inr (8, [.ref h, .ref h0, .ref h1, .ref pd, .ref bb, .ref bbr, .ref pp, .ref ch, .ref se, .ref cc, .ref fa])), (h, .inr (7, [.ref hn, .ref hw, .ref ht, .ref hs, .ref hp, .int (nI sn), .int kp])), (hn, .inl (cI, 6, .inl nm)), (hw, .inl (cI, 10, .inl (s_X8_wind_wd wd hh lt v))), (ht, .inl (cI, 6, .inl wt)), (hs, .inl (cI, 6, .inl sT)), (hp, .inl (cI, 6, .inl sP))] H; rw [eo1]; exact hP) hS
      · refine lv_bipush (v := (-2)) hx hb dX8_wind_31 (by decide) ?_
        have eo1 : s_X8_wind_wd wd hh lt v = wd := (by unfold s_X8_wind_wd; rw [if_neg c1, if_neg c2, if_pos c3])
        exact hret _ _ _ s.heap [] () dX8_wind_33 (by unfold s_X8_wind; rw [if_neg c1, if_neg c2, if_pos c3]) trivial (by show va_P D vwCl [(x, .inr (8, [.ref h, .ref h0, .ref h1, .ref pd, .ref bb, .ref bbr, .ref pp, .ref ch, .ref se, .ref cc, .ref fa])), (h, .inr (7, [.ref hn, .ref hw, .ref ht, .ref hs, .ref hp, .int (nI sn), .int kp])), (hn, .inl (cI, 6, .inl nm)), (hw, .inl (cI, 10, .inl (s_X8_wind_wd wd hh lt v))), (ht, .inl (cI, 6, .inl wt)), (hs, .inl (cI, 6, .inl sT)), (hp, .inl (cI, 6, .inl sP))] s.heap; rw [eo1]; exact hP) hS
  · refine lv_iconst (v := (-1)) hx hb dX8_wind_9 (by decide) ?_
    have eo1 : s_X8_wind_wd wd hh lt v = wd := (by unfold s_X8_wind_wd; rw [if_pos c1])
    exact hret _ _ _ s.heap [] () dX8_wind_10 (by unfold s_X8_wind; rw [if_pos c1]) trivial (by show va_P D vwCl [(x, .inr (8, [.ref h, .ref h0, .ref h1, .ref pd, .ref bb, .ref bbr, .ref pp, .ref ch, .ref se, .ref cc, .ref fa])), (h, .inr (7, [.ref hn, .ref hw, .ref ht, .ref hs, .ref hp, .int (nI sn), .int kp])), (hn, .inl (cI, 6, .inl nm)), (hw, .inl (cI, 10, .inl (s_X8_wind_wd wd hh lt v))), (ht, .inl (cI, 6, .inl wt)), (hs, .inl (cI, 6, .inl sT)), (hp, .inl (cI, 6, .inl sP))] s.heap; rw [eo1]; exact hP) hS
def s_X8_load (wt : Nat → Int32) (t : Int32) (v : Int32) : Int32 := if s_X8_within t 0 5 = 0 then (-1) else (if s_X8_within v 0 20 = 0 then (-2) else s_X8_cell 6 wt t)
def s_X8_load_wt (wt : Nat → Int32) (t : Int32) (v : Int32) : Nat → Int32 := if s_X8_within t 0 5 = 0 then wt else (if s_X8_within v 0 20 = 0 then wt else s_X8_put_f 6 wt t v)
abbrev rm_X8_load : Room := { frames := 2, cells := 0, slots := 0, locals := 44 }
set_option maxRecDepth 100000 in
set_option maxHeartbeats 4000000 in
theorem c_X8_load (l : Launch) (D : va_G) (cI cZ : ClassId) (x h h0 h1 pd bb bbr pp ch se cc fa hn hw ht hs hp sn : Nat) (kp : Int32) (nm wd wt sT sP : Nat → Int32) (t v : Int32) : Met l yX8_load [.code yX8_load cX8_load 4 (some .int)] rm_X8_load (PcW D cI cZ [.ref x, .int t, .int v] [(x, .inr (8, [.ref h, .ref h0, .ref h1, .ref pd, .ref bb, .ref bbr, .ref pp, .ref ch, .ref se, .ref cc, .ref fa])), (h, .inr (7, [.ref hn, .ref hw, .ref ht, .ref hs, .ref hp, .int (nI sn), .int kp])), (hn, .inl (cI, 6, .inl nm)), (hw, .inl (cI, 10, .inl wd)), (ht, .inl (cI, 6, .inl wt)), (hs, .inl (cI, 6, .inl sT)), (hp, .inl (cI, 6, .inl sP))]) (QcE D (S := Unit) (some (.int (s_X8_load wt t v))) (fun _ => True) (fun _ => [(x, .inr (8, [.ref h, .ref h0, .ref h1, .ref pd, .ref bb, .ref bbr, .ref pp, .ref ch, .ref se, .ref cc, .ref fa])), (h, .inr (7, [.ref hn, .ref hw, .ref ht, .ref hs, .ref hp, .int (nI sn), .int kp])), (hn, .inl (cI, 6, .inl nm)), (hw, .inl (cI, 10, .inl wd)), (ht, .inl (cI, 6, .inl (s_X8_load_wt wt t v))), (hs, .inl (cI, 6, .inl sT)), (hp, .inl (cI, 6, .inl sP))]) (zA [(x, .inr (8, [.ref h, .ref h0, .ref h1, .ref pd, .ref bb, .ref bbr, .ref pp, .ref ch, .ref se, .ref cc, .ref fa])), (h, .inr (7, [.ref hn, .ref hw, .ref ht, .ref hs, .ref hp, .int (nI sn), .int kp])), (hn, .inl (cI, 6, .inl nm)), (hw, .inl (cI, 10, .inl wd)), (ht, .inl (cI, 6, .inl wt)), (hs, .inl (cI, 6, .inl sT)), (hp, .inl (cI, 6, .inl sP))])) 0 0 (zA [(x, .inr (8, [.ref h, .ref h0, .ref h1, .ref pd, .ref bb, .ref bbr, .ref pp, .ref ch, .ref se, .ref cc, .ref fa])), (h, .inr (7, [.ref hn, .ref hw, .ref ht, .ref hs, .ref hp, .int (nI sn), .int kp])), (hn, .inl (cI, 6, .inl nm)), (hw, .inl (cI, 10, .inl wd)), (ht, .inl (cI, 6, .inl wt)), (hs, .inl (cI, 6, .inl sT)), (hp, .inl (cI, 6, .inl sP))]) := by
  refine mtWi (by decide) (Nat.le_of_ble_eq_true rfl) (fun p e s m args below meth c Q A S hT hP hD hS hret ls hl => ?_)
  have S : CallFix p m c cX8_load 4 s args zt RX8 := S
  obtain ⟨hx, hb, hml, hown, hts⟩ := id S
  have hl : lv_has ls 4 [(0, .ref x), (1, .int t), (2, .int v)] := hl
  refine lv_iload_n hx hb dX8_load_0 rfl (lv_at hl 1 rfl) ?_
  refine kRS (st1 := [.int (s_X8_within t 0 5)]) S hT hP (c_X8_isThing l D cI cZ t) rfl rfl mw_X8_isThing lk_RX8_105 ⟨rfl, rfl, (Nat.le_of_ble_eq_true rfl), (Nat.le_of_ble_eq_true rfl), (Nat.le_of_ble_eq_true rfl), (Nat.le_of_ble_eq_true rfl)⟩ [] rfl hl.1 (Nat.le_of_ble_eq_true rfl) dX8_load_1 ?_
  refine lv_if_ne (tgt := 9) hx hb dX8_load_4 (by decide) (fun c1 => ?_) (fun c1 => ?_)
  · refine lv_iload_n hx hb dX8_load_9 rfl (lv_at hl 2 rfl) ?_
    refine lv_iconst (v := 0) hx hb dX8_load_10 (by decide) ?_
    refine lv_bipush (v := 20) hx hb dX8_load_11 (by decide) ?_
    refine kRS (st1 := [.int (s_X8_within v 0 20)]) S hT hP (c_X8_within l D cI cZ v 0 20) rfl rfl mw_X8_within lk_RX8_74 ⟨rfl, rfl, (Nat.le_of_ble_eq_true rfl), (Nat.le_of_ble_eq_true rfl), (Nat.le_of_ble_eq_true rfl), (Nat.le_of_ble_eq_true rfl)⟩ [] rfl hl.1 (Nat.le_of_ble_eq_true rfl) dX8_load_13 ?_
    refine lv_if_ne (tgt := 22) hx hb dX8_load_16 (by decide) (fun c2 => ?_) (fun c2 => ?_)
    · refine lv_aload_n hx hb dX8_load_22 rfl (lv_at hl 0 rfl) ?_
      refine va_get (D := D) (ci := 8) (v := .ref h) (C := RX8) (T := TX8) (N := 11) hx hb hts in_X8 hown hT.1 hP 0 rfl rfl 0 (by decide) (hts _ fl_RX8_12) (fun _ h9 => h9) rfl dX8_load_23 ?_
      refine lv_iload_n hx hb dX8_load_26 rfl (lv_at hl 1 rfl) ?_
      refine kRV (q0 := 1) (st1 := [.int (s_X8_cell 6 wt t)]) S hT hP (c_X7_weight l D cI cZ h hn hw ht hs hp sn kp nm wd wt sT sP t) rfl rfl mw_X7_weight lk_RX8_109 ⟨rfl, rfl, (Nat.le_of_ble_eq_true rfl), (Nat.le_of_ble_eq_true rfl), (Nat.le_of_ble_eq_true rfl), (Nat.le_of_ble_eq_true rfl)⟩ [1, 2, 3, 4, 5, 6] rfl rfl rfl hl.1 (Nat.le_of_ble_eq_true rfl) dX8_load_27 ?_
      refine lv_istore_n (lv' := [(3, .int (s_X8_cell 6 wt t)), (0, .ref x), (1, .int t), (2, .int v)]) hx hb dX8_load_30 rfl hl (by decide) rfl (fun ls hl => ?_)
      refine lv_aload_n hx hb dX8_load_31 rfl (lv_at hl 1 rfl) ?_
      refine va_get (D := D) (ci := 8) (v := .ref h) (C := RX8) (T := TX8) (N := 11) hx hb hts in_X8 hown hT.1 hP 0 rfl rfl 0 (by decide) (hts _ fl_RX8_12) (fun _ h9 => h9) rfl dX8_load_32 ?_
      refine lv_iload_n hx hb dX8_load_35 rfl (lv_at hl 2 rfl) ?_
      refine lv_iload_n hx hb dX8_load_36 rfl (lv_at hl 3 rfl) ?_
      refine kEV (q0 := 1) (st1 := []) S hT hP hD hS (c_X7_changeWeight l D cI cZ h hn hw ht hs hp sn kp nm wd wt sT sP t v) rfl rfl mw_X7_changeWeight lk_RX8_112 ⟨rfl, rfl, (Nat.le_of_ble_eq_true rfl), (Nat.le_of_ble_eq_true rfl), (Nat.le_of_ble_eq_true rfl), (Nat.le_of_ble_eq_true rfl)⟩ [1, 2, 3, 4, 5, 6] [h, hn, hw, ht, hs, hp] (by decide) rfl rfl (fun _ => rfl) rfl rfl hl.1 (Nat.le_of_ble_eq_true rfl) dX8_load_37 (fun _ H locs _ hP hD hS => ?_)
      have hP : va_P D vwCl [(x, .inr (8, [.ref h, .ref h0, .ref h1, .ref pd, .ref bb, .ref bbr, .ref pp, .ref ch, .ref se, .ref cc, .ref fa])), (h, .inr (7, [.ref hn, .ref hw, .ref ht, .ref hs, .ref hp, .int (nI sn), .int kp])), (hn, .inl (cI, 6, .inl nm)), (hw, .inl (cI, 10, .inl wd)), (ht, .inl (cI, 6, .inl (s_X8_put_f 6 wt t v))), (hs, .inl (cI, 6, .inl sT)), (hp, .inl (cI, 6, .inl sP))] H := hP
      have hD : va_D A [(x, .inr (8, [.ref h, .ref h0, .ref h1, .ref pd, .ref bb, .ref bbr, .ref pp, .ref ch, .ref se, .ref cc, .ref fa])), (h, .inr (7, [.ref hn, .ref hw, .ref ht, .ref hs, .ref hp, .int (nI sn), .int kp])), (hn, .inl (cI, 6, .inl nm)), (hw, .inl (cI, 10, .inl wd)), (ht, .inl (cI, 6, .inl (s_X8_put_f 6 wt t v))), (hs, .inl (cI, 6, .inl sT)), (hp, .inl (cI, 6, .inl sP))] := hD
      refine lv_iload_n hx hb dX8_load_40 rfl (lv_at hl 0 rfl) ?_
      have eo1 : s_X8_load_wt wt t v = s_X8_put_f 6 wt t v := (by unfold s_X8_load_wt; rw [if_neg c1, if_neg c2])
      exact hret _ _ _ H locs () dX8_load_41 (by unfold s_X8_load; rw [if_neg c1, if_neg c2]) trivial (by show va_P D vwCl [(x, .inr (8, [.ref h, .ref h0, .ref h1, .ref pd, .ref bb, .ref bbr, .ref pp, .ref ch, .ref se, .ref cc, .ref fa])), (h, .inr (7, [.ref hn, .ref hw, .ref ht, .ref hs, .ref hp, .int (nI sn), .int kp])), (hn, .inl (cI, 6, .inl nm)), (hw, .inl (cI, 10, .inl wd)), (ht, .inl (cI, 6, .inl (s_X8_load_wt wt t v))), (hs, .inl (cI, 6, .inl sT)), (hp, .inl (cI, 6, .inl sP))] H; rw [eo1]; exact hP) hS
    · refine lv_bipush (v := (-2)) hx hb dX8_load_19 (by decide) ?_
      have eo1 : s_X8_load_wt wt t v = wt := (by unfold s_X8_load_wt; rw [if_neg c1, if_pos c2])
      exact hret _ _ _ s.heap [] () dX8_load_21 (by unfold s_X8_load; rw [if_neg c1, if_pos c2]) trivial (by show va_P D vwCl [(x, .inr (8, [.ref h, .ref h0, .ref h1, .ref pd, .ref bb, .ref bbr, .ref pp, .ref ch, .ref se, .ref cc, .ref fa])), (h, .inr (7, [.ref hn, .ref hw, .ref ht, .ref hs, .ref hp, .int (nI sn), .int kp])), (hn, .inl (cI, 6, .inl nm)), (hw, .inl (cI, 10, .inl wd)), (ht, .inl (cI, 6, .inl (s_X8_load_wt wt t v))), (hs, .inl (cI, 6, .inl sT)), (hp, .inl (cI, 6, .inl sP))] s.heap; rw [eo1]; exact hP) hS
  · refine lv_iconst (v := (-1)) hx hb dX8_load_7 (by decide) ?_
    have eo1 : s_X8_load_wt wt t v = wt := (by unfold s_X8_load_wt; rw [if_pos c1])
    exact hret _ _ _ s.heap [] () dX8_load_8 (by unfold s_X8_load; rw [if_pos c1]) trivial (by show va_P D vwCl [(x, .inr (8, [.ref h, .ref h0, .ref h1, .ref pd, .ref bb, .ref bbr, .ref pp, .ref ch, .ref se, .ref cc, .ref fa])), (h, .inr (7, [.ref hn, .ref hw, .ref ht, .ref hs, .ref hp, .int (nI sn), .int kp])), (hn, .inl (cI, 6, .inl nm)), (hw, .inl (cI, 10, .inl wd)), (ht, .inl (cI, 6, .inl (s_X8_load_wt wt t v))), (hs, .inl (cI, 6, .inl sT)), (hp, .inl (cI, 6, .inl sP))] s.heap; rw [eo1]; exact hP) hS
def s_X8_say (len : Nat) (sgn : Int32) : Int32 := if s_X8_within sgn 33 126 = 0 then (-2) else (if nI len < 60 then nI (len + 1) else (-4))
def s_X8_say_len (len : Nat) (sgn : Int32) : Nat := if s_X8_within sgn 33 126 = 0 then len else (if nI len < 60 then (len + 1) else len)
def s_X8_say_sg (len : Nat) (sg : Nat → Int32) (sgn : Int32) : Nat → Int32 := if s_X8_within sgn 33 126 = 0 then sg else (if nI len < 60 then s_X8_put_f 60 sg (nI len) sgn else sg)
abbrev rm_X8_say : Room := { frames := 2, cells := 0, slots := 0, locals := 43 }
set_option maxRecDepth 100000 in
set_option maxHeartbeats 4000000 in
theorem c_X8_say (l : Launch) (D : va_G) (cI cZ : ClassId) (x h h0 h1 pd bb bbr pp ch se cc fa pg len : Nat) (sg : Nat → Int32) (sgn : Int32) (hlen : len ≤ 60) : Met l yX8_say [.code yX8_say cX8_say 2 (some .int)] rm_X8_say (PcW D cI cZ [.ref x, .int sgn] [(x, .inr (8, [.ref h, .ref h0, .ref h1, .ref pd, .ref bb, .ref bbr, .ref pp, .ref ch, .ref se, .ref cc, .ref fa])), (pd, .inr (4, [.ref pg, .int (nI len)])), (pg, .inl (cI, 60, .inl sg))]) (QcE D (S := Unit) (some (.int (s_X8_say len sgn))) (fun _ => True) (fun _ => [(x, .inr (8, [.ref h, .ref h0, .ref h1, .ref pd, .ref bb, .ref bbr, .ref pp, .ref ch, .ref se, .ref cc, .ref fa])), (pd, .inr (4, [.ref pg, .int (nI (s_X8_say_len len sgn))])), (pg, .inl (cI, 60, .inl (s_X8_say_sg len sg sgn)))]) (zA [(x, .inr (8, [.ref h, .ref h0, .ref h1, .ref pd, .ref bb, .ref bbr, .ref pp, .ref ch, .ref se, .ref cc, .ref fa])), (pd, .inr (4, [.ref pg, .int (nI len)])), (pg, .inl (cI, 60, .inl sg))])) 0 0 (zA [(x, .inr (8, [.ref h, .ref h0, .ref h1, .ref pd, .ref bb, .ref bbr, .ref pp, .ref ch, .ref se, .ref cc, .ref fa])), (pd, .inr (4, [.ref pg, .int (nI len)])), (pg, .inl (cI, 60, .inl sg))]) := by
  refine mtWi (by decide) (Nat.le_of_ble_eq_true rfl) (fun p e s m args below meth c Q A S hT hP hD hS hret ls hl => ?_)
  have S : CallFix p m c cX8_say 2 s args zt RX8 := S
  obtain ⟨hx, hb, hml, hown, hts⟩ := id S
  have hl : lv_has ls 2 [(0, .ref x), (1, .int sgn)] := hl
  refine lv_iload_n hx hb dX8_say_0 rfl (lv_at hl 1 rfl) ?_
  refine lv_bipush (v := 33) hx hb dX8_say_1 (by decide) ?_
  refine lv_bipush (v := 126) hx hb dX8_say_3 (by decide) ?_
  refine kRS (st1 := [.int (s_X8_within sgn 33 126)]) S hT hP (c_X8_within l D cI cZ sgn 33 126) rfl rfl mw_X8_within lk_RX8_74 ⟨rfl, rfl, (Nat.le_of_ble_eq_true rfl), (Nat.le_of_ble_eq_true rfl), (Nat.le_of_ble_eq_true rfl), (Nat.le_of_ble_eq_true rfl)⟩ [] rfl hl.1 (Nat.le_of_ble_eq_true rfl) dX8_say_5 ?_
  refine lv_if_ne (tgt := 14) hx hb dX8_say_8 (by decide) (fun c1 => ?_) (fun c1 => ?_)
  · refine lv_aload_n hx hb dX8_say_14 rfl (lv_at hl 0 rfl) ?_
    refine va_get (D := D) (ci := 8) (v := .ref pd) (C := RX8) (T := TX8) (N := 11) hx hb hts in_X8 hown hT.1 hP 0 rfl rfl 3 (by decide) (hts _ fl_RX8_25) (fun _ h9 => h9) rfl dX8_say_15 ?_
    refine kRV (q0 := 1) (st1 := [.int (nI len)]) S hT hP (c_X4_length l D cI cZ pd pg len sg) rfl rfl mw_X4_length lk_RX8_115 ⟨rfl, rfl, (Nat.le_of_ble_eq_true rfl), (Nat.le_of_ble_eq_true rfl), (Nat.le_of_ble_eq_true rfl), (Nat.le_of_ble_eq_true rfl)⟩ [1, 2] rfl rfl rfl hl.1 (Nat.le_of_ble_eq_true rfl) dX8_say_18 ?_
    refine lv_bipush (v := 60) hx hb dX8_say_21 (by decide) ?_
    refine lv_icmp_lt (tgt := 29) hx hb dX8_say_23 (by decide) (fun c2 => ?_) (fun c2 => ?_)
    · have nc2 := zNlt (a := len) (b := 60) c2 (by omega) (by omega)
      refine lv_aload_n hx hb dX8_say_29 rfl (lv_at hl 0 rfl) ?_
      refine va_get (D := D) (ci := 8) (v := .ref pd) (C := RX8) (T := TX8) (N := 11) hx hb hts in_X8 hown hT.1 hP 0 rfl rfl 3 (by decide) (hts _ fl_RX8_25) (fun _ h9 => h9) rfl dX8_say_30 ?_
      refine lv_iload_n hx hb dX8_say_33 rfl (lv_at hl 1 rfl) ?_
      refine kEV (q0 := 1) (st1 := []) S hT hP hD hS (c_X4_write l D cI cZ pd pg len sg sgn) rfl rfl mw_X4_write lk_RX8_119 ⟨rfl, rfl, (Nat.le_of_ble_eq_true rfl), (Nat.le_of_ble_eq_true rfl), (Nat.le_of_ble_eq_true rfl), (Nat.le_of_ble_eq_true rfl)⟩ [1, 2] [pd, pg] (by decide) rfl rfl (fun _ => rfl) rfl rfl hl.1 (Nat.le_of_ble_eq_true rfl) dX8_say_34 (fun _ H locs _ hP hD hS => ?_)
      have hP : va_P D vwCl [(x, .inr (8, [.ref h, .ref h0, .ref h1, .ref pd, .ref bb, .ref bbr, .ref pp, .ref ch, .ref se, .ref cc, .ref fa])), (pd, .inr (4, [.ref pg, .int (nI (len + 1))])), (pg, .inl (cI, 60, .inl (s_X8_put_f 60 sg (nI len) sgn)))] H := hP
      have hD : va_D A [(x, .inr (8, [.ref h, .ref h0, .ref h1, .ref pd, .ref bb, .ref bbr, .ref pp, .ref ch, .ref se, .ref cc, .ref fa])), (pd, .inr (4, [.ref pg, .int (nI (len + 1))])), (pg, .inl (cI, 60, .inl (s_X8_put_f 60 sg (nI len) sgn)))] := hD
      refine lv_aload_n hx hb dX8_say_37 rfl (lv_at hl 0 rfl) ?_
      refine va_get (D := D) (ci := 8) (v := .ref pd) (C := RX8) (T := TX8) (N := 11) hx hb hts in_X8 hown hT.1 hP 0 rfl rfl 3 (by decide) (hts _ fl_RX8_25) (fun _ h9 => h9) rfl dX8_say_38 ?_
      refine kRV (q0 := 1) (st1 := [.int (nI (len + 1))]) S hT hP (c_X4_length l D cI cZ pd pg (len + 1) (s_X8_put_f 60 sg (nI len) sgn)) rfl rfl mw_X4_length lk_RX8_115 ⟨rfl, rfl, (Nat.le_of_ble_eq_true rfl), (Nat.le_of_ble_eq_true rfl), (Nat.le_of_ble_eq_true rfl), (Nat.le_of_ble_eq_true rfl)⟩ [1, 2] rfl rfl rfl hl.1 (Nat.le_of_ble_eq_true rfl) dX8_say_41 ?_
      have eo1 : nI (s_X8_say_len len sgn) = nI (len + 1) := (by unfold s_X8_say_len; rw [if_neg c1, if_pos c2])
      have eo2 : s_X8_say_sg len sg sgn = s_X8_put_f 60 sg (nI len) sgn := (by unfold s_X8_say_sg; rw [if_neg c1, if_pos c2])
      exact hret _ _ _ H locs () dX8_say_44 (by unfold s_X8_say; rw [if_neg c1, if_pos c2]) trivial (by show va_P D vwCl [(x, .inr (8, [.ref h, .ref h0, .ref h1, .ref pd, .ref bb, .ref bbr, .ref pp, .ref ch, .ref se, .ref cc, .ref fa])), (pd, .inr (4, [.ref pg, .int (nI (s_X8_say_len len sgn))])), (pg, .inl (cI, 60, .inl (s_X8_say_sg len sg sgn)))] H; rw [eo1, eo2]; exact hP) hS
    · have nc2 := zNnlt (a := len) (b := 60) c2 (by omega) (by omega)
      refine lv_bipush (v := (-4)) hx hb dX8_say_26 (by decide) ?_
      have eo1 : nI (s_X8_say_len len sgn) = nI len := (by unfold s_X8_say_len; rw [if_neg c1, if_neg c2])
      have eo2 : s_X8_say_sg len sg sgn = sg := (by unfold s_X8_say_sg; rw [if_neg c1, if_neg c2])
      exact hret _ _ _ s.heap [] () dX8_say_28 (by unfold s_X8_say; rw [if_neg c1, if_neg c2]) trivial (by show va_P D vwCl [(x, .inr (8, [.ref h, .ref h0, .ref h1, .ref pd, .ref bb, .ref bbr, .ref pp, .ref ch, .ref se, .ref cc, .ref fa])), (pd, .inr (4, [.ref pg, .int (nI (s_X8_say_len len sgn))])), (pg, .inl (cI, 60, .inl (s_X8_say_sg len sg sgn)))] s.heap; rw [eo1, eo2]; exact hP) hS
  · refine lv_bipush (v := (-2)) hx hb dX8_say_11 (by decide) ?_
    have eo1 : nI (s_X8_say_len len sgn) = nI len := (by unfold s_X8_say_len; rw [if_pos c1])
    have eo2 : s_X8_say_sg len sg sgn = sg := (by unfold s_X8_say_sg; rw [if_pos c1])
    exact hret _ _ _ s.heap [] () dX8_say_13 (by unfold s_X8_say; rw [if_pos c1]) trivial (by show va_P D vwCl [(x, .inr (8, [.ref h, .ref h0, .ref h1, .ref pd, .ref bb, .ref bbr, .ref pp, .ref ch, .ref se, .ref cc, .ref fa])), (pd, .inr (4, [.ref pg, .int (nI (s_X8_say_len len sgn))])), (pg, .inl (cI, 60, .inl (s_X8_say_sg len sg sgn)))] s.heap; rw [eo1, eo2]; exact hP) hS
abbrev rm_X8_wipe : Room := { frames := 1, cells := 0, slots := 0, locals := 20 }
set_option maxRecDepth 100000 in
set_option maxHeartbeats 4000000 in
theorem c_X8_wipe (l : Launch) (D : va_G) (cI cZ : ClassId) (x h h0 h1 pd bb bbr pp ch se cc fa pg len : Nat) (sg : Nat → Int32) : Met l yX8_wipe [.code yX8_wipe cX8_wipe 2 (some .int)] rm_X8_wipe (PcW D cI cZ [.ref x] [(x, .inr (8, [.ref h, .ref h0, .ref h1, .ref pd, .ref bb, .ref bbr, .ref pp, .ref ch, .ref se, .ref cc, .ref fa])), (pd, .inr (4, [.ref pg, .int (nI len)])), (pg, .inl (cI, 60, .inl sg))]) (QcE D (S := Unit) (some (.int (nI len))) (fun _ => True) (fun _ => [(x, .inr (8, [.ref h, .ref h0, .ref h1, .ref pd, .ref bb, .ref bbr, .ref pp, .ref ch, .ref se, .ref cc, .ref fa])), (pd, .inr (4, [.ref pg, .int 0])), (pg, .inl (cI, 60, .inl sg))]) (zA [(x, .inr (8, [.ref h, .ref h0, .ref h1, .ref pd, .ref bb, .ref bbr, .ref pp, .ref ch, .ref se, .ref cc, .ref fa])), (pd, .inr (4, [.ref pg, .int (nI len)])), (pg, .inl (cI, 60, .inl sg))])) 0 0 (zA [(x, .inr (8, [.ref h, .ref h0, .ref h1, .ref pd, .ref bb, .ref bbr, .ref pp, .ref ch, .ref se, .ref cc, .ref fa])), (pd, .inr (4, [.ref pg, .int (nI len)])), (pg, .inl (cI, 60, .inl sg))]) := by
  refine mtWi (by decide) (Nat.le_of_ble_eq_true rfl) (fun p e s m args below meth c Q A S hT hP hD hS hret ls hl => ?_)
  have S : CallFix p m c cX8_wipe 2 s args zt RX8 := S
  obtain ⟨hx, hb, hml, hown, hts⟩ := id S
  have hl : lv_has ls 2 [(0, .ref x)] := hl
  refine lv_aload_n hx hb dX8_wipe_0 rfl (lv_at hl 0 rfl) ?_
  refine va_get (D := D) (ci := 8) (v := .ref pd) (C := RX8) (T := TX8) (N := 11) hx hb hts in_X8 hown hT.1 hP 0 rfl rfl 3 (by decide) (hts _ fl_RX8_25) (fun _ h9 => h9) rfl dX8_wipe_1 ?_
  refine kRV (q0 := 1) (st1 := [.int (nI len)]) S hT hP (c_X4_length l D cI cZ pd pg len sg) rfl rfl mw_X4_length lk_RX8_115 ⟨rfl, rfl, (Nat.le_of_ble_eq_true rfl), (Nat.le_of_ble_eq_true rfl), (Nat.le_of_ble_eq_true rfl), (Nat.le_of_ble_eq_true rfl)⟩ [1, 2] rfl rfl rfl hl.1 (Nat.le_of_ble_eq_true rfl) dX8_wipe_4 ?_
  refine lv_istore_n (lv' := [(1, .int (nI len)), (0, .ref x)]) hx hb dX8_wipe_7 rfl hl (by decide) rfl (fun ls hl => ?_)
  refine lv_aload_n hx hb dX8_wipe_8 rfl (lv_at hl 1 rfl) ?_
  refine va_get (D := D) (ci := 8) (v := .ref pd) (C := RX8) (T := TX8) (N := 11) hx hb hts in_X8 hown hT.1 hP 0 rfl rfl 3 (by decide) (hts _ fl_RX8_25) (fun _ h9 => h9) rfl dX8_wipe_9 ?_
  refine kEV (q0 := 1) (st1 := []) S hT hP hD hS (c_X4_clear l D cI cZ pd pg len sg) rfl rfl mw_X4_clear lk_RX8_123 ⟨rfl, rfl, (Nat.le_of_ble_eq_true rfl), (Nat.le_of_ble_eq_true rfl), (Nat.le_of_ble_eq_true rfl), (Nat.le_of_ble_eq_true rfl)⟩ [1, 2] [pd, pg] (by decide) rfl rfl (fun _ => rfl) rfl rfl hl.1 (Nat.le_of_ble_eq_true rfl) dX8_wipe_12 (fun _ H locs _ hP hD hS => ?_)
  have hP : va_P D vwCl [(x, .inr (8, [.ref h, .ref h0, .ref h1, .ref pd, .ref bb, .ref bbr, .ref pp, .ref ch, .ref se, .ref cc, .ref fa])), (pd, .inr (4, [.ref pg, .int 0])), (pg, .inl (cI, 60, .inl sg))] H := hP
  have hD : va_D A [(x, .inr (8, [.ref h, .ref h0, .ref h1, .ref pd, .ref bb, .ref bbr, .ref pp, .ref ch, .ref se, .ref cc, .ref fa])), (pd, .inr (4, [.ref pg, .int 0])), (pg, .inl (cI, 60, .inl sg))] := hD
  refine lv_iload_n hx hb dX8_wipe_15 rfl (lv_at hl 0 rfl) ?_
  exact hret _ _ _ H locs () dX8_wipe_16 rfl trivial hP hS
abbrev rm_X8_fault : Room := { frames := 4, cells := 0, slots := 0, locals := 90 }
set_option maxRecDepth 100000 in
set_option maxHeartbeats 4000000 in
theorem c_X8_fault (l : Launch) (D : va_G) (cI cZ : ClassId) (x h h0 h1 pd bb bbr pp ch se cc fa hn hw ht hs hp sn : Nat) (kp : Int32) (nm wd wt sT sP : Nat → Int32) (pg len : Nat) (sg : Nat → Int32) (hlen : len ≤ 60) : Met l yX8_fault [.code yX8_fault cX8_fault 1 (some .int)] rm_X8_fault (PcR D cI cZ [.ref x] [(x, .inr (8, [.ref h, .ref h0, .ref h1, .ref pd, .ref bb, .ref bbr, .ref pp, .ref ch, .ref se, .ref cc, .ref fa])), (h, .inr (7, [.ref hn, .ref hw, .ref ht, .ref hs, .ref hp, .int (nI sn), .int kp])), (hn, .inl (cI, 6, .inl nm)), (hw, .inl (cI, 10, .inl wd)), (ht, .inl (cI, 6, .inl wt)), (hs, .inl (cI, 6, .inl sT)), (hp, .inl (cI, 6, .inl sP)), (pd, .inr (4, [.ref pg, .int (nI len)])), (pg, .inl (cI, 60, .inl sg))]) (QcR (some (.int (lp_X8_firstFault_12 len sg (len + 1) 0 0 (lp_X7_loaded_4 wt 7 0 0))))) 0 0 zN := by
  refine mtRi (by decide) (Nat.le_of_ble_eq_true rfl) (fun p e s m args below meth c Q S hT hP hret ls hl => ?_)
  have S : CallFix p m c cX8_fault 1 s args zt RX8 := S
  obtain ⟨hx, hb, hml, hown, hts⟩ := id S
  have hl : lv_has ls 1 [(0, .ref x)] := hl
  refine lv_aload_n hx hb dX8_fault_0 rfl (lv_at hl 0 rfl) ?_
  refine kRV (q0 := 0) (st1 := [.int (lp_X8_firstFault_12 len sg (len + 1) 0 0 (lp_X7_loaded_4 wt 7 0 0))]) S hT hP (c_X8_firstFault l D cI cZ x h h0 h1 pd bb bbr pp ch se cc fa hn hw ht hs hp sn kp nm wd wt sT sP pg len sg (by first | assumption | decide | omega)) rfl rfl mw_X8_firstFault lk_RX8_126 ⟨rfl, rfl, (Nat.le_of_ble_eq_true rfl), (Nat.le_of_ble_eq_true rfl), (Nat.le_of_ble_eq_true rfl), (Nat.le_of_ble_eq_true rfl)⟩ [0, 1, 2, 3, 4, 5, 6, 7, 8] rfl rfl rfl hl.1 (Nat.le_of_ble_eq_true rfl) dX8_fault_1 ?_
  exact hret _ _ _ dX8_fault_4 rfl
def s_X8_fell (sn : Nat) (t : Int32) (pl : Int32) : Int32 := if s_X8_within t 0 5 = 0 then (-1) else (if (s_X8_within pl (-600) 600) = 0 then (-2) else (if nI sn < 6 then nI (sn + 1) else (-4)))
def s_X8_fell_sn (sn : Nat) (t : Int32) (pl : Int32) : Nat := if s_X8_within t 0 5 = 0 then sn else (if (s_X8_within pl (-600) 600) = 0 then sn else (if nI sn < 6 then (sn + 1) else sn))
def s_X8_fell_sT (sn : Nat) (sT : Nat → Int32) (t : Int32) (pl : Int32) : Nat → Int32 := if s_X8_within t 0 5 = 0 then sT else (if (s_X8_within pl (-600) 600) = 0 then sT else (if nI sn < 6 then s_X8_put_f 6 sT (nI sn) t else sT))
def s_X8_fell_sP (sn : Nat) (sP : Nat → Int32) (t : Int32) (pl : Int32) : Nat → Int32 := if s_X8_within t 0 5 = 0 then sP else (if (s_X8_within pl (-600) 600) = 0 then sP else (if nI sn < 6 then s_X8_put_f 6 sP (nI sn) pl else sP))
abbrev rm_X8_fell : Room := { frames := 2, cells := 0, slots := 0, locals := 44 }
set_option maxRecDepth 100000 in
set_option maxHeartbeats 4000000 in
theorem c_X8_fell (l : Launch) (D : va_G) (cI cZ : ClassId) (x h h0 h1 pd bb bbr pp ch se cc fa hn hw ht hs hp sn : Nat) (kp : Int32) (nm wd wt sT sP : Nat → Int32) (t pl : Int32) (hsn : sn ≤ 6) : Met l yX8_fell [.code yX8_fell cX8_fell 3 (some .int)] rm_X8_fell (PcW D cI cZ [.ref x, .int t, .int pl] [(x, .inr (8, [.ref h, .ref h0, .ref h1, .ref pd, .ref bb, .ref bbr, .ref pp, .ref ch, .ref se, .ref cc, .ref fa])), (h, .inr (7, [.ref hn, .ref hw, .ref ht, .ref hs, .ref hp, .int (nI sn), .int kp])), (hn, .inl (cI, 6, .inl nm)), (hw, .inl (cI, 10, .inl wd)), (ht, .inl (cI, 6, .inl wt)), (hs, .inl (cI, 6, .inl sT)), (hp, .inl (cI, 6, .inl sP))]) (QcE D (S := Unit) (some (.int (s_X8_fell sn t pl))) (fun _ => True) (fun _ => [(x, .inr (8, [.ref h, .ref h0, .ref h1, .ref pd, .ref bb, .ref bbr, .ref pp, .ref ch, .ref se, .ref cc, .ref fa])), (h, .inr (7, [.ref hn, .ref hw, .ref ht, .ref hs, .ref hp, .int (nI (s_X8_fell_sn sn t pl)), .int kp])), (hn, .inl (cI, 6, .inl nm)), (hw, .inl (cI, 10, .inl wd)), (ht, .inl (cI, 6, .inl wt)), (hs, .inl (cI, 6, .inl (s_X8_fell_sT sn sT t pl))), (hp, .inl (cI, 6, .inl (s_X8_fell_sP sn sP t pl)))]) (zA [(x, .inr (8, [.ref h, .ref h0, .ref h1, .ref pd, .ref bb, .ref bbr, .ref pp, .ref ch, .ref se, .ref cc, .ref fa])), (h, .inr (7, [.ref hn, .ref hw, .ref ht, .ref hs, .ref hp, .int (nI sn), .int kp])), (hn, .inl (cI, 6, .inl nm)), (hw, .inl (cI, 10, .inl wd)), (ht, .inl (cI, 6, .inl wt)), (hs, .inl (cI, 6, .inl sT)), (hp, .inl (cI, 6, .inl sP))])) 0 0 (zA [(x, .inr (8, [.ref h, .ref h0, .ref h1, .ref pd, .ref bb, .ref bbr, .ref pp, .ref ch, .ref se, .ref cc, .ref fa])), (h, .inr (7, [.ref hn, .ref hw, .ref ht, .ref hs, .ref hp, .int (nI sn), .int kp])), (hn, .inl (cI, 6, .inl nm)), (hw, .inl (cI, 10, .inl wd)), (ht, .inl (cI, 6, .inl wt)), (hs, .inl (cI, 6, .inl sT)), (hp, .inl (cI, 6, .inl sP))]) := by
  refine mtWi (by decide) (Nat.le_of_ble_eq_true rfl) (fun p e s m args below meth c Q A S hT hP hD hS hret ls hl => ?_)
  have S : CallFix p m c cX8_fell 3 s args zt RX8 := S
  obtain ⟨hx, hb, hml, hown, hts⟩ := id S
  have hl : lv_has ls 3 [(0, .ref x), (1, .int t), (2, .int pl)] := hl
  refine lv_iload_n hx hb dX8_fell_0 rfl (lv_at hl 1 rfl) ?_
  refine kRS (st1 := [.int (s_X8_within t 0 5)]) S hT hP (c_X8_isThing l D cI cZ t) rfl rfl mw_X8_isThing lk_RX8_105 ⟨rfl, rfl, (Nat.le_of_ble_eq_true rfl), (Nat.le_of_ble_eq_true rfl), (Nat.le_of_ble_eq_true rfl), (Nat.le_of_ble_eq_true rfl)⟩ [] rfl hl.1 (Nat.le_of_ble_eq_true rfl) dX8_fell_1 ?_
  refine lv_if_ne (tgt := 9) hx hb dX8_fell_4 (by decide) (fun c1 => ?_) (fun c1 => ?_)
  · refine lv_iload_n hx hb dX8_fell_9 rfl (lv_at hl 2 rfl) ?_
    refine kRS (st1 := [.int (s_X8_within pl (-600) 600)]) S hT hP (c_X8_isPlace l D cI cZ pl) rfl rfl mw_X8_isPlace lk_RX8_158 ⟨rfl, rfl, (Nat.le_of_ble_eq_true rfl), (Nat.le_of_ble_eq_true rfl), (Nat.le_of_ble_eq_true rfl), (Nat.le_of_ble_eq_true rfl)⟩ [] rfl hl.1 (Nat.le_of_ble_eq_true rfl) dX8_fell_10 ?_
    refine lv_if_ne (tgt := 19) hx hb dX8_fell_13 (by decide) (fun c2 => ?_) (fun c2 => ?_)
    · refine lv_aload_n hx hb dX8_fell_19 rfl (lv_at hl 0 rfl) ?_
      refine va_get (D := D) (ci := 8) (v := .ref h) (C := RX8) (T := TX8) (N := 11) hx hb hts in_X8 hown hT.1 hP 0 rfl rfl 0 (by decide) (hts _ fl_RX8_12) (fun _ h9 => h9) rfl dX8_fell_20 ?_
      refine kRV (q0 := 1) (st1 := [.int (nI sn)]) S hT hP (c_X7_sights l D cI cZ h hn hw ht hs hp sn kp nm wd wt sT sP) rfl rfl mw_X7_sights lk_RX8_226 ⟨rfl, rfl, (Nat.le_of_ble_eq_true rfl), (Nat.le_of_ble_eq_true rfl), (Nat.le_of_ble_eq_true rfl), (Nat.le_of_ble_eq_true rfl)⟩ [1, 2, 3, 4, 5, 6] rfl rfl rfl hl.1 (Nat.le_of_ble_eq_true rfl) dX8_fell_23 ?_
      refine lv_bipush (v := 6) hx hb dX8_fell_26 (by decide) ?_
      refine lv_icmp_lt (tgt := 34) hx hb dX8_fell_28 (by decide) (fun c3 => ?_) (fun c3 => ?_)
      · have nc3 := zNlt (a := sn) (b := 6) c3 (by omega) (by omega)
        refine lv_aload_n hx hb dX8_fell_34 rfl (lv_at hl 0 rfl) ?_
        refine va_get (D := D) (ci := 8) (v := .ref h) (C := RX8) (T := TX8) (N := 11) hx hb hts in_X8 hown hT.1 hP 0 rfl rfl 0 (by decide) (hts _ fl_RX8_12) (fun _ h9 => h9) rfl dX8_fell_35 ?_
        refine lv_iload_n hx hb dX8_fell_38 rfl (lv_at hl 1 rfl) ?_
        refine lv_iload_n hx hb dX8_fell_39 rfl (lv_at hl 2 rfl) ?_
        refine kEV (q0 := 1) (st1 := []) S hT hP hD hS (c_X7_addSight l D cI cZ h hn hw ht hs hp sn kp nm wd wt sT sP t pl) rfl rfl mw_X7_addSight lk_RX8_229 ⟨rfl, rfl, (Nat.le_of_ble_eq_true rfl), (Nat.le_of_ble_eq_true rfl), (Nat.le_of_ble_eq_true rfl), (Nat.le_of_ble_eq_true rfl)⟩ [1, 2, 3, 4, 5, 6] [h, hn, hw, ht, hs, hp] (by decide) rfl rfl (fun _ => rfl) rfl rfl hl.1 (Nat.le_of_ble_eq_true rfl) dX8_fell_40 (fun _ H locs _ hP hD hS => ?_)
        have hP : va_P D vwCl [(x, .inr (8, [.ref h, .ref h0, .ref h1, .ref pd, .ref bb, .ref bbr, .ref pp, .ref ch, .ref se, .ref cc, .ref fa])), (h, .inr (7, [.ref hn, .ref hw, .ref ht, .ref hs, .ref hp, .int (nI (sn + 1)), .int kp])), (hn, .inl (cI, 6, .inl nm)), (hw, .inl (cI, 10, .inl wd)), (ht, .inl (cI, 6, .inl wt)), (hs, .inl (cI, 6, .inl (s_X8_put_f 6 sT (nI sn) t))), (hp, .inl (cI, 6, .inl (s_X8_put_f 6 sP (nI sn) pl)))] H := hP
        have hD : va_D A [(x, .inr (8, [.ref h, .ref h0, .ref h1, .ref pd, .ref bb, .ref bbr, .ref pp, .ref ch, .ref se, .ref cc, .ref fa])), (h, .inr (7, [.ref hn, .ref hw, .ref ht, .ref hs, .ref hp, .int (nI (sn + 1)), .int kp])), (hn, .inl (cI, 6, .inl nm)), (hw, .inl (cI, 10, .inl wd)), (ht, .inl (cI, 6, .inl wt)), (hs, .inl (cI, 6, .inl (s_X8_put_f 6 sT (nI sn) t))), (hp, .inl (cI, 6, .inl (s_X8_put_f 6 sP (nI sn) pl)))] := hD
        refine lv_aload_n hx hb dX8_fell_43 rfl (lv_at hl 0 rfl) ?_
        refine va_get (D := D) (ci := 8) (v := .ref h) (C := RX8) (T := TX8) (N := 11) hx hb hts in_X8 hown hT.1 hP 0 rfl rfl 0 (by decide) (hts _ fl_RX8_12) (fun _ h9 => h9) rfl dX8_fell_44 ?_
        refine kRV (q0 := 1) (st1 := [.int (nI (sn + 1))]) S hT hP (c_X7_sights l D cI cZ h hn hw ht hs hp (sn + 1) kp nm wd wt (s_X8_put_f 6 sT (nI sn) t) (s_X8_put_f 6 sP (nI sn) pl)) rfl rfl mw_X7_sights lk_RX8_226 ⟨rfl, rfl, (Nat.le_of_ble_eq_true rfl), (Nat.le_of_ble_eq_true rfl), (Nat.le_of_ble_eq_true rfl), (Nat.le_of_ble_eq_true rfl)⟩ [1, 2, 3, 4, 5, 6] rfl rfl rfl hl.1 (Nat.le_of_ble_eq_true rfl) dX8_fell_47 ?_
        have eo1 : nI (s_X8_fell_sn sn t pl) = nI (sn + 1) := (by unfold s_X8_fell_sn; rw [if_neg c1, if_neg c2, if_pos c3])
        have eo2 : s_X8_fell_sT sn sT t pl = s_X8_put_f 6 sT (nI sn) t := (by unfold s_X8_fell_sT; rw [if_neg c1, if_neg c2, if_pos c3])
        have eo3 : s_X8_fell_sP sn sP t pl = s_X8_put_f 6 sP (nI sn) pl := (by unfold s_X8_fell_sP; rw [if_neg c1, if_neg c2, if_pos c3])
        exact hret _ _ _ H locs () dX8_fell_50 (by unfold s_X8_fell; rw [if_neg c1, if_neg c2, if_pos c3]) trivial (by show va_P D vwCl [(x, .inr (8, [.ref h, .ref h0, .ref h1, .ref pd, .ref bb, .ref bbr, .ref pp, .ref ch, .ref se, .ref cc, .ref fa])), (h, .inr (7, [.ref hn, .ref hw, .ref ht, .ref hs, .ref hp, .int (nI (s_X8_fell_sn sn t pl)), .int kp])), (hn, .inl (cI, 6, .inl nm)), (hw, .inl (cI, 10, .inl wd)), (ht, .inl (cI, 6, .inl wt)), (hs, .inl (cI, 6, .inl (s_X8_fell_sT sn sT t pl))), (hp, .inl (cI, 6, .inl (s_X8_fell_sP sn sP t pl)))] H; rw [eo1, eo2, eo3]; exact hP) hS
      · have nc3 := zNnlt (a := sn) (b := 6) c3 (by omega) (by omega)
        refine lv_bipush (v := (-4)) hx hb dX8_fell_31 (by decide) ?_
        have eo1 : nI (s_X8_fell_sn sn t pl) = nI sn := (by unfold s_X8_fell_sn; rw [if_neg c1, if_neg c2, if_neg c3])
        have eo2 : s_X8_fell_sT sn sT t pl = sT := (by unfold s_X8_fell_sT; rw [if_neg c1, if_neg c2, if_neg c3])
        have eo3 : s_X8_fell_sP sn sP t pl = sP := (by unfold s_X8_fell_sP; rw [if_neg c1, if_neg c2, if_neg c3])
        exact hret _ _ _ s.heap [] () dX8_fell_33 (by unfold s_X8_fell; rw [if_neg c1, if_neg c2, if_neg c3]) trivial (by show va_P D vwCl [(x, .inr (8, [.ref h, .ref h0, .ref h1, .ref pd, .ref bb, .ref bbr, .ref pp, .ref ch, .ref se, .ref cc, .ref fa])), (h, .inr (7, [.ref hn, .ref hw, .ref ht, .ref hs, .ref hp, .int (nI (s_X8_fell_sn sn t pl)), .int kp])), (hn, .inl (cI, 6, .inl nm)), (hw, .inl (cI, 10, .inl wd)), (ht, .inl (cI, 6, .inl wt)), (hs, .inl (cI, 6, .inl (s_X8_fell_sT sn sT t pl))), (hp, .inl (cI, 6, .inl (s_X8_fell_sP sn sP t pl)))] s.heap; rw [eo1, eo2, eo3]; exact hP) hS
    · refine lv_bipush (v := (-2)) hx hb dX8_fell_16 (by decide) ?_
      have eo1 : nI (s_X8_fell_sn sn t pl) = nI sn := (by unfold s_X8_fell_sn; rw [if_neg c1, if_pos c2])
      have eo2 : s_X8_fell_sT sn sT t pl = sT := (by unfold s_X8_fell_sT; rw [if_neg c1, if_pos c2])
      have eo3 : s_X8_fell_sP sn sP t pl = sP := (by unfold s_X8_fell_sP; rw [if_neg c1, if_pos c2])
      exact hret _ _ _ s.heap [] () dX8_fell_18 (by unfold s_X8_fell; rw [if_neg c1, if_pos c2]) trivial (by show va_P D vwCl [(x, .inr (8, [.ref h, .ref h0, .ref h1, .ref pd, .ref bb, .ref bbr, .ref pp, .ref ch, .ref se, .ref cc, .ref fa])), (h, .inr (7, [.ref hn, .ref hw, .ref ht, .ref hs, .ref hp, .int (nI (s_X8_fell_sn sn t pl)), .int kp])), (hn, .inl (cI, 6, .inl nm)), (hw, .inl (cI, 10, .inl wd)), (ht, .inl (cI, 6, .inl wt)), (hs, .inl (cI, 6, .inl (s_X8_fell_sT sn sT t pl))), (hp, .inl (cI, 6, .inl (s_X8_fell_sP sn sP t pl)))] s.heap; rw [eo1, eo2, eo3]; exact hP) hS
  · refine lv_iconst (v := (-1)) hx hb dX8_fell_7 (by decide) ?_
    have eo1 : nI (s_X8_fell_sn sn t pl) = nI sn := (by unfold s_X8_fell_sn; rw [if_pos c1])
    have eo2 : s_X8_fell_sT sn sT t pl = sT := (by unfold s_X8_fell_sT; rw [if_pos c1])
    have eo3 : s_X8_fell_sP sn sP t pl = sP := (by unfold s_X8_fell_sP; rw [if_pos c1])
    exact hret _ _ _ s.heap [] () dX8_fell_8 (by unfold s_X8_fell; rw [if_pos c1]) trivial (by show va_P D vwCl [(x, .inr (8, [.ref h, .ref h0, .ref h1, .ref pd, .ref bb, .ref bbr, .ref pp, .ref ch, .ref se, .ref cc, .ref fa])), (h, .inr (7, [.ref hn, .ref hw, .ref ht, .ref hs, .ref hp, .int (nI (s_X8_fell_sn sn t pl)), .int kp])), (hn, .inl (cI, 6, .inl nm)), (hw, .inl (cI, 10, .inl wd)), (ht, .inl (cI, 6, .inl wt)), (hs, .inl (cI, 6, .inl (s_X8_fell_sT sn sT t pl))), (hp, .inl (cI, 6, .inl (s_X8_fell_sP sn sP t pl)))] s.heap; rw [eo1, eo2, eo3]; exact hP) hS
abbrev rm_X8_forget : Room := { frames := 1, cells := 0, slots := 0, locals := 20 }
set_option maxRecDepth 100000 in
set_option maxHeartbeats 4000000 in
theorem c_X8_forget (l : Launch) (D : va_G) (cI cZ : ClassId) (x h h0 h1 pd bb bbr pp ch se cc fa hn hw ht hs hp sn : Nat) (kp : Int32) (nm wd wt sT sP : Nat → Int32) : Met l yX8_forget [.code yX8_forget cX8_forget 2 (some .int)] rm_X8_forget (PcW D cI cZ [.ref x] [(x, .inr (8, [.ref h, .ref h0, .ref h1, .ref pd, .ref bb, .ref bbr, .ref pp, .ref ch, .ref se, .ref cc, .ref fa])), (h, .inr (7, [.ref hn, .ref hw, .ref ht, .ref hs, .ref hp, .int (nI sn), .int kp])), (hn, .inl (cI, 6, .inl nm)), (hw, .inl (cI, 10, .inl wd)), (ht, .inl (cI, 6, .inl wt)), (hs, .inl (cI, 6, .inl sT)), (hp, .inl (cI, 6, .inl sP))]) (QcE D (S := Unit) (some (.int (nI sn))) (fun _ => True) (fun _ => [(x, .inr (8, [.ref h, .ref h0, .ref h1, .ref pd, .ref bb, .ref bbr, .ref pp, .ref ch, .ref se, .ref cc, .ref fa])), (h, .inr (7, [.ref hn, .ref hw, .ref ht, .ref hs, .ref hp, .int 0, .int kp])), (hn, .inl (cI, 6, .inl nm)), (hw, .inl (cI, 10, .inl wd)), (ht, .inl (cI, 6, .inl wt)), (hs, .inl (cI, 6, .inl sT)), (hp, .inl (cI, 6, .inl sP))]) (zA [(x, .inr (8, [.ref h, .ref h0, .ref h1, .ref pd, .ref bb, .ref bbr, .ref pp, .ref ch, .ref se, .ref cc, .ref fa])), (h, .inr (7, [.ref hn, .ref hw, .ref ht, .ref hs, .ref hp, .int (nI sn), .int kp])), (hn, .inl (cI, 6, .inl nm)), (hw, .inl (cI, 10, .inl wd)), (ht, .inl (cI, 6, .inl wt)), (hs, .inl (cI, 6, .inl sT)), (hp, .inl (cI, 6, .inl sP))])) 0 0 (zA [(x, .inr (8, [.ref h, .ref h0, .ref h1, .ref pd, .ref bb, .ref bbr, .ref pp, .ref ch, .ref se, .ref cc, .ref fa])), (h, .inr (7, [.ref hn, .ref hw, .ref ht, .ref hs, .ref hp, .int (nI sn), .int kp])), (hn, .inl (cI, 6, .inl nm)), (hw, .inl (cI, 10, .inl wd)), (ht, .inl (cI, 6, .inl wt)), (hs, .inl (cI, 6, .inl sT)), (hp, .inl (cI, 6, .inl sP))]) := by
  refine mtWi (by decide) (Nat.le_of_ble_eq_true rfl) (fun p e s m args below meth c Q A S hT hP hD hS hret ls hl => ?_)
  have S : CallFix p m c cX8_forget 2 s args zt RX8 := S
  obtain ⟨hx, hb, hml, hown, hts⟩ := id S
  have hl : lv_has ls 2 [(0, .ref x)] := hl
  refine lv_aload_n hx hb dX8_forget_0 rfl (lv_at hl 0 rfl) ?_
  refine va_get (D := D) (ci := 8) (v := .ref h) (C := RX8) (T := TX8) (N := 11) hx hb hts in_X8 hown hT.1 hP 0 rfl rfl 0 (by decide) (hts _ fl_RX8_12) (fun _ h9 => h9) rfl dX8_forget_1 ?_
  refine kRV (q0 := 1) (st1 := [.int (nI sn)]) S hT hP (c_X7_sights l D cI cZ h hn hw ht hs hp sn kp nm wd wt sT sP) rfl rfl mw_X7_sights lk_RX8_226 ⟨rfl, rfl, (Nat.le_of_ble_eq_true rfl), (Nat.le_of_ble_eq_true rfl), (Nat.le_of_ble_eq_true rfl), (Nat.le_of_ble_eq_true rfl)⟩ [1, 2, 3, 4, 5, 6] rfl rfl rfl hl.1 (Nat.le_of_ble_eq_true rfl) dX8_forget_4 ?_
  refine lv_istore_n (lv' := [(1, .int (nI sn)), (0, .ref x)]) hx hb dX8_forget_7 rfl hl (by decide) rfl (fun ls hl => ?_)
  refine lv_aload_n hx hb dX8_forget_8 rfl (lv_at hl 1 rfl) ?_
  refine va_get (D := D) (ci := 8) (v := .ref h) (C := RX8) (T := TX8) (N := 11) hx hb hts in_X8 hown hT.1 hP 0 rfl rfl 0 (by decide) (hts _ fl_RX8_12) (fun _ h9 => h9) rfl dX8_forget_9 ?_
  refine kEV (q0 := 1) (st1 := []) S hT hP hD hS (c_X7_forgetSights l D cI cZ h hn hw ht hs hp sn kp nm wd wt sT sP) rfl rfl mw_X7_forgetSights lk_RX8_232 ⟨rfl, rfl, (Nat.le_of_ble_eq_true rfl), (Nat.le_of_ble_eq_true rfl), (Nat.le_of_ble_eq_true rfl), (Nat.le_of_ble_eq_true rfl)⟩ [1, 2, 3, 4, 5, 6] [h, hn, hw, ht, hs, hp] (by decide) rfl rfl (fun _ => rfl) rfl rfl hl.1 (Nat.le_of_ble_eq_true rfl) dX8_forget_12 (fun _ H locs _ hP hD hS => ?_)
  have hP : va_P D vwCl [(x, .inr (8, [.ref h, .ref h0, .ref h1, .ref pd, .ref bb, .ref bbr, .ref pp, .ref ch, .ref se, .ref cc, .ref fa])), (h, .inr (7, [.ref hn, .ref hw, .ref ht, .ref hs, .ref hp, .int 0, .int kp])), (hn, .inl (cI, 6, .inl nm)), (hw, .inl (cI, 10, .inl wd)), (ht, .inl (cI, 6, .inl wt)), (hs, .inl (cI, 6, .inl sT)), (hp, .inl (cI, 6, .inl sP))] H := hP
  have hD : va_D A [(x, .inr (8, [.ref h, .ref h0, .ref h1, .ref pd, .ref bb, .ref bbr, .ref pp, .ref ch, .ref se, .ref cc, .ref fa])), (h, .inr (7, [.ref hn, .ref hw, .ref ht, .ref hs, .ref hp, .int 0, .int kp])), (hn, .inl (cI, 6, .inl nm)), (hw, .inl (cI, 10, .inl wd)), (ht, .inl (cI, 6, .inl wt)), (hs, .inl (cI, 6, .inl sT)), (hp, .inl (cI, 6, .inl sP))] := hD
  refine lv_iload_n hx hb dX8_forget_15 rfl (lv_at hl 0 rfl) ?_
  exact hret _ _ _ H locs () dX8_forget_16 rfl trivial hP hS
def s_X8_told (sn : Nat) (nm : Nat → Int32) (wd : Nat → Int32) (wt : Nat → Int32) (len : Nat) (what : Int32) : Int32 := if what = 0 then nI len else (if s_X8_within what 1 6 = 0 then (if what = 7 then nI sn else (if s_X8_within what 10 15 = 0 then (if s_X8_within what 20 24 = 0 then (if s_X8_within what 30 34 = 0 then (-2) else (s_X8_cell 10 wd ((1 * 5) + (what - 30))) + 100) else (s_X8_cell 10 wd ((0 * 5) + (what - 20))) + 100) else s_X8_cell 6 wt (what - 10))) else s_X8_cell 6 nm (what - 1))
abbrev rm_X8_told : Room := { frames := 2, cells := 0, slots := 0, locals := 43 }
set_option maxRecDepth 100000 in
set_option maxHeartbeats 4000000 in
theorem c_X8_told (l : Launch) (D : va_G) (cI cZ : ClassId) (x h h0 h1 pd bb bbr pp ch se cc fa hn hw ht hs hp sn : Nat) (kp : Int32) (nm wd wt sT sP : Nat → Int32) (pg len : Nat) (sg : Nat → Int32) (what : Int32) : Met l yX8_told [.code yX8_told cX8_told 2 (some .int)] rm_X8_told (PcR D cI cZ [.ref x, .int what] [(x, .inr (8, [.ref h, .ref h0, .ref h1, .ref pd, .ref bb, .ref bbr, .ref pp, .ref ch, .ref se, .ref cc, .ref fa])), (h, .inr (7, [.ref hn, .ref hw, .ref ht, .ref hs, .ref hp, .int (nI sn), .int kp])), (hn, .inl (cI, 6, .inl nm)), (hw, .inl (cI, 10, .inl wd)), (ht, .inl (cI, 6, .inl wt)), (hs, .inl (cI, 6, .inl sT)), (hp, .inl (cI, 6, .inl sP)), (pd, .inr (4, [.ref pg, .int (nI len)])), (pg, .inl (cI, 60, .inl sg))]) (QcR (some (.int (s_X8_told sn nm wd wt len what)))) 0 0 zN := by
  refine mtRi (by decide) (Nat.le_of_ble_eq_true rfl) (fun p e s m args below meth c Q S hT hP hret ls hl => ?_)
  have S : CallFix p m c cX8_told 2 s args zt RX8 := S
  obtain ⟨hx, hb, hml, hown, hts⟩ := id S
  have hl : lv_has ls 2 [(0, .ref x), (1, .int what)] := hl
  refine lv_iload_n hx hb dX8_told_0 rfl (lv_at hl 1 rfl) ?_
  refine lv_if_ne (tgt := 12) hx hb dX8_told_1 (by decide) (fun c1 => ?_) (fun c1 => ?_)
  · refine lv_iload_n hx hb dX8_told_12 rfl (lv_at hl 1 rfl) ?_
    refine lv_iconst (v := 1) hx hb dX8_told_13 (by decide) ?_
    refine lv_bipush (v := 6) hx hb dX8_told_14 (by decide) ?_
    refine kRS (st1 := [.int (s_X8_within what 1 6)]) S hT hP (c_X8_within l D cI cZ what 1 6) rfl rfl mw_X8_within lk_RX8_74 ⟨rfl, rfl, (Nat.le_of_ble_eq_true rfl), (Nat.le_of_ble_eq_true rfl), (Nat.le_of_ble_eq_true rfl), (Nat.le_of_ble_eq_true rfl)⟩ [] rfl hl.1 (Nat.le_of_ble_eq_true rfl) dX8_told_16 ?_
    refine lv_if_eq (tgt := 33) hx hb dX8_told_19 (by decide) (fun c2 => ?_) (fun c2 => ?_)
    · refine lv_iload_n hx hb dX8_told_33 rfl (lv_at hl 1 rfl) ?_
      refine lv_bipush (v := 7) hx hb dX8_told_34 (by decide) ?_
      refine lv_icmp_ne (tgt := 47) hx hb dX8_told_36 (by decide) (fun c3 => ?_) (fun c3 => ?_)
      · refine lv_iload_n hx hb dX8_told_47 rfl (lv_at hl 1 rfl) ?_
        refine lv_bipush (v := 10) hx hb dX8_told_48 (by decide) ?_
        refine lv_bipush (v := 15) hx hb dX8_told_50 (by decide) ?_
        refine kRS (st1 := [.int (s_X8_within what 10 15)]) S hT hP (c_X8_within l D cI cZ what 10 15) rfl rfl mw_X8_within lk_RX8_74 ⟨rfl, rfl, (Nat.le_of_ble_eq_true rfl), (Nat.le_of_ble_eq_true rfl), (Nat.le_of_ble_eq_true rfl), (Nat.le_of_ble_eq_true rfl)⟩ [] rfl hl.1 (Nat.le_of_ble_eq_true rfl) dX8_told_52 ?_
        refine lv_if_eq (tgt := 70) hx hb dX8_told_55 (by decide) (fun c4 => ?_) (fun c4 => ?_)
        · refine lv_iload_n hx hb dX8_told_70 rfl (lv_at hl 1 rfl) ?_
          refine lv_bipush (v := 20) hx hb dX8_told_71 (by decide) ?_
          refine lv_bipush (v := 24) hx hb dX8_told_73 (by decide) ?_
          refine kRS (st1 := [.int (s_X8_within what 20 24)]) S hT hP (c_X8_within l D cI cZ what 20 24) rfl rfl mw_X8_within lk_RX8_74 ⟨rfl, rfl, (Nat.le_of_ble_eq_true rfl), (Nat.le_of_ble_eq_true rfl), (Nat.le_of_ble_eq_true rfl), (Nat.le_of_ble_eq_true rfl)⟩ [] rfl hl.1 (Nat.le_of_ble_eq_true rfl) dX8_told_75 ?_
          refine lv_if_eq (tgt := 97) hx hb dX8_told_78 (by decide) (fun c5 => ?_) (fun c5 => ?_)
          · refine lv_iload_n hx hb dX8_told_97 rfl (lv_at hl 1 rfl) ?_
            refine lv_bipush (v := 30) hx hb dX8_told_98 (by decide) ?_
            refine lv_bipush (v := 34) hx hb dX8_told_100 (by decide) ?_
            refine kRS (st1 := [.int (s_X8_within what 30 34)]) S hT hP (c_X8_within l D cI cZ what 30 34) rfl rfl mw_X8_within lk_RX8_74 ⟨rfl, rfl, (Nat.le_of_ble_eq_true rfl), (Nat.le_of_ble_eq_true rfl), (Nat.le_of_ble_eq_true rfl), (Nat.le_of_ble_eq_true rfl)⟩ [] rfl hl.1 (Nat.le_of_ble_eq_true rfl) dX8_told_102 ?_
            refine lv_if_eq (tgt := 124) hx hb dX8_told_105 (by decide) (fun c6 => ?_) (fun c6 => ?_)
            · refine lv_bipush (v := (-2)) hx hb dX8_told_124 (by decide) ?_
              exact hret _ _ _ dX8_told_126 (by unfold s_X8_told; rw [if_neg c1, if_pos c2, if_neg c3, if_pos c4, if_pos c5, if_pos c6])
            · refine lv_aload_n hx hb dX8_told_108 rfl (lv_at hl 0 rfl) ?_
              refine va_get (D := D) (ci := 8) (v := .ref h) (C := RX8) (T := TX8) (N := 11) hx hb hts in_X8 hown hT.1 hP 0 rfl rfl 0 (by decide) (hts _ fl_RX8_12) (fun _ h9 => h9) rfl dX8_told_109 ?_
              refine lv_iload_n hx hb dX8_told_112 rfl (lv_at hl 1 rfl) ?_
              refine lv_bipush (v := 30) hx hb dX8_told_113 (by decide) ?_
              refine lv_isub hx hb dX8_told_115 ?_
              refine lv_iconst (v := 1) hx hb dX8_told_116 (by decide) ?_
              refine kRV (q0 := 1) (st1 := [.int (s_X8_cell 10 wd ((1 * 5) + (what - 30)))]) S hT hP (c_X7_windAt l D cI cZ h hn hw ht hs hp sn kp nm wd wt sT sP (what - 30) 1) rfl rfl mw_X7_windAt lk_RX8_78 ⟨rfl, rfl, (Nat.le_of_ble_eq_true rfl), (Nat.le_of_ble_eq_true rfl), (Nat.le_of_ble_eq_true rfl), (Nat.le_of_ble_eq_true rfl)⟩ [1, 2, 3, 4, 5, 6] rfl rfl rfl hl.1 (Nat.le_of_ble_eq_true rfl) dX8_told_117 ?_
              refine lv_bipush (v := 100) hx hb dX8_told_120 (by decide) ?_
              refine lv_iadd hx hb dX8_told_122 ?_
              exact hret _ _ _ dX8_told_123 (by unfold s_X8_told; rw [if_neg c1, if_pos c2, if_neg c3, if_pos c4, if_pos c5, if_neg c6])
          · refine lv_aload_n hx hb dX8_told_81 rfl (lv_at hl 0 rfl) ?_
            refine va_get (D := D) (ci := 8) (v := .ref h) (C := RX8) (T := TX8) (N := 11) hx hb hts in_X8 hown hT.1 hP 0 rfl rfl 0 (by decide) (hts _ fl_RX8_12) (fun _ h9 => h9) rfl dX8_told_82 ?_
            refine lv_iload_n hx hb dX8_told_85 rfl (lv_at hl 1 rfl) ?_
            refine lv_bipush (v := 20) hx hb dX8_told_86 (by decide) ?_
            refine lv_isub hx hb dX8_told_88 ?_
            refine lv_iconst (v := 0) hx hb dX8_told_89 (by decide) ?_
            refine kRV (q0 := 1) (st1 := [.int (s_X8_cell 10 wd ((0 * 5) + (what - 20)))]) S hT hP (c_X7_windAt l D cI cZ h hn hw ht hs hp sn kp nm wd wt sT sP (what - 20) 0) rfl rfl mw_X7_windAt lk_RX8_78 ⟨rfl, rfl, (Nat.le_of_ble_eq_true rfl), (Nat.le_of_ble_eq_true rfl), (Nat.le_of_ble_eq_true rfl), (Nat.le_of_ble_eq_true rfl)⟩ [1, 2, 3, 4, 5, 6] rfl rfl rfl hl.1 (Nat.le_of_ble_eq_true rfl) dX8_told_90 ?_
            refine lv_bipush (v := 100) hx hb dX8_told_93 (by decide) ?_
            refine lv_iadd hx hb dX8_told_95 ?_
            exact hret _ _ _ dX8_told_96 (by unfold s_X8_told; rw [if_neg c1, if_pos c2, if_neg c3, if_pos c4, if_neg c5])
        · refine lv_aload_n hx hb dX8_told_58 rfl (lv_at hl 0 rfl) ?_
          refine va_get (D := D) (ci := 8) (v := .ref h) (C := RX8) (T := TX8) (N := 11) hx hb hts in_X8 hown hT.1 hP 0 rfl rfl 0 (by decide) (hts _ fl_RX8_12) (fun _ h9 => h9) rfl dX8_told_59 ?_
          refine lv_iload_n hx hb dX8_told_62 rfl (lv_at hl 1 rfl) ?_
          refine lv_bipush (v := 10) hx hb dX8_told_63 (by decide) ?_
          refine lv_isub hx hb dX8_told_65 ?_
          refine kRV (q0 := 1) (st1 := [.int (s_X8_cell 6 wt (what - 10))]) S hT hP (c_X7_weight l D cI cZ h hn hw ht hs hp sn kp nm wd wt sT sP (what - 10)) rfl rfl mw_X7_weight lk_RX8_109 ⟨rfl, rfl, (Nat.le_of_ble_eq_true rfl), (Nat.le_of_ble_eq_true rfl), (Nat.le_of_ble_eq_true rfl), (Nat.le_of_ble_eq_true rfl)⟩ [1, 2, 3, 4, 5, 6] rfl rfl rfl hl.1 (Nat.le_of_ble_eq_true rfl) dX8_told_66 ?_
          exact hret _ _ _ dX8_told_69 (by unfold s_X8_told; rw [if_neg c1, if_pos c2, if_neg c3, if_neg c4])
      · refine lv_aload_n hx hb dX8_told_39 rfl (lv_at hl 0 rfl) ?_
        refine va_get (D := D) (ci := 8) (v := .ref h) (C := RX8) (T := TX8) (N := 11) hx hb hts in_X8 hown hT.1 hP 0 rfl rfl 0 (by decide) (hts _ fl_RX8_12) (fun _ h9 => h9) rfl dX8_told_40 ?_
        refine kRV (q0 := 1) (st1 := [.int (nI sn)]) S hT hP (c_X7_sights l D cI cZ h hn hw ht hs hp sn kp nm wd wt sT sP) rfl rfl mw_X7_sights lk_RX8_226 ⟨rfl, rfl, (Nat.le_of_ble_eq_true rfl), (Nat.le_of_ble_eq_true rfl), (Nat.le_of_ble_eq_true rfl), (Nat.le_of_ble_eq_true rfl)⟩ [1, 2, 3, 4, 5, 6] rfl rfl rfl hl.1 (Nat.le_of_ble_eq_true rfl) dX8_told_43 ?_
        exact hret _ _ _ dX8_told_46 (by unfold s_X8_told; rw [if_neg c1, if_pos c2, if_pos c3])
    · refine lv_aload_n hx hb dX8_told_22 rfl (lv_at hl 0 rfl) ?_
      refine va_get (D := D) (ci := 8) (v := .ref h) (C := RX8) (T := TX8) (N := 11) hx hb hts in_X8 hown hT.1 hP 0 rfl rfl 0 (by decide) (hts _ fl_RX8_12) (fun _ h9 => h9) rfl dX8_told_23 ?_
      refine lv_iload_n hx hb dX8_told_26 rfl (lv_at hl 1 rfl) ?_
      refine lv_iconst (v := 1) hx hb dX8_told_27 (by decide) ?_
      refine lv_isub hx hb dX8_told_28 ?_
      refine kRV (q0 := 1) (st1 := [.int (s_X8_cell 6 nm (what - 1))]) S hT hP (c_X7_number l D cI cZ h hn hw ht hs hp sn kp nm wd wt sT sP (what - 1)) rfl rfl mw_X7_number lk_RX8_97 ⟨rfl, rfl, (Nat.le_of_ble_eq_true rfl), (Nat.le_of_ble_eq_true rfl), (Nat.le_of_ble_eq_true rfl), (Nat.le_of_ble_eq_true rfl)⟩ [1, 2, 3, 4, 5, 6] rfl rfl rfl hl.1 (Nat.le_of_ble_eq_true rfl) dX8_told_29 ?_
      exact hret _ _ _ dX8_told_32 (by unfold s_X8_told; rw [if_neg c1, if_neg c2])
  · refine lv_aload_n hx hb dX8_told_4 rfl (lv_at hl 0 rfl) ?_
    refine va_get (D := D) (ci := 8) (v := .ref pd) (C := RX8) (T := TX8) (N := 11) hx hb hts in_X8 hown hT.1 hP 0 rfl rfl 3 (by decide) (hts _ fl_RX8_25) (fun _ h9 => h9) rfl dX8_told_5 ?_
    refine kRV (q0 := 7) (st1 := [.int (nI len)]) S hT hP (c_X4_length l D cI cZ pd pg len sg) rfl rfl mw_X4_length lk_RX8_115 ⟨rfl, rfl, (Nat.le_of_ble_eq_true rfl), (Nat.le_of_ble_eq_true rfl), (Nat.le_of_ble_eq_true rfl), (Nat.le_of_ble_eq_true rfl)⟩ [7, 8] rfl rfl rfl hl.1 (Nat.le_of_ble_eq_true rfl) dX8_told_8 ?_
    exact hret _ _ _ dX8_told_11 (by unfold s_X8_told; rw [if_pos c1])
