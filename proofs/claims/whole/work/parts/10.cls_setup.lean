abbrev rm_X7_number : Room := { frames := 1, cells := 0, slots := 0, locals := 21 }
set_option maxRecDepth 100000 in
set_option maxHeartbeats 4000000 in
theorem c_X7_number (l : Launch) (D : va_G) (cI cZ : ClassId) (h hn hw ht hs hp sn : Nat) (kp : Int32) (nm wd wt sT sP : Nat → Int32) (w : Int32) : Met l yX7_number [.code yX7_number cX7_number 2 (some .int)] rm_X7_number (PcR D cI cZ [.ref h, .int w] [(h, .inr (7, [.ref hn, .ref hw, .ref ht, .ref hs, .ref hp, .int (nI sn), .int kp])), (hn, .inl (cI, 6, .inl nm)), (hw, .inl (cI, 10, .inl wd)), (ht, .inl (cI, 6, .inl wt)), (hs, .inl (cI, 6, .inl sT)), (hp, .inl (cI, 6, .inl sP))]) (QcR (some (.int (s_X8_cell 6 nm w)))) 0 0 zN := by
  refine mtRi (by decide) (Nat.le_of_ble_eq_true rfl) (fun p e s m args below meth c Q S hT hP hret ls hl => ?_)
  have S : CallFix p m c cX7_number 2 s args zt RX7 := S
  obtain ⟨hx, hb, hml, hown, hts⟩ := id S
  have hl : lv_has ls 2 [(0, .ref h), (1, .int w)] := hl
  refine lv_aload_n hx hb dX7_number_0 rfl (lv_at hl 0 rfl) ?_
  refine va_get (D := D) (ci := 7) (v := .ref hn) (C := RX7) (T := TX7) (N := 7) hx hb hts in_X7 hown hT.1 hP 0 rfl rfl 0 (by decide) (hts _ fl_RX7_9) (fun _ h9 => h9) rfl dX7_number_1 ?_
  refine lv_iload_n hx hb dX7_number_4 rfl (lv_at hl 1 rfl) ?_
  refine kRM (st1 := [.int (s_X8_cell 6 nm w)]) S hT hP (c_X8_cell l D cI cZ hn 6 nm w (by first | assumption | decide | omega)) rfl rfl mw_X8_cell ln_RX7_30 ⟨rfl, rfl, (Nat.le_of_ble_eq_true rfl), (Nat.le_of_ble_eq_true rfl), (Nat.le_of_ble_eq_true rfl), (Nat.le_of_ble_eq_true rfl)⟩ [1] rfl hl.1 (Nat.le_of_ble_eq_true rfl) dX7_number_5 ?_
  exact hret _ _ _ dX7_number_8 rfl
abbrev rm_X7_changeNumber : Room := { frames := 1, cells := 0, slots := 0, locals := 22 }
set_option maxRecDepth 100000 in
set_option maxHeartbeats 4000000 in
theorem c_X7_changeNumber (l : Launch) (D : va_G) (cI cZ : ClassId) (h hn hw ht hs hp sn : Nat) (kp : Int32) (nm wd wt sT sP : Nat → Int32) (w v : Int32) : Met l yX7_changeNumber [.code yX7_changeNumber cX7_changeNumber 3 none] rm_X7_changeNumber (PcW D cI cZ [.ref h, .int w, .int v] [(h, .inr (7, [.ref hn, .ref hw, .ref ht, .ref hs, .ref hp, .int (nI sn), .int kp])), (hn, .inl (cI, 6, .inl nm)), (hw, .inl (cI, 10, .inl wd)), (ht, .inl (cI, 6, .inl wt)), (hs, .inl (cI, 6, .inl sT)), (hp, .inl (cI, 6, .inl sP))]) (QcE D (S := Unit) none (fun _ => True) (fun _ => [(h, .inr (7, [.ref hn, .ref hw, .ref ht, .ref hs, .ref hp, .int (nI sn), .int kp])), (hn, .inl (cI, 6, .inl (s_X8_put_f 6 nm w v))), (hw, .inl (cI, 10, .inl wd)), (ht, .inl (cI, 6, .inl wt)), (hs, .inl (cI, 6, .inl sT)), (hp, .inl (cI, 6, .inl sP))]) (zA [(h, .inr (7, [.ref hn, .ref hw, .ref ht, .ref hs, .ref hp, .int (nI sn), .int kp])), (hn, .inl (cI, 6, .inl nm)), (hw, .inl (cI, 10, .inl wd)), (ht, .inl (cI, 6, .inl wt)), (hs, .inl (cI, 6, .inl sT)), (hp, .inl (cI, 6, .inl sP))])) 0 0 (zA [(h, .inr (7, [.ref hn, .ref hw, .ref ht, .ref hs, .ref hp, .int (nI sn), .int kp])), (hn, .inl (cI, 6, .inl nm)), (hw, .inl (cI, 10, .inl wd)), (ht, .inl (cI, 6, .inl wt)), (hs, .inl (cI, 6, .inl sT)), (hp, .inl (cI, 6, .inl sP))]) := by
  refine mtWv (by decide) (Nat.le_of_ble_eq_true rfl) (fun p e s m args below meth c Q A S hT hP hD hS hret ls hl => ?_)
  have S : CallFix p m c cX7_changeNumber 3 s args zt RX7 := S
  obtain ⟨hx, hb, hml, hown, hts⟩ := id S
  have hl : lv_has ls 3 [(0, .ref h), (1, .int w), (2, .int v)] := hl
  refine lv_aload_n hx hb dX7_changeNumber_0 rfl (lv_at hl 0 rfl) ?_
  refine va_get (D := D) (ci := 7) (v := .ref hn) (C := RX7) (T := TX7) (N := 7) hx hb hts in_X7 hown hT.1 hP 0 rfl rfl 0 (by decide) (hts _ fl_RX7_9) (fun _ h9 => h9) rfl dX7_changeNumber_1 ?_
  refine lv_iload_n hx hb dX7_changeNumber_4 rfl (lv_at hl 1 rfl) ?_
  refine lv_iload_n hx hb dX7_changeNumber_5 rfl (lv_at hl 2 rfl) ?_
  refine kEM (st1 := []) S hT hP hD hS (c_X8_put l D cI cZ hn 6 nm w v (by first | assumption | decide | omega)) rfl rfl mw_X8_put ln_RX7_34 ⟨rfl, rfl, (Nat.le_of_ble_eq_true rfl), (Nat.le_of_ble_eq_true rfl), (Nat.le_of_ble_eq_true rfl), (Nat.le_of_ble_eq_true rfl)⟩ [1] [hn] (by decide) rfl rfl (fun _ => rfl) hl.1 (Nat.le_of_ble_eq_true rfl) dX7_changeNumber_6 (fun _ H locs _ hP hD hS => ?_)
  have hP : va_P D vwCl [(h, .inr (7, [.ref hn, .ref hw, .ref ht, .ref hs, .ref hp, .int (nI sn), .int kp])), (hn, .inl (cI, 6, .inl (s_X8_put_f 6 nm w v))), (hw, .inl (cI, 10, .inl wd)), (ht, .inl (cI, 6, .inl wt)), (hs, .inl (cI, 6, .inl sT)), (hp, .inl (cI, 6, .inl sP))] H := hP
  have hD : va_D A [(h, .inr (7, [.ref hn, .ref hw, .ref ht, .ref hs, .ref hp, .int (nI sn), .int kp])), (hn, .inl (cI, 6, .inl (s_X8_put_f 6 nm w v))), (hw, .inl (cI, 10, .inl wd)), (ht, .inl (cI, 6, .inl wt)), (hs, .inl (cI, 6, .inl sT)), (hp, .inl (cI, 6, .inl sP))] := hD
  exact hret _ _ H locs () dX7_changeNumber_9  trivial hP hS
abbrev rm_X7_windAt : Room := { frames := 1, cells := 0, slots := 0, locals := 21 }
set_option maxRecDepth 100000 in
set_option maxHeartbeats 4000000 in
theorem c_X7_windAt (l : Launch) (D : va_G) (cI cZ : ClassId) (h hn hw ht hs hp sn : Nat) (kp : Int32) (nm wd wt sT sP : Nat → Int32) (hh lt : Int32) : Met l yX7_windAt [.code yX7_windAt cX7_windAt 3 (some .int)] rm_X7_windAt (PcR D cI cZ [.ref h, .int hh, .int lt] [(h, .inr (7, [.ref hn, .ref hw, .ref ht, .ref hs, .ref hp, .int (nI sn), .int kp])), (hn, .inl (cI, 6, .inl nm)), (hw, .inl (cI, 10, .inl wd)), (ht, .inl (cI, 6, .inl wt)), (hs, .inl (cI, 6, .inl sT)), (hp, .inl (cI, 6, .inl sP))]) (QcR (some (.int (s_X8_cell 10 wd ((lt * 5) + hh))))) 0 0 zN := by
  refine mtRi (by decide) (Nat.le_of_ble_eq_true rfl) (fun p e s m args below meth c Q S hT hP hret ls hl => ?_)
  have S : CallFix p m c cX7_windAt 3 s args zt RX7 := S
  obtain ⟨hx, hb, hml, hown, hts⟩ := id S
  have hl : lv_has ls 3 [(0, .ref h), (1, .int hh), (2, .int lt)] := hl
  refine lv_aload_n hx hb dX7_windAt_0 rfl (lv_at hl 0 rfl) ?_
  refine va_get (D := D) (ci := 7) (v := .ref hw) (C := RX7) (T := TX7) (N := 7) hx hb hts in_X7 hown hT.1 hP 0 rfl rfl 1 (by decide) (hts _ fl_RX7_15) (fun _ h9 => h9) rfl dX7_windAt_1 ?_
  refine lv_iload_n hx hb dX7_windAt_4 rfl (lv_at hl 2 rfl) ?_
  refine lv_iconst (v := 5) hx hb dX7_windAt_5 (by decide) ?_
  refine lv_imul hx hb dX7_windAt_6 ?_
  refine lv_iload_n hx hb dX7_windAt_7 rfl (lv_at hl 1 rfl) ?_
  refine lv_iadd hx hb dX7_windAt_8 ?_
  refine kRM (st1 := [.int (s_X8_cell 10 wd ((lt * 5) + hh))]) S hT hP (c_X8_cell l D cI cZ hw 10 wd ((lt * 5) + hh) (by first | assumption | decide | omega)) rfl rfl mw_X8_cell ln_RX7_30 ⟨rfl, rfl, (Nat.le_of_ble_eq_true rfl), (Nat.le_of_ble_eq_true rfl), (Nat.le_of_ble_eq_true rfl), (Nat.le_of_ble_eq_true rfl)⟩ [2] rfl hl.1 (Nat.le_of_ble_eq_true rfl) dX7_windAt_9 ?_
  exact hret _ _ _ dX7_windAt_12 rfl
abbrev rm_X7_changeWind : Room := { frames := 1, cells := 0, slots := 0, locals := 22 }
set_option maxRecDepth 100000 in
set_option maxHeartbeats 4000000 in
theorem c_X7_changeWind (l : Launch) (D : va_G) (cI cZ : ClassId) (h hn hw ht hs hp sn : Nat) (kp : Int32) (nm wd wt sT sP : Nat → Int32) (hh lt v : Int32) : Met l yX7_changeWind [.code yX7_changeWind cX7_changeWind 4 none] rm_X7_changeWind (PcW D cI cZ [.ref h, .int hh, .int lt, .int v] [(h, .inr (7, [.ref hn, .ref hw, .ref ht, .ref hs, .ref hp, .int (nI sn), .int kp])), (hn, .inl (cI, 6, .inl nm)), (hw, .inl (cI, 10, .inl wd)), (ht, .inl (cI, 6, .inl wt)), (hs, .inl (cI, 6, .inl sT)), (hp, .inl (cI, 6, .inl sP))]) (QcE D (S := Unit) none (fun _ => True) (fun _ => [(h, .inr (7, [.ref hn, .ref hw, .ref ht, .ref hs, .ref hp, .int (nI sn), .int kp])), (hn, .inl (cI, 6, .inl nm)), (hw, .inl (cI, 10, .inl (s_X8_put_f 10 wd ((lt * 5) + hh) v))), (ht, .inl (cI, 6, .inl wt)), (hs, .inl (cI, 6, .inl sT)), (hp, .inl (cI, 6, .inl sP))]) (zA [(h, .inr (7, [.ref hn, .ref hw, .ref ht, .ref hs, .ref hp, .int (nI sn), .int kp])), (hn, .inl (cI, 6, .inl nm)), (hw, .inl (cI, 10, .inl wd)), (ht, .inl (cI, 6, .inl wt)), (hs, .inl (cI, 6, .inl sT)), (hp, .inl (cI, 6, .inl sP))])) 0 0 (zA [(h, .inr (7, [.ref hn, .ref hw, .ref ht, .ref hs, .ref hp, .int (nI sn), .int kp])), (hn, .inl (cI, 6, .inl nm)), (hw, .inl (cI, 10, .inl wd)), (ht, .inl (cI, 6, .inl wt)), (hs, .inl (cI, 6, .inl sT)), (hp, .inl (cI, 6, .inl sP))]) := by
  refine mtWv (by decide) (Nat.le_of_ble_eq_true rfl) (fun p e s m args below meth c Q A S hT hP hD hS hret ls hl => ?_)
  have S : CallFix p m c cX7_changeWind 4 s args zt RX7 := S
  obtain ⟨hx, hb, hml, hown, hts⟩ := id S
  have hl : lv_has ls 4 [(0, .ref h), (1, .int hh), (2, .int lt), (3, .int v)] := hl
  refine lv_aload_n hx hb dX7_changeWind_0 rfl (lv_at hl 0 rfl) ?_
  refine va_get (D := D) (ci := 7) (v := .ref hw) (C := RX7) (T := TX7) (N := 7) hx hb hts in_X7 hown hT.1 hP 0 rfl rfl 1 (by decide) (hts _ fl_RX7_15) (fun _ h9 => h9) rfl dX7_changeWind_1 ?_
  refine lv_iload_n hx hb dX7_changeWind_4 rfl (lv_at hl 2 rfl) ?_
  refine lv_iconst (v := 5) hx hb dX7_changeWind_5 (by decide) ?_
  refine lv_imul hx hb dX7_changeWind_6 ?_
  refine lv_iload_n hx hb dX7_changeWind_7 rfl (lv_at hl 1 rfl) ?_
  refine lv_iadd hx hb dX7_changeWind_8 ?_
  refine lv_iload_n hx hb dX7_changeWind_9 rfl (lv_at hl 3 rfl) ?_
  refine kEM (st1 := []) S hT hP hD hS (c_X8_put l D cI cZ hw 10 wd ((lt * 5) + hh) v (by first | assumption | decide | omega)) rfl rfl mw_X8_put ln_RX7_34 ⟨rfl, rfl, (Nat.le_of_ble_eq_true rfl), (Nat.le_of_ble_eq_true rfl), (Nat.le_of_ble_eq_true rfl), (Nat.le_of_ble_eq_true rfl)⟩ [2] [hw] (by decide) rfl rfl (fun _ => rfl) hl.1 (Nat.le_of_ble_eq_true rfl) dX7_changeWind_10 (fun _ H locs _ hP hD hS => ?_)
  have hP : va_P D vwCl [(h, .inr (7, [.ref hn, .ref hw, .ref ht, .ref hs, .ref hp, .int (nI sn), .int kp])), (hn, .inl (cI, 6, .inl nm)), (hw, .inl (cI, 10, .inl (s_X8_put_f 10 wd ((lt * 5) + hh) v))), (ht, .inl (cI, 6, .inl wt)), (hs, .inl (cI, 6, .inl sT)), (hp, .inl (cI, 6, .inl sP))] H := hP
  have hD : va_D A [(h, .inr (7, [.ref hn, .ref hw, .ref ht, .ref hs, .ref hp, .int (nI sn), .int kp])), (hn, .inl (cI, 6, .inl nm)), (hw, .inl (cI, 10, .inl (s_X8_put_f 10 wd ((lt * 5) + hh) v))), (ht, .inl (cI, 6, .inl wt)), (hs, .inl (cI, 6, .inl sT)), (hp, .inl (cI, 6, .inl sP))] := hD
  exact hret _ _ H locs () dX7_changeWind_13  trivial hP hS
abbrev rm_X7_weight : Room := { frames := 1, cells := 0, slots := 0, locals := 21 }
set_option maxRecDepth 100000 in
set_option maxHeartbeats 4000000 in
theorem c_X7_weight (l : Launch) (D : va_G) (cI cZ : ClassId) (h hn hw ht hs hp sn : Nat) (kp : Int32) (nm wd wt sT sP : Nat → Int32) (t : Int32) : Met l yX7_weight [.code yX7_weight cX7_weight 2 (some .int)] rm_X7_weight (PcR D cI cZ [.ref h, .int t] [(h, .inr (7, [.ref hn, .ref hw, .ref ht, .ref hs, .ref hp, .int (nI sn), .int kp])), (hn, .inl (cI, 6, .inl nm)), (hw, .inl (cI, 10, .inl wd)), (ht, .inl (cI, 6, .inl wt)), (hs, .inl (cI, 6, .inl sT)), (hp, .inl (cI, 6, .inl sP))]) (QcR (some (.int (s_X8_cell 6 wt t)))) 0 0 zN := by
  refine mtRi (by decide) (Nat.le_of_ble_eq_true rfl) (fun p e s m args below meth c Q S hT hP hret ls hl => ?_)
  have S : CallFix p m c cX7_weight 2 s args zt RX7 := S
  obtain ⟨hx, hb, hml, hown, hts⟩ := id S
  have hl : lv_has ls 2 [(0, .ref h), (1, .int t)] := hl
  refine lv_aload_n hx hb dX7_weight_0 rfl (lv_at hl 0 rfl) ?_
  refine va_get (D := D) (ci := 7) (v := .ref ht) (C := RX7) (T := TX7) (N := 7) hx hb hts in_X7 hown hT.1 hP 0 rfl rfl 2 (by decide) (hts _ fl_RX7_18) (fun _ h9 => h9) rfl dX7_weight_1 ?_
  refine lv_iload_n hx hb dX7_weight_4 rfl (lv_at hl 1 rfl) ?_
  refine kRM (st1 := [.int (s_X8_cell 6 wt t)]) S hT hP (c_X8_cell l D cI cZ ht 6 wt t (by first | assumption | decide | omega)) rfl rfl mw_X8_cell ln_RX7_30 ⟨rfl, rfl, (Nat.le_of_ble_eq_true rfl), (Nat.le_of_ble_eq_true rfl), (Nat.le_of_ble_eq_true rfl), (Nat.le_of_ble_eq_true rfl)⟩ [3] rfl hl.1 (Nat.le_of_ble_eq_true rfl) dX7_weight_5 ?_
  exact hret _ _ _ dX7_weight_8 rfl
abbrev rm_X7_changeWeight : Room := { frames := 1, cells := 0, slots := 0, locals := 22 }
set_option maxRecDepth 100000 in
set_option maxHeartbeats 4000000 in
theorem c_X7_changeWeight (l : Launch) (D : va_G) (cI cZ : ClassId) (h hn hw ht hs hp sn : Nat) (kp : Int32) (nm wd wt sT sP : Nat → Int32) (t v : Int32) : Met l yX7_changeWeight [.code yX7_changeWeight cX7_changeWeight 3 none] rm_X7_changeWeight (PcW D cI cZ [.ref h, .int t, .int v] [(h, .inr (7, [.ref hn, .ref hw, .ref ht, .ref hs, .ref hp, .int (nI sn), .int kp])), (hn, .inl (cI, 6, .inl nm)), (hw, .inl (cI, 10, .inl wd)), (ht, .inl (cI, 6, .inl wt)), (hs, .inl (cI, 6, .inl sT)), (hp, .inl (cI, 6, .inl sP))]) (QcE D (S := Unit) none (fun _ => True) (fun _ => [(h, .inr (7, [.ref hn, .ref hw, .ref ht, .ref hs, .ref hp, .int (nI sn), .int kp])), (hn, .inl (cI, 6, .inl nm)), (hw, .inl (cI, 10, .inl wd)), (ht, .inl (cI, 6, .inl (s_X8_put_f 6 wt t v))), (hs, .inl (cI, 6, .inl sT)), (hp, .inl (cI, 6, .inl sP))]) (zA [(h, .inr (7, [.ref hn, .ref hw, .ref ht, .ref hs, .ref hp, .int (nI sn), .int kp])), (hn, .inl (cI, 6, .inl nm)), (hw, .inl (cI, 10, .inl wd)), (ht, .inl (cI, 6, .inl wt)), (hs, .inl (cI, 6, .inl sT)), (hp, .inl (cI, 6, .inl sP))])) 0 0 (zA [(h, .inr (7, [.ref hn, .ref hw, .ref ht, .ref hs, .ref hp, .int (nI sn), .int kp])), (hn, .inl (cI, 6, .inl nm)), (hw, .inl (cI, 10, .inl wd)), (ht, .inl (cI, 6, .inl wt)), (hs, .inl (cI, 6, .inl sT)), (hp, .inl (cI, 6, .inl sP))]) := by
  refine mtWv (by decide) (Nat.le_of_ble_eq_true rfl) (fun p e s m args below meth c Q A S hT hP hD hS hret ls hl => ?_)
  have S : CallFix p m c cX7_changeWeight 3 s args zt RX7 := S
  obtain ⟨hx, hb, hml, hown, hts⟩ := id S
  have hl : lv_has ls 3 [(0, .ref h), (1, .int t), (2, .int v)] := hl
  refine lv_aload_n hx hb dX7_changeWeight_0 rfl (lv_at hl 0 rfl) ?_
  refine va_get (D := D) (ci := 7) (v := .ref ht) (C := RX7) (T := TX7) (N := 7) hx hb hts in_X7 hown hT.1 hP 0 rfl rfl 2 (by decide) (hts _ fl_RX7_18) (fun _ h9 => h9) rfl dX7_changeWeight_1 ?_
  refine lv_iload_n hx hb dX7_changeWeight_4 rfl (lv_at hl 1 rfl) ?_
  refine lv_iload_n hx hb dX7_changeWeight_5 rfl (lv_at hl 2 rfl) ?_
  refine kEM (st1 := []) S hT hP hD hS (c_X8_put l D cI cZ ht 6 wt t v (by first | assumption | decide | omega)) rfl rfl mw_X8_put ln_RX7_34 ⟨rfl, rfl, (Nat.le_of_ble_eq_true rfl), (Nat.le_of_ble_eq_true rfl), (Nat.le_of_ble_eq_true rfl), (Nat.le_of_ble_eq_true rfl)⟩ [3] [ht] (by decide) rfl rfl (fun _ => rfl) hl.1 (Nat.le_of_ble_eq_true rfl) dX7_changeWeight_6 (fun _ H locs _ hP hD hS => ?_)
  have hP : va_P D vwCl [(h, .inr (7, [.ref hn, .ref hw, .ref ht, .ref hs, .ref hp, .int (nI sn), .int kp])), (hn, .inl (cI, 6, .inl nm)), (hw, .inl (cI, 10, .inl wd)), (ht, .inl (cI, 6, .inl (s_X8_put_f 6 wt t v))), (hs, .inl (cI, 6, .inl sT)), (hp, .inl (cI, 6, .inl sP))] H := hP
  have hD : va_D A [(h, .inr (7, [.ref hn, .ref hw, .ref ht, .ref hs, .ref hp, .int (nI sn), .int kp])), (hn, .inl (cI, 6, .inl nm)), (hw, .inl (cI, 10, .inl wd)), (ht, .inl (cI, 6, .inl (s_X8_put_f 6 wt t v))), (hs, .inl (cI, 6, .inl sT)), (hp, .inl (cI, 6, .inl sP))] := hD
  exact hret _ _ H locs () dX7_changeWeight_9  trivial hP hS
abbrev rm_X7_sights : Room := { frames := 0, cells := 0, slots := 0, locals := 0 }
set_option maxRecDepth 100000 in
set_option maxHeartbeats 4000000 in
theorem c_X7_sights (l : Launch) (D : va_G) (cI cZ : ClassId) (h hn hw ht hs hp sn : Nat) (kp : Int32) (nm wd wt sT sP : Nat → Int32) : Met l yX7_sights [.code yX7_sights cX7_sights 1 (some .int)] rm_X7_sights (PcR D cI cZ [.ref h] [(h, .inr (7, [.ref hn, .ref hw, .ref ht, .ref hs, .ref hp, .int (nI sn), .int kp])), (hn, .inl (cI, 6, .inl nm)), (hw, .inl (cI, 10, .inl wd)), (ht, .inl (cI, 6, .inl wt)), (hs, .inl (cI, 6, .inl sT)), (hp, .inl (cI, 6, .inl sP))]) (QcR (some (.int (nI sn)))) 0 0 zN := by
  refine mtRi (by decide) (Nat.le_of_ble_eq_true rfl) (fun p e s m args below meth c Q S hT hP hret ls hl => ?_)
  have S : CallFix p m c cX7_sights 1 s args zt RX7 := S
  obtain ⟨hx, hb, hml, hown, hts⟩ := id S
  have hl : lv_has ls 1 [(0, .ref h)] := hl
  refine lv_aload_n hx hb dX7_sights_0 rfl (lv_at hl 0 rfl) ?_
  refine va_get (D := D) (ci := 7) (v := .int (nI sn)) (C := RX7) (T := TX7) (N := 7) hx hb hts in_X7 hown hT.1 hP 0 rfl rfl 5 (by decide) (hts _ fl_RX7_38) (fun _ h9 => h9) rfl dX7_sights_1 ?_
  exact hret _ _ _ dX7_sights_4 rfl
abbrev rm_X7_sightThing : Room := { frames := 1, cells := 0, slots := 0, locals := 21 }
set_option maxRecDepth 100000 in
set_option maxHeartbeats 4000000 in
theorem c_X7_sightThing (l : Launch) (D : va_G) (cI cZ : ClassId) (h hn hw ht hs hp sn : Nat) (kp : Int32) (nm wd wt sT sP : Nat → Int32) (t : Int32) : Met l yX7_sightThing [.code yX7_sightThing cX7_sightThing 2 (some .int)] rm_X7_sightThing (PcR D cI cZ [.ref h, .int t] [(h, .inr (7, [.ref hn, .ref hw, .ref ht, .ref hs, .ref hp, .int (nI sn), .int kp])), (hn, .inl (cI, 6, .inl nm)), (hw, .inl (cI, 10, .inl wd)), (ht, .inl (cI, 6, .inl wt)), (hs, .inl (cI, 6, .inl sT)), (hp, .inl (cI, 6, .inl sP))]) (QcR (some (.int (s_X8_cell 6 sT t)))) 0 0 zN := by
  refine mtRi (by decide) (Nat.le_of_ble_eq_true rfl) (fun p e s m args below meth c Q S hT hP hret ls hl => ?_)
  have S : CallFix p m c cX7_sightThing 2 s args zt RX7 := S
  obtain ⟨hx, hb, hml, hown, hts⟩ := id S
  have hl : lv_has ls 2 [(0, .ref h), (1, .int t)] := hl
  refine lv_aload_n hx hb dX7_sightThing_0 rfl (lv_at hl 0 rfl) ?_
  refine va_get (D := D) (ci := 7) (v := .ref hs) (C := RX7) (T := TX7) (N := 7) hx hb hts in_X7 hown hT.1 hP 0 rfl rfl 3 (by decide) (hts _ fl_RX7_21) (fun _ h9 => h9) rfl dX7_sightThing_1 ?_
  refine lv_iload_n hx hb dX7_sightThing_4 rfl (lv_at hl 1 rfl) ?_
  refine kRM (st1 := [.int (s_X8_cell 6 sT t)]) S hT hP (c_X8_cell l D cI cZ hs 6 sT t (by first | assumption | decide | omega)) rfl rfl mw_X8_cell ln_RX7_30 ⟨rfl, rfl, (Nat.le_of_ble_eq_true rfl), (Nat.le_of_ble_eq_true rfl), (Nat.le_of_ble_eq_true rfl), (Nat.le_of_ble_eq_true rfl)⟩ [4] rfl hl.1 (Nat.le_of_ble_eq_true rfl) dX7_sightThing_5 ?_
  exact hret _ _ _ dX7_sightThing_8 rfl
abbrev rm_X7_sightPlace : Room := { frames := 1, cells := 0, slots := 0, locals := 21 }
set_option maxRecDepth 100000 in
set_option maxHeartbeats 4000000 in
theorem c_X7_sightPlace (l : Launch) (D : va_G) (cI cZ : ClassId) (h hn hw ht hs hp sn : Nat) (kp : Int32) (nm wd wt sT sP : Nat → Int32) (t : Int32) : Met l yX7_sightPlace [.code yX7_sightPlace cX7_sightPlace 2 (some .int)] rm_X7_sightPlace (PcR D cI cZ [.ref h, .int t] [(h, .inr (7, [.ref hn, .ref hw, .ref ht, .ref hs, .ref hp, .int (nI sn), .int kp])), (hn, .inl (cI, 6, .inl nm)), (hw, .inl (cI, 10, .inl wd)), (ht, .inl (cI, 6, .inl wt)), (hs, .inl (cI, 6, .inl sT)), (hp, .inl (cI, 6, .inl sP))]) (QcR (some (.int (s_X8_cell 6 sP t)))) 0 0 zN := by
  refine mtRi (by decide) (Nat.le_of_ble_eq_true rfl) (fun p e s m args below meth c Q S hT hP hret ls hl => ?_)
  have S : CallFix p m c cX7_sightPlace 2 s args zt RX7 := S
  obtain ⟨hx, hb, hml, hown, hts⟩ := id S
  have hl : lv_has ls 2 [(0, .ref h), (1, .int t)] := hl
  refine lv_aload_n hx hb dX7_sightPlace_0 rfl (lv_at hl 0 rfl) ?_
  refine va_get (D := D) (ci := 7) (v := .ref hp) (C := RX7) (T := TX7) (N := 7) hx hb hts in_X7 hown hT.1 hP 0 rfl rfl 4 (by decide) (hts _ fl_RX7_24) (fun _ h9 => h9) rfl dX7_sightPlace_1 ?_
  refine lv_iload_n hx hb dX7_sightPlace_4 rfl (lv_at hl 1 rfl) ?_
  refine kRM (st1 := [.int (s_X8_cell 6 sP t)]) S hT hP (c_X8_cell l D cI cZ hp 6 sP t (by first | assumption | decide | omega)) rfl rfl mw_X8_cell ln_RX7_30 ⟨rfl, rfl, (Nat.le_of_ble_eq_true rfl), (Nat.le_of_ble_eq_true rfl), (Nat.le_of_ble_eq_true rfl), (Nat.le_of_ble_eq_true rfl)⟩ [5] rfl hl.1 (Nat.le_of_ble_eq_true rfl) dX7_sightPlace_5 ?_
  exact hret _ _ _ dX7_sightPlace_8 rfl
abbrev rm_X7_addSight : Room := { frames := 1, cells := 0, slots := 0, locals := 22 }
set_option maxRecDepth 100000 in
set_option maxHeartbeats 4000000 in
theorem c_X7_addSight (l : Launch) (D : va_G) (cI cZ : ClassId) (h hn hw ht hs hp sn : Nat) (kp : Int32) (nm wd wt sT sP : Nat → Int32) (t pl : Int32) : Met l yX7_addSight [.code yX7_addSight cX7_addSight 3 none] rm_X7_addSight (PcW D cI cZ [.ref h, .int t, .int pl] [(h, .inr (7, [.ref hn, .ref hw, .ref ht, .ref hs, .ref hp, .int (nI sn), .int kp])), (hn, .inl (cI, 6, .inl nm)), (hw, .inl (cI, 10, .inl wd)), (ht, .inl (cI, 6, .inl wt)), (hs, .inl (cI, 6, .inl sT)), (hp, .inl (cI, 6, .inl sP))]) (QcE D (S := Unit) none (fun _ => True) (fun _ => [(h, .inr (7, [.ref hn, .ref hw, .ref ht, .ref hs, .ref hp, .int (nI (sn + 1)), .int kp])), (hn, .inl (cI, 6, .inl nm)), (hw, .inl (cI, 10, .inl wd)), (ht, .inl (cI, 6, .inl wt)), (hs, .inl (cI, 6, .inl (s_X8_put_f 6 sT (nI sn) t))), (hp, .inl (cI, 6, .inl (s_X8_put_f 6 sP (nI sn) pl)))]) (zA [(h, .inr (7, [.ref hn, .ref hw, .ref ht, .ref hs, .ref hp, .int (nI sn), .int kp])), (hn, .inl (cI, 6, .inl nm)), (hw, .inl (cI, 10, .inl wd)), (ht, .inl (cI, 6, .inl wt)), (hs, .inl (cI, 6, .inl sT)), (hp, .inl (cI, 6, .inl sP))])) 0 0 (zA [(h, .inr (7, [.ref hn, .ref hw, .ref ht, .ref hs, .ref hp, .int (nI sn), .int kp])), (hn, .inl (cI, 6, .inl nm)), (hw, .inl (cI, 10, .inl wd)), (ht, .inl (cI, 6, .inl wt)), (hs, .inl (cI, 6, .inl sT)), (hp, .inl (cI, 6, .inl sP))]) := by
  refine mtWv (by decide) (Nat.le_of_ble_eq_true rfl) (fun p e s m args below meth c Q A S hT hP hD hS hret ls hl => ?_)
  have S : CallFix p m c cX7_addSight 3 s args zt RX7 := S
  obtain ⟨hx, hb, hml, hown, hts⟩ := id S
  have hl : lv_has ls 3 [(0, .ref h), (1, .int t), (2, .int pl)] := hl
  refine lv_aload_n hx hb dX7_addSight_0 rfl (lv_at hl 0 rfl) ?_
  refine va_get (D := D) (ci := 7) (v := .ref hs) (C := RX7) (T := TX7) (N := 7) hx hb hts in_X7 hown hT.1 hP 0 rfl rfl 3 (by decide) (hts _ fl_RX7_21) (fun _ h9 => h9) rfl dX7_addSight_1 ?_
  refine lv_aload_n hx hb dX7_addSight_4 rfl (lv_at hl 0 rfl) ?_
  refine va_get (D := D) (ci := 7) (v := .int (nI sn)) (C := RX7) (T := TX7) (N := 7) hx hb hts in_X7 hown hT.1 hP 0 rfl rfl 5 (by decide) (hts _ fl_RX7_38) (fun _ h9 => h9) rfl dX7_addSight_5 ?_
  refine lv_iload_n hx hb dX7_addSight_8 rfl (lv_at hl 1 rfl) ?_
  refine kEM (st1 := []) S hT hP hD hS (c_X8_put l D cI cZ hs 6 sT (nI sn) t (by first | assumption | decide | omega)) rfl rfl mw_X8_put ln_RX7_34 ⟨rfl, rfl, (Nat.le_of_ble_eq_true rfl), (Nat.le_of_ble_eq_true rfl), (Nat.le_of_ble_eq_true rfl), (Nat.le_of_ble_eq_true rfl)⟩ [4] [hs] (by decide) rfl rfl (fun _ => rfl) hl.1 (Nat.le_of_ble_eq_true rfl) dX7_addSight_9 (fun _ H locs _ hP hD hS => ?_)
  have hP : va_P D vwCl [(h, .inr (7, [.ref hn, .ref hw, .ref ht, .ref hs, .ref hp, .int (nI sn), .int kp])), (hn, .inl (cI, 6, .inl nm)), (hw, .inl (cI, 10, .inl wd)), (ht, .inl (cI, 6, .inl wt)), (hs, .inl (cI, 6, .inl (s_X8_put_f 6 sT (nI sn) t))), (hp, .inl (cI, 6, .inl sP))] H := hP
  have hD : va_D A [(h, .inr (7, [.ref hn, .ref hw, .ref ht, .ref hs, .ref hp, .int (nI sn), .int kp])), (hn, .inl (cI, 6, .inl nm)), (hw, .inl (cI, 10, .inl wd)), (ht, .inl (cI, 6, .inl wt)), (hs, .inl (cI, 6, .inl (s_X8_put_f 6 sT (nI sn) t))), (hp, .inl (cI, 6, .inl sP))] := hD
  refine lv_aload_n hx hb dX7_addSight_12 rfl (lv_at hl 0 rfl) ?_
  refine va_get (D := D) (ci := 7) (v := .ref hp) (C := RX7) (T := TX7) (N := 7) hx hb hts in_X7 hown hT.1 hP 0 rfl rfl 4 (by decide) (hts _ fl_RX7_24) (fun _ h9 => h9) rfl dX7_addSight_13 ?_
  refine lv_aload_n hx hb dX7_addSight_16 rfl (lv_at hl 0 rfl) ?_
  refine va_get (D := D) (ci := 7) (v := .int (nI sn)) (C := RX7) (T := TX7) (N := 7) hx hb hts in_X7 hown hT.1 hP 0 rfl rfl 5 (by decide) (hts _ fl_RX7_38) (fun _ h9 => h9) rfl dX7_addSight_17 ?_
  refine lv_iload_n hx hb dX7_addSight_20 rfl (lv_at hl 2 rfl) ?_
  refine kEM (st1 := []) S hT hP hD hS (c_X8_put l D cI cZ hp 6 sP (nI sn) pl (by first | assumption | decide | omega)) rfl rfl mw_X8_put ln_RX7_34 ⟨rfl, rfl, (Nat.le_of_ble_eq_true rfl), (Nat.le_of_ble_eq_true rfl), (Nat.le_of_ble_eq_true rfl), (Nat.le_of_ble_eq_true rfl)⟩ [5] [hp] (by decide) rfl rfl (fun _ => rfl) hl.1 (Nat.le_of_ble_eq_true rfl) dX7_addSight_21 (fun _ H locs _ hP hD hS => ?_)
  have hP : va_P D vwCl [(h, .inr (7, [.ref hn, .ref hw, .ref ht, .ref hs, .ref hp, .int (nI sn), .int kp])), (hn, .inl (cI, 6, .inl nm)), (hw, .inl (cI, 10, .inl wd)), (ht, .inl (cI, 6, .inl wt)), (hs, .inl (cI, 6, .inl (s_X8_put_f 6 sT (nI sn) t))), (hp, .inl (cI, 6, .inl (s_X8_put_f 6 sP (nI sn) pl)))] H := hP
  have hD : va_D A [(h, .inr (7, [.ref hn, .ref hw, .ref ht, .ref hs, .ref hp, .int (nI sn), .int kp])), (hn, .inl (cI, 6, .inl nm)), (hw, .inl (cI, 10, .inl wd)), (ht, .inl (cI, 6, .inl wt)), (hs, .inl (cI, 6, .inl (s_X8_put_f 6 sT (nI sn) t))), (hp, .inl (cI, 6, .inl (s_X8_put_f 6 sP (nI sn) pl)))] := hD
  refine lv_aload_n hx hb dX7_addSight_24 rfl (lv_at hl 0 rfl) ?_
  refine lv_dup hx hb dX7_addSight_25 rfl ?_
  refine va_get (D := D) (ci := 7) (v := .int (nI sn)) (C := RX7) (T := TX7) (N := 7) hx hb hts in_X7 hown hT.1 hP 0 rfl rfl 5 (by decide) (hts _ fl_RX7_38) (fun _ h9 => h9) rfl dX7_addSight_26 ?_
  refine lv_iconst (v := 1) hx hb dX7_addSight_29 (by decide) ?_
  refine lv_iadd hx hb dX7_addSight_30 ?_
  refine zI (y := nI (sn + 1)) (nI_1 sn) ?_
  refine va_put (D := D) (ci := 7) (v := .int (nI (sn + 1))) (ty := .int) (C := RX7) (T := TX7) (N := 7) hx hb hts in_X7 tyX7 tyX7_ok nmX7 hown hT.1 hP hD hS 0 rfl rfl 5 (by decide) (hts _ fl_RX7_38) (fun _ h9 => h9) rfl (by decide +kernel) rfl rfl (Nat.le_of_ble_eq_true rfl) dX7_addSight_31 (fun H locs hP hD hS => ?_)
  have hP : va_P D vwCl [(h, .inr (7, [.ref hn, .ref hw, .ref ht, .ref hs, .ref hp, .int (nI (sn + 1)), .int kp])), (hn, .inl (cI, 6, .inl nm)), (hw, .inl (cI, 10, .inl wd)), (ht, .inl (cI, 6, .inl wt)), (hs, .inl (cI, 6, .inl (s_X8_put_f 6 sT (nI sn) t))), (hp, .inl (cI, 6, .inl (s_X8_put_f 6 sP (nI sn) pl)))] H := hP
  have hD : va_D A [(h, .inr (7, [.ref hn, .ref hw, .ref ht, .ref hs, .ref hp, .int (nI (sn + 1)), .int kp])), (hn, .inl (cI, 6, .inl nm)), (hw, .inl (cI, 10, .inl wd)), (ht, .inl (cI, 6, .inl wt)), (hs, .inl (cI, 6, .inl (s_X8_put_f 6 sT (nI sn) t))), (hp, .inl (cI, 6, .inl (s_X8_put_f 6 sP (nI sn) pl)))] := hD
  exact hret _ _ H locs () dX7_addSight_34  trivial hP hS
abbrev rm_X7_forgetSights : Room := { frames := 0, cells := 0, slots := 0, locals := 0 }
set_option maxRecDepth 100000 in
set_option maxHeartbeats 4000000 in
theorem c_X7_forgetSights (l : Launch) (D : va_G) (cI cZ : ClassId) (h hn hw ht hs hp sn : Nat) (kp : Int32) (nm wd wt sT sP : Nat → Int32) : Met l yX7_forgetSights [.code yX7_forgetSights cX7_forgetSights 1 none] rm_X7_forgetSights (PcW D cI cZ [.ref h] [(h, .inr (7, [.ref hn, .ref hw, .ref ht, .ref hs, .ref hp, .int (nI sn), .int kp])), (hn, .inl (cI, 6, .inl nm)), (hw, .inl (cI, 10, .inl wd)), (ht, .inl (cI, 6, .inl wt)), (hs, .inl (cI, 6, .inl sT)), (hp, .inl (cI, 6, .inl sP))]) (QcE D (S := Unit) none (fun _ => True) (fun _ => [(h, .inr (7, [.ref hn, .ref hw, .ref ht, .ref hs, .ref hp, .int 0, .int kp])), (hn, .inl (cI, 6, .inl nm)), (hw, .inl (cI, 10, .inl wd)), (ht, .inl (cI, 6, .inl wt)), (hs, .inl (cI, 6, .inl sT)), (hp, .inl (cI, 6, .inl sP))]) (zA [(h, .inr (7, [.ref hn, .ref hw, .ref ht, .ref hs, .ref hp, .int (nI sn), .int kp])), (hn, .inl (cI, 6, .inl nm)), (hw, .inl (cI, 10, .inl wd)), (ht, .inl (cI, 6, .inl wt)), (hs, .inl (cI, 6, .inl sT)), (hp, .inl (cI, 6, .inl sP))])) 0 0 (zA [(h, .inr (7, [.ref hn, .ref hw, .ref ht, .ref hs, .ref hp, .int (nI sn), .int kp])), (hn, .inl (cI, 6, .inl nm)), (hw, .inl (cI, 10, .inl wd)), (ht, .inl (cI, 6, .inl wt)), (hs, .inl (cI, 6, .inl sT)), (hp, .inl (cI, 6, .inl sP))]) := by
  refine mtWv (by decide) (Nat.le_of_ble_eq_true rfl) (fun p e s m args below meth c Q A S hT hP hD hS hret ls hl => ?_)
  have S : CallFix p m c cX7_forgetSights 1 s args zt RX7 := S
  obtain ⟨hx, hb, hml, hown, hts⟩ := id S
  have hl : lv_has ls 1 [(0, .ref h)] := hl
  refine lv_aload_n hx hb dX7_forgetSights_0 rfl (lv_at hl 0 rfl) ?_
  refine lv_iconst (v := 0) hx hb dX7_forgetSights_1 (by decide) ?_
  refine va_put (D := D) (ci := 7) (v := .int 0) (ty := .int) (C := RX7) (T := TX7) (N := 7) hx hb hts in_X7 tyX7 tyX7_ok nmX7 hown hT.1 hP hD hS 0 rfl rfl 5 (by decide) (hts _ fl_RX7_38) (fun _ h9 => h9) rfl (by decide +kernel) rfl rfl (Nat.le_of_ble_eq_true rfl) dX7_forgetSights_2 (fun H locs hP hD hS => ?_)
  have hP : va_P D vwCl [(h, .inr (7, [.ref hn, .ref hw, .ref ht, .ref hs, .ref hp, .int 0, .int kp])), (hn, .inl (cI, 6, .inl nm)), (hw, .inl (cI, 10, .inl wd)), (ht, .inl (cI, 6, .inl wt)), (hs, .inl (cI, 6, .inl sT)), (hp, .inl (cI, 6, .inl sP))] H := hP
  have hD : va_D A [(h, .inr (7, [.ref hn, .ref hw, .ref ht, .ref hs, .ref hp, .int 0, .int kp])), (hn, .inl (cI, 6, .inl nm)), (hw, .inl (cI, 10, .inl wd)), (ht, .inl (cI, 6, .inl wt)), (hs, .inl (cI, 6, .inl sT)), (hp, .inl (cI, 6, .inl sP))] := hD
  exact hret _ _ H locs () dX7_forgetSights_5  trivial hP hS
def lp_X7_loaded_4 (wt : Nat → Int32) : Nat → Nat → Int32 → Int32
  | 0, _, x1_4 => x1_4
  | fu + 1, k, x1_4 => if 6 ≤ nI k then x1_4 else (if (s_X8_cell 6 wt (nI k)) ≤ 0 then lp_X7_loaded_4 wt fu (k + 1) (x1_4 ||| 0) else lp_X7_loaded_4 wt fu (k + 1) (x1_4 ||| (1 <<< ((nI k) &&& 31))))
abbrev rm_X7_loaded : Room := { frames := 2, cells := 0, slots := 0, locals := 42 }
set_option maxRecDepth 100000 in
set_option maxHeartbeats 4000000 in
theorem c_X7_loaded (l : Launch) (D : va_G) (cI cZ : ClassId) (h hn hw ht hs hp sn : Nat) (kp : Int32) (nm wd wt sT sP : Nat → Int32) : Met l yX7_loaded [.code yX7_loaded cX7_loaded 3 (some .int)] rm_X7_loaded (PcR D cI cZ [.ref h] [(h, .inr (7, [.ref hn, .ref hw, .ref ht, .ref hs, .ref hp, .int (nI sn), .int kp])), (hn, .inl (cI, 6, .inl nm)), (hw, .inl (cI, 10, .inl wd)), (ht, .inl (cI, 6, .inl wt)), (hs, .inl (cI, 6, .inl sT)), (hp, .inl (cI, 6, .inl sP))]) (QcR (some (.int (lp_X7_loaded_4 wt 7 0 0)))) 0 0 zN := by
  refine mtRi (by decide) (Nat.le_of_ble_eq_true rfl) (fun p e s m args below meth c Q S hT hP hret ls hl => ?_)
  have S : CallFix p m c cX7_loaded 3 s args zt RX7 := S
  obtain ⟨hx, hb, hml, hown, hts⟩ := id S
  have hl : lv_has ls 3 [(0, .ref h)] := hl
  refine lv_iconst (v := 0) hx hb dX7_loaded_0 (by decide) ?_
  refine lv_istore_n (lv' := [(1, .int 0), (0, .ref h)]) hx hb dX7_loaded_1 rfl hl (by decide) rfl (fun ls hl => ?_)
  refine lv_iconst (v := 0) hx hb dX7_loaded_2 (by decide) ?_
  refine lv_istore_n (lv' := [(2, .int 0), (1, .int 0), (0, .ref h)]) hx hb dX7_loaded_3 rfl hl (by decide) rfl (fun ls hl => ?_)
  have X2 : ∀ (y1 : Int32), (lp_X7_loaded_4 wt 7 0 0) = y1 → ∀ (ls : Array Slot), lv_has ls 3 [(0, .ref h), (1, .int y1)] → W p l e rm_X7_loaded s m args below meth c s.heap [] 0 0 Q (F0 m 34 ls []) := by
    intro y1 ey1 ls hl
    subst ey1
    refine lv_iload_n hx hb dX7_loaded_34 rfl (lv_at hl 1 rfl) ?_
    exact hret _ _ _ dX7_loaded_35 rfl
  have L3 : ∀ (n6 : Nat) (k : Nat) (x1_4 : Int32), 6 - k < n6 → (k ≤ 6) → lp_X7_loaded_4 wt n6 k x1_4 = lp_X7_loaded_4 wt 7 0 0 → ∀ (ls : Array Slot), lv_has ls 3 [(0, .ref h), (1, .int x1_4), (2, .int (nI k))] → W p l e rm_X7_loaded s m args below meth c s.heap [] 0 0 Q (F0 m 4 ls []) := by
    intro n6
    induction n6 with
    | zero => intro k x1_4 hm; exact absurd hm (Nat.not_lt_zero _)
    | succ n6 ih5 =>
      intro k x1_4 hm7 hk hv4 ls hl
      refine lv_iload_n hx hb dX7_loaded_4 rfl (lv_at hl 2 rfl) ?_
      refine lv_bipush (v := 6) hx hb dX7_loaded_5 (by decide) ?_
      refine lv_icmp_ge (tgt := 34) hx hb dX7_loaded_7 (by decide) (fun c8 => ?_) (fun c8 => ?_)
      · have nc8 := zNle (a := 6) (b := k) c8 (by omega) (by omega)
        exact X2 _ (by rw [← hv4, lp_X7_loaded_4, if_pos c8]) ls (lv_sub hl [0, 1] rfl)
      · have nc8 := zNnle (a := 6) (b := k) c8 (by omega) (by omega)
        refine lv_iload_n hx hb dX7_loaded_10 rfl (lv_at hl 1 rfl) ?_
        refine lv_aload_n hx hb dX7_loaded_11 rfl (lv_at hl 0 rfl) ?_
        refine lv_iload_n hx hb dX7_loaded_12 rfl (lv_at hl 2 rfl) ?_
        refine kRV (q0 := 0) (st1 := [.int (s_X8_cell 6 wt (nI k)), .int x1_4]) S hT hP (c_X7_weight l D cI cZ h hn hw ht hs hp sn kp nm wd wt sT sP (nI k)) rfl rfl mw_X7_weight lk_RX7_42 ⟨rfl, rfl, (Nat.le_of_ble_eq_true rfl), (Nat.le_of_ble_eq_true rfl), (Nat.le_of_ble_eq_true rfl), (Nat.le_of_ble_eq_true rfl)⟩ [0, 1, 2, 3, 4, 5] rfl rfl rfl hl.1 (Nat.le_of_ble_eq_true rfl) dX7_loaded_13 ?_
        refine lv_if_le (tgt := 25) hx hb dX7_loaded_16 (by decide) (fun c9 => ?_) (fun c9 => ?_)
        · refine lv_iconst (v := 0) hx hb dX7_loaded_25 (by decide) ?_
          refine lv_ior hx hb dX7_loaded_26 ?_
          refine lv_istore_n (lv' := [(1, .int (x1_4 ||| 0)), (0, .ref h), (2, .int (nI k))]) hx hb dX7_loaded_27 rfl hl (by decide) rfl (fun ls hl => ?_)
          refine lv_iinc (v := nI (k + 1)) (lv' := [(2, .int (nI (k + 1))), (1, .int (x1_4 ||| 0)), (0, .ref h)]) hx hb dX7_loaded_28 hl (k := 2) rfl (nI_1 k) (by decide) rfl (fun ls hl => ?_)
          refine lv_goto (tgt := 4) hx hb dX7_loaded_31 (by decide) ?_
          exact ih5 (k + 1) (x1_4 ||| 0) (by omega) (by omega) (by rw [← hv4, lp_X7_loaded_4, if_neg c8, if_pos c9]) ls (lv_sub hl [2, 1, 0] rfl)
        · refine lv_iconst (v := 1) hx hb dX7_loaded_19 (by decide) ?_
          refine lv_iload_n hx hb dX7_loaded_20 rfl (lv_at hl 2 rfl) ?_
          refine lv_ishl hx hb dX7_loaded_21 ?_
          refine lv_goto (tgt := 26) hx hb dX7_loaded_22 (by decide) ?_
          refine lv_ior hx hb dX7_loaded_26 ?_
          refine lv_istore_n (lv' := [(1, .int (x1_4 ||| (1 <<< ((nI k) &&& 31)))), (0, .ref h), (2, .int (nI k))]) hx hb dX7_loaded_27 rfl hl (by decide) rfl (fun ls hl => ?_)
          refine lv_iinc (v := nI (k + 1)) (lv' := [(2, .int (nI (k + 1))), (1, .int (x1_4 ||| (1 <<< ((nI k) &&& 31)))), (0, .ref h)]) hx hb dX7_loaded_28 hl (k := 2) rfl (nI_1 k) (by decide) rfl (fun ls hl => ?_)
          refine lv_goto (tgt := 4) hx hb dX7_loaded_31 (by decide) ?_
          exact ih5 (k + 1) (x1_4 ||| (1 <<< ((nI k) &&& 31))) (by omega) (by omega) (by rw [← hv4, lp_X7_loaded_4, if_neg c8, if_neg c9]) ls (lv_sub hl [2, 1, 0] rfl)
  exact L3 7 0 0 (by omega) (by omega) rfl ls (lv_sub hl [2, 1, 0] rfl)
def lp_X7_heaviest_5 (wt : Nat → Int32) (ab : Int32) : Nat → Nat → Int32 → Int32
  | 0, _, x2_5 => x2_5
  | fu + 1, k, x2_5 => if 6 ≤ nI k then x2_5 else (if (s_X8_has ab (nI k)) = 0 then lp_X7_heaviest_5 wt ab fu (k + 1) x2_5 else (if x2_5 = (-6) then lp_X7_heaviest_5 wt ab fu (k + 1) (nI k) else (if (s_X8_cell 6 wt (nI k)) ≤ s_X8_cell 6 wt x2_5 then lp_X7_heaviest_5 wt ab fu (k + 1) x2_5 else lp_X7_heaviest_5 wt ab fu (k + 1) (nI k))))
abbrev rm_X7_heaviest : Room := { frames := 2, cells := 0, slots := 0, locals := 42 }
set_option maxRecDepth 100000 in
set_option maxHeartbeats 4000000 in
theorem c_X7_heaviest (l : Launch) (D : va_G) (cI cZ : ClassId) (h hn hw ht hs hp sn : Nat) (kp : Int32) (nm wd wt sT sP : Nat → Int32) (ab : Int32) : Met l yX7_heaviest [.code yX7_heaviest cX7_heaviest 4 (some .int)] rm_X7_heaviest (PcR D cI cZ [.ref h, .int ab] [(h, .inr (7, [.ref hn, .ref hw, .ref ht, .ref hs, .ref hp, .int (nI sn), .int kp])), (hn, .inl (cI, 6, .inl nm)), (hw, .inl (cI, 10, .inl wd)), (ht, .inl (cI, 6, .inl wt)), (hs, .inl (cI, 6, .inl sT)), (hp, .inl (cI, 6, .inl sP))]) (QcR (some (.int (lp_X7_heaviest_5 wt ab 7 0 (-6))))) 0 0 zN := by
  refine mtRi (by decide) (Nat.le_of_ble_eq_true rfl) (fun p e s m args below meth c Q S hT hP hret ls hl => ?_)
  have S : CallFix p m c cX7_heaviest 4 s args zt RX7 := S
  obtain ⟨hx, hb, hml, hown, hts⟩ := id S
  have hl : lv_has ls 4 [(0, .ref h), (1, .int ab)] := hl
  refine lv_bipush (v := (-6)) hx hb dX7_heaviest_0 (by decide) ?_
  refine lv_istore_n (lv' := [(2, .int (-6)), (0, .ref h), (1, .int ab)]) hx hb dX7_heaviest_2 rfl hl (by decide) rfl (fun ls hl => ?_)
  refine lv_iconst (v := 0) hx hb dX7_heaviest_3 (by decide) ?_
  refine lv_istore_n (lv' := [(3, .int 0), (2, .int (-6)), (0, .ref h), (1, .int ab)]) hx hb dX7_heaviest_4 rfl hl (by decide) rfl (fun ls hl => ?_)
  have X2 : ∀ (y1 : Int32), (lp_X7_heaviest_5 wt ab 7 0 (-6)) = y1 → ∀ (ls : Array Slot), lv_has ls 4 [(0, .ref h), (1, .int ab), (2, .int y1)] → W p l e rm_X7_heaviest s m args below meth c s.heap [] 0 0 Q (F0 m 46 ls []) := by
    intro y1 ey1 ls hl
    subst ey1
    refine lv_iload_n hx hb dX7_heaviest_46 rfl (lv_at hl 2 rfl) ?_
    exact hret _ _ _ dX7_heaviest_47 rfl
  have L3 : ∀ (n6 : Nat) (k : Nat) (x2_5 : Int32), 6 - k < n6 → (k ≤ 6) → lp_X7_heaviest_5 wt ab n6 k x2_5 = lp_X7_heaviest_5 wt ab 7 0 (-6) → ∀ (ls : Array Slot), lv_has ls 4 [(0, .ref h), (1, .int ab), (2, .int x2_5), (3, .int (nI k))] → W p l e rm_X7_heaviest s m args below meth c s.heap [] 0 0 Q (F0 m 5 ls []) := by
    intro n6
    induction n6 with
    | zero => intro k x2_5 hm; exact absurd hm (Nat.not_lt_zero _)
    | succ n6 ih5 =>
      intro k x2_5 hm7 hk hv4 ls hl
      refine lv_iload_n hx hb dX7_heaviest_5 rfl (lv_at hl 3 rfl) ?_
      refine lv_bipush (v := 6) hx hb dX7_heaviest_6 (by decide) ?_
      refine lv_icmp_ge (tgt := 46) hx hb dX7_heaviest_8 (by decide) (fun c8 => ?_) (fun c8 => ?_)
      · have nc8 := zNle (a := 6) (b := k) c8 (by omega) (by omega)
        exact X2 _ (by rw [← hv4, lp_X7_heaviest_5, if_pos c8]) ls (lv_sub hl [0, 1, 2] rfl)
      · have nc8 := zNnle (a := 6) (b := k) c8 (by omega) (by omega)
        refine lv_iload_n hx hb dX7_heaviest_11 rfl (lv_at hl 1 rfl) ?_
        refine lv_iload_n hx hb dX7_heaviest_12 rfl (lv_at hl 3 rfl) ?_
        refine kRM (st1 := [.int (s_X8_has ab (nI k))]) S hT hP (c_X8_has l D cI cZ ab (nI k)) rfl rfl mw_X8_has ln_RX7_46 ⟨rfl, rfl, (Nat.le_of_ble_eq_true rfl), (Nat.le_of_ble_eq_true rfl), (Nat.le_of_ble_eq_true rfl), (Nat.le_of_ble_eq_true rfl)⟩ [] rfl hl.1 (Nat.le_of_ble_eq_true rfl) dX7_heaviest_13 ?_
        refine lv_if_eq (tgt := 40) hx hb dX7_heaviest_16 (by decide) (fun c9 => ?_) (fun c9 => ?_)
        · refine lv_iinc (v := nI (k + 1)) (lv' := [(3, .int (nI (k + 1))), (0, .ref h), (1, .int ab), (2, .int x2_5)]) hx hb dX7_heaviest_40 hl (k := 3) rfl (nI_1 k) (by decide) rfl (fun ls hl => ?_)
          refine lv_goto (tgt := 5) hx hb dX7_heaviest_43 (by decide) ?_
          exact ih5 (k + 1) x2_5 (by omega) (by omega) (by rw [← hv4, lp_X7_heaviest_5, if_neg c8, if_pos c9]) ls (lv_sub hl [1, 2, 3, 0] rfl)
        · refine lv_iload_n hx hb dX7_heaviest_19 rfl (lv_at hl 2 rfl) ?_
          refine lv_bipush (v := (-6)) hx hb dX7_heaviest_20 (by decide) ?_
          refine lv_icmp_eq (tgt := 38) hx hb dX7_heaviest_22 (by decide) (fun c10 => ?_) (fun c10 => ?_)
          · refine lv_iload_n hx hb dX7_heaviest_38 rfl (lv_at hl 3 rfl) ?_
            refine lv_istore_n (lv' := [(2, .int (nI k)), (0, .ref h), (1, .int ab), (3, .int (nI k))]) hx hb dX7_heaviest_39 rfl hl (by decide) rfl (fun ls hl => ?_)
            refine lv_iinc (v := nI (k + 1)) (lv' := [(3, .int (nI (k + 1))), (2, .int (nI k)), (0, .ref h), (1, .int ab)]) hx hb dX7_heaviest_40 hl (k := 3) rfl (nI_1 k) (by decide) rfl (fun ls hl => ?_)
            refine lv_goto (tgt := 5) hx hb dX7_heaviest_43 (by decide) ?_
            exact ih5 (k + 1) (nI k) (by omega) (by omega) (by rw [← hv4, lp_X7_heaviest_5, if_neg c8, if_neg c9, if_pos c10]) ls (lv_sub hl [2, 3, 1, 0] rfl)
          · refine lv_aload_n hx hb dX7_heaviest_25 rfl (lv_at hl 0 rfl) ?_
            refine lv_iload_n hx hb dX7_heaviest_26 rfl (lv_at hl 3 rfl) ?_
            refine kRV (q0 := 0) (st1 := [.int (s_X8_cell 6 wt (nI k))]) S hT hP (c_X7_weight l D cI cZ h hn hw ht hs hp sn kp nm wd wt sT sP (nI k)) rfl rfl mw_X7_weight lk_RX7_42 ⟨rfl, rfl, (Nat.le_of_ble_eq_true rfl), (Nat.le_of_ble_eq_true rfl), (Nat.le_of_ble_eq_true rfl), (Nat.le_of_ble_eq_true rfl)⟩ [0, 1, 2, 3, 4, 5] rfl rfl rfl hl.1 (Nat.le_of_ble_eq_true rfl) dX7_heaviest_27 ?_
            refine lv_aload_n hx hb dX7_heaviest_30 rfl (lv_at hl 0 rfl) ?_
            refine lv_iload_n hx hb dX7_heaviest_31 rfl (lv_at hl 2 rfl) ?_
            refine kRV (q0 := 0) (st1 := [.int (s_X8_cell 6 wt x2_5), .int (s_X8_cell 6 wt (nI k))]) S hT hP (c_X7_weight l D cI cZ h hn hw ht hs hp sn kp nm wd wt sT sP x2_5) rfl rfl mw_X7_weight lk_RX7_42 ⟨rfl, rfl, (Nat.le_of_ble_eq_true rfl), (Nat.le_of_ble_eq_true rfl), (Nat.le_of_ble_eq_true rfl), (Nat.le_of_ble_eq_true rfl)⟩ [0, 1, 2, 3, 4, 5] rfl rfl rfl hl.1 (Nat.le_of_ble_eq_true rfl) dX7_heaviest_32 ?_
            refine lv_icmp_le (tgt := 40) hx hb dX7_heaviest_35 (by decide) (fun c11 => ?_) (fun c11 => ?_)
            · refine lv_iinc (v := nI (k + 1)) (lv' := [(3, .int (nI (k + 1))), (0, .ref h), (1, .int ab), (2, .int x2_5)]) hx hb dX7_heaviest_40 hl (k := 3) rfl (nI_1 k) (by decide) rfl (fun ls hl => ?_)
              refine lv_goto (tgt := 5) hx hb dX7_heaviest_43 (by decide) ?_
              exact ih5 (k + 1) x2_5 (by omega) (by omega) (by rw [← hv4, lp_X7_heaviest_5, if_neg c8, if_neg c9, if_neg c10, if_pos c11]) ls (lv_sub hl [1, 2, 3, 0] rfl)
            · refine lv_iload_n hx hb dX7_heaviest_38 rfl (lv_at hl 3 rfl) ?_
              refine lv_istore_n (lv' := [(2, .int (nI k)), (0, .ref h), (1, .int ab), (3, .int (nI k))]) hx hb dX7_heaviest_39 rfl hl (by decide) rfl (fun ls hl => ?_)
              refine lv_iinc (v := nI (k + 1)) (lv' := [(3, .int (nI (k + 1))), (2, .int (nI k)), (0, .ref h), (1, .int ab)]) hx hb dX7_heaviest_40 hl (k := 3) rfl (nI_1 k) (by decide) rfl (fun ls hl => ?_)
              refine lv_goto (tgt := 5) hx hb dX7_heaviest_43 (by decide) ?_
              exact ih5 (k + 1) (nI k) (by omega) (by omega) (by rw [← hv4, lp_X7_heaviest_5, if_neg c8, if_neg c9, if_neg c10, if_neg c11]) ls (lv_sub hl [2, 3, 1, 0] rfl)
  exact L3 7 0 (-6) (by omega) (by omega) rfl ls (lv_sub hl [2, 3, 1, 0] rfl)
def lp_X7_height_5 (wt : Nat → Int32) (ab : Int32) : Nat → Nat → Int32 → Int32
  | 0, _, x3_5 => x3_5
  | fu + 1, k, x3_5 => if 6 ≤ nI k then x3_5 else (if (s_X8_has ab (nI k)) = 0 then lp_X7_height_5 wt ab fu (k + 1) (x3_5 - 0) else lp_X7_height_5 wt ab fu (k + 1) (x3_5 - (s_X8_cell 6 wt (nI k))))
def s_X7_height (nm : Nat → Int32) (wt : Nat → Int32) (gas : Int32) (ab : Int32) : Int32 := if s_X8_cell 6 nm 3 < 1 then 0 else (if 0 ≤ (lp_X7_height_5 wt ab 7 0 gas) then if 4 < ((lp_X7_height_5 wt ab 7 0 gas) / (s_X8_cell 6 nm 3)) then 4 else (lp_X7_height_5 wt ab 7 0 gas) / (s_X8_cell 6 nm 3) else 0)
abbrev rm_X7_height : Room := { frames := 2, cells := 0, slots := 0, locals := 42 }
set_option maxRecDepth 100000 in
set_option maxHeartbeats 4000000 in
theorem c_X7_height (l : Launch) (D : va_G) (cI cZ : ClassId) (h hn hw ht hs hp sn : Nat) (kp : Int32) (nm wd wt sT sP : Nat → Int32) (gas ab : Int32) : Met l yX7_height [.code yX7_height cX7_height 5 (some .int)] rm_X7_height (PcR D cI cZ [.ref h, .int gas, .int ab] [(h, .inr (7, [.ref hn, .ref hw, .ref ht, .ref hs, .ref hp, .int (nI sn), .int kp])), (hn, .inl (cI, 6, .inl nm)), (hw, .inl (cI, 10, .inl wd)), (ht, .inl (cI, 6, .inl wt)), (hs, .inl (cI, 6, .inl sT)), (hp, .inl (cI, 6, .inl sP))]) (QcR (some (.int (s_X7_height nm wt gas ab)))) 0 0 zN := by
  refine mtRi (by decide) (Nat.le_of_ble_eq_true rfl) (fun p e s m args below meth c Q S hT hP hret ls hl => ?_)
  have S : CallFix p m c cX7_height 5 s args zt RX7 := S
  obtain ⟨hx, hb, hml, hown, hts⟩ := id S
  have hl : lv_has ls 5 [(0, .ref h), (1, .int gas), (2, .int ab)] := hl
  refine lv_iload_n hx hb dX7_height_0 rfl (lv_at hl 1 rfl) ?_
  refine lv_istore_n (lv' := [(3, .int gas), (0, .ref h), (1, .int gas), (2, .int ab)]) hx hb dX7_height_1 rfl hl (by decide) rfl (fun ls hl => ?_)
  refine lv_iconst (v := 0) hx hb dX7_height_2 (by decide) ?_
  refine lv_istore (lv' := [(4, .int 0), (3, .int gas), (0, .ref h), (1, .int gas), (2, .int ab)]) hx hb dX7_height_3 hl (by decide) rfl (fun ls hl => ?_)
  have X2 : ∀ (y1 : Int32), (lp_X7_height_5 wt ab 7 0 gas) = y1 → ∀ (ls : Array Slot), lv_has ls 5 [(0, .ref h), (1, .int gas), (2, .int ab), (3, .int y1)] → W p l e rm_X7_height s m args below meth c s.heap [] 0 0 Q (F0 m 40 ls []) := by
    intro y1 ey1 ls hl
    subst ey1
    refine lv_aload_n hx hb dX7_height_40 rfl (lv_at hl 0 rfl) ?_
    refine lv_iconst (v := 3) hx hb dX7_height_41 (by decide) ?_
    refine kRV (q0 := 0) (st1 := [.int (s_X8_cell 6 nm 3)]) S hT hP (c_X7_number l D cI cZ h hn hw ht hs hp sn kp nm wd wt sT sP 3) rfl rfl mw_X7_number lk_RX7_50 ⟨rfl, rfl, (Nat.le_of_ble_eq_true rfl), (Nat.le_of_ble_eq_true rfl), (Nat.le_of_ble_eq_true rfl), (Nat.le_of_ble_eq_true rfl)⟩ [0, 1, 2, 3, 4, 5] rfl rfl rfl hl.1 (Nat.le_of_ble_eq_true rfl) dX7_height_42 ?_
    refine lv_istore (lv' := [(4, .int (s_X8_cell 6 nm 3)), (0, .ref h), (1, .int gas), (2, .int ab), (3, .int (lp_X7_height_5 wt ab 7 0 gas))]) hx hb dX7_height_45 hl (by decide) rfl (fun ls hl => ?_)
    refine lv_iload hx hb dX7_height_47 (lv_at hl 0 rfl) ?_
    refine lv_iconst (v := 1) hx hb dX7_height_49 (by decide) ?_
    refine lv_icmp_lt (tgt := 57) hx hb dX7_height_50 (by decide) (fun c3 => ?_) (fun c3 => ?_)
    · refine lv_iconst (v := 0) hx hb dX7_height_57 (by decide) ?_
      exact hret _ _ _ dX7_height_58 (by unfold s_X7_height; rw [if_pos c3])
    · refine lv_iload_n hx hb dX7_height_53 rfl (lv_at hl 4 rfl) ?_
      refine lv_if_ge (tgt := 59) hx hb dX7_height_54 (by decide) (fun c4 => ?_) (fun c4 => ?_)
      · refine lv_iload_n hx hb dX7_height_59 rfl (lv_at hl 4 rfl) ?_
        refine lv_iload hx hb dX7_height_60 (lv_at hl 0 rfl) ?_
        refine lv_idiv hx hb dX7_height_62 (zpos1 c3) ?_
        refine lv_iconst (v := 4) hx hb dX7_height_63 (by decide) ?_
        refine va_mmin hx hb (by rw [hml]; exact hl.1.symm) hown (hts _ lm_RX7_53) (hts _ sm_Math_min) (hts _ ini_Math) (hts _ cd_Math_min) (Nat.le_of_ble_eq_true rfl) (Nat.le_of_ble_eq_true rfl) (Nat.le_of_ble_eq_true rfl) (Nat.le_of_ble_eq_true rfl) dX7_height_64 ?_
        exact hret _ _ _ dX7_height_67 (by unfold s_X7_height; rw [if_neg c3, if_pos c4])
      · refine lv_iconst (v := 0) hx hb dX7_height_57 (by decide) ?_
        exact hret _ _ _ dX7_height_58 (by unfold s_X7_height; rw [if_neg c3, if_neg c4])
  have L5 : ∀ (n8 : Nat) (k : Nat) (x3_5 : Int32), 6 - k < n8 → (k ≤ 6) → lp_X7_height_5 wt ab n8 k x3_5 = lp_X7_height_5 wt ab 7 0 gas → ∀ (ls : Array Slot), lv_has ls 5 [(0, .ref h), (1, .int gas), (2, .int ab), (3, .int x3_5), (4, .int (nI k))] → W p l e rm_X7_height s m args below meth c s.heap [] 0 0 Q (F0 m 5 ls []) := by
    intro n8
    induction n8 with
    | zero => intro k x3_5 hm; exact absurd hm (Nat.not_lt_zero _)
    | succ n8 ih7 =>
      intro k x3_5 hm9 hk hv6 ls hl
      refine lv_iload hx hb dX7_height_5 (lv_at hl 4 rfl) ?_
      refine lv_bipush (v := 6) hx hb dX7_height_7 (by decide) ?_
      refine lv_icmp_ge (tgt := 40) hx hb dX7_height_9 (by decide) (fun c10 => ?_) (fun c10 => ?_)
      · have nc10 := zNle (a := 6) (b := k) c10 (by omega) (by omega)
        exact X2 _ (by rw [← hv6, lp_X7_height_5, if_pos c10]) ls (lv_sub hl [0, 1, 2, 3] rfl)
      · have nc10 := zNnle (a := 6) (b := k) c10 (by omega) (by omega)
        refine lv_iload_n hx hb dX7_height_12 rfl (lv_at hl 3 rfl) ?_
        refine lv_iload_n hx hb dX7_height_13 rfl (lv_at hl 2 rfl) ?_
        refine lv_iload hx hb dX7_height_14 (lv_at hl 4 rfl) ?_
        refine kRM (st1 := [.int (s_X8_has ab (nI k)), .int x3_5]) S hT hP (c_X8_has l D cI cZ ab (nI k)) rfl rfl mw_X8_has ln_RX7_46 ⟨rfl, rfl, (Nat.le_of_ble_eq_true rfl), (Nat.le_of_ble_eq_true rfl), (Nat.le_of_ble_eq_true rfl), (Nat.le_of_ble_eq_true rfl)⟩ [] rfl hl.1 (Nat.le_of_ble_eq_true rfl) dX7_height_16 ?_
        refine lv_if_eq (tgt := 31) hx hb dX7_height_19 (by decide) (fun c11 => ?_) (fun c11 => ?_)
        · refine lv_iconst (v := 0) hx hb dX7_height_31 (by decide) ?_
          refine lv_isub hx hb dX7_height_32 ?_
          refine lv_istore_n (lv' := [(3, .int (x3_5 - 0)), (0, .ref h), (1, .int gas), (2, .int ab), (4, .int (nI k))]) hx hb dX7_height_33 rfl hl (by decide) rfl (fun ls hl => ?_)
          refine lv_iinc (v := nI (k + 1)) (lv' := [(4, .int (nI (k + 1))), (3, .int (x3_5 - 0)), (0, .ref h), (1, .int gas), (2, .int ab)]) hx hb dX7_height_34 hl (k := 4) rfl (nI_1 k) (by decide) rfl (fun ls hl => ?_)
          refine lv_goto (tgt := 5) hx hb dX7_height_37 (by decide) ?_
          exact ih7 (k + 1) (x3_5 - 0) (by omega) (by omega) (by rw [← hv6, lp_X7_height_5, if_neg c10, if_pos c11]) ls (lv_sub hl [2, 3, 4, 1, 0] rfl)
        · refine lv_aload_n hx hb dX7_height_22 rfl (lv_at hl 0 rfl) ?_
          refine lv_iload hx hb dX7_height_23 (lv_at hl 4 rfl) ?_
          refine kRV (q0 := 0) (st1 := [.int (s_X8_cell 6 wt (nI k)), .int x3_5]) S hT hP (c_X7_weight l D cI cZ h hn hw ht hs hp sn kp nm wd wt sT sP (nI k)) rfl rfl mw_X7_weight lk_RX7_42 ⟨rfl, rfl, (Nat.le_of_ble_eq_true rfl), (Nat.le_of_ble_eq_true rfl), (Nat.le_of_ble_eq_true rfl), (Nat.le_of_ble_eq_true rfl)⟩ [0, 1, 2, 3, 4, 5] rfl rfl rfl hl.1 (Nat.le_of_ble_eq_true rfl) dX7_height_25 ?_
          refine lv_goto (tgt := 32) hx hb dX7_height_28 (by decide) ?_
          refine lv_isub hx hb dX7_height_32 ?_
          refine lv_istore_n (lv' := [(3, .int (x3_5 - (s_X8_cell 6 wt (nI k)))), (0, .ref h), (1, .int gas), (2, .int ab), (4, .int (nI k))]) hx hb dX7_height_33 rfl hl (by decide) rfl (fun ls hl => ?_)
          refine lv_iinc (v := nI (k + 1)) (lv' := [(4, .int (nI (k + 1))), (3, .int (x3_5 - (s_X8_cell 6 wt (nI k)))), (0, .ref h), (1, .int gas), (2, .int ab)]) hx hb dX7_height_34 hl (k := 4) rfl (nI_1 k) (by decide) rfl (fun ls hl => ?_)
          refine lv_goto (tgt := 5) hx hb dX7_height_37 (by decide) ?_
          exact ih7 (k + 1) (x3_5 - (s_X8_cell 6 wt (nI k))) (by omega) (by omega) (by rw [← hv6, lp_X7_height_5, if_neg c10, if_neg c11]) ls (lv_sub hl [2, 3, 4, 1, 0] rfl)
  exact L5 7 0 gas (by omega) (by omega) rfl ls (lv_sub hl [2, 3, 4, 1, 0] rfl)
