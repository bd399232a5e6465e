abbrev rm_X0_start : Room := { frames := 0, cells := 0, slots := 0, locals := 0 }
set_option maxRecDepth 100000 in
set_option maxHeartbeats 4000000 in
theorem c_X0_start (l : Launch) (D : va_G) (cI cZ : ClassId) (bb : Nat) (pl gs ab mn g0 th m0 : Int32) : Met l yX0_start [.code yX0_start cX0_start 4 none] rm_X0_start (PcW D cI cZ [.ref bb, .int g0, .int th, .int m0] [(bb, .inr (0, [.int pl, .int gs, .int ab, .int mn]))]) (QcE D (S := Unit) none (fun _ => True) (fun _ => [(bb, .inr (0, [.int 0, .int g0, .int th, .int m0]))]) (zA [(bb, .inr (0, [.int pl, .int gs, .int ab, .int mn]))])) 0 0 (zA [(bb, .inr (0, [.int pl, .int gs, .int ab, .int mn]))]) := by
  refine mtWv (by decide) (Nat.le_of_ble_eq_true rfl) (fun p e s m args below meth c Q A S hT hP hD hS hret ls hl => ?_)
  have S : CallFix p m c cX0_start 4 s args zt RX0 := S
  obtain ⟨hx, hb, hml, hown, hts⟩ := id S
  have hl : lv_has ls 4 [(0, .ref bb), (1, .int g0), (2, .int th), (3, .int m0)] := hl
  refine lv_aload_n hx hb dX0_start_0 rfl (lv_at hl 0 rfl) ?_
  refine lv_iconst (v := 0) hx hb dX0_start_1 (by decide) ?_
  refine va_put (D := D) (ci := 0) (v := .int 0) (ty := .int) (C := RX0) (T := TX0) (N := 4) hx hb hts in_X0 tyX0 tyX0_ok nmX0 hown hT.1 hP hD hS 0 rfl rfl 0 (by decide) (hts _ fl_RX0_7) (fun _ h9 => h9) rfl (by decide +kernel) rfl rfl (Nat.le_of_ble_eq_true rfl) dX0_start_2 (fun H locs hP hD hS => ?_)
  have hP : va_P D vwCl [(bb, .inr (0, [.int 0, .int gs, .int ab, .int mn]))] H := hP
  have hD : va_D A [(bb, .inr (0, [.int 0, .int gs, .int ab, .int mn]))] := hD
  refine lv_aload_n hx hb dX0_start_5 rfl (lv_at hl 0 rfl) ?_
  refine lv_iload_n hx hb dX0_start_6 rfl (lv_at hl 1 rfl) ?_
  refine va_put (D := D) (ci := 0) (v := .int g0) (ty := .int) (C := RX0) (T := TX0) (N := 4) hx hb hts in_X0 tyX0 tyX0_ok nmX0 hown hT.1 hP hD hS 0 rfl rfl 1 (by decide) (hts _ fl_RX0_13) (fun _ h9 => h9) rfl (by decide +kernel) rfl rfl (Nat.le_of_ble_eq_true rfl) dX0_start_7 (fun H locs hP hD hS => ?_)
  have hP : va_P D vwCl [(bb, .inr (0, [.int 0, .int g0, .int ab, .int mn]))] H := hP
  have hD : va_D A [(bb, .inr (0, [.int 0, .int g0, .int ab, .int mn]))] := hD
  refine lv_aload_n hx hb dX0_start_10 rfl (lv_at hl 0 rfl) ?_
  refine lv_iload_n hx hb dX0_start_11 rfl (lv_at hl 2 rfl) ?_
  refine va_put (D := D) (ci := 0) (v := .int th) (ty := .int) (C := RX0) (T := TX0) (N := 4) hx hb hts in_X0 tyX0 tyX0_ok nmX0 hown hT.1 hP hD hS 0 rfl rfl 2 (by decide) (hts _ fl_RX0_16) (fun _ h9 => h9) rfl (by decide +kernel) rfl rfl (Nat.le_of_ble_eq_true rfl) dX0_start_12 (fun H locs hP hD hS => ?_)
  have hP : va_P D vwCl [(bb, .inr (0, [.int 0, .int g0, .int th, .int mn]))] H := hP
  have hD : va_D A [(bb, .inr (0, [.int 0, .int g0, .int th, .int mn]))] := hD
  refine lv_aload_n hx hb dX0_start_15 rfl (lv_at hl 0 rfl) ?_
  refine lv_iload_n hx hb dX0_start_16 rfl (lv_at hl 3 rfl) ?_
  refine va_put (D := D) (ci := 0) (v := .int m0) (ty := .int) (C := RX0) (T := TX0) (N := 4) hx hb hts in_X0 tyX0 tyX0_ok nmX0 hown hT.1 hP hD hS 0 rfl rfl 3 (by decide) (hts _ fl_RX0_19) (fun _ h9 => h9) rfl (by decide +kernel) rfl rfl (Nat.le_of_ble_eq_true rfl) dX0_start_17 (fun H locs hP hD hS => ?_)
  have hP : va_P D vwCl [(bb, .inr (0, [.int 0, .int g0, .int th, .int m0]))] H := hP
  have hD : va_D A [(bb, .inr (0, [.int 0, .int g0, .int th, .int m0]))] := hD
  exact hret _ _ H locs () dX0_start_20  trivial hP hS
abbrev rm_X0_fly : Room := { frames := 4, cells := 0, slots := 0, locals := 89 }
set_option maxRecDepth 100000 in
set_option maxHeartbeats 4000000 in
theorem c_X0_fly (l : Launch) (D : va_G) (cI cZ : ClassId) (bb : Nat) (pl gs ab mn : Int32) (h hn hw ht hs hp sn : Nat) (kp : Int32) (nm wd wt sT sP : Nat → Int32) : Met l yX0_fly [.code yX0_fly cX0_fly 2 none] rm_X0_fly (PcW D cI cZ [.ref bb, .ref h] [(bb, .inr (0, [.int pl, .int gs, .int ab, .int mn])), (h, .inr (7, [.ref hn, .ref hw, .ref ht, .ref hs, .ref hp, .int (nI sn), .int kp])), (hn, .inl (cI, 6, .inl nm)), (hw, .inl (cI, 10, .inl wd)), (ht, .inl (cI, 6, .inl wt)), (hs, .inl (cI, 6, .inl sT)), (hp, .inl (cI, 6, .inl sP))]) (QcE D (S := Unit) none (fun _ => True) (fun _ => [(bb, .inr (0, [.int (pl + (s_X8_cell 10 wd ((((if mn < s_X8_cell 6 nm 0 then 0 else 1) : Int32) * 5) + (s_X7_height nm wt gs ab)))), .int (if (gs - (s_X8_cell 6 nm 2)) < 0 then 0 else gs - (s_X8_cell 6 nm 2)), .int ab, .int (mn + 1)])), (h, .inr (7, [.ref hn, .ref hw, .ref ht, .ref hs, .ref hp, .int (nI sn), .int kp])), (hn, .inl (cI, 6, .inl nm)), (hw, .inl (cI, 10, .inl wd)), (ht, .inl (cI, 6, .inl wt)), (hs, .inl (cI, 6, .inl sT)), (hp, .inl (cI, 6, .inl sP))]) (zA [(bb, .inr (0, [.int pl, .int gs, .int ab, .int mn])), (h, .inr (7, [.ref hn, .ref hw, .ref ht, .ref hs, .ref hp, .int (nI sn), .int kp])), (hn, .inl (cI, 6, .inl nm)), (hw, .inl (cI, 10, .inl wd)), (ht, .inl (cI, 6, .inl wt)), (hs, .inl (cI, 6, .inl sT)), (hp, .inl (cI, 6, .inl sP))])) 0 0 (zA [(bb, .inr (0, [.int pl, .int gs, .int ab, .int mn])), (h, .inr (7, [.ref hn, .ref hw, .ref ht, .ref hs, .ref hp, .int (nI sn), .int kp])), (hn, .inl (cI, 6, .inl nm)), (hw, .inl (cI, 10, .inl wd)), (ht, .inl (cI, 6, .inl wt)), (hs, .inl (cI, 6, .inl sT)), (hp, .inl (cI, 6, .inl sP))]) := by
  refine mtWv (by decide) (Nat.le_of_ble_eq_true rfl) (fun p e s m args below meth c Q A S hT hP hD hS hret ls hl => ?_)
  have S : CallFix p m c cX0_fly 2 s args zt RX0 := S
  obtain ⟨hx, hb, hml, hown, hts⟩ := id S
  have hl : lv_has ls 2 [(0, .ref bb), (1, .ref h)] := hl
  refine lv_aload_n hx hb dX0_fly_0 rfl (lv_at hl 0 rfl) ?_
  refine lv_dup hx hb dX0_fly_1 rfl ?_
  refine va_get (D := D) (ci := 0) (v := .int pl) (C := RX0) (T := TX0) (N := 4) hx hb hts in_X0 hown hT.1 hP 0 rfl rfl 0 (by decide) (hts _ fl_RX0_7) (fun _ h9 => h9) rfl dX0_fly_2 ?_
  refine lv_aload_n hx hb dX0_fly_5 rfl (lv_at hl 1 rfl) ?_
  refine lv_aload_n hx hb dX0_fly_6 rfl (lv_at hl 0 rfl) ?_
  refine va_get (D := D) (ci := 0) (v := .int gs) (C := RX0) (T := TX0) (N := 4) hx hb hts in_X0 hown hT.1 hP 0 rfl rfl 1 (by decide) (hts _ fl_RX0_13) (fun _ h9 => h9) rfl dX0_fly_7 ?_
  refine lv_aload_n hx hb dX0_fly_10 rfl (lv_at hl 0 rfl) ?_
  refine va_get (D := D) (ci := 0) (v := .int ab) (C := RX0) (T := TX0) (N := 4) hx hb hts in_X0 hown hT.1 hP 0 rfl rfl 2 (by decide) (hts _ fl_RX0_16) (fun _ h9 => h9) rfl dX0_fly_11 ?_
  refine lv_aload_n hx hb dX0_fly_14 rfl (lv_at hl 0 rfl) ?_
  refine va_get (D := D) (ci := 0) (v := .int mn) (C := RX0) (T := TX0) (N := 4) hx hb hts in_X0 hown hT.1 hP 0 rfl rfl 3 (by decide) (hts _ fl_RX0_19) (fun _ h9 => h9) rfl dX0_fly_15 ?_
  refine kRV (q0 := 1) (st1 := [.int (s_X8_cell 10 wd ((((if mn < s_X8_cell 6 nm 0 then 0 else 1) : Int32) * 5) + (s_X7_height nm wt gs ab))), .int pl, .ref bb]) S hT hP (c_X7_drift l D cI cZ h hn hw ht hs hp sn kp nm wd wt sT sP gs ab mn) rfl rfl mw_X7_drift lk_RX0_22 ⟨rfl, rfl, (Nat.le_of_ble_eq_true rfl), (Nat.le_of_ble_eq_true rfl), (Nat.le_of_ble_eq_true rfl), (Nat.le_of_ble_eq_true rfl)⟩ [1, 2, 3, 4, 5, 6] rfl rfl rfl hl.1 (Nat.le_of_ble_eq_true rfl) dX0_fly_18 ?_
  refine lv_iadd hx hb dX0_fly_21 ?_
  refine va_put (D := D) (ci := 0) (v := .int (pl + (s_X8_cell 10 wd ((((if mn < s_X8_cell 6 nm 0 then 0 else 1) : Int32) * 5) + (s_X7_height nm wt gs ab))))) (ty := .int) (C := RX0) (T := TX0) (N := 4) hx hb hts in_X0 tyX0 tyX0_ok nmX0 hown hT.1 hP hD hS 0 rfl rfl 0 (by decide) (hts _ fl_RX0_7) (fun _ h9 => h9) rfl (by decide +kernel) rfl rfl (Nat.le_of_ble_eq_true rfl) dX0_fly_22 (fun H locs hP hD hS => ?_)
  have hP : va_P D vwCl [(bb, .inr (0, [.int (pl + (s_X8_cell 10 wd ((((if mn < s_X8_cell 6 nm 0 then 0 else 1) : Int32) * 5) + (s_X7_height nm wt gs ab)))), .int gs, .int ab, .int mn])), (h, .inr (7, [.ref hn, .ref hw, .ref ht, .ref hs, .ref hp, .int (nI sn), .int kp])), (hn, .inl (cI, 6, .inl nm)), (hw, .inl (cI, 10, .inl wd)), (ht, .inl (cI, 6, .inl wt)), (hs, .inl (cI, 6, .inl sT)), (hp, .inl (cI, 6, .inl sP))] H := hP
  have hD : va_D A [(bb, .inr (0, [.int (pl + (s_X8_cell 10 wd ((((if mn < s_X8_cell 6 nm 0 then 0 else 1) : Int32) * 5) + (s_X7_height nm wt gs ab)))), .int gs, .int ab, .int mn])), (h, .inr (7, [.ref hn, .ref hw, .ref ht, .ref hs, .ref hp, .int (nI sn), .int kp])), (hn, .inl (cI, 6, .inl nm)), (hw, .inl (cI, 10, .inl wd)), (ht, .inl (cI, 6, .inl wt)), (hs, .inl (cI, 6, .inl sT)), (hp, .inl (cI, 6, .inl sP))] := hD
  refine lv_aload_n hx hb dX0_fly_25 rfl (lv_at hl 0 rfl) ?_
  refine lv_aload_n hx hb dX0_fly_26 rfl (lv_at hl 1 rfl) ?_
  refine lv_aload_n hx hb dX0_fly_27 rfl (lv_at hl 0 rfl) ?_
  refine va_get (D := D) (ci := 0) (v := .int gs) (C := RX0) (T := TX0) (N := 4) hx hb hts in_X0 hown hT.1 hP 0 rfl rfl 1 (by decide) (hts _ fl_RX0_13) (fun _ h9 => h9) rfl dX0_fly_28 ?_
  refine kRV (q0 := 1) (st1 := [.int (if (gs - (s_X8_cell 6 nm 2)) < 0 then 0 else gs - (s_X8_cell 6 nm 2)), .ref bb]) S hT hP (c_X7_leaked l D cI cZ h hn hw ht hs hp sn kp nm wd wt sT sP gs) rfl rfl mw_X7_leaked lk_RX0_28 ⟨rfl, rfl, (Nat.le_of_ble_eq_true rfl), (Nat.le_of_ble_eq_true rfl), (Nat.le_of_ble_eq_true rfl), (Nat.le_of_ble_eq_true rfl)⟩ [1, 2, 3, 4, 5, 6] rfl rfl rfl hl.1 (Nat.le_of_ble_eq_true rfl) dX0_fly_31 ?_
  refine va_put (D := D) (ci := 0) (v := .int (if (gs - (s_X8_cell 6 nm 2)) < 0 then 0 else gs - (s_X8_cell 6 nm 2))) (ty := .int) (C := RX0) (T := TX0) (N := 4) hx hb hts in_X0 tyX0 tyX0_ok nmX0 hown hT.1 hP hD hS 0 rfl rfl 1 (by decide) (hts _ fl_RX0_13) (fun _ h9 => h9) rfl (by decide +kernel) rfl rfl (Nat.le_of_ble_eq_true rfl) dX0_fly_34 (fun H locs hP hD hS => ?_)
  have hP : va_P D vwCl [(bb, .inr (0, [.int (pl + (s_X8_cell 10 wd ((((if mn < s_X8_cell 6 nm 0 then 0 else 1) : Int32) * 5) + (s_X7_height nm wt gs ab)))), .int (if (gs - (s_X8_cell 6 nm 2)) < 0 then 0 else gs - (s_X8_cell 6 nm 2)), .int ab, .int mn])), (h, .inr (7, [.ref hn, .ref hw, .ref ht, .ref hs, .ref hp, .int (nI sn), .int kp])), (hn, .inl (cI, 6, .inl nm)), (hw, .inl (cI, 10, .inl wd)), (ht, .inl (cI, 6, .inl wt)), (hs, .inl (cI, 6, .inl sT)), (hp, .inl (cI, 6, .inl sP))] H := hP
  have hD : va_D A [(bb, .inr (0, [.int (pl + (s_X8_cell 10 wd ((((if mn < s_X8_cell 6 nm 0 then 0 else 1) : Int32) * 5) + (s_X7_height nm wt gs ab)))), .int (if (gs - (s_X8_cell 6 nm 2)) < 0 then 0 else gs - (s_X8_cell 6 nm 2)), .int ab, .int mn])), (h, .inr (7, [.ref hn, .ref hw, .ref ht, .ref hs, .ref hp, .int (nI sn), .int kp])), (hn, .inl (cI, 6, .inl nm)), (hw, .inl (cI, 10, .inl wd)), (ht, .inl (cI, 6, .inl wt)), (hs, .inl (cI, 6, .inl sT)), (hp, .inl (cI, 6, .inl sP))] := hD
  refine lv_aload_n hx hb dX0_fly_37 rfl (lv_at hl 0 rfl) ?_
  refine lv_dup hx hb dX0_fly_38 rfl ?_
  refine va_get (D := D) (ci := 0) (v := .int mn) (C := RX0) (T := TX0) (N := 4) hx hb hts in_X0 hown hT.1 hP 0 rfl rfl 3 (by decide) (hts _ fl_RX0_19) (fun _ h9 => h9) rfl dX0_fly_39 ?_
  refine lv_iconst (v := 1) hx hb dX0_fly_42 (by decide) ?_
  refine lv_iadd hx hb dX0_fly_43 ?_
  refine va_put (D := D) (ci := 0) (v := .int (mn + 1)) (ty := .int) (C := RX0) (T := TX0) (N := 4) hx hb hts in_X0 tyX0 tyX0_ok nmX0 hown hT.1 hP hD hS 0 rfl rfl 3 (by decide) (hts _ fl_RX0_19) (fun _ h9 => h9) rfl (by decide +kernel) rfl rfl (Nat.le_of_ble_eq_true rfl) dX0_fly_44 (fun H locs hP hD hS => ?_)
  have hP : va_P D vwCl [(bb, .inr (0, [.int (pl + (s_X8_cell 10 wd ((((if mn < s_X8_cell 6 nm 0 then 0 else 1) : Int32) * 5) + (s_X7_height nm wt gs ab)))), .int (if (gs - (s_X8_cell 6 nm 2)) < 0 then 0 else gs - (s_X8_cell 6 nm 2)), .int ab, .int (mn + 1)])), (h, .inr (7, [.ref hn, .ref hw, .ref ht, .ref hs, .ref hp, .int (nI sn), .int kp])), (hn, .inl (cI, 6, .inl nm)), (hw, .inl (cI, 10, .inl wd)), (ht, .inl (cI, 6, .inl wt)), (hs, .inl (cI, 6, .inl sT)), (hp, .inl (cI, 6, .inl sP))] H := hP
  have hD : va_D A [(bb, .inr (0, [.int (pl + (s_X8_cell 10 wd ((((if mn < s_X8_cell 6 nm 0 then 0 else 1) : Int32) * 5) + (s_X7_height nm wt gs ab)))), .int (if (gs - (s_X8_cell 6 nm 2)) < 0 then 0 else gs - (s_X8_cell 6 nm 2)), .int ab, .int (mn + 1)])), (h, .inr (7, [.ref hn, .ref hw, .ref ht, .ref hs, .ref hp, .int (nI sn), .int kp])), (hn, .inl (cI, 6, .inl nm)), (hw, .inl (cI, 10, .inl wd)), (ht, .inl (cI, 6, .inl wt)), (hs, .inl (cI, 6, .inl sT)), (hp, .inl (cI, 6, .inl sP))] := hD
  exact hret _ _ H locs () dX0_fly_47  trivial hP hS
abbrev rm_X0_lose : Room := { frames := 3, cells := 0, slots := 0, locals := 63 }
set_option maxRecDepth 100000 in
set_option maxHeartbeats 4000000 in
theorem c_X0_lose (l : Launch) (D : va_G) (cI cZ : ClassId) (bb : Nat) (pl gs ab mn t : Int32) : Met l yX0_lose [.code yX0_lose cX0_lose 2 none] rm_X0_lose (PcW D cI cZ [.ref bb, .int t] [(bb, .inr (0, [.int pl, .int gs, .int ab, .int mn]))]) (QcE D (S := Unit) none (fun _ => True) (fun _ => [(bb, .inr (0, [.int pl, .int gs, .int (s_X8_without ab t), .int mn]))]) (zA [(bb, .inr (0, [.int pl, .int gs, .int ab, .int mn]))])) 0 0 (zA [(bb, .inr (0, [.int pl, .int gs, .int ab, .int mn]))]) := by
  refine mtWv (by decide) (Nat.le_of_ble_eq_true rfl) (fun p e s m args below meth c Q A S hT hP hD hS hret ls hl => ?_)
  have S : CallFix p m c cX0_lose 2 s args zt RX0 := S
  obtain ⟨hx, hb, hml, hown, hts⟩ := id S
  have hl : lv_has ls 2 [(0, .ref bb), (1, .int t)] := hl
  refine lv_aload_n hx hb dX0_lose_0 rfl (lv_at hl 0 rfl) ?_
  refine lv_aload_n hx hb dX0_lose_1 rfl (lv_at hl 0 rfl) ?_
  refine va_get (D := D) (ci := 0) (v := .int ab) (C := RX0) (T := TX0) (N := 4) hx hb hts in_X0 hown hT.1 hP 0 rfl rfl 2 (by decide) (hts _ fl_RX0_16) (fun _ h9 => h9) rfl dX0_lose_2 ?_
  refine lv_iload_n hx hb dX0_lose_5 rfl (lv_at hl 1 rfl) ?_
  refine kRM (st1 := [.int (s_X8_without ab t), .ref bb]) S hT hP (c_X8_without l D cI cZ ab t) rfl rfl mw_X8_without ln_RX0_32 ⟨rfl, rfl, (Nat.le_of_ble_eq_true rfl), (Nat.le_of_ble_eq_true rfl), (Nat.le_of_ble_eq_true rfl), (Nat.le_of_ble_eq_true rfl)⟩ [] rfl hl.1 (Nat.le_of_ble_eq_true rfl) dX0_lose_6 ?_
  refine va_put (D := D) (ci := 0) (v := .int (s_X8_without ab t)) (ty := .int) (C := RX0) (T := TX0) (N := 4) hx hb hts in_X0 tyX0 tyX0_ok nmX0 hown hT.1 hP hD hS 0 rfl rfl 2 (by decide) (hts _ fl_RX0_16) (fun _ h9 => h9) rfl (by decide +kernel) rfl rfl (Nat.le_of_ble_eq_true rfl) dX0_lose_9 (fun H locs hP hD hS => ?_)
  have hP : va_P D vwCl [(bb, .inr (0, [.int pl, .int gs, .int (s_X8_without ab t), .int mn]))] H := hP
  have hD : va_D A [(bb, .inr (0, [.int pl, .int gs, .int (s_X8_without ab t), .int mn]))] := hD
  exact hret _ _ H locs () dX0_lose_12  trivial hP hS
abbrev rm_X0_place : Room := { frames := 0, cells := 0, slots := 0, locals := 0 }
set_option maxRecDepth 100000 in
set_option maxHeartbeats 4000000 in
theorem c_X0_place (l : Launch) (D : va_G) (cI cZ : ClassId) (bb : Nat) (pl gs ab mn : Int32) : Met l yX0_place [.code yX0_place cX0_place 1 (some .int)] rm_X0_place (PcR D cI cZ [.ref bb] [(bb, .inr (0, [.int pl, .int gs, .int ab, .int mn]))]) (QcR (some (.int pl))) 0 0 zN := by
  refine mtRi (by decide) (Nat.le_of_ble_eq_true rfl) (fun p e s m args below meth c Q S hT hP hret ls hl => ?_)
  have S : CallFix p m c cX0_place 1 s args zt RX0 := S
  obtain ⟨hx, hb, hml, hown, hts⟩ := id S
  have hl : lv_has ls 1 [(0, .ref bb)] := hl
  refine lv_aload_n hx hb dX0_place_0 rfl (lv_at hl 0 rfl) ?_
  refine va_get (D := D) (ci := 0) (v := .int pl) (C := RX0) (T := TX0) (N := 4) hx hb hts in_X0 hown hT.1 hP 0 rfl rfl 0 (by decide) (hts _ fl_RX0_7) (fun _ h9 => h9) rfl dX0_place_1 ?_
  exact hret _ _ _ dX0_place_4 rfl
abbrev rm_X0_gas : Room := { frames := 0, cells := 0, slots := 0, locals := 0 }
set_option maxRecDepth 100000 in
set_option maxHeartbeats 4000000 in
theorem c_X0_gas (l : Launch) (D : va_G) (cI cZ : ClassId) (bb : Nat) (pl gs ab mn : Int32) : Met l yX0_gas [.code yX0_gas cX0_gas 1 (some .int)] rm_X0_gas (PcR D cI cZ [.ref bb] [(bb, .inr (0, [.int pl, .int gs, .int ab, .int mn]))]) (QcR (some (.int gs))) 0 0 zN := by
  refine mtRi (by decide) (Nat.le_of_ble_eq_true rfl) (fun p e s m args below meth c Q S hT hP hret ls hl => ?_)
  have S : CallFix p m c cX0_gas 1 s args zt RX0 := S
  obtain ⟨hx, hb, hml, hown, hts⟩ := id S
  have hl : lv_has ls 1 [(0, .ref bb)] := hl
  refine lv_aload_n hx hb dX0_gas_0 rfl (lv_at hl 0 rfl) ?_
  refine va_get (D := D) (ci := 0) (v := .int gs) (C := RX0) (T := TX0) (N := 4) hx hb hts in_X0 hown hT.1 hP 0 rfl rfl 1 (by decide) (hts _ fl_RX0_13) (fun _ h9 => h9) rfl dX0_gas_1 ?_
  exact hret _ _ _ dX0_gas_4 rfl
abbrev rm_X0_aboard : Room := { frames := 0, cells := 0, slots := 0, locals := 0 }
set_option maxRecDepth 100000 in
set_option maxHeartbeats 4000000 in
theorem c_X0_aboard (l : Launch) (D : va_G) (cI cZ : ClassId) (bb : Nat) (pl gs ab mn : Int32) : Met l yX0_aboard [.code yX0_aboard cX0_aboard 1 (some .int)] rm_X0_aboard (PcR D cI cZ [.ref bb] [(bb, .inr (0, [.int pl, .int gs, .int ab, .int mn]))]) (QcR (some (.int ab))) 0 0 zN := by
  refine mtRi (by decide) (Nat.le_of_ble_eq_true rfl) (fun p e s m args below meth c Q S hT hP hret ls hl => ?_)
  have S : CallFix p m c cX0_aboard 1 s args zt RX0 := S
  obtain ⟨hx, hb, hml, hown, hts⟩ := id S
  have hl : lv_has ls 1 [(0, .ref bb)] := hl
  refine lv_aload_n hx hb dX0_aboard_0 rfl (lv_at hl 0 rfl) ?_
  refine va_get (D := D) (ci := 0) (v := .int ab) (C := RX0) (T := TX0) (N := 4) hx hb hts in_X0 hown hT.1 hP 0 rfl rfl 2 (by decide) (hts _ fl_RX0_16) (fun _ h9 => h9) rfl dX0_aboard_1 ?_
  exact hret _ _ _ dX0_aboard_4 rfl
