set_option maxRecDepth 100000 in
set_option maxHeartbeats 4000000 in
theorem c_X8_cellT (l : Launch) (D : va_G) (cI cZ : ClassId) (r n : Nat) (f : Nat → Int32) (i : Int32) (hn31 : n < 2 ^ 31) : Met l yX8_cell [.code yX8_cell cX8_cell 2 (some .int)] rm_X8_cell (PcT D cI cZ [.ref r, .int i] r n f) (QcR (some (.int (s_X8_cell n f i)))) 0 0 zN := by
  refine mtTi (by decide) (Nat.le_of_ble_eq_true rfl) (fun p e s m args below meth c Q S hT hX hret ls hl => ?_)
  have S : CallFix p m c cX8_cell 2 s args zt RX8 := S
  obtain ⟨hx, hb, hml, hown, hts⟩ := id S
  have hl : lv_has ls 2 [(0, .ref r), (1, .int i)] := hl
  have hS : va_S (fun _ => False) s.heap s.heap [] := va_S.rf
  refine lv_aload_n hx hb dX8_cell_0 rfl (lv_at hl 0 rfl) ?_
  refine lv_ifnull hx hb dX8_cell_1 ?_
  refine lv_iload_n hx hb dX8_cell_4 rfl (lv_at hl 1 rfl) ?_
  refine lv_if_lt (tgt := 20) hx hb dX8_cell_5 (by decide) (fun c1 => ?_) (fun c1 => ?_)
  · refine lv_iconst (v := 0) hx hb dX8_cell_20 (by decide) ?_
    exact hret _ _ _ dX8_cell_21 (by unfold s_X8_cell; rw [if_pos c1])
  · refine lv_iload_n hx hb dX8_cell_8 rfl (lv_at hl 1 rfl) ?_
    refine lv_aload_n hx hb dX8_cell_9 rfl (lv_at hl 0 rfl) ?_
    refine va_tlen (v := nI n) hx hb hX hS rfl dX8_cell_10 ?_
    refine lv_icmp_ge (tgt := 20) hx hb dX8_cell_11 (by decide) (fun c2 => ?_) (fun c2 => ?_)
    · refine lv_iconst (v := 0) hx hb dX8_cell_20 (by decide) ?_
      exact hret _ _ _ dX8_cell_21 (by unfold s_X8_cell; rw [if_neg c1, if_pos c2])
    · refine lv_aload_n hx hb dX8_cell_14 rfl (lv_at hl 0 rfl) ?_
      refine lv_iload_n hx hb dX8_cell_15 rfl (lv_at hl 1 rfl) ?_
      refine va_ti hx hb hX hS (zvin c1 c2 hn31) (v := .int (f i.toNatClampNeg)) rfl dX8_cell_16 ?_
      refine lv_goto (tgt := 21) hx hb dX8_cell_17 (by decide) ?_
      exact hret _ _ _ dX8_cell_21 (by unfold s_X8_cell; rw [if_neg c1, if_neg c2])
def s_X8_set (nm : Nat → Int32) (wh : Int32) (v : Int32) : Int32 := if s_X8_within wh 0 5 = 0 then (-2) else (if (s_X8_within v (s_X8_cell 6 zcL wh) (s_X8_cell 6 zcG wh)) = 0 then (-2) else s_X8_cell 6 nm wh)
def s_X8_set_nm (nm : Nat → Int32) (wh : Int32) (v : Int32) : Nat → Int32 := if s_X8_within wh 0 5 = 0 then nm else (if (s_X8_within v (s_X8_cell 6 zcL wh) (s_X8_cell 6 zcG wh)) = 0 then nm else s_X8_put_f 6 nm wh v)
abbrev rm_X8_set : Room := { frames := 2, cells := 0, slots := 0, locals := 44 }
set_option maxRecDepth 100000 in
set_option maxHeartbeats 4000000 in
theorem c_X8_set (l : Launch) (D : va_G) (cI cZ : ClassId) (x h h0 h1 pd bb bbr pp ch se cc fa hn hw ht hs hp sn : Nat) (kp : Int32) (nm wd wt sT sP : Nat → Int32) (wh v : Int32) (tL tG tF : Nat) : Met l yX8_set [.code yX8_set cX8_set 4 (some .int)] rm_X8_set (PcX D cI cZ [.ref x, .int wh, .int v] [(x, .inr (8, [.ref h, .ref h0, .ref h1, .ref pd, .ref bb, .ref bbr, .ref pp, .ref ch, .ref se, .ref cc, .ref fa])), (h, .inr (7, [.ref hn, .ref hw, .ref ht, .ref hs, .ref hp, .int (nI sn), .int kp])), (hn, .inl (cI, 6, .inl nm)), (hw, .inl (cI, 10, .inl wd)), (ht, .inl (cI, 6, .inl wt)), (hs, .inl (cI, 6, .inl sT)), (hp, .inl (cI, 6, .inl sP))] (zST tL tG tF)) (QcE D (S := Unit) (some (.int (s_X8_set nm wh v))) (fun _ => True) (fun _ => [(x, .inr (8, [.ref h, .ref h0, .ref h1, .ref pd, .ref bb, .ref bbr, .ref pp, .ref ch, .ref se, .ref cc, .ref fa])), (h, .inr (7, [.ref hn, .ref hw, .ref ht, .ref hs, .ref hp, .int (nI sn), .int kp])), (hn, .inl (cI, 6, .inl (s_X8_set_nm nm wh v))), (hw, .inl (cI, 10, .inl wd)), (ht, .inl (cI, 6, .inl wt)), (hs, .inl (cI, 6, .inl sT)), (hp, .inl (cI, 6, .inl sP))]) (zA [(x, .inr (8, [.ref h, .ref h0, .ref h1, .ref pd, .ref bb, .ref bbr, .ref pp, .ref ch, .ref se, .ref cc, .ref fa])), (h, .inr (7, [.ref hn, .ref hw, .ref ht, .ref hs, .ref hp, .int (nI sn), .int kp])), (hn, .inl (cI, 6, .inl nm)), (hw, .inl (cI, 10, .inl wd)), (ht, .inl (cI, 6, .inl wt)), (hs, .inl (cI, 6, .inl sT)), (hp, .inl (cI, 6, .inl sP))])) 0 0 (zA [(x, .inr (8, [.ref h, .ref h0, .ref h1, .ref pd, .ref bb, .ref bbr, .ref pp, .ref ch, .ref se, .ref cc, .ref fa])), (h, .inr (7, [.ref hn, .ref hw, .ref ht, .ref hs, .ref hp, .int (nI sn), .int kp])), (hn, .inl (cI, 6, .inl nm)), (hw, .inl (cI, 10, .inl wd)), (ht, .inl (cI, 6, .inl wt)), (hs, .inl (cI, 6, .inl sT)), (hp, .inl (cI, 6, .inl sP))]) := by
  refine mtXi (by decide) (Nat.le_of_ble_eq_true rfl) (fun p e s m args below meth c Q A S hT hP hD hS hX hret ls hl => ?_)
  have S : CallFix p m c cX8_set 4 s args zt RX8 := S
  obtain ⟨hx, hb, hml, hown, hts⟩ := id S
  have hl : lv_has ls 4 [(0, .ref x), (1, .int wh), (2, .int v)] := hl
  refine lv_iload_n hx hb dX8_set_0 rfl (lv_at hl 1 rfl) ?_
  refine lv_iconst (v := 0) hx hb dX8_set_1 (by decide) ?_
  refine lv_iconst (v := 5) hx hb dX8_set_2 (by decide) ?_
  refine kRS (st1 := [.int (s_X8_within wh 0 5)]) S hT hP (c_X8_within l D cI cZ wh 0 5) rfl rfl mw_X8_within lk_RX8_74 ⟨rfl, rfl, (Nat.le_of_ble_eq_true rfl), (Nat.le_of_ble_eq_true rfl), (Nat.le_of_ble_eq_true rfl), (Nat.le_of_ble_eq_true rfl)⟩ [] rfl hl.1 (Nat.le_of_ble_eq_true rfl) dX8_set_3 ?_
  refine lv_if_eq (tgt := 30) hx hb dX8_set_6 (by decide) (fun c1 => ?_) (fun c1 => ?_)
  · refine lv_bipush (v := (-2)) hx hb dX8_set_30 (by decide) ?_
    have eo1 : s_X8_set_nm nm wh v = nm := (by unfold s_X8_set_nm; rw [if_pos c1])
    exact hret _ _ _ s.heap [] () dX8_set_32 (by unfold s_X8_set; rw [if_pos c1]) trivial (by show va_P D vwCl [(x, .inr (8, [.ref h, .ref h0, .ref h1, .ref pd, .ref bb, .ref bbr, .ref pp, .ref ch, .ref se, .ref cc, .ref fa])), (h, .inr (7, [.ref hn, .ref hw, .ref ht, .ref hs, .ref hp, .int (nI sn), .int kp])), (hn, .inl (cI, 6, .inl (s_X8_set_nm nm wh v))), (hw, .inl (cI, 10, .inl wd)), (ht, .inl (cI, 6, .inl wt)), (hs, .inl (cI, 6, .inl sT)), (hp, .inl (cI, 6, .inl sP))] s.heap; rw [eo1]; exact hP) hS
  · refine lv_iload_n hx hb dX8_set_9 rfl (lv_at hl 2 rfl) ?_
    refine va_gets (A := fun _ => False) (v := .ref tL) hx hb hX.1.1 va_S.rf hown (hts _ fl_RX8_86) (fun _ h9 => h9) dX8_set_10 ?_
    refine lv_iload_n hx hb dX8_set_13 rfl (lv_at hl 1 rfl) ?_
    refine kTS (st1 := [.int (s_X8_cell 6 zcL wh), .int v]) S hT hX.1.2 (c_X8_cellT l D cI cZ tL 6 zcL wh (by decide)) rfl rfl mw_X8_cell lk_RX8_90 ⟨rfl, rfl, (Nat.le_of_ble_eq_true rfl), (Nat.le_of_ble_eq_true rfl), (Nat.le_of_ble_eq_true rfl), (Nat.le_of_ble_eq_true rfl)⟩ hl.1 (Nat.le_of_ble_eq_true rfl) dX8_set_14 ?_
    refine va_gets (A := fun _ => False) (v := .ref tG) hx hb hX.2.1.1 va_S.rf hown (hts _ fl_RX8_94) (fun _ h9 => h9) dX8_set_17 ?_
    refine lv_iload_n hx hb dX8_set_20 rfl (lv_at hl 1 rfl) ?_
    refine kTS (st1 := [.int (s_X8_cell 6 zcG wh), .int (s_X8_cell 6 zcL wh), .int v]) S hT hX.2.1.2 (c_X8_cellT l D cI cZ tG 6 zcG wh (by decide)) rfl rfl mw_X8_cell lk_RX8_90 ⟨rfl, rfl, (Nat.le_of_ble_eq_true rfl), (Nat.le_of_ble_eq_true rfl), (Nat.le_of_ble_eq_true rfl), (Nat.le_of_ble_eq_true rfl)⟩ hl.1 (Nat.le_of_ble_eq_true rfl) dX8_set_21 ?_
    refine kRS (st1 := [.int (s_X8_within v (s_X8_cell 6 zcL wh) (s_X8_cell 6 zcG wh))]) S hT hP (c_X8_within l D cI cZ v (s_X8_cell 6 zcL wh) (s_X8_cell 6 zcG wh)) rfl rfl mw_X8_within lk_RX8_74 ⟨rfl, rfl, (Nat.le_of_ble_eq_true rfl), (Nat.le_of_ble_eq_true rfl), (Nat.le_of_ble_eq_true rfl), (Nat.le_of_ble_eq_true rfl)⟩ [] rfl hl.1 (Nat.le_of_ble_eq_true rfl) dX8_set_24 ?_
    refine lv_if_ne (tgt := 33) hx hb dX8_set_27 (by decide) (fun c2 => ?_) (fun c2 => ?_)
    · refine lv_aload_n hx hb dX8_set_33 rfl (lv_at hl 0 rfl) ?_
      refine va_get (D := D) (ci := 8) (v := .ref h) (C := RX8) (T := TX8) (N := 11) hx hb hts in_X8 hown hT.1 hP 0 rfl rfl 0 (by decide) (hts _ fl_RX8_12) (fun _ h9 => h9) rfl dX8_set_34 ?_
      refine lv_iload_n hx hb dX8_set_37 rfl (lv_at hl 1 rfl) ?_
      refine kRV (q0 := 1) (st1 := [.int (s_X8_cell 6 nm wh)]) S hT hP (c_X7_number l D cI cZ h hn hw ht hs hp sn kp nm wd wt sT sP wh) rfl rfl mw_X7_number lk_RX8_97 ⟨rfl, rfl, (Nat.le_of_ble_eq_true rfl), (Nat.le_of_ble_eq_true rfl), (Nat.le_of_ble_eq_true rfl), (Nat.le_of_ble_eq_true rfl)⟩ [1, 2, 3, 4, 5, 6] rfl rfl rfl hl.1 (Nat.le_of_ble_eq_true rfl) dX8_set_38 ?_
      refine lv_istore_n (lv' := [(3, .int (s_X8_cell 6 nm wh)), (0, .ref x), (1, .int wh), (2, .int v)]) hx hb dX8_set_41 rfl hl (by decide) rfl (fun ls hl => ?_)
      refine lv_aload_n hx hb dX8_set_42 rfl (lv_at hl 1 rfl) ?_
      refine va_get (D := D) (ci := 8) (v := .ref h) (C := RX8) (T := TX8) (N := 11) hx hb hts in_X8 hown hT.1 hP 0 rfl rfl 0 (by decide) (hts _ fl_RX8_12) (fun _ h9 => h9) rfl dX8_set_43 ?_
      refine lv_iload_n hx hb dX8_set_46 rfl (lv_at hl 2 rfl) ?_
      refine lv_iload_n hx hb dX8_set_47 rfl (lv_at hl 3 rfl) ?_
      refine kEV (q0 := 1) (st1 := []) S hT hP hD hS (c_X7_changeNumber l D cI cZ h hn hw ht hs hp sn kp nm wd wt sT sP wh v) rfl rfl mw_X7_changeNumber lk_RX8_101 ⟨rfl, rfl, (Nat.le_of_ble_eq_true rfl), (Nat.le_of_ble_eq_true rfl), (Nat.le_of_ble_eq_true rfl), (Nat.le_of_ble_eq_true rfl)⟩ [1, 2, 3, 4, 5, 6] [h, hn, hw, ht, hs, hp] (by decide) rfl rfl (fun _ => rfl) rfl rfl hl.1 (Nat.le_of_ble_eq_true rfl) dX8_set_48 (fun _ H locs _ hP hD hS => ?_)
      have hP : va_P D vwCl [(x, .inr (8, [.ref h, .ref h0, .ref h1, .ref pd, .ref bb, .ref bbr, .ref pp, .ref ch, .ref se, .ref cc, .ref fa])), (h, .inr (7, [.ref hn, .ref hw, .ref ht, .ref hs, .ref hp, .int (nI sn), .int kp])), (hn, .inl (cI, 6, .inl (s_X8_put_f 6 nm wh v))), (hw, .inl (cI, 10, .inl wd)), (ht, .inl (cI, 6, .inl wt)), (hs, .inl (cI, 6, .inl sT)), (hp, .inl (cI, 6, .inl sP))] H := hP
      have hD : va_D A [(x, .inr (8, [.ref h, .ref h0, .ref h1, .ref pd, .ref bb, .ref bbr, .ref pp, .ref ch, .ref se, .ref cc, .ref fa])), (h, .inr (7, [.ref hn, .ref hw, .ref ht, .ref hs, .ref hp, .int (nI sn), .int kp])), (hn, .inl (cI, 6, .inl (s_X8_put_f 6 nm wh v))), (hw, .inl (cI, 10, .inl wd)), (ht, .inl (cI, 6, .inl wt)), (hs, .inl (cI, 6, .inl sT)), (hp, .inl (cI, 6, .inl sP))] := hD
      refine lv_iload_n hx hb dX8_set_51 rfl (lv_at hl 0 rfl) ?_
      have eo1 : s_X8_set_nm nm wh v = s_X8_put_f 6 nm wh v := (by unfold s_X8_set_nm; rw [if_neg c1, if_neg c2])
      exact hret _ _ _ H locs () dX8_set_52 (by unfold s_X8_set; rw [if_neg c1, if_neg c2]) trivial (by show va_P D vwCl [(x, .inr (8, [.ref h, .ref h0, .ref h1, .ref pd, .ref bb, .ref bbr, .ref pp, .ref ch, .ref se, .ref cc, .ref fa])), (h, .inr (7, [.ref hn, .ref hw, .ref ht, .ref hs, .ref hp, .int (nI sn), .int kp])), (hn, .inl (cI, 6, .inl (s_X8_set_nm nm wh v))), (hw, .inl (cI, 10, .inl wd)), (ht, .inl (cI, 6, .inl wt)), (hs, .inl (cI, 6, .inl sT)), (hp, .inl (cI, 6, .inl sP))] H; rw [eo1]; exact hP) hS
    · refine lv_bipush (v := (-2)) hx hb dX8_set_30 (by decide) ?_
      have eo1 : s_X8_set_nm nm wh v = nm := (by unfold s_X8_set_nm; rw [if_neg c1, if_pos c2])
      exact hret _ _ _ s.heap [] () dX8_set_32 (by unfold s_X8_set; rw [if_neg c1, if_pos c2]) trivial (by show va_P D vwCl [(x, .inr (8, [.ref h, .ref h0, .ref h1, .ref pd, .ref bb, .ref bbr, .ref pp, .ref ch, .ref se, .ref cc, .ref fa])), (h, .inr (7, [.ref hn, .ref hw, .ref ht, .ref hs, .ref hp, .int (nI sn), .int kp])), (hn, .inl (cI, 6, .inl (s_X8_set_nm nm wh v))), (hw, .inl (cI, 10, .inl wd)), (ht, .inl (cI, 6, .inl wt)), (hs, .inl (cI, 6, .inl sT)), (hp, .inl (cI, 6, .inl sP))] s.heap; rw [eo1]; exact hP) hS
