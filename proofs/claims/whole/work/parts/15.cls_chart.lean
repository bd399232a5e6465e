abbrev rm_X2_sneezes : Room := { frames := 0, cells := 0, slots := 0, locals := 0 }
set_option maxRecDepth 100000 in
set_option maxHeartbeats 4000000 in
theorem c_X2_sneezes (l : Launch) (D : va_G) (cI cZ : ClassId) (ch cd ns : Nat) (dr : Nat → Int32) : Met l yX2_sneezes [.code yX2_sneezes cX2_sneezes 1 (some .int)] rm_X2_sneezes (PcR D cI cZ [.ref ch] [(ch, .inr (2, [.ref cd, .int (nI ns)])), (cd, .inl (cI, 832, .inl dr))]) (QcR (some (.int (nI ns)))) 0 0 zN := by
  refine mtRi (by decide) (Nat.le_of_ble_eq_true rfl) (fun p e s m args below meth c Q S hT hP hret ls hl => ?_)
  have S : CallFix p m c cX2_sneezes 1 s args zt RX2 := S
  obtain ⟨hx, hb, hml, hown, hts⟩ := id S
  have hl : lv_has ls 1 [(0, .ref ch)] := hl
  refine lv_aload_n hx hb dX2_sneezes_0 rfl (lv_at hl 0 rfl) ?_
  refine va_get (D := D) (ci := 2) (v := .int (nI ns)) (C := RX2) (T := TX2) (N := 2) hx hb hts in_X2 hown hT.1 hP 0 rfl rfl 1 (by decide) (hts _ fl_RX2_15) (fun _ h9 => h9) rfl dX2_sneezes_1 ?_
  exact hret _ _ _ dX2_sneezes_4 rfl
abbrev rm_X2_drift : Room := { frames := 1, cells := 0, slots := 0, locals := 21 }
set_option maxRecDepth 100000 in
set_option maxHeartbeats 4000000 in
theorem c_X2_drift (l : Launch) (D : va_G) (cI cZ : ClassId) (ch cd ns : Nat) (dr : Nat → Int32) (leg ab : Int32) : Met l yX2_drift [.code yX2_drift cX2_drift 3 (some .int)] rm_X2_drift (PcR D cI cZ [.ref ch, .int leg, .int ab] [(ch, .inr (2, [.ref cd, .int (nI ns)])), (cd, .inl (cI, 832, .inl dr))]) (QcR (some (.int (s_X8_cell 832 dr ((leg * 64) + ab))))) 0 0 zN := by
  refine mtRi (by decide) (Nat.le_of_ble_eq_true rfl) (fun p e s m args below meth c Q S hT hP hret ls hl => ?_)
  have S : CallFix p m c cX2_drift 3 s args zt RX2 := S
  obtain ⟨hx, hb, hml, hown, hts⟩ := id S
  have hl : lv_has ls 3 [(0, .ref ch), (1, .int leg), (2, .int ab)] := hl
  refine lv_aload_n hx hb dX2_drift_0 rfl (lv_at hl 0 rfl) ?_
  refine va_get (D := D) (ci := 2) (v := .ref cd) (C := RX2) (T := TX2) (N := 2) hx hb hts in_X2 hown hT.1 hP 0 rfl rfl 0 (by decide) (hts _ fl_RX2_9) (fun _ h9 => h9) rfl dX2_drift_1 ?_
  refine lv_iload_n hx hb dX2_drift_4 rfl (lv_at hl 1 rfl) ?_
  refine lv_bipush (v := 64) hx hb dX2_drift_5 (by decide) ?_
  refine lv_imul hx hb dX2_drift_7 ?_
  refine lv_iload_n hx hb dX2_drift_8 rfl (lv_at hl 2 rfl) ?_
  refine lv_iadd hx hb dX2_drift_9 ?_
  refine kRM (st1 := [.int (s_X8_cell 832 dr ((leg * 64) + ab))]) S hT hP (c_X8_cell l D cI cZ cd 832 dr ((leg * 64) + ab) (by first | assumption | decide | omega)) rfl rfl mw_X8_cell ln_RX2_19 ⟨rfl, rfl, (Nat.le_of_ble_eq_true rfl), (Nat.le_of_ble_eq_true rfl), (Nat.le_of_ble_eq_true rfl), (Nat.le_of_ble_eq_true rfl)⟩ [1] rfl hl.1 (Nat.le_of_ble_eq_true rfl) dX2_drift_10 ?_
  exact hret _ _ _ dX2_drift_13 rfl
def lp_X2_addMinute_3 (ns : Nat) (nm : Nat → Int32) (wd : Nat → Int32) (wt : Nat → Int32) (gas : Int32) (mn : Int32) : Nat → Nat → (Nat → Int32) → (Nat → Int32)
  | 0, _, f1_3 => f1_3
  | fu + 1, k, f1_3 => if 64 ≤ nI k then f1_3 else lp_X2_addMinute_3 ns nm wd wt gas mn fu (k + 1) (s_X8_put_f 832 f1_3 (((nI ns) * 64) + (nI k)) ((s_X8_cell 832 f1_3 (((nI ns) * 64) + (nI k))) + (s_X8_cell 10 wd ((((if mn < s_X8_cell 6 nm 0 then 0 else 1) : Int32) * 5) + (s_X7_height nm wt gas (nI k))))))
abbrev rm_X2_addMinute : Room := { frames := 4, cells := 0, slots := 0, locals := 89 }
set_option maxRecDepth 100000 in
set_option maxHeartbeats 4000000 in
theorem c_X2_addMinute (l : Launch) (D : va_G) (cI cZ : ClassId) (ch cd ns : Nat) (dr : Nat → Int32) (h hn hw ht hs hp sn : Nat) (kp : Int32) (nm wd wt sT sP : Nat → Int32) (gas mn : Int32) : Met l yX2_addMinute [.code yX2_addMinute cX2_addMinute 5 none] rm_X2_addMinute (PcW D cI cZ [.ref ch, .ref h, .int gas, .int mn] [(ch, .inr (2, [.ref cd, .int (nI ns)])), (cd, .inl (cI, 832, .inl dr)), (h, .inr (7, [.ref hn, .ref hw, .ref ht, .ref hs, .ref hp, .int (nI sn), .int kp])), (hn, .inl (cI, 6, .inl nm)), (hw, .inl (cI, 10, .inl wd)), (ht, .inl (cI, 6, .inl wt)), (hs, .inl (cI, 6, .inl sT)), (hp, .inl (cI, 6, .inl sP))]) (QcE D (S := Unit) none (fun _ => True) (fun _ => [(ch, .inr (2, [.ref cd, .int (nI ns)])), (cd, .inl (cI, 832, .inl (lp_X2_addMinute_3 ns nm wd wt gas mn 65 0 dr))), (h, .inr (7, [.ref hn, .ref hw, .ref ht, .ref hs, .ref hp, .int (nI sn), .int kp])), (hn, .inl (cI, 6, .inl nm)), (hw, .inl (cI, 10, .inl wd)), (ht, .inl (cI, 6, .inl wt)), (hs, .inl (cI, 6, .inl sT)), (hp, .inl (cI, 6, .inl sP))]) (zA [(ch, .inr (2, [.ref cd, .int (nI ns)])), (cd, .inl (cI, 832, .inl dr)), (h, .inr (7, [.ref hn, .ref hw, .ref ht, .ref hs, .ref hp, .int (nI sn), .int kp])), (hn, .inl (cI, 6, .inl nm)), (hw, .inl (cI, 10, .inl wd)), (ht, .inl (cI, 6, .inl wt)), (hs, .inl (cI, 6, .inl sT)), (hp, .inl (cI, 6, .inl sP))])) 0 0 (zA [(ch, .inr (2, [.ref cd, .int (nI ns)])), (cd, .inl (cI, 832, .inl dr)), (h, .inr (7, [.ref hn, .ref hw, .ref ht, .ref hs, .ref hp, .int (nI sn), .int kp])), (hn, .inl (cI, 6, .inl nm)), (hw, .inl (cI, 10, .inl wd)), (ht, .inl (cI, 6, .inl wt)), (hs, .inl (cI, 6, .inl sT)), (hp, .inl (cI, 6, .inl sP))]) := by
  refine mtWv (by decide) (Nat.le_of_ble_eq_true rfl) (fun p e s m args below meth c Q A S hT hP hD hS hret ls hl => ?_)
  have S : CallFix p m c cX2_addMinute 5 s args zt RX2 := S
  obtain ⟨hx, hb, hml, hown, hts⟩ := id S
  have hl : lv_has ls 5 [(0, .ref ch), (1, .ref h), (2, .int gas), (3, .int mn)] := hl
  refine lv_iconst (v := 0) hx hb dX2_addMinute_0 (by decide) ?_
  refine lv_istore (lv' := [(4, .int 0), (0, .ref ch), (1, .ref h), (2, .int gas), (3, .int mn)]) hx hb dX2_addMinute_1 hl (by decide) rfl (fun ls hl => ?_)
  have X2 : ∀ (y1 : Nat → Int32), (lp_X2_addMinute_3 ns nm wd wt gas mn 65 0 dr) = y1 → ∀ (ls : Array Slot), lv_has ls 5 [(0, .ref ch), (1, .ref h), (2, .int gas), (3, .int mn)] → ∀ (H : Heap) (locs : List Loc), va_P D vwCl [(ch, .inr (2, [.ref cd, .int (nI ns)])), (cd, .inl (cI, 832, .inl y1)), (h, .inr (7, [.ref hn, .ref hw, .ref ht, .ref hs, .ref hp, .int (nI sn), .int kp])), (hn, .inl (cI, 6, .inl nm)), (hw, .inl (cI, 10, .inl wd)), (ht, .inl (cI, 6, .inl wt)), (hs, .inl (cI, 6, .inl sT)), (hp, .inl (cI, 6, .inl sP))] H → va_D A [(ch, .inr (2, [.ref cd, .int (nI ns)])), (cd, .inl (cI, 832, .inl y1)), (h, .inr (7, [.ref hn, .ref hw, .ref ht, .ref hs, .ref hp, .int (nI sn), .int kp])), (hn, .inl (cI, 6, .inl nm)), (hw, .inl (cI, 10, .inl wd)), (ht, .inl (cI, 6, .inl wt)), (hs, .inl (cI, 6, .inl sT)), (hp, .inl (cI, 6, .inl sP))] → va_S A s.heap H locs → W p l e rm_X2_addMinute s m args below meth c H locs 0 0 Q (F0 m 52 ls []) := by
    intro y1 ey1 ls hl H locs hP hD hS
    subst ey1
    exact hret _ _ H locs () dX2_addMinute_52  trivial hP hS
  have L3 : ∀ (n6 : Nat) (k : Nat) (f1_3 : Nat → Int32), 64 - k < n6 → (k ≤ 64) → lp_X2_addMinute_3 ns nm wd wt gas mn n6 k f1_3 = lp_X2_addMinute_3 ns nm wd wt gas mn 65 0 dr → ∀ (ls : Array Slot), lv_has ls 5 [(0, .ref ch), (1, .ref h), (2, .int gas), (3, .int mn), (4, .int (nI k))] → ∀ (H : Heap) (locs : List Loc), va_P D vwCl [(ch, .inr (2, [.ref cd, .int (nI ns)])), (cd, .inl (cI, 832, .inl f1_3)), (h, .inr (7, [.ref hn, .ref hw, .ref ht, .ref hs, .ref hp, .int (nI sn), .int kp])), (hn, .inl (cI, 6, .inl nm)), (hw, .inl (cI, 10, .inl wd)), (ht, .inl (cI, 6, .inl wt)), (hs, .inl (cI, 6, .inl sT)), (hp, .inl (cI, 6, .inl sP))] H → va_D A [(ch, .inr (2, [.ref cd, .int (nI ns)])), (cd, .inl (cI, 832, .inl f1_3)), (h, .inr (7, [.ref hn, .ref hw, .ref ht, .ref hs, .ref hp, .int (nI sn), .int kp])), (hn, .inl (cI, 6, .inl nm)), (hw, .inl (cI, 10, .inl wd)), (ht, .inl (cI, 6, .inl wt)), (hs, .inl (cI, 6, .inl sT)), (hp, .inl (cI, 6, .inl sP))] → va_S A s.heap H locs → W p l e rm_X2_addMinute s m args below meth c H locs 0 0 Q (F0 m 3 ls []) := by
    intro n6
    induction n6 with
    | zero => intro k f1_3 hm; exact absurd hm (Nat.not_lt_zero _)
    | succ n6 ih5 =>
      intro k f1_3 hm7 hk hv4 ls hl H locs hP hD hS
      refine lv_iload hx hb dX2_addMinute_3 (lv_at hl 4 rfl) ?_
      refine lv_bipush (v := 64) hx hb dX2_addMinute_5 (by decide) ?_
      refine lv_icmp_ge (tgt := 52) hx hb dX2_addMinute_7 (by decide) (fun c8 => ?_) (fun c8 => ?_)
      · have nc8 := zNle (a := 64) (b := k) c8 (by omega) (by omega)
        exact X2 _ (by rw [← hv4, lp_X2_addMinute_3, if_pos c8]) ls (lv_sub hl [0, 1, 2, 3] rfl) H locs hP hD hS
      · have nc8 := zNnle (a := 64) (b := k) c8 (by omega) (by omega)
        refine lv_aload_n hx hb dX2_addMinute_10 rfl (lv_at hl 0 rfl) ?_
        refine va_get (D := D) (ci := 2) (v := .ref cd) (C := RX2) (T := TX2) (N := 2) hx hb hts in_X2 hown hT.1 hP 0 rfl rfl 0 (by decide) (hts _ fl_RX2_9) (fun _ h9 => h9) rfl dX2_addMinute_11 ?_
        refine lv_aload_n hx hb dX2_addMinute_14 rfl (lv_at hl 0 rfl) ?_
        refine va_get (D := D) (ci := 2) (v := .int (nI ns)) (C := RX2) (T := TX2) (N := 2) hx hb hts in_X2 hown hT.1 hP 0 rfl rfl 1 (by decide) (hts _ fl_RX2_15) (fun _ h9 => h9) rfl dX2_addMinute_15 ?_
        refine lv_bipush (v := 64) hx hb dX2_addMinute_18 (by decide) ?_
        refine lv_imul hx hb dX2_addMinute_20 ?_
        refine lv_iload hx hb dX2_addMinute_21 (lv_at hl 4 rfl) ?_
        refine lv_iadd hx hb dX2_addMinute_23 ?_
        refine lv_aload_n hx hb dX2_addMinute_24 rfl (lv_at hl 0 rfl) ?_
        refine lv_aload_n hx hb dX2_addMinute_25 rfl (lv_at hl 0 rfl) ?_
        refine va_get (D := D) (ci := 2) (v := .int (nI ns)) (C := RX2) (T := TX2) (N := 2) hx hb hts in_X2 hown hT.1 hP 0 rfl rfl 1 (by decide) (hts _ fl_RX2_15) (fun _ h9 => h9) rfl dX2_addMinute_26 ?_
        refine lv_iload hx hb dX2_addMinute_29 (lv_at hl 4 rfl) ?_
        refine kRV (q0 := 0) (st1 := [.int (s_X8_cell 832 f1_3 (((nI ns) * 64) + (nI k))), .int (((nI ns) * 64) + (nI k)), .ref cd]) S hT hP (c_X2_drift l D cI cZ ch cd ns f1_3 (nI ns) (nI k)) rfl rfl mw_X2_drift lk_RX2_51 ⟨rfl, rfl, (Nat.le_of_ble_eq_true rfl), (Nat.le_of_ble_eq_true rfl), (Nat.le_of_ble_eq_true rfl), (Nat.le_of_ble_eq_true rfl)⟩ [0, 1] rfl rfl rfl hl.1 (Nat.le_of_ble_eq_true rfl) dX2_addMinute_31 ?_
        refine lv_aload_n hx hb dX2_addMinute_34 rfl (lv_at hl 1 rfl) ?_
        refine lv_iload_n hx hb dX2_addMinute_35 rfl (lv_at hl 2 rfl) ?_
        refine lv_iload hx hb dX2_addMinute_36 (lv_at hl 4 rfl) ?_
        refine lv_iload_n hx hb dX2_addMinute_38 rfl (lv_at hl 3 rfl) ?_
        refine kRV (q0 := 2) (st1 := [.int (s_X8_cell 10 wd ((((if mn < s_X8_cell 6 nm 0 then 0 else 1) : Int32) * 5) + (s_X7_height nm wt gas (nI k)))), .int (s_X8_cell 832 f1_3 (((nI ns) * 64) + (nI k))), .int (((nI ns) * 64) + (nI k)), .ref cd]) S hT hP (c_X7_drift l D cI cZ h hn hw ht hs hp sn kp nm wd wt sT sP gas (nI k) mn) rfl rfl mw_X7_drift lk_RX2_54 ⟨rfl, rfl, (Nat.le_of_ble_eq_true rfl), (Nat.le_of_ble_eq_true rfl), (Nat.le_of_ble_eq_true rfl), (Nat.le_of_ble_eq_true rfl)⟩ [2, 3, 4, 5, 6, 7] rfl rfl rfl hl.1 (Nat.le_of_ble_eq_true rfl) dX2_addMinute_39 ?_
        refine lv_iadd hx hb dX2_addMinute_42 ?_
        refine kEM (st1 := []) S hT hP hD hS (c_X8_put l D cI cZ cd 832 f1_3 (((nI ns) * 64) + (nI k)) ((s_X8_cell 832 f1_3 (((nI ns) * 64) + (nI k))) + (s_X8_cell 10 wd ((((if mn < s_X8_cell 6 nm 0 then 0 else 1) : Int32) * 5) + (s_X7_height nm wt gas (nI k))))) (by first | assumption | decide | omega)) rfl rfl mw_X8_put ln_RX2_57 ⟨rfl, rfl, (Nat.le_of_ble_eq_true rfl), (Nat.le_of_ble_eq_true rfl), (Nat.le_of_ble_eq_true rfl), (Nat.le_of_ble_eq_true rfl)⟩ [1] [cd] (by decide) rfl rfl (fun _ => rfl) hl.1 (Nat.le_of_ble_eq_true rfl) dX2_addMinute_43 (fun _ H locs _ hP hD hS => ?_)
        have hP : va_P D vwCl [(ch, .inr (2, [.ref cd, .int (nI ns)])), (cd, .inl (cI, 832, .inl (s_X8_put_f 832 f1_3 (((nI ns) * 64) + (nI k)) ((s_X8_cell 832 f1_3 (((nI ns) * 64) + (nI k))) + (s_X8_cell 10 wd ((((if mn < s_X8_cell 6 nm 0 then 0 else 1) : Int32) * 5) + (s_X7_height nm wt gas (nI k)))))))), (h, .inr (7, [.ref hn, .ref hw, .ref ht, .ref hs, .ref hp, .int (nI sn), .int kp])), (hn, .inl (cI, 6, .inl nm)), (hw, .inl (cI, 10, .inl wd)), (ht, .inl (cI, 6, .inl wt)), (hs, .inl (cI, 6, .inl sT)), (hp, .inl (cI, 6, .inl sP))] H := hP
        have hD : va_D A [(ch, .inr (2, [.ref cd, .int (nI ns)])), (cd, .inl (cI, 832, .inl (s_X8_put_f 832 f1_3 (((nI ns) * 64) + (nI k)) ((s_X8_cell 832 f1_3 (((nI ns) * 64) + (nI k))) + (s_X8_cell 10 wd ((((if mn < s_X8_cell 6 nm 0 then 0 else 1) : Int32) * 5) + (s_X7_height nm wt gas (nI k)))))))), (h, .inr (7, [.ref hn, .ref hw, .ref ht, .ref hs, .ref hp, .int (nI sn), .int kp])), (hn, .inl (cI, 6, .inl nm)), (hw, .inl (cI, 10, .inl wd)), (ht, .inl (cI, 6, .inl wt)), (hs, .inl (cI, 6, .inl sT)), (hp, .inl (cI, 6, .inl sP))] := hD
        refine lv_iinc (v := nI (k + 1)) (lv' := [(4, .int (nI (k + 1))), (0, .ref ch), (1, .ref h), (2, .int gas), (3, .int mn)]) hx hb dX2_addMinute_46 hl (k := 4) rfl (nI_1 k) (by decide) rfl (fun ls hl => ?_)
        refine lv_goto (tgt := 3) hx hb dX2_addMinute_49 (by decide) ?_
        exact ih5 (k + 1) (s_X8_put_f 832 f1_3 (((nI ns) * 64) + (nI k)) ((s_X8_cell 832 f1_3 (((nI ns) * 64) + (nI k))) + (s_X8_cell 10 wd ((((if mn < s_X8_cell 6 nm 0 then 0 else 1) : Int32) * 5) + (s_X7_height nm wt gas (nI k)))))) (by omega) (by omega) (by rw [← hv4, lp_X2_addMinute_3, if_neg c8]) ls (lv_sub hl [1, 2, 3, 4, 0] rfl) H locs hP hD hS
  exact L3 65 0 dr (by omega) (by omega) rfl ls (lv_sub hl [1, 2, 3, 4, 0] rfl) s.heap [] hP hD hS
def lp_X2_draw_2 : Nat → Nat → (Nat → Int32) → (Nat → Int32)
  | 0, _, f1_2 => f1_2
  | fu + 1, k, f1_2 => if nI 832 ≤ nI k then f1_2 else lp_X2_draw_2 fu (k + 1) (upd f1_2 k 0)
def lp_X2_draw_41 (nm : Nat → Int32) (wd : Nat → Int32) (wt : Nat → Int32) (len : Nat) (sg : Nat → Int32) : Nat → Nat → Nat → Nat → Int32 → (Nat → Int32) → Nat × (Nat → Int32)
  | 0, _, _, q, _, f1_41 => (q, f1_41)
  | fu + 1, k, mt, q, x3_41, f1_41 => if nI len ≤ nI k then (q, f1_41) else (if (s_X8_cell 60 sg (nI k)) = 46 then lp_X2_draw_41 nm wd wt len sg fu (k + 1) (mt + 1) ((if (s_X8_cell 60 sg (nI k)) = 33 then (min (q + 1) 12) else q) : Nat) (if (x3_41 - (s_X8_cell 6 nm 2)) < 0 then 0 else x3_41 - (s_X8_cell 6 nm 2)) (lp_X2_addMinute_3 ((if (s_X8_cell 60 sg (nI k)) = 33 then (min (q + 1) 12) else q) : Nat) nm wd wt x3_41 (nI mt) 65 0 f1_41) else lp_X2_draw_41 nm wd wt len sg fu (k + 1) mt ((if (s_X8_cell 60 sg (nI k)) = 33 then (min (q + 1) 12) else q) : Nat) x3_41 f1_41)
abbrev rm_X2_draw : Room := { frames := 5, cells := 0, slots := 0, locals := 113 }
set_option maxRecDepth 100000 in
set_option maxHeartbeats 4000000 in
theorem c_X2_draw (l : Launch) (D : va_G) (cI cZ : ClassId) (ch cd ns : Nat) (dr : Nat → Int32) (h hn hw ht hs hp sn : Nat) (kp : Int32) (nm wd wt sT sP : Nat → Int32) (pd pg len : Nat) (sg : Nat → Int32) (hlen : len ≤ 60) : Met l yX2_draw [.code yX2_draw cX2_draw 6 none] rm_X2_draw (PcW D cI cZ [.ref ch, .ref h, .ref pd] [(ch, .inr (2, [.ref cd, .int (nI ns)])), (cd, .inl (cI, 832, .inl dr)), (h, .inr (7, [.ref hn, .ref hw, .ref ht, .ref hs, .ref hp, .int (nI sn), .int kp])), (hn, .inl (cI, 6, .inl nm)), (hw, .inl (cI, 10, .inl wd)), (ht, .inl (cI, 6, .inl wt)), (hs, .inl (cI, 6, .inl sT)), (hp, .inl (cI, 6, .inl sP)), (pd, .inr (4, [.ref pg, .int (nI len)])), (pg, .inl (cI, 60, .inl sg))]) (QcE D (S := Unit) none (fun _ => True) (fun _ => [(ch, .inr (2, [.ref cd, .int (nI ((lp_X2_draw_41 nm wd wt len sg (len + 1) 0 0 0 (s_X8_cell 6 nm 1) (lp_X2_draw_2 833 0 dr)).1))])), (cd, .inl (cI, 832, .inl ((lp_X2_draw_41 nm wd wt len sg (len + 1) 0 0 0 (s_X8_cell 6 nm 1) (lp_X2_draw_2 833 0 dr)).2))), (h, .inr (7, [.ref hn, .ref hw, .ref ht, .ref hs, .ref hp, .int (nI sn), .int kp])), (hn, .inl (cI, 6, .inl nm)), (hw, .inl (cI, 10, .inl wd)), (ht, .inl (cI, 6, .inl wt)), (hs, .inl (cI, 6, .inl sT)), (hp, .inl (cI, 6, .inl sP)), (pd, .inr (4, [.ref pg, .int (nI len)])), (pg, .inl (cI, 60, .inl sg))]) (zA [(ch, .inr (2, [.ref cd, .int (nI ns)])), (cd, .inl (cI, 832, .inl dr)), (h, .inr (7, [.ref hn, .ref hw, .ref ht, .ref hs, .ref hp, .int (nI sn), .int kp])), (hn, .inl (cI, 6, .inl nm)), (hw, .inl (cI, 10, .inl wd)), (ht, .inl (cI, 6, .inl wt)), (hs, .inl (cI, 6, .inl sT)), (hp, .inl (cI, 6, .inl sP)), (pd, .inr (4, [.ref pg, .int (nI len)])), (pg, .inl (cI, 60, .inl sg))])) 0 0 (zA [(ch, .inr (2, [.ref cd, .int (nI ns)])), (cd, .inl (cI, 832, .inl dr)), (h, .inr (7, [.ref hn, .ref hw, .ref ht, .ref hs, .ref hp, .int (nI sn), .int kp])), (hn, .inl (cI, 6, .inl nm)), (hw, .inl (cI, 10, .inl wd)), (ht, .inl (cI, 6, .inl wt)), (hs, .inl (cI, 6, .inl sT)), (hp, .inl (cI, 6, .inl sP)), (pd, .inr (4, [.ref pg, .int (nI len)])), (pg, .inl (cI, 60, .inl sg))]) := by
  refine mtWv (by decide) (Nat.le_of_ble_eq_true rfl) (fun p e s m args below meth c Q A S hT hP hD hS hret ls hl => ?_)
  have S : CallFix p m c cX2_draw 6 s args zt RX2 := S
  obtain ⟨hx, hb, hml, hown, hts⟩ := id S
  have hl : lv_has ls 6 [(0, .ref ch), (1, .ref h), (2, .ref pd)] := hl
  refine lv_iconst (v := 0) hx hb dX2_draw_0 (by decide) ?_
  refine lv_istore_n (lv' := [(3, .int 0), (0, .ref ch), (1, .ref h), (2, .ref pd)]) hx hb dX2_draw_1 rfl hl (by decide) rfl (fun ls hl => ?_)
  have X2 : ∀ (y1 : Nat → Int32), (lp_X2_draw_2 833 0 dr) = y1 → ∀ (ls : Array Slot), lv_has ls 6 [(0, .ref ch), (1, .ref h), (2, .ref pd)] → ∀ (H : Heap) (locs : List Loc), va_P D vwCl [(ch, .inr (2, [.ref cd, .int (nI ns)])), (cd, .inl (cI, 832, .inl y1)), (h, .inr (7, [.ref hn, .ref hw, .ref ht, .ref hs, .ref hp, .int (nI sn), .int kp])), (hn, .inl (cI, 6, .inl nm)), (hw, .inl (cI, 10, .inl wd)), (ht, .inl (cI, 6, .inl wt)), (hs, .inl (cI, 6, .inl sT)), (hp, .inl (cI, 6, .inl sP)), (pd, .inr (4, [.ref pg, .int (nI len)])), (pg, .inl (cI, 60, .inl sg))] H → va_D A [(ch, .inr (2, [.ref cd, .int (nI ns)])), (cd, .inl (cI, 832, .inl y1)), (h, .inr (7, [.ref hn, .ref hw, .ref ht, .ref hs, .ref hp, .int (nI sn), .int kp])), (hn, .inl (cI, 6, .inl nm)), (hw, .inl (cI, 10, .inl wd)), (ht, .inl (cI, 6, .inl wt)), (hs, .inl (cI, 6, .inl sT)), (hp, .inl (cI, 6, .inl sP)), (pd, .inr (4, [.ref pg, .int (nI len)])), (pg, .inl (cI, 60, .inl sg))] → va_S A s.heap H locs → W p l e rm_X2_draw s m args below meth c H locs 0 0 Q (F0 m 24 ls []) := by
    intro y1 ey1 ls hl H locs hP hD hS
    subst ey1
    refine lv_aload_n hx hb dX2_draw_24 rfl (lv_at hl 0 rfl) ?_
    refine lv_iconst (v := 0) hx hb dX2_draw_25 (by decide) ?_
    refine va_put (D := D) (ci := 2) (v := .int 0) (ty := .int) (C := RX2) (T := TX2) (N := 2) hx hb hts in_X2 tyX2 tyX2_ok nmX2 hown hT.1 hP hD hS 0 rfl rfl 1 (by decide) (hts _ fl_RX2_15) (fun _ h9 => h9) rfl (by decide +kernel) rfl rfl (Nat.le_of_ble_eq_true rfl) dX2_draw_26 (fun H locs hP hD hS => ?_)
    have hP : va_P D vwCl [(ch, .inr (2, [.ref cd, .int 0])), (cd, .inl (cI, 832, .inl (lp_X2_draw_2 833 0 dr))), (h, .inr (7, [.ref hn, .ref hw, .ref ht, .ref hs, .ref hp, .int (nI sn), .int kp])), (hn, .inl (cI, 6, .inl nm)), (hw, .inl (cI, 10, .inl wd)), (ht, .inl (cI, 6, .inl wt)), (hs, .inl (cI, 6, .inl sT)), (hp, .inl (cI, 6, .inl sP)), (pd, .inr (4, [.ref pg, .int (nI len)])), (pg, .inl (cI, 60, .inl sg))] H := hP
    have hD : va_D A [(ch, .inr (2, [.ref cd, .int 0])), (cd, .inl (cI, 832, .inl (lp_X2_draw_2 833 0 dr))), (h, .inr (7, [.ref hn, .ref hw, .ref ht, .ref hs, .ref hp, .int (nI sn), .int kp])), (hn, .inl (cI, 6, .inl nm)), (hw, .inl (cI, 10, .inl wd)), (ht, .inl (cI, 6, .inl wt)), (hs, .inl (cI, 6, .inl sT)), (hp, .inl (cI, 6, .inl sP)), (pd, .inr (4, [.ref pg, .int (nI len)])), (pg, .inl (cI, 60, .inl sg))] := hD
    refine lv_aload_n hx hb dX2_draw_29 rfl (lv_at hl 1 rfl) ?_
    refine lv_iconst (v := 1) hx hb dX2_draw_30 (by decide) ?_
    refine kRV (q0 := 2) (st1 := [.int (s_X8_cell 6 nm 1)]) S hT hP (c_X7_number l D cI cZ h hn hw ht hs hp sn kp nm wd wt sT sP 1) rfl rfl mw_X7_number lk_RX2_23 ⟨rfl, rfl, (Nat.le_of_ble_eq_true rfl), (Nat.le_of_ble_eq_true rfl), (Nat.le_of_ble_eq_true rfl), (Nat.le_of_ble_eq_true rfl)⟩ [2, 3, 4, 5, 6, 7] rfl rfl rfl hl.1 (Nat.le_of_ble_eq_true rfl) dX2_draw_31 ?_
    refine lv_istore_n (lv' := [(3, .int (s_X8_cell 6 nm 1)), (0, .ref ch), (1, .ref h), (2, .ref pd)]) hx hb dX2_draw_34 rfl hl (by decide) rfl (fun ls hl => ?_)
    refine lv_iconst (v := 0) hx hb dX2_draw_35 (by decide) ?_
    refine lv_istore (lv' := [(4, .int 0), (3, .int (s_X8_cell 6 nm 1)), (0, .ref ch), (1, .ref h), (2, .ref pd)]) hx hb dX2_draw_36 hl (by decide) rfl (fun ls hl => ?_)
    refine lv_iconst (v := 0) hx hb dX2_draw_38 (by decide) ?_
    refine lv_istore (lv' := [(5, .int 0), (4, .int 0), (3, .int (s_X8_cell 6 nm 1)), (0, .ref ch), (1, .ref h), (2, .ref pd)]) hx hb dX2_draw_39 hl (by decide) rfl (fun ls hl => ?_)
    have X5 : ∀ (y3 : Nat) (y4 : Nat → Int32), ((lp_X2_draw_41 nm wd wt len sg (len + 1) 0 0 0 (s_X8_cell 6 nm 1) (lp_X2_draw_2 833 0 dr)).1) = y3 → ((lp_X2_draw_41 nm wd wt len sg (len + 1) 0 0 0 (s_X8_cell 6 nm 1) (lp_X2_draw_2 833 0 dr)).2) = y4 → ∀ (ls : Array Slot), lv_has ls 6 [(0, .ref ch), (1, .ref h), (2, .ref pd)] → ∀ (H : Heap) (locs : List Loc), va_P D vwCl [(ch, .inr (2, [.ref cd, .int (nI y3)])), (cd, .inl (cI, 832, .inl y4)), (h, .inr (7, [.ref hn, .ref hw, .ref ht, .ref hs, .ref hp, .int (nI sn), .int kp])), (hn, .inl (cI, 6, .inl nm)), (hw, .inl (cI, 10, .inl wd)), (ht, .inl (cI, 6, .inl wt)), (hs, .inl (cI, 6, .inl sT)), (hp, .inl (cI, 6, .inl sP)), (pd, .inr (4, [.ref pg, .int (nI len)])), (pg, .inl (cI, 60, .inl sg))] H → va_D A [(ch, .inr (2, [.ref cd, .int (nI y3)])), (cd, .inl (cI, 832, .inl y4)), (h, .inr (7, [.ref hn, .ref hw, .ref ht, .ref hs, .ref hp, .int (nI sn), .int kp])), (hn, .inl (cI, 6, .inl nm)), (hw, .inl (cI, 10, .inl wd)), (ht, .inl (cI, 6, .inl wt)), (hs, .inl (cI, 6, .inl sT)), (hp, .inl (cI, 6, .inl sP)), (pd, .inr (4, [.ref pg, .int (nI len)])), (pg, .inl (cI, 60, .inl sg))] → va_S A s.heap H locs → W p l e rm_X2_draw s m args below meth c H locs 0 0 Q (F0 m 110 ls []) := by
      intro y3 y4 ey3 ey4 ls hl H locs hP hD hS
      subst ey3 ey4
      exact hret _ _ H locs () dX2_draw_110  trivial hP hS
    have L6 : ∀ (n9 : Nat) (k : Nat) (mt : Nat) (q : Nat) (x3_41 : Int32) (f1_41 : Nat → Int32), len - k < n9 → (k ≤ len) → (q ≤ 12) → (mt ≤ k) → lp_X2_draw_41 nm wd wt len sg n9 k mt q x3_41 f1_41 = lp_X2_draw_41 nm wd wt len sg (len + 1) 0 0 0 (s_X8_cell 6 nm 1) (lp_X2_draw_2 833 0 dr) → ∀ (ls : Array Slot), lv_has ls 6 [(0, .ref ch), (1, .ref h), (2, .ref pd), (3, .int x3_41), (4, .int (nI mt)), (5, .int (nI k))] → ∀ (H : Heap) (locs : List Loc), va_P D vwCl [(ch, .inr (2, [.ref cd, .int (nI q)])), (cd, .inl (cI, 832, .inl f1_41)), (h, .inr (7, [.ref hn, .ref hw, .ref ht, .ref hs, .ref hp, .int (nI sn), .int kp])), (hn, .inl (cI, 6, .inl nm)), (hw, .inl (cI, 10, .inl wd)), (ht, .inl (cI, 6, .inl wt)), (hs, .inl (cI, 6, .inl sT)), (hp, .inl (cI, 6, .inl sP)), (pd, .inr (4, [.ref pg, .int (nI len)])), (pg, .inl (cI, 60, .inl sg))] H → va_D A [(ch, .inr (2, [.ref cd, .int (nI q)])), (cd, .inl (cI, 832, .inl f1_41)), (h, .inr (7, [.ref hn, .ref hw, .ref ht, .ref hs, .ref hp, .int (nI sn), .int kp])), (hn, .inl (cI, 6, .inl nm)), (hw, .inl (cI, 10, .inl wd)), (ht, .inl (cI, 6, .inl wt)), (hs, .inl (cI, 6, .inl sT)), (hp, .inl (cI, 6, .inl sP)), (pd, .inr (4, [.ref pg, .int (nI len)])), (pg, .inl (cI, 60, .inl sg))] → va_S A s.heap H locs → W p l e rm_X2_draw s m args below meth c H locs 0 0 Q (F0 m 41 ls []) := by
      intro n9
      induction n9 with
      | zero => intro k mt q x3_41 f1_41 hm; exact absurd hm (Nat.not_lt_zero _)
      | succ n9 ih8 =>
        intro k mt q x3_41 f1_41 hm10 hk hq hmt hv7 ls hl H locs hP hD hS
        refine lv_iload hx hb dX2_draw_41 (lv_at hl 5 rfl) ?_
        refine lv_aload_n hx hb dX2_draw_43 rfl (lv_at hl 2 rfl) ?_
        refine kRV (q0 := 8) (st1 := [.int (nI len), .int (nI k)]) S hT hP (c_X4_length l D cI cZ pd pg len sg) rfl rfl mw_X4_length lk_RX2_29 ⟨rfl, rfl, (Nat.le_of_ble_eq_true rfl), (Nat.le_of_ble_eq_true rfl), (Nat.le_of_ble_eq_true rfl), (Nat.le_of_ble_eq_true rfl)⟩ [8, 9] rfl rfl rfl hl.1 (Nat.le_of_ble_eq_true rfl) dX2_draw_44 ?_
        refine lv_icmp_ge (tgt := 110) hx hb dX2_draw_47 (by decide) (fun c11 => ?_) (fun c11 => ?_)
        · have nc11 := zNle (a := len) (b := k) c11 (by omega) (by omega)
          exact X5 _ _ (by rw [← hv7, lp_X2_draw_41, if_pos c11]) (by rw [← hv7, lp_X2_draw_41, if_pos c11]) ls (lv_sub hl [0, 1, 2] rfl) H locs hP hD hS
        · have nc11 := zNnle (a := len) (b := k) c11 (by omega) (by omega)
          refine lv_aload_n hx hb dX2_draw_50 rfl (lv_at hl 2 rfl) ?_
          refine lv_iload hx hb dX2_draw_51 (lv_at hl 5 rfl) ?_
          refine kRV (q0 := 8) (st1 := [.int (s_X8_cell 60 sg (nI k))]) S hT hP (c_X4_sign l D cI cZ pd pg len sg (nI k)) rfl rfl mw_X4_sign lk_RX2_35 ⟨rfl, rfl, (Nat.le_of_ble_eq_true rfl), (Nat.le_of_ble_eq_true rfl), (Nat.le_of_ble_eq_true rfl), (Nat.le_of_ble_eq_true rfl)⟩ [8, 9] rfl rfl rfl hl.1 (Nat.le_of_ble_eq_true rfl) dX2_draw_53 ?_
          refine lv_bipush (v := 33) hx hb dX2_draw_56 (by decide) ?_
          have J13 : ∀ (z12 : Nat), ((if (s_X8_cell 60 sg (nI k)) = 33 then (min (q + 1) 12) else q) : Nat) = z12 → ∀ (H : Heap) (locs : List Loc), va_P D vwCl [(ch, .inr (2, [.ref cd, .int (nI z12)])), (cd, .inl (cI, 832, .inl f1_41)), (h, .inr (7, [.ref hn, .ref hw, .ref ht, .ref hs, .ref hp, .int (nI sn), .int kp])), (hn, .inl (cI, 6, .inl nm)), (hw, .inl (cI, 10, .inl wd)), (ht, .inl (cI, 6, .inl wt)), (hs, .inl (cI, 6, .inl sT)), (hp, .inl (cI, 6, .inl sP)), (pd, .inr (4, [.ref pg, .int (nI len)])), (pg, .inl (cI, 60, .inl sg))] H → va_D A [(ch, .inr (2, [.ref cd, .int (nI z12)])), (cd, .inl (cI, 832, .inl f1_41)), (h, .inr (7, [.ref hn, .ref hw, .ref ht, .ref hs, .ref hp, .int (nI sn), .int kp])), (hn, .inl (cI, 6, .inl nm)), (hw, .inl (cI, 10, .inl wd)), (ht, .inl (cI, 6, .inl wt)), (hs, .inl (cI, 6, .inl sT)), (hp, .inl (cI, 6, .inl sP)), (pd, .inr (4, [.ref pg, .int (nI len)])), (pg, .inl (cI, 60, .inl sg))] → va_S A s.heap H locs → W p l e rm_X2_draw s m args below meth c H locs 0 0 Q (F0 m 76 ls []) := by
            intro z12 ez12 H locs hP hD hS
            subst ez12
            refine lv_aload_n hx hb dX2_draw_76 rfl (lv_at hl 2 rfl) ?_
            refine lv_iload hx hb dX2_draw_77 (lv_at hl 5 rfl) ?_
            refine kRV (q0 := 8) (st1 := [.int (s_X8_cell 60 sg (nI k))]) S hT hP (c_X4_sign l D cI cZ pd pg len sg (nI k)) rfl rfl mw_X4_sign lk_RX2_35 ⟨rfl, rfl, (Nat.le_of_ble_eq_true rfl), (Nat.le_of_ble_eq_true rfl), (Nat.le_of_ble_eq_true rfl), (Nat.le_of_ble_eq_true rfl)⟩ [8, 9] rfl rfl rfl hl.1 (Nat.le_of_ble_eq_true rfl) dX2_draw_79 ?_
            refine lv_bipush (v := 46) hx hb dX2_draw_82 (by decide) ?_
            refine lv_icmp_ne (tgt := 104) hx hb dX2_draw_84 (by decide) (fun c14 => ?_) (fun c14 => ?_)
            · refine lv_iinc (v := nI (k + 1)) (lv' := [(5, .int (nI (k + 1))), (0, .ref ch), (1, .ref h), (2, .ref pd), (3, .int x3_41), (4, .int (nI mt))]) hx hb dX2_draw_104 hl (k := 5) rfl (nI_1 k) (by decide) rfl (fun ls hl => ?_)
              refine lv_goto (tgt := 41) hx hb dX2_draw_107 (by decide) ?_
              exact ih8 (k + 1) mt ((if (s_X8_cell 60 sg (nI k)) = 33 then (min (q + 1) 12) else q) : Nat) x3_41 f1_41 (by omega) (by omega) (by split <;> omega) (by omega) (by rw [← hv7, lp_X2_draw_41, if_neg c11, if_neg c14]) ls (lv_sub hl [1, 2, 3, 4, 5, 0] rfl) H locs hP hD hS
            · refine lv_aload_n hx hb dX2_draw_87 rfl (lv_at hl 0 rfl) ?_
              refine lv_aload_n hx hb dX2_draw_88 rfl (lv_at hl 1 rfl) ?_
              refine lv_iload_n hx hb dX2_draw_89 rfl (lv_at hl 3 rfl) ?_
              refine lv_iload hx hb dX2_draw_90 (lv_at hl 4 rfl) ?_
              refine kEV (q0 := 0) (st1 := []) S hT hP hD hS (c_X2_addMinute l D cI cZ ch cd ((if (s_X8_cell 60 sg (nI k)) = 33 then (min (q + 1) 12) else q) : Nat) f1_41 h hn hw ht hs hp sn kp nm wd wt sT sP x3_41 (nI mt)) rfl rfl mw_X2_addMinute lk_RX2_44 ⟨rfl, rfl, (Nat.le_of_ble_eq_true rfl), (Nat.le_of_ble_eq_true rfl), (Nat.le_of_ble_eq_true rfl), (Nat.le_of_ble_eq_true rfl)⟩ [0, 1, 2, 3, 4, 5, 6, 7] [ch, cd, h, hn, hw, ht, hs, hp] (by decide) rfl rfl (fun _ => rfl) rfl rfl hl.1 (Nat.le_of_ble_eq_true rfl) dX2_draw_92 (fun _ H locs _ hP hD hS => ?_)
              have hP : va_P D vwCl [(ch, .inr (2, [.ref cd, .int (nI ((if (s_X8_cell 60 sg (nI k)) = 33 then (min (q + 1) 12) else q) : Nat))])), (cd, .inl (cI, 832, .inl (lp_X2_addMinute_3 ((if (s_X8_cell 60 sg (nI k)) = 33 then (min (q + 1) 12) else q) : Nat) nm wd wt x3_41 (nI mt) 65 0 f1_41))), (h, .inr (7, [.ref hn, .ref hw, .ref ht, .ref hs, .ref hp, .int (nI sn), .int kp])), (hn, .inl (cI, 6, .inl nm)), (hw, .inl (cI, 10, .inl wd)), (ht, .inl (cI, 6, .inl wt)), (hs, .inl (cI, 6, .inl sT)), (hp, .inl (cI, 6, .inl sP)), (pd, .inr (4, [.ref pg, .int (nI len)])), (pg, .inl (cI, 60, .inl sg))] H := hP
              have hD : va_D A [(ch, .inr (2, [.ref cd, .int (nI ((if (s_X8_cell 60 sg (nI k)) = 33 then (min (q + 1) 12) else q) : Nat))])), (cd, .inl (cI, 832, .inl (lp_X2_addMinute_3 ((if (s_X8_cell 60 sg (nI k)) = 33 then (min (q + 1) 12) else q) : Nat) nm wd wt x3_41 (nI mt) 65 0 f1_41))), (h, .inr (7, [.ref hn, .ref hw, .ref ht, .ref hs, .ref hp, .int (nI sn), .int kp])), (hn, .inl (cI, 6, .inl nm)), (hw, .inl (cI, 10, .inl wd)), (ht, .inl (cI, 6, .inl wt)), (hs, .inl (cI, 6, .inl sT)), (hp, .inl (cI, 6, .inl sP)), (pd, .inr (4, [.ref pg, .int (nI len)])), (pg, .inl (cI, 60, .inl sg))] := hD
              refine lv_aload_n hx hb dX2_draw_95 rfl (lv_at hl 1 rfl) ?_
              refine lv_iload_n hx hb dX2_draw_96 rfl (lv_at hl 3 rfl) ?_
              refine kRV (q0 := 2) (st1 := [.int (if (x3_41 - (s_X8_cell 6 nm 2)) < 0 then 0 else x3_41 - (s_X8_cell 6 nm 2))]) S hT hP (c_X7_leaked l D cI cZ h hn hw ht hs hp sn kp nm wd wt sT sP x3_41) rfl rfl mw_X7_leaked lk_RX2_48 ⟨rfl, rfl, (Nat.le_of_ble_eq_true rfl), (Nat.le_of_ble_eq_true rfl), (Nat.le_of_ble_eq_true rfl), (Nat.le_of_ble_eq_true rfl)⟩ [2, 3, 4, 5, 6, 7] rfl rfl rfl hl.1 (Nat.le_of_ble_eq_true rfl) dX2_draw_97 ?_
              refine lv_istore_n (lv' := [(3, .int (if (x3_41 - (s_X8_cell 6 nm 2)) < 0 then 0 else x3_41 - (s_X8_cell 6 nm 2))), (0, .ref ch), (1, .ref h), (2, .ref pd), (4, .int (nI mt)), (5, .int (nI k))]) hx hb dX2_draw_100 rfl hl (by decide) rfl (fun ls hl => ?_)
              refine lv_iinc (v := nI (mt + 1)) (lv' := [(4, .int (nI (mt + 1))), (3, .int (if (x3_41 - (s_X8_cell 6 nm 2)) < 0 then 0 else x3_41 - (s_X8_cell 6 nm 2))), (0, .ref ch), (1, .ref h), (2, .ref pd), (5, .int (nI k))]) hx hb dX2_draw_101 hl (k := 4) rfl (nI_1 mt) (by decide) rfl (fun ls hl => ?_)
              refine lv_iinc (v := nI (k + 1)) (lv' := [(5, .int (nI (k + 1))), (4, .int (nI (mt + 1))), (3, .int (if (x3_41 - (s_X8_cell 6 nm 2)) < 0 then 0 else x3_41 - (s_X8_cell 6 nm 2))), (0, .ref ch), (1, .ref h), (2, .ref pd)]) hx hb dX2_draw_104 hl (k := 5) rfl (nI_1 k) (by decide) rfl (fun ls hl => ?_)
              refine lv_goto (tgt := 41) hx hb dX2_draw_107 (by decide) ?_
              exact ih8 (k + 1) (mt + 1) ((if (s_X8_cell 60 sg (nI k)) = 33 then (min (q + 1) 12) else q) : Nat) (if (x3_41 - (s_X8_cell 6 nm 2)) < 0 then 0 else x3_41 - (s_X8_cell 6 nm 2)) (lp_X2_addMinute_3 ((if (s_X8_cell 60 sg (nI k)) = 33 then (min (q + 1) 12) else q) : Nat) nm wd wt x3_41 (nI mt) 65 0 f1_41) (by omega) (by omega) (by split <;> omega) (by omega) (by rw [← hv7, lp_X2_draw_41, if_neg c11, if_pos c14]) ls (lv_sub hl [3, 4, 5, 2, 1, 0] rfl) H locs hP hD hS
          refine lv_icmp_ne (tgt := 76) hx hb dX2_draw_58 (by decide) (fun c15 => ?_) (fun c15 => ?_)
          · exact J13 q (by rw [if_neg c15]) H locs hP hD hS
          · refine lv_aload_n hx hb dX2_draw_61 rfl (lv_at hl 0 rfl) ?_
            refine lv_aload_n hx hb dX2_draw_62 rfl (lv_at hl 0 rfl) ?_
            refine va_get (D := D) (ci := 2) (v := .int (nI q)) (C := RX2) (T := TX2) (N := 2) hx hb hts in_X2 hown hT.1 hP 0 rfl rfl 1 (by decide) (hts _ fl_RX2_15) (fun _ h9 => h9) rfl dX2_draw_63 ?_
            refine lv_iconst (v := 1) hx hb dX2_draw_66 (by decide) ?_
            refine lv_iadd hx hb dX2_draw_67 ?_
            refine lv_bipush (v := 12) hx hb dX2_draw_68 (by decide) ?_
            refine va_mmin hx hb (by rw [hml]; exact hl.1.symm) hown (hts _ lm_RX2_38) (hts _ sm_Math_min) (hts _ ini_Math) (hts _ cd_Math_min) (Nat.le_of_ble_eq_true rfl) (Nat.le_of_ble_eq_true rfl) (Nat.le_of_ble_eq_true rfl) (Nat.le_of_ble_eq_true rfl) dX2_draw_70 ?_
            refine zI (y := nI (min (q + 1) 12)) (zmin12 (by omega)) ?_
            refine va_put (D := D) (ci := 2) (v := .int (nI (min (q + 1) 12))) (ty := .int) (C := RX2) (T := TX2) (N := 2) hx hb hts in_X2 tyX2 tyX2_ok nmX2 hown hT.1 hP hD hS 0 rfl rfl 1 (by decide) (hts _ fl_RX2_15) (fun _ h9 => h9) rfl (by decide +kernel) rfl rfl (Nat.le_of_ble_eq_true rfl) dX2_draw_73 (fun H locs hP hD hS => ?_)
            have hP : va_P D vwCl [(ch, .inr (2, [.ref cd, .int (nI (min (q + 1) 12))])), (cd, .inl (cI, 832, .inl f1_41)), (h, .inr (7, [.ref hn, .ref hw, .ref ht, .ref hs, .ref hp, .int (nI sn), .int kp])), (hn, .inl (cI, 6, .inl nm)), (hw, .inl (cI, 10, .inl wd)), (ht, .inl (cI, 6, .inl wt)), (hs, .inl (cI, 6, .inl sT)), (hp, .inl (cI, 6, .inl sP)), (pd, .inr (4, [.ref pg, .int (nI len)])), (pg, .inl (cI, 60, .inl sg))] H := hP
            have hD : va_D A [(ch, .inr (2, [.ref cd, .int (nI (min (q + 1) 12))])), (cd, .inl (cI, 832, .inl f1_41)), (h, .inr (7, [.ref hn, .ref hw, .ref ht, .ref hs, .ref hp, .int (nI sn), .int kp])), (hn, .inl (cI, 6, .inl nm)), (hw, .inl (cI, 10, .inl wd)), (ht, .inl (cI, 6, .inl wt)), (hs, .inl (cI, 6, .inl sT)), (hp, .inl (cI, 6, .inl sP)), (pd, .inr (4, [.ref pg, .int (nI len)])), (pg, .inl (cI, 60, .inl sg))] := hD
            exact J13 (min (q + 1) 12) (by rw [if_pos c15]) H locs hP hD hS
    exact L6 (len + 1) 0 0 0 (s_X8_cell 6 nm 1) (lp_X2_draw_2 833 0 dr) (by omega) (by omega) (by omega) (by omega) rfl ls (lv_sub hl [3, 4, 5, 2, 1, 0] rfl) H locs hP hD hS
  have L16 : ∀ (n19 : Nat) (k : Nat) (f1_2 : Nat → Int32), 832 - k < n19 → (k ≤ 832) → lp_X2_draw_2 n19 k f1_2 = lp_X2_draw_2 833 0 dr → ∀ (ls : Array Slot), lv_has ls 6 [(0, .ref ch), (1, .ref h), (2, .ref pd), (3, .int (nI k))] → ∀ (H : Heap) (locs : List Loc), va_P D vwCl [(ch, .inr (2, [.ref cd, .int (nI ns)])), (cd, .inl (cI, 832, .inl f1_2)), (h, .inr (7, [.ref hn, .ref hw, .ref ht, .ref hs, .ref hp, .int (nI sn), .int kp])), (hn, .inl (cI, 6, .inl nm)), (hw, .inl (cI, 10, .inl wd)), (ht, .inl (cI, 6, .inl wt)), (hs, .inl (cI, 6, .inl sT)), (hp, .inl (cI, 6, .inl sP)), (pd, .inr (4, [.ref pg, .int (nI len)])), (pg, .inl (cI, 60, .inl sg))] H → va_D A [(ch, .inr (2, [.ref cd, .int (nI ns)])), (cd, .inl (cI, 832, .inl f1_2)), (h, .inr (7, [.ref hn, .ref hw, .ref ht, .ref hs, .ref hp, .int (nI sn), .int kp])), (hn, .inl (cI, 6, .inl nm)), (hw, .inl (cI, 10, .inl wd)), (ht, .inl (cI, 6, .inl wt)), (hs, .inl (cI, 6, .inl sT)), (hp, .inl (cI, 6, .inl sP)), (pd, .inr (4, [.ref pg, .int (nI len)])), (pg, .inl (cI, 60, .inl sg))] → va_S A s.heap H locs → W p l e rm_X2_draw s m args below meth c H locs 0 0 Q (F0 m 2 ls []) := by
    intro n19
    induction n19 with
    | zero => intro k f1_2 hm; exact absurd hm (Nat.not_lt_zero _)
    | succ n19 ih18 =>
      intro k f1_2 hm20 hk hv17 ls hl H locs hP hD hS
      refine lv_iload_n hx hb dX2_draw_2 rfl (lv_at hl 3 rfl) ?_
      refine lv_aload_n hx hb dX2_draw_3 rfl (lv_at hl 0 rfl) ?_
      refine va_get (D := D) (ci := 2) (v := .ref cd) (C := RX2) (T := TX2) (N := 2) hx hb hts in_X2 hown hT.1 hP 0 rfl rfl 0 (by decide) (hts _ fl_RX2_9) (fun _ h9 => h9) rfl dX2_draw_4 ?_
      refine va_alen (D := D) (v := nI 832) hx hb hT.1 hP 1 0 rfl rfl rfl dX2_draw_7 ?_
      refine lv_icmp_ge (tgt := 24) hx hb dX2_draw_8 (by decide) (fun c21 => ?_) (fun c21 => ?_)
      · have nc21 := zNle (a := 832) (b := k) c21 (by omega) (by omega)
        exact X2 _ (by rw [← hv17, lp_X2_draw_2, if_pos c21]) ls (lv_sub hl [0, 1, 2] rfl) H locs hP hD hS
      · have nc21 := zNnle (a := 832) (b := k) c21 (by omega) (by omega)
        refine lv_aload_n hx hb dX2_draw_11 rfl (lv_at hl 0 rfl) ?_
        refine va_get (D := D) (ci := 2) (v := .ref cd) (C := RX2) (T := TX2) (N := 2) hx hb hts in_X2 hown hT.1 hP 0 rfl rfl 0 (by decide) (hts _ fl_RX2_9) (fun _ h9 => h9) rfl dX2_draw_12 ?_
        refine lv_iload_n hx hb dX2_draw_15 rfl (lv_at hl 3 rfl) ?_
        refine lv_iconst (v := 0) hx hb dX2_draw_16 (by decide) ?_
        refine zast (D := D) (k := k) hx hb hT.1 hP hD hS 1 0 rfl rfl (by omega) (by omega) dX2_draw_17 (fun H locs hP hD hS => ?_)
        have hP : va_P D vwCl [(ch, .inr (2, [.ref cd, .int (nI ns)])), (cd, .inl (cI, 832, .inl (upd f1_2 k 0))), (h, .inr (7, [.ref hn, .ref hw, .ref ht, .ref hs, .ref hp, .int (nI sn), .int kp])), (hn, .inl (cI, 6, .inl nm)), (hw, .inl (cI, 10, .inl wd)), (ht, .inl (cI, 6, .inl wt)), (hs, .inl (cI, 6, .inl sT)), (hp, .inl (cI, 6, .inl sP)), (pd, .inr (4, [.ref pg, .int (nI len)])), (pg, .inl (cI, 60, .inl sg))] H := hP
        have hD : va_D A [(ch, .inr (2, [.ref cd, .int (nI ns)])), (cd, .inl (cI, 832, .inl (upd f1_2 k 0))), (h, .inr (7, [.ref hn, .ref hw, .ref ht, .ref hs, .ref hp, .int (nI sn), .int kp])), (hn, .inl (cI, 6, .inl nm)), (hw, .inl (cI, 10, .inl wd)), (ht, .inl (cI, 6, .inl wt)), (hs, .inl (cI, 6, .inl sT)), (hp, .inl (cI, 6, .inl sP)), (pd, .inr (4, [.ref pg, .int (nI len)])), (pg, .inl (cI, 60, .inl sg))] := hD
        refine lv_iinc (v := nI (k + 1)) (lv' := [(3, .int (nI (k + 1))), (0, .ref ch), (1, .ref h), (2, .ref pd)]) hx hb dX2_draw_18 hl (k := 3) rfl (nI_1 k) (by decide) rfl (fun ls hl => ?_)
        refine lv_goto (tgt := 2) hx hb dX2_draw_21 (by decide) ?_
        exact ih18 (k + 1) (upd f1_2 k 0) (by omega) (by omega) (by rw [← hv17, lp_X2_draw_2, if_neg c21]) ls (lv_sub hl [1, 2, 3, 0] rfl) H locs hP hD hS
  exact L16 833 0 dr (by omega) (by omega) rfl ls (lv_sub hl [1, 2, 3, 0] rfl) s.heap [] hP hD hS
