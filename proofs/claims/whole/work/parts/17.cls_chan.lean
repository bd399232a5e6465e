def lp_X1_line_7 (wt : Nat → Int32) : Nat → Nat → Int32 → (Nat → Int32) → (Nat → Int32)
  | 0, _, _, f1_7 => f1_7
  | fu + 1, k, x2_7, f1_7 => if nI 7 ≤ nI k then f1_7 else lp_X1_line_7 wt fu (k + 1) (s_X8_without x2_7 (lp_X7_heaviest_5 wt x2_7 7 0 (-6))) (upd f1_7 k x2_7)
abbrev rm_X1_line : Room := { frames := 3, cells := 0, slots := 0, locals := 65 }
set_option maxRecDepth 100000 in
set_option maxHeartbeats 4000000 in
theorem c_X1_line (l : Launch) (D : va_G) (cI cZ : ClassId) (cc cl : Nat) (lf : Nat → Int32) (h hn hw ht hs hp sn : Nat) (kp : Int32) (nm wd wt sT sP : Nat → Int32) : Met l yX1_line [.code yX1_line cX1_line 4 none] rm_X1_line (PcW D cI cZ [.ref cc, .ref h] [(cc, .inr (1, [.ref cl])), (cl, .inl (cI, 7, .inl lf)), (h, .inr (7, [.ref hn, .ref hw, .ref ht, .ref hs, .ref hp, .int (nI sn), .int kp])), (hn, .inl (cI, 6, .inl nm)), (hw, .inl (cI, 10, .inl wd)), (ht, .inl (cI, 6, .inl wt)), (hs, .inl (cI, 6, .inl sT)), (hp, .inl (cI, 6, .inl sP))]) (QcE D (S := Unit) none (fun _ => True) (fun _ => [(cc, .inr (1, [.ref cl])), (cl, .inl (cI, 7, .inl (lp_X1_line_7 wt 8 0 (lp_X7_loaded_4 wt 7 0 0) lf))), (h, .inr (7, [.ref hn, .ref hw, .ref ht, .ref hs, .ref hp, .int (nI sn), .int kp])), (hn, .inl (cI, 6, .inl nm)), (hw, .inl (cI, 10, .inl wd)), (ht, .inl (cI, 6, .inl wt)), (hs, .inl (cI, 6, .inl sT)), (hp, .inl (cI, 6, .inl sP))]) (zA [(cc, .inr (1, [.ref cl])), (cl, .inl (cI, 7, .inl lf)), (h, .inr (7, [.ref hn, .ref hw, .ref ht, .ref hs, .ref hp, .int (nI sn), .int kp])), (hn, .inl (cI, 6, .inl nm)), (hw, .inl (cI, 10, .inl wd)), (ht, .inl (cI, 6, .inl wt)), (hs, .inl (cI, 6, .inl sT)), (hp, .inl (cI, 6, .inl sP))])) 0 0 (zA [(cc, .inr (1, [.ref cl])), (cl, .inl (cI, 7, .inl lf)), (h, .inr (7, [.ref hn, .ref hw, .ref ht, .ref hs, .ref hp, .int (nI sn), .int kp])), (hn, .inl (cI, 6, .inl nm)), (hw, .inl (cI, 10, .inl wd)), (ht, .inl (cI, 6, .inl wt)), (hs, .inl (cI, 6, .inl sT)), (hp, .inl (cI, 6, .inl sP))]) := by
  refine mtWv (by decide) (Nat.le_of_ble_eq_true rfl) (fun p e s m args below meth c Q A S hT hP hD hS hret ls hl => ?_)
  have S : CallFix p m c cX1_line 4 s args zt RX1 := S
  obtain ⟨hx, hb, hml, hown, hts⟩ := id S
  have hl : lv_has ls 4 [(0, .ref cc), (1, .ref h)] := hl
  refine lv_aload_n hx hb dX1_line_0 rfl (lv_at hl 1 rfl) ?_
  refine kRV (q0 := 2) (st1 := [.int (lp_X7_loaded_4 wt 7 0 0)]) S hT hP (c_X7_loaded l D cI cZ h hn hw ht hs hp sn kp nm wd wt sT sP) rfl rfl mw_X7_loaded lk_RX1_15 ⟨rfl, rfl, (Nat.le_of_ble_eq_true rfl), (Nat.le_of_ble_eq_true rfl), (Nat.le_of_ble_eq_true rfl), (Nat.le_of_ble_eq_true rfl)⟩ [2, 3, 4, 5, 6, 7] rfl rfl rfl hl.1 (Nat.le_of_ble_eq_true rfl) dX1_line_1 ?_
  refine lv_istore_n (lv' := [(2, .int (lp_X7_loaded_4 wt 7 0 0)), (0, .ref cc), (1, .ref h)]) hx hb dX1_line_4 rfl hl (by decide) rfl (fun ls hl => ?_)
  refine lv_iconst (v := 0) hx hb dX1_line_5 (by decide) ?_
  refine lv_istore_n (lv' := [(3, .int 0), (2, .int (lp_X7_loaded_4 wt 7 0 0)), (0, .ref cc), (1, .ref h)]) hx hb dX1_line_6 rfl hl (by decide) rfl (fun ls hl => ?_)
  have X2 : ∀ (y1 : Nat → Int32), (lp_X1_line_7 wt 8 0 (lp_X7_loaded_4 wt 7 0 0) lf) = y1 → ∀ (ls : Array Slot), lv_has ls 4 [(0, .ref cc), (1, .ref h)] → ∀ (H : Heap) (locs : List Loc), va_P D vwCl [(cc, .inr (1, [.ref cl])), (cl, .inl (cI, 7, .inl y1)), (h, .inr (7, [.ref hn, .ref hw, .ref ht, .ref hs, .ref hp, .int (nI sn), .int kp])), (hn, .inl (cI, 6, .inl nm)), (hw, .inl (cI, 10, .inl wd)), (ht, .inl (cI, 6, .inl wt)), (hs, .inl (cI, 6, .inl sT)), (hp, .inl (cI, 6, .inl sP))] H → va_D A [(cc, .inr (1, [.ref cl])), (cl, .inl (cI, 7, .inl y1)), (h, .inr (7, [.ref hn, .ref hw, .ref ht, .ref hs, .ref hp, .int (nI sn), .int kp])), (hn, .inl (cI, 6, .inl nm)), (hw, .inl (cI, 10, .inl wd)), (ht, .inl (cI, 6, .inl wt)), (hs, .inl (cI, 6, .inl sT)), (hp, .inl (cI, 6, .inl sP))] → va_S A s.heap H locs → W p l e rm_X1_line s m args below meth c H locs 0 0 Q (F0 m 39 ls []) := by
    intro y1 ey1 ls hl H locs hP hD hS
    subst ey1
    exact hret _ _ H locs () dX1_line_39  trivial hP hS
  have L3 : ∀ (n6 : Nat) (k : Nat) (x2_7 : Int32) (f1_7 : Nat → Int32), 7 - k < n6 → (k ≤ 7) → lp_X1_line_7 wt n6 k x2_7 f1_7 = lp_X1_line_7 wt 8 0 (lp_X7_loaded_4 wt 7 0 0) lf → ∀ (ls : Array Slot), lv_has ls 4 [(0, .ref cc), (1, .ref h), (2, .int x2_7), (3, .int (nI k))] → ∀ (H : Heap) (locs : List Loc), va_P D vwCl [(cc, .inr (1, [.ref cl])), (cl, .inl (cI, 7, .inl f1_7)), (h, .inr (7, [.ref hn, .ref hw, .ref ht, .ref hs, .ref hp, .int (nI sn), .int kp])), (hn, .inl (cI, 6, .inl nm)), (hw, .inl (cI, 10, .inl wd)), (ht, .inl (cI, 6, .inl wt)), (hs, .inl (cI, 6, .inl sT)), (hp, .inl (cI, 6, .inl sP))] H → va_D A [(cc, .inr (1, [.ref cl])), (cl, .inl (cI, 7, .inl f1_7)), (h, .inr (7, [.ref hn, .ref hw, .ref ht, .ref hs, .ref hp, .int (nI sn), .int kp])), (hn, .inl (cI, 6, .inl nm)), (hw, .inl (cI, 10, .inl wd)), (ht, .inl (cI, 6, .inl wt)), (hs, .inl (cI, 6, .inl sT)), (hp, .inl (cI, 6, .inl sP))] → va_S A s.heap H locs → W p l e rm_X1_line s m args below meth c H locs 0 0 Q (F0 m 7 ls []) := by
    intro n6
    induction n6 with
    | zero => intro k x2_7 f1_7 hm; exact absurd hm (Nat.not_lt_zero _)
    | succ n6 ih5 =>
      intro k x2_7 f1_7 hm7 hk hv4 ls hl H locs hP hD hS
      refine lv_iload_n hx hb dX1_line_7 rfl (lv_at hl 3 rfl) ?_
      refine lv_aload_n hx hb dX1_line_8 rfl (lv_at hl 0 rfl) ?_
      refine va_get (D := D) (ci := 1) (v := .ref cl) (C := RX1) (T := TX1) (N := 1) hx hb hts in_X1 hown hT.1 hP 0 rfl rfl 0 (by decide) (hts _ fl_RX1_9) (fun _ h9 => h9) rfl dX1_line_9 ?_
      refine va_alen (D := D) (v := nI 7) hx hb hT.1 hP 1 0 rfl rfl rfl dX1_line_12 ?_
      refine lv_icmp_ge (tgt := 39) hx hb dX1_line_13 (by decide) (fun c8 => ?_) (fun c8 => ?_)
      · have nc8 := zNle (a := 7) (b := k) c8 (by omega) (by omega)
        exact X2 _ (by rw [← hv4, lp_X1_line_7, if_pos c8]) ls (lv_sub hl [0, 1] rfl) H locs hP hD hS
      · have nc8 := zNnle (a := 7) (b := k) c8 (by omega) (by omega)
        refine lv_aload_n hx hb dX1_line_16 rfl (lv_at hl 0 rfl) ?_
        refine va_get (D := D) (ci := 1) (v := .ref cl) (C := RX1) (T := TX1) (N := 1) hx hb hts in_X1 hown hT.1 hP 0 rfl rfl 0 (by decide) (hts _ fl_RX1_9) (fun _ h9 => h9) rfl dX1_line_17 ?_
        refine lv_iload_n hx hb dX1_line_20 rfl (lv_at hl 3 rfl) ?_
        refine lv_iload_n hx hb dX1_line_21 rfl (lv_at hl 2 rfl) ?_
        refine zast (D := D) (k := k) hx hb hT.1 hP hD hS 1 0 rfl rfl (by omega) (by omega) dX1_line_22 (fun H locs hP hD hS => ?_)
        have hP : va_P D vwCl [(cc, .inr (1, [.ref cl])), (cl, .inl (cI, 7, .inl (upd f1_7 k x2_7))), (h, .inr (7, [.ref hn, .ref hw, .ref ht, .ref hs, .ref hp, .int (nI sn), .int kp])), (hn, .inl (cI, 6, .inl nm)), (hw, .inl (cI, 10, .inl wd)), (ht, .inl (cI, 6, .inl wt)), (hs, .inl (cI, 6, .inl sT)), (hp, .inl (cI, 6, .inl sP))] H := hP
        have hD : va_D A [(cc, .inr (1, [.ref cl])), (cl, .inl (cI, 7, .inl (upd f1_7 k x2_7))), (h, .inr (7, [.ref hn, .ref hw, .ref ht, .ref hs, .ref hp, .int (nI sn), .int kp])), (hn, .inl (cI, 6, .inl nm)), (hw, .inl (cI, 10, .inl wd)), (ht, .inl (cI, 6, .inl wt)), (hs, .inl (cI, 6, .inl sT)), (hp, .inl (cI, 6, .inl sP))] := hD
        refine lv_iload_n hx hb dX1_line_23 rfl (lv_at hl 2 rfl) ?_
        refine lv_aload_n hx hb dX1_line_24 rfl (lv_at hl 1 rfl) ?_
        refine lv_iload_n hx hb dX1_line_25 rfl (lv_at hl 2 rfl) ?_
        refine kRV (q0 := 2) (st1 := [.int (lp_X7_heaviest_5 wt x2_7 7 0 (-6)), .int x2_7]) S hT hP (c_X7_heaviest l D cI cZ h hn hw ht hs hp sn kp nm wd wt sT sP x2_7) rfl rfl mw_X7_heaviest lk_RX1_21 ⟨rfl, rfl, (Nat.le_of_ble_eq_true rfl), (Nat.le_of_ble_eq_true rfl), (Nat.le_of_ble_eq_true rfl), (Nat.le_of_ble_eq_true rfl)⟩ [2, 3, 4, 5, 6, 7] rfl rfl rfl hl.1 (Nat.le_of_ble_eq_true rfl) dX1_line_26 ?_
        refine kRM (st1 := [.int (s_X8_without x2_7 (lp_X7_heaviest_5 wt x2_7 7 0 (-6)))]) S hT hP (c_X8_without l D cI cZ x2_7 (lp_X7_heaviest_5 wt x2_7 7 0 (-6))) rfl rfl mw_X8_without ln_RX1_25 ⟨rfl, rfl, (Nat.le_of_ble_eq_true rfl), (Nat.le_of_ble_eq_true rfl), (Nat.le_of_ble_eq_true rfl), (Nat.le_of_ble_eq_true rfl)⟩ [] rfl hl.1 (Nat.le_of_ble_eq_true rfl) dX1_line_29 ?_
        refine lv_istore_n (lv' := [(2, .int (s_X8_without x2_7 (lp_X7_heaviest_5 wt x2_7 7 0 (-6)))), (0, .ref cc), (1, .ref h), (3, .int (nI k))]) hx hb dX1_line_32 rfl hl (by decide) rfl (fun ls hl => ?_)
        refine lv_iinc (v := nI (k + 1)) (lv' := [(3, .int (nI (k + 1))), (2, .int (s_X8_without x2_7 (lp_X7_heaviest_5 wt x2_7 7 0 (-6)))), (0, .ref cc), (1, .ref h)]) hx hb dX1_line_33 hl (k := 3) rfl (nI_1 k) (by decide) rfl (fun ls hl => ?_)
        refine lv_goto (tgt := 7) hx hb dX1_line_36 (by decide) ?_
        exact ih5 (k + 1) (s_X8_without x2_7 (lp_X7_heaviest_5 wt x2_7 7 0 (-6))) (upd f1_7 k x2_7) (by omega) (by omega) (by rw [← hv4, lp_X1_line_7, if_neg c8]) ls (lv_sub hl [2, 3, 1, 0] rfl) H locs hP hD hS
  exact L3 8 0 (lp_X7_loaded_4 wt 7 0 0) lf (by omega) (by omega) rfl ls (lv_sub hl [2, 3, 1, 0] rfl) s.heap [] hP hD hS
def lp_X1_power_5 (ba : Int32) (ex : Nat) : Nat → Nat → Int64 → Int64
  | 0, _, x2_5 => x2_5
  | fu + 1, k, x2_5 => if nI ex ≤ nI k then x2_5 else lp_X1_power_5 ba ex fu (k + 1) (x2_5 * (Int32.toInt64 ba))
abbrev rm_X1_power : Room := { frames := 0, cells := 0, slots := 0, locals := 0 }
set_option maxRecDepth 100000 in
set_option maxHeartbeats 4000000 in
theorem c_X1_power (l : Launch) (D : va_G) (cI cZ : ClassId) (ba : Int32) (ex : Nat) (hex : ex ≤ 12) : Met l yX1_power [.code yX1_power cX1_power 5 (some .long)] rm_X1_power (PcR D cI cZ [.int ba, .int (nI ex)] []) (QcR (some (.long (lp_X1_power_5 ba ex (ex + 1) 0 1)))) 0 0 zN := by
  refine mtRl (by decide) (Nat.le_of_ble_eq_true rfl) (fun p e s m args below meth c Q S hT hP hret ls hl => ?_)
  have S : CallFix p m c cX1_power 5 s args zt RX1 := S
  obtain ⟨hx, hb, hml, hown, hts⟩ := id S
  have hl : lv_has ls 5 [(0, .int ba), (1, .int (nI ex))] := hl
  refine lv_lconst (v := 1) hx hb dX1_power_0 (by decide) ?_
  refine lv_lstore_n (lv' := [(2, .long 1), (0, .int ba), (1, .int (nI ex))]) hx hb dX1_power_1 rfl hl (by decide) rfl (fun ls hl => ?_)
  refine lv_iconst (v := 0) hx hb dX1_power_2 (by decide) ?_
  refine lv_istore (lv' := [(4, .int 0), (2, .long 1), (0, .int ba), (1, .int (nI ex))]) hx hb dX1_power_3 hl (by decide) rfl (fun ls hl => ?_)
  have X2 : ∀ (y1 : Int64), (lp_X1_power_5 ba ex (ex + 1) 0 1) = y1 → ∀ (ls : Array Slot), lv_has ls 5 [(0, .int ba), (1, .int (nI ex)), (2, .long y1)] → W p l e rm_X1_power s m args below meth c s.heap [] 0 0 Q (F0 m 22 ls []) := by
    intro y1 ey1 ls hl
    subst ey1
    refine lv_lload_n hx hb dX1_power_22 rfl (lv_at hl 2 rfl) ?_
    exact hret _ _ _ dX1_power_23 rfl
  have L3 : ∀ (n6 : Nat) (k : Nat) (x2_5 : Int64), ex - k < n6 → (k ≤ ex) → lp_X1_power_5 ba ex n6 k x2_5 = lp_X1_power_5 ba ex (ex + 1) 0 1 → ∀ (ls : Array Slot), lv_has ls 5 [(0, .int ba), (1, .int (nI ex)), (2, .long x2_5), (4, .int (nI k))] → W p l e rm_X1_power s m args below meth c s.heap [] 0 0 Q (F0 m 5 ls []) := by
    intro n6
    induction n6 with
    | zero => intro k x2_5 hm; exact absurd hm (Nat.not_lt_zero _)
    | succ n6 ih5 =>
      intro k x2_5 hm7 hk hv4 ls hl
      refine lv_iload hx hb dX1_power_5 (lv_at hl 3 rfl) ?_
      refine lv_iload_n hx hb dX1_power_7 rfl (lv_at hl 1 rfl) ?_
      refine lv_icmp_ge (tgt := 22) hx hb dX1_power_8 (by decide) (fun c8 => ?_) (fun c8 => ?_)
      · have nc8 := zNle (a := ex) (b := k) c8 (by omega) (by omega)
        exact X2 _ (by rw [← hv4, lp_X1_power_5, if_pos c8]) ls (lv_sub hl [0, 1, 2] rfl)
      · have nc8 := zNnle (a := ex) (b := k) c8 (by omega) (by omega)
        refine lv_lload_n hx hb dX1_power_11 rfl (lv_at hl 2 rfl) ?_
        refine lv_iload_n hx hb dX1_power_12 rfl (lv_at hl 0 rfl) ?_
        refine lv_i2l (v := Int32.toInt64 ba) hx hb dX1_power_13 rfl ?_
        refine lv_lmul hx hb dX1_power_14 ?_
        refine lv_lstore_n (lv' := [(2, .long (x2_5 * (Int32.toInt64 ba))), (0, .int ba), (1, .int (nI ex)), (4, .int (nI k))]) hx hb dX1_power_15 rfl hl (by decide) rfl (fun ls hl => ?_)
        refine lv_iinc (v := nI (k + 1)) (lv' := [(4, .int (nI (k + 1))), (2, .long (x2_5 * (Int32.toInt64 ba))), (0, .int ba), (1, .int (nI ex))]) hx hb dX1_power_16 hl (k := 3) rfl (nI_1 k) (by decide) rfl (fun ls hl => ?_)
        refine lv_goto (tgt := 5) hx hb dX1_power_19 (by decide) ?_
        exact ih5 (k + 1) (x2_5 * (Int32.toInt64 ba)) (by omega) (by omega) (by rw [← hv4, lp_X1_power_5, if_neg c8]) ls (lv_sub hl [2, 3, 1, 0] rfl)
  exact L3 (ex + 1) 0 1 (by omega) (by omega) rfl ls (lv_sub hl [2, 3, 1, 0] rfl)
abbrev rm_X1_all : Room := { frames := 1, cells := 0, slots := 0, locals := 24 }
set_option maxRecDepth 100000 in
set_option maxHeartbeats 4000000 in
theorem c_X1_all (l : Launch) (D : va_G) (cI cZ : ClassId) (cc cl : Nat) (lf : Nat → Int32) (ch cd ns : Nat) (dr : Nat → Int32) (hns : ns ≤ 12) : Met l yX1_all [.code yX1_all cX1_all 2 (some .long)] rm_X1_all (PcR D cI cZ [.ref cc, .ref ch] [(cc, .inr (1, [.ref cl])), (cl, .inl (cI, 7, .inl lf)), (ch, .inr (2, [.ref cd, .int (nI ns)])), (cd, .inl (cI, 832, .inl dr))]) (QcR (some (.long (lp_X1_power_5 10 ns (ns + 1) 0 1)))) 0 0 zN := by
  refine mtRl (by decide) (Nat.le_of_ble_eq_true rfl) (fun p e s m args below meth c Q S hT hP hret ls hl => ?_)
  have S : CallFix p m c cX1_all 2 s args zt RX1 := S
  obtain ⟨hx, hb, hml, hown, hts⟩ := id S
  have hl : lv_has ls 2 [(0, .ref cc), (1, .ref ch)] := hl
  refine lv_bipush (v := 10) hx hb dX1_all_0 (by decide) ?_
  refine lv_aload_n hx hb dX1_all_2 rfl (lv_at hl 1 rfl) ?_
  refine kRV (q0 := 2) (st1 := [.int (nI ns), .int 10]) S hT hP (c_X2_sneezes l D cI cZ ch cd ns dr) rfl rfl mw_X2_sneezes lk_RX1_29 ⟨rfl, rfl, (Nat.le_of_ble_eq_true rfl), (Nat.le_of_ble_eq_true rfl), (Nat.le_of_ble_eq_true rfl), (Nat.le_of_ble_eq_true rfl)⟩ [2, 3] rfl rfl rfl hl.1 (Nat.le_of_ble_eq_true rfl) dX1_all_3 ?_
  refine kRS (st1 := [.long (lp_X1_power_5 10 ns (ns + 1) 0 1)]) S hT hP (c_X1_power l D cI cZ 10 ns (by first | assumption | decide | omega)) rfl rfl mw_X1_power lk_RX1_34 ⟨rfl, rfl, (Nat.le_of_ble_eq_true rfl), (Nat.le_of_ble_eq_true rfl), (Nat.le_of_ble_eq_true rfl), (Nat.le_of_ble_eq_true rfl)⟩ [] rfl hl.1 (Nat.le_of_ble_eq_true rfl) dX1_all_6 ?_
  exact hret _ _ _ dX1_all_9 rfl
def lp_X1_placeBy_8 (lf : Nat → Int32) (ns : Nat) (dr : Nat → Int32) (v : Nat) : Nat → Nat → Int32 → Int32 → Int32
  | 0, _, x4_8, _ => x4_8
  | fu + 1, k, x4_8, x3_8 => if nI ns < nI k then x4_8 else lp_X1_placeBy_8 lf ns dr v fu (k + 1) (x4_8 + (s_X8_cell 832 dr (((nI k) * 64) + (s_X8_cell 7 lf x3_8)))) (if 6 < (x3_8 + (((nI v) >>> ((nI k) &&& 31)) &&& 1)) then 6 else x3_8 + (((nI v) >>> ((nI k) &&& 31)) &&& 1))
abbrev rm_X1_placeBy : Room := { frames := 2, cells := 0, slots := 0, locals := 43 }
set_option maxRecDepth 100000 in
set_option maxHeartbeats 4000000 in
theorem c_X1_placeBy (l : Launch) (D : va_G) (cI cZ : ClassId) (cc cl : Nat) (lf : Nat → Int32) (ch cd ns : Nat) (dr : Nat → Int32) (v : Nat) (hns : ns ≤ 12) : Met l yX1_placeBy [.code yX1_placeBy cX1_placeBy 6 (some .int)] rm_X1_placeBy (PcR D cI cZ [.ref cc, .ref ch, .int (nI v)] [(cc, .inr (1, [.ref cl])), (cl, .inl (cI, 7, .inl lf)), (ch, .inr (2, [.ref cd, .int (nI ns)])), (cd, .inl (cI, 832, .inl dr))]) (QcR (some (.int (lp_X1_placeBy_8 lf ns dr v (ns + 2) 0 0 0)))) 0 0 zN := by
  refine mtRi (by decide) (Nat.le_of_ble_eq_true rfl) (fun p e s m args below meth c Q S hT hP hret ls hl => ?_)
  have S : CallFix p m c cX1_placeBy 6 s args zt RX1 := S
  obtain ⟨hx, hb, hml, hown, hts⟩ := id S
  have hl : lv_has ls 6 [(0, .ref cc), (1, .ref ch), (2, .int (nI v))] := hl
  refine lv_iconst (v := 0) hx hb dX1_placeBy_0 (by decide) ?_
  refine lv_istore_n (lv' := [(3, .int 0), (0, .ref cc), (1, .ref ch), (2, .int (nI v))]) hx hb dX1_placeBy_1 rfl hl (by decide) rfl (fun ls hl => ?_)
  refine lv_iconst (v := 0) hx hb dX1_placeBy_2 (by decide) ?_
  refine lv_istore (lv' := [(4, .int 0), (3, .int 0), (0, .ref cc), (1, .ref ch), (2, .int (nI v))]) hx hb dX1_placeBy_3 hl (by decide) rfl (fun ls hl => ?_)
  refine lv_iconst (v := 0) hx hb dX1_placeBy_5 (by decide) ?_
  refine lv_istore (lv' := [(5, .int 0), (4, .int 0), (3, .int 0), (0, .ref cc), (1, .ref ch), (2, .int (nI v))]) hx hb dX1_placeBy_6 hl (by decide) rfl (fun ls hl => ?_)
  have X2 : ∀ (y1 : Int32), (lp_X1_placeBy_8 lf ns dr v (ns + 2) 0 0 0) = y1 → ∀ (ls : Array Slot), lv_has ls 6 [(0, .ref cc), (1, .ref ch), (2, .int (nI v)), (4, .int y1)] → W p l e rm_X1_placeBy s m args below meth c s.heap [] 0 0 Q (F0 m 56 ls []) := by
    intro y1 ey1 ls hl
    subst ey1
    refine lv_iload hx hb dX1_placeBy_56 (lv_at hl 3 rfl) ?_
    exact hret _ _ _ dX1_placeBy_58 rfl
  have L3 : ∀ (n6 : Nat) (k : Nat) (x4_8 : Int32) (x3_8 : Int32), ns + 1 - k < n6 → (k ≤ ns + 1) → lp_X1_placeBy_8 lf ns dr v n6 k x4_8 x3_8 = lp_X1_placeBy_8 lf ns dr v (ns + 2) 0 0 0 → ∀ (ls : Array Slot), lv_has ls 6 [(0, .ref cc), (1, .ref ch), (2, .int (nI v)), (3, .int x3_8), (4, .int x4_8), (5, .int (nI k))] → W p l e rm_X1_placeBy s m args below meth c s.heap [] 0 0 Q (F0 m 8 ls []) := by
    intro n6
    induction n6 with
    | zero => intro k x4_8 x3_8 hm; exact absurd hm (Nat.not_lt_zero _)
    | succ n6 ih5 =>
      intro k x4_8 x3_8 hm7 hk hv4 ls hl
      refine lv_iload hx hb dX1_placeBy_8 (lv_at hl 5 rfl) ?_
      refine lv_aload_n hx hb dX1_placeBy_10 rfl (lv_at hl 1 rfl) ?_
      refine kRV (q0 := 2) (st1 := [.int (nI ns), .int (nI k)]) S hT hP (c_X2_sneezes l D cI cZ ch cd ns dr) rfl rfl mw_X2_sneezes lk_RX1_29 ⟨rfl, rfl, (Nat.le_of_ble_eq_true rfl), (Nat.le_of_ble_eq_true rfl), (Nat.le_of_ble_eq_true rfl), (Nat.le_of_ble_eq_true rfl)⟩ [2, 3] rfl rfl rfl hl.1 (Nat.le_of_ble_eq_true rfl) dX1_placeBy_11 ?_
      refine lv_icmp_gt (tgt := 56) hx hb dX1_placeBy_14 (by decide) (fun c8 => ?_) (fun c8 => ?_)
      · have nc8 := zNlt (a := ns) (b := k) c8 (by omega) (by omega)
        exact X2 _ (by rw [← hv4, lp_X1_placeBy_8, if_pos c8]) ls (lv_sub hl [0, 1, 2, 4] rfl)
      · have nc8 := zNnlt (a := ns) (b := k) c8 (by omega) (by omega)
        refine lv_iload hx hb dX1_placeBy_17 (lv_at hl 4 rfl) ?_
        refine lv_aload_n hx hb dX1_placeBy_19 rfl (lv_at hl 1 rfl) ?_
        refine lv_iload hx hb dX1_placeBy_20 (lv_at hl 5 rfl) ?_
        refine lv_aload_n hx hb dX1_placeBy_22 rfl (lv_at hl 0 rfl) ?_
        refine va_get (D := D) (ci := 1) (v := .ref cl) (C := RX1) (T := TX1) (N := 1) hx hb hts in_X1 hown hT.1 hP 0 rfl rfl 0 (by decide) (hts _ fl_RX1_9) (fun _ h9 => h9) rfl dX1_placeBy_23 ?_
        refine lv_iload_n hx hb dX1_placeBy_26 rfl (lv_at hl 3 rfl) ?_
        refine kRM (st1 := [.int (s_X8_cell 7 lf x3_8), .int (nI k), .ref ch, .int x4_8]) S hT hP (c_X8_cell l D cI cZ cl 7 lf x3_8 (by first | assumption | decide | omega)) rfl rfl mw_X8_cell ln_RX1_50 ⟨rfl, rfl, (Nat.le_of_ble_eq_true rfl), (Nat.le_of_ble_eq_true rfl), (Nat.le_of_ble_eq_true rfl), (Nat.le_of_ble_eq_true rfl)⟩ [1] rfl hl.1 (Nat.le_of_ble_eq_true rfl) dX1_placeBy_27 ?_
        refine kRV (q0 := 2) (st1 := [.int (s_X8_cell 832 dr (((nI k) * 64) + (s_X8_cell 7 lf x3_8))), .int x4_8]) S hT hP (c_X2_drift l D cI cZ ch cd ns dr (nI k) (s_X8_cell 7 lf x3_8)) rfl rfl mw_X2_drift lk_RX1_54 ⟨rfl, rfl, (Nat.le_of_ble_eq_true rfl), (Nat.le_of_ble_eq_true rfl), (Nat.le_of_ble_eq_true rfl), (Nat.le_of_ble_eq_true rfl)⟩ [2, 3] rfl rfl rfl hl.1 (Nat.le_of_ble_eq_true rfl) dX1_placeBy_30 ?_
        refine lv_iadd hx hb dX1_placeBy_33 ?_
        refine lv_istore (lv' := [(4, .int (x4_8 + (s_X8_cell 832 dr (((nI k) * 64) + (s_X8_cell 7 lf x3_8))))), (0, .ref cc), (1, .ref ch), (2, .int (nI v)), (3, .int x3_8), (5, .int (nI k))]) hx hb dX1_placeBy_34 hl (by decide) rfl (fun ls hl => ?_)
        refine lv_iload_n hx hb dX1_placeBy_36 rfl (lv_at hl 4 rfl) ?_
        refine lv_iload_n hx hb dX1_placeBy_37 rfl (lv_at hl 3 rfl) ?_
        refine lv_iload hx hb dX1_placeBy_38 (lv_at hl 5 rfl) ?_
        refine lv_ishr hx hb dX1_placeBy_40 ?_
        refine lv_iconst (v := 1) hx hb dX1_placeBy_41 (by decide) ?_
        refine lv_iand hx hb dX1_placeBy_42 ?_
        refine lv_iadd hx hb dX1_placeBy_43 ?_
        refine lv_bipush (v := 6) hx hb dX1_placeBy_44 (by decide) ?_
        refine va_mmin hx hb (by rw [hml]; exact hl.1.symm) hown (hts _ lm_RX1_57) (hts _ sm_Math_min) (hts _ ini_Math) (hts _ cd_Math_min) (Nat.le_of_ble_eq_true rfl) (Nat.le_of_ble_eq_true rfl) (Nat.le_of_ble_eq_true rfl) (Nat.le_of_ble_eq_true rfl) dX1_placeBy_46 ?_
        refine lv_istore_n (lv' := [(3, .int (if 6 < (x3_8 + (((nI v) >>> ((nI k) &&& 31)) &&& 1)) then 6 else x3_8 + (((nI v) >>> ((nI k) &&& 31)) &&& 1))), (4, .int (x4_8 + (s_X8_cell 832 dr (((nI k) * 64) + (s_X8_cell 7 lf x3_8))))), (0, .ref cc), (1, .ref ch), (2, .int (nI v)), (5, .int (nI k))]) hx hb dX1_placeBy_49 rfl hl (by decide) rfl (fun ls hl => ?_)
        refine lv_iinc (v := nI (k + 1)) (lv' := [(5, .int (nI (k + 1))), (3, .int (if 6 < (x3_8 + (((nI v) >>> ((nI k) &&& 31)) &&& 1)) then 6 else x3_8 + (((nI v) >>> ((nI k) &&& 31)) &&& 1))), (4, .int (x4_8 + (s_X8_cell 832 dr (((nI k) * 64) + (s_X8_cell 7 lf x3_8))))), (0, .ref cc), (1, .ref ch), (2, .int (nI v))]) hx hb dX1_placeBy_50 hl (k := 5) rfl (nI_1 k) (by decide) rfl (fun ls hl => ?_)
        refine lv_goto (tgt := 8) hx hb dX1_placeBy_53 (by decide) ?_
        exact ih5 (k + 1) (x4_8 + (s_X8_cell 832 dr (((nI k) * 64) + (s_X8_cell 7 lf x3_8)))) (if 6 < (x3_8 + (((nI v) >>> ((nI k) &&& 31)) &&& 1)) then 6 else x3_8 + (((nI v) >>> ((nI k) &&& 31)) &&& 1)) (by omega) (by omega) (by rw [← hv4, lp_X1_placeBy_8, if_neg c8]) ls (lv_sub hl [3, 4, 5, 1, 2, 0] rfl)
  exact L3 (ns + 2) 0 0 0 (by omega) (by omega) rfl ls (lv_sub hl [3, 4, 5, 2, 1, 0] rfl)
def zpc : Nat → Nat → Nat
  | 0, _ => 0
  | n + 1, v => v % 2 + zpc n (v / 2)
theorem zpc_le : ∀ (n m v : Nat), v < 2 ^ m → zpc n v ≤ m
  | 0, m, v, _ => Nat.zero_le _
  | n + 1, 0, v, h => by
    have h0 : v = 0 := by simpa using h
    subst h0
    rw [zpc]
    have := zpc_le n 0 0 (by decide)
    simpa using this
  | n + 1, m + 1, v, h => by
    rw [zpc]
    have := zpc_le n m (v / 2) (by rw [Nat.pow_succ] at h; omega)
    omega
theorem zshl1 : ∀ n, n < 13 → (1 : Int32) <<< (nI n &&& 31) = nI (2 ^ n) := by decide
theorem z_pow12 {n : Nat} (h : n ≤ 12) : 2 ^ n ≤ 4096 := Nat.pow_le_pow_right (by decide) h
def s_J6_bitCount_0f7a4 (i : Int32) : Int32 := (((((((i - (((i.toUInt32 >>> (Int32.toUInt32 1 &&& Int32.toUInt32 31)).toInt32) &&& 1431655765)) &&& 858993459) + ((((i - (((i.toUInt32 >>> (Int32.toUInt32 1 &&& Int32.toUInt32 31)).toInt32) &&& 1431655765)).toUInt32 >>> (Int32.toUInt32 2 &&& Int32.toUInt32 31)).toInt32) &&& 858993459)) + (((((i - (((i.toUInt32 >>> (Int32.toUInt32 1 &&& Int32.toUInt32 31)).toInt32) &&& 1431655765)) &&& 858993459) + ((((i - (((i.toUInt32 >>> (Int32.toUInt32 1 &&& Int32.toUInt32 31)).toInt32) &&& 1431655765)).toUInt32 >>> (Int32.toUInt32 2 &&& Int32.toUInt32 31)).toInt32) &&& 858993459)).toUInt32 >>> (Int32.toUInt32 4 &&& Int32.toUInt32 31)).toInt32)) &&& 252645135) + (((((((i - (((i.toUInt32 >>> (Int32.toUInt32 1 &&& Int32.toUInt32 31)).toInt32) &&& 1431655765)) &&& 858993459) + ((((i - (((i.toUInt32 >>> (Int32.toUInt32 1 &&& Int32.toUInt32 31)).toInt32) &&& 1431655765)).toUInt32 >>> (Int32.toUInt32 2 &&& Int32.toUInt32 31)).toInt32) &&& 858993459)) + (((((i - (((i.toUInt32 >>> (Int32.toUInt32 1 &&& Int32.toUInt32 31)).toInt32) &&& 1431655765)) &&& 858993459) + ((((i - (((i.toUInt32 >>> (Int32.toUInt32 1 &&& Int32.toUInt32 31)).toInt32) &&& 1431655765)).toUInt32 >>> (Int32.toUInt32 2 &&& Int32.toUInt32 31)).toInt32) &&& 858993459)).toUInt32 >>> (Int32.toUInt32 4 &&& Int32.toUInt32 31)).toInt32)) &&& 252645135).toUInt32 >>> (Int32.toUInt32 8 &&& Int32.toUInt32 31)).toInt32)) + ((((((((i - (((i.toUInt32 >>> (Int32.toUInt32 1 &&& Int32.toUInt32 31)).toInt32) &&& 1431655765)) &&& 858993459) + ((((i - (((i.toUInt32 >>> (Int32.toUInt32 1 &&& Int32.toUInt32 31)).toInt32) &&& 1431655765)).toUInt32 >>> (Int32.toUInt32 2 &&& Int32.toUInt32 31)).toInt32) &&& 858993459)) + (((((i - (((i.toUInt32 >>> (Int32.toUInt32 1 &&& Int32.toUInt32 31)).toInt32) &&& 1431655765)) &&& 858993459) + ((((i - (((i.toUInt32 >>> (Int32.toUInt32 1 &&& Int32.toUInt32 31)).toInt32) &&& 1431655765)).toUInt32 >>> (Int32.toUInt32 2 &&& Int32.toUInt32 31)).toInt32) &&& 858993459)).toUInt32 >>> (Int32.toUInt32 4 &&& Int32.toUInt32 31)).toInt32)) &&& 252645135) + (((((((i - (((i.toUInt32 >>> (Int32.toUInt32 1 &&& Int32.toUInt32 31)).toInt32) &&& 1431655765)) &&& 858993459) + ((((i - (((i.toUInt32 >>> (Int32.toUInt32 1 &&& Int32.toUInt32 31)).toInt32) &&& 1431655765)).toUInt32 >>> (Int32.toUInt32 2 &&& Int32.toUInt32 31)).toInt32) &&& 858993459)) + (((((i - (((i.toUInt32 >>> (Int32.toUInt32 1 &&& Int32.toUInt32 31)).toInt32) &&& 1431655765)) &&& 858993459) + ((((i - (((i.toUInt32 >>> (Int32.toUInt32 1 &&& Int32.toUInt32 31)).toInt32) &&& 1431655765)).toUInt32 >>> (Int32.toUInt32 2 &&& Int32.toUInt32 31)).toInt32) &&& 858993459)).toUInt32 >>> (Int32.toUInt32 4 &&& Int32.toUInt32 31)).toInt32)) &&& 252645135).toUInt32 >>> (Int32.toUInt32 8 &&& Int32.toUInt32 31)).toInt32)).toUInt32 >>> (Int32.toUInt32 16 &&& Int32.toUInt32 31)).toInt32)) &&& 63
abbrev rm_J6_bitCount_0f7a4 : Room := { frames := 0, cells := 0, slots := 0, locals := 0 }
set_option maxRecDepth 100000 in
set_option maxHeartbeats 4000000 in
theorem c_J6_bitCount_0f7a4 (l : Launch) (D : va_G) (cI cZ : ClassId) (i : Int32) : Met l yJ6_bitCount_0f7a4 [.code yJ6_bitCount_0f7a4 cJ6_bitCount_0f7a4 1 (some .int)] rm_J6_bitCount_0f7a4 (PcR D cI cZ [.int i] []) (QcR (some (.int (s_J6_bitCount_0f7a4 i)))) 0 0 zN := by
  refine mtRi (by decide) (Nat.le_of_ble_eq_true rfl) (fun p e s m args below meth c Q S hT hP hret ls hl => ?_)
  have S : CallFix p m c cJ6_bitCount_0f7a4 1 s args zt RJ6 := S
  obtain ⟨hx, hb, hml, hown, hts⟩ := id S
  have hl : lv_has ls 1 [(0, .int i)] := hl
  refine lv_iload_n hx hb dJ6_bitCount_0f7a4_0 rfl (lv_at hl 0 rfl) ?_
  refine lv_iload_n hx hb dJ6_bitCount_0f7a4_1 rfl (lv_at hl 0 rfl) ?_
  refine lv_iconst (v := 1) hx hb dJ6_bitCount_0f7a4_2 (by decide) ?_
  refine lv_iushr (v := (i.toUInt32 >>> (Int32.toUInt32 1 &&& Int32.toUInt32 31)).toInt32) hx hb dJ6_bitCount_0f7a4_3 rfl ?_
  refine lv_ldcw (v := 1431655765) hx hb hown (hts _ ct_RJ6_265) dJ6_bitCount_0f7a4_4 ?_
  refine lv_iand hx hb dJ6_bitCount_0f7a4_7 ?_
  refine lv_isub hx hb dJ6_bitCount_0f7a4_8 ?_
  refine lv_istore_n (lv' := [(0, .int (i - (((i.toUInt32 >>> (Int32.toUInt32 1 &&& Int32.toUInt32 31)).toInt32) &&& 1431655765)))]) hx hb dJ6_bitCount_0f7a4_9 rfl hl (by decide) rfl (fun ls hl => ?_)
  refine lv_iload_n hx hb dJ6_bitCount_0f7a4_10 rfl (lv_at hl 0 rfl) ?_
  refine lv_ldcw (v := 858993459) hx hb hown (hts _ ct_RJ6_266) dJ6_bitCount_0f7a4_11 ?_
  refine lv_iand hx hb dJ6_bitCount_0f7a4_14 ?_
  refine lv_iload_n hx hb dJ6_bitCount_0f7a4_15 rfl (lv_at hl 0 rfl) ?_
  refine lv_iconst (v := 2) hx hb dJ6_bitCount_0f7a4_16 (by decide) ?_
  refine lv_iushr (v := ((i - (((i.toUInt32 >>> (Int32.toUInt32 1 &&& Int32.toUInt32 31)).toInt32) &&& 1431655765)).toUInt32 >>> (Int32.toUInt32 2 &&& Int32.toUInt32 31)).toInt32) hx hb dJ6_bitCount_0f7a4_17 rfl ?_
  refine lv_ldcw (v := 858993459) hx hb hown (hts _ ct_RJ6_266) dJ6_bitCount_0f7a4_18 ?_
  refine lv_iand hx hb dJ6_bitCount_0f7a4_21 ?_
  refine lv_iadd hx hb dJ6_bitCount_0f7a4_22 ?_
  refine lv_istore_n (lv' := [(0, .int (((i - (((i.toUInt32 >>> (Int32.toUInt32 1 &&& Int32.toUInt32 31)).toInt32) &&& 1431655765)) &&& 858993459) + ((((i - (((i.toUInt32 >>> (Int32.toUInt32 1 &&& Int32.toUInt32 31)).toInt32) &&& 1431655765)).toUInt32 >>> (Int32.toUInt32 2 &&& Int32.toUInt32 31)).toInt32) &&& 858993459)))]) hx hb dJ6_bitCount_0f7a4_23 rfl hl (by decide) rfl (fun ls hl => ?_)
  refine lv_iload_n hx hb dJ6_bitCount_0f7a4_24 rfl (lv_at hl 0 rfl) ?_
  refine lv_iload_n hx hb dJ6_bitCount_0f7a4_25 rfl (lv_at hl 0 rfl) ?_
  refine lv_iconst (v := 4) hx hb dJ6_bitCount_0f7a4_26 (by decide) ?_
  refine lv_iushr (v := ((((i - (((i.toUInt32 >>> (Int32.toUInt32 1 &&& Int32.toUInt32 31)).toInt32) &&& 1431655765)) &&& 858993459) + ((((i - (((i.toUInt32 >>> (Int32.toUInt32 1 &&& Int32.toUInt32 31)).toInt32) &&& 1431655765)).toUInt32 >>> (Int32.toUInt32 2 &&& Int32.toUInt32 31)).toInt32) &&& 858993459)).toUInt32 >>> (Int32.toUInt32 4 &&& Int32.toUInt32 31)).toInt32) hx hb dJ6_bitCount_0f7a4_27 rfl ?_
  refine lv_iadd hx hb dJ6_bitCount_0f7a4_28 ?_
  refine lv_ldcw (v := 252645135) hx hb hown (hts _ ct_RJ6_267) dJ6_bitCount_0f7a4_29 ?_
  refine lv_iand hx hb dJ6_bitCount_0f7a4_32 ?_
  refine lv_istore_n (lv' := [(0, .int (((((i - (((i.toUInt32 >>> (Int32.toUInt32 1 &&& Int32.toUInt32 31)).toInt32) &&& 1431655765)) &&& 858993459) + ((((i - (((i.toUInt32 >>> (Int32.toUInt32 1 &&& Int32.toUInt32 31)).toInt32) &&& 1431655765)).toUInt32 >>> (Int32.toUInt32 2 &&& Int32.toUInt32 31)).toInt32) &&& 858993459)) + (((((i - (((i.toUInt32 >>> (Int32.toUInt32 1 &&& Int32.toUInt32 31)).toInt32) &&& 1431655765)) &&& 858993459) + ((((i - (((i.toUInt32 >>> (Int32.toUInt32 1 &&& Int32.toUInt32 31)).toInt32) &&& 1431655765)).toUInt32 >>> (Int32.toUInt32 2 &&& Int32.toUInt32 31)).toInt32) &&& 858993459)).toUInt32 >>> (Int32.toUInt32 4 &&& Int32.toUInt32 31)).toInt32)) &&& 252645135))]) hx hb dJ6_bitCount_0f7a4_33 rfl hl (by decide) rfl (fun ls hl => ?_)
  refine lv_iload_n hx hb dJ6_bitCount_0f7a4_34 rfl (lv_at hl 0 rfl) ?_
  refine lv_iload_n hx hb dJ6_bitCount_0f7a4_35 rfl (lv_at hl 0 rfl) ?_
  refine lv_bipush (v := 8) hx hb dJ6_bitCount_0f7a4_36 (by decide) ?_
  refine lv_iushr (v := ((((((i - (((i.toUInt32 >>> (Int32.toUInt32 1 &&& Int32.toUInt32 31)).toInt32) &&& 1431655765)) &&& 858993459) + ((((i - (((i.toUInt32 >>> (Int32.toUInt32 1 &&& Int32.toUInt32 31)).toInt32) &&& 1431655765)).toUInt32 >>> (Int32.toUInt32 2 &&& Int32.toUInt32 31)).toInt32) &&& 858993459)) + (((((i - (((i.toUInt32 >>> (Int32.toUInt32 1 &&& Int32.toUInt32 31)).toInt32) &&& 1431655765)) &&& 858993459) + ((((i - (((i.toUInt32 >>> (Int32.toUInt32 1 &&& Int32.toUInt32 31)).toInt32) &&& 1431655765)).toUInt32 >>> (Int32.toUInt32 2 &&& Int32.toUInt32 31)).toInt32) &&& 858993459)).toUInt32 >>> (Int32.toUInt32 4 &&& Int32.toUInt32 31)).toInt32)) &&& 252645135).toUInt32 >>> (Int32.toUInt32 8 &&& Int32.toUInt32 31)).toInt32) hx hb dJ6_bitCount_0f7a4_38 rfl ?_
  refine lv_iadd hx hb dJ6_bitCount_0f7a4_39 ?_
  refine lv_istore_n (lv' := [(0, .int ((((((i - (((i.toUInt32 >>> (Int32.toUInt32 1 &&& Int32.toUInt32 31)).toInt32) &&& 1431655765)) &&& 858993459) + ((((i - (((i.toUInt32 >>> (Int32.toUInt32 1 &&& Int32.toUInt32 31)).toInt32) &&& 1431655765)).toUInt32 >>> (Int32.toUInt32 2 &&& Int32.toUInt32 31)).toInt32) &&& 858993459)) + (((((i - (((i.toUInt32 >>> (Int32.toUInt32 1 &&& Int32.toUInt32 31)).toInt32) &&& 1431655765)) &&& 858993459) + ((((i - (((i.toUInt32 >>> (Int32.toUInt32 1 &&& Int32.toUInt32 31)).toInt32) &&& 1431655765)).toUInt32 >>> (Int32.toUInt32 2 &&& Int32.toUInt32 31)).toInt32) &&& 858993459)).toUInt32 >>> (Int32.toUInt32 4 &&& Int32.toUInt32 31)).toInt32)) &&& 252645135) + (((((((i - (((i.toUInt32 >>> (Int32.toUInt32 1 &&& Int32.toUInt32 31)).toInt32) &&& 1431655765)) &&& 858993459) + ((((i - (((i.toUInt32 >>> (Int32.toUInt32 1 &&& Int32.toUInt32 31)).toInt32) &&& 1431655765)).toUInt32 >>> (Int32.toUInt32 2 &&& Int32.toUInt32 31)).toInt32) &&& 858993459)) + (((((i - (((i.toUInt32 >>> (Int32.toUInt32 1 &&& Int32.toUInt32 31)).toInt32) &&& 1431655765)) &&& 858993459) + ((((i - (((i.toUInt32 >>> (Int32.toUInt32 1 &&& Int32.toUInt32 31)).toInt32) &&& 1431655765)).toUInt32 >>> (Int32.toUInt32 2 &&& Int32.toUInt32 31)).toInt32) &&& 858993459)).toUInt32 >>> (Int32.toUInt32 4 &&& Int32.toUInt32 31)).toInt32)) &&& 252645135).toUInt32 >>> (Int32.toUInt32 8 &&& Int32.toUInt32 31)).toInt32)))]) hx hb dJ6_bitCount_0f7a4_40 rfl hl (by decide) rfl (fun ls hl => ?_)
  refine lv_iload_n hx hb dJ6_bitCount_0f7a4_41 rfl (lv_at hl 0 rfl) ?_
  refine lv_iload_n hx hb dJ6_bitCount_0f7a4_42 rfl (lv_at hl 0 rfl) ?_
  refine lv_bipush (v := 16) hx hb dJ6_bitCount_0f7a4_43 (by decide) ?_
  refine lv_iushr (v := (((((((i - (((i.toUInt32 >>> (Int32.toUInt32 1 &&& Int32.toUInt32 31)).toInt32) &&& 1431655765)) &&& 858993459) + ((((i - (((i.toUInt32 >>> (Int32.toUInt32 1 &&& Int32.toUInt32 31)).toInt32) &&& 1431655765)).toUInt32 >>> (Int32.toUInt32 2 &&& Int32.toUInt32 31)).toInt32) &&& 858993459)) + (((((i - (((i.toUInt32 >>> (Int32.toUInt32 1 &&& Int32.toUInt32 31)).toInt32) &&& 1431655765)) &&& 858993459) + ((((i - (((i.toUInt32 >>> (Int32.toUInt32 1 &&& Int32.toUInt32 31)).toInt32) &&& 1431655765)).toUInt32 >>> (Int32.toUInt32 2 &&& Int32.toUInt32 31)).toInt32) &&& 858993459)).toUInt32 >>> (Int32.toUInt32 4 &&& Int32.toUInt32 31)).toInt32)) &&& 252645135) + (((((((i - (((i.toUInt32 >>> (Int32.toUInt32 1 &&& Int32.toUInt32 31)).toInt32) &&& 1431655765)) &&& 858993459) + ((((i - (((i.toUInt32 >>> (Int32.toUInt32 1 &&& Int32.toUInt32 31)).toInt32) &&& 1431655765)).toUInt32 >>> (Int32.toUInt32 2 &&& Int32.toUInt32 31)).toInt32) &&& 858993459)) + (((((i - (((i.toUInt32 >>> (Int32.toUInt32 1 &&& Int32.toUInt32 31)).toInt32) &&& 1431655765)) &&& 858993459) + ((((i - (((i.toUInt32 >>> (Int32.toUInt32 1 &&& Int32.toUInt32 31)).toInt32) &&& 1431655765)).toUInt32 >>> (Int32.toUInt32 2 &&& Int32.toUInt32 31)).toInt32) &&& 858993459)).toUInt32 >>> (Int32.toUInt32 4 &&& Int32.toUInt32 31)).toInt32)) &&& 252645135).toUInt32 >>> (Int32.toUInt32 8 &&& Int32.toUInt32 31)).toInt32)).toUInt32 >>> (Int32.toUInt32 16 &&& Int32.toUInt32 31)).toInt32) hx hb dJ6_bitCount_0f7a4_45 rfl ?_
  refine lv_iadd hx hb dJ6_bitCount_0f7a4_46 ?_
  refine lv_istore_n (lv' := [(0, .int (((((((i - (((i.toUInt32 >>> (Int32.toUInt32 1 &&& Int32.toUInt32 31)).toInt32) &&& 1431655765)) &&& 858993459) + ((((i - (((i.toUInt32 >>> (Int32.toUInt32 1 &&& Int32.toUInt32 31)).toInt32) &&& 1431655765)).toUInt32 >>> (Int32.toUInt32 2 &&& Int32.toUInt32 31)).toInt32) &&& 858993459)) + (((((i - (((i.toUInt32 >>> (Int32.toUInt32 1 &&& Int32.toUInt32 31)).toInt32) &&& 1431655765)) &&& 858993459) + ((((i - (((i.toUInt32 >>> (Int32.toUInt32 1 &&& Int32.toUInt32 31)).toInt32) &&& 1431655765)).toUInt32 >>> (Int32.toUInt32 2 &&& Int32.toUInt32 31)).toInt32) &&& 858993459)).toUInt32 >>> (Int32.toUInt32 4 &&& Int32.toUInt32 31)).toInt32)) &&& 252645135) + (((((((i - (((i.toUInt32 >>> (Int32.toUInt32 1 &&& Int32.toUInt32 31)).toInt32) &&& 1431655765)) &&& 858993459) + ((((i - (((i.toUInt32 >>> (Int32.toUInt32 1 &&& Int32.toUInt32 31)).toInt32) &&& 1431655765)).toUInt32 >>> (Int32.toUInt32 2 &&& Int32.toUInt32 31)).toInt32) &&& 858993459)) + (((((i - (((i.toUInt32 >>> (Int32.toUInt32 1 &&& Int32.toUInt32 31)).toInt32) &&& 1431655765)) &&& 858993459) + ((((i - (((i.toUInt32 >>> (Int32.toUInt32 1 &&& Int32.toUInt32 31)).toInt32) &&& 1431655765)).toUInt32 >>> (Int32.toUInt32 2 &&& Int32.toUInt32 31)).toInt32) &&& 858993459)).toUInt32 >>> (Int32.toUInt32 4 &&& Int32.toUInt32 31)).toInt32)) &&& 252645135).toUInt32 >>> (Int32.toUInt32 8 &&& Int32.toUInt32 31)).toInt32)) + ((((((((i - (((i.toUInt32 >>> (Int32.toUInt32 1 &&& Int32.toUInt32 31)).toInt32) &&& 1431655765)) &&& 858993459) + ((((i - (((i.toUInt32 >>> (Int32.toUInt32 1 &&& Int32.toUInt32 31)).toInt32) &&& 1431655765)).toUInt32 >>> (Int32.toUInt32 2 &&& Int32.toUInt32 31)).toInt32) &&& 858993459)) + (((((i - (((i.toUInt32 >>> (Int32.toUInt32 1 &&& Int32.toUInt32 31)).toInt32) &&& 1431655765)) &&& 858993459) + ((((i - (((i.toUInt32 >>> (Int32.toUInt32 1 &&& Int32.toUInt32 31)).toInt32) &&& 1431655765)).toUInt32 >>> (Int32.toUInt32 2 &&& Int32.toUInt32 31)).toInt32) &&& 858993459)).toUInt32 >>> (Int32.toUInt32 4 &&& Int32.toUInt32 31)).toInt32)) &&& 252645135) + (((((((i - (((i.toUInt32 >>> (Int32.toUInt32 1 &&& Int32.toUInt32 31)).toInt32) &&& 1431655765)) &&& 858993459) + ((((i - (((i.toUInt32 >>> (Int32.toUInt32 1 &&& Int32.toUInt32 31)).toInt32) &&& 1431655765)).toUInt32 >>> (Int32.toUInt32 2 &&& Int32.toUInt32 31)).toInt32) &&& 858993459)) + (((((i - (((i.toUInt32 >>> (Int32.toUInt32 1 &&& Int32.toUInt32 31)).toInt32) &&& 1431655765)) &&& 858993459) + ((((i - (((i.toUInt32 >>> (Int32.toUInt32 1 &&& Int32.toUInt32 31)).toInt32) &&& 1431655765)).toUInt32 >>> (Int32.toUInt32 2 &&& Int32.toUInt32 31)).toInt32) &&& 858993459)).toUInt32 >>> (Int32.toUInt32 4 &&& Int32.toUInt32 31)).toInt32)) &&& 252645135).toUInt32 >>> (Int32.toUInt32 8 &&& Int32.toUInt32 31)).toInt32)).toUInt32 >>> (Int32.toUInt32 16 &&& Int32.toUInt32 31)).toInt32)))]) hx hb dJ6_bitCount_0f7a4_47 rfl hl (by decide) rfl (fun ls hl => ?_)
  refine lv_iload_n hx hb dJ6_bitCount_0f7a4_48 rfl (lv_at hl 0 rfl) ?_
  refine lv_bipush (v := 63) hx hb dJ6_bitCount_0f7a4_49 (by decide) ?_
  refine lv_iand hx hb dJ6_bitCount_0f7a4_51 ?_
  exact hret _ _ _ dJ6_bitCount_0f7a4_52 (by unfold s_J6_bitCount_0f7a4; rfl)
theorem zbc0 : ∀ a, a < 64 → ∀ b, b < 64 → s_J6_bitCount_0f7a4 (nI (64 * a + b)) = nI (zpc 12 (64 * a + b)) := by decide +kernel
theorem zbc (v : Nat) (h : v < 4096) : s_J6_bitCount_0f7a4 (nI v) = nI (zpc 12 v) := by
  have := zbc0 (v / 64) (by omega) (v % 64) (by omega)
  rwa [Nat.div_add_mod] at this
abbrev rm_X1_chance : Room := { frames := 1, cells := 0, slots := 0, locals := 24 }
set_option maxRecDepth 100000 in
set_option maxHeartbeats 4000000 in
theorem c_X1_chance (l : Launch) (D : va_G) (cI cZ : ClassId) (cc cl : Nat) (lf : Nat → Int32) (ch cd ns : Nat) (dr : Nat → Int32) (v : Nat) (cc_ : Int32) (hns : ns ≤ 12) (hv : v < 2 ^ ns) : Met l yX1_chance [.code yX1_chance cX1_chance 5 (some .long)] rm_X1_chance (PcR D cI cZ [.ref cc, .ref ch, .int (nI v), .int cc_] [(cc, .inr (1, [.ref cl])), (cl, .inl (cI, 7, .inl lf)), (ch, .inr (2, [.ref cd, .int (nI ns)])), (cd, .inl (cI, 832, .inl dr))]) (QcR (some (.long ((lp_X1_power_5 cc_ (zpc 12 v) ((zpc 12 v) + 1) 0 1) * (lp_X1_power_5 (10 - cc_) (ns - zpc 12 v) ((ns - zpc 12 v) + 1) 0 1))))) 0 0 zN := by
  refine mtRl (by decide) (Nat.le_of_ble_eq_true rfl) (fun p e s m args below meth c Q S hT hP hret ls hl => ?_)
  have S : CallFix p m c cX1_chance 5 s args zt RX1 := S
  obtain ⟨hx, hb, hml, hown, hts⟩ := id S
  have hl : lv_has ls 5 [(0, .ref cc), (1, .ref ch), (2, .int (nI v)), (3, .int cc_)] := hl
  refine lv_iload_n hx hb dX1_chance_0 rfl (lv_at hl 2 rfl) ?_
  refine kRS (st1 := [.int (s_J6_bitCount_0f7a4 (nI v))]) S hT hP (c_J6_bitCount_0f7a4 l D cI cZ (nI v)) rfl rfl mw_J6_bitCount_0f7a4 lk_RX1_62 ⟨rfl, rfl, (Nat.le_of_ble_eq_true rfl), (Nat.le_of_ble_eq_true rfl), (Nat.le_of_ble_eq_true rfl), (Nat.le_of_ble_eq_true rfl)⟩ [] rfl hl.1 (Nat.le_of_ble_eq_true rfl) dX1_chance_1 ?_
  refine zI (y := nI (zpc 12 v)) (zbc v (Nat.lt_of_lt_of_le hv (z_pow12 hns))) ?_
  refine lv_istore (lv' := [(4, .int (nI (zpc 12 v))), (0, .ref cc), (1, .ref ch), (2, .int (nI v)), (3, .int cc_)]) hx hb dX1_chance_4 hl (by decide) rfl (fun ls hl => ?_)
  refine lv_iload_n hx hb dX1_chance_6 rfl (lv_at hl 4 rfl) ?_
  refine lv_iload hx hb dX1_chance_7 (lv_at hl 0 rfl) ?_
  refine kRS (st1 := [.long (lp_X1_power_5 cc_ (zpc 12 v) ((zpc 12 v) + 1) 0 1)]) S hT hP (c_X1_power l D cI cZ cc_ (zpc 12 v) (Nat.le_trans (zpc_le 12 ns v hv) hns)) rfl rfl mw_X1_power lk_RX1_34 ⟨rfl, rfl, (Nat.le_of_ble_eq_true rfl), (Nat.le_of_ble_eq_true rfl), (Nat.le_of_ble_eq_true rfl), (Nat.le_of_ble_eq_true rfl)⟩ [] rfl hl.1 (Nat.le_of_ble_eq_true rfl) dX1_chance_9 ?_
  refine lv_bipush (v := 10) hx hb dX1_chance_12 (by decide) ?_
  refine lv_iload_n hx hb dX1_chance_14 rfl (lv_at hl 4 rfl) ?_
  refine lv_isub hx hb dX1_chance_15 ?_
  refine lv_aload_n hx hb dX1_chance_16 rfl (lv_at hl 2 rfl) ?_
  refine kRV (q0 := 2) (st1 := [.int (nI ns), .int (10 - cc_), .long (lp_X1_power_5 cc_ (zpc 12 v) ((zpc 12 v) + 1) 0 1)]) S hT hP (c_X2_sneezes l D cI cZ ch cd ns dr) rfl rfl mw_X2_sneezes lk_RX1_29 ⟨rfl, rfl, (Nat.le_of_ble_eq_true rfl), (Nat.le_of_ble_eq_true rfl), (Nat.le_of_ble_eq_true rfl), (Nat.le_of_ble_eq_true rfl)⟩ [2, 3] rfl rfl rfl hl.1 (Nat.le_of_ble_eq_true rfl) dX1_chance_17 ?_
  refine lv_iload hx hb dX1_chance_20 (lv_at hl 0 rfl) ?_
  refine lv_isub hx hb dX1_chance_22 ?_
  refine zI (y := nI (ns - zpc 12 v)) (pk_sub (zpc_le 12 ns v hv)) ?_
  refine kRS (st1 := [.long (lp_X1_power_5 (10 - cc_) (ns - zpc 12 v) ((ns - zpc 12 v) + 1) 0 1), .long (lp_X1_power_5 cc_ (zpc 12 v) ((zpc 12 v) + 1) 0 1)]) S hT hP (c_X1_power l D cI cZ (10 - cc_) (ns - zpc 12 v) (Nat.le_trans (Nat.sub_le _ _) hns)) rfl rfl mw_X1_power lk_RX1_34 ⟨rfl, rfl, (Nat.le_of_ble_eq_true rfl), (Nat.le_of_ble_eq_true rfl), (Nat.le_of_ble_eq_true rfl), (Nat.le_of_ble_eq_true rfl)⟩ [] rfl hl.1 (Nat.le_of_ble_eq_true rfl) dX1_chance_23 ?_
  refine lv_lmul hx hb dX1_chance_26 ?_
  exact hret _ _ _ dX1_chance_27 rfl
def lp_X1_landing_6 (lf : Nat → Int32) (ns : Nat) (dr : Nat → Int32) (cc_ : Int32) (fr : Int32) (to : Int32) : Nat → Nat → Int64 → Int64
  | 0, _, x5_6 => x5_6
  | fu + 1, k, x5_6 => if 4096 ≤ nI k then x5_6 else (if (nI (2 ^ ns)) ≤ nI k then x5_6 else (if (s_X8_within (lp_X1_placeBy_8 lf ns dr k (ns + 2) 0 0 0) fr to) = 0 then lp_X1_landing_6 lf ns dr cc_ fr to fu (k + 1) (x5_6 + 0) else lp_X1_landing_6 lf ns dr cc_ fr to fu (k + 1) (x5_6 + ((lp_X1_power_5 cc_ (zpc 12 k) ((zpc 12 k) + 1) 0 1) * (lp_X1_power_5 (10 - cc_) (ns - zpc 12 k) ((ns - zpc 12 k) + 1) 0 1)))))
abbrev rm_X1_landing : Room := { frames := 3, cells := 0, slots := 0, locals := 68 }
set_option maxRecDepth 100000 in
set_option maxHeartbeats 4000000 in
theorem c_X1_landing (l : Launch) (D : va_G) (cI cZ : ClassId) (cc cl : Nat) (lf : Nat → Int32) (ch cd ns : Nat) (dr : Nat → Int32) (cc_ fr to : Int32) (hns : ns ≤ 12) : Met l yX1_landing [.code yX1_landing cX1_landing 8 (some .long)] rm_X1_landing (PcR D cI cZ [.ref cc, .ref ch, .int cc_, .int fr, .int to] [(cc, .inr (1, [.ref cl])), (cl, .inl (cI, 7, .inl lf)), (ch, .inr (2, [.ref cd, .int (nI ns)])), (cd, .inl (cI, 832, .inl dr))]) (QcR (some (.long (lp_X1_landing_6 lf ns dr cc_ fr to (2 ^ ns + 1) 0 0)))) 0 0 zN := by
  refine mtRl (by decide) (Nat.le_of_ble_eq_true rfl) (fun p e s m args below meth c Q S hT hP hret ls hl => ?_)
  have S : CallFix p m c cX1_landing 8 s args zt RX1 := S
  obtain ⟨hx, hb, hml, hown, hts⟩ := id S
  have hl : lv_has ls 8 [(0, .ref cc), (1, .ref ch), (2, .int cc_), (3, .int fr), (4, .int to)] := hl
  have hp12 := z_pow12 hns
  have hp1 := Nat.two_pow_pos ns
  refine lv_lconst (v := 0) hx hb dX1_landing_0 (by decide) ?_
  refine lv_lstore (lv' := [(5, .long 0), (0, .ref cc), (1, .ref ch), (2, .int cc_), (3, .int fr), (4, .int to)]) hx hb dX1_landing_1 hl (by decide) rfl (fun ls hl => ?_)
  refine lv_iconst (v := 0) hx hb dX1_landing_3 (by decide) ?_
  refine lv_istore (lv' := [(7, .int 0), (5, .long 0), (0, .ref cc), (1, .ref ch), (2, .int cc_), (3, .int fr), (4, .int to)]) hx hb dX1_landing_4 hl (by decide) rfl (fun ls hl => ?_)
  have X2 : ∀ (y1 : Int64), (lp_X1_landing_6 lf ns dr cc_ fr to (2 ^ ns + 1) 0 0) = y1 → ∀ (ls : Array Slot), lv_has ls 8 [(0, .ref cc), (1, .ref ch), (2, .int cc_), (3, .int fr), (4, .int to), (5, .long y1)] → W p l e rm_X1_landing s m args below meth c s.heap [] 0 0 Q (F0 m 64 ls []) := by
    intro y1 ey1 ls hl
    subst ey1
    refine lv_lload hx hb dX1_landing_64 (lv_at hl 5 rfl) ?_
    exact hret _ _ _ dX1_landing_66 rfl
  have L3 : ∀ (n6 : Nat) (k : Nat) (x5_6 : Int64), 2 ^ ns - k < n6 → (k ≤ 2 ^ ns) → lp_X1_landing_6 lf ns dr cc_ fr to n6 k x5_6 = lp_X1_landing_6 lf ns dr cc_ fr to (2 ^ ns + 1) 0 0 → ∀ (ls : Array Slot), lv_has ls 8 [(0, .ref cc), (1, .ref ch), (2, .int cc_), (3, .int fr), (4, .int to), (5, .long x5_6), (7, .int (nI k))] → W p l e rm_X1_landing s m args below meth c s.heap [] 0 0 Q (F0 m 6 ls []) := by
    intro n6
    induction n6 with
    | zero => intro k x5_6 hm; exact absurd hm (Nat.not_lt_zero _)
    | succ n6 ih5 =>
      intro k x5_6 hm7 hk hv4 ls hl
      refine lv_iload hx hb dX1_landing_6 (lv_at hl 6 rfl) ?_
      refine lv_sipush (v := 4096) hx hb dX1_landing_8 (by decide) ?_
      refine lv_icmp_ge (tgt := 64) hx hb dX1_landing_11 (by decide) (fun c8 => ?_) (fun c8 => ?_)
      · have nc8 := zNle (a := 4096) (b := k) c8 (by omega) (by omega)
        exact X2 _ (by rw [← hv4, lp_X1_landing_6, if_pos c8]) ls (lv_sub hl [0, 1, 2, 3, 4, 5] rfl)
      · have nc8 := zNnle (a := 4096) (b := k) c8 (by omega) (by omega)
        refine lv_iload hx hb dX1_landing_14 (lv_at hl 6 rfl) ?_
        refine lv_iconst (v := 1) hx hb dX1_landing_16 (by decide) ?_
        refine lv_aload_n hx hb dX1_landing_17 rfl (lv_at hl 1 rfl) ?_
        refine kRV (q0 := 2) (st1 := [.int (nI ns), .int 1, .int (nI k)]) S hT hP (c_X2_sneezes l D cI cZ ch cd ns dr) rfl rfl mw_X2_sneezes lk_RX1_29 ⟨rfl, rfl, (Nat.le_of_ble_eq_true rfl), (Nat.le_of_ble_eq_true rfl), (Nat.le_of_ble_eq_true rfl), (Nat.le_of_ble_eq_true rfl)⟩ [2, 3] rfl rfl rfl hl.1 (Nat.le_of_ble_eq_true rfl) dX1_landing_18 ?_
        refine lv_ishl hx hb dX1_landing_21 ?_
        refine zI (y := nI (2 ^ ns)) (zshl1 ns (by omega)) ?_
        refine lv_icmp_ge (tgt := 64) hx hb dX1_landing_22 (by decide) (fun c9 => ?_) (fun c9 => ?_)
        · have nc9 := zNle (a := (2 ^ ns)) (b := k) c9 (by omega) (by omega)
          exact X2 _ (by rw [← hv4, lp_X1_landing_6, if_neg c8, if_pos c9]) ls (lv_sub hl [0, 1, 2, 3, 4, 5] rfl)
        · have nc9 := zNnle (a := (2 ^ ns)) (b := k) c9 (by omega) (by omega)
          refine lv_lload hx hb dX1_landing_25 (lv_at hl 5 rfl) ?_
          refine lv_aload_n hx hb dX1_landing_27 rfl (lv_at hl 0 rfl) ?_
          refine lv_aload_n hx hb dX1_landing_28 rfl (lv_at hl 1 rfl) ?_
          refine lv_iload hx hb dX1_landing_29 (lv_at hl 6 rfl) ?_
          refine kRV (q0 := 0) (st1 := [.int (lp_X1_placeBy_8 lf ns dr k (ns + 2) 0 0 0), .long x5_6]) S hT hP (c_X1_placeBy l D cI cZ cc cl lf ch cd ns dr k (by first | assumption | decide | omega)) rfl rfl mw_X1_placeBy lk_RX1_38 ⟨rfl, rfl, (Nat.le_of_ble_eq_true rfl), (Nat.le_of_ble_eq_true rfl), (Nat.le_of_ble_eq_true rfl), (Nat.le_of_ble_eq_true rfl)⟩ [0, 1, 2, 3] rfl rfl rfl hl.1 (Nat.le_of_ble_eq_true rfl) dX1_landing_31 ?_
          refine lv_iload_n hx hb dX1_landing_34 rfl (lv_at hl 3 rfl) ?_
          refine lv_iload hx hb dX1_landing_35 (lv_at hl 4 rfl) ?_
          refine kRM (st1 := [.int (s_X8_within (lp_X1_placeBy_8 lf ns dr k (ns + 2) 0 0 0) fr to), .long x5_6]) S hT hP (c_X8_within l D cI cZ (lp_X1_placeBy_8 lf ns dr k (ns + 2) 0 0 0) fr to) rfl rfl mw_X8_within ln_RX1_42 ⟨rfl, rfl, (Nat.le_of_ble_eq_true rfl), (Nat.le_of_ble_eq_true rfl), (Nat.le_of_ble_eq_true rfl), (Nat.le_of_ble_eq_true rfl)⟩ [] rfl hl.1 (Nat.le_of_ble_eq_true rfl) dX1_landing_37 ?_
          refine lv_if_eq (tgt := 54) hx hb dX1_landing_40 (by decide) (fun c10 => ?_) (fun c10 => ?_)
          · refine lv_lconst (v := 0) hx hb dX1_landing_54 (by decide) ?_
            refine lv_ladd hx hb dX1_landing_55 ?_
            refine lv_lstore (lv' := [(5, .long (x5_6 + 0)), (0, .ref cc), (1, .ref ch), (2, .int cc_), (3, .int fr), (4, .int to), (7, .int (nI k))]) hx hb dX1_landing_56 hl (by decide) rfl (fun ls hl => ?_)
            refine lv_iinc (v := nI (k + 1)) (lv' := [(7, .int (nI (k + 1))), (5, .long (x5_6 + 0)), (0, .ref cc), (1, .ref ch), (2, .int cc_), (3, .int fr), (4, .int to)]) hx hb dX1_landing_58 hl (k := 6) rfl (nI_1 k) (by decide) rfl (fun ls hl => ?_)
            refine lv_goto (tgt := 6) hx hb dX1_landing_61 (by decide) ?_
            exact ih5 (k + 1) (x5_6 + 0) (by omega) (by omega) (by rw [← hv4, lp_X1_landing_6, if_neg c8, if_neg c9, if_pos c10]) ls (lv_sub hl [2, 3, 4, 5, 6, 1, 0] rfl)
          · refine lv_aload_n hx hb dX1_landing_43 rfl (lv_at hl 0 rfl) ?_
            refine lv_aload_n hx hb dX1_landing_44 rfl (lv_at hl 1 rfl) ?_
            refine lv_iload hx hb dX1_landing_45 (lv_at hl 6 rfl) ?_
            refine lv_iload_n hx hb dX1_landing_47 rfl (lv_at hl 2 rfl) ?_
            refine kRV (q0 := 0) (st1 := [.long ((lp_X1_power_5 cc_ (zpc 12 k) ((zpc 12 k) + 1) 0 1) * (lp_X1_power_5 (10 - cc_) (ns - zpc 12 k) ((ns - zpc 12 k) + 1) 0 1)), .long x5_6]) S hT hP (c_X1_chance l D cI cZ cc cl lf ch cd ns dr k cc_ (by first | assumption | decide | omega) (by first | assumption | decide | omega)) rfl rfl mw_X1_chance lk_RX1_46 ⟨rfl, rfl, (Nat.le_of_ble_eq_true rfl), (Nat.le_of_ble_eq_true rfl), (Nat.le_of_ble_eq_true rfl), (Nat.le_of_ble_eq_true rfl)⟩ [0, 1, 2, 3] rfl rfl rfl hl.1 (Nat.le_of_ble_eq_true rfl) dX1_landing_48 ?_
            refine lv_goto (tgt := 55) hx hb dX1_landing_51 (by decide) ?_
            refine lv_ladd hx hb dX1_landing_55 ?_
            refine lv_lstore (lv' := [(5, .long (x5_6 + ((lp_X1_power_5 cc_ (zpc 12 k) ((zpc 12 k) + 1) 0 1) * (lp_X1_power_5 (10 - cc_) (ns - zpc 12 k) ((ns - zpc 12 k) + 1) 0 1)))), (0, .ref cc), (1, .ref ch), (2, .int cc_), (3, .int fr), (4, .int to), (7, .int (nI k))]) hx hb dX1_landing_56 hl (by decide) rfl (fun ls hl => ?_)
            refine lv_iinc (v := nI (k + 1)) (lv' := [(7, .int (nI (k + 1))), (5, .long (x5_6 + ((lp_X1_power_5 cc_ (zpc 12 k) ((zpc 12 k) + 1) 0 1) * (lp_X1_power_5 (10 - cc_) (ns - zpc 12 k) ((ns - zpc 12 k) + 1) 0 1)))), (0, .ref cc), (1, .ref ch), (2, .int cc_), (3, .int fr), (4, .int to)]) hx hb dX1_landing_58 hl (k := 6) rfl (nI_1 k) (by decide) rfl (fun ls hl => ?_)
            refine lv_goto (tgt := 6) hx hb dX1_landing_61 (by decide) ?_
            exact ih5 (k + 1) (x5_6 + ((lp_X1_power_5 cc_ (zpc 12 k) ((zpc 12 k) + 1) 0 1) * (lp_X1_power_5 (10 - cc_) (ns - zpc 12 k) ((ns - zpc 12 k) + 1) 0 1))) (by omega) (by omega) (by rw [← hv4, lp_X1_landing_6, if_neg c8, if_neg c9, if_neg c10]) ls (lv_sub hl [2, 3, 4, 5, 6, 1, 0] rfl)
  exact L3 (2 ^ ns + 1) 0 0 (by omega) (by omega) rfl ls (lv_sub hl [2, 3, 4, 5, 6, 1, 0] rfl)
def lp_X1_places_5 (lf : Nat → Int32) (ns : Nat) (dr : Nat → Int32) (cc_ : Int32) : Nat → Nat → Int64 → Int64
  | 0, _, x3_5 => x3_5
  | fu + 1, k, x3_5 => if 4096 ≤ nI k then x3_5 else (if (nI (2 ^ ns)) ≤ nI k then x3_5 else lp_X1_places_5 lf ns dr cc_ fu (k + 1) (x3_5 + ((Int32.toInt64 (lp_X1_placeBy_8 lf ns dr k (ns + 2) 0 0 0)) * ((lp_X1_power_5 cc_ (zpc 12 k) ((zpc 12 k) + 1) 0 1) * (lp_X1_power_5 (10 - cc_) (ns - zpc 12 k) ((ns - zpc 12 k) + 1) 0 1)))))
abbrev rm_X1_places : Room := { frames := 3, cells := 0, slots := 0, locals := 68 }
set_option maxRecDepth 100000 in
set_option maxHeartbeats 4000000 in
theorem c_X1_places (l : Launch) (D : va_G) (cI cZ : ClassId) (cc cl : Nat) (lf : Nat → Int32) (ch cd ns : Nat) (dr : Nat → Int32) (cc_ : Int32) (hns : ns ≤ 12) : Met l yX1_places [.code yX1_places cX1_places 6 (some .long)] rm_X1_places (PcR D cI cZ [.ref cc, .ref ch, .int cc_] [(cc, .inr (1, [.ref cl])), (cl, .inl (cI, 7, .inl lf)), (ch, .inr (2, [.ref cd, .int (nI ns)])), (cd, .inl (cI, 832, .inl dr))]) (QcR (some (.long (lp_X1_places_5 lf ns dr cc_ (2 ^ ns + 1) 0 0)))) 0 0 zN := by
  refine mtRl (by decide) (Nat.le_of_ble_eq_true rfl) (fun p e s m args below meth c Q S hT hP hret ls hl => ?_)
  have S : CallFix p m c cX1_places 6 s args zt RX1 := S
  obtain ⟨hx, hb, hml, hown, hts⟩ := id S
  have hl : lv_has ls 6 [(0, .ref cc), (1, .ref ch), (2, .int cc_)] := hl
  have hp12 := z_pow12 hns
  have hp1 := Nat.two_pow_pos ns
  refine lv_lconst (v := 0) hx hb dX1_places_0 (by decide) ?_
  refine lv_lstore_n (lv' := [(3, .long 0), (0, .ref cc), (1, .ref ch), (2, .int cc_)]) hx hb dX1_places_1 rfl hl (by decide) rfl (fun ls hl => ?_)
  refine lv_iconst (v := 0) hx hb dX1_places_2 (by decide) ?_
  refine lv_istore (lv' := [(5, .int 0), (3, .long 0), (0, .ref cc), (1, .ref ch), (2, .int cc_)]) hx hb dX1_places_3 hl (by decide) rfl (fun ls hl => ?_)
  have X2 : ∀ (y1 : Int64), (lp_X1_places_5 lf ns dr cc_ (2 ^ ns + 1) 0 0) = y1 → ∀ (ls : Array Slot), lv_has ls 6 [(0, .ref cc), (1, .ref ch), (2, .int cc_), (3, .long y1)] → W p l e rm_X1_places s m args below meth c s.heap [] 0 0 Q (F0 m 50 ls []) := by
    intro y1 ey1 ls hl
    subst ey1
    refine lv_lload_n hx hb dX1_places_50 rfl (lv_at hl 3 rfl) ?_
    exact hret _ _ _ dX1_places_51 rfl
  have L3 : ∀ (n6 : Nat) (k : Nat) (x3_5 : Int64), 2 ^ ns - k < n6 → (k ≤ 2 ^ ns) → lp_X1_places_5 lf ns dr cc_ n6 k x3_5 = lp_X1_places_5 lf ns dr cc_ (2 ^ ns + 1) 0 0 → ∀ (ls : Array Slot), lv_has ls 6 [(0, .ref cc), (1, .ref ch), (2, .int cc_), (3, .long x3_5), (5, .int (nI k))] → W p l e rm_X1_places s m args below meth c s.heap [] 0 0 Q (F0 m 5 ls []) := by
    intro n6
    induction n6 with
    | zero => intro k x3_5 hm; exact absurd hm (Nat.not_lt_zero _)
    | succ n6 ih5 =>
      intro k x3_5 hm7 hk hv4 ls hl
      refine lv_iload hx hb dX1_places_5 (lv_at hl 4 rfl) ?_
      refine lv_sipush (v := 4096) hx hb dX1_places_7 (by decide) ?_
      refine lv_icmp_ge (tgt := 50) hx hb dX1_places_10 (by decide) (fun c8 => ?_) (fun c8 => ?_)
      · have nc8 := zNle (a := 4096) (b := k) c8 (by omega) (by omega)
        exact X2 _ (by rw [← hv4, lp_X1_places_5, if_pos c8]) ls (lv_sub hl [0, 1, 2, 3] rfl)
      · have nc8 := zNnle (a := 4096) (b := k) c8 (by omega) (by omega)
        refine lv_iload hx hb dX1_places_13 (lv_at hl 4 rfl) ?_
        refine lv_iconst (v := 1) hx hb dX1_places_15 (by decide) ?_
        refine lv_aload_n hx hb dX1_places_16 rfl (lv_at hl 1 rfl) ?_
        refine kRV (q0 := 2) (st1 := [.int (nI ns), .int 1, .int (nI k)]) S hT hP (c_X2_sneezes l D cI cZ ch cd ns dr) rfl rfl mw_X2_sneezes lk_RX1_29 ⟨rfl, rfl, (Nat.le_of_ble_eq_true rfl), (Nat.le_of_ble_eq_true rfl), (Nat.le_of_ble_eq_true rfl), (Nat.le_of_ble_eq_true rfl)⟩ [2, 3] rfl rfl rfl hl.1 (Nat.le_of_ble_eq_true rfl) dX1_places_17 ?_
        refine lv_ishl hx hb dX1_places_20 ?_
        refine zI (y := nI (2 ^ ns)) (zshl1 ns (by omega)) ?_
        refine lv_icmp_ge (tgt := 50) hx hb dX1_places_21 (by decide) (fun c9 => ?_) (fun c9 => ?_)
        · have nc9 := zNle (a := (2 ^ ns)) (b := k) c9 (by omega) (by omega)
          exact X2 _ (by rw [← hv4, lp_X1_places_5, if_neg c8, if_pos c9]) ls (lv_sub hl [0, 1, 2, 3] rfl)
        · have nc9 := zNnle (a := (2 ^ ns)) (b := k) c9 (by omega) (by omega)
          refine lv_lload_n hx hb dX1_places_24 rfl (lv_at hl 3 rfl) ?_
          refine lv_aload_n hx hb dX1_places_25 rfl (lv_at hl 0 rfl) ?_
          refine lv_aload_n hx hb dX1_places_26 rfl (lv_at hl 1 rfl) ?_
          refine lv_iload hx hb dX1_places_27 (lv_at hl 4 rfl) ?_
          refine kRV (q0 := 0) (st1 := [.int (lp_X1_placeBy_8 lf ns dr k (ns + 2) 0 0 0), .long x3_5]) S hT hP (c_X1_placeBy l D cI cZ cc cl lf ch cd ns dr k (by first | assumption | decide | omega)) rfl rfl mw_X1_placeBy lk_RX1_38 ⟨rfl, rfl, (Nat.le_of_ble_eq_true rfl), (Nat.le_of_ble_eq_true rfl), (Nat.le_of_ble_eq_true rfl), (Nat.le_of_ble_eq_true rfl)⟩ [0, 1, 2, 3] rfl rfl rfl hl.1 (Nat.le_of_ble_eq_true rfl) dX1_places_29 ?_
          refine lv_i2l (v := Int32.toInt64 (lp_X1_placeBy_8 lf ns dr k (ns + 2) 0 0 0)) hx hb dX1_places_32 rfl ?_
          refine lv_aload_n hx hb dX1_places_33 rfl (lv_at hl 0 rfl) ?_
          refine lv_aload_n hx hb dX1_places_34 rfl (lv_at hl 1 rfl) ?_
          refine lv_iload hx hb dX1_places_35 (lv_at hl 4 rfl) ?_
          refine lv_iload_n hx hb dX1_places_37 rfl (lv_at hl 2 rfl) ?_
          refine kRV (q0 := 0) (st1 := [.long ((lp_X1_power_5 cc_ (zpc 12 k) ((zpc 12 k) + 1) 0 1) * (lp_X1_power_5 (10 - cc_) (ns - zpc 12 k) ((ns - zpc 12 k) + 1) 0 1)), .long (Int32.toInt64 (lp_X1_placeBy_8 lf ns dr k (ns + 2) 0 0 0)), .long x3_5]) S hT hP (c_X1_chance l D cI cZ cc cl lf ch cd ns dr k cc_ (by first | assumption | decide | omega) (by first | assumption | decide | omega)) rfl rfl mw_X1_chance lk_RX1_46 ⟨rfl, rfl, (Nat.le_of_ble_eq_true rfl), (Nat.le_of_ble_eq_true rfl), (Nat.le_of_ble_eq_true rfl), (Nat.le_of_ble_eq_true rfl)⟩ [0, 1, 2, 3] rfl rfl rfl hl.1 (Nat.le_of_ble_eq_true rfl) dX1_places_38 ?_
          refine lv_lmul hx hb dX1_places_41 ?_
          refine lv_ladd hx hb dX1_places_42 ?_
          refine lv_lstore_n (lv' := [(3, .long (x3_5 + ((Int32.toInt64 (lp_X1_placeBy_8 lf ns dr k (ns + 2) 0 0 0)) * ((lp_X1_power_5 cc_ (zpc 12 k) ((zpc 12 k) + 1) 0 1) * (lp_X1_power_5 (10 - cc_) (ns - zpc 12 k) ((ns - zpc 12 k) + 1) 0 1))))), (0, .ref cc), (1, .ref ch), (2, .int cc_), (5, .int (nI k))]) hx hb dX1_places_43 rfl hl (by decide) rfl (fun ls hl => ?_)
          refine lv_iinc (v := nI (k + 1)) (lv' := [(5, .int (nI (k + 1))), (3, .long (x3_5 + ((Int32.toInt64 (lp_X1_placeBy_8 lf ns dr k (ns + 2) 0 0 0)) * ((lp_X1_power_5 cc_ (zpc 12 k) ((zpc 12 k) + 1) 0 1) * (lp_X1_power_5 (10 - cc_) (ns - zpc 12 k) ((ns - zpc 12 k) + 1) 0 1))))), (0, .ref cc), (1, .ref ch), (2, .int cc_)]) hx hb dX1_places_44 hl (k := 4) rfl (nI_1 k) (by decide) rfl (fun ls hl => ?_)
          refine lv_goto (tgt := 5) hx hb dX1_places_47 (by decide) ?_
          exact ih5 (k + 1) (x3_5 + ((Int32.toInt64 (lp_X1_placeBy_8 lf ns dr k (ns + 2) 0 0 0)) * ((lp_X1_power_5 cc_ (zpc 12 k) ((zpc 12 k) + 1) 0 1) * (lp_X1_power_5 (10 - cc_) (ns - zpc 12 k) ((ns - zpc 12 k) + 1) 0 1)))) (by omega) (by omega) (by rw [← hv4, lp_X1_places_5, if_neg c8, if_neg c9]) ls (lv_sub hl [2, 3, 4, 1, 0] rfl)
  exact L3 (2 ^ ns + 1) 0 0 (by omega) (by omega) rfl ls (lv_sub hl [2, 3, 4, 1, 0] rfl)
