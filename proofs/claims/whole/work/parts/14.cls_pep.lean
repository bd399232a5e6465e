def lp_X5_add_2 (mt : Int32) (many : Nat) : Nat → Nat → Nat → (Nat → Int32) → Nat × (Nat → Int32)
  | 0, _, cq, f1_2 => (cq, f1_2)
  | fu + 1, k, cq, f1_2 => if nI many ≤ nI k then (cq, f1_2) else lp_X5_add_2 mt many fu (k + 1) (cq + 1) (s_X8_put_f 24 f1_2 (nI cq) mt)
abbrev rm_X5_add : Room := { frames := 1, cells := 0, slots := 0, locals := 22 }
set_option maxRecDepth 100000 in
set_option maxHeartbeats 4000000 in
theorem c_X5_add (l : Launch) (D : va_G) (cI cZ : ClassId) (pp pm cn : Nat) (mi : Nat → Int32) (mt : Int32) (many : Nat) (hm : many ≤ 12) : Met l yX5_add [.code yX5_add cX5_add 4 none] rm_X5_add (PcW D cI cZ [.ref pp, .int mt, .int (nI many)] [(pp, .inr (5, [.ref pm, .int (nI cn)])), (pm, .inl (cI, 24, .inl mi))]) (QcE D (S := Unit) none (fun _ => True) (fun _ => [(pp, .inr (5, [.ref pm, .int (nI ((lp_X5_add_2 mt many (many + 1) 0 cn mi).1))])), (pm, .inl (cI, 24, .inl ((lp_X5_add_2 mt many (many + 1) 0 cn mi).2)))]) (zA [(pp, .inr (5, [.ref pm, .int (nI cn)])), (pm, .inl (cI, 24, .inl mi))])) 0 0 (zA [(pp, .inr (5, [.ref pm, .int (nI cn)])), (pm, .inl (cI, 24, .inl mi))]) := by
  refine mtWv (by decide) (Nat.le_of_ble_eq_true rfl) (fun p e s m args below meth c Q A S hT hP hD hS hret ls hl => ?_)
  have S : CallFix p m c cX5_add 4 s args zt RX5 := S
  obtain ⟨hx, hb, hml, hown, hts⟩ := id S
  have hl : lv_has ls 4 [(0, .ref pp), (1, .int mt), (2, .int (nI many))] := hl
  refine lv_iconst (v := 0) hx hb dX5_add_0 (by decide) ?_
  refine lv_istore_n (lv' := [(3, .int 0), (0, .ref pp), (1, .int mt), (2, .int (nI many))]) hx hb dX5_add_1 rfl hl (by decide) rfl (fun ls hl => ?_)
  have X3 : ∀ (y1 : Nat) (y2 : Nat → Int32), ((lp_X5_add_2 mt many (many + 1) 0 cn mi).1) = y1 → ((lp_X5_add_2 mt many (many + 1) 0 cn mi).2) = y2 → ∀ (ls : Array Slot), lv_has ls 4 [(0, .ref pp), (1, .int mt), (2, .int (nI many))] → ∀ (H : Heap) (locs : List Loc), va_P D vwCl [(pp, .inr (5, [.ref pm, .int (nI y1)])), (pm, .inl (cI, 24, .inl y2))] H → va_D A [(pp, .inr (5, [.ref pm, .int (nI y1)])), (pm, .inl (cI, 24, .inl y2))] → va_S A s.heap H locs → W p l e rm_X5_add s m args below meth c H locs 0 0 Q (F0 m 35 ls []) := by
    intro y1 y2 ey1 ey2 ls hl H locs hP hD hS
    subst ey1 ey2
    exact hret _ _ H locs () dX5_add_35  trivial hP hS
  have L4 : ∀ (n7 : Nat) (k : Nat) (cq : Nat) (f1_2 : Nat → Int32), many - k < n7 → (k ≤ many) → lp_X5_add_2 mt many n7 k cq f1_2 = lp_X5_add_2 mt many (many + 1) 0 cn mi → ∀ (ls : Array Slot), lv_has ls 4 [(0, .ref pp), (1, .int mt), (2, .int (nI many)), (3, .int (nI k))] → ∀ (H : Heap) (locs : List Loc), va_P D vwCl [(pp, .inr (5, [.ref pm, .int (nI cq)])), (pm, .inl (cI, 24, .inl f1_2))] H → va_D A [(pp, .inr (5, [.ref pm, .int (nI cq)])), (pm, .inl (cI, 24, .inl f1_2))] → va_S A s.heap H locs → W p l e rm_X5_add s m args below meth c H locs 0 0 Q (F0 m 2 ls []) := by
    intro n7
    induction n7 with
    | zero => intro k cq f1_2 hm; exact absurd hm (Nat.not_lt_zero _)
    | succ n7 ih6 =>
      intro k cq f1_2 hm8 hk hv5 ls hl H locs hP hD hS
      refine lv_iload_n hx hb dX5_add_2 rfl (lv_at hl 3 rfl) ?_
      refine lv_iload_n hx hb dX5_add_3 rfl (lv_at hl 2 rfl) ?_
      refine lv_icmp_ge (tgt := 35) hx hb dX5_add_4 (by decide) (fun c9 => ?_) (fun c9 => ?_)
      · have nc9 := zNle (a := many) (b := k) c9 (by omega) (by omega)
        exact X3 _ _ (by rw [← hv5, lp_X5_add_2, if_pos c9]) (by rw [← hv5, lp_X5_add_2, if_pos c9]) ls (lv_sub hl [0, 1, 2] rfl) H locs hP hD hS
      · have nc9 := zNnle (a := many) (b := k) c9 (by omega) (by omega)
        refine lv_aload_n hx hb dX5_add_7 rfl (lv_at hl 0 rfl) ?_
        refine va_get (D := D) (ci := 5) (v := .ref pm) (C := RX5) (T := TX5) (N := 2) hx hb hts in_X5 hown hT.1 hP 0 rfl rfl 0 (by decide) (hts _ fl_RX5_9) (fun _ h9 => h9) rfl dX5_add_8 ?_
        refine lv_aload_n hx hb dX5_add_11 rfl (lv_at hl 0 rfl) ?_
        refine va_get (D := D) (ci := 5) (v := .int (nI cq)) (C := RX5) (T := TX5) (N := 2) hx hb hts in_X5 hown hT.1 hP 0 rfl rfl 1 (by decide) (hts _ fl_RX5_15) (fun _ h9 => h9) rfl dX5_add_12 ?_
        refine lv_iload_n hx hb dX5_add_15 rfl (lv_at hl 1 rfl) ?_
        refine kEM (st1 := []) S hT hP hD hS (c_X8_put l D cI cZ pm 24 f1_2 (nI cq) mt (by first | assumption | decide | omega)) rfl rfl mw_X8_put ln_RX5_33 ⟨rfl, rfl, (Nat.le_of_ble_eq_true rfl), (Nat.le_of_ble_eq_true rfl), (Nat.le_of_ble_eq_true rfl), (Nat.le_of_ble_eq_true rfl)⟩ [1] [pm] (by decide) rfl rfl (fun _ => rfl) hl.1 (Nat.le_of_ble_eq_true rfl) dX5_add_16 (fun _ H locs _ hP hD hS => ?_)
        have hP : va_P D vwCl [(pp, .inr (5, [.ref pm, .int (nI cq)])), (pm, .inl (cI, 24, .inl (s_X8_put_f 24 f1_2 (nI cq) mt)))] H := hP
        have hD : va_D A [(pp, .inr (5, [.ref pm, .int (nI cq)])), (pm, .inl (cI, 24, .inl (s_X8_put_f 24 f1_2 (nI cq) mt)))] := hD
        refine lv_aload_n hx hb dX5_add_19 rfl (lv_at hl 0 rfl) ?_
        refine lv_dup hx hb dX5_add_20 rfl ?_
        refine va_get (D := D) (ci := 5) (v := .int (nI cq)) (C := RX5) (T := TX5) (N := 2) hx hb hts in_X5 hown hT.1 hP 0 rfl rfl 1 (by decide) (hts _ fl_RX5_15) (fun _ h9 => h9) rfl dX5_add_21 ?_
        refine lv_iconst (v := 1) hx hb dX5_add_24 (by decide) ?_
        refine lv_iadd hx hb dX5_add_25 ?_
        refine zI (y := nI (cq + 1)) (nI_1 cq) ?_
        refine va_put (D := D) (ci := 5) (v := .int (nI (cq + 1))) (ty := .int) (C := RX5) (T := TX5) (N := 2) hx hb hts in_X5 tyX5 tyX5_ok nmX5 hown hT.1 hP hD hS 0 rfl rfl 1 (by decide) (hts _ fl_RX5_15) (fun _ h9 => h9) rfl (by decide +kernel) rfl rfl (Nat.le_of_ble_eq_true rfl) dX5_add_26 (fun H locs hP hD hS => ?_)
        have hP : va_P D vwCl [(pp, .inr (5, [.ref pm, .int (nI (cq + 1))])), (pm, .inl (cI, 24, .inl (s_X8_put_f 24 f1_2 (nI cq) mt)))] H := hP
        have hD : va_D A [(pp, .inr (5, [.ref pm, .int (nI (cq + 1))])), (pm, .inl (cI, 24, .inl (s_X8_put_f 24 f1_2 (nI cq) mt)))] := hD
        refine lv_iinc (v := nI (k + 1)) (lv' := [(3, .int (nI (k + 1))), (0, .ref pp), (1, .int mt), (2, .int (nI many))]) hx hb dX5_add_29 hl (k := 3) rfl (nI_1 k) (by decide) rfl (fun ls hl => ?_)
        refine lv_goto (tgt := 2) hx hb dX5_add_32 (by decide) ?_
        exact ih6 (k + 1) (cq + 1) (s_X8_put_f 24 f1_2 (nI cq) mt) (by omega) (by omega) (by rw [← hv5, lp_X5_add_2, if_neg c9]) ls (lv_sub hl [1, 2, 3, 0] rfl) H locs hP hD hS
  exact L4 (many + 1) 0 cn mi (by omega) (by omega) rfl ls (lv_sub hl [1, 2, 3, 0] rfl) s.heap [] hP hD hS
def lp_X5_near_5 (mi : Nat → Int32) (q : Nat) (w : Int32) : Nat → Nat → Int32 → Int32
  | 0, _, x3_5 => x3_5
  | fu + 1, k, x3_5 => if nI q < nI k then x3_5 else (if (s_X8_cell 24 mi (nI k)) ≤ ((s_X8_cell 24 mi (nI q)) - w) then lp_X5_near_5 mi q w fu (k + 1) (x3_5 + 0) else lp_X5_near_5 mi q w fu (k + 1) (x3_5 + 1))
abbrev rm_X5_near : Room := { frames := 1, cells := 0, slots := 0, locals := 21 }
set_option maxRecDepth 100000 in
set_option maxHeartbeats 4000000 in
theorem c_X5_near (l : Launch) (D : va_G) (cI cZ : ClassId) (pp pm cn : Nat) (mi : Nat → Int32) (q : Nat) (w : Int32) (hq : q ≤ 24) : Met l yX5_near [.code yX5_near cX5_near 5 (some .int)] rm_X5_near (PcR D cI cZ [.ref pp, .int (nI q), .int w] [(pp, .inr (5, [.ref pm, .int (nI cn)])), (pm, .inl (cI, 24, .inl mi))]) (QcR (some (.int (lp_X5_near_5 mi q w (q + 2) 0 0)))) 0 0 zN := by
  refine mtRi (by decide) (Nat.le_of_ble_eq_true rfl) (fun p e s m args below meth c Q S hT hP hret ls hl => ?_)
  have S : CallFix p m c cX5_near 5 s args zt RX5 := S
  obtain ⟨hx, hb, hml, hown, hts⟩ := id S
  have hl : lv_has ls 5 [(0, .ref pp), (1, .int (nI q)), (2, .int w)] := hl
  refine lv_iconst (v := 0) hx hb dX5_near_0 (by decide) ?_
  refine lv_istore_n (lv' := [(3, .int 0), (0, .ref pp), (1, .int (nI q)), (2, .int w)]) hx hb dX5_near_1 rfl hl (by decide) rfl (fun ls hl => ?_)
  refine lv_iconst (v := 0) hx hb dX5_near_2 (by decide) ?_
  refine lv_istore (lv' := [(4, .int 0), (3, .int 0), (0, .ref pp), (1, .int (nI q)), (2, .int w)]) hx hb dX5_near_3 hl (by decide) rfl (fun ls hl => ?_)
  have X2 : ∀ (y1 : Int32), (lp_X5_near_5 mi q w (q + 2) 0 0) = y1 → ∀ (ls : Array Slot), lv_has ls 5 [(0, .ref pp), (1, .int (nI q)), (2, .int w), (3, .int y1)] → W p l e rm_X5_near s m args below meth c s.heap [] 0 0 Q (F0 m 47 ls []) := by
    intro y1 ey1 ls hl
    subst ey1
    refine lv_iload_n hx hb dX5_near_47 rfl (lv_at hl 3 rfl) ?_
    exact hret _ _ _ dX5_near_48 rfl
  have L3 : ∀ (n6 : Nat) (k : Nat) (x3_5 : Int32), q + 1 - k < n6 → (k ≤ q + 1) → lp_X5_near_5 mi q w n6 k x3_5 = lp_X5_near_5 mi q w (q + 2) 0 0 → ∀ (ls : Array Slot), lv_has ls 5 [(0, .ref pp), (1, .int (nI q)), (2, .int w), (3, .int x3_5), (4, .int (nI k))] → W p l e rm_X5_near s m args below meth c s.heap [] 0 0 Q (F0 m 5 ls []) := by
    intro n6
    induction n6 with
    | zero => intro k x3_5 hm; exact absurd hm (Nat.not_lt_zero _)
    | succ n6 ih5 =>
      intro k x3_5 hm7 hk hv4 ls hl
      refine lv_iload hx hb dX5_near_5 (lv_at hl 4 rfl) ?_
      refine lv_iload_n hx hb dX5_near_7 rfl (lv_at hl 1 rfl) ?_
      refine lv_icmp_gt (tgt := 47) hx hb dX5_near_8 (by decide) (fun c8 => ?_) (fun c8 => ?_)
      · have nc8 := zNlt (a := q) (b := k) c8 (by omega) (by omega)
        exact X2 _ (by rw [← hv4, lp_X5_near_5, if_pos c8]) ls (lv_sub hl [0, 1, 2, 3] rfl)
      · have nc8 := zNnlt (a := q) (b := k) c8 (by omega) (by omega)
        refine lv_iload_n hx hb dX5_near_11 rfl (lv_at hl 3 rfl) ?_
        refine lv_aload_n hx hb dX5_near_12 rfl (lv_at hl 0 rfl) ?_
        refine va_get (D := D) (ci := 5) (v := .ref pm) (C := RX5) (T := TX5) (N := 2) hx hb hts in_X5 hown hT.1 hP 0 rfl rfl 0 (by decide) (hts _ fl_RX5_9) (fun _ h9 => h9) rfl dX5_near_13 ?_
        refine lv_iload hx hb dX5_near_16 (lv_at hl 4 rfl) ?_
        refine kRM (st1 := [.int (s_X8_cell 24 mi (nI k)), .int x3_5]) S hT hP (c_X8_cell l D cI cZ pm 24 mi (nI k) (by first | assumption | decide | omega)) rfl rfl mw_X8_cell ln_RX5_41 ⟨rfl, rfl, (Nat.le_of_ble_eq_true rfl), (Nat.le_of_ble_eq_true rfl), (Nat.le_of_ble_eq_true rfl), (Nat.le_of_ble_eq_true rfl)⟩ [1] rfl hl.1 (Nat.le_of_ble_eq_true rfl) dX5_near_18 ?_
        refine lv_aload_n hx hb dX5_near_21 rfl (lv_at hl 0 rfl) ?_
        refine va_get (D := D) (ci := 5) (v := .ref pm) (C := RX5) (T := TX5) (N := 2) hx hb hts in_X5 hown hT.1 hP 0 rfl rfl 0 (by decide) (hts _ fl_RX5_9) (fun _ h9 => h9) rfl dX5_near_22 ?_
        refine lv_iload_n hx hb dX5_near_25 rfl (lv_at hl 1 rfl) ?_
        refine kRM (st1 := [.int (s_X8_cell 24 mi (nI q)), .int (s_X8_cell 24 mi (nI k)), .int x3_5]) S hT hP (c_X8_cell l D cI cZ pm 24 mi (nI q) (by first | assumption | decide | omega)) rfl rfl mw_X8_cell ln_RX5_41 ⟨rfl, rfl, (Nat.le_of_ble_eq_true rfl), (Nat.le_of_ble_eq_true rfl), (Nat.le_of_ble_eq_true rfl), (Nat.le_of_ble_eq_true rfl)⟩ [1] rfl hl.1 (Nat.le_of_ble_eq_true rfl) dX5_near_26 ?_
        refine lv_iload_n hx hb dX5_near_29 rfl (lv_at hl 2 rfl) ?_
        refine lv_isub hx hb dX5_near_30 ?_
        refine lv_icmp_le (tgt := 38) hx hb dX5_near_31 (by decide) (fun c9 => ?_) (fun c9 => ?_)
        · refine lv_iconst (v := 0) hx hb dX5_near_38 (by decide) ?_
          refine lv_iadd hx hb dX5_near_39 ?_
          refine lv_istore_n (lv' := [(3, .int (x3_5 + 0)), (0, .ref pp), (1, .int (nI q)), (2, .int w), (4, .int (nI k))]) hx hb dX5_near_40 rfl hl (by decide) rfl (fun ls hl => ?_)
          refine lv_iinc (v := nI (k + 1)) (lv' := [(4, .int (nI (k + 1))), (3, .int (x3_5 + 0)), (0, .ref pp), (1, .int (nI q)), (2, .int w)]) hx hb dX5_near_41 hl (k := 4) rfl (nI_1 k) (by decide) rfl (fun ls hl => ?_)
          refine lv_goto (tgt := 5) hx hb dX5_near_44 (by decide) ?_
          exact ih5 (k + 1) (x3_5 + 0) (by omega) (by omega) (by rw [← hv4, lp_X5_near_5, if_neg c8, if_pos c9]) ls (lv_sub hl [2, 3, 4, 1, 0] rfl)
        · refine lv_iconst (v := 1) hx hb dX5_near_34 (by decide) ?_
          refine lv_goto (tgt := 39) hx hb dX5_near_35 (by decide) ?_
          refine lv_iadd hx hb dX5_near_39 ?_
          refine lv_istore_n (lv' := [(3, .int (x3_5 + 1)), (0, .ref pp), (1, .int (nI q)), (2, .int w), (4, .int (nI k))]) hx hb dX5_near_40 rfl hl (by decide) rfl (fun ls hl => ?_)
          refine lv_iinc (v := nI (k + 1)) (lv' := [(4, .int (nI (k + 1))), (3, .int (x3_5 + 1)), (0, .ref pp), (1, .int (nI q)), (2, .int w)]) hx hb dX5_near_41 hl (k := 4) rfl (nI_1 k) (by decide) rfl (fun ls hl => ?_)
          refine lv_goto (tgt := 5) hx hb dX5_near_44 (by decide) ?_
          exact ih5 (k + 1) (x3_5 + 1) (by omega) (by omega) (by rw [← hv4, lp_X5_near_5, if_neg c8, if_neg c9]) ls (lv_sub hl [2, 3, 4, 1, 0] rfl)
  exact L3 (q + 2) 0 0 (by omega) (by omega) rfl ls (lv_sub hl [2, 3, 4, 1, 0] rfl)
def lp_X5_firstDoubt_2 (cn : Nat) (mi : Nat → Int32) (d : Int32) (w : Int32) : Nat → Nat → Int32
  | 0, _ => 0
  | fu + 1, k => if nI cn ≤ nI k then (-6) else (if (lp_X5_near_5 mi k w (k + 2) 0 0) ≤ d then lp_X5_firstDoubt_2 cn mi d w fu (k + 1) else nI k)
abbrev rm_X5_firstDoubt : Room := { frames := 2, cells := 0, slots := 0, locals := 45 }
set_option maxRecDepth 100000 in
set_option maxHeartbeats 4000000 in
theorem c_X5_firstDoubt (l : Launch) (D : va_G) (cI cZ : ClassId) (pp pm cn : Nat) (mi : Nat → Int32) (d w : Int32) (hc : cn ≤ 24) : Met l yX5_firstDoubt [.code yX5_firstDoubt cX5_firstDoubt 4 (some .int)] rm_X5_firstDoubt (PcR D cI cZ [.ref pp, .int d, .int w] [(pp, .inr (5, [.ref pm, .int (nI cn)])), (pm, .inl (cI, 24, .inl mi))]) (QcR (some (.int (lp_X5_firstDoubt_2 cn mi d w (cn + 1) 0)))) 0 0 zN := by
  refine mtRi (by decide) (Nat.le_of_ble_eq_true rfl) (fun p e s m args below meth c Q S hT hP hret ls hl => ?_)
  have S : CallFix p m c cX5_firstDoubt 4 s args zt RX5 := S
  obtain ⟨hx, hb, hml, hown, hts⟩ := id S
  have hl : lv_has ls 4 [(0, .ref pp), (1, .int d), (2, .int w)] := hl
  refine lv_iconst (v := 0) hx hb dX5_firstDoubt_0 (by decide) ?_
  refine lv_istore_n (lv' := [(3, .int 0), (0, .ref pp), (1, .int d), (2, .int w)]) hx hb dX5_firstDoubt_1 rfl hl (by decide) rfl (fun ls hl => ?_)
  have L1 : ∀ (n4 : Nat) (k : Nat), cn - k < n4 → (k ≤ cn) → lp_X5_firstDoubt_2 cn mi d w n4 k = lp_X5_firstDoubt_2 cn mi d w (cn + 1) 0 → ∀ (ls : Array Slot), lv_has ls 4 [(0, .ref pp), (1, .int d), (2, .int w), (3, .int (nI k))] → W p l e rm_X5_firstDoubt s m args below meth c s.heap [] 0 0 Q (F0 m 2 ls []) := by
    intro n4
    induction n4 with
    | zero => intro k hm; exact absurd hm (Nat.not_lt_zero _)
    | succ n4 ih3 =>
      intro k hm5 hk hv2 ls hl
      refine lv_iload_n hx hb dX5_firstDoubt_2 rfl (lv_at hl 3 rfl) ?_
      refine lv_aload_n hx hb dX5_firstDoubt_3 rfl (lv_at hl 0 rfl) ?_
      refine va_get (D := D) (ci := 5) (v := .int (nI cn)) (C := RX5) (T := TX5) (N := 2) hx hb hts in_X5 hown hT.1 hP 0 rfl rfl 1 (by decide) (hts _ fl_RX5_15) (fun _ h9 => h9) rfl dX5_firstDoubt_4 ?_
      refine lv_icmp_ge (tgt := 28) hx hb dX5_firstDoubt_7 (by decide) (fun c6 => ?_) (fun c6 => ?_)
      · have nc6 := zNle (a := cn) (b := k) c6 (by omega) (by omega)
        refine lv_bipush (v := (-6)) hx hb dX5_firstDoubt_28 (by decide) ?_
        exact hret _ _ _ dX5_firstDoubt_30 (by rw [← hv2, lp_X5_firstDoubt_2, if_pos c6])
      · have nc6 := zNnle (a := cn) (b := k) c6 (by omega) (by omega)
        refine lv_aload_n hx hb dX5_firstDoubt_10 rfl (lv_at hl 0 rfl) ?_
        refine lv_iload_n hx hb dX5_firstDoubt_11 rfl (lv_at hl 3 rfl) ?_
        refine lv_iload_n hx hb dX5_firstDoubt_12 rfl (lv_at hl 2 rfl) ?_
        refine kRV (q0 := 0) (st1 := [.int (lp_X5_near_5 mi k w (k + 2) 0 0)]) S hT hP (c_X5_near l D cI cZ pp pm cn mi k w (by first | assumption | decide | omega)) rfl rfl mw_X5_near lk_RX5_37 ⟨rfl, rfl, (Nat.le_of_ble_eq_true rfl), (Nat.le_of_ble_eq_true rfl), (Nat.le_of_ble_eq_true rfl), (Nat.le_of_ble_eq_true rfl)⟩ [0, 1] rfl rfl rfl hl.1 (Nat.le_of_ble_eq_true rfl) dX5_firstDoubt_13 ?_
        refine lv_iload_n hx hb dX5_firstDoubt_16 rfl (lv_at hl 1 rfl) ?_
        refine lv_icmp_le (tgt := 22) hx hb dX5_firstDoubt_17 (by decide) (fun c7 => ?_) (fun c7 => ?_)
        · refine lv_iinc (v := nI (k + 1)) (lv' := [(3, .int (nI (k + 1))), (0, .ref pp), (1, .int d), (2, .int w)]) hx hb dX5_firstDoubt_22 hl (k := 3) rfl (nI_1 k) (by decide) rfl (fun ls hl => ?_)
          refine lv_goto (tgt := 2) hx hb dX5_firstDoubt_25 (by decide) ?_
          exact ih3 (k + 1) (by omega) (by omega) (by rw [← hv2, lp_X5_firstDoubt_2, if_neg c6, if_pos c7]) ls (lv_sub hl [1, 2, 3, 0] rfl)
        · refine lv_iload_n hx hb dX5_firstDoubt_20 rfl (lv_at hl 3 rfl) ?_
          exact hret _ _ _ dX5_firstDoubt_21 (by rw [← hv2, lp_X5_firstDoubt_2, if_neg c6, if_neg c7])
  exact L1 (cn + 1) 0 (by omega) (by omega) rfl ls (lv_sub hl [1, 2, 3, 0] rfl)
def lp_X5_gather_11 (len : Nat) (sg : Nat → Int32) (mt : Nat) (more : Nat) : Nat → Nat → Nat → Nat → (Nat → Int32) → Nat × Nat × (Nat → Int32)
  | 0, _, nw, cq, f1_11 => (nw, cq, f1_11)
  | fu + 1, k, nw, cq, f1_11 => if nI len ≤ nI k then (nw, cq, f1_11) else (if (s_X8_cell 60 sg (nI k)) = 46 then lp_X5_gather_11 len sg mt more fu (k + 1) (nw + 1) ((lp_X5_add_2 (nI nw) ((if nI nw = nI mt then more else 0) : Nat) (((if nI nw = nI mt then more else 0) : Nat) + 1) 0 ((if (s_X8_cell 60 sg (nI k)) = 33 then ((lp_X5_add_2 (nI nw) 1 (1 + 1) 0 cq f1_11).1) else cq) : Nat) ((if (s_X8_cell 60 sg (nI k)) = 33 then ((lp_X5_add_2 (nI nw) 1 (1 + 1) 0 cq f1_11).2) else f1_11) : Nat → Int32)).1) ((lp_X5_add_2 (nI nw) ((if nI nw = nI mt then more else 0) : Nat) (((if nI nw = nI mt then more else 0) : Nat) + 1) 0 ((if (s_X8_cell 60 sg (nI k)) = 33 then ((lp_X5_add_2 (nI nw) 1 (1 + 1) 0 cq f1_11).1) else cq) : Nat) ((if (s_X8_cell 60 sg (nI k)) = 33 then ((lp_X5_add_2 (nI nw) 1 (1 + 1) 0 cq f1_11).2) else f1_11) : Nat → Int32)).2) else lp_X5_gather_11 len sg mt more fu (k + 1) nw ((if (s_X8_cell 60 sg (nI k)) = 33 then ((lp_X5_add_2 (nI nw) 1 (1 + 1) 0 cq f1_11).1) else cq) : Nat) ((if (s_X8_cell 60 sg (nI k)) = 33 then ((lp_X5_add_2 (nI nw) 1 (1 + 1) 0 cq f1_11).2) else f1_11) : Nat → Int32))
def s_X5_gather_cn (mi : Nat → Int32) (len : Nat) (sg : Nat → Int32) (mt : Nat) (more : Nat) : Nat := ((lp_X5_add_2 (nI ((lp_X5_gather_11 len sg mt more (len + 1) 0 0 0 mi).1)) ((if (nI ((lp_X5_gather_11 len sg mt more (len + 1) 0 0 0 mi).1)) = nI mt then more else 0) : Nat) (((if (nI ((lp_X5_gather_11 len sg mt more (len + 1) 0 0 0 mi).1)) = nI mt then more else 0) : Nat) + 1) 0 ((lp_X5_gather_11 len sg mt more (len + 1) 0 0 0 mi).2.1) ((lp_X5_gather_11 len sg mt more (len + 1) 0 0 0 mi).2.2)).1)
def s_X5_gather_mi (mi : Nat → Int32) (len : Nat) (sg : Nat → Int32) (mt : Nat) (more : Nat) : Nat → Int32 := ((lp_X5_add_2 (nI ((lp_X5_gather_11 len sg mt more (len + 1) 0 0 0 mi).1)) ((if (nI ((lp_X5_gather_11 len sg mt more (len + 1) 0 0 0 mi).1)) = nI mt then more else 0) : Nat) (((if (nI ((lp_X5_gather_11 len sg mt more (len + 1) 0 0 0 mi).1)) = nI mt then more else 0) : Nat) + 1) 0 ((lp_X5_gather_11 len sg mt more (len + 1) 0 0 0 mi).2.1) ((lp_X5_gather_11 len sg mt more (len + 1) 0 0 0 mi).2.2)).2)
abbrev rm_X5_gather : Room := { frames := 2, cells := 0, slots := 0, locals := 45 }
set_option maxRecDepth 100000 in
set_option maxHeartbeats 4000000 in
theorem c_X5_gather (l : Launch) (D : va_G) (cI cZ : ClassId) (pp pm cn : Nat) (mi : Nat → Int32) (pd pg len : Nat) (sg : Nat → Int32) (mt more : Nat) (hlen : len ≤ 60) (hmt : mt ≤ 60) (hmo : more ≤ 12) : Met l yX5_gather [.code yX5_gather cX5_gather 6 none] rm_X5_gather (PcW D cI cZ [.ref pp, .ref pd, .int (nI mt), .int (nI more)] [(pp, .inr (5, [.ref pm, .int (nI cn)])), (pm, .inl (cI, 24, .inl mi)), (pd, .inr (4, [.ref pg, .int (nI len)])), (pg, .inl (cI, 60, .inl sg))]) (QcE D (S := Unit) none (fun _ => True) (fun _ => [(pp, .inr (5, [.ref pm, .int (nI (s_X5_gather_cn mi len sg mt more))])), (pm, .inl (cI, 24, .inl (s_X5_gather_mi mi len sg mt more))), (pd, .inr (4, [.ref pg, .int (nI len)])), (pg, .inl (cI, 60, .inl sg))]) (zA [(pp, .inr (5, [.ref pm, .int (nI cn)])), (pm, .inl (cI, 24, .inl mi)), (pd, .inr (4, [.ref pg, .int (nI len)])), (pg, .inl (cI, 60, .inl sg))])) 0 0 (zA [(pp, .inr (5, [.ref pm, .int (nI cn)])), (pm, .inl (cI, 24, .inl mi)), (pd, .inr (4, [.ref pg, .int (nI len)])), (pg, .inl (cI, 60, .inl sg))]) := by
  refine mtWv (by decide) (Nat.le_of_ble_eq_true rfl) (fun p e s m args below meth c Q A S hT hP hD hS hret ls hl => ?_)
  have S : CallFix p m c cX5_gather 6 s args zt RX5 := S
  obtain ⟨hx, hb, hml, hown, hts⟩ := id S
  have hl : lv_has ls 6 [(0, .ref pp), (1, .ref pd), (2, .int (nI mt)), (3, .int (nI more))] := hl
  refine lv_aload_n hx hb dX5_gather_0 rfl (lv_at hl 0 rfl) ?_
  refine lv_iconst (v := 0) hx hb dX5_gather_1 (by decide) ?_
  refine va_put (D := D) (ci := 5) (v := .int 0) (ty := .int) (C := RX5) (T := TX5) (N := 2) hx hb hts in_X5 tyX5 tyX5_ok nmX5 hown hT.1 hP hD hS 0 rfl rfl 1 (by decide) (hts _ fl_RX5_15) (fun _ h9 => h9) rfl (by decide +kernel) rfl rfl (Nat.le_of_ble_eq_true rfl) dX5_gather_2 (fun H locs hP hD hS => ?_)
  have hP : va_P D vwCl [(pp, .inr (5, [.ref pm, .int 0])), (pm, .inl (cI, 24, .inl mi)), (pd, .inr (4, [.ref pg, .int (nI len)])), (pg, .inl (cI, 60, .inl sg))] H := hP
  have hD : va_D A [(pp, .inr (5, [.ref pm, .int 0])), (pm, .inl (cI, 24, .inl mi)), (pd, .inr (4, [.ref pg, .int (nI len)])), (pg, .inl (cI, 60, .inl sg))] := hD
  refine lv_iconst (v := 0) hx hb dX5_gather_5 (by decide) ?_
  refine lv_istore (lv' := [(4, .int 0), (0, .ref pp), (1, .ref pd), (2, .int (nI mt)), (3, .int (nI more))]) hx hb dX5_gather_6 hl (by decide) rfl (fun ls hl => ?_)
  refine lv_iconst (v := 0) hx hb dX5_gather_8 (by decide) ?_
  refine lv_istore (lv' := [(5, .int 0), (4, .int 0), (0, .ref pp), (1, .ref pd), (2, .int (nI mt)), (3, .int (nI more))]) hx hb dX5_gather_9 hl (by decide) rfl (fun ls hl => ?_)
  have X4 : ∀ (y1 : Nat) (y2 : Nat) (y3 : Nat → Int32), ((lp_X5_gather_11 len sg mt more (len + 1) 0 0 0 mi).1) = y1 → ((lp_X5_gather_11 len sg mt more (len + 1) 0 0 0 mi).2.1) = y2 → ((lp_X5_gather_11 len sg mt more (len + 1) 0 0 0 mi).2.2) = y3 → (y1 ≤ len) → ∀ (ls : Array Slot), lv_has ls 6 [(0, .ref pp), (1, .ref pd), (2, .int (nI mt)), (3, .int (nI more)), (4, .int (nI y1))] → ∀ (H : Heap) (locs : List Loc), va_P D vwCl [(pp, .inr (5, [.ref pm, .int (nI y2)])), (pm, .inl (cI, 24, .inl y3)), (pd, .inr (4, [.ref pg, .int (nI len)])), (pg, .inl (cI, 60, .inl sg))] H → va_D A [(pp, .inr (5, [.ref pm, .int (nI y2)])), (pm, .inl (cI, 24, .inl y3)), (pd, .inr (4, [.ref pg, .int (nI len)])), (pg, .inl (cI, 60, .inl sg))] → va_S A s.heap H locs → W p l e rm_X5_gather s m args below meth c H locs 0 0 Q (F0 m 75 ls []) := by
    intro y1 y2 y3 ey1 ey2 ey3 hnw_X4 ls hl H locs hP hD hS
    subst ey1 ey2 ey3
    refine lv_aload_n hx hb dX5_gather_75 rfl (lv_at hl 0 rfl) ?_
    refine lv_iload hx hb dX5_gather_76 (lv_at hl 4 rfl) ?_
    refine lv_iload hx hb dX5_gather_78 (lv_at hl 4 rfl) ?_
    refine lv_iload_n hx hb dX5_gather_80 rfl (lv_at hl 2 rfl) ?_
    have J6 : ∀ (z5 : Nat), ((if (nI ((lp_X5_gather_11 len sg mt more (len + 1) 0 0 0 mi).1)) = nI mt then more else 0) : Nat) = z5 → W p l e rm_X5_gather s m args below meth c H locs 0 0 Q (F0 m 89 ls [.int (nI z5), .int (nI ((lp_X5_gather_11 len sg mt more (len + 1) 0 0 0 mi).1)), .ref pp]) := by
      intro z5 ez5
      subst ez5
      refine kEV (q0 := 0) (st1 := []) S hT hP hD hS (c_X5_add l D cI cZ pp pm ((lp_X5_gather_11 len sg mt more (len + 1) 0 0 0 mi).2.1) ((lp_X5_gather_11 len sg mt more (len + 1) 0 0 0 mi).2.2) (nI ((lp_X5_gather_11 len sg mt more (len + 1) 0 0 0 mi).1)) ((if (nI ((lp_X5_gather_11 len sg mt more (len + 1) 0 0 0 mi).1)) = nI mt then more else 0) : Nat) (by split <;> omega)) rfl rfl mw_X5_add lk_RX5_29 ⟨rfl, rfl, (Nat.le_of_ble_eq_true rfl), (Nat.le_of_ble_eq_true rfl), (Nat.le_of_ble_eq_true rfl), (Nat.le_of_ble_eq_true rfl)⟩ [0, 1] [pp, pm] (by decide) rfl rfl (fun _ => rfl) rfl rfl hl.1 (Nat.le_of_ble_eq_true rfl) dX5_gather_89 (fun _ H locs _ hP hD hS => ?_)
      have hP : va_P D vwCl [(pp, .inr (5, [.ref pm, .int (nI ((lp_X5_add_2 (nI ((lp_X5_gather_11 len sg mt more (len + 1) 0 0 0 mi).1)) ((if (nI ((lp_X5_gather_11 len sg mt more (len + 1) 0 0 0 mi).1)) = nI mt then more else 0) : Nat) (((if (nI ((lp_X5_gather_11 len sg mt more (len + 1) 0 0 0 mi).1)) = nI mt then more else 0) : Nat) + 1) 0 ((lp_X5_gather_11 len sg mt more (len + 1) 0 0 0 mi).2.1) ((lp_X5_gather_11 len sg mt more (len + 1) 0 0 0 mi).2.2)).1))])), (pm, .inl (cI, 24, .inl ((lp_X5_add_2 (nI ((lp_X5_gather_11 len sg mt more (len + 1) 0 0 0 mi).1)) ((if (nI ((lp_X5_gather_11 len sg mt more (len + 1) 0 0 0 mi).1)) = nI mt then more else 0) : Nat) (((if (nI ((lp_X5_gather_11 len sg mt more (len + 1) 0 0 0 mi).1)) = nI mt then more else 0) : Nat) + 1) 0 ((lp_X5_gather_11 len sg mt more (len + 1) 0 0 0 mi).2.1) ((lp_X5_gather_11 len sg mt more (len + 1) 0 0 0 mi).2.2)).2))), (pd, .inr (4, [.ref pg, .int (nI len)])), (pg, .inl (cI, 60, .inl sg))] H := hP
      have hD : va_D A [(pp, .inr (5, [.ref pm, .int (nI ((lp_X5_add_2 (nI ((lp_X5_gather_11 len sg mt more (len + 1) 0 0 0 mi).1)) ((if (nI ((lp_X5_gather_11 len sg mt more (len + 1) 0 0 0 mi).1)) = nI mt then more else 0) : Nat) (((if (nI ((lp_X5_gather_11 len sg mt more (len + 1) 0 0 0 mi).1)) = nI mt then more else 0) : Nat) + 1) 0 ((lp_X5_gather_11 len sg mt more (len + 1) 0 0 0 mi).2.1) ((lp_X5_gather_11 len sg mt more (len + 1) 0 0 0 mi).2.2)).1))])), (pm, .inl (cI, 24, .inl ((lp_X5_add_2 (nI ((lp_X5_gather_11 len sg mt more (len + 1) 0 0 0 mi).1)) ((if (nI ((lp_X5_gather_11 len sg mt more (len + 1) 0 0 0 mi).1)) = nI mt then more else 0) : Nat) (((if (nI ((lp_X5_gather_11 len sg mt more (len + 1) 0 0 0 mi).1)) = nI mt then more else 0) : Nat) + 1) 0 ((lp_X5_gather_11 len sg mt more (len + 1) 0 0 0 mi).2.1) ((lp_X5_gather_11 len sg mt more (len + 1) 0 0 0 mi).2.2)).2))), (pd, .inr (4, [.ref pg, .int (nI len)])), (pg, .inl (cI, 60, .inl sg))] := hD
      have eo1 : nI (s_X5_gather_cn mi len sg mt more) = nI ((lp_X5_add_2 (nI ((lp_X5_gather_11 len sg mt more (len + 1) 0 0 0 mi).1)) ((if (nI ((lp_X5_gather_11 len sg mt more (len + 1) 0 0 0 mi).1)) = nI mt then more else 0) : Nat) (((if (nI ((lp_X5_gather_11 len sg mt more (len + 1) 0 0 0 mi).1)) = nI mt then more else 0) : Nat) + 1) 0 ((lp_X5_gather_11 len sg mt more (len + 1) 0 0 0 mi).2.1) ((lp_X5_gather_11 len sg mt more (len + 1) 0 0 0 mi).2.2)).1) := (by unfold s_X5_gather_cn; rfl)
      have eo2 : s_X5_gather_mi mi len sg mt more = ((lp_X5_add_2 (nI ((lp_X5_gather_11 len sg mt more (len + 1) 0 0 0 mi).1)) ((if (nI ((lp_X5_gather_11 len sg mt more (len + 1) 0 0 0 mi).1)) = nI mt then more else 0) : Nat) (((if (nI ((lp_X5_gather_11 len sg mt more (len + 1) 0 0 0 mi).1)) = nI mt then more else 0) : Nat) + 1) 0 ((lp_X5_gather_11 len sg mt more (len + 1) 0 0 0 mi).2.1) ((lp_X5_gather_11 len sg mt more (len + 1) 0 0 0 mi).2.2)).2) := (by unfold s_X5_gather_mi; rfl)
      exact hret _ _ H locs () dX5_gather_92  trivial (by show va_P D vwCl [(pp, .inr (5, [.ref pm, .int (nI (s_X5_gather_cn mi len sg mt more))])), (pm, .inl (cI, 24, .inl (s_X5_gather_mi mi len sg mt more))), (pd, .inr (4, [.ref pg, .int (nI len)])), (pg, .inl (cI, 60, .inl sg))] H; rw [eo1, eo2]; exact hP) hS
    refine lv_icmp_ne (tgt := 88) hx hb dX5_gather_81 (by decide) (fun c7 => ?_) (fun c7 => ?_)
    · have nc7 := zNne (a := ((lp_X5_gather_11 len sg mt more (len + 1) 0 0 0 mi).1)) (b := mt) c7 (by omega) (by omega)
      refine lv_iconst (v := 0) hx hb dX5_gather_88 (by decide) ?_
      exact J6 0 (by rw [if_neg c7])
    · have nc7 := zNeq (a := ((lp_X5_gather_11 len sg mt more (len + 1) 0 0 0 mi).1)) (b := mt) c7 (by omega) (by omega)
      refine lv_iload_n hx hb dX5_gather_84 rfl (lv_at hl 3 rfl) ?_
      refine lv_goto (tgt := 89) hx hb dX5_gather_85 (by decide) ?_
      exact J6 more (by rw [if_pos c7])
  have L8 : ∀ (n11 : Nat) (k : Nat) (nw : Nat) (cq : Nat) (f1_11 : Nat → Int32), len - k < n11 → (k ≤ len) → (nw ≤ k) → lp_X5_gather_11 len sg mt more n11 k nw cq f1_11 = lp_X5_gather_11 len sg mt more (len + 1) 0 0 0 mi → ∀ (ls : Array Slot), lv_has ls 6 [(0, .ref pp), (1, .ref pd), (2, .int (nI mt)), (3, .int (nI more)), (4, .int (nI nw)), (5, .int (nI k))] → ∀ (H : Heap) (locs : List Loc), va_P D vwCl [(pp, .inr (5, [.ref pm, .int (nI cq)])), (pm, .inl (cI, 24, .inl f1_11)), (pd, .inr (4, [.ref pg, .int (nI len)])), (pg, .inl (cI, 60, .inl sg))] H → va_D A [(pp, .inr (5, [.ref pm, .int (nI cq)])), (pm, .inl (cI, 24, .inl f1_11)), (pd, .inr (4, [.ref pg, .int (nI len)])), (pg, .inl (cI, 60, .inl sg))] → va_S A s.heap H locs → W p l e rm_X5_gather s m args below meth c H locs 0 0 Q (F0 m 11 ls []) := by
    intro n11
    induction n11 with
    | zero => intro k nw cq f1_11 hm; exact absurd hm (Nat.not_lt_zero _)
    | succ n11 ih10 =>
      intro k nw cq f1_11 hm12 hk hn hv9 ls hl H locs hP hD hS
      refine lv_iload hx hb dX5_gather_11 (lv_at hl 5 rfl) ?_
      refine lv_aload_n hx hb dX5_gather_13 rfl (lv_at hl 1 rfl) ?_
      refine kRV (q0 := 2) (st1 := [.int (nI len), .int (nI k)]) S hT hP (c_X4_length l D cI cZ pd pg len sg) rfl rfl mw_X4_length lk_RX5_19 ⟨rfl, rfl, (Nat.le_of_ble_eq_true rfl), (Nat.le_of_ble_eq_true rfl), (Nat.le_of_ble_eq_true rfl), (Nat.le_of_ble_eq_true rfl)⟩ [2, 3] rfl rfl rfl hl.1 (Nat.le_of_ble_eq_true rfl) dX5_gather_14 ?_
      refine lv_icmp_ge (tgt := 75) hx hb dX5_gather_17 (by decide) (fun c13 => ?_) (fun c13 => ?_)
      · have nc13 := zNle (a := len) (b := k) c13 (by omega) (by omega)
        exact X4 _ _ _ (by rw [← hv9, lp_X5_gather_11, if_pos c13]) (by rw [← hv9, lp_X5_gather_11, if_pos c13]) (by rw [← hv9, lp_X5_gather_11, if_pos c13]) (by omega) ls (lv_sub hl [0, 1, 2, 3, 4] rfl) H locs hP hD hS
      · have nc13 := zNnle (a := len) (b := k) c13 (by omega) (by omega)
        refine lv_aload_n hx hb dX5_gather_20 rfl (lv_at hl 1 rfl) ?_
        refine lv_iload hx hb dX5_gather_21 (lv_at hl 5 rfl) ?_
        refine kRV (q0 := 2) (st1 := [.int (s_X8_cell 60 sg (nI k))]) S hT hP (c_X4_sign l D cI cZ pd pg len sg (nI k)) rfl rfl mw_X4_sign lk_RX5_25 ⟨rfl, rfl, (Nat.le_of_ble_eq_true rfl), (Nat.le_of_ble_eq_true rfl), (Nat.le_of_ble_eq_true rfl), (Nat.le_of_ble_eq_true rfl)⟩ [2, 3] rfl rfl rfl hl.1 (Nat.le_of_ble_eq_true rfl) dX5_gather_23 ?_
        refine lv_bipush (v := 33) hx hb dX5_gather_26 (by decide) ?_
        have J16 : ∀ (z14 : Nat) (z15 : Nat → Int32), ((if (s_X8_cell 60 sg (nI k)) = 33 then ((lp_X5_add_2 (nI nw) 1 (1 + 1) 0 cq f1_11).1) else cq) : Nat) = z14 → ((if (s_X8_cell 60 sg (nI k)) = 33 then ((lp_X5_add_2 (nI nw) 1 (1 + 1) 0 cq f1_11).2) else f1_11) : Nat → Int32) = z15 → ∀ (H : Heap) (locs : List Loc), va_P D vwCl [(pp, .inr (5, [.ref pm, .int (nI z14)])), (pm, .inl (cI, 24, .inl z15)), (pd, .inr (4, [.ref pg, .int (nI len)])), (pg, .inl (cI, 60, .inl sg))] H → va_D A [(pp, .inr (5, [.ref pm, .int (nI z14)])), (pm, .inl (cI, 24, .inl z15)), (pd, .inr (4, [.ref pg, .int (nI len)])), (pg, .inl (cI, 60, .inl sg))] → va_S A s.heap H locs → W p l e rm_X5_gather s m args below meth c H locs 0 0 Q (F0 m 38 ls []) := by
          intro z14 z15 ez14 ez15 H locs hP hD hS
          subst ez14 ez15
          refine lv_aload_n hx hb dX5_gather_38 rfl (lv_at hl 1 rfl) ?_
          refine lv_iload hx hb dX5_gather_39 (lv_at hl 5 rfl) ?_
          refine kRV (q0 := 2) (st1 := [.int (s_X8_cell 60 sg (nI k))]) S hT hP (c_X4_sign l D cI cZ pd pg len sg (nI k)) rfl rfl mw_X4_sign lk_RX5_25 ⟨rfl, rfl, (Nat.le_of_ble_eq_true rfl), (Nat.le_of_ble_eq_true rfl), (Nat.le_of_ble_eq_true rfl), (Nat.le_of_ble_eq_true rfl)⟩ [2, 3] rfl rfl rfl hl.1 (Nat.le_of_ble_eq_true rfl) dX5_gather_41 ?_
          refine lv_bipush (v := 46) hx hb dX5_gather_44 (by decide) ?_
          refine lv_icmp_ne (tgt := 69) hx hb dX5_gather_46 (by decide) (fun c17 => ?_) (fun c17 => ?_)
          · refine lv_iinc (v := nI (k + 1)) (lv' := [(5, .int (nI (k + 1))), (0, .ref pp), (1, .ref pd), (2, .int (nI mt)), (3, .int (nI more)), (4, .int (nI nw))]) hx hb dX5_gather_69 hl (k := 5) rfl (nI_1 k) (by decide) rfl (fun ls hl => ?_)
            refine lv_goto (tgt := 11) hx hb dX5_gather_72 (by decide) ?_
            exact ih10 (k + 1) nw ((if (s_X8_cell 60 sg (nI k)) = 33 then ((lp_X5_add_2 (nI nw) 1 (1 + 1) 0 cq f1_11).1) else cq) : Nat) ((if (s_X8_cell 60 sg (nI k)) = 33 then ((lp_X5_add_2 (nI nw) 1 (1 + 1) 0 cq f1_11).2) else f1_11) : Nat → Int32) (by omega) (by omega) (by omega) (by rw [← hv9, lp_X5_gather_11, if_neg c13, if_neg c17]) ls (lv_sub hl [1, 2, 3, 4, 5, 0] rfl) H locs hP hD hS
          · refine lv_aload_n hx hb dX5_gather_49 rfl (lv_at hl 0 rfl) ?_
            refine lv_iload hx hb dX5_gather_50 (lv_at hl 4 rfl) ?_
            refine lv_iload hx hb dX5_gather_52 (lv_at hl 4 rfl) ?_
            refine lv_iload_n hx hb dX5_gather_54 rfl (lv_at hl 2 rfl) ?_
            have J19 : ∀ (z18 : Nat), ((if nI nw = nI mt then more else 0) : Nat) = z18 → W p l e rm_X5_gather s m args below meth c H locs 0 0 Q (F0 m 63 ls [.int (nI z18), .int (nI nw), .ref pp]) := by
              intro z18 ez18
              subst ez18
              refine kEV (q0 := 0) (st1 := []) S hT hP hD hS (c_X5_add l D cI cZ pp pm ((if (s_X8_cell 60 sg (nI k)) = 33 then ((lp_X5_add_2 (nI nw) 1 (1 + 1) 0 cq f1_11).1) else cq) : Nat) ((if (s_X8_cell 60 sg (nI k)) = 33 then ((lp_X5_add_2 (nI nw) 1 (1 + 1) 0 cq f1_11).2) else f1_11) : Nat → Int32) (nI nw) ((if nI nw = nI mt then more else 0) : Nat) (by split <;> omega)) rfl rfl mw_X5_add lk_RX5_29 ⟨rfl, rfl, (Nat.le_of_ble_eq_true rfl), (Nat.le_of_ble_eq_true rfl), (Nat.le_of_ble_eq_true rfl), (Nat.le_of_ble_eq_true rfl)⟩ [0, 1] [pp, pm] (by decide) rfl rfl (fun _ => rfl) rfl rfl hl.1 (Nat.le_of_ble_eq_true rfl) dX5_gather_63 (fun _ H locs _ hP hD hS => ?_)
              have hP : va_P D vwCl [(pp, .inr (5, [.ref pm, .int (nI ((lp_X5_add_2 (nI nw) ((if nI nw = nI mt then more else 0) : Nat) (((if nI nw = nI mt then more else 0) : Nat) + 1) 0 ((if (s_X8_cell 60 sg (nI k)) = 33 then ((lp_X5_add_2 (nI nw) 1 (1 + 1) 0 cq f1_11).1) else cq) : Nat) ((if (s_X8_cell 60 sg (nI k)) = 33 then ((lp_X5_add_2 (nI nw) 1 (1 + 1) 0 cq f1_11).2) else f1_11) : Nat → Int32)).1))])), (pm, .inl (cI, 24, .inl ((lp_X5_add_2 (nI nw) ((if nI nw = nI mt then more else 0) : Nat) (((if nI nw = nI mt then more else 0) : Nat) + 1) 0 ((if (s_X8_cell 60 sg (nI k)) = 33 then ((lp_X5_add_2 (nI nw) 1 (1 + 1) 0 cq f1_11).1) else cq) : Nat) ((if (s_X8_cell 60 sg (nI k)) = 33 then ((lp_X5_add_2 (nI nw) 1 (1 + 1) 0 cq f1_11).2) else f1_11) : Nat → Int32)).2))), (pd, .inr (4, [.ref pg, .int (nI len)])), (pg, .inl (cI, 60, .inl sg))] H := hP
              have hD : va_D A [(pp, .inr (5, [.ref pm, .int (nI ((lp_X5_add_2 (nI nw) ((if nI nw = nI mt then more else 0) : Nat) (((if nI nw = nI mt then more else 0) : Nat) + 1) 0 ((if (s_X8_cell 60 sg (nI k)) = 33 then ((lp_X5_add_2 (nI nw) 1 (1 + 1) 0 cq f1_11).1) else cq) : Nat) ((if (s_X8_cell 60 sg (nI k)) = 33 then ((lp_X5_add_2 (nI nw) 1 (1 + 1) 0 cq f1_11).2) else f1_11) : Nat → Int32)).1))])), (pm, .inl (cI, 24, .inl ((lp_X5_add_2 (nI nw) ((if nI nw = nI mt then more else 0) : Nat) (((if nI nw = nI mt then more else 0) : Nat) + 1) 0 ((if (s_X8_cell 60 sg (nI k)) = 33 then ((lp_X5_add_2 (nI nw) 1 (1 + 1) 0 cq f1_11).1) else cq) : Nat) ((if (s_X8_cell 60 sg (nI k)) = 33 then ((lp_X5_add_2 (nI nw) 1 (1 + 1) 0 cq f1_11).2) else f1_11) : Nat → Int32)).2))), (pd, .inr (4, [.ref pg, .int (nI len)])), (pg, .inl (cI, 60, .inl sg))] := hD
              refine lv_iinc (v := nI (nw + 1)) (lv' := [(4, .int (nI (nw + 1))), (0, .ref pp), (1, .ref pd), (2, .int (nI mt)), (3, .int (nI more)), (5, .int (nI k))]) hx hb dX5_gather_66 hl (k := 4) rfl (nI_1 nw) (by decide) rfl (fun ls hl => ?_)
              refine lv_iinc (v := nI (k + 1)) (lv' := [(5, .int (nI (k + 1))), (4, .int (nI (nw + 1))), (0, .ref pp), (1, .ref pd), (2, .int (nI mt)), (3, .int (nI more))]) hx hb dX5_gather_69 hl (k := 5) rfl (nI_1 k) (by decide) rfl (fun ls hl => ?_)
              refine lv_goto (tgt := 11) hx hb dX5_gather_72 (by decide) ?_
              exact ih10 (k + 1) (nw + 1) ((lp_X5_add_2 (nI nw) ((if nI nw = nI mt then more else 0) : Nat) (((if nI nw = nI mt then more else 0) : Nat) + 1) 0 ((if (s_X8_cell 60 sg (nI k)) = 33 then ((lp_X5_add_2 (nI nw) 1 (1 + 1) 0 cq f1_11).1) else cq) : Nat) ((if (s_X8_cell 60 sg (nI k)) = 33 then ((lp_X5_add_2 (nI nw) 1 (1 + 1) 0 cq f1_11).2) else f1_11) : Nat → Int32)).1) ((lp_X5_add_2 (nI nw) ((if nI nw = nI mt then more else 0) : Nat) (((if nI nw = nI mt then more else 0) : Nat) + 1) 0 ((if (s_X8_cell 60 sg (nI k)) = 33 then ((lp_X5_add_2 (nI nw) 1 (1 + 1) 0 cq f1_11).1) else cq) : Nat) ((if (s_X8_cell 60 sg (nI k)) = 33 then ((lp_X5_add_2 (nI nw) 1 (1 + 1) 0 cq f1_11).2) else f1_11) : Nat → Int32)).2) (by omega) (by omega) (by omega) (by rw [← hv9, lp_X5_gather_11, if_neg c13, if_pos c17]) ls (lv_sub hl [2, 3, 4, 5, 1, 0] rfl) H locs hP hD hS
            refine lv_icmp_ne (tgt := 62) hx hb dX5_gather_55 (by decide) (fun c20 => ?_) (fun c20 => ?_)
            · have nc20 := zNne (a := nw) (b := mt) c20 (by omega) (by omega)
              refine lv_iconst (v := 0) hx hb dX5_gather_62 (by decide) ?_
              exact J19 0 (by rw [if_neg c20])
            · have nc20 := zNeq (a := nw) (b := mt) c20 (by omega) (by omega)
              refine lv_iload_n hx hb dX5_gather_58 rfl (lv_at hl 3 rfl) ?_
              refine lv_goto (tgt := 63) hx hb dX5_gather_59 (by decide) ?_
              exact J19 more (by rw [if_pos c20])
        refine lv_icmp_ne (tgt := 38) hx hb dX5_gather_28 (by decide) (fun c21 => ?_) (fun c21 => ?_)
        · exact J16 cq f1_11 (by rw [if_neg c21]) (by rw [if_neg c21]) H locs hP hD hS
        · refine lv_aload_n hx hb dX5_gather_31 rfl (lv_at hl 0 rfl) ?_
          refine lv_iload hx hb dX5_gather_32 (lv_at hl 4 rfl) ?_
          refine lv_iconst (v := 1) hx hb dX5_gather_34 (by decide) ?_
          refine kEV (q0 := 0) (st1 := []) S hT hP hD hS (c_X5_add l D cI cZ pp pm cq f1_11 (nI nw) 1 (by decide)) rfl rfl mw_X5_add lk_RX5_29 ⟨rfl, rfl, (Nat.le_of_ble_eq_true rfl), (Nat.le_of_ble_eq_true rfl), (Nat.le_of_ble_eq_true rfl), (Nat.le_of_ble_eq_true rfl)⟩ [0, 1] [pp, pm] (by decide) rfl rfl (fun _ => rfl) rfl rfl hl.1 (Nat.le_of_ble_eq_true rfl) dX5_gather_35 (fun _ H locs _ hP hD hS => ?_)
          have hP : va_P D vwCl [(pp, .inr (5, [.ref pm, .int (nI ((lp_X5_add_2 (nI nw) 1 (1 + 1) 0 cq f1_11).1))])), (pm, .inl (cI, 24, .inl ((lp_X5_add_2 (nI nw) 1 (1 + 1) 0 cq f1_11).2))), (pd, .inr (4, [.ref pg, .int (nI len)])), (pg, .inl (cI, 60, .inl sg))] H := hP
          have hD : va_D A [(pp, .inr (5, [.ref pm, .int (nI ((lp_X5_add_2 (nI nw) 1 (1 + 1) 0 cq f1_11).1))])), (pm, .inl (cI, 24, .inl ((lp_X5_add_2 (nI nw) 1 (1 + 1) 0 cq f1_11).2))), (pd, .inr (4, [.ref pg, .int (nI len)])), (pg, .inl (cI, 60, .inl sg))] := hD
          exact J16 ((lp_X5_add_2 (nI nw) 1 (1 + 1) 0 cq f1_11).1) ((lp_X5_add_2 (nI nw) 1 (1 + 1) 0 cq f1_11).2) (by rw [if_pos c21]) (by rw [if_pos c21]) H locs hP hD hS
  exact L8 (len + 1) 0 0 0 mi (by omega) (by omega) (by omega) rfl ls (lv_sub hl [2, 3, 4, 5, 1, 0] rfl) H locs hP hD hS
