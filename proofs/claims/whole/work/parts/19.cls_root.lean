def lp_X8_firstFault_12 (len : Nat) (sg : Nat → Int32) : Nat → Nat → Int32 → Int32 → Int32
  | 0, _, _, _ => 0
  | fu + 1, k, x2_12, x1_12 => if nI len ≤ nI k then (-6) else (if ((if (s_X8_cell 60 sg (nI k)) = 46 then 1 else (if (s_X8_cell 60 sg (nI k)) = 33 then (if ((if (s_X8_cell 60 sg (nI k)) = 33 then x2_12 + 1 else x2_12) : Int32) ≤ 12 then 1 else (if (s_X8_thingOf (s_X8_cell 60 sg (nI k))) = (-6) then 0 else (if (s_X8_has x1_12 (s_X8_thingOf (s_X8_cell 60 sg (nI k)))) = 0 then 0 else 1))) else (if (s_X8_thingOf (s_X8_cell 60 sg (nI k))) = (-6) then 0 else (if (s_X8_has x1_12 (s_X8_thingOf (s_X8_cell 60 sg (nI k)))) = 0 then 0 else 1)))) : Int32) = 0 then nI k else lp_X8_firstFault_12 len sg fu (k + 1) ((if (s_X8_cell 60 sg (nI k)) = 33 then x2_12 + 1 else x2_12) : Int32) (s_X8_without x1_12 (s_X8_thingOf (s_X8_cell 60 sg (nI k)))))
abbrev rm_X8_firstFault : Room := { frames := 3, cells := 0, slots := 0, locals := 64 }
set_option maxRecDepth 100000 in
set_option maxHeartbeats 4000000 in
theorem c_X8_firstFault (l : Launch) (D : va_G) (cI cZ : ClassId) (x h h0 h1 pd bb bbr pp ch se cc fa hn hw ht hs hp sn : Nat) (kp : Int32) (nm wd wt sT sP : Nat → Int32) (pg len : Nat) (sg : Nat → Int32) (hlen : len ≤ 60) : Met l yX8_firstFault [.code yX8_firstFault cX8_firstFault 7 (some .int)] rm_X8_firstFault (PcR D cI cZ [.ref x] [(x, .inr (8, [.ref h, .ref h0, .ref h1, .ref pd, .ref bb, .ref bbr, .ref pp, .ref ch, .ref se, .ref cc, .ref fa])), (h, .inr (7, [.ref hn, .ref hw, .ref ht, .ref hs, .ref hp, .int (nI sn), .int kp])), (hn, .inl (cI, 6, .inl nm)), (hw, .inl (cI, 10, .inl wd)), (ht, .inl (cI, 6, .inl wt)), (hs, .inl (cI, 6, .inl sT)), (hp, .inl (cI, 6, .inl sP)), (pd, .inr (4, [.ref pg, .int (nI len)])), (pg, .inl (cI, 60, .inl sg))]) (QcR (some (.int (lp_X8_firstFault_12 len sg (len + 1) 0 0 (lp_X7_loaded_4 wt 7 0 0))))) 0 0 zN := by
  refine mtRi (by decide) (Nat.le_of_ble_eq_true rfl) (fun p e s m args below meth c Q S hT hP hret ls hl => ?_)
  have S : CallFix p m c cX8_firstFault 7 s args zt RX8 := S
  obtain ⟨hx, hb, hml, hown, hts⟩ := id S
  have hl : lv_has ls 7 [(0, .ref x)] := hl
  refine lv_aload_n hx hb dX8_firstFault_0 rfl (lv_at hl 0 rfl) ?_
  refine va_get (D := D) (ci := 8) (v := .ref h) (C := RX8) (T := TX8) (N := 11) hx hb hts in_X8 hown hT.1 hP 0 rfl rfl 0 (by decide) (hts _ fl_RX8_12) (fun _ h9 => h9) rfl dX8_firstFault_1 ?_
  refine kRV (q0 := 1) (st1 := [.int (lp_X7_loaded_4 wt 7 0 0)]) S hT hP (c_X7_loaded l D cI cZ h hn hw ht hs hp sn kp nm wd wt sT sP) rfl rfl mw_X7_loaded lk_RX8_172 ⟨rfl, rfl, (Nat.le_of_ble_eq_true rfl), (Nat.le_of_ble_eq_true rfl), (Nat.le_of_ble_eq_true rfl), (Nat.le_of_ble_eq_true rfl)⟩ [1, 2, 3, 4, 5, 6] rfl rfl rfl hl.1 (Nat.le_of_ble_eq_true rfl) dX8_firstFault_4 ?_
  refine lv_istore_n (lv' := [(1, .int (lp_X7_loaded_4 wt 7 0 0)), (0, .ref x)]) hx hb dX8_firstFault_7 rfl hl (by decide) rfl (fun ls hl => ?_)
  refine lv_iconst (v := 0) hx hb dX8_firstFault_8 (by decide) ?_
  refine lv_istore_n (lv' := [(2, .int 0), (1, .int (lp_X7_loaded_4 wt 7 0 0)), (0, .ref x)]) hx hb dX8_firstFault_9 rfl hl (by decide) rfl (fun ls hl => ?_)
  refine lv_iconst (v := 0) hx hb dX8_firstFault_10 (by decide) ?_
  refine lv_istore_n (lv' := [(3, .int 0), (2, .int 0), (1, .int (lp_X7_loaded_4 wt 7 0 0)), (0, .ref x)]) hx hb dX8_firstFault_11 rfl hl (by decide) rfl (fun ls hl => ?_)
  have L1 : ∀ (n4 : Nat) (k : Nat) (x2_12 : Int32) (x1_12 : Int32), len - k < n4 → (k ≤ len) → lp_X8_firstFault_12 len sg n4 k x2_12 x1_12 = lp_X8_firstFault_12 len sg (len + 1) 0 0 (lp_X7_loaded_4 wt 7 0 0) → ∀ (ls : Array Slot), lv_has ls 7 [(0, .ref x), (1, .int x1_12), (2, .int x2_12), (3, .int (nI k))] → W p l e rm_X8_firstFault s m args below meth c s.heap [] 0 0 Q (F0 m 12 ls []) := by
    intro n4
    induction n4 with
    | zero => intro k x2_12 x1_12 hm; exact absurd hm (Nat.not_lt_zero _)
    | succ n4 ih3 =>
      intro k x2_12 x1_12 hm5 hk hv2 ls hl
      refine lv_iload_n hx hb dX8_firstFault_12 rfl (lv_at hl 3 rfl) ?_
      refine lv_aload_n hx hb dX8_firstFault_13 rfl (lv_at hl 0 rfl) ?_
      refine va_get (D := D) (ci := 8) (v := .ref pd) (C := RX8) (T := TX8) (N := 11) hx hb hts in_X8 hown hT.1 hP 0 rfl rfl 3 (by decide) (hts _ fl_RX8_25) (fun _ h9 => h9) rfl dX8_firstFault_14 ?_
      refine kRV (q0 := 7) (st1 := [.int (nI len), .int (nI k)]) S hT hP (c_X4_length l D cI cZ pd pg len sg) rfl rfl mw_X4_length lk_RX8_115 ⟨rfl, rfl, (Nat.le_of_ble_eq_true rfl), (Nat.le_of_ble_eq_true rfl), (Nat.le_of_ble_eq_true rfl), (Nat.le_of_ble_eq_true rfl)⟩ [7, 8] rfl rfl rfl hl.1 (Nat.le_of_ble_eq_true rfl) dX8_firstFault_17 ?_
      refine lv_icmp_ge (tgt := 113) hx hb dX8_firstFault_20 (by decide) (fun c6 => ?_) (fun c6 => ?_)
      · have nc6 := zNle (a := len) (b := k) c6 (by omega) (by omega)
        refine lv_bipush (v := (-6)) hx hb dX8_firstFault_113 (by decide) ?_
        exact hret _ _ _ dX8_firstFault_115 (by rw [← hv2, lp_X8_firstFault_12, if_pos c6])
      · have nc6 := zNnle (a := len) (b := k) c6 (by omega) (by omega)
        refine lv_aload_n hx hb dX8_firstFault_23 rfl (lv_at hl 0 rfl) ?_
        refine va_get (D := D) (ci := 8) (v := .ref pd) (C := RX8) (T := TX8) (N := 11) hx hb hts in_X8 hown hT.1 hP 0 rfl rfl 3 (by decide) (hts _ fl_RX8_25) (fun _ h9 => h9) rfl dX8_firstFault_24 ?_
        refine lv_iload_n hx hb dX8_firstFault_27 rfl (lv_at hl 3 rfl) ?_
        refine kRV (q0 := 7) (st1 := [.int (s_X8_cell 60 sg (nI k))]) S hT hP (c_X4_sign l D cI cZ pd pg len sg (nI k)) rfl rfl mw_X4_sign lk_RX8_277 ⟨rfl, rfl, (Nat.le_of_ble_eq_true rfl), (Nat.le_of_ble_eq_true rfl), (Nat.le_of_ble_eq_true rfl), (Nat.le_of_ble_eq_true rfl)⟩ [7, 8] rfl rfl rfl hl.1 (Nat.le_of_ble_eq_true rfl) dX8_firstFault_28 ?_
        refine lv_istore (lv' := [(4, .int (s_X8_cell 60 sg (nI k))), (0, .ref x), (1, .int x1_12), (2, .int x2_12), (3, .int (nI k))]) hx hb dX8_firstFault_31 hl (by decide) rfl (fun ls hl => ?_)
        refine lv_iload hx hb dX8_firstFault_33 (lv_at hl 0 rfl) ?_
        refine kRS (st1 := [.int (s_X8_thingOf (s_X8_cell 60 sg (nI k)))]) S hT hP (c_X8_thingOf l D cI cZ (s_X8_cell 60 sg (nI k))) rfl rfl mw_X8_thingOf lk_RX8_280 ⟨rfl, rfl, (Nat.le_of_ble_eq_true rfl), (Nat.le_of_ble_eq_true rfl), (Nat.le_of_ble_eq_true rfl), (Nat.le_of_ble_eq_true rfl)⟩ [] rfl hl.1 (Nat.le_of_ble_eq_true rfl) dX8_firstFault_35 ?_
        refine lv_istore (lv' := [(5, .int (s_X8_thingOf (s_X8_cell 60 sg (nI k)))), (4, .int (s_X8_cell 60 sg (nI k))), (0, .ref x), (1, .int x1_12), (2, .int x2_12), (3, .int (nI k))]) hx hb dX8_firstFault_38 hl (by decide) rfl (fun ls hl => ?_)
        refine lv_iload hx hb dX8_firstFault_40 (lv_at hl 1 rfl) ?_
        refine lv_bipush (v := 33) hx hb dX8_firstFault_42 (by decide) ?_
        have J8 : ∀ (z7 : Int32), ((if (s_X8_cell 60 sg (nI k)) = 33 then x2_12 + 1 else x2_12) : Int32) = z7 → ∀ (ls : Array Slot), lv_has ls 7 [(0, .ref x), (1, .int x1_12), (2, .int z7), (3, .int (nI k)), (4, .int (s_X8_cell 60 sg (nI k))), (5, .int (s_X8_thingOf (s_X8_cell 60 sg (nI k))))] → W p l e rm_X8_firstFault s m args below meth c s.heap [] 0 0 Q (F0 m 50 ls []) := by
          intro z7 ez7 ls hl
          subst ez7
          refine lv_iload hx hb dX8_firstFault_50 (lv_at hl 4 rfl) ?_
          refine lv_bipush (v := 46) hx hb dX8_firstFault_52 (by decide) ?_
          have J10 : ∀ (z9 : Int32), ((if (s_X8_cell 60 sg (nI k)) = 46 then 1 else (if (s_X8_cell 60 sg (nI k)) = 33 then (if ((if (s_X8_cell 60 sg (nI k)) = 33 then x2_12 + 1 else x2_12) : Int32) ≤ 12 then 1 else (if (s_X8_thingOf (s_X8_cell 60 sg (nI k))) = (-6) then 0 else (if (s_X8_has x1_12 (s_X8_thingOf (s_X8_cell 60 sg (nI k)))) = 0 then 0 else 1))) else (if (s_X8_thingOf (s_X8_cell 60 sg (nI k))) = (-6) then 0 else (if (s_X8_has x1_12 (s_X8_thingOf (s_X8_cell 60 sg (nI k)))) = 0 then 0 else 1)))) : Int32) = z9 → W p l e rm_X8_firstFault s m args below meth c s.heap [] 0 0 Q (F0 m 91 ls [.int z9]) := by
            intro z9 ez9
            subst ez9
            refine lv_istore (lv' := [(6, .int ((if (s_X8_cell 60 sg (nI k)) = 46 then 1 else (if (s_X8_cell 60 sg (nI k)) = 33 then (if ((if (s_X8_cell 60 sg (nI k)) = 33 then x2_12 + 1 else x2_12) : Int32) ≤ 12 then 1 else (if (s_X8_thingOf (s_X8_cell 60 sg (nI k))) = (-6) then 0 else (if (s_X8_has x1_12 (s_X8_thingOf (s_X8_cell 60 sg (nI k)))) = 0 then 0 else 1))) else (if (s_X8_thingOf (s_X8_cell 60 sg (nI k))) = (-6) then 0 else (if (s_X8_has x1_12 (s_X8_thingOf (s_X8_cell 60 sg (nI k)))) = 0 then 0 else 1)))) : Int32)), (0, .ref x), (1, .int x1_12), (2, .int ((if (s_X8_cell 60 sg (nI k)) = 33 then x2_12 + 1 else x2_12) : Int32)), (3, .int (nI k)), (4, .int (s_X8_cell 60 sg (nI k))), (5, .int (s_X8_thingOf (s_X8_cell 60 sg (nI k))))]) hx hb dX8_firstFault_91 hl (by decide) rfl (fun ls hl => ?_)
            refine lv_iload hx hb dX8_firstFault_93 (lv_at hl 0 rfl) ?_
            refine lv_if_ne (tgt := 100) hx hb dX8_firstFault_95 (by decide) (fun c11 => ?_) (fun c11 => ?_)
            · refine lv_iload_n hx hb dX8_firstFault_100 rfl (lv_at hl 2 rfl) ?_
              refine lv_iload hx hb dX8_firstFault_101 (lv_at hl 6 rfl) ?_
              refine kRS (st1 := [.int (s_X8_without x1_12 (s_X8_thingOf (s_X8_cell 60 sg (nI k))))]) S hT hP (c_X8_without l D cI cZ x1_12 (s_X8_thingOf (s_X8_cell 60 sg (nI k)))) rfl rfl mw_X8_without lk_RX8_286 ⟨rfl, rfl, (Nat.le_of_ble_eq_true rfl), (Nat.le_of_ble_eq_true rfl), (Nat.le_of_ble_eq_true rfl), (Nat.le_of_ble_eq_true rfl)⟩ [] rfl hl.1 (Nat.le_of_ble_eq_true rfl) dX8_firstFault_103 ?_
              refine lv_istore_n (lv' := [(1, .int (s_X8_without x1_12 (s_X8_thingOf (s_X8_cell 60 sg (nI k))))), (6, .int ((if (s_X8_cell 60 sg (nI k)) = 46 then 1 else (if (s_X8_cell 60 sg (nI k)) = 33 then (if ((if (s_X8_cell 60 sg (nI k)) = 33 then x2_12 + 1 else x2_12) : Int32) ≤ 12 then 1 else (if (s_X8_thingOf (s_X8_cell 60 sg (nI k))) = (-6) then 0 else (if (s_X8_has x1_12 (s_X8_thingOf (s_X8_cell 60 sg (nI k)))) = 0 then 0 else 1))) else (if (s_X8_thingOf (s_X8_cell 60 sg (nI k))) = (-6) then 0 else (if (s_X8_has x1_12 (s_X8_thingOf (s_X8_cell 60 sg (nI k)))) = 0 then 0 else 1)))) : Int32)), (0, .ref x), (2, .int ((if (s_X8_cell 60 sg (nI k)) = 33 then x2_12 + 1 else x2_12) : Int32)), (3, .int (nI k)), (4, .int (s_X8_cell 60 sg (nI k))), (5, .int (s_X8_thingOf (s_X8_cell 60 sg (nI k))))]) hx hb dX8_firstFault_106 rfl hl (by decide) rfl (fun ls hl => ?_)
              refine lv_iinc (v := nI (k + 1)) (lv' := [(3, .int (nI (k + 1))), (1, .int (s_X8_without x1_12 (s_X8_thingOf (s_X8_cell 60 sg (nI k))))), (6, .int ((if (s_X8_cell 60 sg (nI k)) = 46 then 1 else (if (s_X8_cell 60 sg (nI k)) = 33 then (if ((if (s_X8_cell 60 sg (nI k)) = 33 then x2_12 + 1 else x2_12) : Int32) ≤ 12 then 1 else (if (s_X8_thingOf (s_X8_cell 60 sg (nI k))) = (-6) then 0 else (if (s_X8_has x1_12 (s_X8_thingOf (s_X8_cell 60 sg (nI k)))) = 0 then 0 else 1))) else (if (s_X8_thingOf (s_X8_cell 60 sg (nI k))) = (-6) then 0 else (if (s_X8_has x1_12 (s_X8_thingOf (s_X8_cell 60 sg (nI k)))) = 0 then 0 else 1)))) : Int32)), (0, .ref x), (2, .int ((if (s_X8_cell 60 sg (nI k)) = 33 then x2_12 + 1 else x2_12) : Int32)), (4, .int (s_X8_cell 60 sg (nI k))), (5, .int (s_X8_thingOf (s_X8_cell 60 sg (nI k))))]) hx hb dX8_firstFault_107 hl (k := 4) rfl (nI_1 k) (by decide) rfl (fun ls hl => ?_)
              refine lv_goto (tgt := 12) hx hb dX8_firstFault_110 (by decide) ?_
              exact ih3 (k + 1) ((if (s_X8_cell 60 sg (nI k)) = 33 then x2_12 + 1 else x2_12) : Int32) (s_X8_without x1_12 (s_X8_thingOf (s_X8_cell 60 sg (nI k)))) (by omega) (by omega) (by rw [← hv2, lp_X8_firstFault_12, if_neg c6, if_neg c11]) ls (lv_sub hl [3, 1, 4, 0] rfl)
            · refine lv_iload_n hx hb dX8_firstFault_98 rfl (lv_at hl 4 rfl) ?_
              exact hret _ _ _ dX8_firstFault_99 (by rw [← hv2, lp_X8_firstFault_12, if_neg c6, if_pos c11])
          refine lv_icmp_eq (tgt := 86) hx hb dX8_firstFault_54 (by decide) (fun c12 => ?_) (fun c12 => ?_)
          · refine lv_iconst (v := 1) hx hb dX8_firstFault_86 (by decide) ?_
            refine lv_goto (tgt := 91) hx hb dX8_firstFault_87 (by decide) ?_
            exact J10 1 (by rw [if_pos c12])
          · refine lv_iload hx hb dX8_firstFault_57 (lv_at hl 4 rfl) ?_
            refine lv_bipush (v := 33) hx hb dX8_firstFault_59 (by decide) ?_
            refine lv_icmp_ne (tgt := 70) hx hb dX8_firstFault_61 (by decide) (fun c13 => ?_) (fun c13 => ?_)
            · refine lv_iload hx hb dX8_firstFault_70 (lv_at hl 5 rfl) ?_
              refine lv_bipush (v := (-6)) hx hb dX8_firstFault_72 (by decide) ?_
              refine lv_icmp_eq (tgt := 90) hx hb dX8_firstFault_74 (by decide) (fun c14 => ?_) (fun c14 => ?_)
              · refine lv_iconst (v := 0) hx hb dX8_firstFault_90 (by decide) ?_
                exact J10 0 (by rw [if_neg c12, if_neg c13, if_pos c14])
              · refine lv_iload_n hx hb dX8_firstFault_77 rfl (lv_at hl 1 rfl) ?_
                refine lv_iload hx hb dX8_firstFault_78 (lv_at hl 5 rfl) ?_
                refine kRS (st1 := [.int (s_X8_has x1_12 (s_X8_thingOf (s_X8_cell 60 sg (nI k))))]) S hT hP (c_X8_has l D cI cZ x1_12 (s_X8_thingOf (s_X8_cell 60 sg (nI k)))) rfl rfl mw_X8_has lk_RX8_283 ⟨rfl, rfl, (Nat.le_of_ble_eq_true rfl), (Nat.le_of_ble_eq_true rfl), (Nat.le_of_ble_eq_true rfl), (Nat.le_of_ble_eq_true rfl)⟩ [] rfl hl.1 (Nat.le_of_ble_eq_true rfl) dX8_firstFault_80 ?_
                refine lv_if_eq (tgt := 90) hx hb dX8_firstFault_83 (by decide) (fun c15 => ?_) (fun c15 => ?_)
                · refine lv_iconst (v := 0) hx hb dX8_firstFault_90 (by decide) ?_
                  exact J10 0 (by rw [if_neg c12, if_neg c13, if_neg c14, if_pos c15])
                · refine lv_iconst (v := 1) hx hb dX8_firstFault_86 (by decide) ?_
                  refine lv_goto (tgt := 91) hx hb dX8_firstFault_87 (by decide) ?_
                  exact J10 1 (by rw [if_neg c12, if_neg c13, if_neg c14, if_neg c15])
            · refine lv_iload_n hx hb dX8_firstFault_64 rfl (lv_at hl 2 rfl) ?_
              refine lv_bipush (v := 12) hx hb dX8_firstFault_65 (by decide) ?_
              refine lv_icmp_le (tgt := 86) hx hb dX8_firstFault_67 (by decide) (fun c16 => ?_) (fun c16 => ?_)
              · refine lv_iconst (v := 1) hx hb dX8_firstFault_86 (by decide) ?_
                refine lv_goto (tgt := 91) hx hb dX8_firstFault_87 (by decide) ?_
                exact J10 1 (by rw [if_neg c12, if_pos c13, if_pos c16])
              · refine lv_iload hx hb dX8_firstFault_70 (lv_at hl 5 rfl) ?_
                refine lv_bipush (v := (-6)) hx hb dX8_firstFault_72 (by decide) ?_
                refine lv_icmp_eq (tgt := 90) hx hb dX8_firstFault_74 (by decide) (fun c17 => ?_) (fun c17 => ?_)
                · refine lv_iconst (v := 0) hx hb dX8_firstFault_90 (by decide) ?_
                  exact J10 0 (by rw [if_neg c12, if_pos c13, if_neg c16, if_pos c17])
                · refine lv_iload_n hx hb dX8_firstFault_77 rfl (lv_at hl 1 rfl) ?_
                  refine lv_iload hx hb dX8_firstFault_78 (lv_at hl 5 rfl) ?_
                  refine kRS (st1 := [.int (s_X8_has x1_12 (s_X8_thingOf (s_X8_cell 60 sg (nI k))))]) S hT hP (c_X8_has l D cI cZ x1_12 (s_X8_thingOf (s_X8_cell 60 sg (nI k)))) rfl rfl mw_X8_has lk_RX8_283 ⟨rfl, rfl, (Nat.le_of_ble_eq_true rfl), (Nat.le_of_ble_eq_true rfl), (Nat.le_of_ble_eq_true rfl), (Nat.le_of_ble_eq_true rfl)⟩ [] rfl hl.1 (Nat.le_of_ble_eq_true rfl) dX8_firstFault_80 ?_
                  refine lv_if_eq (tgt := 90) hx hb dX8_firstFault_83 (by decide) (fun c18 => ?_) (fun c18 => ?_)
                  · refine lv_iconst (v := 0) hx hb dX8_firstFault_90 (by decide) ?_
                    exact J10 0 (by rw [if_neg c12, if_pos c13, if_neg c16, if_neg c17, if_pos c18])
                  · refine lv_iconst (v := 1) hx hb dX8_firstFault_86 (by decide) ?_
                    refine lv_goto (tgt := 91) hx hb dX8_firstFault_87 (by decide) ?_
                    exact J10 1 (by rw [if_neg c12, if_pos c13, if_neg c16, if_neg c17, if_neg c18])
        refine lv_icmp_ne (tgt := 50) hx hb dX8_firstFault_44 (by decide) (fun c19 => ?_) (fun c19 => ?_)
        · exact J8 x2_12 (by rw [if_neg c19]) ls (lv_sub hl [2, 3, 4, 5, 1, 0] rfl)
        · refine lv_iinc (v := x2_12 + 1) (lv' := [(2, .int (x2_12 + 1)), (5, .int (s_X8_thingOf (s_X8_cell 60 sg (nI k)))), (4, .int (s_X8_cell 60 sg (nI k))), (0, .ref x), (1, .int x1_12), (3, .int (nI k))]) hx hb dX8_firstFault_47 hl (k := 4) rfl rfl (by decide) rfl (fun ls hl => ?_)
          exact J8 (x2_12 + 1) (by rw [if_pos c19]) ls (lv_sub hl [3, 4, 0, 5, 2, 1] rfl)
  exact L1 (len + 1) 0 0 (lp_X7_loaded_4 wt 7 0 0) (by omega) (by omega) rfl ls (lv_sub hl [3, 2, 1, 0] rfl)
def s_X8_courseRefusal (wt : Nat → Int32) (len : Nat) (sg : Nat → Int32) (inside : Int32) : Int32 := if inside = 0 then (-2) else (if (lp_X8_firstFault_12 len sg (len + 1) 0 0 (lp_X7_loaded_4 wt 7 0 0)) = (-6) then (if (lp_X4_hasThrow_2 len sg (len + 1) 0) = 0 then 0 else (-3)) else (-5))
abbrev rm_X8_courseRefusal : Room := { frames := 4, cells := 0, slots := 0, locals := 90 }
set_option maxRecDepth 100000 in
set_option maxHeartbeats 4000000 in
theorem c_X8_courseRefusal (l : Launch) (D : va_G) (cI cZ : ClassId) (x h h0 h1 pd bb bbr pp ch se cc fa hn hw ht hs hp sn : Nat) (kp : Int32) (nm wd wt sT sP : Nat → Int32) (pg len : Nat) (sg : Nat → Int32) (inside : Int32) (hlen : len ≤ 60) : Met l yX8_courseRefusal [.code yX8_courseRefusal cX8_courseRefusal 2 (some .int)] rm_X8_courseRefusal (PcR D cI cZ [.ref x, .int inside] [(x, .inr (8, [.ref h, .ref h0, .ref h1, .ref pd, .ref bb, .ref bbr, .ref pp, .ref ch, .ref se, .ref cc, .ref fa])), (h, .inr (7, [.ref hn, .ref hw, .ref ht, .ref hs, .ref hp, .int (nI sn), .int kp])), (hn, .inl (cI, 6, .inl nm)), (hw, .inl (cI, 10, .inl wd)), (ht, .inl (cI, 6, .inl wt)), (hs, .inl (cI, 6, .inl sT)), (hp, .inl (cI, 6, .inl sP)), (pd, .inr (4, [.ref pg, .int (nI len)])), (pg, .inl (cI, 60, .inl sg))]) (QcR (some (.int (s_X8_courseRefusal wt len sg inside)))) 0 0 zN := by
  refine mtRi (by decide) (Nat.le_of_ble_eq_true rfl) (fun p e s m args below meth c Q S hT hP hret ls hl => ?_)
  have S : CallFix p m c cX8_courseRefusal 2 s args zt RX8 := S
  obtain ⟨hx, hb, hml, hown, hts⟩ := id S
  have hl : lv_has ls 2 [(0, .ref x), (1, .int inside)] := hl
  refine lv_iload_n hx hb dX8_courseRefusal_0 rfl (lv_at hl 1 rfl) ?_
  refine lv_if_ne (tgt := 7) hx hb dX8_courseRefusal_1 (by decide) (fun c1 => ?_) (fun c1 => ?_)
  · refine lv_aload_n hx hb dX8_courseRefusal_7 rfl (lv_at hl 0 rfl) ?_
    refine kRV (q0 := 0) (st1 := [.int (lp_X8_firstFault_12 len sg (len + 1) 0 0 (lp_X7_loaded_4 wt 7 0 0))]) S hT hP (c_X8_firstFault l D cI cZ x h h0 h1 pd bb bbr pp ch se cc fa hn hw ht hs hp sn kp nm wd wt sT sP pg len sg (by first | assumption | decide | omega)) rfl rfl mw_X8_firstFault lk_RX8_126 ⟨rfl, rfl, (Nat.le_of_ble_eq_true rfl), (Nat.le_of_ble_eq_true rfl), (Nat.le_of_ble_eq_true rfl), (Nat.le_of_ble_eq_true rfl)⟩ [0, 1, 2, 3, 4, 5, 6, 7, 8] rfl rfl rfl hl.1 (Nat.le_of_ble_eq_true rfl) dX8_courseRefusal_8 ?_
    refine lv_bipush (v := (-6)) hx hb dX8_courseRefusal_11 (by decide) ?_
    refine lv_icmp_eq (tgt := 19) hx hb dX8_courseRefusal_13 (by decide) (fun c2 => ?_) (fun c2 => ?_)
    · refine lv_aload_n hx hb dX8_courseRefusal_19 rfl (lv_at hl 0 rfl) ?_
      refine va_get (D := D) (ci := 8) (v := .ref pd) (C := RX8) (T := TX8) (N := 11) hx hb hts in_X8 hown hT.1 hP 0 rfl rfl 3 (by decide) (hts _ fl_RX8_25) (fun _ h9 => h9) rfl dX8_courseRefusal_20 ?_
      refine kRV (q0 := 7) (st1 := [.int (lp_X4_hasThrow_2 len sg (len + 1) 0)]) S hT hP (c_X4_hasThrow l D cI cZ pd pg len sg (by first | assumption | decide | omega)) rfl rfl mw_X4_hasThrow lk_RX8_274 ⟨rfl, rfl, (Nat.le_of_ble_eq_true rfl), (Nat.le_of_ble_eq_true rfl), (Nat.le_of_ble_eq_true rfl), (Nat.le_of_ble_eq_true rfl)⟩ [7, 8] rfl rfl rfl hl.1 (Nat.le_of_ble_eq_true rfl) dX8_courseRefusal_23 ?_
      refine lv_if_eq (tgt := 34) hx hb dX8_courseRefusal_26 (by decide) (fun c3 => ?_) (fun c3 => ?_)
      · refine lv_iconst (v := 0) hx hb dX8_courseRefusal_34 (by decide) ?_
        exact hret _ _ _ dX8_courseRefusal_35 (by unfold s_X8_courseRefusal; rw [if_neg c1, if_pos c2, if_pos c3])
      · refine lv_bipush (v := (-3)) hx hb dX8_courseRefusal_29 (by decide) ?_
        refine lv_goto (tgt := 35) hx hb dX8_courseRefusal_31 (by decide) ?_
        exact hret _ _ _ dX8_courseRefusal_35 (by unfold s_X8_courseRefusal; rw [if_neg c1, if_pos c2, if_neg c3])
    · refine lv_bipush (v := (-5)) hx hb dX8_courseRefusal_16 (by decide) ?_
      exact hret _ _ _ dX8_courseRefusal_18 (by unfold s_X8_courseRefusal; rw [if_neg c1, if_neg c2])
  · refine lv_bipush (v := (-2)) hx hb dX8_courseRefusal_4 (by decide) ?_
    exact hret _ _ _ dX8_courseRefusal_6 (by unfold s_X8_courseRefusal; rw [if_pos c1])
def s_X8_choiceRefusal (wt : Nat → Int32) (len : Nat) (sg : Nat → Int32) (inside : Int32) : Int32 := if s_X8_courseRefusal wt len sg inside = 0 then (if (nI (zct 33 sg len)) ≤ 6 then 0 else (-4)) else s_X8_courseRefusal wt len sg inside
abbrev rm_X8_choiceRefusal : Room := { frames := 5, cells := 0, slots := 0, locals := 111 }
set_option maxRecDepth 100000 in
set_option maxHeartbeats 4000000 in
theorem c_X8_choiceRefusal (l : Launch) (D : va_G) (cI cZ : ClassId) (x h h0 h1 pd bb bbr pp ch se cc fa hn hw ht hs hp sn : Nat) (kp : Int32) (nm wd wt sT sP : Nat → Int32) (pg len : Nat) (sg : Nat → Int32) (inside : Int32) (hlen : len ≤ 60) : Met l yX8_choiceRefusal [.code yX8_choiceRefusal cX8_choiceRefusal 3 (some .int)] rm_X8_choiceRefusal (PcR D cI cZ [.ref x, .int inside] [(x, .inr (8, [.ref h, .ref h0, .ref h1, .ref pd, .ref bb, .ref bbr, .ref pp, .ref ch, .ref se, .ref cc, .ref fa])), (h, .inr (7, [.ref hn, .ref hw, .ref ht, .ref hs, .ref hp, .int (nI sn), .int kp])), (hn, .inl (cI, 6, .inl nm)), (hw, .inl (cI, 10, .inl wd)), (ht, .inl (cI, 6, .inl wt)), (hs, .inl (cI, 6, .inl sT)), (hp, .inl (cI, 6, .inl sP)), (pd, .inr (4, [.ref pg, .int (nI len)])), (pg, .inl (cI, 60, .inl sg))]) (QcR (some (.int (s_X8_choiceRefusal wt len sg inside)))) 0 0 zN := by
  refine mtRi (by decide) (Nat.le_of_ble_eq_true rfl) (fun p e s m args below meth c Q S hT hP hret ls hl => ?_)
  have S : CallFix p m c cX8_choiceRefusal 3 s args zt RX8 := S
  obtain ⟨hx, hb, hml, hown, hts⟩ := id S
  have hl : lv_has ls 3 [(0, .ref x), (1, .int inside)] := hl
  have hz33 := zct_le 33 sg len
  refine lv_aload_n hx hb dX8_choiceRefusal_0 rfl (lv_at hl 0 rfl) ?_
  refine lv_iload_n hx hb dX8_choiceRefusal_1 rfl (lv_at hl 1 rfl) ?_
  refine kRV (q0 := 0) (st1 := [.int (s_X8_courseRefusal wt len sg inside)]) S hT hP (c_X8_courseRefusal l D cI cZ x h h0 h1 pd bb bbr pp ch se cc fa hn hw ht hs hp sn kp nm wd wt sT sP pg len sg inside (by first | assumption | decide | omega)) rfl rfl mw_X8_courseRefusal lk_RX8_195 ⟨rfl, rfl, (Nat.le_of_ble_eq_true rfl), (Nat.le_of_ble_eq_true rfl), (Nat.le_of_ble_eq_true rfl), (Nat.le_of_ble_eq_true rfl)⟩ [0, 1, 2, 3, 4, 5, 6, 7, 8] rfl rfl rfl hl.1 (Nat.le_of_ble_eq_true rfl) dX8_choiceRefusal_2 ?_
  refine lv_istore_n (lv' := [(2, .int (s_X8_courseRefusal wt len sg inside)), (0, .ref x), (1, .int inside)]) hx hb dX8_choiceRefusal_5 rfl hl (by decide) rfl (fun ls hl => ?_)
  refine lv_iload_n hx hb dX8_choiceRefusal_6 rfl (lv_at hl 0 rfl) ?_
  refine lv_if_eq (tgt := 12) hx hb dX8_choiceRefusal_7 (by decide) (fun c1 => ?_) (fun c1 => ?_)
  · refine lv_aload_n hx hb dX8_choiceRefusal_12 rfl (lv_at hl 1 rfl) ?_
    refine va_get (D := D) (ci := 8) (v := .ref pd) (C := RX8) (T := TX8) (N := 11) hx hb hts in_X8 hown hT.1 hP 0 rfl rfl 3 (by decide) (hts _ fl_RX8_25) (fun _ h9 => h9) rfl dX8_choiceRefusal_13 ?_
    refine lv_bipush (v := 33) hx hb dX8_choiceRefusal_16 (by decide) ?_
    refine kRV (q0 := 7) (st1 := [.int (nI (zct 33 sg len))]) S hT hP (c_X4_count l D cI cZ pd pg len sg 33 (by first | assumption | decide | omega)) rfl rfl mw_X4_count lk_RX8_129 ⟨rfl, rfl, (Nat.le_of_ble_eq_true rfl), (Nat.le_of_ble_eq_true rfl), (Nat.le_of_ble_eq_true rfl), (Nat.le_of_ble_eq_true rfl)⟩ [7, 8] rfl rfl rfl hl.1 (Nat.le_of_ble_eq_true rfl) dX8_choiceRefusal_18 ?_
    refine lv_bipush (v := 6) hx hb dX8_choiceRefusal_21 (by decide) ?_
    refine lv_icmp_le (tgt := 31) hx hb dX8_choiceRefusal_23 (by decide) (fun c2 => ?_) (fun c2 => ?_)
    · have nc2 := zNle (a := (zct 33 sg len)) (b := 6) c2 (by omega) (by omega)
      refine lv_iconst (v := 0) hx hb dX8_choiceRefusal_31 (by decide) ?_
      exact hret _ _ _ dX8_choiceRefusal_32 (by unfold s_X8_choiceRefusal; rw [if_pos c1, if_pos c2])
    · have nc2 := zNnle (a := (zct 33 sg len)) (b := 6) c2 (by omega) (by omega)
      refine lv_bipush (v := (-4)) hx hb dX8_choiceRefusal_26 (by decide) ?_
      refine lv_goto (tgt := 32) hx hb dX8_choiceRefusal_28 (by decide) ?_
      exact hret _ _ _ dX8_choiceRefusal_32 (by unfold s_X8_choiceRefusal; rw [if_pos c1, if_neg c2])
  · refine lv_iload_n hx hb dX8_choiceRefusal_10 rfl (lv_at hl 0 rfl) ?_
    exact hret _ _ _ dX8_choiceRefusal_11 (by unfold s_X8_choiceRefusal; rw [if_neg c1])
