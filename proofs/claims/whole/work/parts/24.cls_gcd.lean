def lp_X8_commonDivisor_9 : Nat → Nat → Int64 → Int64 → Int64
  | 0, _, _, x4_9 => x4_9
  | fu + 1, k, x6_9, x4_9 => if 200 ≤ nI k then x4_9 else (if lg_cmp x6_9 0 = 0 then x4_9 else lp_X8_commonDivisor_9 fu (k + 1) (x4_9 - x4_9 / x6_9 * x6_9) x6_9)
abbrev rm_X8_commonDivisor : Room := { frames := 0, cells := 0, slots := 0, locals := 0 }
set_option maxRecDepth 100000 in
set_option maxHeartbeats 4000000 in
theorem c_X8_commonDivisor (l : Launch) (D : va_G) (cI cZ : ClassId) (a b : Int64) : Met l yX8_commonDivisor [.code yX8_commonDivisor cX8_commonDivisor 11 (some .long)] rm_X8_commonDivisor (PcR D cI cZ [.long a, .long b] []) (QcR (some (.long (lp_X8_commonDivisor_9 201 0 b a)))) 0 0 zN := by
  refine mtRl (by decide) (Nat.le_of_ble_eq_true rfl) (fun p e s m args below meth c Q S hT hP hret ls hl => ?_)
  have S : CallFix p m c cX8_commonDivisor 11 s args zt RX8 := S
  obtain ⟨hx, hb, hml, hown, hts⟩ := id S
  have hl : lv_has ls 11 [(0, .long a), (2, .long b)] := hl
  refine lv_lload_n hx hb dX8_commonDivisor_0 rfl (lv_at hl 0 rfl) ?_
  refine lv_lstore (lv' := [(4, .long a), (0, .long a), (2, .long b)]) hx hb dX8_commonDivisor_1 hl (by decide) rfl (fun ls hl => ?_)
  refine lv_lload_n hx hb dX8_commonDivisor_3 rfl (lv_at hl 2 rfl) ?_
  refine lv_lstore (lv' := [(6, .long b), (4, .long a), (0, .long a), (2, .long b)]) hx hb dX8_commonDivisor_4 hl (by decide) rfl (fun ls hl => ?_)
  refine lv_iconst (v := 0) hx hb dX8_commonDivisor_6 (by decide) ?_
  refine lv_istore (lv' := [(8, .int 0), (6, .long b), (4, .long a), (0, .long a), (2, .long b)]) hx hb dX8_commonDivisor_7 hl (by decide) rfl (fun ls hl => ?_)
  have X2 : ∀ (y1 : Int64), (lp_X8_commonDivisor_9 201 0 b a) = y1 → ∀ (ls : Array Slot), lv_has ls 11 [(0, .long a), (2, .long b), (4, .long y1)] → W p l e rm_X8_commonDivisor s m args below meth c s.heap [] 0 0 Q (F0 m 45 ls []) := by
    intro y1 ey1 ls hl
    subst ey1
    refine lv_lload hx hb dX8_commonDivisor_45 (lv_at hl 2 rfl) ?_
    exact hret _ _ _ dX8_commonDivisor_47 rfl
  have L3 : ∀ (n6 : Nat) (k : Nat) (x6_9 : Int64) (x4_9 : Int64), 200 - k < n6 → (k ≤ 200) → lp_X8_commonDivisor_9 n6 k x6_9 x4_9 = lp_X8_commonDivisor_9 201 0 b a → ∀ (ls : Array Slot), lv_has ls 11 [(0, .long a), (2, .long b), (4, .long x4_9), (6, .long x6_9), (8, .int (nI k))] → W p l e rm_X8_commonDivisor s m args below meth c s.heap [] 0 0 Q (F0 m 9 ls []) := by
    intro n6
    induction n6 with
    | zero => intro k x6_9 x4_9 hm; exact absurd hm (Nat.not_lt_zero _)
    | succ n6 ih5 =>
      intro k x6_9 x4_9 hm7 hk hv4 ls hl
      refine lv_iload hx hb dX8_commonDivisor_9 (lv_at hl 4 rfl) ?_
      refine lv_sipush (v := 200) hx hb dX8_commonDivisor_11 (by decide) ?_
      refine lv_icmp_ge (tgt := 45) hx hb dX8_commonDivisor_14 (by decide) (fun c8 => ?_) (fun c8 => ?_)
      · have nc8 := zNle (a := 200) (b := k) c8 (by omega) (by omega)
        exact X2 _ (by rw [← hv4, lp_X8_commonDivisor_9, if_pos c8]) ls (lv_sub hl [0, 1, 2] rfl)
      · have nc8 := zNnle (a := 200) (b := k) c8 (by omega) (by omega)
        refine lv_lload hx hb dX8_commonDivisor_17 (lv_at hl 3 rfl) ?_
        refine lv_lconst (v := 0) hx hb dX8_commonDivisor_19 (by decide) ?_
        refine W.lcmp hx hb dX8_commonDivisor_20 ?_
        refine lv_if_eq (tgt := 45) hx hb dX8_commonDivisor_21 (by decide) (fun c9 => ?_) (fun c9 => ?_)
        · exact X2 _ (by rw [← hv4, lp_X8_commonDivisor_9, if_neg c8, if_pos c9]) ls (lv_sub hl [0, 1, 2] rfl)
        · refine lv_lload hx hb dX8_commonDivisor_24 (lv_at hl 2 rfl) ?_
          refine lv_lload hx hb dX8_commonDivisor_26 (lv_at hl 3 rfl) ?_
          refine lv_lrem hx hb dX8_commonDivisor_28 (zl0 c9) ?_
          refine lv_lstore (lv' := [(9, .long (x4_9 - x4_9 / x6_9 * x6_9)), (0, .long a), (2, .long b), (4, .long x4_9), (6, .long x6_9), (8, .int (nI k))]) hx hb dX8_commonDivisor_29 hl (by decide) rfl (fun ls hl => ?_)
          refine lv_lload hx hb dX8_commonDivisor_31 (lv_at hl 4 rfl) ?_
          refine lv_lstore (lv' := [(4, .long x6_9), (9, .long (x4_9 - x4_9 / x6_9 * x6_9)), (0, .long a), (2, .long b), (6, .long x6_9), (8, .int (nI k))]) hx hb dX8_commonDivisor_33 hl (by decide) rfl (fun ls hl => ?_)
          refine lv_lload hx hb dX8_commonDivisor_35 (lv_at hl 1 rfl) ?_
          refine lv_lstore (lv' := [(6, .long (x4_9 - x4_9 / x6_9 * x6_9)), (4, .long x6_9), (9, .long (x4_9 - x4_9 / x6_9 * x6_9)), (0, .long a), (2, .long b), (8, .int (nI k))]) hx hb dX8_commonDivisor_37 hl (by decide) rfl (fun ls hl => ?_)
          refine lv_iinc (v := nI (k + 1)) (lv' := [(8, .int (nI (k + 1))), (6, .long (x4_9 - x4_9 / x6_9 * x6_9)), (4, .long x6_9), (9, .long (x4_9 - x4_9 / x6_9 * x6_9)), (0, .long a), (2, .long b)]) hx hb dX8_commonDivisor_39 hl (k := 5) rfl (nI_1 k) (by decide) rfl (fun ls hl => ?_)
          refine lv_goto (tgt := 9) hx hb dX8_commonDivisor_42 (by decide) ?_
          exact ih5 (k + 1) (x4_9 - x4_9 / x6_9 * x6_9) x6_9 (by omega) (by omega) (by rw [← hv4, lp_X8_commonDivisor_9, if_neg c8, if_neg c9]) ls (lv_sub hl [4, 5, 2, 1, 0] rfl)
  exact L3 201 0 b a (by omega) (by omega) rfl ls (lv_sub hl [3, 4, 2, 1, 0] rfl)
def s_X8_inLowestTerms (up : Int64) (lo : Int64) (part : Int32) : Int64 := if 0 ≤ (lg_cmp (lp_X8_commonDivisor_9 201 0 lo up) 1) then (if part = 0 then up / (lp_X8_commonDivisor_9 201 0 lo up) else lo / (lp_X8_commonDivisor_9 201 0 lo up)) else (-1000000000000000000)
abbrev rm_X8_inLowestTerms : Room := { frames := 1, cells := 0, slots := 0, locals := 30 }
set_option maxRecDepth 100000 in
set_option maxHeartbeats 4000000 in
theorem c_X8_inLowestTerms (l : Launch) (D : va_G) (cI cZ : ClassId) (up lo : Int64) (part : Int32) : Met l yX8_inLowestTerms [.code yX8_inLowestTerms cX8_inLowestTerms 7 (some .long)] rm_X8_inLowestTerms (PcR D cI cZ [.long up, .long lo, .int part] []) (QcR (some (.long (s_X8_inLowestTerms up lo part)))) 0 0 zN := by
  refine mtRl (by decide) (Nat.le_of_ble_eq_true rfl) (fun p e s m args below meth c Q S hT hP hret ls hl => ?_)
  have S : CallFix p m c cX8_inLowestTerms 7 s args zt RX8 := S
  obtain ⟨hx, hb, hml, hown, hts⟩ := id S
  have hl : lv_has ls 7 [(0, .long up), (2, .long lo), (4, .int part)] := hl
  refine lv_lload_n hx hb dX8_inLowestTerms_0 rfl (lv_at hl 0 rfl) ?_
  refine lv_lload_n hx hb dX8_inLowestTerms_1 rfl (lv_at hl 1 rfl) ?_
  refine kRS (st1 := [.long (lp_X8_commonDivisor_9 201 0 lo up)]) S hT hP (c_X8_commonDivisor l D cI cZ up lo) rfl rfl mw_X8_commonDivisor lk_RX8_328 ⟨rfl, rfl, (Nat.le_of_ble_eq_true rfl), (Nat.le_of_ble_eq_true rfl), (Nat.le_of_ble_eq_true rfl), (Nat.le_of_ble_eq_true rfl)⟩ [] rfl hl.1 (Nat.le_of_ble_eq_true rfl) dX8_inLowestTerms_2 ?_
  refine lv_lstore (lv' := [(5, .long (lp_X8_commonDivisor_9 201 0 lo up)), (0, .long up), (2, .long lo), (4, .int part)]) hx hb dX8_inLowestTerms_5 hl (by decide) rfl (fun ls hl => ?_)
  refine lv_lload hx hb dX8_inLowestTerms_7 (lv_at hl 0 rfl) ?_
  refine lv_lconst (v := 1) hx hb dX8_inLowestTerms_9 (by decide) ?_
  refine W.lcmp hx hb dX8_inLowestTerms_10 ?_
  refine lv_if_ge (tgt := 18) hx hb dX8_inLowestTerms_11 (by decide) (fun c1 => ?_) (fun c1 => ?_)
  · refine lv_iload hx hb dX8_inLowestTerms_18 (lv_at hl 3 rfl) ?_
    refine lv_if_ne (tgt := 30) hx hb dX8_inLowestTerms_20 (by decide) (fun c2 => ?_) (fun c2 => ?_)
    · refine lv_lload_n hx hb dX8_inLowestTerms_30 rfl (lv_at hl 2 rfl) ?_
      refine lv_lload hx hb dX8_inLowestTerms_31 (lv_at hl 0 rfl) ?_
      refine lv_ldiv hx hb dX8_inLowestTerms_33 (zge1 c1) ?_
      exact hret _ _ _ dX8_inLowestTerms_34 (by unfold s_X8_inLowestTerms; rw [if_pos c1, if_neg c2])
    · refine lv_lload_n hx hb dX8_inLowestTerms_23 rfl (lv_at hl 1 rfl) ?_
      refine lv_lload hx hb dX8_inLowestTerms_24 (lv_at hl 0 rfl) ?_
      refine lv_ldiv hx hb dX8_inLowestTerms_26 (zge1 c1) ?_
      refine lv_goto (tgt := 34) hx hb dX8_inLowestTerms_27 (by decide) ?_
      exact hret _ _ _ dX8_inLowestTerms_34 (by unfold s_X8_inLowestTerms; rw [if_pos c1, if_pos c2])
  · refine lv_ldc2 (v := (-1000000000000000000)) hx hb hown (hts _ ct_RX8_202) dX8_inLowestTerms_14 ?_
    exact hret _ _ _ dX8_inLowestTerms_17 (by unfold s_X8_inLowestTerms; rw [if_neg c1])
def s_X8_imageOf (h0 : Nat) (h1 : Nat) (n : Int32) : Nat := if n = 0 then h0 else h1
abbrev rm_X8_imageOf : Room := { frames := 0, cells := 0, slots := 0, locals := 0 }
set_option maxRecDepth 100000 in
set_option maxHeartbeats 4000000 in
theorem c_X8_imageOf (l : Launch) (D : va_G) (cI cZ : ClassId) (x h h0 h1 pd bb bbr pp ch se cc fa : Nat) (n : Int32) : Met l yX8_imageOf [.code yX8_imageOf cX8_imageOf 2 (Option.some (Jvm.ClassFile.FieldType.object "SneezeRace$Setup"))] rm_X8_imageOf (PcR D cI cZ [.ref x, .int n] [(x, .inr (8, [.ref h, .ref h0, .ref h1, .ref pd, .ref bb, .ref bbr, .ref pp, .ref ch, .ref se, .ref cc, .ref fa]))]) (QcR (some (.ref (s_X8_imageOf h0 h1 n)))) 0 0 zN := by
  refine mtRr (by decide) (Nat.le_of_ble_eq_true rfl) (fun p e s m args below meth c Q S hT hP hret ls hl => ?_)
  have S : CallFix p m c cX8_imageOf 2 s args zt RX8 := S
  obtain ⟨hx, hb, hml, hown, hts⟩ := id S
  have hl : lv_has ls 2 [(0, .ref x), (1, .int n)] := hl
  refine lv_iload_n hx hb dX8_imageOf_0 rfl (lv_at hl 1 rfl) ?_
  refine lv_if_ne (tgt := 11) hx hb dX8_imageOf_1 (by decide) (fun c1 => ?_) (fun c1 => ?_)
  · refine lv_aload_n hx hb dX8_imageOf_11 rfl (lv_at hl 0 rfl) ?_
    refine va_get (D := D) (ci := 8) (v := .ref h1) (C := RX8) (T := TX8) (N := 11) hx hb hts in_X8 hown hT.1 hP 0 rfl rfl 2 (by decide) (hts _ fl_RX8_19) (fun _ h9 => h9) rfl dX8_imageOf_12 ?_
    exact hret _ _ _ dX8_imageOf_15 (by unfold s_X8_imageOf; rw [if_neg c1])
  · refine lv_aload_n hx hb dX8_imageOf_4 rfl (lv_at hl 0 rfl) ?_
    refine va_get (D := D) (ci := 8) (v := .ref h0) (C := RX8) (T := TX8) (N := 11) hx hb hts in_X8 hown hT.1 hP 0 rfl rfl 1 (by decide) (hts _ fl_RX8_16) (fun _ h9 => h9) rfl dX8_imageOf_5 ?_
    refine lv_goto (tgt := 15) hx hb dX8_imageOf_8 (by decide) ?_
    exact hret _ _ _ dX8_imageOf_15 (by unfold s_X8_imageOf; rw [if_pos c1])
