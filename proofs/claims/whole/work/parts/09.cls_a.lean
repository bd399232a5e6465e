def s_X8_within (v : Int32) (lo : Int32) (hi : Int32) : Int32 := if v < lo then 0 else (if hi < v then 0 else 1)
abbrev rm_X8_within : Room := { frames := 0, cells := 0, slots := 0, locals := 0 }
set_option maxRecDepth 100000 in
set_option maxHeartbeats 4000000 in
theorem c_X8_within (l : Launch) (D : va_G) (cI cZ : ClassId) (v lo hi : Int32) : Met l yX8_within [.code yX8_within cX8_within 3 (some .boolean)] rm_X8_within (PcR D cI cZ [.int v, .int lo, .int hi] []) (QcR (some (.int (s_X8_within v lo hi)))) 0 0 zN := by
  refine mtRz (by first | rfl | (unfold s_X8_within; repeat (first | rfl | split))) (by decide) (Nat.le_of_ble_eq_true rfl) (fun p e s m args below meth c Q S hT hP hret ls hl => ?_)
  have S : CallFix p m c cX8_within 3 s args zt RX8 := S
  obtain ⟨hx, hb, hml, hown, hts⟩ := id S
  have hl : lv_has ls 3 [(0, .int v), (1, .int lo), (2, .int hi)] := hl
  refine lv_iload_n hx hb dX8_within_0 rfl (lv_at hl 0 rfl) ?_
  refine lv_iload_n hx hb dX8_within_1 rfl (lv_at hl 1 rfl) ?_
  refine lv_icmp_lt (tgt := 14) hx hb dX8_within_2 (by decide) (fun c1 => ?_) (fun c1 => ?_)
  · refine lv_iconst (v := 0) hx hb dX8_within_14 (by decide) ?_
    exact hret _ _ _ dX8_within_15 (by unfold s_X8_within; rw [if_pos c1])
  · refine lv_iload_n hx hb dX8_within_5 rfl (lv_at hl 0 rfl) ?_
    refine lv_iload_n hx hb dX8_within_6 rfl (lv_at hl 2 rfl) ?_
    refine lv_icmp_gt (tgt := 14) hx hb dX8_within_7 (by decide) (fun c2 => ?_) (fun c2 => ?_)
    · refine lv_iconst (v := 0) hx hb dX8_within_14 (by decide) ?_
      exact hret _ _ _ dX8_within_15 (by unfold s_X8_within; rw [if_neg c1, if_pos c2])
    · refine lv_iconst (v := 1) hx hb dX8_within_10 (by decide) ?_
      refine lv_goto (tgt := 15) hx hb dX8_within_11 (by decide) ?_
      exact hret _ _ _ dX8_within_15 (by unfold s_X8_within; rw [if_neg c1, if_neg c2])
theorem zw_of {v lo hi : Int32} (h : ¬ s_X8_within v lo hi = 0) : lo ≤ v ∧ v ≤ hi := by
  unfold s_X8_within at h
  by_cases a : v < lo
  · rw [if_pos a] at h; exact absurd rfl h
  · rw [if_neg a] at h
    by_cases b : hi < v
    · rw [if_pos b] at h; exact absurd rfl h
    · exact ⟨Int32.not_lt.mp a, Int32.not_lt.mp b⟩
theorem zw_nat {v : Int32} (h : 0 ≤ v) : v = nI v.toNatClampNeg := by
  obtain ⟨j, hj, e⟩ := nI_of (x := v) (Int32.not_lt.mpr h)
  rw [e, nI_clamp hj]
theorem zwn {v : Int32} {b : Nat} (h : ¬ s_X8_within v 0 (nI b) = 0) (_ : b < 2 ^ 31) : v = nI v.toNatClampNeg := zw_nat (zw_of h).1
theorem zwl {v : Int32} {b : Nat} (h : ¬ s_X8_within v 0 (nI b) = 0) (hb : b < 2 ^ 31) : v.toNatClampNeg ≤ b := by
  have h2 := (zw_of h).2
  obtain ⟨j, hj, e⟩ := nI_of (x := v) (Int32.not_lt.mpr (zw_of h).1)
  rw [e] at h2
  rw [e, nI_clamp hj]
  exact zNle h2 hj hb
theorem zwn1 {v : Int32} (h : ¬ s_X8_within v 1 60 = 0) : v = nI v.toNatClampNeg := zw_nat (Int32.le_trans (by decide) (zw_of h).1)
theorem zwl1 {v : Int32} (h : ¬ s_X8_within v 1 60 = 0) : v.toNatClampNeg ≤ 60 := by
  have h2 := (zw_of h).2
  obtain ⟨j, hj, e⟩ := nI_of (x := v) (Int32.not_lt.mpr (Int32.le_trans (by decide) (zw_of h).1))
  rw [e] at h2
  rw [e, nI_clamp hj]
  exact zNle (b := 60) h2 hj (by decide)
abbrev rm_X8_isThing : Room := { frames := 1, cells := 0, slots := 0, locals := 22 }
set_option maxRecDepth 100000 in
set_option maxHeartbeats 4000000 in
theorem c_X8_isThing (l : Launch) (D : va_G) (cI cZ : ClassId) (t : Int32) : Met l yX8_isThing [.code yX8_isThing cX8_isThing 1 (some .boolean)] rm_X8_isThing (PcR D cI cZ [.int t] []) (QcR (some (.int (s_X8_within t 0 5)))) 0 0 zN := by
  refine mtRz (by first | rfl | (unfold s_X8_within; repeat (first | rfl | split))) (by decide) (Nat.le_of_ble_eq_true rfl) (fun p e s m args below meth c Q S hT hP hret ls hl => ?_)
  have S : CallFix p m c cX8_isThing 1 s args zt RX8 := S
  obtain ⟨hx, hb, hml, hown, hts⟩ := id S
  have hl : lv_has ls 1 [(0, .int t)] := hl
  refine lv_iload_n hx hb dX8_isThing_0 rfl (lv_at hl 0 rfl) ?_
  refine lv_iconst (v := 0) hx hb dX8_isThing_1 (by decide) ?_
  refine lv_iconst (v := 5) hx hb dX8_isThing_2 (by decide) ?_
  refine kRS (st1 := [.int (s_X8_within t 0 5)]) S hT hP (c_X8_within l D cI cZ t 0 5) rfl rfl mw_X8_within lk_RX8_74 ⟨rfl, rfl, (Nat.le_of_ble_eq_true rfl), (Nat.le_of_ble_eq_true rfl), (Nat.le_of_ble_eq_true rfl), (Nat.le_of_ble_eq_true rfl)⟩ [] rfl hl.1 (Nat.le_of_ble_eq_true rfl) dX8_isThing_3 ?_
  exact hret _ _ _ dX8_isThing_6 rfl
abbrev rm_X8_isPlace : Room := { frames := 1, cells := 0, slots := 0, locals := 22 }
set_option maxRecDepth 100000 in
set_option maxHeartbeats 4000000 in
theorem c_X8_isPlace (l : Launch) (D : va_G) (cI cZ : ClassId) (t : Int32) : Met l yX8_isPlace [.code yX8_isPlace cX8_isPlace 1 (some .boolean)] rm_X8_isPlace (PcR D cI cZ [.int t] []) (QcR (some (.int (s_X8_within t (-600) 600)))) 0 0 zN := by
  refine mtRz (by first | rfl | (unfold s_X8_within; repeat (first | rfl | split))) (by decide) (Nat.le_of_ble_eq_true rfl) (fun p e s m args below meth c Q S hT hP hret ls hl => ?_)
  have S : CallFix p m c cX8_isPlace 1 s args zt RX8 := S
  obtain ⟨hx, hb, hml, hown, hts⟩ := id S
  have hl : lv_has ls 1 [(0, .int t)] := hl
  refine lv_iload_n hx hb dX8_isPlace_0 rfl (lv_at hl 0 rfl) ?_
  refine lv_sipush (v := (-600)) hx hb dX8_isPlace_1 (by decide) ?_
  refine lv_sipush (v := 600) hx hb dX8_isPlace_4 (by decide) ?_
  refine kRS (st1 := [.int (s_X8_within t (-600) 600)]) S hT hP (c_X8_within l D cI cZ t (-600) 600) rfl rfl mw_X8_within lk_RX8_74 ⟨rfl, rfl, (Nat.le_of_ble_eq_true rfl), (Nat.le_of_ble_eq_true rfl), (Nat.le_of_ble_eq_true rfl), (Nat.le_of_ble_eq_true rfl)⟩ [] rfl hl.1 (Nat.le_of_ble_eq_true rfl) dX8_isPlace_7 ?_
  exact hret _ _ _ dX8_isPlace_10 rfl
def s_X8_isStretch (fr : Int32) (to : Int32) : Int32 := if (s_X8_within fr (-600) 600) = 0 then 0 else (if (s_X8_within to (-600) 600) = 0 then 0 else (if to < fr then 0 else 1))
abbrev rm_X8_isStretch : Room := { frames := 2, cells := 0, slots := 0, locals := 42 }
set_option maxRecDepth 100000 in
set_option maxHeartbeats 4000000 in
theorem c_X8_isStretch (l : Launch) (D : va_G) (cI cZ : ClassId) (fr to : Int32) : Met l yX8_isStretch [.code yX8_isStretch cX8_isStretch 2 (some .boolean)] rm_X8_isStretch (PcR D cI cZ [.int fr, .int to] []) (QcR (some (.int (s_X8_isStretch fr to)))) 0 0 zN := by
  refine mtRz (by first | rfl | (unfold s_X8_isStretch; repeat (first | rfl | split))) (by decide) (Nat.le_of_ble_eq_true rfl) (fun p e s m args below meth c Q S hT hP hret ls hl => ?_)
  have S : CallFix p m c cX8_isStretch 2 s args zt RX8 := S
  obtain ⟨hx, hb, hml, hown, hts⟩ := id S
  have hl : lv_has ls 2 [(0, .int fr), (1, .int to)] := hl
  refine lv_iload_n hx hb dX8_isStretch_0 rfl (lv_at hl 0 rfl) ?_
  refine kRS (st1 := [.int (s_X8_within fr (-600) 600)]) S hT hP (c_X8_isPlace l D cI cZ fr) rfl rfl mw_X8_isPlace lk_RX8_158 ⟨rfl, rfl, (Nat.le_of_ble_eq_true rfl), (Nat.le_of_ble_eq_true rfl), (Nat.le_of_ble_eq_true rfl), (Nat.le_of_ble_eq_true rfl)⟩ [] rfl hl.1 (Nat.le_of_ble_eq_true rfl) dX8_isStretch_1 ?_
  refine lv_if_eq (tgt := 23) hx hb dX8_isStretch_4 (by decide) (fun c1 => ?_) (fun c1 => ?_)
  · refine lv_iconst (v := 0) hx hb dX8_isStretch_23 (by decide) ?_
    exact hret _ _ _ dX8_isStretch_24 (by unfold s_X8_isStretch; rw [if_pos c1])
  · refine lv_iload_n hx hb dX8_isStretch_7 rfl (lv_at hl 1 rfl) ?_
    refine kRS (st1 := [.int (s_X8_within to (-600) 600)]) S hT hP (c_X8_isPlace l D cI cZ to) rfl rfl mw_X8_isPlace lk_RX8_158 ⟨rfl, rfl, (Nat.le_of_ble_eq_true rfl), (Nat.le_of_ble_eq_true rfl), (Nat.le_of_ble_eq_true rfl), (Nat.le_of_ble_eq_true rfl)⟩ [] rfl hl.1 (Nat.le_of_ble_eq_true rfl) dX8_isStretch_8 ?_
    refine lv_if_eq (tgt := 23) hx hb dX8_isStretch_11 (by decide) (fun c2 => ?_) (fun c2 => ?_)
    · refine lv_iconst (v := 0) hx hb dX8_isStretch_23 (by decide) ?_
      exact hret _ _ _ dX8_isStretch_24 (by unfold s_X8_isStretch; rw [if_neg c1, if_pos c2])
    · refine lv_iload_n hx hb dX8_isStretch_14 rfl (lv_at hl 1 rfl) ?_
      refine lv_iload_n hx hb dX8_isStretch_15 rfl (lv_at hl 0 rfl) ?_
      refine lv_icmp_lt (tgt := 23) hx hb dX8_isStretch_16 (by decide) (fun c3 => ?_) (fun c3 => ?_)
      · refine lv_iconst (v := 0) hx hb dX8_isStretch_23 (by decide) ?_
        exact hret _ _ _ dX8_isStretch_24 (by unfold s_X8_isStretch; rw [if_neg c1, if_neg c2, if_pos c3])
      · refine lv_iconst (v := 1) hx hb dX8_isStretch_19 (by decide) ?_
        refine lv_goto (tgt := 24) hx hb dX8_isStretch_20 (by decide) ?_
        exact hret _ _ _ dX8_isStretch_24 (by unfold s_X8_isStretch; rw [if_neg c1, if_neg c2, if_neg c3])
def s_X8_thingOf (sgn : Int32) : Int32 := if (s_X8_within (sgn - 97) 0 5) = 0 then (-6) else sgn - 97
abbrev rm_X8_thingOf : Room := { frames := 2, cells := 0, slots := 0, locals := 42 }
set_option maxRecDepth 100000 in
set_option maxHeartbeats 4000000 in
theorem c_X8_thingOf (l : Launch) (D : va_G) (cI cZ : ClassId) (sgn : Int32) : Met l yX8_thingOf [.code yX8_thingOf cX8_thingOf 1 (some .int)] rm_X8_thingOf (PcR D cI cZ [.int sgn] []) (QcR (some (.int (s_X8_thingOf sgn)))) 0 0 zN := by
  refine mtRi (by decide) (Nat.le_of_ble_eq_true rfl) (fun p e s m args below meth c Q S hT hP hret ls hl => ?_)
  have S : CallFix p m c cX8_thingOf 1 s args zt RX8 := S
  obtain ⟨hx, hb, hml, hown, hts⟩ := id S
  have hl : lv_has ls 1 [(0, .int sgn)] := hl
  refine lv_iload_n hx hb dX8_thingOf_0 rfl (lv_at hl 0 rfl) ?_
  refine lv_bipush (v := 97) hx hb dX8_thingOf_1 (by decide) ?_
  refine lv_isub hx hb dX8_thingOf_3 ?_
  refine kRS (st1 := [.int (s_X8_within (sgn - 97) 0 5)]) S hT hP (c_X8_isThing l D cI cZ (sgn - 97)) rfl rfl mw_X8_isThing lk_RX8_105 ⟨rfl, rfl, (Nat.le_of_ble_eq_true rfl), (Nat.le_of_ble_eq_true rfl), (Nat.le_of_ble_eq_true rfl), (Nat.le_of_ble_eq_true rfl)⟩ [] rfl hl.1 (Nat.le_of_ble_eq_true rfl) dX8_thingOf_4 ?_
  refine lv_if_eq (tgt := 17) hx hb dX8_thingOf_7 (by decide) (fun c1 => ?_) (fun c1 => ?_)
  · refine lv_bipush (v := (-6)) hx hb dX8_thingOf_17 (by decide) ?_
    exact hret _ _ _ dX8_thingOf_19 (by unfold s_X8_thingOf; rw [if_pos c1])
  · refine lv_iload_n hx hb dX8_thingOf_10 rfl (lv_at hl 0 rfl) ?_
    refine lv_bipush (v := 97) hx hb dX8_thingOf_11 (by decide) ?_
    refine lv_isub hx hb dX8_thingOf_13 ?_
    refine lv_goto (tgt := 19) hx hb dX8_thingOf_14 (by decide) ?_
    exact hret _ _ _ dX8_thingOf_19 (by unfold s_X8_thingOf; rw [if_neg c1])
def s_X8_has (set : Int32) (t : Int32) : Int32 := if t < 0 then 0 else (if 6 ≤ t then 0 else (if ((set >>> (t &&& 31)) &&& 1) = 0 then 0 else 1))
abbrev rm_X8_has : Room := { frames := 0, cells := 0, slots := 0, locals := 0 }
set_option maxRecDepth 100000 in
set_option maxHeartbeats 4000000 in
theorem c_X8_has (l : Launch) (D : va_G) (cI cZ : ClassId) (set t : Int32) : Met l yX8_has [.code yX8_has cX8_has 2 (some .boolean)] rm_X8_has (PcR D cI cZ [.int set, .int t] []) (QcR (some (.int (s_X8_has set t)))) 0 0 zN := by
  refine mtRz (by first | rfl | (unfold s_X8_has; repeat (first | rfl | split))) (by decide) (Nat.le_of_ble_eq_true rfl) (fun p e s m args below meth c Q S hT hP hret ls hl => ?_)
  have S : CallFix p m c cX8_has 2 s args zt RX8 := S
  obtain ⟨hx, hb, hml, hown, hts⟩ := id S
  have hl : lv_has ls 2 [(0, .int set), (1, .int t)] := hl
  refine lv_iload_n hx hb dX8_has_0 rfl (lv_at hl 1 rfl) ?_
  refine lv_if_lt (tgt := 22) hx hb dX8_has_1 (by decide) (fun c1 => ?_) (fun c1 => ?_)
  · refine lv_iconst (v := 0) hx hb dX8_has_22 (by decide) ?_
    exact hret _ _ _ dX8_has_23 (by unfold s_X8_has; rw [if_pos c1])
  · refine lv_iload_n hx hb dX8_has_4 rfl (lv_at hl 1 rfl) ?_
    refine lv_bipush (v := 6) hx hb dX8_has_5 (by decide) ?_
    refine lv_icmp_ge (tgt := 22) hx hb dX8_has_7 (by decide) (fun c2 => ?_) (fun c2 => ?_)
    · refine lv_iconst (v := 0) hx hb dX8_has_22 (by decide) ?_
      exact hret _ _ _ dX8_has_23 (by unfold s_X8_has; rw [if_neg c1, if_pos c2])
    · refine lv_iload_n hx hb dX8_has_10 rfl (lv_at hl 0 rfl) ?_
      refine lv_iload_n hx hb dX8_has_11 rfl (lv_at hl 1 rfl) ?_
      refine lv_ishr hx hb dX8_has_12 ?_
      refine lv_iconst (v := 1) hx hb dX8_has_13 (by decide) ?_
      refine lv_iand hx hb dX8_has_14 ?_
      refine lv_if_eq (tgt := 22) hx hb dX8_has_15 (by decide) (fun c3 => ?_) (fun c3 => ?_)
      · refine lv_iconst (v := 0) hx hb dX8_has_22 (by decide) ?_
        exact hret _ _ _ dX8_has_23 (by unfold s_X8_has; rw [if_neg c1, if_neg c2, if_pos c3])
      · refine lv_iconst (v := 1) hx hb dX8_has_18 (by decide) ?_
        refine lv_goto (tgt := 23) hx hb dX8_has_19 (by decide) ?_
        exact hret _ _ _ dX8_has_23 (by unfold s_X8_has; rw [if_neg c1, if_neg c2, if_neg c3])
def s_X8_without (set : Int32) (t : Int32) : Int32 := if s_X8_within t 0 5 = 0 then set else set &&& ((1 <<< (t &&& 31)) ^^^ (-1))
abbrev rm_X8_without : Room := { frames := 2, cells := 0, slots := 0, locals := 42 }
set_option maxRecDepth 100000 in
set_option maxHeartbeats 4000000 in
theorem c_X8_without (l : Launch) (D : va_G) (cI cZ : ClassId) (set t : Int32) : Met l yX8_without [.code yX8_without cX8_without 2 (some .int)] rm_X8_without (PcR D cI cZ [.int set, .int t] []) (QcR (some (.int (s_X8_without set t)))) 0 0 zN := by
  refine mtRi (by decide) (Nat.le_of_ble_eq_true rfl) (fun p e s m args below meth c Q S hT hP hret ls hl => ?_)
  have S : CallFix p m c cX8_without 2 s args zt RX8 := S
  obtain ⟨hx, hb, hml, hown, hts⟩ := id S
  have hl : lv_has ls 2 [(0, .int set), (1, .int t)] := hl
  refine lv_iload_n hx hb dX8_without_0 rfl (lv_at hl 1 rfl) ?_
  refine kRS (st1 := [.int (s_X8_within t 0 5)]) S hT hP (c_X8_isThing l D cI cZ t) rfl rfl mw_X8_isThing lk_RX8_105 ⟨rfl, rfl, (Nat.le_of_ble_eq_true rfl), (Nat.le_of_ble_eq_true rfl), (Nat.le_of_ble_eq_true rfl), (Nat.le_of_ble_eq_true rfl)⟩ [] rfl hl.1 (Nat.le_of_ble_eq_true rfl) dX8_without_1 ?_
  refine lv_if_eq (tgt := 17) hx hb dX8_without_4 (by decide) (fun c1 => ?_) (fun c1 => ?_)
  · refine lv_iload_n hx hb dX8_without_17 rfl (lv_at hl 0 rfl) ?_
    exact hret _ _ _ dX8_without_18 (by unfold s_X8_without; rw [if_pos c1])
  · refine lv_iload_n hx hb dX8_without_7 rfl (lv_at hl 0 rfl) ?_
    refine lv_iconst (v := 1) hx hb dX8_without_8 (by decide) ?_
    refine lv_iload_n hx hb dX8_without_9 rfl (lv_at hl 1 rfl) ?_
    refine lv_ishl hx hb dX8_without_10 ?_
    refine lv_iconst (v := (-1)) hx hb dX8_without_11 (by decide) ?_
    refine lv_ixor hx hb dX8_without_12 ?_
    refine lv_iand hx hb dX8_without_13 ?_
    refine lv_goto (tgt := 18) hx hb dX8_without_14 (by decide) ?_
    exact hret _ _ _ dX8_without_18 (by unfold s_X8_without; rw [if_neg c1])
def s_X8_oneOf (what : Int32) (a1 : Int32) (a2 : Int32) (a3 : Int32) : Int32 := if what = 0 then a1 else (if what = 1 then a2 else a3)
abbrev rm_X8_oneOf : Room := { frames := 0, cells := 0, slots := 0, locals := 0 }
set_option maxRecDepth 100000 in
set_option maxHeartbeats 4000000 in
theorem c_X8_oneOf (l : Launch) (D : va_G) (cI cZ : ClassId) (what a1 a2 a3 : Int32) : Met l yX8_oneOf [.code yX8_oneOf cX8_oneOf 4 (some .int)] rm_X8_oneOf (PcR D cI cZ [.int what, .int a1, .int a2, .int a3] []) (QcR (some (.int (s_X8_oneOf what a1 a2 a3)))) 0 0 zN := by
  refine mtRi (by decide) (Nat.le_of_ble_eq_true rfl) (fun p e s m args below meth c Q S hT hP hret ls hl => ?_)
  have S : CallFix p m c cX8_oneOf 4 s args zt RX8 := S
  obtain ⟨hx, hb, hml, hown, hts⟩ := id S
  have hl : lv_has ls 4 [(0, .int what), (1, .int a1), (2, .int a2), (3, .int a3)] := hl
  refine lv_iload_n hx hb dX8_oneOf_0 rfl (lv_at hl 0 rfl) ?_
  refine lv_if_ne (tgt := 6) hx hb dX8_oneOf_1 (by decide) (fun c1 => ?_) (fun c1 => ?_)
  · refine lv_iload_n hx hb dX8_oneOf_6 rfl (lv_at hl 0 rfl) ?_
    refine lv_iconst (v := 1) hx hb dX8_oneOf_7 (by decide) ?_
    refine lv_icmp_ne (tgt := 15) hx hb dX8_oneOf_8 (by decide) (fun c2 => ?_) (fun c2 => ?_)
    · refine lv_iload_n hx hb dX8_oneOf_15 rfl (lv_at hl 3 rfl) ?_
      exact hret _ _ _ dX8_oneOf_16 (by unfold s_X8_oneOf; rw [if_neg c1, if_neg c2])
    · refine lv_iload_n hx hb dX8_oneOf_11 rfl (lv_at hl 2 rfl) ?_
      refine lv_goto (tgt := 16) hx hb dX8_oneOf_12 (by decide) ?_
      exact hret _ _ _ dX8_oneOf_16 (by unfold s_X8_oneOf; rw [if_neg c1, if_pos c2])
  · refine lv_iload_n hx hb dX8_oneOf_4 rfl (lv_at hl 1 rfl) ?_
    exact hret _ _ _ dX8_oneOf_5 (by unfold s_X8_oneOf; rw [if_pos c1])
def s_X8_cell (n : Nat) (f : Nat → Int32) (i : Int32) : Int32 := if i < 0 then 0 else (if nI n ≤ i then 0 else f i.toNatClampNeg)
abbrev rm_X8_cell : Room := { frames := 0, cells := 0, slots := 0, locals := 0 }
set_option maxRecDepth 100000 in
set_option maxHeartbeats 4000000 in
theorem c_X8_cell (l : Launch) (D : va_G) (cI cZ : ClassId) (r n : Nat) (f : Nat → Int32) (i : Int32) (hn31 : n < 2 ^ 31) : Met l yX8_cell [.code yX8_cell cX8_cell 2 (some .int)] rm_X8_cell (PcR D cI cZ [.ref r, .int i] [(r, .inl (cI, n, .inl f))]) (QcR (some (.int (s_X8_cell n f i)))) 0 0 zN := by
  refine mtRi (by decide) (Nat.le_of_ble_eq_true rfl) (fun p e s m args below meth c Q S hT hP hret ls hl => ?_)
  have S : CallFix p m c cX8_cell 2 s args zt RX8 := S
  obtain ⟨hx, hb, hml, hown, hts⟩ := id S
  have hl : lv_has ls 2 [(0, .ref r), (1, .int i)] := hl
  refine lv_aload_n hx hb dX8_cell_0 rfl (lv_at hl 0 rfl) ?_
  refine lv_ifnull hx hb dX8_cell_1 ?_
  refine lv_iload_n hx hb dX8_cell_4 rfl (lv_at hl 1 rfl) ?_
  refine lv_if_lt (tgt := 20) hx hb dX8_cell_5 (by decide) (fun c1 => ?_) (fun c1 => ?_)
  · refine lv_iconst (v := 0) hx hb dX8_cell_20 (by decide) ?_
    exact hret _ _ _ dX8_cell_21 (by unfold s_X8_cell; rw [if_pos c1])
  · refine lv_iload_n hx hb dX8_cell_8 rfl (lv_at hl 1 rfl) ?_
    refine lv_aload_n hx hb dX8_cell_9 rfl (lv_at hl 0 rfl) ?_
    refine va_alen (D := D) (v := nI n) hx hb hT.1 hP 0 0 rfl rfl rfl dX8_cell_10 ?_
    refine lv_icmp_ge (tgt := 20) hx hb dX8_cell_11 (by decide) (fun c2 => ?_) (fun c2 => ?_)
    · refine lv_iconst (v := 0) hx hb dX8_cell_20 (by decide) ?_
      exact hret _ _ _ dX8_cell_21 (by unfold s_X8_cell; rw [if_neg c1, if_pos c2])
    · refine lv_aload_n hx hb dX8_cell_14 rfl (lv_at hl 0 rfl) ?_
      refine lv_iload_n hx hb dX8_cell_15 rfl (lv_at hl 1 rfl) ?_
      refine va_iald (D := D) hx hb hT.1 hP 0 0 rfl rfl (zvin c1 c2 hn31) dX8_cell_16 ?_
      refine lv_goto (tgt := 21) hx hb dX8_cell_17 (by decide) ?_
      exact hret _ _ _ dX8_cell_21 (by unfold s_X8_cell; rw [if_neg c1, if_neg c2])
def s_X8_put_f (n : Nat) (f : Nat → Int32) (i : Int32) (v : Int32) : Nat → Int32 := if i < 0 then f else (if nI n ≤ i then f else upd f i.toNatClampNeg v)
abbrev rm_X8_put : Room := { frames := 0, cells := 0, slots := 0, locals := 0 }
set_option maxRecDepth 100000 in
set_option maxHeartbeats 4000000 in
theorem c_X8_put (l : Launch) (D : va_G) (cI cZ : ClassId) (r n : Nat) (f : Nat → Int32) (i v : Int32) (hn31 : n < 2 ^ 31) : Met l yX8_put [.code yX8_put cX8_put 3 none] rm_X8_put (PcW D cI cZ [.ref r, .int i, .int v] [(r, .inl (cI, n, .inl f))]) (QcE D (S := Unit) none (fun _ => True) (fun _ => [(r, .inl (cI, n, .inl (s_X8_put_f n f i v)))]) (zA [(r, .inl (cI, n, .inl f))])) 0 0 (zA [(r, .inl (cI, n, .inl f))]) := by
  refine mtWv (by decide) (Nat.le_of_ble_eq_true rfl) (fun p e s m args below meth c Q A S hT hP hD hS hret ls hl => ?_)
  have S : CallFix p m c cX8_put 3 s args zt RX8 := S
  obtain ⟨hx, hb, hml, hown, hts⟩ := id S
  have hl : lv_has ls 3 [(0, .ref r), (1, .int i), (2, .int v)] := hl
  refine lv_aload_n hx hb dX8_put_0 rfl (lv_at hl 0 rfl) ?_
  refine lv_ifnull hx hb dX8_put_1 ?_
  refine lv_iload_n hx hb dX8_put_4 rfl (lv_at hl 1 rfl) ?_
  refine lv_if_lt (tgt := 18) hx hb dX8_put_5 (by decide) (fun c1 => ?_) (fun c1 => ?_)
  · have eo1 : s_X8_put_f n f i v = f := (by unfold s_X8_put_f; rw [if_pos c1])
    exact hret _ _ s.heap [] () dX8_put_18  trivial (by show va_P D vwCl [(r, .inl (cI, n, .inl (s_X8_put_f n f i v)))] s.heap; rw [eo1]; exact hP) hS
  · refine lv_iload_n hx hb dX8_put_8 rfl (lv_at hl 1 rfl) ?_
    refine lv_aload_n hx hb dX8_put_9 rfl (lv_at hl 0 rfl) ?_
    refine va_alen (D := D) (v := nI n) hx hb hT.1 hP 0 0 rfl rfl rfl dX8_put_10 ?_
    refine lv_icmp_ge (tgt := 18) hx hb dX8_put_11 (by decide) (fun c2 => ?_) (fun c2 => ?_)
    · have eo1 : s_X8_put_f n f i v = f := (by unfold s_X8_put_f; rw [if_neg c1, if_pos c2])
      exact hret _ _ s.heap [] () dX8_put_18  trivial (by show va_P D vwCl [(r, .inl (cI, n, .inl (s_X8_put_f n f i v)))] s.heap; rw [eo1]; exact hP) hS
    · refine lv_aload_n hx hb dX8_put_14 rfl (lv_at hl 0 rfl) ?_
      refine lv_iload_n hx hb dX8_put_15 rfl (lv_at hl 1 rfl) ?_
      refine lv_iload_n hx hb dX8_put_16 rfl (lv_at hl 2 rfl) ?_
      refine va_iast (D := D) hx hb hT.1 hP hD hS 0 0 rfl rfl (zvin c1 c2 hn31) dX8_put_17 (fun H locs hP hD hS => ?_)
      have hP : va_P D vwCl [(r, .inl (cI, n, .inl (upd f i.toNatClampNeg v)))] H := hP
      have hD : va_D A [(r, .inl (cI, n, .inl (upd f i.toNatClampNeg v)))] := hD
      have eo1 : s_X8_put_f n f i v = upd f i.toNatClampNeg v := (by unfold s_X8_put_f; rw [if_neg c1, if_neg c2])
      exact hret _ _ H locs () dX8_put_18  trivial (by show va_P D vwCl [(r, .inl (cI, n, .inl (s_X8_put_f n f i v)))] H; rw [eo1]; exact hP) hS
def lp_X8_copy_2 (n : Nat) (f : Nat → Int32) : Nat → Nat → (Nat → Int32) → (Nat → Int32)
  | 0, _, f1_2 => f1_2
  | fu + 1, k, f1_2 => if nI n ≤ nI k then f1_2 else (if nI n ≤ nI k then f1_2 else lp_X8_copy_2 n f fu (k + 1) (upd f1_2 k (f k)))
theorem zcopy_j (n : Nat) (f : Nat → Int32) (hn : n < 2 ^ 31) : ∀ (q k : Nat) (g : Nat → Int32), k ≤ n → n - k < q → ∀ j, lp_X8_copy_2 n f q k g j = if k ≤ j ∧ j < n then f j else g j
  | 0, k, g, _, hq, _ => absurd hq (Nat.not_lt_zero _)
  | q + 1, k, g, hk, hq, j => by
    rw [lp_X8_copy_2]
    by_cases c : nI n ≤ nI k
    · rw [if_pos c]
      have := zNle c hn (by omega)
      rw [if_neg (by omega)]
    · have hkn := zNnle c hn (by omega)
      rw [if_neg c, if_neg c, zcopy_j n f hn q (k + 1) _ (by omega) (by omega) j]
      by_cases e : j = k
      · subst e
        rw [if_neg (by omega), if_pos ⟨Nat.le_refl _, hkn⟩]
        simp [upd]
      · by_cases e2 : k ≤ j ∧ j < n
        · rw [if_pos e2, if_pos ⟨by omega, e2.2⟩]
        · rw [if_neg e2, if_neg (by omega)]
          simp [upd, e]
theorem zcopy_end (n : Nat) (f g : Nat → Int32) (j : Nat) (hn : n < 2 ^ 31) (hj : j < n) : lp_X8_copy_2 n f (n + 1) 0 g j = f j := by
  rw [zcopy_j n f hn (n + 1) 0 g (by omega) (by omega) j, if_pos ⟨Nat.zero_le _, hj⟩]
abbrev rm_X8_copy : Room := { frames := 0, cells := 0, slots := 0, locals := 0 }
set_option maxRecDepth 100000 in
set_option maxHeartbeats 4000000 in
theorem c_X8_copy (l : Launch) (D : va_G) (cI cZ : ClassId) (r r2 n : Nat) (f g : Nat → Int32) (hn31 : n < 2 ^ 31) : Met l yX8_copy [.code yX8_copy cX8_copy 3 none] rm_X8_copy (PcW D cI cZ [.ref r, .ref r2] [(r, .inl (cI, n, .inl f)), (r2, .inl (cI, n, .inl g))]) (QcE D (S := Unit) none (fun _ => True) (fun _ => [(r, .inl (cI, n, .inl f)), (r2, .inl (cI, n, .inl f))]) (zA [(r, .inl (cI, n, .inl f)), (r2, .inl (cI, n, .inl g))])) 0 0 (zA [(r, .inl (cI, n, .inl f)), (r2, .inl (cI, n, .inl g))]) := by
  refine mtWv (by decide) (Nat.le_of_ble_eq_true rfl) (fun p e s m args below meth c Q A S hT hP hD hS hret ls hl => ?_)
  have S : CallFix p m c cX8_copy 3 s args zt RX8 := S
  obtain ⟨hx, hb, hml, hown, hts⟩ := id S
  have hl : lv_has ls 3 [(0, .ref r), (1, .ref r2)] := hl
  refine lv_iconst (v := 0) hx hb dX8_copy_0 (by decide) ?_
  refine lv_istore_n (lv' := [(2, .int 0), (0, .ref r), (1, .ref r2)]) hx hb dX8_copy_1 rfl hl (by decide) rfl (fun ls hl => ?_)
  have X2 : ∀ (y1 : Nat → Int32), (lp_X8_copy_2 n f (n + 1) 0 g) = y1 → ∀ (ls : Array Slot), lv_has ls 3 [(0, .ref r), (1, .ref r2)] → ∀ (H : Heap) (locs : List Loc), va_P D vwCl [(r, .inl (cI, n, .inl f)), (r2, .inl (cI, n, .inl y1))] H → va_D A [(r, .inl (cI, n, .inl f)), (r2, .inl (cI, n, .inl y1))] → va_S A s.heap H locs → W p l e rm_X8_copy s m args below meth c H locs 0 0 Q (F0 m 34 ls []) := by
    intro y1 ey1 ls hl H locs hP hD hS
    subst ey1
    have hP := z_fun (k := 1) (g := f) hP rfl (fun j hj => zcopy_end n f g j hn31 hj)
    have hD := hD.set (p := 1) (e := .inl (cI, n, .inl f)) rfl
    have hP : va_P D vwCl [(r, .inl (cI, n, .inl f)), (r2, .inl (cI, n, .inl f))] H := hP
    have hD : va_D A [(r, .inl (cI, n, .inl f)), (r2, .inl (cI, n, .inl f))] := hD
    exact hret _ _ H locs () dX8_copy_34  trivial hP hS
  have L3 : ∀ (n6 : Nat) (k : Nat) (f1_2 : Nat → Int32), n - k < n6 → (k ≤ n) → lp_X8_copy_2 n f n6 k f1_2 = lp_X8_copy_2 n f (n + 1) 0 g → ∀ (ls : Array Slot), lv_has ls 3 [(0, .ref r), (1, .ref r2), (2, .int (nI k))] → ∀ (H : Heap) (locs : List Loc), va_P D vwCl [(r, .inl (cI, n, .inl f)), (r2, .inl (cI, n, .inl f1_2))] H → va_D A [(r, .inl (cI, n, .inl f)), (r2, .inl (cI, n, .inl f1_2))] → va_S A s.heap H locs → W p l e rm_X8_copy s m args below meth c H locs 0 0 Q (F0 m 2 ls []) := by
    intro n6
    induction n6 with
    | zero => intro k f1_2 hm; exact absurd hm (Nat.not_lt_zero _)
    | succ n6 ih5 =>
      intro k f1_2 hm7 hk hv4 ls hl H locs hP hD hS
      refine lv_aload_n hx hb dX8_copy_2 rfl (lv_at hl 0 rfl) ?_
      refine lv_ifnull hx hb dX8_copy_3 ?_
      refine lv_aload_n hx hb dX8_copy_6 rfl (lv_at hl 1 rfl) ?_
      refine lv_ifnull hx hb dX8_copy_7 ?_
      refine lv_iload_n hx hb dX8_copy_10 rfl (lv_at hl 2 rfl) ?_
      refine lv_aload_n hx hb dX8_copy_11 rfl (lv_at hl 0 rfl) ?_
      refine va_alen (D := D) (v := nI n) hx hb hT.1 hP 0 0 rfl rfl rfl dX8_copy_12 ?_
      refine lv_icmp_ge (tgt := 34) hx hb dX8_copy_13 (by decide) (fun c8 => ?_) (fun c8 => ?_)
      · have nc8 := zNle (a := n) (b := k) c8 (by omega) (by omega)
        exact X2 _ (by rw [← hv4, lp_X8_copy_2, if_pos c8]) ls (lv_sub hl [0, 1] rfl) H locs hP hD hS
      · have nc8 := zNnle (a := n) (b := k) c8 (by omega) (by omega)
        refine lv_iload_n hx hb dX8_copy_16 rfl (lv_at hl 2 rfl) ?_
        refine lv_aload_n hx hb dX8_copy_17 rfl (lv_at hl 1 rfl) ?_
        refine va_alen (D := D) (v := nI n) hx hb hT.1 hP 1 0 rfl rfl rfl dX8_copy_18 ?_
        refine lv_icmp_ge (tgt := 34) hx hb dX8_copy_19 (by decide) (fun c9 => ?_) (fun c9 => ?_)
        · have nc9 := zNle (a := n) (b := k) c9 (by omega) (by omega)
          exact X2 _ (by rw [← hv4, lp_X8_copy_2, if_pos c9]) ls (lv_sub hl [0, 1] rfl) H locs hP hD hS
        · have nc9 := zNnle (a := n) (b := k) c9 (by omega) (by omega)
          refine lv_aload_n hx hb dX8_copy_22 rfl (lv_at hl 1 rfl) ?_
          refine lv_iload_n hx hb dX8_copy_23 rfl (lv_at hl 2 rfl) ?_
          refine lv_aload_n hx hb dX8_copy_24 rfl (lv_at hl 0 rfl) ?_
          refine lv_iload_n hx hb dX8_copy_25 rfl (lv_at hl 2 rfl) ?_
          refine zald (D := D) (k := k) hx hb hT.1 hP 0 0 rfl rfl (by omega) (by omega) dX8_copy_26 ?_
          refine zast (D := D) (k := k) hx hb hT.1 hP hD hS 1 0 rfl rfl (by omega) (by omega) dX8_copy_27 (fun H locs hP hD hS => ?_)
          have hP : va_P D vwCl [(r, .inl (cI, n, .inl f)), (r2, .inl (cI, n, .inl (upd f1_2 k (f k))))] H := hP
          have hD : va_D A [(r, .inl (cI, n, .inl f)), (r2, .inl (cI, n, .inl (upd f1_2 k (f k))))] := hD
          refine lv_iinc (v := nI (k + 1)) (lv' := [(2, .int (nI (k + 1))), (0, .ref r), (1, .ref r2)]) hx hb dX8_copy_28 hl (k := 2) rfl (nI_1 k) (by decide) rfl (fun ls hl => ?_)
          refine lv_goto (tgt := 2) hx hb dX8_copy_31 (by decide) ?_
          exact ih5 (k + 1) (upd f1_2 k (f k)) (by omega) (by omega) (by rw [← hv4, lp_X8_copy_2, if_neg c9, if_neg c9]) ls (lv_sub hl [1, 2, 0] rfl) H locs hP hD hS
  exact L3 (n + 1) 0 g (by omega) (by omega) rfl ls (lv_sub hl [1, 2, 0] rfl) s.heap [] hP hD hS
