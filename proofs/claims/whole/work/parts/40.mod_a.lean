def s_X9_in (v : Int64) (lo : Int64) (hi : Int64) : Int32 := if lg_cmp v lo < 0 then 0 else (if 0 < lg_cmp v hi then 0 else 1)
abbrev rm_X9_in : Room := { frames := 0, cells := 0, slots := 0, locals := 0 }
set_option maxRecDepth 100000 in
set_option maxHeartbeats 4000000 in
theorem c_X9_in (l : Launch) (D : va_G) (cI cZ : ClassId) (v lo hi : Int64) : Met l yX9_in [.code yX9_in cX9_in 6 (some .boolean)] rm_X9_in (PcR D cI cZ [.long v, .long lo, .long hi] []) (QcR (some (.int (s_X9_in v lo hi)))) 0 0 zN := by
  refine mtRz (by first | rfl | (unfold s_X9_in; repeat (first | rfl | split))) (by decide) (Nat.le_of_ble_eq_true rfl) (fun p e s m args below meth c Q S hT hP hret ls hl => ?_)
  have S : CallFix p m c cX9_in 6 s args zt RX9 := S
  obtain ⟨hx, hb, hml, hown, hts⟩ := id S
  have hl : lv_has ls 6 [(0, .long v), (2, .long lo), (4, .long hi)] := hl
  refine lv_lload_n hx hb dX9_in_0 rfl (lv_at hl 0 rfl) ?_
  refine lv_lload_n hx hb dX9_in_1 rfl (lv_at hl 1 rfl) ?_
  refine W.lcmp hx hb dX9_in_2 ?_
  refine lv_if_lt (tgt := 17) hx hb dX9_in_3 (by decide) (fun c1 => ?_) (fun c1 => ?_)
  · refine lv_iconst (v := 0) hx hb dX9_in_17 (by decide) ?_
    exact hret _ _ _ dX9_in_18 (by unfold s_X9_in; rw [if_pos c1])
  · refine lv_lload_n hx hb dX9_in_6 rfl (lv_at hl 0 rfl) ?_
    refine lv_lload hx hb dX9_in_7 (lv_at hl 2 rfl) ?_
    refine W.lcmp hx hb dX9_in_9 ?_
    refine lv_if_gt (tgt := 17) hx hb dX9_in_10 (by decide) (fun c2 => ?_) (fun c2 => ?_)
    · refine lv_iconst (v := 0) hx hb dX9_in_17 (by decide) ?_
      exact hret _ _ _ dX9_in_18 (by unfold s_X9_in; rw [if_neg c1, if_pos c2])
    · refine lv_iconst (v := 1) hx hb dX9_in_13 (by decide) ?_
      refine lv_goto (tgt := 18) hx hb dX9_in_14 (by decide) ?_
      exact hret _ _ _ dX9_in_18 (by unfold s_X9_in; rw [if_neg c1, if_neg c2])
theorem zi64 {a b : Int32} : a.toInt64 ≤ b.toInt64 ↔ a ≤ b := by rw [Int64.le_iff_toInt_le, Int32.le_iff_toInt_le, Int32.toInt_toInt64, Int32.toInt_toInt64]
theorem zin_of {v a b : Int64} (h : ¬ s_X9_in v a b = 0) : a ≤ v ∧ v ≤ b := by
  unfold s_X9_in at h
  by_cases c : lg_cmp v a < 0
  · rw [if_pos c] at h; exact absurd rfl h
  · rw [if_neg c] at h
    by_cases d : 0 < lg_cmp v b
    · rw [if_pos d] at h; exact absurd rfl h
    · exact ⟨Int64.not_lt.mp (fun q => c ((lg_cmp_lt v a).mpr q)), Int64.not_lt.mp (fun q => d ((lg_cmp_gt v b).mpr q))⟩
theorem zin32 {v : Int32} {a b : Int64} {lo hi : Int32} (h : ¬ s_X9_in v.toInt64 a b = 0) (ha : a = lo.toInt64) (hb : b = hi.toInt64) : lo ≤ v ∧ v ≤ hi := by
  subst ha hb
  have := zin_of h
  exact ⟨zi64.mp this.1, zi64.mp this.2⟩
theorem zle_vp {v hi : Int32} {n : Nat} (h0 : 0 ≤ v) (h1 : v ≤ hi) (hh : hi.toInt < n) : vp_in v n := by
  rw [Int32.le_iff_toInt_le] at h0 h1
  exact vp_in_iff.mpr ⟨h0, by omega⟩
theorem zinv {v : Int32} {b : Int64} {hi : Int32} {n : Nat} (h : ¬ s_X9_in v.toInt64 0 b = 0) (hb : b = hi.toInt64) (hh : hi.toInt < n) : vp_in v n := by
  have := zin32 (lo := 0) h (by decide) hb
  exact zle_vp this.1 this.2 hh
theorem zst0 {x : Int32} (h : 1 ≤ x) : ¬ x = 0 := fun e => by rw [e] at h; exact absurd h (by decide)
theorem zhv {x : Int32} (h : x = -6 ∨ ∃ j, j < 6 ∧ x = nI j) (c : ¬ x < 0) : vp_in x 6 := by
  rcases h with h | ⟨j, hj, h⟩
  · rw [h] at c; exact absurd (by decide) c
  · rw [h]; exact vp_in_nI hj (by decide)
theorem zadd01 {q : Nat} {C : Prop} [Decidable C] : nI q + (if C then (1 : Int32) else 0) = nI (q + if C then 1 else 0) := by
  split
  · exact nI_1 q
  · rw [Int32.add_zero, Nat.add_zero]
abbrev rm_X9_isThing : Room := { frames := 1, cells := 0, slots := 0, locals := 25 }
set_option maxRecDepth 100000 in
set_option maxHeartbeats 4000000 in
theorem c_X9_isThing (l : Launch) (D : va_G) (cI cZ : ClassId) (t : Int32) : Met l yX9_isThing [.code yX9_isThing cX9_isThing 1 (some .boolean)] rm_X9_isThing (PcR D cI cZ [.int t] []) (QcR (some (.int (s_X9_in (Int32.toInt64 t) 0 5)))) 0 0 zN := by
  refine mtRz (by first | rfl | (unfold s_X9_in; repeat (first | rfl | split))) (by decide) (Nat.le_of_ble_eq_true rfl) (fun p e s m args below meth c Q S hT hP hret ls hl => ?_)
  have S : CallFix p m c cX9_isThing 1 s args zt RX9 := S
  obtain ⟨hx, hb, hml, hown, hts⟩ := id S
  have hl : lv_has ls 1 [(0, .int t)] := hl
  refine lv_iload_n hx hb dX9_isThing_0 rfl (lv_at hl 0 rfl) ?_
  refine lv_i2l (v := Int32.toInt64 t) hx hb dX9_isThing_1 rfl ?_
  refine lv_lconst (v := 0) hx hb dX9_isThing_2 (by decide) ?_
  refine lv_ldc2 (v := 5) hx hb hown (hts _ ct_RX9_79) dX9_isThing_3 ?_
  refine kRS (st1 := [.int (s_X9_in (Int32.toInt64 t) 0 5)]) S hT hP (c_X9_in l D cI cZ (Int32.toInt64 t) 0 5) rfl rfl mw_X9_in lk_RX9_71 ⟨rfl, rfl, (Nat.le_of_ble_eq_true rfl), (Nat.le_of_ble_eq_true rfl), (Nat.le_of_ble_eq_true rfl), (Nat.le_of_ble_eq_true rfl)⟩ [] rfl hl.1 (Nat.le_of_ble_eq_true rfl) dX9_isThing_6 ?_
  exact hret _ _ _ dX9_isThing_9 rfl
abbrev rm_X9_isGoal : Room := { frames := 1, cells := 0, slots := 0, locals := 25 }
set_option maxRecDepth 100000 in
set_option maxHeartbeats 4000000 in
theorem c_X9_isGoal (l : Launch) (D : va_G) (cI cZ : ClassId) (t : Int32) : Met l yX9_isGoal [.code yX9_isGoal cX9_isGoal 1 (some .boolean)] rm_X9_isGoal (PcR D cI cZ [.int t] []) (QcR (some (.int (s_X9_in (Int32.toInt64 t) (-600) 600)))) 0 0 zN := by
  refine mtRz (by first | rfl | (unfold s_X9_in; repeat (first | rfl | split))) (by decide) (Nat.le_of_ble_eq_true rfl) (fun p e s m args below meth c Q S hT hP hret ls hl => ?_)
  have S : CallFix p m c cX9_isGoal 1 s args zt RX9 := S
  obtain ⟨hx, hb, hml, hown, hts⟩ := id S
  have hl : lv_has ls 1 [(0, .int t)] := hl
  refine lv_iload_n hx hb dX9_isGoal_0 rfl (lv_at hl 0 rfl) ?_
  refine lv_i2l (v := Int32.toInt64 t) hx hb dX9_isGoal_1 rfl ?_
  refine lv_ldc2 (v := (-600)) hx hb hown (hts _ ct_RX9_163) dX9_isGoal_2 ?_
  refine lv_ldc2 (v := 600) hx hb hown (hts _ ct_RX9_165) dX9_isGoal_5 ?_
  refine kRS (st1 := [.int (s_X9_in (Int32.toInt64 t) (-600) 600)]) S hT hP (c_X9_in l D cI cZ (Int32.toInt64 t) (-600) 600) rfl rfl mw_X9_in lk_RX9_71 ⟨rfl, rfl, (Nat.le_of_ble_eq_true rfl), (Nat.le_of_ble_eq_true rfl), (Nat.le_of_ble_eq_true rfl), (Nat.le_of_ble_eq_true rfl)⟩ [] rfl hl.1 (Nat.le_of_ble_eq_true rfl) dX9_isGoal_8 ?_
  exact hret _ _ _ dX9_isGoal_11 rfl
def s_X9_isSpan (fr : Int32) (to : Int32) : Int32 := if (s_X9_in (Int32.toInt64 fr) (-600) 600) = 0 then 0 else (if (s_X9_in (Int32.toInt64 to) (Int32.toInt64 fr) 600) = 0 then 0 else 1)
abbrev rm_X9_isSpan : Room := { frames := 2, cells := 0, slots := 0, locals := 45 }
set_option maxRecDepth 100000 in
set_option maxHeartbeats 4000000 in
theorem c_X9_isSpan (l : Launch) (D : va_G) (cI cZ : ClassId) (fr to : Int32) : Met l yX9_isSpan [.code yX9_isSpan cX9_isSpan 2 (some .boolean)] rm_X9_isSpan (PcR D cI cZ [.int fr, .int to] []) (QcR (some (.int (s_X9_isSpan fr to)))) 0 0 zN := by
  refine mtRz (by first | rfl | (unfold s_X9_isSpan; repeat (first | rfl | split))) (by decide) (Nat.le_of_ble_eq_true rfl) (fun p e s m args below meth c Q S hT hP hret ls hl => ?_)
  have S : CallFix p m c cX9_isSpan 2 s args zt RX9 := S
  obtain ⟨hx, hb, hml, hown, hts⟩ := id S
  have hl : lv_has ls 2 [(0, .int fr), (1, .int to)] := hl
  refine lv_iload_n hx hb dX9_isSpan_0 rfl (lv_at hl 0 rfl) ?_
  refine kRS (st1 := [.int (s_X9_in (Int32.toInt64 fr) (-600) 600)]) S hT hP (c_X9_isGoal l D cI cZ fr) rfl rfl mw_X9_isGoal lk_RX9_167 ⟨rfl, rfl, (Nat.le_of_ble_eq_true rfl), (Nat.le_of_ble_eq_true rfl), (Nat.le_of_ble_eq_true rfl), (Nat.le_of_ble_eq_true rfl)⟩ [] rfl hl.1 (Nat.le_of_ble_eq_true rfl) dX9_isSpan_1 ?_
  refine lv_if_eq (tgt := 24) hx hb dX9_isSpan_4 (by decide) (fun c1 => ?_) (fun c1 => ?_)
  · refine lv_iconst (v := 0) hx hb dX9_isSpan_24 (by decide) ?_
    exact hret _ _ _ dX9_isSpan_25 (by unfold s_X9_isSpan; rw [if_pos c1])
  · refine lv_iload_n hx hb dX9_isSpan_7 rfl (lv_at hl 1 rfl) ?_
    refine lv_i2l (v := Int32.toInt64 to) hx hb dX9_isSpan_8 rfl ?_
    refine lv_iload_n hx hb dX9_isSpan_9 rfl (lv_at hl 0 rfl) ?_
    refine lv_i2l (v := Int32.toInt64 fr) hx hb dX9_isSpan_10 rfl ?_
    refine lv_ldc2 (v := 600) hx hb hown (hts _ ct_RX9_165) dX9_isSpan_11 ?_
    refine kRS (st1 := [.int (s_X9_in (Int32.toInt64 to) (Int32.toInt64 fr) 600)]) S hT hP (c_X9_in l D cI cZ (Int32.toInt64 to) (Int32.toInt64 fr) 600) rfl rfl mw_X9_in lk_RX9_71 ⟨rfl, rfl, (Nat.le_of_ble_eq_true rfl), (Nat.le_of_ble_eq_true rfl), (Nat.le_of_ble_eq_true rfl), (Nat.le_of_ble_eq_true rfl)⟩ [] rfl hl.1 (Nat.le_of_ble_eq_true rfl) dX9_isSpan_14 ?_
    refine lv_if_eq (tgt := 24) hx hb dX9_isSpan_17 (by decide) (fun c2 => ?_) (fun c2 => ?_)
    · refine lv_iconst (v := 0) hx hb dX9_isSpan_24 (by decide) ?_
      exact hret _ _ _ dX9_isSpan_25 (by unfold s_X9_isSpan; rw [if_neg c1, if_pos c2])
    · refine lv_iconst (v := 1) hx hb dX9_isSpan_20 (by decide) ?_
      refine lv_goto (tgt := 25) hx hb dX9_isSpan_21 (by decide) ?_
      exact hret _ _ _ dX9_isSpan_25 (by unfold s_X9_isSpan; rw [if_neg c1, if_neg c2])
def s_X9_wind (ea : Nat → Int32) (la : Nat → Int32) (hh : Int32) (lt : Int32) (v : Int32) : Int32 := if (s_X9_in (Int32.toInt64 hh) 0 4) = 0 then (-1) else (if (s_X9_in (Int32.toInt64 lt) 0 1) = 0 then (-2) else (if (s_X9_in (Int32.toInt64 v) (-9) 9) = 0 then (-2) else ((if lt = 0 then ea hh.toNatClampNeg else la hh.toNatClampNeg) : Int32) + 100))
def s_X9_wind_ea (ea : Nat → Int32) (hh : Int32) (lt : Int32) (v : Int32) : Nat → Int32 := if (s_X9_in (Int32.toInt64 hh) 0 4) = 0 then ea else (if (s_X9_in (Int32.toInt64 lt) 0 1) = 0 then ea else (if (s_X9_in (Int32.toInt64 v) (-9) 9) = 0 then ea else upd ea hh.toNatClampNeg ((if lt = 0 then v else ea hh.toNatClampNeg) : Int32)))
def s_X9_wind_la (la : Nat → Int32) (hh : Int32) (lt : Int32) (v : Int32) : Nat → Int32 := if (s_X9_in (Int32.toInt64 hh) 0 4) = 0 then la else (if (s_X9_in (Int32.toInt64 lt) 0 1) = 0 then la else (if (s_X9_in (Int32.toInt64 v) (-9) 9) = 0 then la else (if lt = 1 then upd la hh.toNatClampNeg v else upd la hh.toNatClampNeg (la hh.toNatClampNeg))))
abbrev rm_X9_wind : Room := { frames := 1, cells := 0, slots := 0, locals := 25 }
set_option maxRecDepth 100000 in
set_option maxHeartbeats 4000000 in
theorem c_X9_wind (l : Launch) (D : va_G) (cI cZ : ClassId) (mo rea rla rwe rst rsp rpa rsa rta rbe rfa rpl rke rik sn pn ka : Nat) (tu ga lk stp dbt win plc mnt lft abd iw : Int32) (ea la we mT mP pa sa ta be fa pq ke ik : Nat → Int32) (hh lt v : Int32) : Met l yX9_wind [.code yX9_wind cX9_wind 5 (some .int)] rm_X9_wind (PcW D cI cZ [.ref mo, .int hh, .int lt, .int v] [(mo, .inr (9, [.int tu, .int ga, .int lk, .int stp, .int dbt, .int win, .ref rea, .ref rla, .ref rwe, .ref rst, .ref rsp, .int (nI sn), .ref rpa, .int (nI pn), .int plc, .int mnt, .int lft, .int abd, .ref rsa, .ref rta, .ref rbe, .ref rfa, .ref rpl, .ref rke, .ref rik, .int (nI ka), .int iw])), (rea, .inl (cI, 5, .inl ea)), (rla, .inl (cI, 5, .inl la)), (rwe, .inl (cI, 6, .inl we)), (rst, .inl (cI, 6, .inl mT)), (rsp, .inl (cI, 6, .inl mP)), (rpa, .inl (cI, 60, .inl pa)), (rsa, .inl (cI, 61, .inl sa)), (rta, .inl (cI, 12, .inl ta)), (rbe, .inl (cI, 12, .inl be)), (rfa, .inl (cI, 6, .inl fa)), (rpl, .inl (cI, 60, .inl pq)), (rke, .inl (cI, 100, .inl ke)), (rik, .inl (cZ, 2, .inl ik))]) (QcE D (S := Unit) (some (.int (s_X9_wind ea la hh lt v))) (fun _ => True) (fun _ => [(mo, .inr (9, [.int tu, .int ga, .int lk, .int stp, .int dbt, .int win, .ref rea, .ref rla, .ref rwe, .ref rst, .ref rsp, .int (nI sn), .ref rpa, .int (nI pn), .int plc, .int mnt, .int lft, .int abd, .ref rsa, .ref rta, .ref rbe, .ref rfa, .ref rpl, .ref rke, .ref rik, .int (nI ka), .int iw])), (rea, .inl (cI, 5, .inl (s_X9_wind_ea ea hh lt v))), (rla, .inl (cI, 5, .inl (s_X9_wind_la la hh lt v))), (rwe, .inl (cI, 6, .inl we)), (rst, .inl (cI, 6, .inl mT)), (rsp, .inl (cI, 6, .inl mP)), (rpa, .inl (cI, 60, .inl pa)), (rsa, .inl (cI, 61, .inl sa)), (rta, .inl (cI, 12, .inl ta)), (rbe, .inl (cI, 12, .inl be)), (rfa, .inl (cI, 6, .inl fa)), (rpl, .inl (cI, 60, .inl pq)), (rke, .inl (cI, 100, .inl ke)), (rik, .inl (cZ, 2, .inl ik))]) (zA [(mo, .inr (9, [.int tu, .int ga, .int lk, .int stp, .int dbt, .int win, .ref rea, .ref rla, .ref rwe, .ref rst, .ref rsp, .int (nI sn), .ref rpa, .int (nI pn), .int plc, .int mnt, .int lft, .int abd, .ref rsa, .ref rta, .ref rbe, .ref rfa, .ref rpl, .ref rke, .ref rik, .int (nI ka), .int iw])), (rea, .inl (cI, 5, .inl ea)), (rla, .inl (cI, 5, .inl la)), (rwe, .inl (cI, 6, .inl we)), (rst, .inl (cI, 6, .inl mT)), (rsp, .inl (cI, 6, .inl mP)), (rpa, .inl (cI, 60, .inl pa)), (rsa, .inl (cI, 61, .inl sa)), (rta, .inl (cI, 12, .inl ta)), (rbe, .inl (cI, 12, .inl be)), (rfa, .inl (cI, 6, .inl fa)), (rpl, .inl (cI, 60, .inl pq)), (rke, .inl (cI, 100, .inl ke)), (rik, .inl (cZ, 2, .inl ik))])) 0 0 (zA [(mo, .inr (9, [.int tu, .int ga, .int lk, .int stp, .int dbt, .int win, .ref rea, .ref rla, .ref rwe, .ref rst, .ref rsp, .int (nI sn), .ref rpa, .int (nI pn), .int plc, .int mnt, .int lft, .int abd, .ref rsa, .ref rta, .ref rbe, .ref rfa, .ref rpl, .ref rke, .ref rik, .int (nI ka), .int iw])), (rea, .inl (cI, 5, .inl ea)), (rla, .inl (cI, 5, .inl la)), (rwe, .inl (cI, 6, .inl we)), (rst, .inl (cI, 6, .inl mT)), (rsp, .inl (cI, 6, .inl mP)), (rpa, .inl (cI, 60, .inl pa)), (rsa, .inl (cI, 61, .inl sa)), (rta, .inl (cI, 12, .inl ta)), (rbe, .inl (cI, 12, .inl be)), (rfa, .inl (cI, 6, .inl fa)), (rpl, .inl (cI, 60, .inl pq)), (rke, .inl (cI, 100, .inl ke)), (rik, .inl (cZ, 2, .inl ik))]) := by
  refine mtWi (by decide) (Nat.le_of_ble_eq_true rfl) (fun p e s m args below meth c Q A S hT hP hD hS hret ls hl => ?_)
  have S : CallFix p m c cX9_wind 5 s args zt RX9 := S
  obtain ⟨hx, hb, hml, hown, hts⟩ := id S
  have hl : lv_has ls 5 [(0, .ref mo), (1, .int hh), (2, .int lt), (3, .int v)] := hl
  refine lv_iload_n hx hb dX9_wind_0 rfl (lv_at hl 1 rfl) ?_
  refine lv_i2l (v := Int32.toInt64 hh) hx hb dX9_wind_1 rfl ?_
  refine lv_lconst (v := 0) hx hb dX9_wind_2 (by decide) ?_
  refine lv_ldc2 (v := 4) hx hb hown (hts _ ct_RX9_69) dX9_wind_3 ?_
  refine kRS (st1 := [.int (s_X9_in (Int32.toInt64 hh) 0 4)]) S hT hP (c_X9_in l D cI cZ (Int32.toInt64 hh) 0 4) rfl rfl mw_X9_in lk_RX9_71 ⟨rfl, rfl, (Nat.le_of_ble_eq_true rfl), (Nat.le_of_ble_eq_true rfl), (Nat.le_of_ble_eq_true rfl), (Nat.le_of_ble_eq_true rfl)⟩ [] rfl hl.1 (Nat.le_of_ble_eq_true rfl) dX9_wind_6 ?_
  refine lv_if_ne (tgt := 14) hx hb dX9_wind_9 (by decide) (fun c1 => ?_) (fun c1 => ?_)
  · refine lv_iload_n hx hb dX9_wind_14 rfl (lv_at hl 2 rfl) ?_
    refine lv_i2l (v := Int32.toInt64 lt) hx hb dX9_wind_15 rfl ?_
    refine lv_lconst (v := 0) hx hb dX9_wind_16 (by decide) ?_
    refine lv_lconst (v := 1) hx hb dX9_wind_17 (by decide) ?_
    refine kRS (st1 := [.int (s_X9_in (Int32.toInt64 lt) 0 1)]) S hT hP (c_X9_in l D cI cZ (Int32.toInt64 lt) 0 1) rfl rfl mw_X9_in lk_RX9_71 ⟨rfl, rfl, (Nat.le_of_ble_eq_true rfl), (Nat.le_of_ble_eq_true rfl), (Nat.le_of_ble_eq_true rfl), (Nat.le_of_ble_eq_true rfl)⟩ [] rfl hl.1 (Nat.le_of_ble_eq_true rfl) dX9_wind_18 ?_
    refine lv_if_eq (tgt := 38) hx hb dX9_wind_21 (by decide) (fun c2 => ?_) (fun c2 => ?_)
    · refine lv_bipush (v := (-2)) hx hb dX9_wind_38 (by decide) ?_
      have eo1 : s_X9_wind_ea ea hh lt v = ea := (by unfold s_X9_wind_ea; rw [if_neg c1, if_pos c2])
      have eo2 : s_X9_wind_la la hh lt v = la := (by unfold s_X9_wind_la; rw [if_neg c1, if_pos c2])
      exact hret _ _ _ s.heap [] () dX9_wind_40 (by unfold s_X9_wind; rw [if_neg c1, if_pos c2]) trivial (by show va_P D vwCl [(mo, .inr (9, [.int tu, .int ga, .int lk, .int stp, .int dbt, .int win, .ref rea, .ref rla, .ref rwe, .ref rst, .ref rsp, .int (nI sn), .ref rpa, .int (nI pn), .int plc, .int mnt, .int lft, .int abd, .ref rsa, .ref rta, .ref rbe, .ref rfa, .ref rpl, .ref rke, .ref rik, .int (nI ka), .int iw])), (rea, .inl (cI, 5, .inl (s_X9_wind_ea ea hh lt v))), (rla, .inl (cI, 5, .inl (s_X9_wind_la la hh lt v))), (rwe, .inl (cI, 6, .inl we)), (rst, .inl (cI, 6, .inl mT)), (rsp, .inl (cI, 6, .inl mP)), (rpa, .inl (cI, 60, .inl pa)), (rsa, .inl (cI, 61, .inl sa)), (rta, .inl (cI, 12, .inl ta)), (rbe, .inl (cI, 12, .inl be)), (rfa, .inl (cI, 6, .inl fa)), (rpl, .inl (cI, 60, .inl pq)), (rke, .inl (cI, 100, .inl ke)), (rik, .inl (cZ, 2, .inl ik))] s.heap; rw [eo1, eo2]; exact hP) hS
    · refine lv_iload_n hx hb dX9_wind_24 rfl (lv_at hl 3 rfl) ?_
      refine lv_i2l (v := Int32.toInt64 v) hx hb dX9_wind_25 rfl ?_
      refine lv_ldc2 (v := (-9)) hx hb hown (hts _ ct_RX9_75) dX9_wind_26 ?_
      refine lv_ldc2 (v := 9) hx hb hown (hts _ ct_RX9_77) dX9_wind_29 ?_
      refine kRS (st1 := [.int (s_X9_in (Int32.toInt64 v) (-9) 9)]) S hT hP (c_X9_in l D cI cZ (Int32.toInt64 v) (-9) 9) rfl rfl mw_X9_in lk_RX9_71 ⟨rfl, rfl, (Nat.le_of_ble_eq_true rfl), (Nat.le_of_ble_eq_true rfl), (Nat.le_of_ble_eq_true rfl), (Nat.le_of_ble_eq_true rfl)⟩ [] rfl hl.1 (Nat.le_of_ble_eq_true rfl) dX9_wind_32 ?_
      refine lv_if_ne (tgt := 41) hx hb dX9_wind_35 (by decide) (fun c3 => ?_) (fun c3 => ?_)
      · refine lv_iload_n hx hb dX9_wind_41 rfl (lv_at hl 2 rfl) ?_
        have J5 : ∀ (z4 : Int32), ((if lt = 0 then ea hh.toNatClampNeg else la hh.toNatClampNeg) : Int32) = z4 → W p l e rm_X9_wind s m args below meth c s.heap [] 0 0 Q (F0 m 60 ls [.int z4]) := by
          intro z4 ez4
          subst ez4
          refine lv_istore (lv' := [(4, .int ((if lt = 0 then ea hh.toNatClampNeg else la hh.toNatClampNeg) : Int32)), (0, .ref mo), (1, .int hh), (2, .int lt), (3, .int v)]) hx hb dX9_wind_60 hl (by decide) rfl (fun ls hl => ?_)
          refine lv_aload_n hx hb dX9_wind_62 rfl (lv_at hl 1 rfl) ?_
          refine va_get (D := D) (ci := 9) (v := .ref rea) (C := RX9) (T := TX9) (N := 27) hx hb hts in_X9 hown hT.1 hP 0 rfl rfl 6 (by decide) (hts _ fl_RX9_7) (fun _ h9 => h9) rfl dX9_wind_63 ?_
          refine lv_iload_n hx hb dX9_wind_66 rfl (lv_at hl 2 rfl) ?_
          refine lv_iload_n hx hb dX9_wind_67 rfl (lv_at hl 3 rfl) ?_
          have J7 : ∀ (z6 : Int32), ((if lt = 0 then v else ea hh.toNatClampNeg) : Int32) = z6 → W p l e rm_X9_wind s m args below meth c s.heap [] 0 0 Q (F0 m 81 ls [.int z6, .int hh, .ref rea]) := by
            intro z6 ez6
            subst ez6
            refine va_iast (D := D) hx hb hT.1 hP hD hS 1 0 rfl rfl (zinv c1 (hi := 4) (by decide) (by decide)) dX9_wind_81 (fun H locs hP hD hS => ?_)
            have hP : va_P D vwCl [(mo, .inr (9, [.int tu, .int ga, .int lk, .int stp, .int dbt, .int win, .ref rea, .ref rla, .ref rwe, .ref rst, .ref rsp, .int (nI sn), .ref rpa, .int (nI pn), .int plc, .int mnt, .int lft, .int abd, .ref rsa, .ref rta, .ref rbe, .ref rfa, .ref rpl, .ref rke, .ref rik, .int (nI ka), .int iw])), (rea, .inl (cI, 5, .inl (upd ea hh.toNatClampNeg ((if lt = 0 then v else ea hh.toNatClampNeg) : Int32)))), (rla, .inl (cI, 5, .inl la)), (rwe, .inl (cI, 6, .inl we)), (rst, .inl (cI, 6, .inl mT)), (rsp, .inl (cI, 6, .inl mP)), (rpa, .inl (cI, 60, .inl pa)), (rsa, .inl (cI, 61, .inl sa)), (rta, .inl (cI, 12, .inl ta)), (rbe, .inl (cI, 12, .inl be)), (rfa, .inl (cI, 6, .inl fa)), (rpl, .inl (cI, 60, .inl pq)), (rke, .inl (cI, 100, .inl ke)), (rik, .inl (cZ, 2, .inl ik))] H := hP
            have hD : va_D A [(mo, .inr (9, [.int tu, .int ga, .int lk, .int stp, .int dbt, .int win, .ref rea, .ref rla, .ref rwe, .ref rst, .ref rsp, .int (nI sn), .ref rpa, .int (nI pn), .int plc, .int mnt, .int lft, .int abd, .ref rsa, .ref rta, .ref rbe, .ref rfa, .ref rpl, .ref rke, .ref rik, .int (nI ka), .int iw])), (rea, .inl (cI, 5, .inl (upd ea hh.toNatClampNeg ((if lt = 0 then v else ea hh.toNatClampNeg) : Int32)))), (rla, .inl (cI, 5, .inl la)), (rwe, .inl (cI, 6, .inl we)), (rst, .inl (cI, 6, .inl mT)), (rsp, .inl (cI, 6, .inl mP)), (rpa, .inl (cI, 60, .inl pa)), (rsa, .inl (cI, 61, .inl sa)), (rta, .inl (cI, 12, .inl ta)), (rbe, .inl (cI, 12, .inl be)), (rfa, .inl (cI, 6, .inl fa)), (rpl, .inl (cI, 60, .inl pq)), (rke, .inl (cI, 100, .inl ke)), (rik, .inl (cZ, 2, .inl ik))] := hD
            refine lv_aload_n hx hb dX9_wind_82 rfl (lv_at hl 1 rfl) ?_
            refine va_get (D := D) (ci := 9) (v := .ref rla) (C := RX9) (T := TX9) (N := 27) hx hb hts in_X9 hown hT.1 hP 0 rfl rfl 7 (by decide) (hts _ fl_RX9_13) (fun _ h9 => h9) rfl dX9_wind_83 ?_
            refine lv_iload_n hx hb dX9_wind_86 rfl (lv_at hl 2 rfl) ?_
            refine lv_iload_n hx hb dX9_wind_87 rfl (lv_at hl 3 rfl) ?_
            refine lv_iconst (v := 1) hx hb dX9_wind_88 (by decide) ?_
            refine lv_icmp_ne (tgt := 96) hx hb dX9_wind_89 (by decide) (fun c8 => ?_) (fun c8 => ?_)
            · refine lv_aload_n hx hb dX9_wind_96 rfl (lv_at hl 1 rfl) ?_
              refine va_get (D := D) (ci := 9) (v := .ref rla) (C := RX9) (T := TX9) (N := 27) hx hb hts in_X9 hown hT.1 hP 0 rfl rfl 7 (by decide) (hts _ fl_RX9_13) (fun _ h9 => h9) rfl dX9_wind_97 ?_
              refine lv_iload_n hx hb dX9_wind_100 rfl (lv_at hl 2 rfl) ?_
              refine va_iald (D := D) hx hb hT.1 hP 2 0 rfl rfl (zinv c1 (hi := 4) (by decide) (by decide)) dX9_wind_101 ?_
              refine va_iast (D := D) hx hb hT.1 hP hD hS 2 0 rfl rfl (zinv c1 (hi := 4) (by decide) (by decide)) dX9_wind_102 (fun H locs hP hD hS => ?_)
              have hP : va_P D vwCl [(mo, .inr (9, [.int tu, .int ga, .int lk, .int stp, .int dbt, .int win, .ref rea, .ref rla, .ref rwe, .ref rst, .ref rsp, .int (nI sn), .ref rpa, .int (nI pn), .int plc, .int mnt, .int lft, .int abd, .ref rsa, .ref rta, .ref rbe, .ref rfa, .ref rpl, .ref rke, .ref rik, .int (nI ka), .int iw])), (rea, .inl (cI, 5, .inl (upd ea hh.toNatClampNeg ((if lt = 0 then v else ea hh.toNatClampNeg) : Int32)))), (rla, .inl (cI, 5, .inl (upd la hh.toNatClampNeg (la hh.toNatClampNeg)))), (rwe, .inl (cI, 6, .inl we)), (rst, .inl (cI, 6, .inl mT)), (rsp, .inl (cI, 6, .inl mP)), (rpa, .inl (cI, 60, .inl pa)), (rsa, .inl (cI, 61, .inl sa)), (rta, .inl (cI, 12, .inl ta)), (rbe, .inl (cI, 12, .inl be)), (rfa, .inl (cI, 6, .inl fa)), (rpl, .inl (cI, 60, .inl pq)), (rke, .inl (cI, 100, .inl ke)), (rik, .inl (cZ, 2, .inl ik))] H := hP
              have hD : va_D A [(mo, .inr (9, [.int tu, .int ga, .int lk, .int stp, .int dbt, .int win, .ref rea, .ref rla, .ref rwe, .ref rst, .ref rsp, .int (nI sn), .ref rpa, .int (nI pn), .int plc, .int mnt, .int lft, .int abd, .ref rsa, .ref rta, .ref rbe, .ref rfa, .ref rpl, .ref rke, .ref rik, .int (nI ka), .int iw])), (rea, .inl (cI, 5, .inl (upd ea hh.toNatClampNeg ((if lt = 0 then v else ea hh.toNatClampNeg) : Int32)))), (rla, .inl (cI, 5, .inl (upd la hh.toNatClampNeg (la hh.toNatClampNeg)))), (rwe, .inl (cI, 6, .inl we)), (rst, .inl (cI, 6, .inl mT)), (rsp, .inl (cI, 6, .inl mP)), (rpa, .inl (cI, 60, .inl pa)), (rsa, .inl (cI, 61, .inl sa)), (rta, .inl (cI, 12, .inl ta)), (rbe, .inl (cI, 12, .inl be)), (rfa, .inl (cI, 6, .inl fa)), (rpl, .inl (cI, 60, .inl pq)), (rke, .inl (cI, 100, .inl ke)), (rik, .inl (cZ, 2, .inl ik))] := hD
              refine lv_iload hx hb dX9_wind_103 (lv_at hl 0 rfl) ?_
              refine lv_bipush (v := 100) hx hb dX9_wind_105 (by decide) ?_
              refine lv_iadd hx hb dX9_wind_107 ?_
              have eo1 : s_X9_wind_ea ea hh lt v = upd ea hh.toNatClampNeg ((if lt = 0 then v else ea hh.toNatClampNeg) : Int32) := (by unfold s_X9_wind_ea; rw [if_neg c1, if_neg c2, if_neg c3])
              have eo2 : s_X9_wind_la la hh lt v = upd la hh.toNatClampNeg (la hh.toNatClampNeg) := (by unfold s_X9_wind_la; rw [if_neg c1, if_neg c2, if_neg c3, if_neg c8])
              exact hret _ _ _ H locs () dX9_wind_108 (by unfold s_X9_wind; rw [if_neg c1, if_neg c2, if_neg c3]) trivial (by show va_P D vwCl [(mo, .inr (9, [.int tu, .int ga, .int lk, .int stp, .int dbt, .int win, .ref rea, .ref rla, .ref rwe, .ref rst, .ref rsp, .int (nI sn), .ref rpa, .int (nI pn), .int plc, .int mnt, .int lft, .int abd, .ref rsa, .ref rta, .ref rbe, .ref rfa, .ref rpl, .ref rke, .ref rik, .int (nI ka), .int iw])), (rea, .inl (cI, 5, .inl (s_X9_wind_ea ea hh lt v))), (rla, .inl (cI, 5, .inl (s_X9_wind_la la hh lt v))), (rwe, .inl (cI, 6, .inl we)), (rst, .inl (cI, 6, .inl mT)), (rsp, .inl (cI, 6, .inl mP)), (rpa, .inl (cI, 60, .inl pa)), (rsa, .inl (cI, 61, .inl sa)), (rta, .inl (cI, 12, .inl ta)), (rbe, .inl (cI, 12, .inl be)), (rfa, .inl (cI, 6, .inl fa)), (rpl, .inl (cI, 60, .inl pq)), (rke, .inl (cI, 100, .inl ke)), (rik, .inl (cZ, 2, .inl ik))] H; rw [eo1, eo2]; exact hP) hS
            · refine lv_iload_n hx hb dX9_wind_92 rfl (lv_at hl 4 rfl) ?_
              refine lv_goto (tgt := 102) hx hb dX9_wind_93 (by decide) ?_
              refine va_iast (D := D) hx hb hT.1 hP hD hS 2 0 rfl rfl (zinv c1 (hi := 4) (by decide) (by decide)) dX9_wind_102 (fun H locs hP hD hS => ?_)
              have hP : va_P D vwCl [(mo, .inr (9, [.int tu, .int ga, .int lk, .int stp, .int dbt, .int win, .ref rea, .ref rla, .ref rwe, .ref rst, .ref rsp, .int (nI sn), .ref rpa, .int (nI pn), .int plc, .int mnt, .int lft, .int abd, .ref rsa, .ref rta, .ref rbe, .ref rfa, .ref rpl, .ref rke, .ref rik, .int (nI ka), .int iw])), (rea, .inl (cI, 5, .inl (upd ea hh.toNatClampNeg ((if lt = 0 then v else ea hh.toNatClampNeg) : Int32)))), (rla, .inl (cI, 5, .inl (upd la hh.toNatClampNeg v))), (rwe, .inl (cI, 6, .inl we)), (rst, .inl (cI, 6, .inl mT)), (rsp, .inl (cI, 6, .inl mP)), (rpa, .inl (cI, 60, .inl pa)), (rsa, .inl (cI, 61, .inl sa)), (rta, .inl (cI, 12, .inl ta)), (rbe, .inl (cI, 12, .inl be)), (rfa, .inl (cI, 6, .inl fa)), (rpl, .inl (cI, 60, .inl pq)), (rke, .inl (cI, 100, .inl ke)), (rik, .inl (cZ, 2, .inl ik))] H := hP
              have hD : va_D A [(mo, .inr (9, [.int tu, .int ga, .int lk, .int stp, .int dbt, .int win, .ref rea, .ref rla, .ref rwe, .ref rst, .ref rsp, .int (nI sn), .ref rpa, .int (nI pn), .int plc, .int mnt, .int lft, .int abd, .ref rsa, .ref rta, .ref rbe, .ref rfa, .ref rpl, .ref rke, .ref rik, .int (nI ka), .int iw])), (rea, .inl (cI, 5, .inl (upd ea hh.toNatClampNeg ((if lt = 0 then v else ea hh.toNatClampNeg) : Int32)))), (rla, .inl (cI, 5, .inl (upd la hh.toNatClampNeg v))), (rwe, .inl (cI, 6, .inl we)), (rst, .inl (cI, 6, .inl mT)), (rsp, .inl (cI, 6, .inl mP)), (rpa, .inl (cI, 60, .inl pa)), (rsa, .inl (cI, 61, .inl sa)), (rta, .inl (cI, 12, .inl ta)), (rbe, .inl (cI, 12, .inl be)), (rfa, .inl (cI, 6, .inl fa)), (rpl, .inl (cI, 60, .inl pq)), (rke, .inl (cI, 100, .inl ke)), (rik, .inl (cZ, 2, .inl ik))] := hD
              refine lv_iload hx hb dX9_wind_103 (lv_at hl 0 rfl) ?_
              refine lv_bipush (v := 100) hx hb dX9_wind_105 (by decide) ?_
              refine lv_iadd hx hb dX9_wind_107 ?_
              have eo1 : s_X9_wind_ea ea hh lt v = upd ea hh.toNatClampNeg ((if lt = 0 then v else ea hh.toNatClampNeg) : Int32) := (by unfold s_X9_wind_ea; rw [if_neg c1, if_neg c2, if_neg c3])
              have eo2 : s_X9_wind_la la hh lt v = upd la hh.toNatClampNeg v := (by unfold s_X9_wind_la; rw [if_neg c1, if_neg c2, if_neg c3, if_pos c8])
              exact hret _ _ _ H locs () dX9_wind_108 (by unfold s_X9_wind; rw [if_neg c1, if_neg c2, if_neg c3]) trivial (by show va_P D vwCl [(mo, .inr (9, [.int tu, .int ga, .int lk, .int stp, .int dbt, .int win, .ref rea, .ref rla, .ref rwe, .ref rst, .ref rsp, .int (nI sn), .ref rpa, .int (nI pn), .int plc, .int mnt, .int lft, .int abd, .ref rsa, .ref rta, .ref rbe, .ref rfa, .ref rpl, .ref rke, .ref rik, .int (nI ka), .int iw])), (rea, .inl (cI, 5, .inl (s_X9_wind_ea ea hh lt v))), (rla, .inl (cI, 5, .inl (s_X9_wind_la la hh lt v))), (rwe, .inl (cI, 6, .inl we)), (rst, .inl (cI, 6, .inl mT)), (rsp, .inl (cI, 6, .inl mP)), (rpa, .inl (cI, 60, .inl pa)), (rsa, .inl (cI, 61, .inl sa)), (rta, .inl (cI, 12, .inl ta)), (rbe, .inl (cI, 12, .inl be)), (rfa, .inl (cI, 6, .inl fa)), (rpl, .inl (cI, 60, .inl pq)), (rke, .inl (cI, 100, .inl ke)), (rik, .inl (cZ, 2, .inl ik))] H; rw [eo1, eo2]; exact hP) hS
          refine lv_if_ne (tgt := 75) hx hb dX9_wind_68 (by decide) (fun c9 => ?_) (fun c9 => ?_)
          · refine lv_aload_n hx hb dX9_wind_75 rfl (lv_at hl 1 rfl) ?_
            refine va_get (D := D) (ci := 9) (v := .ref rea) (C := RX9) (T := TX9) (N := 27) hx hb hts in_X9 hown hT.1 hP 0 rfl rfl 6 (by decide) (hts _ fl_RX9_7) (fun _ h9 => h9) rfl dX9_wind_76 ?_
            refine lv_iload_n hx hb dX9_wind_79 rfl (lv_at hl 2 rfl) ?_
            refine va_iald (D := D) hx hb hT.1 hP 1 0 rfl rfl (zinv c1 (hi := 4) (by decide) (by decide)) dX9_wind_80 ?_
            exact J7 (ea hh.toNatClampNeg) (by rw [if_neg c9])
          · refine lv_iload_n hx hb dX9_wind_71 rfl (lv_at hl 4 rfl) ?_
            refine lv_goto (tgt := 81) hx hb dX9_wind_72 (by decide) ?_
            exact J7 v (by rw [if_pos c9])
        refine lv_if_ne (tgt := 54) hx hb dX9_wind_42 (by decide) (fun c10 => ?_) (fun c10 => ?_)
        · refine lv_aload_n hx hb dX9_wind_54 rfl (lv_at hl 0 rfl) ?_
          refine va_get (D := D) (ci := 9) (v := .ref rla) (C := RX9) (T := TX9) (N := 27) hx hb hts in_X9 hown hT.1 hP 0 rfl rfl 7 (by decide) (hts _ fl_RX9_13) (fun _ h9 => h9) rfl dX9_wind_55 ?_
          refine lv_iload_n hx hb dX9_wind_58 rfl (lv_at hl 1 rfl) ?_
          refine va_iald (D := D) hx hb hT.1 hP 2 0 rfl rfl (zinv c1 (hi := 4) (by decide) (by decide)) dX9_wind_59 ?_
          exact J5 (la hh.toNatClampNeg) (by rw [if_neg c10])
        · refine lv_aload_n hx hb dX9_wind_45 rfl (lv_at hl 0 rfl) ?_
          refine va_get (D := D) (ci := 9) (v := .ref rea) (C := RX9) (T := TX9) (N := 27) hx hb hts in_X9 hown hT.1 hP 0 rfl rfl 6 (by decide) (hts _ fl_RX9_7) (fun _ h9 => h9) rfl dX9_wind_46 ?_
          refine lv_iload_n hx hb dX9_wind_49 rfl (lv_at hl 1 rfl) ?_
          refine va_iald (D := D) hx hb hT.1 hP 1 0 rfl rfl (zinv c1 (hi := 4) (by decide) (by decide)) dX9_wind_50 ?_
          refine lv_goto (tgt := 60) hx hb dX9_wind_51 (by decide) ?_
          exact J5 (ea hh.toNatClampNeg) (by rw [if_pos c10])
      · refine lv_bipush (v := (-2)) hx hb dX9_wind_38 (by decide) ?_
        have eo1 : s_X9_wind_ea ea hh lt v = ea := (by unfold s_X9_wind_ea; rw [if_neg c1, if_neg c2, if_pos c3])
        have eo2 : s_X9_wind_la la hh lt v = la := (by unfold s_X9_wind_la; rw [if_neg c1, if_neg c2, if_pos c3])
        exact hret _ _ _ s.heap [] () dX9_wind_40 (by unfold s_X9_wind; rw [if_neg c1, if_neg c2, if_pos c3]) trivial (by show va_P D vwCl [(mo, .inr (9, [.int tu, .int ga, .int lk, .int stp, .int dbt, .int win, .ref rea, .ref rla, .ref rwe, .ref rst, .ref rsp, .int (nI sn), .ref rpa, .int (nI pn), .int plc, .int mnt, .int lft, .int abd, .ref rsa, .ref rta, .ref rbe, .ref rfa, .ref rpl, .ref rke, .ref rik, .int (nI ka), .int iw])), (rea, .inl (cI, 5, .inl (s_X9_wind_ea ea hh lt v))), (rla, .inl (cI, 5, .inl (s_X9_wind_la la hh lt v))), (rwe, .inl (cI, 6, .inl we)), (rst, .inl (cI, 6, .inl mT)), (rsp, .inl (cI, 6, .inl mP)), (rpa, .inl (cI, 60, .inl pa)), (rsa, .inl (cI, 61, .inl sa)), (rta, .inl (cI, 12, .inl ta)), (rbe, .inl (cI, 12, .inl be)), (rfa, .inl (cI, 6, .inl fa)), (rpl, .inl (cI, 60, .inl pq)), (rke, .inl (cI, 100, .inl ke)), (rik, .inl (cZ, 2, .inl ik))] s.heap; rw [eo1, eo2]; exact hP) hS
  · refine lv_iconst (v := (-1)) hx hb dX9_wind_12 (by decide) ?_
    have eo1 : s_X9_wind_ea ea hh lt v = ea := (by unfold s_X9_wind_ea; rw [if_pos c1])
    have eo2 : s_X9_wind_la la hh lt v = la := (by unfold s_X9_wind_la; rw [if_pos c1])
    exact hret _ _ _ s.heap [] () dX9_wind_13 (by unfold s_X9_wind; rw [if_pos c1]) trivial (by show va_P D vwCl [(mo, .inr (9, [.int tu, .int ga, .int lk, .int stp, .int dbt, .int win, .ref rea, .ref rla, .ref rwe, .ref rst, .ref rsp, .int (nI sn), .ref rpa, .int (nI pn), .int plc, .int mnt, .int lft, .int abd, .ref rsa, .ref rta, .ref rbe, .ref rfa, .ref rpl, .ref rke, .ref rik, .int (nI ka), .int iw])), (rea, .inl (cI, 5, .inl (s_X9_wind_ea ea hh lt v))), (rla, .inl (cI, 5, .inl (s_X9_wind_la la hh lt v))), (rwe, .inl (cI, 6, .inl we)), (rst, .inl (cI, 6, .inl mT)), (rsp, .inl (cI, 6, .inl mP)), (rpa, .inl (cI, 60, .inl pa)), (rsa, .inl (cI, 61, .inl sa)), (rta, .inl (cI, 12, .inl ta)), (rbe, .inl (cI, 12, .inl be)), (rfa, .inl (cI, 6, .inl fa)), (rpl, .inl (cI, 60, .inl pq)), (rke, .inl (cI, 100, .inl ke)), (rik, .inl (cZ, 2, .inl ik))] s.heap; rw [eo1, eo2]; exact hP) hS
def s_X9_load (we : Nat → Int32) (t : Int32) (v : Int32) : Int32 := if (s_X9_in (Int32.toInt64 t) 0 5) = 0 then (-1) else (if (s_X9_in (Int32.toInt64 v) 0 20) = 0 then (-2) else we t.toNatClampNeg)
def s_X9_load_we (we : Nat → Int32) (t : Int32) (v : Int32) : Nat → Int32 := if (s_X9_in (Int32.toInt64 t) 0 5) = 0 then we else (if (s_X9_in (Int32.toInt64 v) 0 20) = 0 then we else upd we t.toNatClampNeg v)
abbrev rm_X9_load : Room := { frames := 2, cells := 0, slots := 0, locals := 45 }
set_option maxRecDepth 100000 in
set_option maxHeartbeats 4000000 in
theorem c_X9_load (l : Launch) (D : va_G) (cI cZ : ClassId) (mo rea rla rwe rst rsp rpa rsa rta rbe rfa rpl rke rik sn pn ka : Nat) (tu ga lk stp dbt win plc mnt lft abd iw : Int32) (ea la we mT mP pa sa ta be fa pq ke ik : Nat → Int32) (t v : Int32) : Met l yX9_load [.code yX9_load cX9_load 4 (some .int)] rm_X9_load (PcW D cI cZ [.ref mo, .int t, .int v] [(mo, .inr (9, [.int tu, .int ga, .int lk, .int stp, .int dbt, .int win, .ref rea, .ref rla, .ref rwe, .ref rst, .ref rsp, .int (nI sn), .ref rpa, .int (nI pn), .int plc, .int mnt, .int lft, .int abd, .ref rsa, .ref rta, .ref rbe, .ref rfa, .ref rpl, .ref rke, .ref rik, .int (nI ka), .int iw])), (rea, .inl (cI, 5, .inl ea)), (rla, .inl (cI, 5, .inl la)), (rwe, .inl (cI, 6, .inl we)), (rst, .inl (cI, 6, .inl mT)), (rsp, .inl (cI, 6, .inl mP)), (rpa, .inl (cI, 60, .inl pa)), (rsa, .inl (cI, 61, .inl sa)), (rta, .inl (cI, 12, .inl ta)), (rbe, .inl (cI, 12, .inl be)), (rfa, .inl (cI, 6, .inl fa)), (rpl, .inl (cI, 60, .inl pq)), (rke, .inl (cI, 100, .inl ke)), (rik, .inl (cZ, 2, .inl ik))]) (QcE D (S := Unit) (some (.int (s_X9_load we t v))) (fun _ => True) (fun _ => [(mo, .inr (9, [.int tu, .int ga, .int lk, .int stp, .int dbt, .int win, .ref rea, .ref rla, .ref rwe, .ref rst, .ref rsp, .int (nI sn), .ref rpa, .int (nI pn), .int plc, .int mnt, .int lft, .int abd, .ref rsa, .ref rta, .ref rbe, .ref rfa, .ref rpl, .ref rke, .ref rik, .int (nI ka), .int iw])), (rea, .inl (cI, 5, .inl ea)), (rla, .inl (cI, 5, .inl la)), (rwe, .inl (cI, 6, .inl (s_X9_load_we we t v))), (rst, .inl (cI, 6, .inl mT)), (rsp, .inl (cI, 6, .inl mP)), (rpa, .inl (cI, 60, .inl pa)), (rsa, .inl (cI, 61, .inl sa)), (rta, .inl (cI, 12, .inl ta)), (rbe, .inl (cI, 12, .inl be)), (rfa, .inl (cI, 6, .inl fa)), (rpl, .inl (cI, 60, .inl pq)), (rke, .inl (cI, 100, .inl ke)), (rik, .inl (cZ, 2, .inl ik))]) (zA [(mo, .inr (9, [.int tu, .int ga, .int lk, .int stp, .int dbt, .int win, .ref rea, .ref rla, .ref rwe, .ref rst, .ref rsp, .int (nI sn), .ref rpa, .int (nI pn), .int plc, .int mnt, .int lft, .int abd, .ref rsa, .ref rta, .ref rbe, .ref rfa, .ref rpl, .ref rke, .ref rik, .int (nI ka), .int iw])), (rea, .inl (cI, 5, .inl ea)), (rla, .inl (cI, 5, .inl la)), (rwe, .inl (cI, 6, .inl we)), (rst, .inl (cI, 6, .inl mT)), (rsp, .inl (cI, 6, .inl mP)), (rpa, .inl (cI, 60, .inl pa)), (rsa, .inl (cI, 61, .inl sa)), (rta, .inl (cI, 12, .inl ta)), (rbe, .inl (cI, 12, .inl be)), (rfa, .inl (cI, 6, .inl fa)), (rpl, .inl (cI, 60, .inl pq)), (rke, .inl (cI, 100, .inl ke)), (rik, .inl (cZ, 2, .inl ik))])) 0 0 (zA [(mo, .inr (9, [.int tu, .int ga, .int lk, .int stp, .int dbt, .int win, .ref rea, .ref rla, .ref rwe, .ref rst, .ref rsp, .int (nI sn), .ref rpa, .int (nI pn), .int plc, .int mnt, .int lft, .int abd, .ref rsa, .ref rta, .ref rbe, .ref rfa, .ref rpl, .ref rke, .ref rik, .int (nI ka), .int iw])), (rea, .inl (cI, 5, .inl ea)), (rla, .inl (cI, 5, .inl la)), (rwe, .inl (cI, 6, .inl we)), (rst, .inl (cI, 6, .inl mT)), (rsp, .inl (cI, 6, .inl mP)), (rpa, .inl (cI, 60, .inl pa)), (rsa, .inl (cI, 61, .inl sa)), (rta, .inl (cI, 12, .inl ta)), (rbe, .inl (cI, 12, .inl be)), (rfa, .inl (cI, 6, .inl fa)), (rpl, .inl (cI, 60, .inl pq)), (rke, .inl (cI, 100, .inl ke)), (rik, .inl (cZ, 2, .inl ik))]) := by
  refine mtWi (by decide) (Nat.le_of_ble_eq_true rfl) (fun p e s m args below meth c Q A S hT hP hD hS hret ls hl => ?_)
  have S : CallFix p m c cX9_load 4 s args zt RX9 := S
  obtain ⟨hx, hb, hml, hown, hts⟩ := id S
  have hl : lv_has ls 4 [(0, .ref mo), (1, .int t), (2, .int v)] := hl
  refine lv_iload_n hx hb dX9_load_0 rfl (lv_at hl 1 rfl) ?_
  refine kRS (st1 := [.int (s_X9_in (Int32.toInt64 t) 0 5)]) S hT hP (c_X9_isThing l D cI cZ t) rfl rfl mw_X9_isThing lk_RX9_85 ⟨rfl, rfl, (Nat.le_of_ble_eq_true rfl), (Nat.le_of_ble_eq_true rfl), (Nat.le_of_ble_eq_true rfl), (Nat.le_of_ble_eq_true rfl)⟩ [] rfl hl.1 (Nat.le_of_ble_eq_true rfl) dX9_load_1 ?_
  refine lv_if_ne (tgt := 9) hx hb dX9_load_4 (by decide) (fun c1 => ?_) (fun c1 => ?_)
  · refine lv_iload_n hx hb dX9_load_9 rfl (lv_at hl 2 rfl) ?_
    refine lv_i2l (v := Int32.toInt64 v) hx hb dX9_load_10 rfl ?_
    refine lv_lconst (v := 0) hx hb dX9_load_11 (by decide) ?_
    refine lv_ldc2 (v := 20) hx hb hown (hts _ ct_RX9_89) dX9_load_12 ?_
    refine kRS (st1 := [.int (s_X9_in (Int32.toInt64 v) 0 20)]) S hT hP (c_X9_in l D cI cZ (Int32.toInt64 v) 0 20) rfl rfl mw_X9_in lk_RX9_71 ⟨rfl, rfl, (Nat.le_of_ble_eq_true rfl), (Nat.le_of_ble_eq_true rfl), (Nat.le_of_ble_eq_true rfl), (Nat.le_of_ble_eq_true rfl)⟩ [] rfl hl.1 (Nat.le_of_ble_eq_true rfl) dX9_load_15 ?_
    refine lv_if_ne (tgt := 24) hx hb dX9_load_18 (by decide) (fun c2 => ?_) (fun c2 => ?_)
    · refine lv_aload_n hx hb dX9_load_24 rfl (lv_at hl 0 rfl) ?_
      refine va_get (D := D) (ci := 9) (v := .ref rwe) (C := RX9) (T := TX9) (N := 27) hx hb hts in_X9 hown hT.1 hP 0 rfl rfl 8 (by decide) (hts _ fl_RX9_16) (fun _ h9 => h9) rfl dX9_load_25 ?_
      refine lv_iload_n hx hb dX9_load_28 rfl (lv_at hl 1 rfl) ?_
      refine va_iald (D := D) hx hb hT.1 hP 3 0 rfl rfl (zinv c1 (hi := 5) (by decide) (by decide)) dX9_load_29 ?_
      refine lv_istore_n (lv' := [(3, .int (we t.toNatClampNeg)), (0, .ref mo), (1, .int t), (2, .int v)]) hx hb dX9_load_30 rfl hl (by decide) rfl (fun ls hl => ?_)
      refine lv_aload_n hx hb dX9_load_31 rfl (lv_at hl 1 rfl) ?_
      refine va_get (D := D) (ci := 9) (v := .ref rwe) (C := RX9) (T := TX9) (N := 27) hx hb hts in_X9 hown hT.1 hP 0 rfl rfl 8 (by decide) (hts _ fl_RX9_16) (fun _ h9 => h9) rfl dX9_load_32 ?_
      refine lv_iload_n hx hb dX9_load_35 rfl (lv_at hl 2 rfl) ?_
      refine lv_iload_n hx hb dX9_load_36 rfl (lv_at hl 3 rfl) ?_
      refine va_iast (D := D) hx hb hT.1 hP hD hS 3 0 rfl rfl (zinv c1 (hi := 5) (by decide) (by decide)) dX9_load_37 (fun H locs hP hD hS => ?_)
      have hP : va_P D vwCl [(mo, .inr (9, [.int tu, .int ga, .int lk, .int stp, .int dbt, .int win, .ref rea, .ref rla, .ref rwe, .ref rst, .ref rsp, .int (nI sn), .ref rpa, .int (nI pn), .int plc, .int mnt, .int lft, .int abd, .ref rsa, .ref rta, .ref rbe, .ref rfa, .ref rpl, .ref rke, .ref rik, .int (nI ka), .int iw])), (rea, .inl (cI, 5, .inl ea)), (rla, .inl (cI, 5, .inl la)), (rwe, .inl (cI, 6, .inl (upd we t.toNatClampNeg v))), (rst, .inl (cI, 6, .inl mT)), (rsp, .inl (cI, 6, .inl mP)), (rpa, .inl (cI, 60, .inl pa)), (rsa, .inl (cI, 61, .inl sa)), (rta, .inl (cI, 12, .inl ta)), (rbe, .inl (cI, 12, .inl be)), (rfa, .inl (cI, 6, .inl fa)), (rpl, .inl (cI, 60, .inl pq)), (rke, .inl (cI, 100, .inl ke)), (rik, .inl (cZ, 2, .inl ik))] H := hP
      have hD : va_D A [(mo, .inr (9, [.int tu, .int ga, .int lk, .int stp, .int dbt, .int win, .ref rea, .ref rla, .ref rwe, .ref rst, .ref rsp, .int (nI sn), .ref rpa, .int (nI pn), .int plc, .int mnt, .int lft, .int abd, .ref rsa, .ref rta, .ref rbe, .ref rfa, .ref rpl, .ref rke, .ref rik, .int (nI ka), .int iw])), (rea, .inl (cI, 5, .inl ea)), (rla, .inl (cI, 5, .inl la)), (rwe, .inl (cI, 6, .inl (upd we t.toNatClampNeg v))), (rst, .inl (cI, 6, .inl mT)), (rsp, .inl (cI, 6, .inl mP)), (rpa, .inl (cI, 60, .inl pa)), (rsa, .inl (cI, 61, .inl sa)), (rta, .inl (cI, 12, .inl ta)), (rbe, .inl (cI, 12, .inl be)), (rfa, .inl (cI, 6, .inl fa)), (rpl, .inl (cI, 60, .inl pq)), (rke, .inl (cI, 100, .inl ke)), (rik, .inl (cZ, 2, .inl ik))] := hD
      refine lv_iload_n hx hb dX9_load_38 rfl (lv_at hl 0 rfl) ?_
      have eo1 : s_X9_load_we we t v = upd we t.toNatClampNeg v := (by unfold s_X9_load_we; rw [if_neg c1, if_neg c2])
      exact hret _ _ _ H locs () dX9_load_39 (by unfold s_X9_load; rw [if_neg c1, if_neg c2]) trivial (by show va_P D vwCl [(mo, .inr (9, [.int tu, .int ga, .int lk, .int stp, .int dbt, .int win, .ref rea, .ref rla, .ref rwe, .ref rst, .ref rsp, .int (nI sn), .ref rpa, .int (nI pn), .int plc, .int mnt, .int lft, .int abd, .ref rsa, .ref rta, .ref rbe, .ref rfa, .ref rpl, .ref rke, .ref rik, .int (nI ka), .int iw])), (rea, .inl (cI, 5, .inl ea)), (rla, .inl (cI, 5, .inl la)), (rwe, .inl (cI, 6, .inl (s_X9_load_we we t v))), (rst, .inl (cI, 6, .inl mT)), (rsp, .inl (cI, 6, .inl mP)), (rpa, .inl (cI, 60, .inl pa)), (rsa, .inl (cI, 61, .inl sa)), (rta, .inl (cI, 12, .inl ta)), (rbe, .inl (cI, 12, .inl be)), (rfa, .inl (cI, 6, .inl fa)), (rpl, .inl (cI, 60, .inl pq)), (rke, .inl (cI, 100, .inl ke)), (rik, .inl (cZ, 2, .inl ik))] H; rw [eo1]; exact hP) hS
    · refine lv_bipush (v := (-2)) hx hb dX9_load_21 (by decide) ?_
      have eo1 : s_X9_load_we we t v = we := (by unfold s_X9_load_we; rw [if_neg c1, if_pos c2])
      exact hret _ _ _ s.heap [] () dX9_load_23 (by unfold s_X9_load; rw [if_neg c1, if_pos c2]) trivial (by show va_P D vwCl [(mo, .inr (9, [.int tu, .int ga, .int lk, .int stp, .int dbt, .int win, .ref rea, .ref rla, .ref rwe, .ref rst, .ref rsp, .int (nI sn), .ref rpa, .int (nI pn), .int plc, .int mnt, .int lft, .int abd, .ref rsa, .ref rta, .ref rbe, .ref rfa, .ref rpl, .ref rke, .ref rik, .int (nI ka), .int iw])), (rea, .inl (cI, 5, .inl ea)), (rla, .inl (cI, 5, .inl la)), (rwe, .inl (cI, 6, .inl (s_X9_load_we we t v))), (rst, .inl (cI, 6, .inl mT)), (rsp, .inl (cI, 6, .inl mP)), (rpa, .inl (cI, 60, .inl pa)), (rsa, .inl (cI, 61, .inl sa)), (rta, .inl (cI, 12, .inl ta)), (rbe, .inl (cI, 12, .inl be)), (rfa, .inl (cI, 6, .inl fa)), (rpl, .inl (cI, 60, .inl pq)), (rke, .inl (cI, 100, .inl ke)), (rik, .inl (cZ, 2, .inl ik))] s.heap; rw [eo1]; exact hP) hS
  · refine lv_iconst (v := (-1)) hx hb dX9_load_7 (by decide) ?_
    have eo1 : s_X9_load_we we t v = we := (by unfold s_X9_load_we; rw [if_pos c1])
    exact hret _ _ _ s.heap [] () dX9_load_8 (by unfold s_X9_load; rw [if_pos c1]) trivial (by show va_P D vwCl [(mo, .inr (9, [.int tu, .int ga, .int lk, .int stp, .int dbt, .int win, .ref rea, .ref rla, .ref rwe, .ref rst, .ref rsp, .int (nI sn), .ref rpa, .int (nI pn), .int plc, .int mnt, .int lft, .int abd, .ref rsa, .ref rta, .ref rbe, .ref rfa, .ref rpl, .ref rke, .ref rik, .int (nI ka), .int iw])), (rea, .inl (cI, 5, .inl ea)), (rla, .inl (cI, 5, .inl la)), (rwe, .inl (cI, 6, .inl (s_X9_load_we we t v))), (rst, .inl (cI, 6, .inl mT)), (rsp, .inl (cI, 6, .inl mP)), (rpa, .inl (cI, 60, .inl pa)), (rsa, .inl (cI, 61, .inl sa)), (rta, .inl (cI, 12, .inl ta)), (rbe, .inl (cI, 12, .inl be)), (rfa, .inl (cI, 6, .inl fa)), (rpl, .inl (cI, 60, .inl pq)), (rke, .inl (cI, 100, .inl ke)), (rik, .inl (cZ, 2, .inl ik))] s.heap; rw [eo1]; exact hP) hS
def lp_X9_loaded_4 (we : Nat → Int32) : Nat → Nat → Int32 → Int32
  | 0, _, x1_4 => x1_4
  | fu + 1, k, x1_4 => if 6 ≤ nI k then x1_4 else (if we k ≤ 0 then lp_X9_loaded_4 we fu (k + 1) (x1_4 ||| 0) else lp_X9_loaded_4 we fu (k + 1) (x1_4 ||| (1 <<< ((nI k) &&& 31))))
abbrev rm_X9_loaded : Room := { frames := 0, cells := 0, slots := 0, locals := 0 }
set_option maxRecDepth 100000 in
set_option maxHeartbeats 4000000 in
theorem c_X9_loaded (l : Launch) (D : va_G) (cI cZ : ClassId) (mo rea rla rwe rst rsp rpa rsa rta rbe rfa rpl rke rik sn pn ka : Nat) (tu ga lk stp dbt win plc mnt lft abd iw : Int32) (ea la we mT mP pa sa ta be fa pq ke ik : Nat → Int32) : Met l yX9_loaded [.code yX9_loaded cX9_loaded 3 (some .int)] rm_X9_loaded (PcR D cI cZ [.ref mo] [(mo, .inr (9, [.int tu, .int ga, .int lk, .int stp, .int dbt, .int win, .ref rea, .ref rla, .ref rwe, .ref rst, .ref rsp, .int (nI sn), .ref rpa, .int (nI pn), .int plc, .int mnt, .int lft, .int abd, .ref rsa, .ref rta, .ref rbe, .ref rfa, .ref rpl, .ref rke, .ref rik, .int (nI ka), .int iw])), (rea, .inl (cI, 5, .inl ea)), (rla, .inl (cI, 5, .inl la)), (rwe, .inl (cI, 6, .inl we)), (rst, .inl (cI, 6, .inl mT)), (rsp, .inl (cI, 6, .inl mP)), (rpa, .inl (cI, 60, .inl pa)), (rsa, .inl (cI, 61, .inl sa)), (rta, .inl (cI, 12, .inl ta)), (rbe, .inl (cI, 12, .inl be)), (rfa, .inl (cI, 6, .inl fa)), (rpl, .inl (cI, 60, .inl pq)), (rke, .inl (cI, 100, .inl ke)), (rik, .inl (cZ, 2, .inl ik))]) (QcR (some (.int (lp_X9_loaded_4 we 7 0 0)))) 0 0 zN := by
  refine mtRi (by decide) (Nat.le_of_ble_eq_true rfl) (fun p e s m args below meth c Q S hT hP hret ls hl => ?_)
  have S : CallFix p m c cX9_loaded 3 s args zt RX9 := S
  obtain ⟨hx, hb, hml, hown, hts⟩ := id S
  have hl : lv_has ls 3 [(0, .ref mo)] := hl
  refine lv_iconst (v := 0) hx hb dX9_loaded_0 (by decide) ?_
  refine lv_istore_n (lv' := [(1, .int 0), (0, .ref mo)]) hx hb dX9_loaded_1 rfl hl (by decide) rfl (fun ls hl => ?_)
  refine lv_iconst (v := 0) hx hb dX9_loaded_2 (by decide) ?_
  refine lv_istore_n (lv' := [(2, .int 0), (1, .int 0), (0, .ref mo)]) hx hb dX9_loaded_3 rfl hl (by decide) rfl (fun ls hl => ?_)
  have X2 : ∀ (y1 : Int32), (lp_X9_loaded_4 we 7 0 0) = y1 → ∀ (ls : Array Slot), lv_has ls 3 [(0, .ref mo), (1, .int y1)] → W p l e rm_X9_loaded s m args below meth c s.heap [] 0 0 Q (F0 m 35 ls []) := by
    intro y1 ey1 ls hl
    subst ey1
    refine lv_iload_n hx hb dX9_loaded_35 rfl (lv_at hl 1 rfl) ?_
    exact hret _ _ _ dX9_loaded_36 rfl
  have L3 : ∀ (n6 : Nat) (k : Nat) (x1_4 : Int32), 6 - k < n6 → (k ≤ 6) → lp_X9_loaded_4 we n6 k x1_4 = lp_X9_loaded_4 we 7 0 0 → ∀ (ls : Array Slot), lv_has ls 3 [(0, .ref mo), (1, .int x1_4), (2, .int (nI k))] → W p l e rm_X9_loaded s m args below meth c s.heap [] 0 0 Q (F0 m 4 ls []) := by
    intro n6
    induction n6 with
    | zero => intro k x1_4 hm; exact absurd hm (Nat.not_lt_zero _)
    | succ n6 ih5 =>
      intro k x1_4 hm7 hk hv4 ls hl
      refine lv_iload_n hx hb dX9_loaded_4 rfl (lv_at hl 2 rfl) ?_
      refine lv_bipush (v := 6) hx hb dX9_loaded_5 (by decide) ?_
      refine lv_icmp_ge (tgt := 35) hx hb dX9_loaded_7 (by decide) (fun c8 => ?_) (fun c8 => ?_)
      · have nc8 := zNle (a := 6) (b := k) c8 (by omega) (by omega)
        exact X2 _ (by rw [← hv4, lp_X9_loaded_4, if_pos c8]) ls (lv_sub hl [0, 1] rfl)
      · have nc8 := zNnle (a := 6) (b := k) c8 (by omega) (by omega)
        refine lv_iload_n hx hb dX9_loaded_10 rfl (lv_at hl 1 rfl) ?_
        refine lv_aload_n hx hb dX9_loaded_11 rfl (lv_at hl 0 rfl) ?_
        refine va_get (D := D) (ci := 9) (v := .ref rwe) (C := RX9) (T := TX9) (N := 27) hx hb hts in_X9 hown hT.1 hP 0 rfl rfl 8 (by decide) (hts _ fl_RX9_16) (fun _ h9 => h9) rfl dX9_loaded_12 ?_
        refine lv_iload_n hx hb dX9_loaded_15 rfl (lv_at hl 2 rfl) ?_
        refine zald (D := D) (k := k) hx hb hT.1 hP 3 0 rfl rfl (by omega) (by omega) dX9_loaded_16 ?_
        refine lv_if_le (tgt := 26) hx hb dX9_loaded_17 (by decide) (fun c9 => ?_) (fun c9 => ?_)
        · refine lv_iconst (v := 0) hx hb dX9_loaded_26 (by decide) ?_
          refine lv_ior hx hb dX9_loaded_27 ?_
          refine lv_istore_n (lv' := [(1, .int (x1_4 ||| 0)), (0, .ref mo), (2, .int (nI k))]) hx hb dX9_loaded_28 rfl hl (by decide) rfl (fun ls hl => ?_)
          refine lv_iinc (v := nI (k + 1)) (lv' := [(2, .int (nI (k + 1))), (1, .int (x1_4 ||| 0)), (0, .ref mo)]) hx hb dX9_loaded_29 hl (k := 2) rfl (nI_1 k) (by decide) rfl (fun ls hl => ?_)
          refine lv_goto (tgt := 4) hx hb dX9_loaded_32 (by decide) ?_
          exact ih5 (k + 1) (x1_4 ||| 0) (by omega) (by omega) (by rw [← hv4, lp_X9_loaded_4, if_neg c8, if_pos c9]) ls (lv_sub hl [2, 1, 0] rfl)
        · refine lv_iconst (v := 1) hx hb dX9_loaded_20 (by decide) ?_
          refine lv_iload_n hx hb dX9_loaded_21 rfl (lv_at hl 2 rfl) ?_
          refine lv_ishl hx hb dX9_loaded_22 ?_
          refine lv_goto (tgt := 27) hx hb dX9_loaded_23 (by decide) ?_
          refine lv_ior hx hb dX9_loaded_27 ?_
          refine lv_istore_n (lv' := [(1, .int (x1_4 ||| (1 <<< ((nI k) &&& 31)))), (0, .ref mo), (2, .int (nI k))]) hx hb dX9_loaded_28 rfl hl (by decide) rfl (fun ls hl => ?_)
          refine lv_iinc (v := nI (k + 1)) (lv' := [(2, .int (nI (k + 1))), (1, .int (x1_4 ||| (1 <<< ((nI k) &&& 31)))), (0, .ref mo)]) hx hb dX9_loaded_29 hl (k := 2) rfl (nI_1 k) (by decide) rfl (fun ls hl => ?_)
          refine lv_goto (tgt := 4) hx hb dX9_loaded_32 (by decide) ?_
          exact ih5 (k + 1) (x1_4 ||| (1 <<< ((nI k) &&& 31))) (by omega) (by omega) (by rw [← hv4, lp_X9_loaded_4, if_neg c8, if_neg c9]) ls (lv_sub hl [2, 1, 0] rfl)
  exact L3 7 0 0 (by omega) (by omega) rfl ls (lv_sub hl [2, 1, 0] rfl)
def s_X9_say (pn : Nat) (sgn : Int32) : Int32 := if (s_X9_in (Int32.toInt64 sgn) 33 126) = 0 then (-2) else (if nI pn = 60 then (-4) else nI (pn + 1))
def s_X9_say_pn (pn : Nat) (sgn : Int32) : Nat := if (s_X9_in (Int32.toInt64 sgn) 33 126) = 0 then pn else (if nI pn = 60 then pn else (pn + 1))
def s_X9_say_pa (pn : Nat) (pa : Nat → Int32) (sgn : Int32) : Nat → Int32 := if (s_X9_in (Int32.toInt64 sgn) 33 126) = 0 then pa else (if nI pn = 60 then pa else upd pa pn sgn)
abbrev rm_X9_say : Room := { frames := 1, cells := 0, slots := 0, locals := 25 }
set_option maxRecDepth 100000 in
set_option maxHeartbeats 4000000 in
theorem c_X9_say (l : Launch) (D : va_G) (cI cZ : ClassId) (mo rea rla rwe rst rsp rpa rsa rta rbe rfa rpl rke rik sn pn ka : Nat) (tu ga lk stp dbt win plc mnt lft abd iw : Int32) (ea la we mT mP pa sa ta be fa pq ke ik : Nat → Int32) (sgn : Int32) (hpn : pn ≤ 60) : Met l yX9_say [.code yX9_say cX9_say 2 (some .int)] rm_X9_say (PcW D cI cZ [.ref mo, .int sgn] [(mo, .inr (9, [.int tu, .int ga, .int lk, .int stp, .int dbt, .int win, .ref rea, .ref rla, .ref rwe, .ref rst, .ref rsp, .int (nI sn), .ref rpa, .int (nI pn), .int plc, .int mnt, .int lft, .int abd, .ref rsa, .ref rta, .ref rbe, .ref rfa, .ref rpl, .ref rke, .ref rik, .int (nI ka), .int iw])), (rea, .inl (cI, 5, .inl ea)), (rla, .inl (cI, 5, .inl la)), (rwe, .inl (cI, 6, .inl we)), (rst, .inl (cI, 6, .inl mT)), (rsp, .inl (cI, 6, .inl mP)), (rpa, .inl (cI, 60, .inl pa)), (rsa, .inl (cI, 61, .inl sa)), (rta, .inl (cI, 12, .inl ta)), (rbe, .inl (cI, 12, .inl be)), (rfa, .inl (cI, 6, .inl fa)), (rpl, .inl (cI, 60, .inl pq)), (rke, .inl (cI, 100, .inl ke)), (rik, .inl (cZ, 2, .inl ik))]) (QcE D (S := Unit) (some (.int (s_X9_say pn sgn))) (fun _ => True) (fun _ => [(mo, .inr (9, [.int tu, .int ga, .int lk, .int stp, .int dbt, .int win, .ref rea, .ref rla, .ref rwe, .ref rst, .ref rsp, .int (nI sn), .ref rpa, .int (nI (s_X9_say_pn pn sgn)), .int plc, .int mnt, .int lft, .int abd, .ref rsa, .ref rta, .ref rbe, .ref rfa, .ref rpl, .ref rke, .ref rik, .int (nI ka), .int iw])), (rea, .inl (cI, 5, .inl ea)), (rla, .inl (cI, 5, .inl la)), (rwe, .inl (cI, 6, .inl we)), (rst, .inl (cI, 6, .inl mT)), (rsp, .inl (cI, 6, .inl mP)), (rpa, .inl (cI, 60, .inl (s_X9_say_pa pn pa sgn))), (rsa, .inl (cI, 61, .inl sa)), (rta, .inl (cI, 12, .inl ta)), (rbe, .inl (cI, 12, .inl be)), (rfa, .inl (cI, 6, .inl fa)), (rpl, .inl (cI, 60, .inl pq)), (rke, .inl (cI, 100, .inl ke)), (rik, .inl (cZ, 2, .inl ik))]) (zA [(mo, .inr (9, [.int tu, .int ga, .int lk, .int stp, .int dbt, .int win, .ref rea, .ref rla, .ref rwe, .ref rst, .ref rsp, .int (nI sn), .ref rpa, .int (nI pn), .int plc, .int mnt, .int lft, .int abd, .ref rsa, .ref rta, .ref rbe, .ref rfa, .ref rpl, .ref rke, .ref rik, .int (nI ka), .int iw])), (rea, .inl (cI, 5, .inl ea)), (rla, .inl (cI, 5, .inl la)), (rwe, .inl (cI, 6, .inl we)), (rst, .inl (cI, 6, .inl mT)), (rsp, .inl (cI, 6, .inl mP)), (rpa, .inl (cI, 60, .inl pa)), (rsa, .inl (cI, 61, .inl sa)), (rta, .inl (cI, 12, .inl ta)), (rbe, .inl (cI, 12, .inl be)), (rfa, .inl (cI, 6, .inl fa)), (rpl, .inl (cI, 60, .inl pq)), (rke, .inl (cI, 100, .inl ke)), (rik, .inl (cZ, 2, .inl ik))])) 0 0 (zA [(mo, .inr (9, [.int tu, .int ga, .int lk, .int stp, .int dbt, .int win, .ref rea, .ref rla, .ref rwe, .ref rst, .ref rsp, .int (nI sn), .ref rpa, .int (nI pn), .int plc, .int mnt, .int lft, .int abd, .ref rsa, .ref rta, .ref rbe, .ref rfa, .ref rpl, .ref rke, .ref rik, .int (nI ka), .int iw])), (rea, .inl (cI, 5, .inl ea)), (rla, .inl (cI, 5, .inl la)), (rwe, .inl (cI, 6, .inl we)), (rst, .inl (cI, 6, .inl mT)), (rsp, .inl (cI, 6, .inl mP)), (rpa, .inl (cI, 60, .inl pa)), (rsa, .inl (cI, 61, .inl sa)), (rta, .inl (cI, 12, .inl ta)), (rbe, .inl (cI, 12, .inl be)), (rfa, .inl (cI, 6, .inl fa)), (rpl, .inl (cI, 60, .inl pq)), (rke, .inl (cI, 100, .inl ke)), (rik, .inl (cZ, 2, .inl ik))]) := by
  refine mtWi (by decide) (Nat.le_of_ble_eq_true rfl) (fun p e s m args below meth c Q A S hT hP hD hS hret ls hl => ?_)
  have S : CallFix p m c cX9_say 2 s args zt RX9 := S
  obtain ⟨hx, hb, hml, hown, hts⟩ := id S
  have hl : lv_has ls 2 [(0, .ref mo), (1, .int sgn)] := hl
  refine lv_iload_n hx hb dX9_say_0 rfl (lv_at hl 1 rfl) ?_
  refine lv_i2l (v := Int32.toInt64 sgn) hx hb dX9_say_1 rfl ?_
  refine lv_ldc2 (v := 33) hx hb hown (hts _ ct_RX9_91) dX9_say_2 ?_
  refine lv_ldc2 (v := 126) hx hb hown (hts _ ct_RX9_93) dX9_say_5 ?_
  refine kRS (st1 := [.int (s_X9_in (Int32.toInt64 sgn) 33 126)]) S hT hP (c_X9_in l D cI cZ (Int32.toInt64 sgn) 33 126) rfl rfl mw_X9_in lk_RX9_71 ⟨rfl, rfl, (Nat.le_of_ble_eq_true rfl), (Nat.le_of_ble_eq_true rfl), (Nat.le_of_ble_eq_true rfl), (Nat.le_of_ble_eq_true rfl)⟩ [] rfl hl.1 (Nat.le_of_ble_eq_true rfl) dX9_say_8 ?_
  refine lv_if_ne (tgt := 17) hx hb dX9_say_11 (by decide) (fun c1 => ?_) (fun c1 => ?_)
  · refine lv_aload_n hx hb dX9_say_17 rfl (lv_at hl 0 rfl) ?_
    refine va_get (D := D) (ci := 9) (v := .int (nI pn)) (C := RX9) (T := TX9) (N := 27) hx hb hts in_X9 hown hT.1 hP 0 rfl rfl 13 (by decide) (hts _ fl_RX9_95) (fun _ h9 => h9) rfl dX9_say_18 ?_
    refine lv_bipush (v := 60) hx hb dX9_say_21 (by decide) ?_
    refine lv_icmp_ne (tgt := 29) hx hb dX9_say_23 (by decide) (fun c2 => ?_) (fun c2 => ?_)
    · have nc2 := zNne (a := pn) (b := 60) c2 (by omega) (by omega)
      refine lv_aload_n hx hb dX9_say_29 rfl (lv_at hl 0 rfl) ?_
      refine va_get (D := D) (ci := 9) (v := .ref rpa) (C := RX9) (T := TX9) (N := 27) hx hb hts in_X9 hown hT.1 hP 0 rfl rfl 12 (by decide) (hts _ fl_RX9_25) (fun _ h9 => h9) rfl dX9_say_30 ?_
      refine lv_aload_n hx hb dX9_say_33 rfl (lv_at hl 0 rfl) ?_
      refine va_get (D := D) (ci := 9) (v := .int (nI pn)) (C := RX9) (T := TX9) (N := 27) hx hb hts in_X9 hown hT.1 hP 0 rfl rfl 13 (by decide) (hts _ fl_RX9_95) (fun _ h9 => h9) rfl dX9_say_34 ?_
      refine lv_iload_n hx hb dX9_say_37 rfl (lv_at hl 1 rfl) ?_
      refine zast (D := D) (k := pn) hx hb hT.1 hP hD hS 6 0 rfl rfl (by omega) (by omega) dX9_say_38 (fun H locs hP hD hS => ?_)
      have hP : va_P D vwCl [(mo, .inr (9, [.int tu, .int ga, .int lk, .int stp, .int dbt, .int win, .ref rea, .ref rla, .ref rwe, .ref rst, .ref rsp, .int (nI sn), .ref rpa, .int (nI pn), .int plc, .int mnt, .int lft, .int abd, .ref rsa, .ref rta, .ref rbe, .ref rfa, .ref rpl, .ref rke, .ref rik, .int (nI ka), .int iw])), (rea, .inl (cI, 5, .inl ea)), (rla, .inl (cI, 5, .inl la)), (rwe, .inl (cI, 6, .inl we)), (rst, .inl (cI, 6, .inl mT)), (rsp, .inl (cI, 6, .inl mP)), (rpa, .inl (cI, 60, .inl (upd pa pn sgn))), (rsa, .inl (cI, 61, .inl sa)), (rta, .inl (cI, 12, .inl ta)), (rbe, .inl (cI, 12, .inl be)), (rfa, .inl (cI, 6, .inl fa)), (rpl, .inl (cI, 60, .inl pq)), (rke, .inl (cI, 100, .inl ke)), (rik, .inl (cZ, 2, .inl ik))] H := hP
      have hD : va_D A [(mo, .inr (9, [.int tu, .int ga, .int lk, .int stp, .int dbt, .int win, .ref rea, .ref rla, .ref rwe, .ref rst, .ref rsp, .int (nI sn), .ref rpa, .int (nI pn), .int plc, .int mnt, .int lft, .int abd, .ref rsa, .ref rta, .ref rbe, .ref rfa, .ref rpl, .ref rke, .ref rik, .int (nI ka), .int iw])), (rea, .inl (cI, 5, .inl ea)), (rla, .inl (cI, 5, .inl la)), (rwe, .inl (cI, 6, .inl we)), (rst, .inl (cI, 6, .inl mT)), (rsp, .inl (cI, 6, .inl mP)), (rpa, .inl (cI, 60, .inl (upd pa pn sgn))), (rsa, .inl (cI, 61, .inl sa)), (rta, .inl (cI, 12, .inl ta)), (rbe, .inl (cI, 12, .inl be)), (rfa, .inl (cI, 6, .inl fa)), (rpl, .inl (cI, 60, .inl pq)), (rke, .inl (cI, 100, .inl ke)), (rik, .inl (cZ, 2, .inl ik))] := hD
      refine lv_aload_n hx hb dX9_say_39 rfl (lv_at hl 0 rfl) ?_
      refine lv_dup hx hb dX9_say_40 rfl ?_
      refine va_get (D := D) (ci := 9) (v := .int (nI pn)) (C := RX9) (T := TX9) (N := 27) hx hb hts in_X9 hown hT.1 hP 0 rfl rfl 13 (by decide) (hts _ fl_RX9_95) (fun _ h9 => h9) rfl dX9_say_41 ?_
      refine lv_iconst (v := 1) hx hb dX9_say_44 (by decide) ?_
      refine lv_iadd hx hb dX9_say_45 ?_
      refine zI (y := nI (pn + 1)) (nI_1 pn) ?_
      refine va_put (D := D) (ci := 9) (v := .int (nI (pn + 1))) (ty := .int) (C := RX9) (T := TX9) (N := 27) hx hb hts in_X9 tyX9 tyX9_ok nmX9 hown hT.1 hP hD hS 0 rfl rfl 13 (by decide) (hts _ fl_RX9_95) (fun _ h9 => h9) rfl (by decide +kernel) rfl rfl (Nat.le_of_ble_eq_true rfl) dX9_say_46 (fun H locs hP hD hS => ?_)
      have hP : va_P D vwCl [(mo, .inr (9, [.int tu, .int ga, .int lk, .int stp, .int dbt, .int win, .ref rea, .ref rla, .ref rwe, .ref rst, .ref rsp, .int (nI sn), .ref rpa, .int (nI (pn + 1)), .int plc, .int mnt, .int lft, .int abd, .ref rsa, .ref rta, .ref rbe, .ref rfa, .ref rpl, .ref rke, .ref rik, .int (nI ka), .int iw])), (rea, .inl (cI, 5, .inl ea)), (rla, .inl (cI, 5, .inl la)), (rwe, .inl (cI, 6, .inl we)), (rst, .inl (cI, 6, .inl mT)), (rsp, .inl (cI, 6, .inl mP)), (rpa, .inl (cI, 60, .inl (upd pa pn sgn))), (rsa, .inl (cI, 61, .inl sa)), (rta, .inl (cI, 12, .inl ta)), (rbe, .inl (cI, 12, .inl be)), (rfa, .inl (cI, 6, .inl fa)), (rpl, .inl (cI, 60, .inl pq)), (rke, .inl (cI, 100, .inl ke)), (rik, .inl (cZ, 2, .inl ik))] H := hP
      have hD : va_D A [(mo, .inr (9, [.int tu, .int ga, .int lk, .int stp, .int dbt, .int win, .ref rea, .ref rla, .ref rwe, .ref rst, .ref rsp, .int (nI sn), .ref rpa, .int (nI (pn + 1)), .int plc, .int mnt, .int lft, .int abd, .ref rsa, .ref rta, .ref rbe, .ref rfa, .ref rpl, .ref rke, .ref rik, .int (nI ka), .int iw])), (rea, .inl (cI, 5, .inl ea)), (rla, .inl (cI, 5, .inl la)), (rwe, .inl (cI, 6, .inl we)), (rst, .inl (cI, 6, .inl mT)), (rsp, .inl (cI, 6, .inl mP)), (rpa, .inl (cI, 60, .inl (upd pa pn sgn))), (rsa, .inl (cI, 61, .inl sa)), (rta, .inl (cI, 12, .inl ta)), (rbe, .inl (cI, 12, .inl be)), (rfa, .inl (cI, 6, .inl fa)), (rpl, .inl (cI, 60, .inl pq)), (rke, .inl (cI, 100, .inl ke)), (rik, .inl (cZ, 2, .inl ik))] := hD
      refine lv_aload_n hx hb dX9_say_49 rfl (lv_at hl 0 rfl) ?_
      refine va_get (D := D) (ci := 9) (v := .int (nI (pn + 1))) (C := RX9) (T := TX9) (N := 27) hx hb hts in_X9 hown hT.1 hP 0 rfl rfl 13 (by decide) (hts _ fl_RX9_95) (fun _ h9 => h9) rfl dX9_say_50 ?_
      have eo1 : nI (s_X9_say_pn pn sgn) = nI (pn + 1) := (by unfold s_X9_say_pn; rw [if_neg c1, if_neg c2])
      have eo2 : s_X9_say_pa pn pa sgn = upd pa pn sgn := (by unfold s_X9_say_pa; rw [if_neg c1, if_neg c2])
      exact hret _ _ _ H locs () dX9_say_53 (by unfold s_X9_say; rw [if_neg c1, if_neg c2]) trivial (by show va_P D vwCl [(mo, .inr (9, [.int tu, .int ga, .int lk, .int stp, .int dbt, .int win, .ref rea, .ref rla, .ref rwe, .ref rst, .ref rsp, .int (nI sn), .ref rpa, .int (nI (s_X9_say_pn pn sgn)), .int plc, .int mnt, .int lft, .int abd, .ref rsa, .ref rta, .ref rbe, .ref rfa, .ref rpl, .ref rke, .ref rik, .int (nI ka), .int iw])), (rea, .inl (cI, 5, .inl ea)), (rla, .inl (cI, 5, .inl la)), (rwe, .inl (cI, 6, .inl we)), (rst, .inl (cI, 6, .inl mT)), (rsp, .inl (cI, 6, .inl mP)), (rpa, .inl (cI, 60, .inl (s_X9_say_pa pn pa sgn))), (rsa, .inl (cI, 61, .inl sa)), (rta, .inl (cI, 12, .inl ta)), (rbe, .inl (cI, 12, .inl be)), (rfa, .inl (cI, 6, .inl fa)), (rpl, .inl (cI, 60, .inl pq)), (rke, .inl (cI, 100, .inl ke)), (rik, .inl (cZ, 2, .inl ik))] H; rw [eo1, eo2]; exact hP) hS
    · have nc2 := zNeq (a := pn) (b := 60) c2 (by omega) (by omega)
      refine lv_bipush (v := (-4)) hx hb dX9_say_26 (by decide) ?_
      have eo1 : nI (s_X9_say_pn pn sgn) = nI pn := (by unfold s_X9_say_pn; rw [if_neg c1, if_pos c2])
      have eo2 : s_X9_say_pa pn pa sgn = pa := (by unfold s_X9_say_pa; rw [if_neg c1, if_pos c2])
      exact hret _ _ _ s.heap [] () dX9_say_28 (by unfold s_X9_say; rw [if_neg c1, if_pos c2]) trivial (by show va_P D vwCl [(mo, .inr (9, [.int tu, .int ga, .int lk, .int stp, .int dbt, .int win, .ref rea, .ref rla, .ref rwe, .ref rst, .ref rsp, .int (nI sn), .ref rpa, .int (nI (s_X9_say_pn pn sgn)), .int plc, .int mnt, .int lft, .int abd, .ref rsa, .ref rta, .ref rbe, .ref rfa, .ref rpl, .ref rke, .ref rik, .int (nI ka), .int iw])), (rea, .inl (cI, 5, .inl ea)), (rla, .inl (cI, 5, .inl la)), (rwe, .inl (cI, 6, .inl we)), (rst, .inl (cI, 6, .inl mT)), (rsp, .inl (cI, 6, .inl mP)), (rpa, .inl (cI, 60, .inl (s_X9_say_pa pn pa sgn))), (rsa, .inl (cI, 61, .inl sa)), (rta, .inl (cI, 12, .inl ta)), (rbe, .inl (cI, 12, .inl be)), (rfa, .inl (cI, 6, .inl fa)), (rpl, .inl (cI, 60, .inl pq)), (rke, .inl (cI, 100, .inl ke)), (rik, .inl (cZ, 2, .inl ik))] s.heap; rw [eo1, eo2]; exact hP) hS
  · refine lv_bipush (v := (-2)) hx hb dX9_say_14 (by decide) ?_
    have eo1 : nI (s_X9_say_pn pn sgn) = nI pn := (by unfold s_X9_say_pn; rw [if_pos c1])
    have eo2 : s_X9_say_pa pn pa sgn = pa := (by unfold s_X9_say_pa; rw [if_pos c1])
    exact hret _ _ _ s.heap [] () dX9_say_16 (by unfold s_X9_say; rw [if_pos c1]) trivial (by show va_P D vwCl [(mo, .inr (9, [.int tu, .int ga, .int lk, .int stp, .int dbt, .int win, .ref rea, .ref rla, .ref rwe, .ref rst, .ref rsp, .int (nI sn), .ref rpa, .int (nI (s_X9_say_pn pn sgn)), .int plc, .int mnt, .int lft, .int abd, .ref rsa, .ref rta, .ref rbe, .ref rfa, .ref rpl, .ref rke, .ref rik, .int (nI ka), .int iw])), (rea, .inl (cI, 5, .inl ea)), (rla, .inl (cI, 5, .inl la)), (rwe, .inl (cI, 6, .inl we)), (rst, .inl (cI, 6, .inl mT)), (rsp, .inl (cI, 6, .inl mP)), (rpa, .inl (cI, 60, .inl (s_X9_say_pa pn pa sgn))), (rsa, .inl (cI, 61, .inl sa)), (rta, .inl (cI, 12, .inl ta)), (rbe, .inl (cI, 12, .inl be)), (rfa, .inl (cI, 6, .inl fa)), (rpl, .inl (cI, 60, .inl pq)), (rke, .inl (cI, 100, .inl ke)), (rik, .inl (cZ, 2, .inl ik))] s.heap; rw [eo1, eo2]; exact hP) hS
abbrev rm_X9_wipe : Room := { frames := 0, cells := 0, slots := 0, locals := 0 }
set_option maxRecDepth 100000 in
set_option maxHeartbeats 4000000 in
theorem c_X9_wipe (l : Launch) (D : va_G) (cI cZ : ClassId) (mo rea rla rwe rst rsp rpa rsa rta rbe rfa rpl rke rik sn pn ka : Nat) (tu ga lk stp dbt win plc mnt lft abd iw : Int32) (ea la we mT mP pa sa ta be fa pq ke ik : Nat → Int32) : Met l yX9_wipe [.code yX9_wipe cX9_wipe 2 (some .int)] rm_X9_wipe (PcW D cI cZ [.ref mo] [(mo, .inr (9, [.int tu, .int ga, .int lk, .int stp, .int dbt, .int win, .ref rea, .ref rla, .ref rwe, .ref rst, .ref rsp, .int (nI sn), .ref rpa, .int (nI pn), .int plc, .int mnt, .int lft, .int abd, .ref rsa, .ref rta, .ref rbe, .ref rfa, .ref rpl, .ref rke, .ref rik, .int (nI ka), .int iw])), (rea, .inl (cI, 5, .inl ea)), (rla, .inl (cI, 5, .inl la)), (rwe, .inl (cI, 6, .inl we)), (rst, .inl (cI, 6, .inl mT)), (rsp, .inl (cI, 6, .inl mP)), (rpa, .inl (cI, 60, .inl pa)), (rsa, .inl (cI, 61, .inl sa)), (rta, .inl (cI, 12, .inl ta)), (rbe, .inl (cI, 12, .inl be)), (rfa, .inl (cI, 6, .inl fa)), (rpl, .inl (cI, 60, .inl pq)), (rke, .inl (cI, 100, .inl ke)), (rik, .inl (cZ, 2, .inl ik))]) (QcE D (S := Unit) (some (.int (nI pn))) (fun _ => True) (fun _ => [(mo, .inr (9, [.int tu, .int ga, .int lk, .int stp, .int dbt, .int win, .ref rea, .ref rla, .ref rwe, .ref rst, .ref rsp, .int (nI sn), .ref rpa, .int 0, .int plc, .int mnt, .int lft, .int abd, .ref rsa, .ref rta, .ref rbe, .ref rfa, .ref rpl, .ref rke, .ref rik, .int (nI ka), .int iw])), (rea, .inl (cI, 5, .inl ea)), (rla, .inl (cI, 5, .inl la)), (rwe, .inl (cI, 6, .inl we)), (rst, .inl (cI, 6, .inl mT)), (rsp, .inl (cI, 6, .inl mP)), (rpa, .inl (cI, 60, .inl pa)), (rsa, .inl (cI, 61, .inl sa)), (rta, .inl (cI, 12, .inl ta)), (rbe, .inl (cI, 12, .inl be)), (rfa, .inl (cI, 6, .inl fa)), (rpl, .inl (cI, 60, .inl pq)), (rke, .inl (cI, 100, .inl ke)), (rik, .inl (cZ, 2, .inl ik))]) (zA [(mo, .inr (9, [.int tu, .int ga, .int lk, .int stp, .int dbt, .int win, .ref rea, .ref rla, .ref rwe, .ref rst, .ref rsp, .int (nI sn), .ref rpa, .int (nI pn), .int plc, .int mnt, .int lft, .int abd, .ref rsa, .ref rta, .ref rbe, .ref rfa, .ref rpl, .ref rke, .ref rik, .int (nI ka), .int iw])), (rea, .inl (cI, 5, .inl ea)), (rla, .inl (cI, 5, .inl la)), (rwe, .inl (cI, 6, .inl we)), (rst, .inl (cI, 6, .inl mT)), (rsp, .inl (cI, 6, .inl mP)), (rpa, .inl (cI, 60, .inl pa)), (rsa, .inl (cI, 61, .inl sa)), (rta, .inl (cI, 12, .inl ta)), (rbe, .inl (cI, 12, .inl be)), (rfa, .inl (cI, 6, .inl fa)), (rpl, .inl (cI, 60, .inl pq)), (rke, .inl (cI, 100, .inl ke)), (rik, .inl (cZ, 2, .inl ik))])) 0 0 (zA [(mo, .inr (9, [.int tu, .int ga, .int lk, .int stp, .int dbt, .int win, .ref rea, .ref rla, .ref rwe, .ref rst, .ref rsp, .int (nI sn), .ref rpa, .int (nI pn), .int plc, .int mnt, .int lft, .int abd, .ref rsa, .ref rta, .ref rbe, .ref rfa, .ref rpl, .ref rke, .ref rik, .int (nI ka), .int iw])), (rea, .inl (cI, 5, .inl ea)), (rla, .inl (cI, 5, .inl la)), (rwe, .inl (cI, 6, .inl we)), (rst, .inl (cI, 6, .inl mT)), (rsp, .inl (cI, 6, .inl mP)), (rpa, .inl (cI, 60, .inl pa)), (rsa, .inl (cI, 61, .inl sa)), (rta, .inl (cI, 12, .inl ta)), (rbe, .inl (cI, 12, .inl be)), (rfa, .inl (cI, 6, .inl fa)), (rpl, .inl (cI, 60, .inl pq)), (rke, .inl (cI, 100, .inl ke)), (rik, .inl (cZ, 2, .inl ik))]) := by
  refine mtWi (by decide) (Nat.le_of_ble_eq_true rfl) (fun p e s m args below meth c Q A S hT hP hD hS hret ls hl => ?_)
  have S : CallFix p m c cX9_wipe 2 s args zt RX9 := S
  obtain ⟨hx, hb, hml, hown, hts⟩ := id S
  have hl : lv_has ls 2 [(0, .ref mo)] := hl
  refine lv_aload_n hx hb dX9_wipe_0 rfl (lv_at hl 0 rfl) ?_
  refine va_get (D := D) (ci := 9) (v := .int (nI pn)) (C := RX9) (T := TX9) (N := 27) hx hb hts in_X9 hown hT.1 hP 0 rfl rfl 13 (by decide) (hts _ fl_RX9_95) (fun _ h9 => h9) rfl dX9_wipe_1 ?_
  refine lv_istore_n (lv' := [(1, .int (nI pn)), (0, .ref mo)]) hx hb dX9_wipe_4 rfl hl (by decide) rfl (fun ls hl => ?_)
  refine lv_aload_n hx hb dX9_wipe_5 rfl (lv_at hl 1 rfl) ?_
  refine lv_iconst (v := 0) hx hb dX9_wipe_6 (by decide) ?_
  refine va_put (D := D) (ci := 9) (v := .int 0) (ty := .int) (C := RX9) (T := TX9) (N := 27) hx hb hts in_X9 tyX9 tyX9_ok nmX9 hown hT.1 hP hD hS 0 rfl rfl 13 (by decide) (hts _ fl_RX9_95) (fun _ h9 => h9) rfl (by decide +kernel) rfl rfl (Nat.le_of_ble_eq_true rfl) dX9_wipe_7 (fun H locs hP hD hS => ?_)
  have hP : va_P D vwCl [(mo, .inr (9, [.int tu, .int ga, .int lk, .int stp, .int dbt, .int win, .ref rea, .ref rla, .ref rwe, .ref rst, .ref rsp, .int (nI sn), .ref rpa, .int 0, .int plc, .int mnt, .int lft, .int abd, .ref rsa, .ref rta, .ref rbe, .ref rfa, .ref rpl, .ref rke, .ref rik, .int (nI ka), .int iw])), (rea, .inl (cI, 5, .inl ea)), (rla, .inl (cI, 5, .inl la)), (rwe, .inl (cI, 6, .inl we)), (rst, .inl (cI, 6, .inl mT)), (rsp, .inl (cI, 6, .inl mP)), (rpa, .inl (cI, 60, .inl pa)), (rsa, .inl (cI, 61, .inl sa)), (rta, .inl (cI, 12, .inl ta)), (rbe, .inl (cI, 12, .inl be)), (rfa, .inl (cI, 6, .inl fa)), (rpl, .inl (cI, 60, .inl pq)), (rke, .inl (cI, 100, .inl ke)), (rik, .inl (cZ, 2, .inl ik))] H := hP
  have hD : va_D A [(mo, .inr (9, [.int tu, .int ga, .int lk, .int stp, .int dbt, .int win, .ref rea, .ref rla, .ref rwe, .ref rst, .ref rsp, .int (nI sn), .ref rpa, .int 0, .int plc, .int mnt, .int lft, .int abd, .ref rsa, .ref rta, .ref rbe, .ref rfa, .ref rpl, .ref rke, .ref rik, .int (nI ka), .int iw])), (rea, .inl (cI, 5, .inl ea)), (rla, .inl (cI, 5, .inl la)), (rwe, .inl (cI, 6, .inl we)), (rst, .inl (cI, 6, .inl mT)), (rsp, .inl (cI, 6, .inl mP)), (rpa, .inl (cI, 60, .inl pa)), (rsa, .inl (cI, 61, .inl sa)), (rta, .inl (cI, 12, .inl ta)), (rbe, .inl (cI, 12, .inl be)), (rfa, .inl (cI, 6, .inl fa)), (rpl, .inl (cI, 60, .inl pq)), (rke, .inl (cI, 100, .inl ke)), (rik, .inl (cZ, 2, .inl ik))] := hD
  refine lv_iload_n hx hb dX9_wipe_10 rfl (lv_at hl 0 rfl) ?_
  exact hret _ _ _ H locs () dX9_wipe_11 rfl trivial hP hS
def lp_X9_fault_9 (pn : Nat) (pa : Nat → Int32) : Nat → Nat → Int32 → Int32 → Int32
  | 0, _, _, _ => 0
  | fu + 1, k, x2_9, x1_9 => if nI pn ≤ nI k then (-6) else (if ((if pa k = 46 then 1 else (if pa k = 33 then (if (x2_9 + ((if pa k = 33 then 1 else 0) : Int32)) ≤ 12 then 1 else (if ((if (s_X9_in (Int32.toInt64 ((pa k) - 97)) 0 5) = 0 then 0 else (if ((x1_9 >>> (((pa k) - 97) &&& 31)) &&& 1) = 1 then 1 else 0)) : Int32) = 0 then 0 else 1)) else (if ((if (s_X9_in (Int32.toInt64 ((pa k) - 97)) 0 5) = 0 then 0 else (if ((x1_9 >>> (((pa k) - 97) &&& 31)) &&& 1) = 1 then 1 else 0)) : Int32) = 0 then 0 else 1))) : Int32) = 0 then nI k else (if ((if (s_X9_in (Int32.toInt64 ((pa k) - 97)) 0 5) = 0 then 0 else (if ((x1_9 >>> (((pa k) - 97) &&& 31)) &&& 1) = 1 then 1 else 0)) : Int32) = 0 then lp_X9_fault_9 pn pa fu (k + 1) (x2_9 + ((if pa k = 33 then 1 else 0) : Int32)) (x1_9 &&& (-1)) else lp_X9_fault_9 pn pa fu (k + 1) (x2_9 + ((if pa k = 33 then 1 else 0) : Int32)) (x1_9 &&& ((1 <<< (((pa k) - 97) &&& 31)) ^^^ (-1)))))
abbrev rm_X9_fault : Room := { frames := 2, cells := 0, slots := 0, locals := 45 }
set_option maxRecDepth 100000 in
set_option maxHeartbeats 4000000 in
theorem c_X9_fault (l : Launch) (D : va_G) (cI cZ : ClassId) (mo rea rla rwe rst rsp rpa rsa rta rbe rfa rpl rke rik sn pn ka : Nat) (tu ga lk stp dbt win plc mnt lft abd iw : Int32) (ea la we mT mP pa sa ta be fa pq ke ik : Nat → Int32) (hpn : pn ≤ 60) : Met l yX9_fault [.code yX9_fault cX9_fault 7 (some .int)] rm_X9_fault (PcR D cI cZ [.ref mo] [(mo, .inr (9, [.int tu, .int ga, .int lk, .int stp, .int dbt, .int win, .ref rea, .ref rla, .ref rwe, .ref rst, .ref rsp, .int (nI sn), .ref rpa, .int (nI pn), .int plc, .int mnt, .int lft, .int abd, .ref rsa, .ref rta, .ref rbe, .ref rfa, .ref rpl, .ref rke, .ref rik, .int (nI ka), .int iw])), (rea, .inl (cI, 5, .inl ea)), (rla, .inl (cI, 5, .inl la)), (rwe, .inl (cI, 6, .inl we)), (rst, .inl (cI, 6, .inl mT)), (rsp, .inl (cI, 6, .inl mP)), (rpa, .inl (cI, 60, .inl pa)), (rsa, .inl (cI, 61, .inl sa)), (rta, .inl (cI, 12, .inl ta)), (rbe, .inl (cI, 12, .inl be)), (rfa, .inl (cI, 6, .inl fa)), (rpl, .inl (cI, 60, .inl pq)), (rke, .inl (cI, 100, .inl ke)), (rik, .inl (cZ, 2, .inl ik))]) (QcR (some (.int (lp_X9_fault_9 pn pa (pn + 1) 0 0 (lp_X9_loaded_4 we 7 0 0))))) 0 0 zN := by
  refine mtRi (by decide) (Nat.le_of_ble_eq_true rfl) (fun p e s m args below meth c Q S hT hP hret ls hl => ?_)
  have S : CallFix p m c cX9_fault 7 s args zt RX9 := S
  obtain ⟨hx, hb, hml, hown, hts⟩ := id S
  have hl : lv_has ls 7 [(0, .ref mo)] := hl
  refine lv_aload_n hx hb dX9_fault_0 rfl (lv_at hl 0 rfl) ?_
  refine kRV (q0 := 0) (st1 := [.int (lp_X9_loaded_4 we 7 0 0)]) S hT hP (c_X9_loaded l D cI cZ mo rea rla rwe rst rsp rpa rsa rta rbe rfa rpl rke rik sn pn ka tu ga lk stp dbt win plc mnt lft abd iw ea la we mT mP pa sa ta be fa pq ke ik) rfl rfl mw_X9_loaded lk_RX9_98 ⟨rfl, rfl, (Nat.le_of_ble_eq_true rfl), (Nat.le_of_ble_eq_true rfl), (Nat.le_of_ble_eq_true rfl), (Nat.le_of_ble_eq_true rfl)⟩ [0, 1, 2, 3, 4, 5, 6, 7, 8, 9, 10, 11, 12, 13] rfl rfl rfl hl.1 (Nat.le_of_ble_eq_true rfl) dX9_fault_1 ?_
  refine lv_istore_n (lv' := [(1, .int (lp_X9_loaded_4 we 7 0 0)), (0, .ref mo)]) hx hb dX9_fault_4 rfl hl (by decide) rfl (fun ls hl => ?_)
  refine lv_iconst (v := 0) hx hb dX9_fault_5 (by decide) ?_
  refine lv_istore_n (lv' := [(2, .int 0), (1, .int (lp_X9_loaded_4 we 7 0 0)), (0, .ref mo)]) hx hb dX9_fault_6 rfl hl (by decide) rfl (fun ls hl => ?_)
  refine lv_iconst (v := 0) hx hb dX9_fault_7 (by decide) ?_
  refine lv_istore_n (lv' := [(3, .int 0), (2, .int 0), (1, .int (lp_X9_loaded_4 we 7 0 0)), (0, .ref mo)]) hx hb dX9_fault_8 rfl hl (by decide) rfl (fun ls hl => ?_)
  have L1 : ∀ (n4 : Nat) (k : Nat) (x2_9 : Int32) (x1_9 : Int32), pn - k < n4 → (k ≤ pn) → lp_X9_fault_9 pn pa n4 k x2_9 x1_9 = lp_X9_fault_9 pn pa (pn + 1) 0 0 (lp_X9_loaded_4 we 7 0 0) → ∀ (ls : Array Slot), lv_has ls 7 [(0, .ref mo), (1, .int x1_9), (2, .int x2_9), (3, .int (nI k))] → W p l e rm_X9_fault s m args below meth c s.heap [] 0 0 Q (F0 m 9 ls []) := by
    intro n4
    induction n4 with
    | zero => intro k x2_9 x1_9 hm; exact absurd hm (Nat.not_lt_zero _)
    | succ n4 ih3 =>
      intro k x2_9 x1_9 hm5 hk hv2 ls hl
      refine lv_iload_n hx hb dX9_fault_9 rfl (lv_at hl 3 rfl) ?_
      refine lv_aload_n hx hb dX9_fault_10 rfl (lv_at hl 0 rfl) ?_
      refine va_get (D := D) (ci := 9) (v := .int (nI pn)) (C := RX9) (T := TX9) (N := 27) hx hb hts in_X9 hown hT.1 hP 0 rfl rfl 13 (by decide) (hts _ fl_RX9_95) (fun _ h9 => h9) rfl dX9_fault_11 ?_
      refine lv_icmp_ge (tgt := 143) hx hb dX9_fault_14 (by decide) (fun c6 => ?_) (fun c6 => ?_)
      · have nc6 := zNle (a := pn) (b := k) c6 (by omega) (by omega)
        refine lv_bipush (v := (-6)) hx hb dX9_fault_143 (by decide) ?_
        exact hret _ _ _ dX9_fault_145 (by rw [← hv2, lp_X9_fault_9, if_pos c6])
      · have nc6 := zNnle (a := pn) (b := k) c6 (by omega) (by omega)
        refine lv_aload_n hx hb dX9_fault_17 rfl (lv_at hl 0 rfl) ?_
        refine va_get (D := D) (ci := 9) (v := .ref rpa) (C := RX9) (T := TX9) (N := 27) hx hb hts in_X9 hown hT.1 hP 0 rfl rfl 12 (by decide) (hts _ fl_RX9_25) (fun _ h9 => h9) rfl dX9_fault_18 ?_
        refine lv_iload_n hx hb dX9_fault_21 rfl (lv_at hl 3 rfl) ?_
        refine zald (D := D) (k := k) hx hb hT.1 hP 6 0 rfl rfl (by omega) (by omega) dX9_fault_22 ?_
        refine lv_bipush (v := 97) hx hb dX9_fault_23 (by decide) ?_
        refine lv_isub hx hb dX9_fault_25 ?_
        refine lv_istore (lv' := [(4, .int ((pa k) - 97)), (0, .ref mo), (1, .int x1_9), (2, .int x2_9), (3, .int (nI k))]) hx hb dX9_fault_26 hl (by decide) rfl (fun ls hl => ?_)
        refine lv_iload hx hb dX9_fault_28 (lv_at hl 0 rfl) ?_
        refine kRS (st1 := [.int (s_X9_in (Int32.toInt64 ((pa k) - 97)) 0 5)]) S hT hP (c_X9_isThing l D cI cZ ((pa k) - 97)) rfl rfl mw_X9_isThing lk_RX9_85 ⟨rfl, rfl, (Nat.le_of_ble_eq_true rfl), (Nat.le_of_ble_eq_true rfl), (Nat.le_of_ble_eq_true rfl), (Nat.le_of_ble_eq_true rfl)⟩ [] rfl hl.1 (Nat.le_of_ble_eq_true rfl) dX9_fault_30 ?_
        have J8 : ∀ (z7 : Int32), ((if (s_X9_in (Int32.toInt64 ((pa k) - 97)) 0 5) = 0 then 0 else (if ((x1_9 >>> (((pa k) - 97) &&& 31)) &&& 1) = 1 then 1 else 0)) : Int32) = z7 → W p l e rm_X9_fault s m args below meth c s.heap [] 0 0 Q (F0 m 51 ls [.int z7]) := by
          intro z7 ez7
          subst ez7
          refine lv_istore (lv' := [(5, .int ((if (s_X9_in (Int32.toInt64 ((pa k) - 97)) 0 5) = 0 then 0 else (if ((x1_9 >>> (((pa k) - 97) &&& 31)) &&& 1) = 1 then 1 else 0)) : Int32)), (4, .int ((pa k) - 97)), (0, .ref mo), (1, .int x1_9), (2, .int x2_9), (3, .int (nI k))]) hx hb dX9_fault_51 hl (by decide) rfl (fun ls hl => ?_)
          refine lv_iload_n hx hb dX9_fault_53 rfl (lv_at hl 4 rfl) ?_
          refine lv_aload_n hx hb dX9_fault_54 rfl (lv_at hl 2 rfl) ?_
          refine va_get (D := D) (ci := 9) (v := .ref rpa) (C := RX9) (T := TX9) (N := 27) hx hb hts in_X9 hown hT.1 hP 0 rfl rfl 12 (by decide) (hts _ fl_RX9_25) (fun _ h9 => h9) rfl dX9_fault_55 ?_
          refine lv_iload_n hx hb dX9_fault_58 rfl (lv_at hl 5 rfl) ?_
          refine zald (D := D) (k := k) hx hb hT.1 hP 6 0 rfl rfl (by omega) (by omega) dX9_fault_59 ?_
          refine lv_bipush (v := 33) hx hb dX9_fault_60 (by decide) ?_
          have J10 : ∀ (z9 : Int32), ((if pa k = 33 then 1 else 0) : Int32) = z9 → W p l e rm_X9_fault s m args below meth c s.heap [] 0 0 Q (F0 m 70 ls [.int z9, .int x2_9]) := by
            intro z9 ez9
            subst ez9
            refine lv_iadd hx hb dX9_fault_70 ?_
            refine lv_istore_n (lv' := [(2, .int (x2_9 + ((if pa k = 33 then 1 else 0) : Int32))), (5, .int ((if (s_X9_in (Int32.toInt64 ((pa k) - 97)) 0 5) = 0 then 0 else (if ((x1_9 >>> (((pa k) - 97) &&& 31)) &&& 1) = 1 then 1 else 0)) : Int32)), (4, .int ((pa k) - 97)), (0, .ref mo), (1, .int x1_9), (3, .int (nI k))]) hx hb dX9_fault_71 rfl hl (by decide) rfl (fun ls hl => ?_)
            refine lv_aload_n hx hb dX9_fault_72 rfl (lv_at hl 3 rfl) ?_
            refine va_get (D := D) (ci := 9) (v := .ref rpa) (C := RX9) (T := TX9) (N := 27) hx hb hts in_X9 hown hT.1 hP 0 rfl rfl 12 (by decide) (hts _ fl_RX9_25) (fun _ h9 => h9) rfl dX9_fault_73 ?_
            refine lv_iload_n hx hb dX9_fault_76 rfl (lv_at hl 5 rfl) ?_
            refine zald (D := D) (k := k) hx hb hT.1 hP 6 0 rfl rfl (by omega) (by omega) dX9_fault_77 ?_
            refine lv_bipush (v := 46) hx hb dX9_fault_78 (by decide) ?_
            have J12 : ∀ (z11 : Int32), ((if pa k = 46 then 1 else (if pa k = 33 then (if (x2_9 + ((if pa k = 33 then 1 else 0) : Int32)) ≤ 12 then 1 else (if ((if (s_X9_in (Int32.toInt64 ((pa k) - 97)) 0 5) = 0 then 0 else (if ((x1_9 >>> (((pa k) - 97) &&& 31)) &&& 1) = 1 then 1 else 0)) : Int32) = 0 then 0 else 1)) else (if ((if (s_X9_in (Int32.toInt64 ((pa k) - 97)) 0 5) = 0 then 0 else (if ((x1_9 >>> (((pa k) - 97) &&& 31)) &&& 1) = 1 then 1 else 0)) : Int32) = 0 then 0 else 1))) : Int32) = z11 → W p l e rm_X9_fault s m args below meth c s.heap [] 0 0 Q (F0 m 110 ls [.int z11]) := by
              intro z11 ez11
              subst ez11
              refine lv_istore (lv' := [(6, .int ((if pa k = 46 then 1 else (if pa k = 33 then (if (x2_9 + ((if pa k = 33 then 1 else 0) : Int32)) ≤ 12 then 1 else (if ((if (s_X9_in (Int32.toInt64 ((pa k) - 97)) 0 5) = 0 then 0 else (if ((x1_9 >>> (((pa k) - 97) &&& 31)) &&& 1) = 1 then 1 else 0)) : Int32) = 0 then 0 else 1)) else (if ((if (s_X9_in (Int32.toInt64 ((pa k) - 97)) 0 5) = 0 then 0 else (if ((x1_9 >>> (((pa k) - 97) &&& 31)) &&& 1) = 1 then 1 else 0)) : Int32) = 0 then 0 else 1))) : Int32)), (2, .int (x2_9 + ((if pa k = 33 then 1 else 0) : Int32))), (5, .int ((if (s_X9_in (Int32.toInt64 ((pa k) - 97)) 0 5) = 0 then 0 else (if ((x1_9 >>> (((pa k) - 97) &&& 31)) &&& 1) = 1 then 1 else 0)) : Int32)), (4, .int ((pa k) - 97)), (0, .ref mo), (1, .int x1_9), (3, .int (nI k))]) hx hb dX9_fault_110 hl (by decide) rfl (fun ls hl => ?_)
              refine lv_iload hx hb dX9_fault_112 (lv_at hl 0 rfl) ?_
              refine lv_if_ne (tgt := 119) hx hb dX9_fault_114 (by decide) (fun c13 => ?_) (fun c13 => ?_)
              · refine lv_iload_n hx hb dX9_fault_119 rfl (lv_at hl 5 rfl) ?_
                refine lv_iload hx hb dX9_fault_120 (lv_at hl 2 rfl) ?_
                refine lv_if_eq (tgt := 134) hx hb dX9_fault_122 (by decide) (fun c14 => ?_) (fun c14 => ?_)
                · refine lv_iconst (v := (-1)) hx hb dX9_fault_134 (by decide) ?_
                  refine lv_iand hx hb dX9_fault_135 ?_
                  refine lv_istore_n (lv' := [(1, .int (x1_9 &&& (-1))), (6, .int ((if pa k = 46 then 1 else (if pa k = 33 then (if (x2_9 + ((if pa k = 33 then 1 else 0) : Int32)) ≤ 12 then 1 else (if ((if (s_X9_in (Int32.toInt64 ((pa k) - 97)) 0 5) = 0 then 0 else (if ((x1_9 >>> (((pa k) - 97) &&& 31)) &&& 1) = 1 then 1 else 0)) : Int32) = 0 then 0 else 1)) else (if ((if (s_X9_in (Int32.toInt64 ((pa k) - 97)) 0 5) = 0 then 0 else (if ((x1_9 >>> (((pa k) - 97) &&& 31)) &&& 1) = 1 then 1 else 0)) : Int32) = 0 then 0 else 1))) : Int32)), (2, .int (x2_9 + ((if pa k = 33 then 1 else 0) : Int32))), (5, .int ((if (s_X9_in (Int32.toInt64 ((pa k) - 97)) 0 5) = 0 then 0 else (if ((x1_9 >>> (((pa k) - 97) &&& 31)) &&& 1) = 1 then 1 else 0)) : Int32)), (4, .int ((pa k) - 97)), (0, .ref mo), (3, .int (nI k))]) hx hb dX9_fault_136 rfl hl (by decide) rfl (fun ls hl => ?_)
                  refine lv_iinc (v := nI (k + 1)) (lv' := [(3, .int (nI (k + 1))), (1, .int (x1_9 &&& (-1))), (6, .int ((if pa k = 46 then 1 else (if pa k = 33 then (if (x2_9 + ((if pa k = 33 then 1 else 0) : Int32)) ≤ 12 then 1 else (if ((if (s_X9_in (Int32.toInt64 ((pa k) - 97)) 0 5) = 0 then 0 else (if ((x1_9 >>> (((pa k) - 97) &&& 31)) &&& 1) = 1 then 1 else 0)) : Int32) = 0 then 0 else 1)) else (if ((if (s_X9_in (Int32.toInt64 ((pa k) - 97)) 0 5) = 0 then 0 else (if ((x1_9 >>> (((pa k) - 97) &&& 31)) &&& 1) = 1 then 1 else 0)) : Int32) = 0 then 0 else 1))) : Int32)), (2, .int (x2_9 + ((if pa k = 33 then 1 else 0) : Int32))), (5, .int ((if (s_X9_in (Int32.toInt64 ((pa k) - 97)) 0 5) = 0 then 0 else (if ((x1_9 >>> (((pa k) - 97) &&& 31)) &&& 1) = 1 then 1 else 0)) : Int32)), (4, .int ((pa k) - 97)), (0, .ref mo)]) hx hb dX9_fault_137 hl (k := 6) rfl (nI_1 k) (by decide) rfl (fun ls hl => ?_)
                  refine lv_goto (tgt := 9) hx hb dX9_fault_140 (by decide) ?_
                  exact ih3 (k + 1) (x2_9 + ((if pa k = 33 then 1 else 0) : Int32)) (x1_9 &&& (-1)) (by omega) (by omega) (by rw [← hv2, lp_X9_fault_9, if_neg c6, if_neg c13, if_pos c14]) ls (lv_sub hl [6, 1, 3, 0] rfl)
                · refine lv_iconst (v := 1) hx hb dX9_fault_125 (by decide) ?_
                  refine lv_iload hx hb dX9_fault_126 (lv_at hl 3 rfl) ?_
                  refine lv_ishl hx hb dX9_fault_128 ?_
                  refine lv_iconst (v := (-1)) hx hb dX9_fault_129 (by decide) ?_
                  refine lv_ixor hx hb dX9_fault_130 ?_
                  refine lv_goto (tgt := 135) hx hb dX9_fault_131 (by decide) ?_
                  refine lv_iand hx hb dX9_fault_135 ?_
                  refine lv_istore_n (lv' := [(1, .int (x1_9 &&& ((1 <<< (((pa k) - 97) &&& 31)) ^^^ (-1)))), (6, .int ((if pa k = 46 then 1 else (if pa k = 33 then (if (x2_9 + ((if pa k = 33 then 1 else 0) : Int32)) ≤ 12 then 1 else (if ((if (s_X9_in (Int32.toInt64 ((pa k) - 97)) 0 5) = 0 then 0 else (if ((x1_9 >>> (((pa k) - 97) &&& 31)) &&& 1) = 1 then 1 else 0)) : Int32) = 0 then 0 else 1)) else (if ((if (s_X9_in (Int32.toInt64 ((pa k) - 97)) 0 5) = 0 then 0 else (if ((x1_9 >>> (((pa k) - 97) &&& 31)) &&& 1) = 1 then 1 else 0)) : Int32) = 0 then 0 else 1))) : Int32)), (2, .int (x2_9 + ((if pa k = 33 then 1 else 0) : Int32))), (5, .int ((if (s_X9_in (Int32.toInt64 ((pa k) - 97)) 0 5) = 0 then 0 else (if ((x1_9 >>> (((pa k) - 97) &&& 31)) &&& 1) = 1 then 1 else 0)) : Int32)), (4, .int ((pa k) - 97)), (0, .ref mo), (3, .int (nI k))]) hx hb dX9_fault_136 rfl hl (by decide) rfl (fun ls hl => ?_)
                  refine lv_iinc (v := nI (k + 1)) (lv' := [(3, .int (nI (k + 1))), (1, .int (x1_9 &&& ((1 <<< (((pa k) - 97) &&& 31)) ^^^ (-1)))), (6, .int ((if pa k = 46 then 1 else (if pa k = 33 then (if (x2_9 + ((if pa k = 33 then 1 else 0) : Int32)) ≤ 12 then 1 else (if ((if (s_X9_in (Int32.toInt64 ((pa k) - 97)) 0 5) = 0 then 0 else (if ((x1_9 >>> (((pa k) - 97) &&& 31)) &&& 1) = 1 then 1 else 0)) : Int32) = 0 then 0 else 1)) else (if ((if (s_X9_in (Int32.toInt64 ((pa k) - 97)) 0 5) = 0 then 0 else (if ((x1_9 >>> (((pa k) - 97) &&& 31)) &&& 1) = 1 then 1 else 0)) : Int32) = 0 then 0 else 1))) : Int32)), (2, .int (x2_9 + ((if pa k = 33 then 1 else 0) : Int32))), (5, .int ((if (s_X9_in (Int32.toInt64 ((pa k) - 97)) 0 5) = 0 then 0 else (if ((x1_9 >>> (((pa k) - 97) &&& 31)) &&& 1) = 1 then 1 else 0)) : Int32)), (4, .int ((pa k) - 97)), (0, .ref mo)]) hx hb dX9_fault_137 hl (k := 6) rfl (nI_1 k) (by decide) rfl (fun ls hl => ?_)
                  refine lv_goto (tgt := 9) hx hb dX9_fault_140 (by decide) ?_
                  exact ih3 (k + 1) (x2_9 + ((if pa k = 33 then 1 else 0) : Int32)) (x1_9 &&& ((1 <<< (((pa k) - 97) &&& 31)) ^^^ (-1))) (by omega) (by omega) (by rw [← hv2, lp_X9_fault_9, if_neg c6, if_neg c13, if_neg c14]) ls (lv_sub hl [6, 1, 3, 0] rfl)
              · refine lv_iload_n hx hb dX9_fault_117 rfl (lv_at hl 6 rfl) ?_
                exact hret _ _ _ dX9_fault_118 (by rw [← hv2, lp_X9_fault_9, if_neg c6, if_pos c13])
            refine lv_icmp_eq (tgt := 105) hx hb dX9_fault_80 (by decide) (fun c15 => ?_) (fun c15 => ?_)
            · refine lv_iconst (v := 1) hx hb dX9_fault_105 (by decide) ?_
              refine lv_goto (tgt := 110) hx hb dX9_fault_106 (by decide) ?_
              exact J12 1 (by rw [if_pos c15])
            · refine lv_aload_n hx hb dX9_fault_83 rfl (lv_at hl 3 rfl) ?_
              refine va_get (D := D) (ci := 9) (v := .ref rpa) (C := RX9) (T := TX9) (N := 27) hx hb hts in_X9 hown hT.1 hP 0 rfl rfl 12 (by decide) (hts _ fl_RX9_25) (fun _ h9 => h9) rfl dX9_fault_84 ?_
              refine lv_iload_n hx hb dX9_fault_87 rfl (lv_at hl 5 rfl) ?_
              refine zald (D := D) (k := k) hx hb hT.1 hP 6 0 rfl rfl (by omega) (by omega) dX9_fault_88 ?_
              refine lv_bipush (v := 33) hx hb dX9_fault_89 (by decide) ?_
              refine lv_icmp_ne (tgt := 100) hx hb dX9_fault_91 (by decide) (fun c16 => ?_) (fun c16 => ?_)
              · refine lv_iload hx hb dX9_fault_100 (lv_at hl 1 rfl) ?_
                refine lv_if_eq (tgt := 109) hx hb dX9_fault_102 (by decide) (fun c17 => ?_) (fun c17 => ?_)
                · refine lv_iconst (v := 0) hx hb dX9_fault_109 (by decide) ?_
                  exact J12 0 (by rw [if_neg c15, if_neg c16, if_pos c17])
                · refine lv_iconst (v := 1) hx hb dX9_fault_105 (by decide) ?_
                  refine lv_goto (tgt := 110) hx hb dX9_fault_106 (by decide) ?_
                  exact J12 1 (by rw [if_neg c15, if_neg c16, if_neg c17])
              · refine lv_iload_n hx hb dX9_fault_94 rfl (lv_at hl 0 rfl) ?_
                refine lv_bipush (v := 12) hx hb dX9_fault_95 (by decide) ?_
                refine lv_icmp_le (tgt := 105) hx hb dX9_fault_97 (by decide) (fun c18 => ?_) (fun c18 => ?_)
                · refine lv_iconst (v := 1) hx hb dX9_fault_105 (by decide) ?_
                  refine lv_goto (tgt := 110) hx hb dX9_fault_106 (by decide) ?_
                  exact J12 1 (by rw [if_neg c15, if_pos c16, if_pos c18])
                · refine lv_iload hx hb dX9_fault_100 (lv_at hl 1 rfl) ?_
                  refine lv_if_eq (tgt := 109) hx hb dX9_fault_102 (by decide) (fun c19 => ?_) (fun c19 => ?_)
                  · refine lv_iconst (v := 0) hx hb dX9_fault_109 (by decide) ?_
                    exact J12 0 (by rw [if_neg c15, if_pos c16, if_neg c18, if_pos c19])
                  · refine lv_iconst (v := 1) hx hb dX9_fault_105 (by decide) ?_
                    refine lv_goto (tgt := 110) hx hb dX9_fault_106 (by decide) ?_
                    exact J12 1 (by rw [if_neg c15, if_pos c16, if_neg c18, if_neg c19])
          refine lv_icmp_ne (tgt := 69) hx hb dX9_fault_62 (by decide) (fun c20 => ?_) (fun c20 => ?_)
          · refine lv_iconst (v := 0) hx hb dX9_fault_69 (by decide) ?_
            exact J10 0 (by rw [if_neg c20])
          · refine lv_iconst (v := 1) hx hb dX9_fault_65 (by decide) ?_
            refine lv_goto (tgt := 70) hx hb dX9_fault_66 (by decide) ?_
            exact J10 1 (by rw [if_pos c20])
        refine lv_if_eq (tgt := 50) hx hb dX9_fault_33 (by decide) (fun c21 => ?_) (fun c21 => ?_)
        · refine lv_iconst (v := 0) hx hb dX9_fault_50 (by decide) ?_
          exact J8 0 (by rw [if_pos c21])
        · refine lv_iload_n hx hb dX9_fault_36 rfl (lv_at hl 2 rfl) ?_
          refine lv_iload hx hb dX9_fault_37 (lv_at hl 0 rfl) ?_
          refine lv_ishr hx hb dX9_fault_39 ?_
          refine lv_iconst (v := 1) hx hb dX9_fault_40 (by decide) ?_
          refine lv_iand hx hb dX9_fault_41 ?_
          refine lv_iconst (v := 1) hx hb dX9_fault_42 (by decide) ?_
          refine lv_icmp_ne (tgt := 50) hx hb dX9_fault_43 (by decide) (fun c22 => ?_) (fun c22 => ?_)
          · refine lv_iconst (v := 0) hx hb dX9_fault_50 (by decide) ?_
            exact J8 0 (by rw [if_neg c21, if_neg c22])
          · refine lv_iconst (v := 1) hx hb dX9_fault_46 (by decide) ?_
            refine lv_goto (tgt := 51) hx hb dX9_fault_47 (by decide) ?_
            exact J8 1 (by rw [if_neg c21, if_pos c22])
  exact L1 (pn + 1) 0 0 (lp_X9_loaded_4 we 7 0 0) (by omega) (by omega) rfl ls (lv_sub hl [3, 2, 1, 0] rfl)
abbrev rm_X9_start : Room := { frames := 0, cells := 0, slots := 0, locals := 0 }
set_option maxRecDepth 100000 in
set_option maxHeartbeats 4000000 in
theorem c_X9_start (l : Launch) (D : va_G) (cI cZ : ClassId) (mo rea rla rwe rst rsp rpa rsa rta rbe rfa rpl rke rik sn pn ka : Nat) (tu ga lk stp dbt win plc mnt lft abd iw : Int32) (ea la we mT mP pa sa ta be fa pq ke ik : Nat → Int32) (g0 th : Int32) : Met l yX9_start [.code yX9_start cX9_start 3 none] rm_X9_start (PcW D cI cZ [.ref mo, .int g0, .int th] [(mo, .inr (9, [.int tu, .int ga, .int lk, .int stp, .int dbt, .int win, .ref rea, .ref rla, .ref rwe, .ref rst, .ref rsp, .int (nI sn), .ref rpa, .int (nI pn), .int plc, .int mnt, .int lft, .int abd, .ref rsa, .ref rta, .ref rbe, .ref rfa, .ref rpl, .ref rke, .ref rik, .int (nI ka), .int iw])), (rea, .inl (cI, 5, .inl ea)), (rla, .inl (cI, 5, .inl la)), (rwe, .inl (cI, 6, .inl we)), (rst, .inl (cI, 6, .inl mT)), (rsp, .inl (cI, 6, .inl mP)), (rpa, .inl (cI, 60, .inl pa)), (rsa, .inl (cI, 61, .inl sa)), (rta, .inl (cI, 12, .inl ta)), (rbe, .inl (cI, 12, .inl be)), (rfa, .inl (cI, 6, .inl fa)), (rpl, .inl (cI, 60, .inl pq)), (rke, .inl (cI, 100, .inl ke)), (rik, .inl (cZ, 2, .inl ik))]) (QcE D (S := Unit) none (fun _ => True) (fun _ => [(mo, .inr (9, [.int tu, .int ga, .int lk, .int stp, .int dbt, .int win, .ref rea, .ref rla, .ref rwe, .ref rst, .ref rsp, .int (nI sn), .ref rpa, .int (nI pn), .int 0, .int 0, .int g0, .int th, .ref rsa, .ref rta, .ref rbe, .ref rfa, .ref rpl, .ref rke, .ref rik, .int (nI ka), .int iw])), (rea, .inl (cI, 5, .inl ea)), (rla, .inl (cI, 5, .inl la)), (rwe, .inl (cI, 6, .inl we)), (rst, .inl (cI, 6, .inl mT)), (rsp, .inl (cI, 6, .inl mP)), (rpa, .inl (cI, 60, .inl pa)), (rsa, .inl (cI, 61, .inl sa)), (rta, .inl (cI, 12, .inl ta)), (rbe, .inl (cI, 12, .inl be)), (rfa, .inl (cI, 6, .inl fa)), (rpl, .inl (cI, 60, .inl pq)), (rke, .inl (cI, 100, .inl ke)), (rik, .inl (cZ, 2, .inl ik))]) (zA [(mo, .inr (9, [.int tu, .int ga, .int lk, .int stp, .int dbt, .int win, .ref rea, .ref rla, .ref rwe, .ref rst, .ref rsp, .int (nI sn), .ref rpa, .int (nI pn), .int plc, .int mnt, .int lft, .int abd, .ref rsa, .ref rta, .ref rbe, .ref rfa, .ref rpl, .ref rke, .ref rik, .int (nI ka), .int iw])), (rea, .inl (cI, 5, .inl ea)), (rla, .inl (cI, 5, .inl la)), (rwe, .inl (cI, 6, .inl we)), (rst, .inl (cI, 6, .inl mT)), (rsp, .inl (cI, 6, .inl mP)), (rpa, .inl (cI, 60, .inl pa)), (rsa, .inl (cI, 61, .inl sa)), (rta, .inl (cI, 12, .inl ta)), (rbe, .inl (cI, 12, .inl be)), (rfa, .inl (cI, 6, .inl fa)), (rpl, .inl (cI, 60, .inl pq)), (rke, .inl (cI, 100, .inl ke)), (rik, .inl (cZ, 2, .inl ik))])) 0 0 (zA [(mo, .inr (9, [.int tu, .int ga, .int lk, .int stp, .int dbt, .int win, .ref rea, .ref rla, .ref rwe, .ref rst, .ref rsp, .int (nI sn), .ref rpa, .int (nI pn), .int plc, .int mnt, .int lft, .int abd, .ref rsa, .ref rta, .ref rbe, .ref rfa, .ref rpl, .ref rke, .ref rik, .int (nI ka), .int iw])), (rea, .inl (cI, 5, .inl ea)), (rla, .inl (cI, 5, .inl la)), (rwe, .inl (cI, 6, .inl we)), (rst, .inl (cI, 6, .inl mT)), (rsp, .inl (cI, 6, .inl mP)), (rpa, .inl (cI, 60, .inl pa)), (rsa, .inl (cI, 61, .inl sa)), (rta, .inl (cI, 12, .inl ta)), (rbe, .inl (cI, 12, .inl be)), (rfa, .inl (cI, 6, .inl fa)), (rpl, .inl (cI, 60, .inl pq)), (rke, .inl (cI, 100, .inl ke)), (rik, .inl (cZ, 2, .inl ik))]) := by
  refine mtWv (by decide) (Nat.le_of_ble_eq_true rfl) (fun p e s m args below meth c Q A S hT hP hD hS hret ls hl => ?_)
  have S : CallFix p m c cX9_start 3 s args zt RX9 := S
  obtain ⟨hx, hb, hml, hown, hts⟩ := id S
  have hl : lv_has ls 3 [(0, .ref mo), (1, .int g0), (2, .int th)] := hl
  refine lv_aload_n hx hb dX9_start_0 rfl (lv_at hl 0 rfl) ?_
  refine lv_iconst (v := 0) hx hb dX9_start_1 (by decide) ?_
  refine va_put (D := D) (ci := 9) (v := .int 0) (ty := .int) (C := RX9) (T := TX9) (N := 27) hx hb hts in_X9 tyX9 tyX9_ok nmX9 hown hT.1 hP hD hS 0 rfl rfl 14 (by decide) (hts _ fl_RX9_102) (fun _ h9 => h9) rfl (by decide +kernel) rfl rfl (Nat.le_of_ble_eq_true rfl) dX9_start_2 (fun H locs hP hD hS => ?_)
  have hP : va_P D vwCl [(mo, .inr (9, [.int tu, .int ga, .int lk, .int stp, .int dbt, .int win, .ref rea, .ref rla, .ref rwe, .ref rst, .ref rsp, .int (nI sn), .ref rpa, .int (nI pn), .int 0, .int mnt, .int lft, .int abd, .ref rsa, .ref rta, .ref rbe, .ref rfa, .ref rpl, .ref rke, .ref rik, .int (nI ka), .int iw])), (rea, .inl (cI, 5, .inl ea)), (rla, .inl (cI, 5, .inl la)), (rwe, .inl (cI, 6, .inl we)), (rst, .inl (cI, 6, .inl mT)), (rsp, .inl (cI, 6, .inl mP)), (rpa, .inl (cI, 60, .inl pa)), (rsa, .inl (cI, 61, .inl sa)), (rta, .inl (cI, 12, .inl ta)), (rbe, .inl (cI, 12, .inl be)), (rfa, .inl (cI, 6, .inl fa)), (rpl, .inl (cI, 60, .inl pq)), (rke, .inl (cI, 100, .inl ke)), (rik, .inl (cZ, 2, .inl ik))] H := hP
  have hD : va_D A [(mo, .inr (9, [.int tu, .int ga, .int lk, .int stp, .int dbt, .int win, .ref rea, .ref rla, .ref rwe, .ref rst, .ref rsp, .int (nI sn), .ref rpa, .int (nI pn), .int 0, .int mnt, .int lft, .int abd, .ref rsa, .ref rta, .ref rbe, .ref rfa, .ref rpl, .ref rke, .ref rik, .int (nI ka), .int iw])), (rea, .inl (cI, 5, .inl ea)), (rla, .inl (cI, 5, .inl la)), (rwe, .inl (cI, 6, .inl we)), (rst, .inl (cI, 6, .inl mT)), (rsp, .inl (cI, 6, .inl mP)), (rpa, .inl (cI, 60, .inl pa)), (rsa, .inl (cI, 61, .inl sa)), (rta, .inl (cI, 12, .inl ta)), (rbe, .inl (cI, 12, .inl be)), (rfa, .inl (cI, 6, .inl fa)), (rpl, .inl (cI, 60, .inl pq)), (rke, .inl (cI, 100, .inl ke)), (rik, .inl (cZ, 2, .inl ik))] := hD
  refine lv_aload_n hx hb dX9_start_5 rfl (lv_at hl 0 rfl) ?_
  refine lv_iconst (v := 0) hx hb dX9_start_6 (by decide) ?_
  refine va_put (D := D) (ci := 9) (v := .int 0) (ty := .int) (C := RX9) (T := TX9) (N := 27) hx hb hts in_X9 tyX9 tyX9_ok nmX9 hown hT.1 hP hD hS 0 rfl rfl 15 (by decide) (hts _ fl_RX9_105) (fun _ h9 => h9) rfl (by decide +kernel) rfl rfl (Nat.le_of_ble_eq_true rfl) dX9_start_7 (fun H locs hP hD hS => ?_)
  have hP : va_P D vwCl [(mo, .inr (9, [.int tu, .int ga, .int lk, .int stp, .int dbt, .int win, .ref rea, .ref rla, .ref rwe, .ref rst, .ref rsp, .int (nI sn), .ref rpa, .int (nI pn), .int 0, .int 0, .int lft, .int abd, .ref rsa, .ref rta, .ref rbe, .ref rfa, .ref rpl, .ref rke, .ref rik, .int (nI ka), .int iw])), (rea, .inl (cI, 5, .inl ea)), (rla, .inl (cI, 5, .inl la)), (rwe, .inl (cI, 6, .inl we)), (rst, .inl (cI, 6, .inl mT)), (rsp, .inl (cI, 6, .inl mP)), (rpa, .inl (cI, 60, .inl pa)), (rsa, .inl (cI, 61, .inl sa)), (rta, .inl (cI, 12, .inl ta)), (rbe, .inl (cI, 12, .inl be)), (rfa, .inl (cI, 6, .inl fa)), (rpl, .inl (cI, 60, .inl pq)), (rke, .inl (cI, 100, .inl ke)), (rik, .inl (cZ, 2, .inl ik))] H := hP
  have hD : va_D A [(mo, .inr (9, [.int tu, .int ga, .int lk, .int stp, .int dbt, .int win, .ref rea, .ref rla, .ref rwe, .ref rst, .ref rsp, .int (nI sn), .ref rpa, .int (nI pn), .int 0, .int 0, .int lft, .int abd, .ref rsa, .ref rta, .ref rbe, .ref rfa, .ref rpl, .ref rke, .ref rik, .int (nI ka), .int iw])), (rea, .inl (cI, 5, .inl ea)), (rla, .inl (cI, 5, .inl la)), (rwe, .inl (cI, 6, .inl we)), (rst, .inl (cI, 6, .inl mT)), (rsp, .inl (cI, 6, .inl mP)), (rpa, .inl (cI, 60, .inl pa)), (rsa, .inl (cI, 61, .inl sa)), (rta, .inl (cI, 12, .inl ta)), (rbe, .inl (cI, 12, .inl be)), (rfa, .inl (cI, 6, .inl fa)), (rpl, .inl (cI, 60, .inl pq)), (rke, .inl (cI, 100, .inl ke)), (rik, .inl (cZ, 2, .inl ik))] := hD
  refine lv_aload_n hx hb dX9_start_10 rfl (lv_at hl 0 rfl) ?_
  refine lv_iload_n hx hb dX9_start_11 rfl (lv_at hl 1 rfl) ?_
  refine va_put (D := D) (ci := 9) (v := .int g0) (ty := .int) (C := RX9) (T := TX9) (N := 27) hx hb hts in_X9 tyX9 tyX9_ok nmX9 hown hT.1 hP hD hS 0 rfl rfl 16 (by decide) (hts _ fl_RX9_108) (fun _ h9 => h9) rfl (by decide +kernel) rfl rfl (Nat.le_of_ble_eq_true rfl) dX9_start_12 (fun H locs hP hD hS => ?_)
  have hP : va_P D vwCl [(mo, .inr (9, [.int tu, .int ga, .int lk, .int stp, .int dbt, .int win, .ref rea, .ref rla, .ref rwe, .ref rst, .ref rsp, .int (nI sn), .ref rpa, .int (nI pn), .int 0, .int 0, .int g0, .int abd, .ref rsa, .ref rta, .ref rbe, .ref rfa, .ref rpl, .ref rke, .ref rik, .int (nI ka), .int iw])), (rea, .inl (cI, 5, .inl ea)), (rla, .inl (cI, 5, .inl la)), (rwe, .inl (cI, 6, .inl we)), (rst, .inl (cI, 6, .inl mT)), (rsp, .inl (cI, 6, .inl mP)), (rpa, .inl (cI, 60, .inl pa)), (rsa, .inl (cI, 61, .inl sa)), (rta, .inl (cI, 12, .inl ta)), (rbe, .inl (cI, 12, .inl be)), (rfa, .inl (cI, 6, .inl fa)), (rpl, .inl (cI, 60, .inl pq)), (rke, .inl (cI, 100, .inl ke)), (rik, .inl (cZ, 2, .inl ik))] H := hP
  have hD : va_D A [(mo, .inr (9, [.int tu, .int ga, .int lk, .int stp, .int dbt, .int win, .ref rea, .ref rla, .ref rwe, .ref rst, .ref rsp, .int (nI sn), .ref rpa, .int (nI pn), .int 0, .int 0, .int g0, .int abd, .ref rsa, .ref rta, .ref rbe, .ref rfa, .ref rpl, .ref rke, .ref rik, .int (nI ka), .int iw])), (rea, .inl (cI, 5, .inl ea)), (rla, .inl (cI, 5, .inl la)), (rwe, .inl (cI, 6, .inl we)), (rst, .inl (cI, 6, .inl mT)), (rsp, .inl (cI, 6, .inl mP)), (rpa, .inl (cI, 60, .inl pa)), (rsa, .inl (cI, 61, .inl sa)), (rta, .inl (cI, 12, .inl ta)), (rbe, .inl (cI, 12, .inl be)), (rfa, .inl (cI, 6, .inl fa)), (rpl, .inl (cI, 60, .inl pq)), (rke, .inl (cI, 100, .inl ke)), (rik, .inl (cZ, 2, .inl ik))] := hD
  refine lv_aload_n hx hb dX9_start_15 rfl (lv_at hl 0 rfl) ?_
  refine lv_iload_n hx hb dX9_start_16 rfl (lv_at hl 2 rfl) ?_
  refine va_put (D := D) (ci := 9) (v := .int th) (ty := .int) (C := RX9) (T := TX9) (N := 27) hx hb hts in_X9 tyX9 tyX9_ok nmX9 hown hT.1 hP hD hS 0 rfl rfl 17 (by decide) (hts _ fl_RX9_111) (fun _ h9 => h9) rfl (by decide +kernel) rfl rfl (Nat.le_of_ble_eq_true rfl) dX9_start_17 (fun H locs hP hD hS => ?_)
  have hP : va_P D vwCl [(mo, .inr (9, [.int tu, .int ga, .int lk, .int stp, .int dbt, .int win, .ref rea, .ref rla, .ref rwe, .ref rst, .ref rsp, .int (nI sn), .ref rpa, .int (nI pn), .int 0, .int 0, .int g0, .int th, .ref rsa, .ref rta, .ref rbe, .ref rfa, .ref rpl, .ref rke, .ref rik, .int (nI ka), .int iw])), (rea, .inl (cI, 5, .inl ea)), (rla, .inl (cI, 5, .inl la)), (rwe, .inl (cI, 6, .inl we)), (rst, .inl (cI, 6, .inl mT)), (rsp, .inl (cI, 6, .inl mP)), (rpa, .inl (cI, 60, .inl pa)), (rsa, .inl (cI, 61, .inl sa)), (rta, .inl (cI, 12, .inl ta)), (rbe, .inl (cI, 12, .inl be)), (rfa, .inl (cI, 6, .inl fa)), (rpl, .inl (cI, 60, .inl pq)), (rke, .inl (cI, 100, .inl ke)), (rik, .inl (cZ, 2, .inl ik))] H := hP
  have hD : va_D A [(mo, .inr (9, [.int tu, .int ga, .int lk, .int stp, .int dbt, .int win, .ref rea, .ref rla, .ref rwe, .ref rst, .ref rsp, .int (nI sn), .ref rpa, .int (nI pn), .int 0, .int 0, .int g0, .int th, .ref rsa, .ref rta, .ref rbe, .ref rfa, .ref rpl, .ref rke, .ref rik, .int (nI ka), .int iw])), (rea, .inl (cI, 5, .inl ea)), (rla, .inl (cI, 5, .inl la)), (rwe, .inl (cI, 6, .inl we)), (rst, .inl (cI, 6, .inl mT)), (rsp, .inl (cI, 6, .inl mP)), (rpa, .inl (cI, 60, .inl pa)), (rsa, .inl (cI, 61, .inl sa)), (rta, .inl (cI, 12, .inl ta)), (rbe, .inl (cI, 12, .inl be)), (rfa, .inl (cI, 6, .inl fa)), (rpl, .inl (cI, 60, .inl pq)), (rke, .inl (cI, 100, .inl ke)), (rik, .inl (cZ, 2, .inl ik))] := hD
  exact hret _ _ H locs () dX9_start_20  trivial hP hS
abbrev rm_X9_startNow : Room := { frames := 1, cells := 0, slots := 0, locals := 22 }
set_option maxRecDepth 100000 in
set_option maxHeartbeats 4000000 in
theorem c_X9_startNow (l : Launch) (D : va_G) (cI cZ : ClassId) (mo rea rla rwe rst rsp rpa rsa rta rbe rfa rpl rke rik sn pn ka : Nat) (tu ga lk stp dbt win plc mnt lft abd iw : Int32) (ea la we mT mP pa sa ta be fa pq ke ik : Nat → Int32) : Met l yX9_startNow [.code yX9_startNow cX9_startNow 1 none] rm_X9_startNow (PcW D cI cZ [.ref mo] [(mo, .inr (9, [.int tu, .int ga, .int lk, .int stp, .int dbt, .int win, .ref rea, .ref rla, .ref rwe, .ref rst, .ref rsp, .int (nI sn), .ref rpa, .int (nI pn), .int plc, .int mnt, .int lft, .int abd, .ref rsa, .ref rta, .ref rbe, .ref rfa, .ref rpl, .ref rke, .ref rik, .int (nI ka), .int iw])), (rea, .inl (cI, 5, .inl ea)), (rla, .inl (cI, 5, .inl la)), (rwe, .inl (cI, 6, .inl we)), (rst, .inl (cI, 6, .inl mT)), (rsp, .inl (cI, 6, .inl mP)), (rpa, .inl (cI, 60, .inl pa)), (rsa, .inl (cI, 61, .inl sa)), (rta, .inl (cI, 12, .inl ta)), (rbe, .inl (cI, 12, .inl be)), (rfa, .inl (cI, 6, .inl fa)), (rpl, .inl (cI, 60, .inl pq)), (rke, .inl (cI, 100, .inl ke)), (rik, .inl (cZ, 2, .inl ik))]) (QcE D (S := Unit) none (fun _ => True) (fun _ => [(mo, .inr (9, [.int tu, .int ga, .int lk, .int stp, .int dbt, .int win, .ref rea, .ref rla, .ref rwe, .ref rst, .ref rsp, .int (nI sn), .ref rpa, .int (nI pn), .int 0, .int 0, .int ga, .int (lp_X9_loaded_4 we 7 0 0), .ref rsa, .ref rta, .ref rbe, .ref rfa, .ref rpl, .ref rke, .ref rik, .int (nI ka), .int iw])), (rea, .inl (cI, 5, .inl ea)), (rla, .inl (cI, 5, .inl la)), (rwe, .inl (cI, 6, .inl we)), (rst, .inl (cI, 6, .inl mT)), (rsp, .inl (cI, 6, .inl mP)), (rpa, .inl (cI, 60, .inl pa)), (rsa, .inl (cI, 61, .inl sa)), (rta, .inl (cI, 12, .inl ta)), (rbe, .inl (cI, 12, .inl be)), (rfa, .inl (cI, 6, .inl fa)), (rpl, .inl (cI, 60, .inl pq)), (rke, .inl (cI, 100, .inl ke)), (rik, .inl (cZ, 2, .inl ik))]) (zA [(mo, .inr (9, [.int tu, .int ga, .int lk, .int stp, .int dbt, .int win, .ref rea, .ref rla, .ref rwe, .ref rst, .ref rsp, .int (nI sn), .ref rpa, .int (nI pn), .int plc, .int mnt, .int lft, .int abd, .ref rsa, .ref rta, .ref rbe, .ref rfa, .ref rpl, .ref rke, .ref rik, .int (nI ka), .int iw])), (rea, .inl (cI, 5, .inl ea)), (rla, .inl (cI, 5, .inl la)), (rwe, .inl (cI, 6, .inl we)), (rst, .inl (cI, 6, .inl mT)), (rsp, .inl (cI, 6, .inl mP)), (rpa, .inl (cI, 60, .inl pa)), (rsa, .inl (cI, 61, .inl sa)), (rta, .inl (cI, 12, .inl ta)), (rbe, .inl (cI, 12, .inl be)), (rfa, .inl (cI, 6, .inl fa)), (rpl, .inl (cI, 60, .inl pq)), (rke, .inl (cI, 100, .inl ke)), (rik, .inl (cZ, 2, .inl ik))])) 0 0 (zA [(mo, .inr (9, [.int tu, .int ga, .int lk, .int stp, .int dbt, .int win, .ref rea, .ref rla, .ref rwe, .ref rst, .ref rsp, .int (nI sn), .ref rpa, .int (nI pn), .int plc, .int mnt, .int lft, .int abd, .ref rsa, .ref rta, .ref rbe, .ref rfa, .ref rpl, .ref rke, .ref rik, .int (nI ka), .int iw])), (rea, .inl (cI, 5, .inl ea)), (rla, .inl (cI, 5, .inl la)), (rwe, .inl (cI, 6, .inl we)), (rst, .inl (cI, 6, .inl mT)), (rsp, .inl (cI, 6, .inl mP)), (rpa, .inl (cI, 60, .inl pa)), (rsa, .inl (cI, 61, .inl sa)), (rta, .inl (cI, 12, .inl ta)), (rbe, .inl (cI, 12, .inl be)), (rfa, .inl (cI, 6, .inl fa)), (rpl, .inl (cI, 60, .inl pq)), (rke, .inl (cI, 100, .inl ke)), (rik, .inl (cZ, 2, .inl ik))]) := by
  refine mtWv (by decide) (Nat.le_of_ble_eq_true rfl) (fun p e s m args below meth c Q A S hT hP hD hS hret ls hl => ?_)
  have S : CallFix p m c cX9_startNow 1 s args zt RX9 := S
  obtain ⟨hx, hb, hml, hown, hts⟩ := id S
  have hl : lv_has ls 1 [(0, .ref mo)] := hl
  refine lv_aload_n hx hb dX9_startNow_0 rfl (lv_at hl 0 rfl) ?_
  refine lv_aload_n hx hb dX9_startNow_1 rfl (lv_at hl 0 rfl) ?_
  refine va_get (D := D) (ci := 9) (v := .int ga) (C := RX9) (T := TX9) (N := 27) hx hb hts in_X9 hown hT.1 hP 0 rfl rfl 1 (by decide) (hts _ fl_RX9_54) (fun _ h9 => h9) rfl dX9_startNow_2 ?_
  refine lv_aload_n hx hb dX9_startNow_5 rfl (lv_at hl 0 rfl) ?_
  refine kRV (q0 := 0) (st1 := [.int (lp_X9_loaded_4 we 7 0 0), .int ga, .ref mo]) S hT hP (c_X9_loaded l D cI cZ mo rea rla rwe rst rsp rpa rsa rta rbe rfa rpl rke rik sn pn ka tu ga lk stp dbt win plc mnt lft abd iw ea la we mT mP pa sa ta be fa pq ke ik) rfl rfl mw_X9_loaded lk_RX9_98 ⟨rfl, rfl, (Nat.le_of_ble_eq_true rfl), (Nat.le_of_ble_eq_true rfl), (Nat.le_of_ble_eq_true rfl), (Nat.le_of_ble_eq_true rfl)⟩ [0, 1, 2, 3, 4, 5, 6, 7, 8, 9, 10, 11, 12, 13] rfl rfl rfl hl.1 (Nat.le_of_ble_eq_true rfl) dX9_startNow_6 ?_
  refine kEV (q0 := 0) (st1 := []) S hT hP hD hS (c_X9_start l D cI cZ mo rea rla rwe rst rsp rpa rsa rta rbe rfa rpl rke rik sn pn ka tu ga lk stp dbt win plc mnt lft abd iw ea la we mT mP pa sa ta be fa pq ke ik ga (lp_X9_loaded_4 we 7 0 0)) rfl rfl mw_X9_start lk_RX9_114 ⟨rfl, rfl, (Nat.le_of_ble_eq_true rfl), (Nat.le_of_ble_eq_true rfl), (Nat.le_of_ble_eq_true rfl), (Nat.le_of_ble_eq_true rfl)⟩ [0, 1, 2, 3, 4, 5, 6, 7, 8, 9, 10, 11, 12, 13] [mo, rea, rla, rwe, rst, rsp, rpa, rsa, rta, rbe, rfa, rpl, rke, rik] (by decide) rfl rfl (fun _ => rfl) rfl rfl hl.1 (Nat.le_of_ble_eq_true rfl) dX9_startNow_9 (fun _ H locs _ hP hD hS => ?_)
  have hP : va_P D vwCl [(mo, .inr (9, [.int tu, .int ga, .int lk, .int stp, .int dbt, .int win, .ref rea, .ref rla, .ref rwe, .ref rst, .ref rsp, .int (nI sn), .ref rpa, .int (nI pn), .int 0, .int 0, .int ga, .int (lp_X9_loaded_4 we 7 0 0), .ref rsa, .ref rta, .ref rbe, .ref rfa, .ref rpl, .ref rke, .ref rik, .int (nI ka), .int iw])), (rea, .inl (cI, 5, .inl ea)), (rla, .inl (cI, 5, .inl la)), (rwe, .inl (cI, 6, .inl we)), (rst, .inl (cI, 6, .inl mT)), (rsp, .inl (cI, 6, .inl mP)), (rpa, .inl (cI, 60, .inl pa)), (rsa, .inl (cI, 61, .inl sa)), (rta, .inl (cI, 12, .inl ta)), (rbe, .inl (cI, 12, .inl be)), (rfa, .inl (cI, 6, .inl fa)), (rpl, .inl (cI, 60, .inl pq)), (rke, .inl (cI, 100, .inl ke)), (rik, .inl (cZ, 2, .inl ik))] H := hP
  have hD : va_D A [(mo, .inr (9, [.int tu, .int ga, .int lk, .int stp, .int dbt, .int win, .ref rea, .ref rla, .ref rwe, .ref rst, .ref rsp, .int (nI sn), .ref rpa, .int (nI pn), .int 0, .int 0, .int ga, .int (lp_X9_loaded_4 we 7 0 0), .ref rsa, .ref rta, .ref rbe, .ref rfa, .ref rpl, .ref rke, .ref rik, .int (nI ka), .int iw])), (rea, .inl (cI, 5, .inl ea)), (rla, .inl (cI, 5, .inl la)), (rwe, .inl (cI, 6, .inl we)), (rst, .inl (cI, 6, .inl mT)), (rsp, .inl (cI, 6, .inl mP)), (rpa, .inl (cI, 60, .inl pa)), (rsa, .inl (cI, 61, .inl sa)), (rta, .inl (cI, 12, .inl ta)), (rbe, .inl (cI, 12, .inl be)), (rfa, .inl (cI, 6, .inl fa)), (rpl, .inl (cI, 60, .inl pq)), (rke, .inl (cI, 100, .inl ke)), (rik, .inl (cZ, 2, .inl ik))] := hD
  exact hret _ _ H locs () dX9_startNow_12  trivial hP hS
