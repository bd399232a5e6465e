def lp_X9_height_7 (abd : Int32) (we : Nat → Int32) : Nat → Nat → Int32 → Int32
  | 0, _, x1_7 => x1_7
  | fu + 1, k, x1_7 => if 6 ≤ nI k then x1_7 else (if ((abd >>> ((nI k) &&& 31)) &&& 1) = 1 then lp_X9_height_7 abd we fu (k + 1) (x1_7 - (we k)) else lp_X9_height_7 abd we fu (k + 1) (x1_7 - 0))
def s_X9_height (stp : Int32) (lft : Int32) (abd : Int32) (we : Nat → Int32) : Int32 := if 5 ≤ ((if 0 ≤ (lp_X9_height_7 abd we 7 0 lft) then (lp_X9_height_7 abd we 7 0 lft) / stp else 0) : Int32) then 4 else ((if 0 ≤ (lp_X9_height_7 abd we 7 0 lft) then (lp_X9_height_7 abd we 7 0 lft) / stp else 0) : Int32)
abbrev rm_X9_height : Room := { frames := 0, cells := 0, slots := 0, locals := 0 }
set_option maxRecDepth 100000 in
set_option maxHeartbeats 4000000 in
theorem c_X9_height (l : Launch) (D : va_G) (cI cZ : ClassId) (mo rea rla rwe rst rsp rpa rsa rta rbe rfa rpl rke rik sn pn ka : Nat) (tu ga lk stp dbt win plc mnt lft abd iw : Int32) (ea la we mT mP pa sa ta be fa pq ke ik : Nat → Int32) (hstp : 1 ≤ stp) : Met l yX9_height [.code yX9_height cX9_height 3 (some .int)] rm_X9_height (PcR D cI cZ [.ref mo] [(mo, .inr (9, [.int tu, .int ga, .int lk, .int stp, .int dbt, .int win, .ref rea, .ref rla, .ref rwe, .ref rst, .ref rsp, .int (nI sn), .ref rpa, .int (nI pn), .int plc, .int mnt, .int lft, .int abd, .ref rsa, .ref rta, .ref rbe, .ref rfa, .ref rpl, .ref rke, .ref rik, .int (nI ka), .int iw])), (rea, .inl (cI, 5, .inl ea)), (rla, .inl (cI, 5, .inl la)), (rwe, .inl (cI, 6, .inl we)), (rst, .inl (cI, 6, .inl mT)), (rsp, .inl (cI, 6, .inl mP)), (rpa, .inl (cI, 60, .inl pa)), (rsa, .inl (cI, 61, .inl sa)), (rta, .inl (cI, 12, .inl ta)), (rbe, .inl (cI, 12, .inl be)), (rfa, .inl (cI, 6, .inl fa)), (rpl, .inl (cI, 60, .inl pq)), (rke, .inl (cI, 100, .inl ke)), (rik, .inl (cZ, 2, .inl ik))]) (QcR (some (.int (s_X9_height stp lft abd we)))) 0 0 zN := by
  refine mtRi (by decide) (Nat.le_of_ble_eq_true rfl) (fun p e s m args below meth c Q S hT hP hret ls hl => ?_)
  have S : CallFix p m c cX9_height 3 s args zt RX9 := S
  obtain ⟨hx, hb, hml, hown, hts⟩ := id S
  have hl : lv_has ls 3 [(0, .ref mo)] := hl
  refine lv_aload_n hx hb dX9_height_0 rfl (lv_at hl 0 rfl) ?_
  refine va_get (D := D) (ci := 9) (v := .int lft) (C := RX9) (T := TX9) (N := 27) hx hb hts in_X9 hown hT.1 hP 0 rfl rfl 16 (by decide) (hts _ fl_RX9_108) (fun _ h9 => h9) rfl dX9_height_1 ?_
  refine lv_istore_n (lv' := [(1, .int lft), (0, .ref mo)]) hx hb dX9_height_4 rfl hl (by decide) rfl (fun ls hl => ?_)
  refine lv_iconst (v := 0) hx hb dX9_height_5 (by decide) ?_
  refine lv_istore_n (lv' := [(2, .int 0), (1, .int lft), (0, .ref mo)]) hx hb dX9_height_6 rfl hl (by decide) rfl (fun ls hl => ?_)
  have X2 : ∀ (y1 : Int32), (lp_X9_height_7 abd we 7 0 lft) = y1 → ∀ (ls : Array Slot), lv_has ls 3 [(0, .ref mo), (1, .int y1)] → W p l e rm_X9_height s m args below meth c s.heap [] 0 0 Q (F0 m 44 ls []) := by
    intro y1 ey1 ls hl
    subst ey1
    refine lv_iload_n hx hb dX9_height_44 rfl (lv_at hl 1 rfl) ?_
    have J4 : ∀ (z3 : Int32), ((if 0 ≤ (lp_X9_height_7 abd we 7 0 lft) then (lp_X9_height_7 abd we 7 0 lft) / stp else 0) : Int32) = z3 → W p l e rm_X9_height s m args below meth c s.heap [] 0 0 Q (F0 m 58 ls [.int z3]) := by
      intro z3 ez3
      subst ez3
      refine lv_istore_n (lv' := [(2, .int ((if 0 ≤ (lp_X9_height_7 abd we 7 0 lft) then (lp_X9_height_7 abd we 7 0 lft) / stp else 0) : Int32)), (0, .ref mo), (1, .int (lp_X9_height_7 abd we 7 0 lft))]) hx hb dX9_height_58 rfl hl (by decide) rfl (fun ls hl => ?_)
      refine lv_iload_n hx hb dX9_height_59 rfl (lv_at hl 0 rfl) ?_
      refine lv_iconst (v := 5) hx hb dX9_height_60 (by decide) ?_
      refine lv_icmp_ge (tgt := 68) hx hb dX9_height_61 (by decide) (fun c5 => ?_) (fun c5 => ?_)
      · refine lv_iconst (v := 4) hx hb dX9_height_68 (by decide) ?_
        exact hret _ _ _ dX9_height_69 (by unfold s_X9_height; rw [if_pos c5])
      · refine lv_iload_n hx hb dX9_height_64 rfl (lv_at hl 0 rfl) ?_
        refine lv_goto (tgt := 69) hx hb dX9_height_65 (by decide) ?_
        exact hret _ _ _ dX9_height_69 (by unfold s_X9_height; rw [if_neg c5])
    refine lv_if_ge (tgt := 52) hx hb dX9_height_45 (by decide) (fun c6 => ?_) (fun c6 => ?_)
    · refine lv_iload_n hx hb dX9_height_52 rfl (lv_at hl 1 rfl) ?_
      refine lv_aload_n hx hb dX9_height_53 rfl (lv_at hl 0 rfl) ?_
      refine va_get (D := D) (ci := 9) (v := .int stp) (C := RX9) (T := TX9) (N := 27) hx hb hts in_X9 hown hT.1 hP 0 rfl rfl 3 (by decide) (hts _ fl_RX9_60) (fun _ h9 => h9) rfl dX9_height_54 ?_
      refine lv_idiv hx hb dX9_height_57 (zst0 hstp) ?_
      exact J4 ((lp_X9_height_7 abd we 7 0 lft) / stp) (by rw [if_pos c6])
    · refine lv_iconst (v := 0) hx hb dX9_height_48 (by decide) ?_
      refine lv_goto (tgt := 58) hx hb dX9_height_49 (by decide) ?_
      exact J4 0 (by rw [if_neg c6])
  have L7 : ∀ (n10 : Nat) (k : Nat) (x1_7 : Int32), 6 - k < n10 → (k ≤ 6) → lp_X9_height_7 abd we n10 k x1_7 = lp_X9_height_7 abd we 7 0 lft → ∀ (ls : Array Slot), lv_has ls 3 [(0, .ref mo), (1, .int x1_7), (2, .int (nI k))] → W p l e rm_X9_height s m args below meth c s.heap [] 0 0 Q (F0 m 7 ls []) := by
    intro n10
    induction n10 with
    | zero => intro k x1_7 hm; exact absurd hm (Nat.not_lt_zero _)
    | succ n10 ih9 =>
      intro k x1_7 hm11 hk hv8 ls hl
      refine lv_iload_n hx hb dX9_height_7 rfl (lv_at hl 2 rfl) ?_
      refine lv_bipush (v := 6) hx hb dX9_height_8 (by decide) ?_
      refine lv_icmp_ge (tgt := 44) hx hb dX9_height_10 (by decide) (fun c12 => ?_) (fun c12 => ?_)
      · have nc12 := zNle (a := 6) (b := k) c12 (by omega) (by omega)
        exact X2 _ (by rw [← hv8, lp_X9_height_7, if_pos c12]) ls (lv_sub hl [0, 1] rfl)
      · have nc12 := zNnle (a := 6) (b := k) c12 (by omega) (by omega)
        refine lv_iload_n hx hb dX9_height_13 rfl (lv_at hl 1 rfl) ?_
        refine lv_aload_n hx hb dX9_height_14 rfl (lv_at hl 0 rfl) ?_
        refine va_get (D := D) (ci := 9) (v := .int abd) (C := RX9) (T := TX9) (N := 27) hx hb hts in_X9 hown hT.1 hP 0 rfl rfl 17 (by decide) (hts _ fl_RX9_111) (fun _ h9 => h9) rfl dX9_height_15 ?_
        refine lv_iload_n hx hb dX9_height_18 rfl (lv_at hl 2 rfl) ?_
        refine lv_ishr hx hb dX9_height_19 ?_
        refine lv_iconst (v := 1) hx hb dX9_height_20 (by decide) ?_
        refine lv_iand hx hb dX9_height_21 ?_
        refine lv_iconst (v := 1) hx hb dX9_height_22 (by decide) ?_
        refine lv_icmp_ne (tgt := 35) hx hb dX9_height_23 (by decide) (fun c13 => ?_) (fun c13 => ?_)
        · refine lv_iconst (v := 0) hx hb dX9_height_35 (by decide) ?_
          refine lv_isub hx hb dX9_height_36 ?_
          refine lv_istore_n (lv' := [(1, .int (x1_7 - 0)), (0, .ref mo), (2, .int (nI k))]) hx hb dX9_height_37 rfl hl (by decide) rfl (fun ls hl => ?_)
          refine lv_iinc (v := nI (k + 1)) (lv' := [(2, .int (nI (k + 1))), (1, .int (x1_7 - 0)), (0, .ref mo)]) hx hb dX9_height_38 hl (k := 2) rfl (nI_1 k) (by decide) rfl (fun ls hl => ?_)
          refine lv_goto (tgt := 7) hx hb dX9_height_41 (by decide) ?_
          exact ih9 (k + 1) (x1_7 - 0) (by omega) (by omega) (by rw [← hv8, lp_X9_height_7, if_neg c12, if_neg c13]) ls (lv_sub hl [2, 1, 0] rfl)
        · refine lv_aload_n hx hb dX9_height_26 rfl (lv_at hl 0 rfl) ?_
          refine va_get (D := D) (ci := 9) (v := .ref rwe) (C := RX9) (T := TX9) (N := 27) hx hb hts in_X9 hown hT.1 hP 0 rfl rfl 8 (by decide) (hts _ fl_RX9_16) (fun _ h9 => h9) rfl dX9_height_27 ?_
          refine lv_iload_n hx hb dX9_height_30 rfl (lv_at hl 2 rfl) ?_
          refine zald (D := D) (k := k) hx hb hT.1 hP 3 0 rfl rfl (by omega) (by omega) dX9_height_31 ?_
          refine lv_goto (tgt := 36) hx hb dX9_height_32 (by decide) ?_
          refine lv_isub hx hb dX9_height_36 ?_
          refine lv_istore_n (lv' := [(1, .int (x1_7 - (we k))), (0, .ref mo), (2, .int (nI k))]) hx hb dX9_height_37 rfl hl (by decide) rfl (fun ls hl => ?_)
          refine lv_iinc (v := nI (k + 1)) (lv' := [(2, .int (nI (k + 1))), (1, .int (x1_7 - (we k))), (0, .ref mo)]) hx hb dX9_height_38 hl (k := 2) rfl (nI_1 k) (by decide) rfl (fun ls hl => ?_)
          refine lv_goto (tgt := 7) hx hb dX9_height_41 (by decide) ?_
          exact ih9 (k + 1) (x1_7 - (we k)) (by omega) (by omega) (by rw [← hv8, lp_X9_height_7, if_neg c12, if_pos c13]) ls (lv_sub hl [2, 1, 0] rfl)
  exact L7 7 0 lft (by omega) (by omega) rfl ls (lv_sub hl [2, 1, 0] rfl)
theorem zdivr {a b : Int32} (ha : 0 ≤ a) (hb : 1 ≤ b) : 0 ≤ a / b := by
  obtain ⟨j, hj, rfl⟩ := nI_of (x := a) (Int32.not_lt.mpr ha)
  obtain ⟨i, hi, rfl⟩ := nI_of (x := b) (Int32.not_lt.mpr (Int32.le_trans (by decide) hb))
  have h0 : 0 < i := by
    have := zNle (a := 1) hb (by decide) hi
    omega
  rw [pk_div hj h0 hi]
  exact nI_pos' (Nat.lt_of_le_of_lt (Nat.div_le_self _ _) hj)
theorem zhgt (stp lft abd : Int32) (we : Nat → Int32) (h : 1 ≤ stp) : vp_in (s_X9_height stp lft abd we) 5 := by
  unfold s_X9_height
  have key : ∀ z : Int32, 0 ≤ z → vp_in (if 5 ≤ z then 4 else z) 5 := by
    intro z hz
    by_cases c : 5 ≤ z
    · rw [if_pos c]; exact vp_in_iff.mpr ⟨by decide, by decide⟩
    · rw [if_neg c]
      have c2 := Int32.not_le.mp c
      rw [Int32.lt_iff_toInt_lt] at c2
      rw [Int32.le_iff_toInt_le] at hz
      exact vp_in_iff.mpr ⟨hz, c2⟩
  apply key
  split
  · next hc => exact zdivr hc h
  · exact Int32.le_refl 0
abbrev rm_X9_drift : Room := { frames := 1, cells := 0, slots := 0, locals := 22 }
set_option maxRecDepth 100000 in
set_option maxHeartbeats 4000000 in
theorem c_X9_drift (l : Launch) (D : va_G) (cI cZ : ClassId) (mo rea rla rwe rst rsp rpa rsa rta rbe rfa rpl rke rik sn pn ka : Nat) (tu ga lk stp dbt win plc mnt lft abd iw : Int32) (ea la we mT mP pa sa ta be fa pq ke ik : Nat → Int32) (hstp : 1 ≤ stp) : Met l yX9_drift [.code yX9_drift cX9_drift 1 none] rm_X9_drift (PcW D cI cZ [.ref mo] [(mo, .inr (9, [.int tu, .int ga, .int lk, .int stp, .int dbt, .int win, .ref rea, .ref rla, .ref rwe, .ref rst, .ref rsp, .int (nI sn), .ref rpa, .int (nI pn), .int plc, .int mnt, .int lft, .int abd, .ref rsa, .ref rta, .ref rbe, .ref rfa, .ref rpl, .ref rke, .ref rik, .int (nI ka), .int iw])), (rea, .inl (cI, 5, .inl ea)), (rla, .inl (cI, 5, .inl la)), (rwe, .inl (cI, 6, .inl we)), (rst, .inl (cI, 6, .inl mT)), (rsp, .inl (cI, 6, .inl mP)), (rpa, .inl (cI, 60, .inl pa)), (rsa, .inl (cI, 61, .inl sa)), (rta, .inl (cI, 12, .inl ta)), (rbe, .inl (cI, 12, .inl be)), (rfa, .inl (cI, 6, .inl fa)), (rpl, .inl (cI, 60, .inl pq)), (rke, .inl (cI, 100, .inl ke)), (rik, .inl (cZ, 2, .inl ik))]) (QcE D (S := Unit) none (fun _ => True) (fun _ => [(mo, .inr (9, [.int tu, .int ga, .int lk, .int stp, .int dbt, .int win, .ref rea, .ref rla, .ref rwe, .ref rst, .ref rsp, .int (nI sn), .ref rpa, .int (nI pn), .int (plc + ((if tu ≤ mnt then la (s_X9_height stp lft abd we).toNatClampNeg else ea (s_X9_height stp lft abd we).toNatClampNeg) : Int32)), .int (mnt + 1), .int ((if lft ≤ lk then 0 else lft - lk) : Int32), .int abd, .ref rsa, .ref rta, .ref rbe, .ref rfa, .ref rpl, .ref rke, .ref rik, .int (nI ka), .int iw])), (rea, .inl (cI, 5, .inl ea)), (rla, .inl (cI, 5, .inl la)), (rwe, .inl (cI, 6, .inl we)), (rst, .inl (cI, 6, .inl mT)), (rsp, .inl (cI, 6, .inl mP)), (rpa, .inl (cI, 60, .inl pa)), (rsa, .inl (cI, 61, .inl sa)), (rta, .inl (cI, 12, .inl ta)), (rbe, .inl (cI, 12, .inl be)), (rfa, .inl (cI, 6, .inl fa)), (rpl, .inl (cI, 60, .inl pq)), (rke, .inl (cI, 100, .inl ke)), (rik, .inl (cZ, 2, .inl ik))]) (zA [(mo, .inr (9, [.int tu, .int ga, .int lk, .int stp, .int dbt, .int win, .ref rea, .ref rla, .ref rwe, .ref rst, .ref rsp, .int (nI sn), .ref rpa, .int (nI pn), .int plc, .int mnt, .int lft, .int abd, .ref rsa, .ref rta, .ref rbe, .ref rfa, .ref rpl, .ref rke, .ref rik, .int (nI ka), .int iw])), (rea, .inl (cI, 5, .inl ea)), (rla, .inl (cI, 5, .inl la)), (rwe, .inl (cI, 6, .inl we)), (rst, .inl (cI, 6, .inl mT)), (rsp, .inl (cI, 6, .inl mP)), (rpa, .inl (cI, 60, .inl pa)), (rsa, .inl (cI, 61, .inl sa)), (rta, .inl (cI, 12, .inl ta)), (rbe, .inl (cI, 12, .inl be)), (rfa, .inl (cI, 6, .inl fa)), (rpl, .inl (cI, 60, .inl pq)), (rke, .inl (cI, 100, .inl ke)), (rik, .inl (cZ, 2, .inl ik))])) 0 0 (zA [(mo, .inr (9, [.int tu, .int ga, .int lk, .int stp, .int dbt, .int win, .ref rea, .ref rla, .ref rwe, .ref rst, .ref rsp, .int (nI sn), .ref rpa, .int (nI pn), .int plc, .int mnt, .int lft, .int abd, .ref rsa, .ref rta, .ref rbe, .ref rfa, .ref rpl, .ref rke, .ref rik, .int (nI ka), .int iw])), (rea, .inl (cI, 5, .inl ea)), (rla, .inl (cI, 5, .inl la)), (rwe, .inl (cI, 6, .inl we)), (rst, .inl (cI, 6, .inl mT)), (rsp, .inl (cI, 6, .inl mP)), (rpa, .inl (cI, 60, .inl pa)), (rsa, .inl (cI, 61, .inl sa)), (rta, .inl (cI, 12, .inl ta)), (rbe, .inl (cI, 12, .inl be)), (rfa, .inl (cI, 6, .inl fa)), (rpl, .inl (cI, 60, .inl pq)), (rke, .inl (cI, 100, .inl ke)), (rik, .inl (cZ, 2, .inl ik))]) := by
  refine mtWv (by decide) (Nat.le_of_ble_eq_true rfl) (fun p e s m args below meth c Q A S hT hP hD hS hret ls hl => ?_)
  have S : CallFix p m c cX9_drift 1 s args zt RX9 := S
  obtain ⟨hx, hb, hml, hown, hts⟩ := id S
  have hl : lv_has ls 1 [(0, .ref mo)] := hl
  refine lv_aload_n hx hb dX9_drift_0 rfl (lv_at hl 0 rfl) ?_
  refine lv_dup hx hb dX9_drift_1 rfl ?_
  refine va_get (D := D) (ci := 9) (v := .int plc) (C := RX9) (T := TX9) (N := 27) hx hb hts in_X9 hown hT.1 hP 0 rfl rfl 14 (by decide) (hts _ fl_RX9_102) (fun _ h9 => h9) rfl dX9_drift_2 ?_
  refine lv_aload_n hx hb dX9_drift_5 rfl (lv_at hl 0 rfl) ?_
  refine va_get (D := D) (ci := 9) (v := .int mnt) (C := RX9) (T := TX9) (N := 27) hx hb hts in_X9 hown hT.1 hP 0 rfl rfl 15 (by decide) (hts _ fl_RX9_105) (fun _ h9 => h9) rfl dX9_drift_6 ?_
  refine lv_aload_n hx hb dX9_drift_9 rfl (lv_at hl 0 rfl) ?_
  refine va_get (D := D) (ci := 9) (v := .int tu) (C := RX9) (T := TX9) (N := 27) hx hb hts in_X9 hown hT.1 hP 0 rfl rfl 0 (by decide) (hts _ fl_RX9_50) (fun _ h9 => h9) rfl dX9_drift_10 ?_
  have J2 : ∀ (z1 : Int32), ((if tu ≤ mnt then la (s_X9_height stp lft abd we).toNatClampNeg else ea (s_X9_height stp lft abd we).toNatClampNeg) : Int32) = z1 → W p l e rm_X9_drift s m args below meth c s.heap [] 0 0 Q (F0 m 37 ls [.int z1, .int plc, .ref mo]) := by
    intro z1 ez1
    subst ez1
    refine lv_iadd hx hb dX9_drift_37 ?_
    refine va_put (D := D) (ci := 9) (v := .int (plc + ((if tu ≤ mnt then la (s_X9_height stp lft abd we).toNatClampNeg else ea (s_X9_height stp lft abd we).toNatClampNeg) : Int32))) (ty := .int) (C := RX9) (T := TX9) (N := 27) hx hb hts in_X9 tyX9 tyX9_ok nmX9 hown hT.1 hP hD hS 0 rfl rfl 14 (by decide) (hts _ fl_RX9_102) (fun _ h9 => h9) rfl (by decide +kernel) rfl rfl (Nat.le_of_ble_eq_true rfl) dX9_drift_38 (fun H locs hP hD hS => ?_)
    have hP : va_P D vwCl [(mo, .inr (9, [.int tu, .int ga, .int lk, .int stp, .int dbt, .int win, .ref rea, .ref rla, .ref rwe, .ref rst, .ref rsp, .int (nI sn), .ref rpa, .int (nI pn), .int (plc + ((if tu ≤ mnt then la (s_X9_height stp lft abd we).toNatClampNeg else ea (s_X9_height stp lft abd we).toNatClampNeg) : Int32)), .int mnt, .int lft, .int abd, .ref rsa, .ref rta, .ref rbe, .ref rfa, .ref rpl, .ref rke, .ref rik, .int (nI ka), .int iw])), (rea, .inl (cI, 5, .inl ea)), (rla, .inl (cI, 5, .inl la)), (rwe, .inl (cI, 6, .inl we)), (rst, .inl (cI, 6, .inl mT)), (rsp, .inl (cI, 6, .inl mP)), (rpa, .inl (cI, 60, .inl pa)), (rsa, .inl (cI, 61, .inl sa)), (rta, .inl (cI, 12, .inl ta)), (rbe, .inl (cI, 12, .inl be)), (rfa, .inl (cI, 6, .inl fa)), (rpl, .inl (cI, 60, .inl pq)), (rke, .inl (cI, 100, .inl ke)), (rik, .inl (cZ, 2, .inl ik))] H := hP
    have hD : va_D A [(mo, .inr (9, [.int tu, .int ga, .int lk, .int stp, .int dbt, .int win, .ref rea, .ref rla, .ref rwe, .ref rst, .ref rsp, .int (nI sn), .ref rpa, .int (nI pn), .int (plc + ((if tu ≤ mnt then la (s_X9_height stp lft abd we).toNatClampNeg else ea (s_X9_height stp lft abd we).toNatClampNeg) : Int32)), .int mnt, .int lft, .int abd, .ref rsa, .ref rta, .ref rbe, .ref rfa, .ref rpl, .ref rke, .ref rik, .int (nI ka), .int iw])), (rea, .inl (cI, 5, .inl ea)), (rla, .inl (cI, 5, .inl la)), (rwe, .inl (cI, 6, .inl we)), (rst, .inl (cI, 6, .inl mT)), (rsp, .inl (cI, 6, .inl mP)), (rpa, .inl (cI, 60, .inl pa)), (rsa, .inl (cI, 61, .inl sa)), (rta, .inl (cI, 12, .inl ta)), (rbe, .inl (cI, 12, .inl be)), (rfa, .inl (cI, 6, .inl fa)), (rpl, .inl (cI, 60, .inl pq)), (rke, .inl (cI, 100, .inl ke)), (rik, .inl (cZ, 2, .inl ik))] := hD
    refine lv_aload_n hx hb dX9_drift_41 rfl (lv_at hl 0 rfl) ?_
    refine lv_aload_n hx hb dX9_drift_42 rfl (lv_at hl 0 rfl) ?_
    refine va_get (D := D) (ci := 9) (v := .int lft) (C := RX9) (T := TX9) (N := 27) hx hb hts in_X9 hown hT.1 hP 0 rfl rfl 16 (by decide) (hts _ fl_RX9_108) (fun _ h9 => h9) rfl dX9_drift_43 ?_
    refine lv_aload_n hx hb dX9_drift_46 rfl (lv_at hl 0 rfl) ?_
    refine va_get (D := D) (ci := 9) (v := .int lk) (C := RX9) (T := TX9) (N := 27) hx hb hts in_X9 hown hT.1 hP 0 rfl rfl 2 (by decide) (hts _ fl_RX9_57) (fun _ h9 => h9) rfl dX9_drift_47 ?_
    have J4 : ∀ (z3 : Int32), ((if lft ≤ lk then 0 else lft - lk) : Int32) = z3 → W p l e rm_X9_drift s m args below meth c H locs 0 0 Q (F0 m 66 ls [.int z3, .ref mo]) := by
      intro z3 ez3
      subst ez3
      refine va_put (D := D) (ci := 9) (v := .int ((if lft ≤ lk then 0 else lft - lk) : Int32)) (ty := .int) (C := RX9) (T := TX9) (N := 27) hx hb hts in_X9 tyX9 tyX9_ok nmX9 hown hT.1 hP hD hS 0 rfl rfl 16 (by decide) (hts _ fl_RX9_108) (fun _ h9 => h9) rfl (by decide +kernel) rfl rfl (Nat.le_of_ble_eq_true rfl) dX9_drift_66 (fun H locs hP hD hS => ?_)
      have hP : va_P D vwCl [(mo, .inr (9, [.int tu, .int ga, .int lk, .int stp, .int dbt, .int win, .ref rea, .ref rla, .ref rwe, .ref rst, .ref rsp, .int (nI sn), .ref rpa, .int (nI pn), .int (plc + ((if tu ≤ mnt then la (s_X9_height stp lft abd we).toNatClampNeg else ea (s_X9_height stp lft abd we).toNatClampNeg) : Int32)), .int mnt, .int ((if lft ≤ lk then 0 else lft - lk) : Int32), .int abd, .ref rsa, .ref rta, .ref rbe, .ref rfa, .ref rpl, .ref rke, .ref rik, .int (nI ka), .int iw])), (rea, .inl (cI, 5, .inl ea)), (rla, .inl (cI, 5, .inl la)), (rwe, .inl (cI, 6, .inl we)), (rst, .inl (cI, 6, .inl mT)), (rsp, .inl (cI, 6, .inl mP)), (rpa, .inl (cI, 60, .inl pa)), (rsa, .inl (cI, 61, .inl sa)), (rta, .inl (cI, 12, .inl ta)), (rbe, .inl (cI, 12, .inl be)), (rfa, .inl (cI, 6, .inl fa)), (rpl, .inl (cI, 60, .inl pq)), (rke, .inl (cI, 100, .inl ke)), (rik, .inl (cZ, 2, .inl ik))] H := hP
      have hD : va_D A [(mo, .inr (9, [.int tu, .int ga, .int lk, .int stp, .int dbt, .int win, .ref rea, .ref rla, .ref rwe, .ref rst, .ref rsp, .int (nI sn), .ref rpa, .int (nI pn), .int (plc + ((if tu ≤ mnt then la (s_X9_height stp lft abd we).toNatClampNeg else ea (s_X9_height stp lft abd we).toNatClampNeg) : Int32)), .int mnt, .int ((if lft ≤ lk then 0 else lft - lk) : Int32), .int abd, .ref rsa, .ref rta, .ref rbe, .ref rfa, .ref rpl, .ref rke, .ref rik, .int (nI ka), .int iw])), (rea, .inl (cI, 5, .inl ea)), (rla, .inl (cI, 5, .inl la)), (rwe, .inl (cI, 6, .inl we)), (rst, .inl (cI, 6, .inl mT)), (rsp, .inl (cI, 6, .inl mP)), (rpa, .inl (cI, 60, .inl pa)), (rsa, .inl (cI, 61, .inl sa)), (rta, .inl (cI, 12, .inl ta)), (rbe, .inl (cI, 12, .inl be)), (rfa, .inl (cI, 6, .inl fa)), (rpl, .inl (cI, 60, .inl pq)), (rke, .inl (cI, 100, .inl ke)), (rik, .inl (cZ, 2, .inl ik))] := hD
      refine lv_aload_n hx hb dX9_drift_69 rfl (lv_at hl 0 rfl) ?_
      refine lv_dup hx hb dX9_drift_70 rfl ?_
      refine va_get (D := D) (ci := 9) (v := .int mnt) (C := RX9) (T := TX9) (N := 27) hx hb hts in_X9 hown hT.1 hP 0 rfl rfl 15 (by decide) (hts _ fl_RX9_105) (fun _ h9 => h9) rfl dX9_drift_71 ?_
      refine lv_iconst (v := 1) hx hb dX9_drift_74 (by decide) ?_
      refine lv_iadd hx hb dX9_drift_75 ?_
      refine va_put (D := D) (ci := 9) (v := .int (mnt + 1)) (ty := .int) (C := RX9) (T := TX9) (N := 27) hx hb hts in_X9 tyX9 tyX9_ok nmX9 hown hT.1 hP hD hS 0 rfl rfl 15 (by decide) (hts _ fl_RX9_105) (fun _ h9 => h9) rfl (by decide +kernel) rfl rfl (Nat.le_of_ble_eq_true rfl) dX9_drift_76 (fun H locs hP hD hS => ?_)
      have hP : va_P D vwCl [(mo, .inr (9, [.int tu, .int ga, .int lk, .int stp, .int dbt, .int win, .ref rea, .ref rla, .ref rwe, .ref rst, .ref rsp, .int (nI sn), .ref rpa, .int (nI pn), .int (plc + ((if tu ≤ mnt then la (s_X9_height stp lft abd we).toNatClampNeg else ea (s_X9_height stp lft abd we).toNatClampNeg) : Int32)), .int (mnt + 1), .int ((if lft ≤ lk then 0 else lft - lk) : Int32), .int abd, .ref rsa, .ref rta, .ref rbe, .ref rfa, .ref rpl, .ref rke, .ref rik, .int (nI ka), .int iw])), (rea, .inl (cI, 5, .inl ea)), (rla, .inl (cI, 5, .inl la)), (rwe, .inl (cI, 6, .inl we)), (rst, .inl (cI, 6, .inl mT)), (rsp, .inl (cI, 6, .inl mP)), (rpa, .inl (cI, 60, .inl pa)), (rsa, .inl (cI, 61, .inl sa)), (rta, .inl (cI, 12, .inl ta)), (rbe, .inl (cI, 12, .inl be)), (rfa, .inl (cI, 6, .inl fa)), (rpl, .inl (cI, 60, .inl pq)), (rke, .inl (cI, 100, .inl ke)), (rik, .inl (cZ, 2, .inl ik))] H := hP
      have hD : va_D A [(mo, .inr (9, [.int tu, .int ga, .int lk, .int stp, .int dbt, .int win, .ref rea, .ref rla, .ref rwe, .ref rst, .ref rsp, .int (nI sn), .ref rpa, .int (nI pn), .int (plc + ((if tu ≤ mnt then la (s_X9_height stp lft abd we).toNatClampNeg else ea (s_X9_height stp lft abd we).toNatClampNeg) : Int32)), .int (mnt + 1), .int ((if lft ≤ lk then 0 else lft - lk) : Int32), .int abd, .ref rsa, .ref rta, .ref rbe, .ref rfa, .ref rpl, .ref rke, .ref rik, .int (nI ka), .int iw])), (rea, .inl (cI, 5, .inl ea)), (rla, .inl (cI, 5, .inl la)), (rwe, .inl (cI, 6, .inl we)), (rst, .inl (cI, 6, .inl mT)), (rsp, .inl (cI, 6, .inl mP)), (rpa, .inl (cI, 60, .inl pa)), (rsa, .inl (cI, 61, .inl sa)), (rta, .inl (cI, 12, .inl ta)), (rbe, .inl (cI, 12, .inl be)), (rfa, .inl (cI, 6, .inl fa)), (rpl, .inl (cI, 60, .inl pq)), (rke, .inl (cI, 100, .inl ke)), (rik, .inl (cZ, 2, .inl ik))] := hD
      exact hret _ _ H locs () dX9_drift_79  trivial hP hS
    refine lv_icmp_le (tgt := 65) hx hb dX9_drift_50 (by decide) (fun c5 => ?_) (fun c5 => ?_)
    · refine lv_iconst (v := 0) hx hb dX9_drift_65 (by decide) ?_
      exact J4 0 (by rw [if_pos c5])
    · refine lv_aload_n hx hb dX9_drift_53 rfl (lv_at hl 0 rfl) ?_
      refine va_get (D := D) (ci := 9) (v := .int lft) (C := RX9) (T := TX9) (N := 27) hx hb hts in_X9 hown hT.1 hP 0 rfl rfl 16 (by decide) (hts _ fl_RX9_108) (fun _ h9 => h9) rfl dX9_drift_54 ?_
      refine lv_aload_n hx hb dX9_drift_57 rfl (lv_at hl 0 rfl) ?_
      refine va_get (D := D) (ci := 9) (v := .int lk) (C := RX9) (T := TX9) (N := 27) hx hb hts in_X9 hown hT.1 hP 0 rfl rfl 2 (by decide) (hts _ fl_RX9_57) (fun _ h9 => h9) rfl dX9_drift_58 ?_
      refine lv_isub hx hb dX9_drift_61 ?_
      refine lv_goto (tgt := 66) hx hb dX9_drift_62 (by decide) ?_
      exact J4 (lft - lk) (by rw [if_neg c5])
  refine lv_icmp_ge (tgt := 28) hx hb dX9_drift_13 (by decide) (fun c6 => ?_) (fun c6 => ?_)
  · refine lv_aload_n hx hb dX9_drift_28 rfl (lv_at hl 0 rfl) ?_
    refine va_get (D := D) (ci := 9) (v := .ref rla) (C := RX9) (T := TX9) (N := 27) hx hb hts in_X9 hown hT.1 hP 0 rfl rfl 7 (by decide) (hts _ fl_RX9_13) (fun _ h9 => h9) rfl dX9_drift_29 ?_
    refine lv_aload_n hx hb dX9_drift_32 rfl (lv_at hl 0 rfl) ?_
    refine kRV (q0 := 0) (st1 := [.int (s_X9_height stp lft abd we), .ref rla, .int plc, .ref mo]) S hT hP (c_X9_height l D cI cZ mo rea rla rwe rst rsp rpa rsa rta rbe rfa rpl rke rik sn pn ka tu ga lk stp dbt win plc mnt lft abd iw ea la we mT mP pa sa ta be fa pq ke ik (by first | assumption | decide | omega)) rfl rfl mw_X9_height lk_RX9_118 ⟨rfl, rfl, (Nat.le_of_ble_eq_true rfl), (Nat.le_of_ble_eq_true rfl), (Nat.le_of_ble_eq_true rfl), (Nat.le_of_ble_eq_true rfl)⟩ [0, 1, 2, 3, 4, 5, 6, 7, 8, 9, 10, 11, 12, 13] rfl rfl rfl hl.1 (Nat.le_of_ble_eq_true rfl) dX9_drift_33 ?_
    refine va_iald (D := D) hx hb hT.1 hP 2 0 rfl rfl (zhgt stp lft abd we hstp) dX9_drift_36 ?_
    exact J2 (la (s_X9_height stp lft abd we).toNatClampNeg) (by rw [if_pos c6])
  · refine lv_aload_n hx hb dX9_drift_16 rfl (lv_at hl 0 rfl) ?_
    refine va_get (D := D) (ci := 9) (v := .ref rea) (C := RX9) (T := TX9) (N := 27) hx hb hts in_X9 hown hT.1 hP 0 rfl rfl 6 (by decide) (hts _ fl_RX9_7) (fun _ h9 => h9) rfl dX9_drift_17 ?_
    refine lv_aload_n hx hb dX9_drift_20 rfl (lv_at hl 0 rfl) ?_
    refine kRV (q0 := 0) (st1 := [.int (s_X9_height stp lft abd we), .ref rea, .int plc, .ref mo]) S hT hP (c_X9_height l D cI cZ mo rea rla rwe rst rsp rpa rsa rta rbe rfa rpl rke rik sn pn ka tu ga lk stp dbt win plc mnt lft abd iw ea la we mT mP pa sa ta be fa pq ke ik (by first | assumption | decide | omega)) rfl rfl mw_X9_height lk_RX9_118 ⟨rfl, rfl, (Nat.le_of_ble_eq_true rfl), (Nat.le_of_ble_eq_true rfl), (Nat.le_of_ble_eq_true rfl), (Nat.le_of_ble_eq_true rfl)⟩ [0, 1, 2, 3, 4, 5, 6, 7, 8, 9, 10, 11, 12, 13] rfl rfl rfl hl.1 (Nat.le_of_ble_eq_true rfl) dX9_drift_21 ?_
    refine va_iald (D := D) hx hb hT.1 hP 1 0 rfl rfl (zhgt stp lft abd we hstp) dX9_drift_24 ?_
    refine lv_goto (tgt := 37) hx hb dX9_drift_25 (by decide) ?_
    exact J2 (ea (s_X9_height stp lft abd we).toNatClampNeg) (by rw [if_neg c6])
def lp_X9_heaviest_5 (abd : Int32) (we : Nat → Int32) : Nat → Nat → Int32 → Int32
  | 0, _, x1_5 => x1_5
  | fu + 1, k, x1_5 => if 6 ≤ nI k then x1_5 else (if ((if ((abd >>> ((nI k) &&& 31)) &&& 1) = 1 then (if x1_5 < 0 then 1 else (if we k ≤ we x1_5.toNatClampNeg then 0 else 1)) else 0) : Int32) = 0 then lp_X9_heaviest_5 abd we fu (k + 1) x1_5 else lp_X9_heaviest_5 abd we fu (k + 1) (nI k))
abbrev rm_X9_heaviest : Room := { frames := 0, cells := 0, slots := 0, locals := 0 }
set_option maxRecDepth 100000 in
set_option maxHeartbeats 4000000 in
theorem c_X9_heaviest (l : Launch) (D : va_G) (cI cZ : ClassId) (mo rea rla rwe rst rsp rpa rsa rta rbe rfa rpl rke rik sn pn ka : Nat) (tu ga lk stp dbt win plc mnt lft abd iw : Int32) (ea la we mT mP pa sa ta be fa pq ke ik : Nat → Int32) : Met l yX9_heaviest [.code yX9_heaviest cX9_heaviest 4 (some .int)] rm_X9_heaviest (PcR D cI cZ [.ref mo] [(mo, .inr (9, [.int tu, .int ga, .int lk, .int stp, .int dbt, .int win, .ref rea, .ref rla, .ref rwe, .ref rst, .ref rsp, .int (nI sn), .ref rpa, .int (nI pn), .int plc, .int mnt, .int lft, .int abd, .ref rsa, .ref rta, .ref rbe, .ref rfa, .ref rpl, .ref rke, .ref rik, .int (nI ka), .int iw])), (rea, .inl (cI, 5, .inl ea)), (rla, .inl (cI, 5, .inl la)), (rwe, .inl (cI, 6, .inl we)), (rst, .inl (cI, 6, .inl mT)), (rsp, .inl (cI, 6, .inl mP)), (rpa, .inl (cI, 60, .inl pa)), (rsa, .inl (cI, 61, .inl sa)), (rta, .inl (cI, 12, .inl ta)), (rbe, .inl (cI, 12, .inl be)), (rfa, .inl (cI, 6, .inl fa)), (rpl, .inl (cI, 60, .inl pq)), (rke, .inl (cI, 100, .inl ke)), (rik, .inl (cZ, 2, .inl ik))]) (QcR (some (.int (lp_X9_heaviest_5 abd we 7 0 (-6))))) 0 0 zN := by
  refine mtRi (by decide) (Nat.le_of_ble_eq_true rfl) (fun p e s m args below meth c Q S hT hP hret ls hl => ?_)
  have S : CallFix p m c cX9_heaviest 4 s args zt RX9 := S
  obtain ⟨hx, hb, hml, hown, hts⟩ := id S
  have hl : lv_has ls 4 [(0, .ref mo)] := hl
  refine lv_bipush (v := (-6)) hx hb dX9_heaviest_0 (by decide) ?_
  refine lv_istore_n (lv' := [(1, .int (-6)), (0, .ref mo)]) hx hb dX9_heaviest_2 rfl hl (by decide) rfl (fun ls hl => ?_)
  refine lv_iconst (v := 0) hx hb dX9_heaviest_3 (by decide) ?_
  refine lv_istore_n (lv' := [(2, .int 0), (1, .int (-6)), (0, .ref mo)]) hx hb dX9_heaviest_4 rfl hl (by decide) rfl (fun ls hl => ?_)
  have X2 : ∀ (y1 : Int32), (lp_X9_heaviest_5 abd we 7 0 (-6)) = y1 → ∀ (ls : Array Slot), lv_has ls 4 [(0, .ref mo), (1, .int y1)] → W p l e rm_X9_heaviest s m args below meth c s.heap [] 0 0 Q (F0 m 64 ls []) := by
    intro y1 ey1 ls hl
    subst ey1
    refine lv_iload_n hx hb dX9_heaviest_64 rfl (lv_at hl 1 rfl) ?_
    exact hret _ _ _ dX9_heaviest_65 rfl
  have L3 : ∀ (n6 : Nat) (k : Nat) (x1_5 : Int32), 6 - k < n6 → (k ≤ 6) → (x1_5 = -6 ∨ ∃ j, j < 6 ∧ x1_5 = nI j) → lp_X9_heaviest_5 abd we n6 k x1_5 = lp_X9_heaviest_5 abd we 7 0 (-6) → ∀ (ls : Array Slot), lv_has ls 4 [(0, .ref mo), (1, .int x1_5), (2, .int (nI k))] → W p l e rm_X9_heaviest s m args below meth c s.heap [] 0 0 Q (F0 m 5 ls []) := by
    intro n6
    induction n6 with
    | zero => intro k x1_5 hm; exact absurd hm (Nat.not_lt_zero _)
    | succ n6 ih5 =>
      intro k x1_5 hm7 hk hf hv4 ls hl
      refine lv_iload_n hx hb dX9_heaviest_5 rfl (lv_at hl 2 rfl) ?_
      refine lv_bipush (v := 6) hx hb dX9_heaviest_6 (by decide) ?_
      refine lv_icmp_ge (tgt := 64) hx hb dX9_heaviest_8 (by decide) (fun c8 => ?_) (fun c8 => ?_)
      · have nc8 := zNle (a := 6) (b := k) c8 (by omega) (by omega)
        exact X2 _ (by rw [← hv4, lp_X9_heaviest_5, if_pos c8]) ls (lv_sub hl [0, 1] rfl)
      · have nc8 := zNnle (a := 6) (b := k) c8 (by omega) (by omega)
        refine lv_aload_n hx hb dX9_heaviest_11 rfl (lv_at hl 0 rfl) ?_
        refine va_get (D := D) (ci := 9) (v := .int abd) (C := RX9) (T := TX9) (N := 27) hx hb hts in_X9 hown hT.1 hP 0 rfl rfl 17 (by decide) (hts _ fl_RX9_111) (fun _ h9 => h9) rfl dX9_heaviest_12 ?_
        refine lv_iload_n hx hb dX9_heaviest_15 rfl (lv_at hl 2 rfl) ?_
        refine lv_ishr hx hb dX9_heaviest_16 ?_
        refine lv_iconst (v := 1) hx hb dX9_heaviest_17 (by decide) ?_
        refine lv_iand hx hb dX9_heaviest_18 ?_
        refine lv_iconst (v := 1) hx hb dX9_heaviest_19 (by decide) ?_
        have J10 : ∀ (z9 : Int32), ((if ((abd >>> ((nI k) &&& 31)) &&& 1) = 1 then (if x1_5 < 0 then 1 else (if we k ≤ we x1_5.toNatClampNeg then 0 else 1)) else 0) : Int32) = z9 → W p l e rm_X9_heaviest s m args below meth c s.heap [] 0 0 Q (F0 m 47 ls [.int z9]) := by
          intro z9 ez9
          subst ez9
          refine lv_istore_n (lv' := [(3, .int ((if ((abd >>> ((nI k) &&& 31)) &&& 1) = 1 then (if x1_5 < 0 then 1 else (if we k ≤ we x1_5.toNatClampNeg then 0 else 1)) else 0) : Int32)), (0, .ref mo), (1, .int x1_5), (2, .int (nI k))]) hx hb dX9_heaviest_47 rfl hl (by decide) rfl (fun ls hl => ?_)
          refine lv_iload_n hx hb dX9_heaviest_48 rfl (lv_at hl 0 rfl) ?_
          refine lv_if_eq (tgt := 56) hx hb dX9_heaviest_49 (by decide) (fun c11 => ?_) (fun c11 => ?_)
          · refine lv_iload_n hx hb dX9_heaviest_56 rfl (lv_at hl 2 rfl) ?_
            refine lv_istore_n (lv' := [(1, .int x1_5), (3, .int ((if ((abd >>> ((nI k) &&& 31)) &&& 1) = 1 then (if x1_5 < 0 then 1 else (if we k ≤ we x1_5.toNatClampNeg then 0 else 1)) else 0) : Int32)), (0, .ref mo), (2, .int (nI k))]) hx hb dX9_heaviest_57 rfl hl (by decide) rfl (fun ls hl => ?_)
            refine lv_iinc (v := nI (k + 1)) (lv' := [(2, .int (nI (k + 1))), (1, .int x1_5), (3, .int ((if ((abd >>> ((nI k) &&& 31)) &&& 1) = 1 then (if x1_5 < 0 then 1 else (if we k ≤ we x1_5.toNatClampNeg then 0 else 1)) else 0) : Int32)), (0, .ref mo)]) hx hb dX9_heaviest_58 hl (k := 3) rfl (nI_1 k) (by decide) rfl (fun ls hl => ?_)
            refine lv_goto (tgt := 5) hx hb dX9_heaviest_61 (by decide) ?_
            exact ih5 (k + 1) x1_5 (by omega) (by omega) (by first | exact hf | exact Or.inr ⟨k, by omega, rfl⟩) (by rw [← hv4, lp_X9_heaviest_5, if_neg c8, if_pos c11]) ls (lv_sub hl [3, 1, 0] rfl)
          · refine lv_iload_n hx hb dX9_heaviest_52 rfl (lv_at hl 3 rfl) ?_
            refine lv_goto (tgt := 57) hx hb dX9_heaviest_53 (by decide) ?_
            refine lv_istore_n (lv' := [(1, .int (nI k)), (3, .int ((if ((abd >>> ((nI k) &&& 31)) &&& 1) = 1 then (if x1_5 < 0 then 1 else (if we k ≤ we x1_5.toNatClampNeg then 0 else 1)) else 0) : Int32)), (0, .ref mo), (2, .int (nI k))]) hx hb dX9_heaviest_57 rfl hl (by decide) rfl (fun ls hl => ?_)
            refine lv_iinc (v := nI (k + 1)) (lv' := [(2, .int (nI (k + 1))), (1, .int (nI k)), (3, .int ((if ((abd >>> ((nI k) &&& 31)) &&& 1) = 1 then (if x1_5 < 0 then 1 else (if we k ≤ we x1_5.toNatClampNeg then 0 else 1)) else 0) : Int32)), (0, .ref mo)]) hx hb dX9_heaviest_58 hl (k := 3) rfl (nI_1 k) (by decide) rfl (fun ls hl => ?_)
            refine lv_goto (tgt := 5) hx hb dX9_heaviest_61 (by decide) ?_
            exact ih5 (k + 1) (nI k) (by omega) (by omega) (by first | exact hf | exact Or.inr ⟨k, by omega, rfl⟩) (by rw [← hv4, lp_X9_heaviest_5, if_neg c8, if_neg c11]) ls (lv_sub hl [3, 1, 0] rfl)
        refine lv_icmp_ne (tgt := 46) hx hb dX9_heaviest_20 (by decide) (fun c12 => ?_) (fun c12 => ?_)
        · refine lv_iconst (v := 0) hx hb dX9_heaviest_46 (by decide) ?_
          exact J10 0 (by rw [if_neg c12])
        · refine lv_iload_n hx hb dX9_heaviest_23 rfl (lv_at hl 1 rfl) ?_
          refine lv_if_lt (tgt := 42) hx hb dX9_heaviest_24 (by decide) (fun c13 => ?_) (fun c13 => ?_)
          · refine lv_iconst (v := 1) hx hb dX9_heaviest_42 (by decide) ?_
            refine lv_goto (tgt := 47) hx hb dX9_heaviest_43 (by decide) ?_
            exact J10 1 (by rw [if_pos c12, if_pos c13])
          · refine lv_aload_n hx hb dX9_heaviest_27 rfl (lv_at hl 0 rfl) ?_
            refine va_get (D := D) (ci := 9) (v := .ref rwe) (C := RX9) (T := TX9) (N := 27) hx hb hts in_X9 hown hT.1 hP 0 rfl rfl 8 (by decide) (hts _ fl_RX9_16) (fun _ h9 => h9) rfl dX9_heaviest_28 ?_
            refine lv_iload_n hx hb dX9_heaviest_31 rfl (lv_at hl 2 rfl) ?_
            refine zald (D := D) (k := k) hx hb hT.1 hP 3 0 rfl rfl (by omega) (by omega) dX9_heaviest_32 ?_
            refine lv_aload_n hx hb dX9_heaviest_33 rfl (lv_at hl 0 rfl) ?_
            refine va_get (D := D) (ci := 9) (v := .ref rwe) (C := RX9) (T := TX9) (N := 27) hx hb hts in_X9 hown hT.1 hP 0 rfl rfl 8 (by decide) (hts _ fl_RX9_16) (fun _ h9 => h9) rfl dX9_heaviest_34 ?_
            refine lv_iload_n hx hb dX9_heaviest_37 rfl (lv_at hl 1 rfl) ?_
            refine va_iald (D := D) hx hb hT.1 hP 3 0 rfl rfl (zhv hf c13) dX9_heaviest_38 ?_
            refine lv_icmp_le (tgt := 46) hx hb dX9_heaviest_39 (by decide) (fun c14 => ?_) (fun c14 => ?_)
            · refine lv_iconst (v := 0) hx hb dX9_heaviest_46 (by decide) ?_
              exact J10 0 (by rw [if_pos c12, if_neg c13, if_pos c14])
            · refine lv_iconst (v := 1) hx hb dX9_heaviest_42 (by decide) ?_
              refine lv_goto (tgt := 47) hx hb dX9_heaviest_43 (by decide) ?_
              exact J10 1 (by rw [if_pos c12, if_neg c13, if_neg c14])
  exact L3 7 0 (-6) (by omega) (by omega) (Or.inl rfl) rfl ls (lv_sub hl [2, 1, 0] rfl)
def s_X9_throwOut_abd (abd : Int32) (t : Int32) : Int32 := if 0 ≤ t then abd &&& ((1 <<< (t &&& 31)) ^^^ (-1)) else abd &&& (-1)
abbrev rm_X9_throwOut : Room := { frames := 0, cells := 0, slots := 0, locals := 0 }
set_option maxRecDepth 100000 in
set_option maxHeartbeats 4000000 in
theorem c_X9_throwOut (l : Launch) (D : va_G) (cI cZ : ClassId) (mo rea rla rwe rst rsp rpa rsa rta rbe rfa rpl rke rik sn pn ka : Nat) (tu ga lk stp dbt win plc mnt lft abd iw : Int32) (ea la we mT mP pa sa ta be fa pq ke ik : Nat → Int32) (t : Int32) : Met l yX9_throwOut [.code yX9_throwOut cX9_throwOut 2 none] rm_X9_throwOut (PcW D cI cZ [.ref mo, .int t] [(mo, .inr (9, [.int tu, .int ga, .int lk, .int stp, .int dbt, .int win, .ref rea, .ref rla, .ref rwe, .ref rst, .ref rsp, .int (nI sn), .ref rpa, .int (nI pn), .int plc, .int mnt, .int lft, .int abd, .ref rsa, .ref rta, .ref rbe, .ref rfa, .ref rpl, .ref rke, .ref rik, .int (nI ka), .int iw])), (rea, .inl (cI, 5, .inl ea)), (rla, .inl (cI, 5, .inl la)), (rwe, .inl (cI, 6, .inl we)), (rst, .inl (cI, 6, .inl mT)), (rsp, .inl (cI, 6, .inl mP)), (rpa, .inl (cI, 60, .inl pa)), (rsa, .inl (cI, 61, .inl sa)), (rta, .inl (cI, 12, .inl ta)), (rbe, .inl (cI, 12, .inl be)), (rfa, .inl (cI, 6, .inl fa)), (rpl, .inl (cI, 60, .inl pq)), (rke, .inl (cI, 100, .inl ke)), (rik, .inl (cZ, 2, .inl ik))]) (QcE D (S := Unit) none (fun _ => True) (fun _ => [(mo, .inr (9, [.int tu, .int ga, .int lk, .int stp, .int dbt, .int win, .ref rea, .ref rla, .ref rwe, .ref rst, .ref rsp, .int (nI sn), .ref rpa, .int (nI pn), .int plc, .int mnt, .int lft, .int (s_X9_throwOut_abd abd t), .ref rsa, .ref rta, .ref rbe, .ref rfa, .ref rpl, .ref rke, .ref rik, .int (nI ka), .int iw])), (rea, .inl (cI, 5, .inl ea)), (rla, .inl (cI, 5, .inl la)), (rwe, .inl (cI, 6, .inl we)), (rst, .inl (cI, 6, .inl mT)), (rsp, .inl (cI, 6, .inl mP)), (rpa, .inl (cI, 60, .inl pa)), (rsa, .inl (cI, 61, .inl sa)), (rta, .inl (cI, 12, .inl ta)), (rbe, .inl (cI, 12, .inl be)), (rfa, .inl (cI, 6, .inl fa)), (rpl, .inl (cI, 60, .inl pq)), (rke, .inl (cI, 100, .inl ke)), (rik, .inl (cZ, 2, .inl ik))]) (zA [(mo, .inr (9, [.int tu, .int ga, .int lk, .int stp, .int dbt, .int win, .ref rea, .ref rla, .ref rwe, .ref rst, .ref rsp, .int (nI sn), .ref rpa, .int (nI pn), .int plc, .int mnt, .int lft, .int abd, .ref rsa, .ref rta, .ref rbe, .ref rfa, .ref rpl, .ref rke, .ref rik, .int (nI ka), .int iw])), (rea, .inl (cI, 5, .inl ea)), (rla, .inl (cI, 5, .inl la)), (rwe, .inl (cI, 6, .inl we)), (rst, .inl (cI, 6, .inl mT)), (rsp, .inl (cI, 6, .inl mP)), (rpa, .inl (cI, 60, .inl pa)), (rsa, .inl (cI, 61, .inl sa)), (rta, .inl (cI, 12, .inl ta)), (rbe, .inl (cI, 12, .inl be)), (rfa, .inl (cI, 6, .inl fa)), (rpl, .inl (cI, 60, .inl pq)), (rke, .inl (cI, 100, .inl ke)), (rik, .inl (cZ, 2, .inl ik))])) 0 0 (zA [(mo, .inr (9, [.int tu, .int ga, .int lk, .int stp, .int dbt, .int win, .ref rea, .ref rla, .ref rwe, .ref rst, .ref rsp, .int (nI sn), .ref rpa, .int (nI pn), .int plc, .int mnt, .int lft, .int abd, .ref rsa, .ref rta, .ref rbe, .ref rfa, .ref rpl, .ref rke, .ref rik, .int (nI ka), .int iw])), (rea, .inl (cI, 5, .inl ea)), (rla, .inl (cI, 5, .inl la)), (rwe, .inl (cI, 6, .inl we)), (rst, .inl (cI, 6, .inl mT)), (rsp, .inl (cI, 6, .inl mP)), (rpa, .inl (cI, 60, .inl pa)), (rsa, .inl (cI, 61, .inl sa)), (rta, .inl (cI, 12, .inl ta)), (rbe, .inl (cI, 12, .inl be)), (rfa, .inl (cI, 6, .inl fa)), (rpl, .inl (cI, 60, .inl pq)), (rke, .inl (cI, 100, .inl ke)), (rik, .inl (cZ, 2, .inl ik))]) := by
  refine mtWv (by decide) (Nat.le_of_ble_eq_true rfl) (fun p e s m args below meth c Q A S hT hP hD hS hret ls hl => ?_)
  have S : CallFix p m c cX9_throwOut 2 s args zt RX9 := S
  obtain ⟨hx, hb, hml, hown, hts⟩ := id S
  have hl : lv_has ls 2 [(0, .ref mo), (1, .int t)] := hl
  refine lv_aload_n hx hb dX9_throwOut_0 rfl (lv_at hl 0 rfl) ?_
  refine lv_dup hx hb dX9_throwOut_1 rfl ?_
  refine va_get (D := D) (ci := 9) (v := .int abd) (C := RX9) (T := TX9) (N := 27) hx hb hts in_X9 hown hT.1 hP 0 rfl rfl 17 (by decide) (hts _ fl_RX9_111) (fun _ h9 => h9) rfl dX9_throwOut_2 ?_
  refine lv_iload_n hx hb dX9_throwOut_5 rfl (lv_at hl 1 rfl) ?_
  refine lv_if_ge (tgt := 13) hx hb dX9_throwOut_6 (by decide) (fun c1 => ?_) (fun c1 => ?_)
  · refine lv_iconst (v := 1) hx hb dX9_throwOut_13 (by decide) ?_
    refine lv_iload_n hx hb dX9_throwOut_14 rfl (lv_at hl 1 rfl) ?_
    refine lv_ishl hx hb dX9_throwOut_15 ?_
    refine lv_iconst (v := (-1)) hx hb dX9_throwOut_16 (by decide) ?_
    refine lv_ixor hx hb dX9_throwOut_17 ?_
    refine lv_iand hx hb dX9_throwOut_18 ?_
    refine va_put (D := D) (ci := 9) (v := .int (abd &&& ((1 <<< (t &&& 31)) ^^^ (-1)))) (ty := .int) (C := RX9) (T := TX9) (N := 27) hx hb hts in_X9 tyX9 tyX9_ok nmX9 hown hT.1 hP hD hS 0 rfl rfl 17 (by decide) (hts _ fl_RX9_111) (fun _ h9 => h9) rfl (by decide +kernel) rfl rfl (Nat.le_of_ble_eq_true rfl) dX9_throwOut_19 (fun H locs hP hD hS => ?_)
    have hP : va_P D vwCl [(mo, .inr (9, [.int tu, .int ga, .int lk, .int stp, .int dbt, .int win, .ref rea, .ref rla, .ref rwe, .ref rst, .ref rsp, .int (nI sn), .ref rpa, .int (nI pn), .int plc, .int mnt, .int lft, .int (abd &&& ((1 <<< (t &&& 31)) ^^^ (-1))), .ref rsa, .ref rta, .ref rbe, .ref rfa, .ref rpl, .ref rke, .ref rik, .int (nI ka), .int iw])), (rea, .inl (cI, 5, .inl ea)), (rla, .inl (cI, 5, .inl la)), (rwe, .inl (cI, 6, .inl we)), (rst, .inl (cI, 6, .inl mT)), (rsp, .inl (cI, 6, .inl mP)), (rpa, .inl (cI, 60, .inl pa)), (rsa, .inl (cI, 61, .inl sa)), (rta, .inl (cI, 12, .inl ta)), (rbe, .inl (cI, 12, .inl be)), (rfa, .inl (cI, 6, .inl fa)), (rpl, .inl (cI, 60, .inl pq)), (rke, .inl (cI, 100, .inl ke)), (rik, .inl (cZ, 2, .inl ik))] H := hP
    have hD : va_D A [(mo, .inr (9, [.int tu, .int ga, .int lk, .int stp, .int dbt, .int win, .ref rea, .ref rla, .ref rwe, .ref rst, .ref rsp, .int (nI sn), .ref rpa, .int (nI pn), .int plc, .int mnt, .int lft, .int (abd &&& ((1 <<< (t &&& 31)) ^^^ (-1))), .ref rsa, .ref rta, .ref rbe, .ref rfa, .ref rpl, .ref rke, .ref rik, .int (nI ka), .int iw])), (rea, .inl (cI, 5, .inl ea)), (rla, .inl (cI, 5, .inl la)), (rwe, .inl (cI, 6, .inl we)), (rst, .inl (cI, 6, .inl mT)), (rsp, .inl (cI, 6, .inl mP)), (rpa, .inl (cI, 60, .inl pa)), (rsa, .inl (cI, 61, .inl sa)), (rta, .inl (cI, 12, .inl ta)), (rbe, .inl (cI, 12, .inl be)), (rfa, .inl (cI, 6, .inl fa)), (rpl, .inl (cI, 60, .inl pq)), (rke, .inl (cI, 100, .inl ke)), (rik, .inl (cZ, 2, .inl ik))] := hD
    have eo1 : s_X9_throwOut_abd abd t = abd &&& ((1 <<< (t &&& 31)) ^^^ (-1)) := (by unfold s_X9_throwOut_abd; rw [if_pos c1])
    exact hret _ _ H locs () dX9_throwOut_22  trivial (by show va_P D vwCl [(mo, .inr (9, [.int tu, .int ga, .int lk, .int stp, .int dbt, .int win, .ref rea, .ref rla, .ref rwe, .ref rst, .ref rsp, .int (nI sn), .ref rpa, .int (nI pn), .int plc, .int mnt, .int lft, .int (s_X9_throwOut_abd abd t), .ref rsa, .ref rta, .ref rbe, .ref rfa, .ref rpl, .ref rke, .ref rik, .int (nI ka), .int iw])), (rea, .inl (cI, 5, .inl ea)), (rla, .inl (cI, 5, .inl la)), (rwe, .inl (cI, 6, .inl we)), (rst, .inl (cI, 6, .inl mT)), (rsp, .inl (cI, 6, .inl mP)), (rpa, .inl (cI, 60, .inl pa)), (rsa, .inl (cI, 61, .inl sa)), (rta, .inl (cI, 12, .inl ta)), (rbe, .inl (cI, 12, .inl be)), (rfa, .inl (cI, 6, .inl fa)), (rpl, .inl (cI, 60, .inl pq)), (rke, .inl (cI, 100, .inl ke)), (rik, .inl (cZ, 2, .inl ik))] H; rw [eo1]; exact hP) hS
  · refine lv_iconst (v := (-1)) hx hb dX9_throwOut_9 (by decide) ?_
    refine lv_goto (tgt := 18) hx hb dX9_throwOut_10 (by decide) ?_
    refine lv_iand hx hb dX9_throwOut_18 ?_
    refine va_put (D := D) (ci := 9) (v := .int (abd &&& (-1))) (ty := .int) (C := RX9) (T := TX9) (N := 27) hx hb hts in_X9 tyX9 tyX9_ok nmX9 hown hT.1 hP hD hS 0 rfl rfl 17 (by decide) (hts _ fl_RX9_111) (fun _ h9 => h9) rfl (by decide +kernel) rfl rfl (Nat.le_of_ble_eq_true rfl) dX9_throwOut_19 (fun H locs hP hD hS => ?_)
    have hP : va_P D vwCl [(mo, .inr (9, [.int tu, .int ga, .int lk, .int stp, .int dbt, .int win, .ref rea, .ref rla, .ref rwe, .ref rst, .ref rsp, .int (nI sn), .ref rpa, .int (nI pn), .int plc, .int mnt, .int lft, .int (abd &&& (-1)), .ref rsa, .ref rta, .ref rbe, .ref rfa, .ref rpl, .ref rke, .ref rik, .int (nI ka), .int iw])), (rea, .inl (cI, 5, .inl ea)), (rla, .inl (cI, 5, .inl la)), (rwe, .inl (cI, 6, .inl we)), (rst, .inl (cI, 6, .inl mT)), (rsp, .inl (cI, 6, .inl mP)), (rpa, .inl (cI, 60, .inl pa)), (rsa, .inl (cI, 61, .inl sa)), (rta, .inl (cI, 12, .inl ta)), (rbe, .inl (cI, 12, .inl be)), (rfa, .inl (cI, 6, .inl fa)), (rpl, .inl (cI, 60, .inl pq)), (rke, .inl (cI, 100, .inl ke)), (rik, .inl (cZ, 2, .inl ik))] H := hP
    have hD : va_D A [(mo, .inr (9, [.int tu, .int ga, .int lk, .int stp, .int dbt, .int win, .ref rea, .ref rla, .ref rwe, .ref rst, .ref rsp, .int (nI sn), .ref rpa, .int (nI pn), .int plc, .int mnt, .int lft, .int (abd &&& (-1)), .ref rsa, .ref rta, .ref rbe, .ref rfa, .ref rpl, .ref rke, .ref rik, .int (nI ka), .int iw])), (rea, .inl (cI, 5, .inl ea)), (rla, .inl (cI, 5, .inl la)), (rwe, .inl (cI, 6, .inl we)), (rst, .inl (cI, 6, .inl mT)), (rsp, .inl (cI, 6, .inl mP)), (rpa, .inl (cI, 60, .inl pa)), (rsa, .inl (cI, 61, .inl sa)), (rta, .inl (cI, 12, .inl ta)), (rbe, .inl (cI, 12, .inl be)), (rfa, .inl (cI, 6, .inl fa)), (rpl, .inl (cI, 60, .inl pq)), (rke, .inl (cI, 100, .inl ke)), (rik, .inl (cZ, 2, .inl ik))] := hD
    have eo1 : s_X9_throwOut_abd abd t = abd &&& (-1) := (by unfold s_X9_throwOut_abd; rw [if_neg c1])
    exact hret _ _ H locs () dX9_throwOut_22  trivial (by show va_P D vwCl [(mo, .inr (9, [.int tu, .int ga, .int lk, .int stp, .int dbt, .int win, .ref rea, .ref rla, .ref rwe, .ref rst, .ref rsp, .int (nI sn), .ref rpa, .int (nI pn), .int plc, .int mnt, .int lft, .int (s_X9_throwOut_abd abd t), .ref rsa, .ref rta, .ref rbe, .ref rfa, .ref rpl, .ref rke, .ref rik, .int (nI ka), .int iw])), (rea, .inl (cI, 5, .inl ea)), (rla, .inl (cI, 5, .inl la)), (rwe, .inl (cI, 6, .inl we)), (rst, .inl (cI, 6, .inl mT)), (rsp, .inl (cI, 6, .inl mP)), (rpa, .inl (cI, 60, .inl pa)), (rsa, .inl (cI, 61, .inl sa)), (rta, .inl (cI, 12, .inl ta)), (rbe, .inl (cI, 12, .inl be)), (rfa, .inl (cI, 6, .inl fa)), (rpl, .inl (cI, 60, .inl pq)), (rke, .inl (cI, 100, .inl ke)), (rik, .inl (cZ, 2, .inl ik))] H; rw [eo1]; exact hP) hS
def lp_X9_countOf_4 (pn : Nat) (pa : Nat → Int32) (sgn : Int32) : Nat → Nat → Int32 → Int32
  | 0, _, x2_4 => x2_4
  | fu + 1, k, x2_4 => if nI pn ≤ nI k then x2_4 else (if pa k = sgn then lp_X9_countOf_4 pn pa sgn fu (k + 1) (x2_4 + 1) else lp_X9_countOf_4 pn pa sgn fu (k + 1) (x2_4 + 0))
theorem zct_mlpq (len : Nat) (sg : Nat → Int32) (v : Int32) (hlen : len ≤ 60) : ∀ q k m, k ≤ len → len - k < q → m = nI (zct v sg k) → lp_X9_countOf_4 len sg v q k m = nI (zct v sg len) := by
  intro q
  induction q with
  | zero => intro k m _ h _; exact absurd h (Nat.not_lt_zero _)
  | succ q ih =>
    intro k m hk hq hm
    rw [lp_X9_countOf_4]
    by_cases c : nI len ≤ nI k
    · have := zNle c (by omega) (by omega)
      rw [if_pos c, hm, show k = len by omega]
    · have hkl := zNnle c (by omega) (by omega)
      rw [if_neg c]
      split
      · next h => exact ih (k + 1) _ (by omega) (by omega) (by rw [zct, if_pos h, hm, nI_1])
      · next h => exact ih (k + 1) _ (by omega) (by omega) (by rw [zct, if_neg h, hm, Int32.add_zero, Nat.add_zero])
theorem zct_mlp (len : Nat) (sg : Nat → Int32) (v : Int32) (hlen : len ≤ 60) : lp_X9_countOf_4 len sg v (len + 1) 0 0 = nI (zct v sg len) := zct_mlpq len sg v hlen (len + 1) 0 0 (Nat.zero_le _) (by omega) rfl
abbrev rm_X9_countOf : Room := { frames := 0, cells := 0, slots := 0, locals := 0 }
set_option maxRecDepth 100000 in
set_option maxHeartbeats 4000000 in
theorem c_X9_countOf (l : Launch) (D : va_G) (cI cZ : ClassId) (mo rea rla rwe rst rsp rpa rsa rta rbe rfa rpl rke rik sn pn ka : Nat) (tu ga lk stp dbt win plc mnt lft abd iw : Int32) (ea la we mT mP pa sa ta be fa pq ke ik : Nat → Int32) (sgn : Int32) (hpn : pn ≤ 60) : Met l yX9_countOf [.code yX9_countOf cX9_countOf 4 (some .int)] rm_X9_countOf (PcR D cI cZ [.ref mo, .int sgn] [(mo, .inr (9, [.int tu, .int ga, .int lk, .int stp, .int dbt, .int win, .ref rea, .ref rla, .ref rwe, .ref rst, .ref rsp, .int (nI sn), .ref rpa, .int (nI pn), .int plc, .int mnt, .int lft, .int abd, .ref rsa, .ref rta, .ref rbe, .ref rfa, .ref rpl, .ref rke, .ref rik, .int (nI ka), .int iw])), (rea, .inl (cI, 5, .inl ea)), (rla, .inl (cI, 5, .inl la)), (rwe, .inl (cI, 6, .inl we)), (rst, .inl (cI, 6, .inl mT)), (rsp, .inl (cI, 6, .inl mP)), (rpa, .inl (cI, 60, .inl pa)), (rsa, .inl (cI, 61, .inl sa)), (rta, .inl (cI, 12, .inl ta)), (rbe, .inl (cI, 12, .inl be)), (rfa, .inl (cI, 6, .inl fa)), (rpl, .inl (cI, 60, .inl pq)), (rke, .inl (cI, 100, .inl ke)), (rik, .inl (cZ, 2, .inl ik))]) (QcR (some (.int (nI (zct sgn pa pn))))) 0 0 zN := by
  refine mtRi (by decide) (Nat.le_of_ble_eq_true rfl) (fun p e s m args below meth c Q S hT hP hret ls hl => ?_)
  have S : CallFix p m c cX9_countOf 4 s args zt RX9 := S
  obtain ⟨hx, hb, hml, hown, hts⟩ := id S
  have hl : lv_has ls 4 [(0, .ref mo), (1, .int sgn)] := hl
  refine lv_iconst (v := 0) hx hb dX9_countOf_0 (by decide) ?_
  refine lv_istore_n (lv' := [(2, .int 0), (0, .ref mo), (1, .int sgn)]) hx hb dX9_countOf_1 rfl hl (by decide) rfl (fun ls hl => ?_)
  refine lv_iconst (v := 0) hx hb dX9_countOf_2 (by decide) ?_
  refine lv_istore_n (lv' := [(3, .int 0), (2, .int 0), (0, .ref mo), (1, .int sgn)]) hx hb dX9_countOf_3 rfl hl (by decide) rfl (fun ls hl => ?_)
  have X2 : ∀ (y1 : Int32), (lp_X9_countOf_4 pn pa sgn (pn + 1) 0 0) = y1 → ∀ (ls : Array Slot), lv_has ls 4 [(0, .ref mo), (1, .int sgn), (2, .int y1)] → W p l e rm_X9_countOf s m args below meth c s.heap [] 0 0 Q (F0 m 36 ls []) := by
    intro y1 ey1 ls hl
    subst ey1
    refine lv_iload_n hx hb dX9_countOf_36 rfl (lv_at hl 2 rfl) ?_
    exact hret _ _ _ dX9_countOf_37 (zct_mlp pn pa sgn hpn)
  have L3 : ∀ (n6 : Nat) (k : Nat) (x2_4 : Int32), pn - k < n6 → (k ≤ pn) → lp_X9_countOf_4 pn pa sgn n6 k x2_4 = lp_X9_countOf_4 pn pa sgn (pn + 1) 0 0 → ∀ (ls : Array Slot), lv_has ls 4 [(0, .ref mo), (1, .int sgn), (2, .int x2_4), (3, .int (nI k))] → W p l e rm_X9_countOf s m args below meth c s.heap [] 0 0 Q (F0 m 4 ls []) := by
    intro n6
    induction n6 with
    | zero => intro k x2_4 hm; exact absurd hm (Nat.not_lt_zero _)
    | succ n6 ih5 =>
      intro k x2_4 hm7 hk hv4 ls hl
      refine lv_iload_n hx hb dX9_countOf_4 rfl (lv_at hl 3 rfl) ?_
      refine lv_aload_n hx hb dX9_countOf_5 rfl (lv_at hl 0 rfl) ?_
      refine va_get (D := D) (ci := 9) (v := .int (nI pn)) (C := RX9) (T := TX9) (N := 27) hx hb hts in_X9 hown hT.1 hP 0 rfl rfl 13 (by decide) (hts _ fl_RX9_95) (fun _ h9 => h9) rfl dX9_countOf_6 ?_
      refine lv_icmp_ge (tgt := 36) hx hb dX9_countOf_9 (by decide) (fun c8 => ?_) (fun c8 => ?_)
      · have nc8 := zNle (a := pn) (b := k) c8 (by omega) (by omega)
        exact X2 _ (by rw [← hv4, lp_X9_countOf_4, if_pos c8]) ls (lv_sub hl [0, 1, 2] rfl)
      · have nc8 := zNnle (a := pn) (b := k) c8 (by omega) (by omega)
        refine lv_iload_n hx hb dX9_countOf_12 rfl (lv_at hl 2 rfl) ?_
        refine lv_aload_n hx hb dX9_countOf_13 rfl (lv_at hl 0 rfl) ?_
        refine va_get (D := D) (ci := 9) (v := .ref rpa) (C := RX9) (T := TX9) (N := 27) hx hb hts in_X9 hown hT.1 hP 0 rfl rfl 12 (by decide) (hts _ fl_RX9_25) (fun _ h9 => h9) rfl dX9_countOf_14 ?_
        refine lv_iload_n hx hb dX9_countOf_17 rfl (lv_at hl 3 rfl) ?_
        refine zald (D := D) (k := k) hx hb hT.1 hP 6 0 rfl rfl (by omega) (by omega) dX9_countOf_18 ?_
        refine lv_iload_n hx hb dX9_countOf_19 rfl (lv_at hl 1 rfl) ?_
        refine lv_icmp_ne (tgt := 27) hx hb dX9_countOf_20 (by decide) (fun c9 => ?_) (fun c9 => ?_)
        · refine lv_iconst (v := 0) hx hb dX9_countOf_27 (by decide) ?_
          refine lv_iadd hx hb dX9_countOf_28 ?_
          refine lv_istore_n (lv' := [(2, .int (x2_4 + 0)), (0, .ref mo), (1, .int sgn), (3, .int (nI k))]) hx hb dX9_countOf_29 rfl hl (by decide) rfl (fun ls hl => ?_)
          refine lv_iinc (v := nI (k + 1)) (lv' := [(3, .int (nI (k + 1))), (2, .int (x2_4 + 0)), (0, .ref mo), (1, .int sgn)]) hx hb dX9_countOf_30 hl (k := 3) rfl (nI_1 k) (by decide) rfl (fun ls hl => ?_)
          refine lv_goto (tgt := 4) hx hb dX9_countOf_33 (by decide) ?_
          exact ih5 (k + 1) (x2_4 + 0) (by omega) (by omega) (by rw [← hv4, lp_X9_countOf_4, if_neg c8, if_neg c9]) ls (lv_sub hl [2, 3, 1, 0] rfl)
        · refine lv_iconst (v := 1) hx hb dX9_countOf_23 (by decide) ?_
          refine lv_goto (tgt := 28) hx hb dX9_countOf_24 (by decide) ?_
          refine lv_iadd hx hb dX9_countOf_28 ?_
          refine lv_istore_n (lv' := [(2, .int (x2_4 + 1)), (0, .ref mo), (1, .int sgn), (3, .int (nI k))]) hx hb dX9_countOf_29 rfl hl (by decide) rfl (fun ls hl => ?_)
          refine lv_iinc (v := nI (k + 1)) (lv' := [(3, .int (nI (k + 1))), (2, .int (x2_4 + 1)), (0, .ref mo), (1, .int sgn)]) hx hb dX9_countOf_30 hl (k := 3) rfl (nI_1 k) (by decide) rfl (fun ls hl => ?_)
          refine lv_goto (tgt := 4) hx hb dX9_countOf_33 (by decide) ?_
          exact ih5 (k + 1) (x2_4 + 1) (by omega) (by omega) (by rw [← hv4, lp_X9_countOf_4, if_neg c8, if_pos c9]) ls (lv_sub hl [2, 3, 1, 0] rfl)
  exact L3 (pn + 1) 0 0 (by omega) (by omega) rfl ls (lv_sub hl [2, 3, 1, 0] rfl)
def s_X9_happen_plc (tu : Int32) (stp : Int32) (plc : Int32) (mnt : Int32) (lft : Int32) (abd : Int32) (ea : Nat → Int32) (la : Nat → Int32) (we : Nat → Int32) (sgn : Int32) : Int32 := if sgn = 46 then plc + ((if tu ≤ mnt then la (s_X9_height stp lft abd we).toNatClampNeg else ea (s_X9_height stp lft abd we).toNatClampNeg) : Int32) else plc
def s_X9_happen_mnt (mnt : Int32) (sgn : Int32) : Int32 := if sgn = 46 then mnt + 1 else mnt
def s_X9_happen_lft (lk : Int32) (lft : Int32) (sgn : Int32) : Int32 := if sgn = 46 then ((if lft ≤ lk then 0 else lft - lk) : Int32) else lft
def s_X9_happen_abd (abd : Int32) (sgn : Int32) : Int32 := if sgn = 46 then abd else (if sgn = 33 then abd else s_X9_throwOut_abd abd (sgn - 97))
abbrev rm_X9_happen : Room := { frames := 2, cells := 0, slots := 0, locals := 42 }
set_option maxRecDepth 100000 in
set_option maxHeartbeats 4000000 in
theorem c_X9_happen (l : Launch) (D : va_G) (cI cZ : ClassId) (mo rea rla rwe rst rsp rpa rsa rta rbe rfa rpl rke rik sn pn ka : Nat) (tu ga lk stp dbt win plc mnt lft abd iw : Int32) (ea la we mT mP pa sa ta be fa pq ke ik : Nat → Int32) (sgn : Int32) (hstp : 1 ≤ stp) : Met l yX9_happen [.code yX9_happen cX9_happen 2 none] rm_X9_happen (PcW D cI cZ [.ref mo, .int sgn] [(mo, .inr (9, [.int tu, .int ga, .int lk, .int stp, .int dbt, .int win, .ref rea, .ref rla, .ref rwe, .ref rst, .ref rsp, .int (nI sn), .ref rpa, .int (nI pn), .int plc, .int mnt, .int lft, .int abd, .ref rsa, .ref rta, .ref rbe, .ref rfa, .ref rpl, .ref rke, .ref rik, .int (nI ka), .int iw])), (rea, .inl (cI, 5, .inl ea)), (rla, .inl (cI, 5, .inl la)), (rwe, .inl (cI, 6, .inl we)), (rst, .inl (cI, 6, .inl mT)), (rsp, .inl (cI, 6, .inl mP)), (rpa, .inl (cI, 60, .inl pa)), (rsa, .inl (cI, 61, .inl sa)), (rta, .inl (cI, 12, .inl ta)), (rbe, .inl (cI, 12, .inl be)), (rfa, .inl (cI, 6, .inl fa)), (rpl, .inl (cI, 60, .inl pq)), (rke, .inl (cI, 100, .inl ke)), (rik, .inl (cZ, 2, .inl ik))]) (QcE D (S := Unit) none (fun _ => True) (fun _ => [(mo, .inr (9, [.int tu, .int ga, .int lk, .int stp, .int dbt, .int win, .ref rea, .ref rla, .ref rwe, .ref rst, .ref rsp, .int (nI sn), .ref rpa, .int (nI pn), .int (s_X9_happen_plc tu stp plc mnt lft abd ea la we sgn), .int (s_X9_happen_mnt mnt sgn), .int (s_X9_happen_lft lk lft sgn), .int (s_X9_happen_abd abd sgn), .ref rsa, .ref rta, .ref rbe, .ref rfa, .ref rpl, .ref rke, .ref rik, .int (nI ka), .int iw])), (rea, .inl (cI, 5, .inl ea)), (rla, .inl (cI, 5, .inl la)), (rwe, .inl (cI, 6, .inl we)), (rst, .inl (cI, 6, .inl mT)), (rsp, .inl (cI, 6, .inl mP)), (rpa, .inl (cI, 60, .inl pa)), (rsa, .inl (cI, 61, .inl sa)), (rta, .inl (cI, 12, .inl ta)), (rbe, .inl (cI, 12, .inl be)), (rfa, .inl (cI, 6, .inl fa)), (rpl, .inl (cI, 60, .inl pq)), (rke, .inl (cI, 100, .inl ke)), (rik, .inl (cZ, 2, .inl ik))]) (zA [(mo, .inr (9, [.int tu, .int ga, .int lk, .int stp, .int dbt, .int win, .ref rea, .ref rla, .ref rwe, .ref rst, .ref rsp, .int (nI sn), .ref rpa, .int (nI pn), .int plc, .int mnt, .int lft, .int abd, .ref rsa, .ref rta, .ref rbe, .ref rfa, .ref rpl, .ref rke, .ref rik, .int (nI ka), .int iw])), (rea, .inl (cI, 5, .inl ea)), (rla, .inl (cI, 5, .inl la)), (rwe, .inl (cI, 6, .inl we)), (rst, .inl (cI, 6, .inl mT)), (rsp, .inl (cI, 6, .inl mP)), (rpa, .inl (cI, 60, .inl pa)), (rsa, .inl (cI, 61, .inl sa)), (rta, .inl (cI, 12, .inl ta)), (rbe, .inl (cI, 12, .inl be)), (rfa, .inl (cI, 6, .inl fa)), (rpl, .inl (cI, 60, .inl pq)), (rke, .inl (cI, 100, .inl ke)), (rik, .inl (cZ, 2, .inl ik))])) 0 0 (zA [(mo, .inr (9, [.int tu, .int ga, .int lk, .int stp, .int dbt, .int win, .ref rea, .ref rla, .ref rwe, .ref rst, .ref rsp, .int (nI sn), .ref rpa, .int (nI pn), .int plc, .int mnt, .int lft, .int abd, .ref rsa, .ref rta, .ref rbe, .ref rfa, .ref rpl, .ref rke, .ref rik, .int (nI ka), .int iw])), (rea, .inl (cI, 5, .inl ea)), (rla, .inl (cI, 5, .inl la)), (rwe, .inl (cI, 6, .inl we)), (rst, .inl (cI, 6, .inl mT)), (rsp, .inl (cI, 6, .inl mP)), (rpa, .inl (cI, 60, .inl pa)), (rsa, .inl (cI, 61, .inl sa)), (rta, .inl (cI, 12, .inl ta)), (rbe, .inl (cI, 12, .inl be)), (rfa, .inl (cI, 6, .inl fa)), (rpl, .inl (cI, 60, .inl pq)), (rke, .inl (cI, 100, .inl ke)), (rik, .inl (cZ, 2, .inl ik))]) := by
  refine mtWv (by decide) (Nat.le_of_ble_eq_true rfl) (fun p e s m args below meth c Q A S hT hP hD hS hret ls hl => ?_)
  have S : CallFix p m c cX9_happen 2 s args zt RX9 := S
  obtain ⟨hx, hb, hml, hown, hts⟩ := id S
  have hl : lv_has ls 2 [(0, .ref mo), (1, .int sgn)] := hl
  refine lv_iload_n hx hb dX9_happen_0 rfl (lv_at hl 1 rfl) ?_
  refine lv_bipush (v := 46) hx hb dX9_happen_1 (by decide) ?_
  refine lv_icmp_ne (tgt := 13) hx hb dX9_happen_3 (by decide) (fun c1 => ?_) (fun c1 => ?_)
  · refine lv_iload_n hx hb dX9_happen_13 rfl (lv_at hl 1 rfl) ?_
    refine lv_bipush (v := 33) hx hb dX9_happen_14 (by decide) ?_
    refine lv_icmp_eq (tgt := 27) hx hb dX9_happen_16 (by decide) (fun c2 => ?_) (fun c2 => ?_)
    · have eo1 : s_X9_happen_plc tu stp plc mnt lft abd ea la we sgn = plc := (by unfold s_X9_happen_plc; rw [if_neg c1])
      have eo2 : s_X9_happen_mnt mnt sgn = mnt := (by unfold s_X9_happen_mnt; rw [if_neg c1])
      have eo3 : s_X9_happen_lft lk lft sgn = lft := (by unfold s_X9_happen_lft; rw [if_neg c1])
      have eo4 : s_X9_happen_abd abd sgn = abd := (by unfold s_X9_happen_abd; rw [if_neg c1, if_pos c2])
      exact hret _ _ s.heap [] () dX9_happen_27  trivial (by show va_P D vwCl [(mo, .inr (9, [.int tu, .int ga, .int lk, .int stp, .int dbt, .int win, .ref rea, .ref rla, .ref rwe, .ref rst, .ref rsp, .int (nI sn), .ref rpa, .int (nI pn), .int (s_X9_happen_plc tu stp plc mnt lft abd ea la we sgn), .int (s_X9_happen_mnt mnt sgn), .int (s_X9_happen_lft lk lft sgn), .int (s_X9_happen_abd abd sgn), .ref rsa, .ref rta, .ref rbe, .ref rfa, .ref rpl, .ref rke, .ref rik, .int (nI ka), .int iw])), (rea, .inl (cI, 5, .inl ea)), (rla, .inl (cI, 5, .inl la)), (rwe, .inl (cI, 6, .inl we)), (rst, .inl (cI, 6, .inl mT)), (rsp, .inl (cI, 6, .inl mP)), (rpa, .inl (cI, 60, .inl pa)), (rsa, .inl (cI, 61, .inl sa)), (rta, .inl (cI, 12, .inl ta)), (rbe, .inl (cI, 12, .inl be)), (rfa, .inl (cI, 6, .inl fa)), (rpl, .inl (cI, 60, .inl pq)), (rke, .inl (cI, 100, .inl ke)), (rik, .inl (cZ, 2, .inl ik))] s.heap; rw [eo1, eo2, eo3, eo4]; exact hP) hS
    · refine lv_aload_n hx hb dX9_happen_19 rfl (lv_at hl 0 rfl) ?_
      refine lv_iload_n hx hb dX9_happen_20 rfl (lv_at hl 1 rfl) ?_
      refine lv_bipush (v := 97) hx hb dX9_happen_21 (by decide) ?_
      refine lv_isub hx hb dX9_happen_23 ?_
      refine kEV (q0 := 0) (st1 := []) S hT hP hD hS (c_X9_throwOut l D cI cZ mo rea rla rwe rst rsp rpa rsa rta rbe rfa rpl rke rik sn pn ka tu ga lk stp dbt win plc mnt lft abd iw ea la we mT mP pa sa ta be fa pq ke ik (sgn - 97)) rfl rfl mw_X9_throwOut lk_RX9_124 ⟨rfl, rfl, (Nat.le_of_ble_eq_true rfl), (Nat.le_of_ble_eq_true rfl), (Nat.le_of_ble_eq_true rfl), (Nat.le_of_ble_eq_true rfl)⟩ [0, 1, 2, 3, 4, 5, 6, 7, 8, 9, 10, 11, 12, 13] [mo, rea, rla, rwe, rst, rsp, rpa, rsa, rta, rbe, rfa, rpl, rke, rik] (by decide) rfl rfl (fun _ => rfl) rfl rfl hl.1 (Nat.le_of_ble_eq_true rfl) dX9_happen_24 (fun _ H locs _ hP hD hS => ?_)
      have hP : va_P D vwCl [(mo, .inr (9, [.int tu, .int ga, .int lk, .int stp, .int dbt, .int win, .ref rea, .ref rla, .ref rwe, .ref rst, .ref rsp, .int (nI sn), .ref rpa, .int (nI pn), .int plc, .int mnt, .int lft, .int (s_X9_throwOut_abd abd (sgn - 97)), .ref rsa, .ref rta, .ref rbe, .ref rfa, .ref rpl, .ref rke, .ref rik, .int (nI ka), .int iw])), (rea, .inl (cI, 5, .inl ea)), (rla, .inl (cI, 5, .inl la)), (rwe, .inl (cI, 6, .inl we)), (rst, .inl (cI, 6, .inl mT)), (rsp, .inl (cI, 6, .inl mP)), (rpa, .inl (cI, 60, .inl pa)), (rsa, .inl (cI, 61, .inl sa)), (rta, .inl (cI, 12, .inl ta)), (rbe, .inl (cI, 12, .inl be)), (rfa, .inl (cI, 6, .inl fa)), (rpl, .inl (cI, 60, .inl pq)), (rke, .inl (cI, 100, .inl ke)), (rik, .inl (cZ, 2, .inl ik))] H := hP
      have hD : va_D A [(mo, .inr (9, [.int tu, .int ga, .int lk, .int stp, .int dbt, .int win, .ref rea, .ref rla, .ref rwe, .ref rst, .ref rsp, .int (nI sn), .ref rpa, .int (nI pn), .int plc, .int mnt, .int lft, .int (s_X9_throwOut_abd abd (sgn - 97)), .ref rsa, .ref rta, .ref rbe, .ref rfa, .ref rpl, .ref rke, .ref rik, .int (nI ka), .int iw])), (rea, .inl (cI, 5, .inl ea)), (rla, .inl (cI, 5, .inl la)), (rwe, .inl (cI, 6, .inl we)), (rst, .inl (cI, 6, .inl mT)), (rsp, .inl (cI, 6, .inl mP)), (rpa, .inl (cI, 60, .inl pa)), (rsa, .inl (cI, 61, .inl sa)), (rta, .inl (cI, 12, .inl ta)), (rbe, .inl (cI, 12, .inl be)), (rfa, .inl (cI, 6, .inl fa)), (rpl, .inl (cI, 60, .inl pq)), (rke, .inl (cI, 100, .inl ke)), (rik, .inl (cZ, 2, .inl ik))] := hD
      have eo1 : s_X9_happen_plc tu stp plc mnt lft abd ea la we sgn = plc := (by unfold s_X9_happen_plc; rw [if_neg c1])
      have eo2 : s_X9_happen_mnt mnt sgn = mnt := (by unfold s_X9_happen_mnt; rw [if_neg c1])
      have eo3 : s_X9_happen_lft lk lft sgn = lft := (by unfold s_X9_happen_lft; rw [if_neg c1])
      have eo4 : s_X9_happen_abd abd sgn = s_X9_throwOut_abd abd (sgn - 97) := (by unfold s_X9_happen_abd; rw [if_neg c1, if_neg c2])
      exact hret _ _ H locs () dX9_happen_27  trivial (by show va_P D vwCl [(mo, .inr (9, [.int tu, .int ga, .int lk, .int stp, .int dbt, .int win, .ref rea, .ref rla, .ref rwe, .ref rst, .ref rsp, .int (nI sn), .ref rpa, .int (nI pn), .int (s_X9_happen_plc tu stp plc mnt lft abd ea la we sgn), .int (s_X9_happen_mnt mnt sgn), .int (s_X9_happen_lft lk lft sgn), .int (s_X9_happen_abd abd sgn), .ref rsa, .ref rta, .ref rbe, .ref rfa, .ref rpl, .ref rke, .ref rik, .int (nI ka), .int iw])), (rea, .inl (cI, 5, .inl ea)), (rla, .inl (cI, 5, .inl la)), (rwe, .inl (cI, 6, .inl we)), (rst, .inl (cI, 6, .inl mT)), (rsp, .inl (cI, 6, .inl mP)), (rpa, .inl (cI, 60, .inl pa)), (rsa, .inl (cI, 61, .inl sa)), (rta, .inl (cI, 12, .inl ta)), (rbe, .inl (cI, 12, .inl be)), (rfa, .inl (cI, 6, .inl fa)), (rpl, .inl (cI, 60, .inl pq)), (rke, .inl (cI, 100, .inl ke)), (rik, .inl (cZ, 2, .inl ik))] H; rw [eo1, eo2, eo3, eo4]; exact hP) hS
  · refine lv_aload_n hx hb dX9_happen_6 rfl (lv_at hl 0 rfl) ?_
    refine kEV (q0 := 0) (st1 := []) S hT hP hD hS (c_X9_drift l D cI cZ mo rea rla rwe rst rsp rpa rsa rta rbe rfa rpl rke rik sn pn ka tu ga lk stp dbt win plc mnt lft abd iw ea la we mT mP pa sa ta be fa pq ke ik (by first | assumption | decide | omega)) rfl rfl mw_X9_drift lk_RX9_121 ⟨rfl, rfl, (Nat.le_of_ble_eq_true rfl), (Nat.le_of_ble_eq_true rfl), (Nat.le_of_ble_eq_true rfl), (Nat.le_of_ble_eq_true rfl)⟩ [0, 1, 2, 3, 4, 5, 6, 7, 8, 9, 10, 11, 12, 13] [mo, rea, rla, rwe, rst, rsp, rpa, rsa, rta, rbe, rfa, rpl, rke, rik] (by decide) rfl rfl (fun _ => rfl) rfl rfl hl.1 (Nat.le_of_ble_eq_true rfl) dX9_happen_7 (fun _ H locs _ hP hD hS => ?_)
    have hP : va_P D vwCl [(mo, .inr (9, [.int tu, .int ga, .int lk, .int stp, .int dbt, .int win, .ref rea, .ref rla, .ref rwe, .ref rst, .ref rsp, .int (nI sn), .ref rpa, .int (nI pn), .int (plc + ((if tu ≤ mnt then la (s_X9_height stp lft abd we).toNatClampNeg else ea (s_X9_height stp lft abd we).toNatClampNeg) : Int32)), .int (mnt + 1), .int ((if lft ≤ lk then 0 else lft - lk) : Int32), .int abd, .ref rsa, .ref rta, .ref rbe, .ref rfa, .ref rpl, .ref rke, .ref rik, .int (nI ka), .int iw])), (rea, .inl (cI, 5, .inl ea)), (rla, .inl (cI, 5, .inl la)), (rwe, .inl (cI, 6, .inl we)), (rst, .inl (cI, 6, .inl mT)), (rsp, .inl (cI, 6, .inl mP)), (rpa, .inl (cI, 60, .inl pa)), (rsa, .inl (cI, 61, .inl sa)), (rta, .inl (cI, 12, .inl ta)), (rbe, .inl (cI, 12, .inl be)), (rfa, .inl (cI, 6, .inl fa)), (rpl, .inl (cI, 60, .inl pq)), (rke, .inl (cI, 100, .inl ke)), (rik, .inl (cZ, 2, .inl ik))] H := hP
    have hD : va_D A [(mo, .inr (9, [.int tu, .int ga, .int lk, .int stp, .int dbt, .int win, .ref rea, .ref rla, .ref rwe, .ref rst, .ref rsp, .int (nI sn), .ref rpa, .int (nI pn), .int (plc + ((if tu ≤ mnt then la (s_X9_height stp lft abd we).toNatClampNeg else ea (s_X9_height stp lft abd we).toNatClampNeg) : Int32)), .int (mnt + 1), .int ((if lft ≤ lk then 0 else lft - lk) : Int32), .int abd, .ref rsa, .ref rta, .ref rbe, .ref rfa, .ref rpl, .ref rke, .ref rik, .int (nI ka), .int iw])), (rea, .inl (cI, 5, .inl ea)), (rla, .inl (cI, 5, .inl la)), (rwe, .inl (cI, 6, .inl we)), (rst, .inl (cI, 6, .inl mT)), (rsp, .inl (cI, 6, .inl mP)), (rpa, .inl (cI, 60, .inl pa)), (rsa, .inl (cI, 61, .inl sa)), (rta, .inl (cI, 12, .inl ta)), (rbe, .inl (cI, 12, .inl be)), (rfa, .inl (cI, 6, .inl fa)), (rpl, .inl (cI, 60, .inl pq)), (rke, .inl (cI, 100, .inl ke)), (rik, .inl (cZ, 2, .inl ik))] := hD
    refine lv_goto (tgt := 27) hx hb dX9_happen_10 (by decide) ?_
    have eo1 : s_X9_happen_plc tu stp plc mnt lft abd ea la we sgn = plc + ((if tu ≤ mnt then la (s_X9_height stp lft abd we).toNatClampNeg else ea (s_X9_height stp lft abd we).toNatClampNeg) : Int32) := (by unfold s_X9_happen_plc; rw [if_pos c1])
    have eo2 : s_X9_happen_mnt mnt sgn = mnt + 1 := (by unfold s_X9_happen_mnt; rw [if_pos c1])
    have eo3 : s_X9_happen_lft lk lft sgn = ((if lft ≤ lk then 0 else lft - lk) : Int32) := (by unfold s_X9_happen_lft; rw [if_pos c1])
    have eo4 : s_X9_happen_abd abd sgn = abd := (by unfold s_X9_happen_abd; rw [if_pos c1])
    exact hret _ _ H locs () dX9_happen_27  trivial (by show va_P D vwCl [(mo, .inr (9, [.int tu, .int ga, .int lk, .int stp, .int dbt, .int win, .ref rea, .ref rla, .ref rwe, .ref rst, .ref rsp, .int (nI sn), .ref rpa, .int (nI pn), .int (s_X9_happen_plc tu stp plc mnt lft abd ea la we sgn), .int (s_X9_happen_mnt mnt sgn), .int (s_X9_happen_lft lk lft sgn), .int (s_X9_happen_abd abd sgn), .ref rsa, .ref rta, .ref rbe, .ref rfa, .ref rpl, .ref rke, .ref rik, .int (nI ka), .int iw])), (rea, .inl (cI, 5, .inl ea)), (rla, .inl (cI, 5, .inl la)), (rwe, .inl (cI, 6, .inl we)), (rst, .inl (cI, 6, .inl mT)), (rsp, .inl (cI, 6, .inl mP)), (rpa, .inl (cI, 60, .inl pa)), (rsa, .inl (cI, 61, .inl sa)), (rta, .inl (cI, 12, .inl ta)), (rbe, .inl (cI, 12, .inl be)), (rfa, .inl (cI, 6, .inl fa)), (rpl, .inl (cI, 60, .inl pq)), (rke, .inl (cI, 100, .inl ke)), (rik, .inl (cZ, 2, .inl ik))] H; rw [eo1, eo2, eo3, eo4]; exact hP) hS
def lp_X9_fines_4 (pn : Nat) (pa : Nat → Int32) : Nat → Nat → Int32 → Int32
  | 0, _, x1_4 => x1_4
  | fu + 1, k, x1_4 => if nI pn ≤ nI k then x1_4 else (if (s_X9_in (Int32.toInt64 ((pa k) - 97)) 0 5) = 0 then lp_X9_fines_4 pn pa fu (k + 1) (x1_4 + 0) else (if nI k = 0 then lp_X9_fines_4 pn pa fu (k + 1) (x1_4 + 1) else (if (pa (k - 1)) = 33 then lp_X9_fines_4 pn pa fu (k + 1) (x1_4 + 0) else lp_X9_fines_4 pn pa fu (k + 1) (x1_4 + 1))))
abbrev rm_X9_fines : Room := { frames := 2, cells := 0, slots := 0, locals := 45 }
set_option maxRecDepth 100000 in
set_option maxHeartbeats 4000000 in
theorem c_X9_fines (l : Launch) (D : va_G) (cI cZ : ClassId) (mo rea rla rwe rst rsp rpa rsa rta rbe rfa rpl rke rik sn pn ka : Nat) (tu ga lk stp dbt win plc mnt lft abd iw : Int32) (ea la we mT mP pa sa ta be fa pq ke ik : Nat → Int32) (hpn : pn ≤ 60) : Met l yX9_fines [.code yX9_fines cX9_fines 4 (some .int)] rm_X9_fines (PcR D cI cZ [.ref mo] [(mo, .inr (9, [.int tu, .int ga, .int lk, .int stp, .int dbt, .int win, .ref rea, .ref rla, .ref rwe, .ref rst, .ref rsp, .int (nI sn), .ref rpa, .int (nI pn), .int plc, .int mnt, .int lft, .int abd, .ref rsa, .ref rta, .ref rbe, .ref rfa, .ref rpl, .ref rke, .ref rik, .int (nI ka), .int iw])), (rea, .inl (cI, 5, .inl ea)), (rla, .inl (cI, 5, .inl la)), (rwe, .inl (cI, 6, .inl we)), (rst, .inl (cI, 6, .inl mT)), (rsp, .inl (cI, 6, .inl mP)), (rpa, .inl (cI, 60, .inl pa)), (rsa, .inl (cI, 61, .inl sa)), (rta, .inl (cI, 12, .inl ta)), (rbe, .inl (cI, 12, .inl be)), (rfa, .inl (cI, 6, .inl fa)), (rpl, .inl (cI, 60, .inl pq)), (rke, .inl (cI, 100, .inl ke)), (rik, .inl (cZ, 2, .inl ik))]) (QcR (some (.int (lp_X9_fines_4 pn pa (pn + 1) 0 0)))) 0 0 zN := by
  refine mtRi (by decide) (Nat.le_of_ble_eq_true rfl) (fun p e s m args below meth c Q S hT hP hret ls hl => ?_)
  have S : CallFix p m c cX9_fines 4 s args zt RX9 := S
  obtain ⟨hx, hb, hml, hown, hts⟩ := id S
  have hl : lv_has ls 4 [(0, .ref mo)] := hl
  refine lv_iconst (v := 0) hx hb dX9_fines_0 (by decide) ?_
  refine lv_istore_n (lv' := [(1, .int 0), (0, .ref mo)]) hx hb dX9_fines_1 rfl hl (by decide) rfl (fun ls hl => ?_)
  refine lv_iconst (v := 0) hx hb dX9_fines_2 (by decide) ?_
  refine lv_istore_n (lv' := [(2, .int 0), (1, .int 0), (0, .ref mo)]) hx hb dX9_fines_3 rfl hl (by decide) rfl (fun ls hl => ?_)
  have X2 : ∀ (y1 : Int32), (lp_X9_fines_4 pn pa (pn + 1) 0 0) = y1 → ∀ (ls : Array Slot), lv_has ls 4 [(0, .ref mo), (1, .int y1)] → W p l e rm_X9_fines s m args below meth c s.heap [] 0 0 Q (F0 m 60 ls []) := by
    intro y1 ey1 ls hl
    subst ey1
    refine lv_iload_n hx hb dX9_fines_60 rfl (lv_at hl 1 rfl) ?_
    exact hret _ _ _ dX9_fines_61 rfl
  have L3 : ∀ (n6 : Nat) (k : Nat) (x1_4 : Int32), pn - k < n6 → (k ≤ pn) → lp_X9_fines_4 pn pa n6 k x1_4 = lp_X9_fines_4 pn pa (pn + 1) 0 0 → ∀ (ls : Array Slot), lv_has ls 4 [(0, .ref mo), (1, .int x1_4), (2, .int (nI k))] → W p l e rm_X9_fines s m args below meth c s.heap [] 0 0 Q (F0 m 4 ls []) := by
    intro n6
    induction n6 with
    | zero => intro k x1_4 hm; exact absurd hm (Nat.not_lt_zero _)
    | succ n6 ih5 =>
      intro k x1_4 hm7 hk hv4 ls hl
      refine lv_iload_n hx hb dX9_fines_4 rfl (lv_at hl 2 rfl) ?_
      refine lv_aload_n hx hb dX9_fines_5 rfl (lv_at hl 0 rfl) ?_
      refine va_get (D := D) (ci := 9) (v := .int (nI pn)) (C := RX9) (T := TX9) (N := 27) hx hb hts in_X9 hown hT.1 hP 0 rfl rfl 13 (by decide) (hts _ fl_RX9_95) (fun _ h9 => h9) rfl dX9_fines_6 ?_
      refine lv_icmp_ge (tgt := 60) hx hb dX9_fines_9 (by decide) (fun c8 => ?_) (fun c8 => ?_)
      · have nc8 := zNle (a := pn) (b := k) c8 (by omega) (by omega)
        exact X2 _ (by rw [← hv4, lp_X9_fines_4, if_pos c8]) ls (lv_sub hl [0, 1] rfl)
      · have nc8 := zNnle (a := pn) (b := k) c8 (by omega) (by omega)
        refine lv_aload_n hx hb dX9_fines_12 rfl (lv_at hl 0 rfl) ?_
        refine va_get (D := D) (ci := 9) (v := .ref rpa) (C := RX9) (T := TX9) (N := 27) hx hb hts in_X9 hown hT.1 hP 0 rfl rfl 12 (by decide) (hts _ fl_RX9_25) (fun _ h9 => h9) rfl dX9_fines_13 ?_
        refine lv_iload_n hx hb dX9_fines_16 rfl (lv_at hl 2 rfl) ?_
        refine zald (D := D) (k := k) hx hb hT.1 hP 6 0 rfl rfl (by omega) (by omega) dX9_fines_17 ?_
        refine lv_bipush (v := 97) hx hb dX9_fines_18 (by decide) ?_
        refine lv_isub hx hb dX9_fines_20 ?_
        refine kRS (st1 := [.int (s_X9_in (Int32.toInt64 ((pa k) - 97)) 0 5)]) S hT hP (c_X9_isThing l D cI cZ ((pa k) - 97)) rfl rfl mw_X9_isThing lk_RX9_85 ⟨rfl, rfl, (Nat.le_of_ble_eq_true rfl), (Nat.le_of_ble_eq_true rfl), (Nat.le_of_ble_eq_true rfl), (Nat.le_of_ble_eq_true rfl)⟩ [] rfl hl.1 (Nat.le_of_ble_eq_true rfl) dX9_fines_21 ?_
        refine lv_istore_n (lv' := [(3, .int (s_X9_in (Int32.toInt64 ((pa k) - 97)) 0 5)), (0, .ref mo), (1, .int x1_4), (2, .int (nI k))]) hx hb dX9_fines_24 rfl hl (by decide) rfl (fun ls hl => ?_)
        refine lv_iload_n hx hb dX9_fines_25 rfl (lv_at hl 2 rfl) ?_
        refine lv_iload_n hx hb dX9_fines_26 rfl (lv_at hl 0 rfl) ?_
        refine lv_if_eq (tgt := 51) hx hb dX9_fines_27 (by decide) (fun c9 => ?_) (fun c9 => ?_)
        · refine lv_iconst (v := 0) hx hb dX9_fines_51 (by decide) ?_
          refine lv_iadd hx hb dX9_fines_52 ?_
          refine lv_istore_n (lv' := [(1, .int (x1_4 + 0)), (3, .int (s_X9_in (Int32.toInt64 ((pa k) - 97)) 0 5)), (0, .ref mo), (2, .int (nI k))]) hx hb dX9_fines_53 rfl hl (by decide) rfl (fun ls hl => ?_)
          refine lv_iinc (v := nI (k + 1)) (lv' := [(2, .int (nI (k + 1))), (1, .int (x1_4 + 0)), (3, .int (s_X9_in (Int32.toInt64 ((pa k) - 97)) 0 5)), (0, .ref mo)]) hx hb dX9_fines_54 hl (k := 3) rfl (nI_1 k) (by decide) rfl (fun ls hl => ?_)
          refine lv_goto (tgt := 4) hx hb dX9_fines_57 (by decide) ?_
          exact ih5 (k + 1) (x1_4 + 0) (by omega) (by omega) (by rw [← hv4, lp_X9_fines_4, if_neg c8, if_pos c9]) ls (lv_sub hl [3, 1, 0] rfl)
        · refine lv_iload_n hx hb dX9_fines_30 rfl (lv_at hl 3 rfl) ?_
          refine lv_if_eq (tgt := 47) hx hb dX9_fines_31 (by decide) (fun c10 => ?_) (fun c10 => ?_)
          · have nc10 := zNeq (a := k) (b := 0) c10 (by omega) (by omega)
            refine lv_iconst (v := 1) hx hb dX9_fines_47 (by decide) ?_
            refine lv_goto (tgt := 52) hx hb dX9_fines_48 (by decide) ?_
            refine lv_iadd hx hb dX9_fines_52 ?_
            refine lv_istore_n (lv' := [(1, .int (x1_4 + 1)), (3, .int (s_X9_in (Int32.toInt64 ((pa k) - 97)) 0 5)), (0, .ref mo), (2, .int (nI k))]) hx hb dX9_fines_53 rfl hl (by decide) rfl (fun ls hl => ?_)
            refine lv_iinc (v := nI (k + 1)) (lv' := [(2, .int (nI (k + 1))), (1, .int (x1_4 + 1)), (3, .int (s_X9_in (Int32.toInt64 ((pa k) - 97)) 0 5)), (0, .ref mo)]) hx hb dX9_fines_54 hl (k := 3) rfl (nI_1 k) (by decide) rfl (fun ls hl => ?_)
            refine lv_goto (tgt := 4) hx hb dX9_fines_57 (by decide) ?_
            exact ih5 (k + 1) (x1_4 + 1) (by omega) (by omega) (by rw [← hv4, lp_X9_fines_4, if_neg c8, if_neg c9, if_pos c10]) ls (lv_sub hl [3, 1, 0] rfl)
          · have nc10 := zNne (a := k) (b := 0) c10 (by omega) (by omega)
            refine lv_aload_n hx hb dX9_fines_34 rfl (lv_at hl 1 rfl) ?_
            refine va_get (D := D) (ci := 9) (v := .ref rpa) (C := RX9) (T := TX9) (N := 27) hx hb hts in_X9 hown hT.1 hP 0 rfl rfl 12 (by decide) (hts _ fl_RX9_25) (fun _ h9 => h9) rfl dX9_fines_35 ?_
            refine lv_iload_n hx hb dX9_fines_38 rfl (lv_at hl 3 rfl) ?_
            refine lv_iconst (v := 1) hx hb dX9_fines_39 (by decide) ?_
            refine lv_isub hx hb dX9_fines_40 ?_
            refine W.eq (g2 := F0 m 41 ls [Value.int (nI (k - 1)), Value.ref rpa, .int x1_4]) (by rw [zpred2 (by omega)]) ?_
            refine zald (D := D) (k := k - 1) hx hb hT.1 hP 6 0 rfl rfl (by omega) (by omega) dX9_fines_41 ?_
            refine lv_bipush (v := 33) hx hb dX9_fines_42 (by decide) ?_
            refine lv_icmp_eq (tgt := 51) hx hb dX9_fines_44 (by decide) (fun c11 => ?_) (fun c11 => ?_)
            · refine lv_iconst (v := 0) hx hb dX9_fines_51 (by decide) ?_
              refine lv_iadd hx hb dX9_fines_52 ?_
              refine lv_istore_n (lv' := [(1, .int (x1_4 + 0)), (3, .int (s_X9_in (Int32.toInt64 ((pa k) - 97)) 0 5)), (0, .ref mo), (2, .int (nI k))]) hx hb dX9_fines_53 rfl hl (by decide) rfl (fun ls hl => ?_)
              refine lv_iinc (v := nI (k + 1)) (lv' := [(2, .int (nI (k + 1))), (1, .int (x1_4 + 0)), (3, .int (s_X9_in (Int32.toInt64 ((pa k) - 97)) 0 5)), (0, .ref mo)]) hx hb dX9_fines_54 hl (k := 3) rfl (nI_1 k) (by decide) rfl (fun ls hl => ?_)
              refine lv_goto (tgt := 4) hx hb dX9_fines_57 (by decide) ?_
              exact ih5 (k + 1) (x1_4 + 0) (by omega) (by omega) (by rw [← hv4, lp_X9_fines_4, if_neg c8, if_neg c9, if_neg c10, if_pos c11]) ls (lv_sub hl [3, 1, 0] rfl)
            · refine lv_iconst (v := 1) hx hb dX9_fines_47 (by decide) ?_
              refine lv_goto (tgt := 52) hx hb dX9_fines_48 (by decide) ?_
              refine lv_iadd hx hb dX9_fines_52 ?_
              refine lv_istore_n (lv' := [(1, .int (x1_4 + 1)), (3, .int (s_X9_in (Int32.toInt64 ((pa k) - 97)) 0 5)), (0, .ref mo), (2, .int (nI k))]) hx hb dX9_fines_53 rfl hl (by decide) rfl (fun ls hl => ?_)
              refine lv_iinc (v := nI (k + 1)) (lv' := [(2, .int (nI (k + 1))), (1, .int (x1_4 + 1)), (3, .int (s_X9_in (Int32.toInt64 ((pa k) - 97)) 0 5)), (0, .ref mo)]) hx hb dX9_fines_54 hl (k := 3) rfl (nI_1 k) (by decide) rfl (fun ls hl => ?_)
              refine lv_goto (tgt := 4) hx hb dX9_fines_57 (by decide) ?_
              exact ih5 (k + 1) (x1_4 + 1) (by omega) (by omega) (by rw [← hv4, lp_X9_fines_4, if_neg c8, if_neg c9, if_neg c10, if_neg c11]) ls (lv_sub hl [3, 1, 0] rfl)
  exact L3 (pn + 1) 0 0 (by omega) (by omega) rfl ls (lv_sub hl [2, 1, 0] rfl)
def s_X9_apart (plc : Int32) (goal : Int32) : Int32 := if plc ≤ goal then goal - plc else plc - goal
abbrev rm_X9_apart : Room := { frames := 0, cells := 0, slots := 0, locals := 0 }
set_option maxRecDepth 100000 in
set_option maxHeartbeats 4000000 in
theorem c_X9_apart (l : Launch) (D : va_G) (cI cZ : ClassId) (mo rea rla rwe rst rsp rpa rsa rta rbe rfa rpl rke rik sn pn ka : Nat) (tu ga lk stp dbt win plc mnt lft abd iw : Int32) (ea la we mT mP pa sa ta be fa pq ke ik : Nat → Int32) (goal : Int32) : Met l yX9_apart [.code yX9_apart cX9_apart 2 (some .int)] rm_X9_apart (PcR D cI cZ [.ref mo, .int goal] [(mo, .inr (9, [.int tu, .int ga, .int lk, .int stp, .int dbt, .int win, .ref rea, .ref rla, .ref rwe, .ref rst, .ref rsp, .int (nI sn), .ref rpa, .int (nI pn), .int plc, .int mnt, .int lft, .int abd, .ref rsa, .ref rta, .ref rbe, .ref rfa, .ref rpl, .ref rke, .ref rik, .int (nI ka), .int iw])), (rea, .inl (cI, 5, .inl ea)), (rla, .inl (cI, 5, .inl la)), (rwe, .inl (cI, 6, .inl we)), (rst, .inl (cI, 6, .inl mT)), (rsp, .inl (cI, 6, .inl mP)), (rpa, .inl (cI, 60, .inl pa)), (rsa, .inl (cI, 61, .inl sa)), (rta, .inl (cI, 12, .inl ta)), (rbe, .inl (cI, 12, .inl be)), (rfa, .inl (cI, 6, .inl fa)), (rpl, .inl (cI, 60, .inl pq)), (rke, .inl (cI, 100, .inl ke)), (rik, .inl (cZ, 2, .inl ik))]) (QcR (some (.int (s_X9_apart plc goal)))) 0 0 zN := by
  refine mtRi (by decide) (Nat.le_of_ble_eq_true rfl) (fun p e s m args below meth c Q S hT hP hret ls hl => ?_)
  have S : CallFix p m c cX9_apart 2 s args zt RX9 := S
  obtain ⟨hx, hb, hml, hown, hts⟩ := id S
  have hl : lv_has ls 2 [(0, .ref mo), (1, .int goal)] := hl
  refine lv_aload_n hx hb dX9_apart_0 rfl (lv_at hl 0 rfl) ?_
  refine va_get (D := D) (ci := 9) (v := .int plc) (C := RX9) (T := TX9) (N := 27) hx hb hts in_X9 hown hT.1 hP 0 rfl rfl 14 (by decide) (hts _ fl_RX9_102) (fun _ h9 => h9) rfl dX9_apart_1 ?_
  refine lv_iload_n hx hb dX9_apart_4 rfl (lv_at hl 1 rfl) ?_
  refine lv_icmp_le (tgt := 17) hx hb dX9_apart_5 (by decide) (fun c1 => ?_) (fun c1 => ?_)
  · refine lv_iload_n hx hb dX9_apart_17 rfl (lv_at hl 1 rfl) ?_
    refine lv_aload_n hx hb dX9_apart_18 rfl (lv_at hl 0 rfl) ?_
    refine va_get (D := D) (ci := 9) (v := .int plc) (C := RX9) (T := TX9) (N := 27) hx hb hts in_X9 hown hT.1 hP 0 rfl rfl 14 (by decide) (hts _ fl_RX9_102) (fun _ h9 => h9) rfl dX9_apart_19 ?_
    refine lv_isub hx hb dX9_apart_22 ?_
    exact hret _ _ _ dX9_apart_23 (by unfold s_X9_apart; rw [if_pos c1])
  · refine lv_aload_n hx hb dX9_apart_8 rfl (lv_at hl 0 rfl) ?_
    refine va_get (D := D) (ci := 9) (v := .int plc) (C := RX9) (T := TX9) (N := 27) hx hb hts in_X9 hown hT.1 hP 0 rfl rfl 14 (by decide) (hts _ fl_RX9_102) (fun _ h9 => h9) rfl dX9_apart_9 ?_
    refine lv_iload_n hx hb dX9_apart_12 rfl (lv_at hl 1 rfl) ?_
    refine lv_isub hx hb dX9_apart_13 ?_
    refine lv_goto (tgt := 23) hx hb dX9_apart_14 (by decide) ?_
    exact hret _ _ _ dX9_apart_23 (by unfold s_X9_apart; rw [if_neg c1])
abbrev rm_X9_forget : Room := { frames := 0, cells := 0, slots := 0, locals := 0 }
set_option maxRecDepth 100000 in
set_option maxHeartbeats 4000000 in
theorem c_X9_forget (l : Launch) (D : va_G) (cI cZ : ClassId) (mo rea rla rwe rst rsp rpa rsa rta rbe rfa rpl rke rik sn pn ka : Nat) (tu ga lk stp dbt win plc mnt lft abd iw : Int32) (ea la we mT mP pa sa ta be fa pq ke ik : Nat → Int32) : Met l yX9_forget [.code yX9_forget cX9_forget 2 (some .int)] rm_X9_forget (PcW D cI cZ [.ref mo] [(mo, .inr (9, [.int tu, .int ga, .int lk, .int stp, .int dbt, .int win, .ref rea, .ref rla, .ref rwe, .ref rst, .ref rsp, .int (nI sn), .ref rpa, .int (nI pn), .int plc, .int mnt, .int lft, .int abd, .ref rsa, .ref rta, .ref rbe, .ref rfa, .ref rpl, .ref rke, .ref rik, .int (nI ka), .int iw])), (rea, .inl (cI, 5, .inl ea)), (rla, .inl (cI, 5, .inl la)), (rwe, .inl (cI, 6, .inl we)), (rst, .inl (cI, 6, .inl mT)), (rsp, .inl (cI, 6, .inl mP)), (rpa, .inl (cI, 60, .inl pa)), (rsa, .inl (cI, 61, .inl sa)), (rta, .inl (cI, 12, .inl ta)), (rbe, .inl (cI, 12, .inl be)), (rfa, .inl (cI, 6, .inl fa)), (rpl, .inl (cI, 60, .inl pq)), (rke, .inl (cI, 100, .inl ke)), (rik, .inl (cZ, 2, .inl ik))]) (QcE D (S := Unit) (some (.int (nI sn))) (fun _ => True) (fun _ => [(mo, .inr (9, [.int tu, .int ga, .int lk, .int stp, .int dbt, .int win, .ref rea, .ref rla, .ref rwe, .ref rst, .ref rsp, .int 0, .ref rpa, .int (nI pn), .int plc, .int mnt, .int lft, .int abd, .ref rsa, .ref rta, .ref rbe, .ref rfa, .ref rpl, .ref rke, .ref rik, .int (nI ka), .int iw])), (rea, .inl (cI, 5, .inl ea)), (rla, .inl (cI, 5, .inl la)), (rwe, .inl (cI, 6, .inl we)), (rst, .inl (cI, 6, .inl mT)), (rsp, .inl (cI, 6, .inl mP)), (rpa, .inl (cI, 60, .inl pa)), (rsa, .inl (cI, 61, .inl sa)), (rta, .inl (cI, 12, .inl ta)), (rbe, .inl (cI, 12, .inl be)), (rfa, .inl (cI, 6, .inl fa)), (rpl, .inl (cI, 60, .inl pq)), (rke, .inl (cI, 100, .inl ke)), (rik, .inl (cZ, 2, .inl ik))]) (zA [(mo, .inr (9, [.int tu, .int ga, .int lk, .int stp, .int dbt, .int win, .ref rea, .ref rla, .ref rwe, .ref rst, .ref rsp, .int (nI sn), .ref rpa, .int (nI pn), .int plc, .int mnt, .int lft, .int abd, .ref rsa, .ref rta, .ref rbe, .ref rfa, .ref rpl, .ref rke, .ref rik, .int (nI ka), .int iw])), (rea, .inl (cI, 5, .inl ea)), (rla, .inl (cI, 5, .inl la)), (rwe, .inl (cI, 6, .inl we)), (rst, .inl (cI, 6, .inl mT)), (rsp, .inl (cI, 6, .inl mP)), (rpa, .inl (cI, 60, .inl pa)), (rsa, .inl (cI, 61, .inl sa)), (rta, .inl (cI, 12, .inl ta)), (rbe, .inl (cI, 12, .inl be)), (rfa, .inl (cI, 6, .inl fa)), (rpl, .inl (cI, 60, .inl pq)), (rke, .inl (cI, 100, .inl ke)), (rik, .inl (cZ, 2, .inl ik))])) 0 0 (zA [(mo, .inr (9, [.int tu, .int ga, .int lk, .int stp, .int dbt, .int win, .ref rea, .ref rla, .ref rwe, .ref rst, .ref rsp, .int (nI sn), .ref rpa, .int (nI pn), .int plc, .int mnt, .int lft, .int abd, .ref rsa, .ref rta, .ref rbe, .ref rfa, .ref rpl, .ref rke, .ref rik, .int (nI ka), .int iw])), (rea, .inl (cI, 5, .inl ea)), (rla, .inl (cI, 5, .inl la)), (rwe, .inl (cI, 6, .inl we)), (rst, .inl (cI, 6, .inl mT)), (rsp, .inl (cI, 6, .inl mP)), (rpa, .inl (cI, 60, .inl pa)), (rsa, .inl (cI, 61, .inl sa)), (rta, .inl (cI, 12, .inl ta)), (rbe, .inl (cI, 12, .inl be)), (rfa, .inl (cI, 6, .inl fa)), (rpl, .inl (cI, 60, .inl pq)), (rke, .inl (cI, 100, .inl ke)), (rik, .inl (cZ, 2, .inl ik))]) := by
  refine mtWi (by decide) (Nat.le_of_ble_eq_true rfl) (fun p e s m args below meth c Q A S hT hP hD hS hret ls hl => ?_)
  have S : CallFix p m c cX9_forget 2 s args zt RX9 := S
  obtain ⟨hx, hb, hml, hown, hts⟩ := id S
  have hl : lv_has ls 2 [(0, .ref mo)] := hl
  refine lv_aload_n hx hb dX9_forget_0 rfl (lv_at hl 0 rfl) ?_
  refine va_get (D := D) (ci := 9) (v := .int (nI sn)) (C := RX9) (T := TX9) (N := 27) hx hb hts in_X9 hown hT.1 hP 0 rfl rfl 11 (by decide) (hts _ fl_RX9_214) (fun _ h9 => h9) rfl dX9_forget_1 ?_
  refine lv_istore_n (lv' := [(1, .int (nI sn)), (0, .ref mo)]) hx hb dX9_forget_4 rfl hl (by decide) rfl (fun ls hl => ?_)
  refine lv_aload_n hx hb dX9_forget_5 rfl (lv_at hl 1 rfl) ?_
  refine lv_iconst (v := 0) hx hb dX9_forget_6 (by decide) ?_
  refine va_put (D := D) (ci := 9) (v := .int 0) (ty := .int) (C := RX9) (T := TX9) (N := 27) hx hb hts in_X9 tyX9 tyX9_ok nmX9 hown hT.1 hP hD hS 0 rfl rfl 11 (by decide) (hts _ fl_RX9_214) (fun _ h9 => h9) rfl (by decide +kernel) rfl rfl (Nat.le_of_ble_eq_true rfl) dX9_forget_7 (fun H locs hP hD hS => ?_)
  have hP : va_P D vwCl [(mo, .inr (9, [.int tu, .int ga, .int lk, .int stp, .int dbt, .int win, .ref rea, .ref rla, .ref rwe, .ref rst, .ref rsp, .int 0, .ref rpa, .int (nI pn), .int plc, .int mnt, .int lft, .int abd, .ref rsa, .ref rta, .ref rbe, .ref rfa, .ref rpl, .ref rke, .ref rik, .int (nI ka), .int iw])), (rea, .inl (cI, 5, .inl ea)), (rla, .inl (cI, 5, .inl la)), (rwe, .inl (cI, 6, .inl we)), (rst, .inl (cI, 6, .inl mT)), (rsp, .inl (cI, 6, .inl mP)), (rpa, .inl (cI, 60, .inl pa)), (rsa, .inl (cI, 61, .inl sa)), (rta, .inl (cI, 12, .inl ta)), (rbe, .inl (cI, 12, .inl be)), (rfa, .inl (cI, 6, .inl fa)), (rpl, .inl (cI, 60, .inl pq)), (rke, .inl (cI, 100, .inl ke)), (rik, .inl (cZ, 2, .inl ik))] H := hP
  have hD : va_D A [(mo, .inr (9, [.int tu, .int ga, .int lk, .int stp, .int dbt, .int win, .ref rea, .ref rla, .ref rwe, .ref rst, .ref rsp, .int 0, .ref rpa, .int (nI pn), .int plc, .int mnt, .int lft, .int abd, .ref rsa, .ref rta, .ref rbe, .ref rfa, .ref rpl, .ref rke, .ref rik, .int (nI ka), .int iw])), (rea, .inl (cI, 5, .inl ea)), (rla, .inl (cI, 5, .inl la)), (rwe, .inl (cI, 6, .inl we)), (rst, .inl (cI, 6, .inl mT)), (rsp, .inl (cI, 6, .inl mP)), (rpa, .inl (cI, 60, .inl pa)), (rsa, .inl (cI, 61, .inl sa)), (rta, .inl (cI, 12, .inl ta)), (rbe, .inl (cI, 12, .inl be)), (rfa, .inl (cI, 6, .inl fa)), (rpl, .inl (cI, 60, .inl pq)), (rke, .inl (cI, 100, .inl ke)), (rik, .inl (cZ, 2, .inl ik))] := hD
  refine lv_iload_n hx hb dX9_forget_10 rfl (lv_at hl 0 rfl) ?_
  exact hret _ _ _ H locs () dX9_forget_11 rfl trivial hP hS
def lp_X9_sevens_4 (n : Nat) : Nat → Nat → Int32 → Int32
  | 0, _, x1_4 => x1_4
  | fu + 1, k, x1_4 => if nI n ≤ nI k then x1_4 else lp_X9_sevens_4 n fu (k + 1) (x1_4 * 7)
theorem zsev_q (n : Nat) (hn : n ≤ 12) : ∀ q k x, k ≤ n → n - k < q → x = nI (7 ^ k) → lp_X9_sevens_4 n q k x = nI (7 ^ n) := by
  intro q
  induction q with
  | zero => intro k x _ h; exact absurd h (Nat.not_lt_zero _)
  | succ q ih =>
    intro k x hk hq hx
    rw [lp_X9_sevens_4]
    by_cases c : nI n ≤ nI k
    · have := zNle c (by omega) (by omega)
      rw [if_pos c, hx, show k = n by omega]
    · have := zNnle c (by omega) (by omega)
      rw [if_neg c]
      refine ih (k + 1) _ (by omega) (by omega) ?_
      rw [hx, Nat.pow_succ, ← pk_mul]
      rfl
abbrev rm_X9_sevens : Room := { frames := 0, cells := 0, slots := 0, locals := 0 }
set_option maxRecDepth 100000 in
set_option maxHeartbeats 4000000 in
theorem c_X9_sevens (l : Launch) (D : va_G) (cI cZ : ClassId) (n : Nat) (hn : n ≤ 12) : Met l yX9_sevens [.code yX9_sevens cX9_sevens 3 (some .int)] rm_X9_sevens (PcR D cI cZ [.int (nI n)] []) (QcR (some (.int (nI (7 ^ n))))) 0 0 zN := by
  refine mtRi (by decide) (Nat.le_of_ble_eq_true rfl) (fun p e s m args below meth c Q S hT hP hret ls hl => ?_)
  have S : CallFix p m c cX9_sevens 3 s args zt RX9 := S
  obtain ⟨hx, hb, hml, hown, hts⟩ := id S
  have hl : lv_has ls 3 [(0, .int (nI n))] := hl
  refine lv_iconst (v := 1) hx hb dX9_sevens_0 (by decide) ?_
  refine lv_istore_n (lv' := [(1, .int 1), (0, .int (nI n))]) hx hb dX9_sevens_1 rfl hl (by decide) rfl (fun ls hl => ?_)
  refine lv_iconst (v := 0) hx hb dX9_sevens_2 (by decide) ?_
  refine lv_istore_n (lv' := [(2, .int 0), (1, .int 1), (0, .int (nI n))]) hx hb dX9_sevens_3 rfl hl (by decide) rfl (fun ls hl => ?_)
  have X2 : ∀ (y1 : Int32), (lp_X9_sevens_4 n (n + 1) 0 1) = y1 → ∀ (ls : Array Slot), lv_has ls 3 [(0, .int (nI n)), (1, .int y1)] → W p l e rm_X9_sevens s m args below meth c s.heap [] 0 0 Q (F0 m 20 ls []) := by
    intro y1 ey1 ls hl
    subst ey1
    refine lv_iload_n hx hb dX9_sevens_20 rfl (lv_at hl 1 rfl) ?_
    exact hret _ _ _ dX9_sevens_21 (zsev_q n hn (n + 1) 0 1 (Nat.zero_le _) (by omega) rfl)
  have L3 : ∀ (n6 : Nat) (k : Nat) (x1_4 : Int32), n - k < n6 → (k ≤ n) → lp_X9_sevens_4 n n6 k x1_4 = lp_X9_sevens_4 n (n + 1) 0 1 → ∀ (ls : Array Slot), lv_has ls 3 [(0, .int (nI n)), (1, .int x1_4), (2, .int (nI k))] → W p l e rm_X9_sevens s m args below meth c s.heap [] 0 0 Q (F0 m 4 ls []) := by
    intro n6
    induction n6 with
    | zero => intro k x1_4 hm; exact absurd hm (Nat.not_lt_zero _)
    | succ n6 ih5 =>
      intro k x1_4 hm7 hk hv4 ls hl
      refine lv_iload_n hx hb dX9_sevens_4 rfl (lv_at hl 2 rfl) ?_
      refine lv_iload_n hx hb dX9_sevens_5 rfl (lv_at hl 0 rfl) ?_
      refine lv_icmp_ge (tgt := 20) hx hb dX9_sevens_6 (by decide) (fun c8 => ?_) (fun c8 => ?_)
      · have nc8 := zNle (a := n) (b := k) c8 (by omega) (by omega)
        exact X2 _ (by rw [← hv4, lp_X9_sevens_4, if_pos c8]) ls (lv_sub hl [0, 1] rfl)
      · have nc8 := zNnle (a := n) (b := k) c8 (by omega) (by omega)
        refine lv_iload_n hx hb dX9_sevens_9 rfl (lv_at hl 1 rfl) ?_
        refine lv_bipush (v := 7) hx hb dX9_sevens_10 (by decide) ?_
        refine lv_imul hx hb dX9_sevens_12 ?_
        refine lv_istore_n (lv' := [(1, .int (x1_4 * 7)), (0, .int (nI n)), (2, .int (nI k))]) hx hb dX9_sevens_13 rfl hl (by decide) rfl (fun ls hl => ?_)
        refine lv_iinc (v := nI (k + 1)) (lv' := [(2, .int (nI (k + 1))), (1, .int (x1_4 * 7)), (0, .int (nI n))]) hx hb dX9_sevens_14 hl (k := 2) rfl (nI_1 k) (by decide) rfl (fun ls hl => ?_)
        refine lv_goto (tgt := 4) hx hb dX9_sevens_17 (by decide) ?_
        exact ih5 (k + 1) (x1_4 * 7) (by omega) (by omega) (by rw [← hv4, lp_X9_sevens_4, if_neg c8]) ls (lv_sub hl [2, 1, 0] rfl)
  exact L3 (n + 1) 0 1 (by omega) (by omega) rfl ls (lv_sub hl [2, 1, 0] rfl)
def lp_X9_goMinutes_7 (tu : Int32) (lk : Int32) (stp : Int32) (abd : Int32) (ea : Nat → Int32) (la : Nat → Int32) (we : Nat → Int32) : Nat → Nat → Int32 → Int32 → Int32 → Int32 × Int32 × Int32
  | 0, _, y0_14_7, y0_15_7, y0_16_7 => (y0_14_7, y0_15_7, y0_16_7)
  | fu + 1, k, y0_14_7, y0_15_7, y0_16_7 => if nI k ≤ 0 then (y0_14_7, y0_15_7, y0_16_7) else lp_X9_goMinutes_7 tu lk stp abd ea la we fu (k - 1) (y0_14_7 + ((if tu ≤ y0_15_7 then la (s_X9_height stp y0_16_7 abd we).toNatClampNeg else ea (s_X9_height stp y0_16_7 abd we).toNatClampNeg) : Int32)) (y0_15_7 + 1) ((if y0_16_7 ≤ lk then 0 else y0_16_7 - lk) : Int32)
abbrev rm_X9_goMinutes : Room := { frames := 2, cells := 0, slots := 0, locals := 42 }
set_option maxRecDepth 100000 in
set_option maxHeartbeats 4000000 in
theorem c_X9_goMinutes (l : Launch) (D : va_G) (cI cZ : ClassId) (mo rea rla rwe rst rsp rpa rsa rta rbe rfa rpl rke rik sn pn ka : Nat) (tu ga lk stp dbt win plc mnt lft abd iw : Int32) (ea la we mT mP pa sa ta be fa pq ke ik : Nat → Int32) (hpn : pn ≤ 60) (hstp : 1 ≤ stp) : Met l yX9_goMinutes [.code yX9_goMinutes cX9_goMinutes 2 none] rm_X9_goMinutes (PcW D cI cZ [.ref mo] [(mo, .inr (9, [.int tu, .int ga, .int lk, .int stp, .int dbt, .int win, .ref rea, .ref rla, .ref rwe, .ref rst, .ref rsp, .int (nI sn), .ref rpa, .int (nI pn), .int plc, .int mnt, .int lft, .int abd, .ref rsa, .ref rta, .ref rbe, .ref rfa, .ref rpl, .ref rke, .ref rik, .int (nI ka), .int iw])), (rea, .inl (cI, 5, .inl ea)), (rla, .inl (cI, 5, .inl la)), (rwe, .inl (cI, 6, .inl we)), (rst, .inl (cI, 6, .inl mT)), (rsp, .inl (cI, 6, .inl mP)), (rpa, .inl (cI, 60, .inl pa)), (rsa, .inl (cI, 61, .inl sa)), (rta, .inl (cI, 12, .inl ta)), (rbe, .inl (cI, 12, .inl be)), (rfa, .inl (cI, 6, .inl fa)), (rpl, .inl (cI, 60, .inl pq)), (rke, .inl (cI, 100, .inl ke)), (rik, .inl (cZ, 2, .inl ik))]) (QcE D (S := Unit) none (fun _ => True) (fun _ => [(mo, .inr (9, [.int tu, .int ga, .int lk, .int stp, .int dbt, .int win, .ref rea, .ref rla, .ref rwe, .ref rst, .ref rsp, .int (nI sn), .ref rpa, .int (nI pn), .int ((lp_X9_goMinutes_7 tu lk stp abd ea la we (zct 46 pa pn + 1) (zct 46 pa pn) plc mnt lft).1), .int ((lp_X9_goMinutes_7 tu lk stp abd ea la we (zct 46 pa pn + 1) (zct 46 pa pn) plc mnt lft).2.1), .int ((lp_X9_goMinutes_7 tu lk stp abd ea la we (zct 46 pa pn + 1) (zct 46 pa pn) plc mnt lft).2.2), .int abd, .ref rsa, .ref rta, .ref rbe, .ref rfa, .ref rpl, .ref rke, .ref rik, .int (nI ka), .int iw])), (rea, .inl (cI, 5, .inl ea)), (rla, .inl (cI, 5, .inl la)), (rwe, .inl (cI, 6, .inl we)), (rst, .inl (cI, 6, .inl mT)), (rsp, .inl (cI, 6, .inl mP)), (rpa, .inl (cI, 60, .inl pa)), (rsa, .inl (cI, 61, .inl sa)), (rta, .inl (cI, 12, .inl ta)), (rbe, .inl (cI, 12, .inl be)), (rfa, .inl (cI, 6, .inl fa)), (rpl, .inl (cI, 60, .inl pq)), (rke, .inl (cI, 100, .inl ke)), (rik, .inl (cZ, 2, .inl ik))]) (zA [(mo, .inr (9, [.int tu, .int ga, .int lk, .int stp, .int dbt, .int win, .ref rea, .ref rla, .ref rwe, .ref rst, .ref rsp, .int (nI sn), .ref rpa, .int (nI pn), .int plc, .int mnt, .int lft, .int abd, .ref rsa, .ref rta, .ref rbe, .ref rfa, .ref rpl, .ref rke, .ref rik, .int (nI ka), .int iw])), (rea, .inl (cI, 5, .inl ea)), (rla, .inl (cI, 5, .inl la)), (rwe, .inl (cI, 6, .inl we)), (rst, .inl (cI, 6, .inl mT)), (rsp, .inl (cI, 6, .inl mP)), (rpa, .inl (cI, 60, .inl pa)), (rsa, .inl (cI, 61, .inl sa)), (rta, .inl (cI, 12, .inl ta)), (rbe, .inl (cI, 12, .inl be)), (rfa, .inl (cI, 6, .inl fa)), (rpl, .inl (cI, 60, .inl pq)), (rke, .inl (cI, 100, .inl ke)), (rik, .inl (cZ, 2, .inl ik))])) 0 0 (zA [(mo, .inr (9, [.int tu, .int ga, .int lk, .int stp, .int dbt, .int win, .ref rea, .ref rla, .ref rwe, .ref rst, .ref rsp, .int (nI sn), .ref rpa, .int (nI pn), .int plc, .int mnt, .int lft, .int abd, .ref rsa, .ref rta, .ref rbe, .ref rfa, .ref rpl, .ref rke, .ref rik, .int (nI ka), .int iw])), (rea, .inl (cI, 5, .inl ea)), (rla, .inl (cI, 5, .inl la)), (rwe, .inl (cI, 6, .inl we)), (rst, .inl (cI, 6, .inl mT)), (rsp, .inl (cI, 6, .inl mP)), (rpa, .inl (cI, 60, .inl pa)), (rsa, .inl (cI, 61, .inl sa)), (rta, .inl (cI, 12, .inl ta)), (rbe, .inl (cI, 12, .inl be)), (rfa, .inl (cI, 6, .inl fa)), (rpl, .inl (cI, 60, .inl pq)), (rke, .inl (cI, 100, .inl ke)), (rik, .inl (cZ, 2, .inl ik))]) := by
  refine mtWv (by decide) (Nat.le_of_ble_eq_true rfl) (fun p e s m args below meth c Q A S hT hP hD hS hret ls hl => ?_)
  have S : CallFix p m c cX9_goMinutes 2 s args zt RX9 := S
  obtain ⟨hx, hb, hml, hown, hts⟩ := id S
  have hl : lv_has ls 2 [(0, .ref mo)] := hl
  have hz46 := zct_le 46 pa pn
  refine lv_aload_n hx hb dX9_goMinutes_0 rfl (lv_at hl 0 rfl) ?_
  refine lv_bipush (v := 46) hx hb dX9_goMinutes_1 (by decide) ?_
  refine kRV (q0 := 0) (st1 := [.int (nI (zct 46 pa pn))]) S hT hP (c_X9_countOf l D cI cZ mo rea rla rwe rst rsp rpa rsa rta rbe rfa rpl rke rik sn pn ka tu ga lk stp dbt win plc mnt lft abd iw ea la we mT mP pa sa ta be fa pq ke ik 46 (by first | assumption | decide | omega)) rfl rfl mw_X9_countOf lk_RX9_133 ⟨rfl, rfl, (Nat.le_of_ble_eq_true rfl), (Nat.le_of_ble_eq_true rfl), (Nat.le_of_ble_eq_true rfl), (Nat.le_of_ble_eq_true rfl)⟩ [0, 1, 2, 3, 4, 5, 6, 7, 8, 9, 10, 11, 12, 13] rfl rfl rfl hl.1 (Nat.le_of_ble_eq_true rfl) dX9_goMinutes_3 ?_
  refine lv_istore_n (lv' := [(1, .int (nI (zct 46 pa pn))), (0, .ref mo)]) hx hb dX9_goMinutes_6 rfl hl (by decide) rfl (fun ls hl => ?_)
  have X4 : ∀ (y1 : Int32) (y2 : Int32) (y3 : Int32), ((lp_X9_goMinutes_7 tu lk stp abd ea la we (zct 46 pa pn + 1) (zct 46 pa pn) plc mnt lft).1) = y1 → ((lp_X9_goMinutes_7 tu lk stp abd ea la we (zct 46 pa pn + 1) (zct 46 pa pn) plc mnt lft).2.1) = y2 → ((lp_X9_goMinutes_7 tu lk stp abd ea la we (zct 46 pa pn + 1) (zct 46 pa pn) plc mnt lft).2.2) = y3 → ∀ (ls : Array Slot), lv_has ls 2 [(0, .ref mo)] → ∀ (H : Heap) (locs : List Loc), va_P D vwCl [(mo, .inr (9, [.int tu, .int ga, .int lk, .int stp, .int dbt, .int win, .ref rea, .ref rla, .ref rwe, .ref rst, .ref rsp, .int (nI sn), .ref rpa, .int (nI pn), .int y1, .int y2, .int y3, .int abd, .ref rsa, .ref rta, .ref rbe, .ref rfa, .ref rpl, .ref rke, .ref rik, .int (nI ka), .int iw])), (rea, .inl (cI, 5, .inl ea)), (rla, .inl (cI, 5, .inl la)), (rwe, .inl (cI, 6, .inl we)), (rst, .inl (cI, 6, .inl mT)), (rsp, .inl (cI, 6, .inl mP)), (rpa, .inl (cI, 60, .inl pa)), (rsa, .inl (cI, 61, .inl sa)), (rta, .inl (cI, 12, .inl ta)), (rbe, .inl (cI, 12, .inl be)), (rfa, .inl (cI, 6, .inl fa)), (rpl, .inl (cI, 60, .inl pq)), (rke, .inl (cI, 100, .inl ke)), (rik, .inl (cZ, 2, .inl ik))] H → va_D A [(mo, .inr (9, [.int tu, .int ga, .int lk, .int stp, .int dbt, .int win, .ref rea, .ref rla, .ref rwe, .ref rst, .ref rsp, .int (nI sn), .ref rpa, .int (nI pn), .int y1, .int y2, .int y3, .int abd, .ref rsa, .ref rta, .ref rbe, .ref rfa, .ref rpl, .ref rke, .ref rik, .int (nI ka), .int iw])), (rea, .inl (cI, 5, .inl ea)), (rla, .inl (cI, 5, .inl la)), (rwe, .inl (cI, 6, .inl we)), (rst, .inl (cI, 6, .inl mT)), (rsp, .inl (cI, 6, .inl mP)), (rpa, .inl (cI, 60, .inl pa)), (rsa, .inl (cI, 61, .inl sa)), (rta, .inl (cI, 12, .inl ta)), (rbe, .inl (cI, 12, .inl be)), (rfa, .inl (cI, 6, .inl fa)), (rpl, .inl (cI, 60, .inl pq)), (rke, .inl (cI, 100, .inl ke)), (rik, .inl (cZ, 2, .inl ik))] → va_S A s.heap H locs → W p l e rm_X9_goMinutes s m args below meth c H locs 0 0 Q (F0 m 21 ls []) := by
    intro y1 y2 y3 ey1 ey2 ey3 ls hl H locs hP hD hS
    subst ey1 ey2 ey3
    exact hret _ _ H locs () dX9_goMinutes_21  trivial hP hS
  have L5 : ∀ (n8 : Nat) (k : Nat) (y0_14_7 : Int32) (y0_15_7 : Int32) (y0_16_7 : Int32), k < n8 → (k ≤ 60) → lp_X9_goMinutes_7 tu lk stp abd ea la we n8 k y0_14_7 y0_15_7 y0_16_7 = lp_X9_goMinutes_7 tu lk stp abd ea la we (zct 46 pa pn + 1) (zct 46 pa pn) plc mnt lft → ∀ (ls : Array Slot), lv_has ls 2 [(0, .ref mo), (1, .int (nI k))] → ∀ (H : Heap) (locs : List Loc), va_P D vwCl [(mo, .inr (9, [.int tu, .int ga, .int lk, .int stp, .int dbt, .int win, .ref rea, .ref rla, .ref rwe, .ref rst, .ref rsp, .int (nI sn), .ref rpa, .int (nI pn), .int y0_14_7, .int y0_15_7, .int y0_16_7, .int abd, .ref rsa, .ref rta, .ref rbe, .ref rfa, .ref rpl, .ref rke, .ref rik, .int (nI ka), .int iw])), (rea, .inl (cI, 5, .inl ea)), (rla, .inl (cI, 5, .inl la)), (rwe, .inl (cI, 6, .inl we)), (rst, .inl (cI, 6, .inl mT)), (rsp, .inl (cI, 6, .inl mP)), (rpa, .inl (cI, 60, .inl pa)), (rsa, .inl (cI, 61, .inl sa)), (rta, .inl (cI, 12, .inl ta)), (rbe, .inl (cI, 12, .inl be)), (rfa, .inl (cI, 6, .inl fa)), (rpl, .inl (cI, 60, .inl pq)), (rke, .inl (cI, 100, .inl ke)), (rik, .inl (cZ, 2, .inl ik))] H → va_D A [(mo, .inr (9, [.int tu, .int ga, .int lk, .int stp, .int dbt, .int win, .ref rea, .ref rla, .ref rwe, .ref rst, .ref rsp, .int (nI sn), .ref rpa, .int (nI pn), .int y0_14_7, .int y0_15_7, .int y0_16_7, .int abd, .ref rsa, .ref rta, .ref rbe, .ref rfa, .ref rpl, .ref rke, .ref rik, .int (nI ka), .int iw])), (rea, .inl (cI, 5, .inl ea)), (rla, .inl (cI, 5, .inl la)), (rwe, .inl (cI, 6, .inl we)), (rst, .inl (cI, 6, .inl mT)), (rsp, .inl (cI, 6, .inl mP)), (rpa, .inl (cI, 60, .inl pa)), (rsa, .inl (cI, 61, .inl sa)), (rta, .inl (cI, 12, .inl ta)), (rbe, .inl (cI, 12, .inl be)), (rfa, .inl (cI, 6, .inl fa)), (rpl, .inl (cI, 60, .inl pq)), (rke, .inl (cI, 100, .inl ke)), (rik, .inl (cZ, 2, .inl ik))] → va_S A s.heap H locs → W p l e rm_X9_goMinutes s m args below meth c H locs 0 0 Q (F0 m 7 ls []) := by
    intro n8
    induction n8 with
    | zero => intro k y0_14_7 y0_15_7 y0_16_7 hm; exact absurd hm (Nat.not_lt_zero _)
    | succ n8 ih7 =>
      intro k y0_14_7 y0_15_7 y0_16_7 hm9 hk hv6 ls hl H locs hP hD hS
      refine lv_iload_n hx hb dX9_goMinutes_7 rfl (lv_at hl 1 rfl) ?_
      refine lv_if_le (tgt := 21) hx hb dX9_goMinutes_8 (by decide) (fun c10 => ?_) (fun c10 => ?_)
      · have nc10 := zNle (a := k) (b := 0) c10 (by omega) (by omega)
        exact X4 _ _ _ (by rw [← hv6, lp_X9_goMinutes_7, if_pos c10]) (by rw [← hv6, lp_X9_goMinutes_7, if_pos c10]) (by rw [← hv6, lp_X9_goMinutes_7, if_pos c10]) ls (lv_sub hl [0] rfl) H locs hP hD hS
      · have nc10 := zNnle (a := k) (b := 0) c10 (by omega) (by omega)
        refine lv_aload_n hx hb dX9_goMinutes_11 rfl (lv_at hl 0 rfl) ?_
        refine kEV (q0 := 0) (st1 := []) S hT hP hD hS (c_X9_drift l D cI cZ mo rea rla rwe rst rsp rpa rsa rta rbe rfa rpl rke rik sn pn ka tu ga lk stp dbt win y0_14_7 y0_15_7 y0_16_7 abd iw ea la we mT mP pa sa ta be fa pq ke ik (by first | assumption | decide | omega)) rfl rfl mw_X9_drift lk_RX9_121 ⟨rfl, rfl, (Nat.le_of_ble_eq_true rfl), (Nat.le_of_ble_eq_true rfl), (Nat.le_of_ble_eq_true rfl), (Nat.le_of_ble_eq_true rfl)⟩ [0, 1, 2, 3, 4, 5, 6, 7, 8, 9, 10, 11, 12, 13] [mo, rea, rla, rwe, rst, rsp, rpa, rsa, rta, rbe, rfa, rpl, rke, rik] (by decide) rfl rfl (fun _ => rfl) rfl rfl hl.1 (Nat.le_of_ble_eq_true rfl) dX9_goMinutes_12 (fun _ H locs _ hP hD hS => ?_)
        have hP : va_P D vwCl [(mo, .inr (9, [.int tu, .int ga, .int lk, .int stp, .int dbt, .int win, .ref rea, .ref rla, .ref rwe, .ref rst, .ref rsp, .int (nI sn), .ref rpa, .int (nI pn), .int (y0_14_7 + ((if tu ≤ y0_15_7 then la (s_X9_height stp y0_16_7 abd we).toNatClampNeg else ea (s_X9_height stp y0_16_7 abd we).toNatClampNeg) : Int32)), .int (y0_15_7 + 1), .int ((if y0_16_7 ≤ lk then 0 else y0_16_7 - lk) : Int32), .int abd, .ref rsa, .ref rta, .ref rbe, .ref rfa, .ref rpl, .ref rke, .ref rik, .int (nI ka), .int iw])), (rea, .inl (cI, 5, .inl ea)), (rla, .inl (cI, 5, .inl la)), (rwe, .inl (cI, 6, .inl we)), (rst, .inl (cI, 6, .inl mT)), (rsp, .inl (cI, 6, .inl mP)), (rpa, .inl (cI, 60, .inl pa)), (rsa, .inl (cI, 61, .inl sa)), (rta, .inl (cI, 12, .inl ta)), (rbe, .inl (cI, 12, .inl be)), (rfa, .inl (cI, 6, .inl fa)), (rpl, .inl (cI, 60, .inl pq)), (rke, .inl (cI, 100, .inl ke)), (rik, .inl (cZ, 2, .inl ik))] H := hP
        have hD : va_D A [(mo, .inr (9, [.int tu, .int ga, .int lk, .int stp, .int dbt, .int win, .ref rea, .ref rla, .ref rwe, .ref rst, .ref rsp, .int (nI sn), .ref rpa, .int (nI pn), .int (y0_14_7 + ((if tu ≤ y0_15_7 then la (s_X9_height stp y0_16_7 abd we).toNatClampNeg else ea (s_X9_height stp y0_16_7 abd we).toNatClampNeg) : Int32)), .int (y0_15_7 + 1), .int ((if y0_16_7 ≤ lk then 0 else y0_16_7 - lk) : Int32), .int abd, .ref rsa, .ref rta, .ref rbe, .ref rfa, .ref rpl, .ref rke, .ref rik, .int (nI ka), .int iw])), (rea, .inl (cI, 5, .inl ea)), (rla, .inl (cI, 5, .inl la)), (rwe, .inl (cI, 6, .inl we)), (rst, .inl (cI, 6, .inl mT)), (rsp, .inl (cI, 6, .inl mP)), (rpa, .inl (cI, 60, .inl pa)), (rsa, .inl (cI, 61, .inl sa)), (rta, .inl (cI, 12, .inl ta)), (rbe, .inl (cI, 12, .inl be)), (rfa, .inl (cI, 6, .inl fa)), (rpl, .inl (cI, 60, .inl pq)), (rke, .inl (cI, 100, .inl ke)), (rik, .inl (cZ, 2, .inl ik))] := hD
        refine lv_iinc (v := nI (k - 1)) (lv' := [(1, .int (nI (k - 1))), (0, .ref mo)]) hx hb dX9_goMinutes_15 hl (k := 1) rfl (zpred (by omega)) (by decide) rfl (fun ls hl => ?_)
        refine lv_goto (tgt := 7) hx hb dX9_goMinutes_18 (by decide) ?_
        exact ih7 (k - 1) (y0_14_7 + ((if tu ≤ y0_15_7 then la (s_X9_height stp y0_16_7 abd we).toNatClampNeg else ea (s_X9_height stp y0_16_7 abd we).toNatClampNeg) : Int32)) (y0_15_7 + 1) ((if y0_16_7 ≤ lk then 0 else y0_16_7 - lk) : Int32) (by omega) (by omega) (by rw [← hv6, lp_X9_goMinutes_7, if_neg c10]) ls (lv_sub hl [1, 0] rfl) H locs hP hD hS
  exact L5 (zct 46 pa pn + 1) (zct 46 pa pn) plc mnt lft (by omega) (by omega) rfl ls (lv_sub hl [1, 0] rfl) s.heap [] hP hD hS
def lp_X9_allWays_9 : Nat → Nat → Int64 → Int64
  | 0, _, x1_9 => x1_9
  | fu + 1, k, x1_9 => if nI k ≤ 0 then x1_9 else lp_X9_allWays_9 fu (k - 1) (x1_9 * 10)
theorem zaw_q : ∀ q k j, k < q → k ≤ 60 → ∀ {x}, x = lN (10 ^ j) → lp_X9_allWays_9 q k x = lN (10 ^ (j + k)) := by
  intro q
  induction q with
  | zero => intro k j h; exact absurd h (Nat.not_lt_zero _)
  | succ q ih =>
    intro k j hk h60 x hx
    rw [lp_X9_allWays_9]
    by_cases c : nI k ≤ 0
    · have := zNle (b := 0) c (by omega) (by decide)
      rw [if_pos c, hx, show k = 0 by omega, Nat.add_zero]
    · have := zNnle (b := 0) c (by omega) (by decide)
      rw [if_neg c, ih (k - 1) (j + 1) (by omega) (by omega) (by rw [hx, Nat.pow_succ, ← lN_mul]; rfl), show j + 1 + (k - 1) = j + k by omega]
abbrev rm_X9_allWays : Room := { frames := 1, cells := 0, slots := 0, locals := 23 }
set_option maxRecDepth 100000 in
set_option maxHeartbeats 4000000 in
theorem c_X9_allWays (l : Launch) (D : va_G) (cI cZ : ClassId) (mo rea rla rwe rst rsp rpa rsa rta rbe rfa rpl rke rik sn pn ka : Nat) (tu ga lk stp dbt win plc mnt lft abd iw : Int32) (ea la we mT mP pa sa ta be fa pq ke ik : Nat → Int32) (hpn : pn ≤ 60) : Met l yX9_allWays [.code yX9_allWays cX9_allWays 4 (some .long)] rm_X9_allWays (PcR D cI cZ [.ref mo] [(mo, .inr (9, [.int tu, .int ga, .int lk, .int stp, .int dbt, .int win, .ref rea, .ref rla, .ref rwe, .ref rst, .ref rsp, .int (nI sn), .ref rpa, .int (nI pn), .int plc, .int mnt, .int lft, .int abd, .ref rsa, .ref rta, .ref rbe, .ref rfa, .ref rpl, .ref rke, .ref rik, .int (nI ka), .int iw])), (rea, .inl (cI, 5, .inl ea)), (rla, .inl (cI, 5, .inl la)), (rwe, .inl (cI, 6, .inl we)), (rst, .inl (cI, 6, .inl mT)), (rsp, .inl (cI, 6, .inl mP)), (rpa, .inl (cI, 60, .inl pa)), (rsa, .inl (cI, 61, .inl sa)), (rta, .inl (cI, 12, .inl ta)), (rbe, .inl (cI, 12, .inl be)), (rfa, .inl (cI, 6, .inl fa)), (rpl, .inl (cI, 60, .inl pq)), (rke, .inl (cI, 100, .inl ke)), (rik, .inl (cZ, 2, .inl ik))]) (QcR (some (.long (lN (10 ^ zct 33 pa pn))))) 0 0 zN := by
  refine mtRl (by decide) (Nat.le_of_ble_eq_true rfl) (fun p e s m args below meth c Q S hT hP hret ls hl => ?_)
  have S : CallFix p m c cX9_allWays 4 s args zt RX9 := S
  obtain ⟨hx, hb, hml, hown, hts⟩ := id S
  have hl : lv_has ls 4 [(0, .ref mo)] := hl
  have hz33 := zct_le 33 pa pn
  refine lv_lconst (v := 1) hx hb dX9_allWays_0 (by decide) ?_
  refine lv_lstore_n (lv' := [(1, .long 1), (0, .ref mo)]) hx hb dX9_allWays_1 rfl hl (by decide) rfl (fun ls hl => ?_)
  refine lv_aload_n hx hb dX9_allWays_2 rfl (lv_at hl 1 rfl) ?_
  refine lv_bipush (v := 33) hx hb dX9_allWays_3 (by decide) ?_
  refine kRV (q0 := 0) (st1 := [.int (nI (zct 33 pa pn))]) S hT hP (c_X9_countOf l D cI cZ mo rea rla rwe rst rsp rpa rsa rta rbe rfa rpl rke rik sn pn ka tu ga lk stp dbt win plc mnt lft abd iw ea la we mT mP pa sa ta be fa pq ke ik 33 (by first | assumption | decide | omega)) rfl rfl mw_X9_countOf lk_RX9_133 ⟨rfl, rfl, (Nat.le_of_ble_eq_true rfl), (Nat.le_of_ble_eq_true rfl), (Nat.le_of_ble_eq_true rfl), (Nat.le_of_ble_eq_true rfl)⟩ [0, 1, 2, 3, 4, 5, 6, 7, 8, 9, 10, 11, 12, 13] rfl rfl rfl hl.1 (Nat.le_of_ble_eq_true rfl) dX9_allWays_5 ?_
  refine lv_istore_n (lv' := [(3, .int (nI (zct 33 pa pn))), (1, .long 1), (0, .ref mo)]) hx hb dX9_allWays_8 rfl hl (by decide) rfl (fun ls hl => ?_)
  have X2 : ∀ (y1 : Int64), (lp_X9_allWays_9 (zct 33 pa pn + 1) (zct 33 pa pn) 1) = y1 → ∀ (ls : Array Slot), lv_has ls 4 [(0, .ref mo), (1, .long y1)] → W p l e rm_X9_allWays s m args below meth c s.heap [] 0 0 Q (F0 m 25 ls []) := by
    intro y1 ey1 ls hl
    subst ey1
    refine lv_lload_n hx hb dX9_allWays_25 rfl (lv_at hl 1 rfl) ?_
    exact hret _ _ _ dX9_allWays_26 ((zaw_q (zct 33 pa pn + 1) (zct 33 pa pn) 0 (by omega) (by omega) rfl).trans (by rw [Nat.zero_add]))
  have L3 : ∀ (n6 : Nat) (k : Nat) (x1_9 : Int64), k < n6 → (k ≤ 60) → lp_X9_allWays_9 n6 k x1_9 = lp_X9_allWays_9 (zct 33 pa pn + 1) (zct 33 pa pn) 1 → ∀ (ls : Array Slot), lv_has ls 4 [(0, .ref mo), (1, .long x1_9), (3, .int (nI k))] → W p l e rm_X9_allWays s m args below meth c s.heap [] 0 0 Q (F0 m 9 ls []) := by
    intro n6
    induction n6 with
    | zero => intro k x1_9 hm; exact absurd hm (Nat.not_lt_zero _)
    | succ n6 ih5 =>
      intro k x1_9 hm7 hk hv4 ls hl
      refine lv_iload_n hx hb dX9_allWays_9 rfl (lv_at hl 2 rfl) ?_
      refine lv_if_le (tgt := 25) hx hb dX9_allWays_10 (by decide) (fun c8 => ?_) (fun c8 => ?_)
      · have nc8 := zNle (a := k) (b := 0) c8 (by omega) (by omega)
        exact X2 _ (by rw [← hv4, lp_X9_allWays_9, if_pos c8]) ls (lv_sub hl [0, 1] rfl)
      · have nc8 := zNnle (a := k) (b := 0) c8 (by omega) (by omega)
        refine lv_lload_n hx hb dX9_allWays_13 rfl (lv_at hl 1 rfl) ?_
        refine lv_ldc2 (v := 10) hx hb hown (hts _ ct_RX9_196) dX9_allWays_14 ?_
        refine lv_lmul hx hb dX9_allWays_17 ?_
        refine lv_lstore_n (lv' := [(1, .long (x1_9 * 10)), (0, .ref mo), (3, .int (nI k))]) hx hb dX9_allWays_18 rfl hl (by decide) rfl (fun ls hl => ?_)
        refine lv_iinc (v := nI (k - 1)) (lv' := [(3, .int (nI (k - 1))), (1, .long (x1_9 * 10)), (0, .ref mo)]) hx hb dX9_allWays_19 hl (k := 2) rfl (zpred (by omega)) (by decide) rfl (fun ls hl => ?_)
        refine lv_goto (tgt := 9) hx hb dX9_allWays_22 (by decide) ?_
        exact ih5 (k - 1) (x1_9 * 10) (by omega) (by omega) (by rw [← hv4, lp_X9_allWays_9, if_neg c8]) ls (lv_sub hl [2, 1, 0] rfl)
  exact L3 (zct 33 pa pn + 1) (zct 33 pa pn) 1 (by omega) (by omega) rfl ls (lv_sub hl [2, 1, 0] rfl)
def s_X9_refusal (pn : Nat) (we : Nat → Int32) (pa : Nat → Int32) (most : Int32) : Int32 := if (lp_X9_fault_9 pn pa (pn + 1) 0 0 (lp_X9_loaded_4 we 7 0 0)) < 0 then (if (((nI pn) - (nI (zct 46 pa pn))) - (nI (zct 33 pa pn))) ≤ 0 then (if (nI (zct 33 pa pn)) ≤ most then (-6) else (-4)) else (-3)) else (-5)
abbrev rm_X9_refusal : Room := { frames := 3, cells := 0, slots := 0, locals := 71 }
set_option maxRecDepth 100000 in
set_option maxHeartbeats 4000000 in
theorem c_X9_refusal (l : Launch) (D : va_G) (cI cZ : ClassId) (mo rea rla rwe rst rsp rpa rsa rta rbe rfa rpl rke rik sn pn ka : Nat) (tu ga lk stp dbt win plc mnt lft abd iw : Int32) (ea la we mT mP pa sa ta be fa pq ke ik : Nat → Int32) (most : Int32) (hpn : pn ≤ 60) : Met l yX9_refusal [.code yX9_refusal cX9_refusal 3 (some .int)] rm_X9_refusal (PcR D cI cZ [.ref mo, .int most] [(mo, .inr (9, [.int tu, .int ga, .int lk, .int stp, .int dbt, .int win, .ref rea, .ref rla, .ref rwe, .ref rst, .ref rsp, .int (nI sn), .ref rpa, .int (nI pn), .int plc, .int mnt, .int lft, .int abd, .ref rsa, .ref rta, .ref rbe, .ref rfa, .ref rpl, .ref rke, .ref rik, .int (nI ka), .int iw])), (rea, .inl (cI, 5, .inl ea)), (rla, .inl (cI, 5, .inl la)), (rwe, .inl (cI, 6, .inl we)), (rst, .inl (cI, 6, .inl mT)), (rsp, .inl (cI, 6, .inl mP)), (rpa, .inl (cI, 60, .inl pa)), (rsa, .inl (cI, 61, .inl sa)), (rta, .inl (cI, 12, .inl ta)), (rbe, .inl (cI, 12, .inl be)), (rfa, .inl (cI, 6, .inl fa)), (rpl, .inl (cI, 60, .inl pq)), (rke, .inl (cI, 100, .inl ke)), (rik, .inl (cZ, 2, .inl ik))]) (QcR (some (.int (s_X9_refusal pn we pa most)))) 0 0 zN := by
  refine mtRi (by decide) (Nat.le_of_ble_eq_true rfl) (fun p e s m args below meth c Q S hT hP hret ls hl => ?_)
  have S : CallFix p m c cX9_refusal 3 s args zt RX9 := S
  obtain ⟨hx, hb, hml, hown, hts⟩ := id S
  have hl : lv_has ls 3 [(0, .ref mo), (1, .int most)] := hl
  refine lv_aload_n hx hb dX9_refusal_0 rfl (lv_at hl 0 rfl) ?_
  refine kRV (q0 := 0) (st1 := [.int (lp_X9_fault_9 pn pa (pn + 1) 0 0 (lp_X9_loaded_4 we 7 0 0))]) S hT hP (c_X9_fault l D cI cZ mo rea rla rwe rst rsp rpa rsa rta rbe rfa rpl rke rik sn pn ka tu ga lk stp dbt win plc mnt lft abd iw ea la we mT mP pa sa ta be fa pq ke ik (by first | assumption | decide | omega)) rfl rfl mw_X9_fault lk_RX9_128 ⟨rfl, rfl, (Nat.le_of_ble_eq_true rfl), (Nat.le_of_ble_eq_true rfl), (Nat.le_of_ble_eq_true rfl), (Nat.le_of_ble_eq_true rfl)⟩ [0, 1, 2, 3, 4, 5, 6, 7, 8, 9, 10, 11, 12, 13] rfl rfl rfl hl.1 (Nat.le_of_ble_eq_true rfl) dX9_refusal_1 ?_
  refine lv_if_lt (tgt := 10) hx hb dX9_refusal_4 (by decide) (fun c1 => ?_) (fun c1 => ?_)
  · refine lv_aload_n hx hb dX9_refusal_10 rfl (lv_at hl 0 rfl) ?_
    refine va_get (D := D) (ci := 9) (v := .int (nI pn)) (C := RX9) (T := TX9) (N := 27) hx hb hts in_X9 hown hT.1 hP 0 rfl rfl 13 (by decide) (hts _ fl_RX9_95) (fun _ h9 => h9) rfl dX9_refusal_11 ?_
    refine lv_aload_n hx hb dX9_refusal_14 rfl (lv_at hl 0 rfl) ?_
    refine lv_bipush (v := 46) hx hb dX9_refusal_15 (by decide) ?_
    refine kRV (q0 := 0) (st1 := [.int (nI (zct 46 pa pn)), .int (nI pn)]) S hT hP (c_X9_countOf l D cI cZ mo rea rla rwe rst rsp rpa rsa rta rbe rfa rpl rke rik sn pn ka tu ga lk stp dbt win plc mnt lft abd iw ea la we mT mP pa sa ta be fa pq ke ik 46 (by first | assumption | decide | omega)) rfl rfl mw_X9_countOf lk_RX9_133 ⟨rfl, rfl, (Nat.le_of_ble_eq_true rfl), (Nat.le_of_ble_eq_true rfl), (Nat.le_of_ble_eq_true rfl), (Nat.le_of_ble_eq_true rfl)⟩ [0, 1, 2, 3, 4, 5, 6, 7, 8, 9, 10, 11, 12, 13] rfl rfl rfl hl.1 (Nat.le_of_ble_eq_true rfl) dX9_refusal_17 ?_
    refine lv_isub hx hb dX9_refusal_20 ?_
    refine lv_aload_n hx hb dX9_refusal_21 rfl (lv_at hl 0 rfl) ?_
    refine lv_bipush (v := 33) hx hb dX9_refusal_22 (by decide) ?_
    refine kRV (q0 := 0) (st1 := [.int (nI (zct 33 pa pn)), .int ((nI pn) - (nI (zct 46 pa pn)))]) S hT hP (c_X9_countOf l D cI cZ mo rea rla rwe rst rsp rpa rsa rta rbe rfa rpl rke rik sn pn ka tu ga lk stp dbt win plc mnt lft abd iw ea la we mT mP pa sa ta be fa pq ke ik 33 (by first | assumption | decide | omega)) rfl rfl mw_X9_countOf lk_RX9_133 ⟨rfl, rfl, (Nat.le_of_ble_eq_true rfl), (Nat.le_of_ble_eq_true rfl), (Nat.le_of_ble_eq_true rfl), (Nat.le_of_ble_eq_true rfl)⟩ [0, 1, 2, 3, 4, 5, 6, 7, 8, 9, 10, 11, 12, 13] rfl rfl rfl hl.1 (Nat.le_of_ble_eq_true rfl) dX9_refusal_24 ?_
    refine lv_isub hx hb dX9_refusal_27 ?_
    refine lv_istore_n (lv' := [(2, .int (((nI pn) - (nI (zct 46 pa pn))) - (nI (zct 33 pa pn)))), (0, .ref mo), (1, .int most)]) hx hb dX9_refusal_28 rfl hl (by decide) rfl (fun ls hl => ?_)
    refine lv_iload_n hx hb dX9_refusal_29 rfl (lv_at hl 0 rfl) ?_
    refine lv_if_le (tgt := 38) hx hb dX9_refusal_30 (by decide) (fun c2 => ?_) (fun c2 => ?_)
    · refine lv_aload_n hx hb dX9_refusal_38 rfl (lv_at hl 1 rfl) ?_
      refine lv_bipush (v := 33) hx hb dX9_refusal_39 (by decide) ?_
      refine kRV (q0 := 0) (st1 := [.int (nI (zct 33 pa pn))]) S hT hP (c_X9_countOf l D cI cZ mo rea rla rwe rst rsp rpa rsa rta rbe rfa rpl rke rik sn pn ka tu ga lk stp dbt win plc mnt lft abd iw ea la we mT mP pa sa ta be fa pq ke ik 33 (by first | assumption | decide | omega)) rfl rfl mw_X9_countOf lk_RX9_133 ⟨rfl, rfl, (Nat.le_of_ble_eq_true rfl), (Nat.le_of_ble_eq_true rfl), (Nat.le_of_ble_eq_true rfl), (Nat.le_of_ble_eq_true rfl)⟩ [0, 1, 2, 3, 4, 5, 6, 7, 8, 9, 10, 11, 12, 13] rfl rfl rfl hl.1 (Nat.le_of_ble_eq_true rfl) dX9_refusal_41 ?_
      refine lv_iload_n hx hb dX9_refusal_44 rfl (lv_at hl 2 rfl) ?_
      refine lv_icmp_le (tgt := 53) hx hb dX9_refusal_45 (by decide) (fun c3 => ?_) (fun c3 => ?_)
      · refine lv_bipush (v := (-6)) hx hb dX9_refusal_53 (by decide) ?_
        exact hret _ _ _ dX9_refusal_55 (by unfold s_X9_refusal; rw [if_pos c1, if_pos c2, if_pos c3])
      · refine lv_bipush (v := (-4)) hx hb dX9_refusal_48 (by decide) ?_
        refine lv_goto (tgt := 55) hx hb dX9_refusal_50 (by decide) ?_
        exact hret _ _ _ dX9_refusal_55 (by unfold s_X9_refusal; rw [if_pos c1, if_pos c2, if_neg c3])
    · refine lv_bipush (v := (-3)) hx hb dX9_refusal_33 (by decide) ?_
      refine lv_goto (tgt := 55) hx hb dX9_refusal_35 (by decide) ?_
      exact hret _ _ _ dX9_refusal_55 (by unfold s_X9_refusal; rw [if_pos c1, if_neg c2])
  · refine lv_bipush (v := (-5)) hx hb dX9_refusal_7 (by decide) ?_
    exact hret _ _ _ dX9_refusal_9 (by unfold s_X9_refusal; rw [if_neg c1])
