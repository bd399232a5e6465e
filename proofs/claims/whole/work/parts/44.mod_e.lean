theorem zyr_n {v : Int32} (h : ¬ s_X9_in v.toInt64 1 60 = 0) : v = nI v.toNatClampNeg := zw_nat (Int32.le_trans (by decide) (zin32 (lo := 1) (hi := 60) h (by decide) (by decide)).1)
theorem zyr_l {v : Int32} (h : ¬ s_X9_in v.toInt64 1 60 = 0) : v.toNatClampNeg ≤ 60 := by
  have h1 := zin32 (lo := 1) (hi := 60) h (by decide) (by decide)
  obtain ⟨j, hj, e⟩ := nI_of (x := v) (Int32.not_lt.mpr (Int32.le_trans (by decide) h1.1))
  rw [e, nI_clamp hj]
  rw [e] at h1
  exact zNle (b := 60) h1.2 hj (by decide)
theorem zgap (f : Nat → Int32) : ∀ (b a : Nat), a ≤ b → b - zct 46 f b ≥ a - zct 46 f a := by
  intro b
  induction b with
  | zero => intro a h; have : a = 0 := by omega
            subst this; exact Nat.le_refl _
  | succ b ih =>
    intro a h
    by_cases e : a = b + 1
    · subst e; exact Nat.le_refl _
    · have h1 := ih a (by omega)
      have h2 := zct_le 46 f b
      rw [zct]
      split <;> omega
theorem zq12 {f : Nat → Int32} {q k n : Nat} (hq : q + zct 46 f k = k) (c : ¬ f k = 46) (hk : k < n) (hn : n - zct 46 f n ≤ 12) : q < 12 := by
  have h1 := zgap f n (k + 1) (by omega)
  have h2 := zct_le 46 f k
  rw [zct, if_neg c] at h1
  omega
theorem zrem_abs {x y : Int64} (c : ¬ y = 0) : (x - x / y * y).toInt.natAbs < y.toInt.natAbs := by
  have hy : y.toInt ≠ 0 := fun e => c (Int64.toInt_inj.mp (by rw [e]; rfl))
  have h1 : (x - x / y * y).toInt = (x.toInt.tmod y.toInt) := by
    rw [Int64.toInt_sub, Int64.toInt_mul, Int64.toInt_div, Int.bmod_mul_bmod, Int.sub_bmod_bmod]
    have h2 : x.toInt - x.toInt.tdiv y.toInt * y.toInt = x.toInt.tmod y.toInt := by
      have := Int.tmod_add_mul_tdiv x.toInt y.toInt
      rw [Int.mul_comm] at this
      omega
    rw [h2]
    have hb1 := Int64.le_toInt y
    have hb2 := Int64.toInt_lt y
    have h3 : (x.toInt.tmod y.toInt).natAbs < y.toInt.natAbs := by
      rw [Int.natAbs_tmod]
      exact Nat.mod_lt _ (by omega)
    apply Int.bmod_eq_of_le <;> omega
  rw [h1, Int.natAbs_tmod]
  exact Nat.mod_lt _ (by omega)
theorem zsz11 {sz : Nat} (h : sz ≤ 12) : nI sz - 1 ≤ 11 := by
  have : ∀ sz, sz < 13 → nI sz - 1 ≤ 11 := by decide
  exact this sz (by omega)
theorem zsz_ms {sz : Nat} (h : sz ≤ 12) : zms (nI sz - 1) < sz + 1 := by
  have : ∀ sz, sz < 13 → zms (nI sz - 1) < sz + 1 := by decide
  exact this sz (by omega)
def lp_X9_layThrows_13 (we : Nat → Int32) : Nat → Nat → Int32 → Int32 → Int32 → (Nat → Int32) → Int32 × (Nat → Int32)
  | 0, _, _, x5_13, _, f8_13 => (x5_13, f8_13)
  | fu + 1, rs, x6_13, x5_13, x4_13, f8_13 => if x6_13 < 0 then (x5_13, f8_13) else lp_X9_layThrows_13 we fu (rs / 7) (x6_13 + (-1)) ((if x5_13 = 0 then 0 else (if ((if (nI (rs % 7)) = 6 then 1 else (if (we (rs % 7)) ≤ 0 then 0 else (if ((x4_13 >>> ((nI (rs % 7)) &&& 31)) &&& 1) = 0 then 1 else 0))) : Int32) = 0 then 0 else 1)) : Int32) (x4_13 ||| (1 <<< ((nI (rs % 7)) &&& 31))) (upd f8_13 x6_13.toNatClampNeg (nI (rs % 7)))
theorem zlay_q (we : Nat → Int32) : ∀ q rs x6 x5 x4 f, x5 = 0 ∨ x5 = 1 → (lp_X9_layThrows_13 we q rs x6 x5 x4 f).1 = 0 ∨ (lp_X9_layThrows_13 we q rs x6 x5 x4 f).1 = 1 := by
  intro q
  induction q with
  | zero => intro rs x6 x5 x4 f h; exact h
  | succ q ih =>
    intro rs x6 x5 x4 f h
    rw [lp_X9_layThrows_13]
    split
    · exact h
    · refine ih _ _ _ _ _ ?_
      (repeat' split) <;> first | exact Or.inl rfl | exact Or.inr rfl
theorem zlay_01 (we : Nat → Int32) (num sz : Nat) (ta : Nat → Int32) : (lp_X9_layThrows_13 we (sz + 1) num (nI sz - 1) 1 0 ta).1 = 0 ∨ (lp_X9_layThrows_13 we (sz + 1) num (nI sz - 1) 1 0 ta).1 = 1 := zlay_q we _ _ _ _ _ _ (Or.inr rfl)
abbrev rm_X9_layThrows : Room := { frames := 0, cells := 0, slots := 0, locals := 0 }
set_option maxRecDepth 100000 in
set_option maxHeartbeats 4000000 in
theorem c_X9_layThrows (l : Launch) (D : va_G) (cI cZ : ClassId) (mo rea rla rwe rst rsp rpa rsa rta rbe rfa rpl rke rik sn pn ka : Nat) (tu ga lk stp dbt win plc mnt lft abd iw : Int32) (ea la we mT mP pa sa ta be fa pq ke ik : Nat → Int32) (num sz : Nat) (hsz : sz ≤ 12) (hnum : num < 2 ^ 31) : Met l yX9_layThrows [.code yX9_layThrows cX9_layThrows 9 (some .boolean)] rm_X9_layThrows (PcW D cI cZ [.ref mo, .int (nI num), .int (nI sz)] [(mo, .inr (9, [.int tu, .int ga, .int lk, .int stp, .int dbt, .int win, .ref rea, .ref rla, .ref rwe, .ref rst, .ref rsp, .int (nI sn), .ref rpa, .int (nI pn), .int plc, .int mnt, .int lft, .int abd, .ref rsa, .ref rta, .ref rbe, .ref rfa, .ref rpl, .ref rke, .ref rik, .int (nI ka), .int iw])), (rea, .inl (cI, 5, .inl ea)), (rla, .inl (cI, 5, .inl la)), (rwe, .inl (cI, 6, .inl we)), (rst, .inl (cI, 6, .inl mT)), (rsp, .inl (cI, 6, .inl mP)), (rpa, .inl (cI, 60, .inl pa)), (rsa, .inl (cI, 61, .inl sa)), (rta, .inl (cI, 12, .inl ta)), (rbe, .inl (cI, 12, .inl be)), (rfa, .inl (cI, 6, .inl fa)), (rpl, .inl (cI, 60, .inl pq)), (rke, .inl (cI, 100, .inl ke)), (rik, .inl (cZ, 2, .inl ik))]) (QcE D (S := Unit) (some (.int ((lp_X9_layThrows_13 we (sz + 1) num ((nI sz) - 1) 1 0 ta).1))) (fun _ => True) (fun _ => [(mo, .inr (9, [.int tu, .int ga, .int lk, .int stp, .int dbt, .int win, .ref rea, .ref rla, .ref rwe, .ref rst, .ref rsp, .int (nI sn), .ref rpa, .int (nI pn), .int plc, .int mnt, .int lft, .int abd, .ref rsa, .ref rta, .ref rbe, .ref rfa, .ref rpl, .ref rke, .ref rik, .int (nI ka), .int iw])), (rea, .inl (cI, 5, .inl ea)), (rla, .inl (cI, 5, .inl la)), (rwe, .inl (cI, 6, .inl we)), (rst, .inl (cI, 6, .inl mT)), (rsp, .inl (cI, 6, .inl mP)), (rpa, .inl (cI, 60, .inl pa)), (rsa, .inl (cI, 61, .inl sa)), (rta, .inl (cI, 12, .inl ((lp_X9_layThrows_13 we (sz + 1) num ((nI sz) - 1) 1 0 ta).2))), (rbe, .inl (cI, 12, .inl be)), (rfa, .inl (cI, 6, .inl fa)), (rpl, .inl (cI, 60, .inl pq)), (rke, .inl (cI, 100, .inl ke)), (rik, .inl (cZ, 2, .inl ik))]) (zA [(mo, .inr (9, [.int tu, .int ga, .int lk, .int stp, .int dbt, .int win, .ref rea, .ref rla, .ref rwe, .ref rst, .ref rsp, .int (nI sn), .ref rpa, .int (nI pn), .int plc, .int mnt, .int lft, .int abd, .ref rsa, .ref rta, .ref rbe, .ref rfa, .ref rpl, .ref rke, .ref rik, .int (nI ka), .int iw])), (rea, .inl (cI, 5, .inl ea)), (rla, .inl (cI, 5, .inl la)), (rwe, .inl (cI, 6, .inl we)), (rst, .inl (cI, 6, .inl mT)), (rsp, .inl (cI, 6, .inl mP)), (rpa, .inl (cI, 60, .inl pa)), (rsa, .inl (cI, 61, .inl sa)), (rta, .inl (cI, 12, .inl ta)), (rbe, .inl (cI, 12, .inl be)), (rfa, .inl (cI, 6, .inl fa)), (rpl, .inl (cI, 60, .inl pq)), (rke, .inl (cI, 100, .inl ke)), (rik, .inl (cZ, 2, .inl ik))])) 0 0 (zA [(mo, .inr (9, [.int tu, .int ga, .int lk, .int stp, .int dbt, .int win, .ref rea, .ref rla, .ref rwe, .ref rst, .ref rsp, .int (nI sn), .ref rpa, .int (nI pn), .int plc, .int mnt, .int lft, .int abd, .ref rsa, .ref rta, .ref rbe, .ref rfa, .ref rpl, .ref rke, .ref rik, .int (nI ka), .int iw])), (rea, .inl (cI, 5, .inl ea)), (rla, .inl (cI, 5, .inl la)), (rwe, .inl (cI, 6, .inl we)), (rst, .inl (cI, 6, .inl mT)), (rsp, .inl (cI, 6, .inl mP)), (rpa, .inl (cI, 60, .inl pa)), (rsa, .inl (cI, 61, .inl sa)), (rta, .inl (cI, 12, .inl ta)), (rbe, .inl (cI, 12, .inl be)), (rfa, .inl (cI, 6, .inl fa)), (rpl, .inl (cI, 60, .inl pq)), (rke, .inl (cI, 100, .inl ke)), (rik, .inl (cZ, 2, .inl ik))]) := by
  refine mtWz (by exact zz01 (zlay_01 we num sz ta)) (by decide) (Nat.le_of_ble_eq_true rfl) (fun p e s m args below meth c Q A S hT hP hD hS hret ls hl => ?_)
  have S : CallFix p m c cX9_layThrows 9 s args zt RX9 := S
  obtain ⟨hx, hb, hml, hown, hts⟩ := id S
  have hl : lv_has ls 9 [(0, .ref mo), (1, .int (nI num)), (2, .int (nI sz))] := hl
  refine lv_iload_n hx hb dX9_layThrows_0 rfl (lv_at hl 1 rfl) ?_
  refine lv_istore_n (lv' := [(3, .int (nI num)), (0, .ref mo), (1, .int (nI num)), (2, .int (nI sz))]) hx hb dX9_layThrows_1 rfl hl (by decide) rfl (fun ls hl => ?_)
  refine lv_iconst (v := 0) hx hb dX9_layThrows_2 (by decide) ?_
  refine lv_istore (lv' := [(4, .int 0), (3, .int (nI num)), (0, .ref mo), (1, .int (nI num)), (2, .int (nI sz))]) hx hb dX9_layThrows_3 hl (by decide) rfl (fun ls hl => ?_)
  refine lv_iconst (v := 1) hx hb dX9_layThrows_5 (by decide) ?_
  refine lv_istore (lv' := [(5, .int 1), (4, .int 0), (3, .int (nI num)), (0, .ref mo), (1, .int (nI num)), (2, .int (nI sz))]) hx hb dX9_layThrows_6 hl (by decide) rfl (fun ls hl => ?_)
  refine lv_iload_n hx hb dX9_layThrows_8 rfl (lv_at hl 5 rfl) ?_
  refine lv_iconst (v := 1) hx hb dX9_layThrows_9 (by decide) ?_
  refine lv_isub hx hb dX9_layThrows_10 ?_
  refine lv_istore (lv' := [(6, .int ((nI sz) - 1)), (5, .int 1), (4, .int 0), (3, .int (nI num)), (0, .ref mo), (1, .int (nI num)), (2, .int (nI sz))]) hx hb dX9_layThrows_11 hl (by decide) rfl (fun ls hl => ?_)
  have X3 : ∀ (y1 : Int32) (y2 : Nat → Int32), ((lp_X9_layThrows_13 we (sz + 1) num ((nI sz) - 1) 1 0 ta).1) = y1 → ((lp_X9_layThrows_13 we (sz + 1) num ((nI sz) - 1) 1 0 ta).2) = y2 → ∀ (ls : Array Slot), lv_has ls 9 [(0, .ref mo), (1, .int (nI num)), (2, .int (nI sz)), (5, .int y1)] → ∀ (H : Heap) (locs : List Loc), va_P D vwCl [(mo, .inr (9, [.int tu, .int ga, .int lk, .int stp, .int dbt, .int win, .ref rea, .ref rla, .ref rwe, .ref rst, .ref rsp, .int (nI sn), .ref rpa, .int (nI pn), .int plc, .int mnt, .int lft, .int abd, .ref rsa, .ref rta, .ref rbe, .ref rfa, .ref rpl, .ref rke, .ref rik, .int (nI ka), .int iw])), (rea, .inl (cI, 5, .inl ea)), (rla, .inl (cI, 5, .inl la)), (rwe, .inl (cI, 6, .inl we)), (rst, .inl (cI, 6, .inl mT)), (rsp, .inl (cI, 6, .inl mP)), (rpa, .inl (cI, 60, .inl pa)), (rsa, .inl (cI, 61, .inl sa)), (rta, .inl (cI, 12, .inl y2)), (rbe, .inl (cI, 12, .inl be)), (rfa, .inl (cI, 6, .inl fa)), (rpl, .inl (cI, 60, .inl pq)), (rke, .inl (cI, 100, .inl ke)), (rik, .inl (cZ, 2, .inl ik))] H → va_D A [(mo, .inr (9, [.int tu, .int ga, .int lk, .int stp, .int dbt, .int win, .ref rea, .ref rla, .ref rwe, .ref rst, .ref rsp, .int (nI sn), .ref rpa, .int (nI pn), .int plc, .int mnt, .int lft, .int abd, .ref rsa, .ref rta, .ref rbe, .ref rfa, .ref rpl, .ref rke, .ref rik, .int (nI ka), .int iw])), (rea, .inl (cI, 5, .inl ea)), (rla, .inl (cI, 5, .inl la)), (rwe, .inl (cI, 6, .inl we)), (rst, .inl (cI, 6, .inl mT)), (rsp, .inl (cI, 6, .inl mP)), (rpa, .inl (cI, 60, .inl pa)), (rsa, .inl (cI, 61, .inl sa)), (rta, .inl (cI, 12, .inl y2)), (rbe, .inl (cI, 12, .inl be)), (rfa, .inl (cI, 6, .inl fa)), (rpl, .inl (cI, 60, .inl pq)), (rke, .inl (cI, 100, .inl ke)), (rik, .inl (cZ, 2, .inl ik))] → va_S A s.heap H locs → W p l e rm_X9_layThrows s m args below meth c H locs 0 0 Q (F0 m 104 ls []) := by
    intro y1 y2 ey1 ey2 ls hl H locs hP hD hS
    subst ey1 ey2
    refine lv_iload hx hb dX9_layThrows_104 (lv_at hl 3 rfl) ?_
    exact hret _ _ _ H locs () dX9_layThrows_106 rfl trivial hP hS
  have L4 : ∀ (n7 : Nat) (rs : Nat) (x6_13 : Int32) (x5_13 : Int32) (x4_13 : Int32) (f8_13 : Nat → Int32), zms x6_13 < n7 → (x6_13 ≤ 11) → (rs < 2 ^ 31) → lp_X9_layThrows_13 we n7 rs x6_13 x5_13 x4_13 f8_13 = lp_X9_layThrows_13 we (sz + 1) num ((nI sz) - 1) 1 0 ta → ∀ (ls : Array Slot), lv_has ls 9 [(0, .ref mo), (1, .int (nI num)), (2, .int (nI sz)), (3, .int (nI rs)), (4, .int x4_13), (5, .int x5_13), (6, .int x6_13)] → ∀ (H : Heap) (locs : List Loc), va_P D vwCl [(mo, .inr (9, [.int tu, .int ga, .int lk, .int stp, .int dbt, .int win, .ref rea, .ref rla, .ref rwe, .ref rst, .ref rsp, .int (nI sn), .ref rpa, .int (nI pn), .int plc, .int mnt, .int lft, .int abd, .ref rsa, .ref rta, .ref rbe, .ref rfa, .ref rpl, .ref rke, .ref rik, .int (nI ka), .int iw])), (rea, .inl (cI, 5, .inl ea)), (rla, .inl (cI, 5, .inl la)), (rwe, .inl (cI, 6, .inl we)), (rst, .inl (cI, 6, .inl mT)), (rsp, .inl (cI, 6, .inl mP)), (rpa, .inl (cI, 60, .inl pa)), (rsa, .inl (cI, 61, .inl sa)), (rta, .inl (cI, 12, .inl f8_13)), (rbe, .inl (cI, 12, .inl be)), (rfa, .inl (cI, 6, .inl fa)), (rpl, .inl (cI, 60, .inl pq)), (rke, .inl (cI, 100, .inl ke)), (rik, .inl (cZ, 2, .inl ik))] H → va_D A [(mo, .inr (9, [.int tu, .int ga, .int lk, .int stp, .int dbt, .int win, .ref rea, .ref rla, .ref rwe, .ref rst, .ref rsp, .int (nI sn), .ref rpa, .int (nI pn), .int plc, .int mnt, .int lft, .int abd, .ref rsa, .ref rta, .ref rbe, .ref rfa, .ref rpl, .ref rke, .ref rik, .int (nI ka), .int iw])), (rea, .inl (cI, 5, .inl ea)), (rla, .inl (cI, 5, .inl la)), (rwe, .inl (cI, 6, .inl we)), (rst, .inl (cI, 6, .inl mT)), (rsp, .inl (cI, 6, .inl mP)), (rpa, .inl (cI, 60, .inl pa)), (rsa, .inl (cI, 61, .inl sa)), (rta, .inl (cI, 12, .inl f8_13)), (rbe, .inl (cI, 12, .inl be)), (rfa, .inl (cI, 6, .inl fa)), (rpl, .inl (cI, 60, .inl pq)), (rke, .inl (cI, 100, .inl ke)), (rik, .inl (cZ, 2, .inl ik))] → va_S A s.heap H locs → W p l e rm_X9_layThrows s m args below meth c H locs 0 0 Q (F0 m 13 ls []) := by
    intro n7
    induction n7 with
    | zero => intro rs x6_13 x5_13 x4_13 f8_13 hm; exact absurd hm (Nat.not_lt_zero _)
    | succ n7 ih6 =>
      intro rs x6_13 x5_13 x4_13 f8_13 hm8 h60 hrs hv5 ls hl H locs hP hD hS
      refine lv_iload hx hb dX9_layThrows_13 (lv_at hl 6 rfl) ?_
      refine lv_if_lt (tgt := 104) hx hb dX9_layThrows_15 (by decide) (fun c9 => ?_) (fun c9 => ?_)
      · exact X3 _ _ (by rw [← hv5, lp_X9_layThrows_13, if_pos c9]) (by rw [← hv5, lp_X9_layThrows_13, if_pos c9]) ls (lv_sub hl [0, 1, 2, 5] rfl) H locs hP hD hS
      · refine lv_iload_n hx hb dX9_layThrows_18 rfl (lv_at hl 3 rfl) ?_
        refine lv_bipush (v := 7) hx hb dX9_layThrows_19 (by decide) ?_
        refine lv_irem hx hb dX9_layThrows_21 (by decide) ?_
        refine zI (y := nI (rs % 7)) (pk_rem hrs (by decide) (by decide)) ?_
        refine lv_istore (lv' := [(7, .int (nI (rs % 7))), (0, .ref mo), (1, .int (nI num)), (2, .int (nI sz)), (3, .int (nI rs)), (4, .int x4_13), (5, .int x5_13), (6, .int x6_13)]) hx hb dX9_layThrows_22 hl (by decide) rfl (fun ls hl => ?_)
        refine lv_iload_n hx hb dX9_layThrows_24 rfl (lv_at hl 4 rfl) ?_
        refine lv_bipush (v := 7) hx hb dX9_layThrows_25 (by decide) ?_
        refine lv_idiv hx hb dX9_layThrows_27 (by decide) ?_
        refine zI (y := nI (rs / 7)) (pk_div hrs (by decide) (by decide)) ?_
        refine lv_istore_n (lv' := [(3, .int (nI (rs / 7))), (7, .int (nI (rs % 7))), (0, .ref mo), (1, .int (nI num)), (2, .int (nI sz)), (4, .int x4_13), (5, .int x5_13), (6, .int x6_13)]) hx hb dX9_layThrows_28 rfl hl (by decide) rfl (fun ls hl => ?_)
        refine lv_aload_n hx hb dX9_layThrows_29 rfl (lv_at hl 2 rfl) ?_
        refine va_get (D := D) (ci := 9) (v := .ref rta) (C := RX9) (T := TX9) (N := 27) hx hb hts in_X9 hown hT.1 hP 0 rfl rfl 19 (by decide) (hts _ fl_RX9_31) (fun _ h9 => h9) rfl dX9_layThrows_30 ?_
        refine lv_iload hx hb dX9_layThrows_33 (lv_at hl 7 rfl) ?_
        refine lv_iload hx hb dX9_layThrows_35 (lv_at hl 1 rfl) ?_
        refine va_iast (D := D) hx hb hT.1 hP hD hS 8 0 rfl rfl (zxv c9 h60 (by decide)) dX9_layThrows_37 (fun H locs hP hD hS => ?_)
        have hP : va_P D vwCl [(mo, .inr (9, [.int tu, .int ga, .int lk, .int stp, .int dbt, .int win, .ref rea, .ref rla, .ref rwe, .ref rst, .ref rsp, .int (nI sn), .ref rpa, .int (nI pn), .int plc, .int mnt, .int lft, .int abd, .ref rsa, .ref rta, .ref rbe, .ref rfa, .ref rpl, .ref rke, .ref rik, .int (nI ka), .int iw])), (rea, .inl (cI, 5, .inl ea)), (rla, .inl (cI, 5, .inl la)), (rwe, .inl (cI, 6, .inl we)), (rst, .inl (cI, 6, .inl mT)), (rsp, .inl (cI, 6, .inl mP)), (rpa, .inl (cI, 60, .inl pa)), (rsa, .inl (cI, 61, .inl sa)), (rta, .inl (cI, 12, .inl (upd f8_13 x6_13.toNatClampNeg (nI (rs % 7))))), (rbe, .inl (cI, 12, .inl be)), (rfa, .inl (cI, 6, .inl fa)), (rpl, .inl (cI, 60, .inl pq)), (rke, .inl (cI, 100, .inl ke)), (rik, .inl (cZ, 2, .inl ik))] H := hP
        have hD : va_D A [(mo, .inr (9, [.int tu, .int ga, .int lk, .int stp, .int dbt, .int win, .ref rea, .ref rla, .ref rwe, .ref rst, .ref rsp, .int (nI sn), .ref rpa, .int (nI pn), .int plc, .int mnt, .int lft, .int abd, .ref rsa, .ref rta, .ref rbe, .ref rfa, .ref rpl, .ref rke, .ref rik, .int (nI ka), .int iw])), (rea, .inl (cI, 5, .inl ea)), (rla, .inl (cI, 5, .inl la)), (rwe, .inl (cI, 6, .inl we)), (rst, .inl (cI, 6, .inl mT)), (rsp, .inl (cI, 6, .inl mP)), (rpa, .inl (cI, 60, .inl pa)), (rsa, .inl (cI, 61, .inl sa)), (rta, .inl (cI, 12, .inl (upd f8_13 x6_13.toNatClampNeg (nI (rs % 7))))), (rbe, .inl (cI, 12, .inl be)), (rfa, .inl (cI, 6, .inl fa)), (rpl, .inl (cI, 60, .inl pq)), (rke, .inl (cI, 100, .inl ke)), (rik, .inl (cZ, 2, .inl ik))] := hD
        refine lv_iload hx hb dX9_layThrows_38 (lv_at hl 1 rfl) ?_
        refine lv_bipush (v := 6) hx hb dX9_layThrows_40 (by decide) ?_
        have J11 : ∀ (z10 : Int32), ((if (nI (rs % 7)) = 6 then 1 else (if (we (rs % 7)) ≤ 0 then 0 else (if ((x4_13 >>> ((nI (rs % 7)) &&& 31)) &&& 1) = 0 then 1 else 0))) : Int32) = z10 → W p l e rm_X9_layThrows s m args below meth c H locs 0 0 Q (F0 m 70 ls [.int z10]) := by
          intro z10 ez10
          subst ez10
          refine lv_istore (lv' := [(8, .int ((if (nI (rs % 7)) = 6 then 1 else (if (we (rs % 7)) ≤ 0 then 0 else (if ((x4_13 >>> ((nI (rs % 7)) &&& 31)) &&& 1) = 0 then 1 else 0))) : Int32)), (3, .int (nI (rs / 7))), (7, .int (nI (rs % 7))), (0, .ref mo), (1, .int (nI num)), (2, .int (nI sz)), (4, .int x4_13), (5, .int x5_13), (6, .int x6_13)]) hx hb dX9_layThrows_70 hl (by decide) rfl (fun ls hl => ?_)
          refine lv_iload hx hb dX9_layThrows_72 (lv_at hl 7 rfl) ?_
          have J13 : ∀ (z12 : Int32), ((if x5_13 = 0 then 0 else (if ((if (nI (rs % 7)) = 6 then 1 else (if (we (rs % 7)) ≤ 0 then 0 else (if ((x4_13 >>> ((nI (rs % 7)) &&& 31)) &&& 1) = 0 then 1 else 0))) : Int32) = 0 then 0 else 1)) : Int32) = z12 → W p l e rm_X9_layThrows s m args below meth c H locs 0 0 Q (F0 m 87 ls [.int z12]) := by
            intro z12 ez12
            subst ez12
            refine lv_istore (lv' := [(5, .int ((if x5_13 = 0 then 0 else (if ((if (nI (rs % 7)) = 6 then 1 else (if (we (rs % 7)) ≤ 0 then 0 else (if ((x4_13 >>> ((nI (rs % 7)) &&& 31)) &&& 1) = 0 then 1 else 0))) : Int32) = 0 then 0 else 1)) : Int32)), (8, .int ((if (nI (rs % 7)) = 6 then 1 else (if (we (rs % 7)) ≤ 0 then 0 else (if ((x4_13 >>> ((nI (rs % 7)) &&& 31)) &&& 1) = 0 then 1 else 0))) : Int32)), (3, .int (nI (rs / 7))), (7, .int (nI (rs % 7))), (0, .ref mo), (1, .int (nI num)), (2, .int (nI sz)), (4, .int x4_13), (6, .int x6_13)]) hx hb dX9_layThrows_87 hl (by decide) rfl (fun ls hl => ?_)
            refine lv_iload hx hb dX9_layThrows_89 (lv_at hl 7 rfl) ?_
            refine lv_iconst (v := 1) hx hb dX9_layThrows_91 (by decide) ?_
            refine lv_iload hx hb dX9_layThrows_92 (lv_at hl 3 rfl) ?_
            refine lv_ishl hx hb dX9_layThrows_94 ?_
            refine lv_ior hx hb dX9_layThrows_95 ?_
            refine lv_istore (lv' := [(4, .int (x4_13 ||| (1 <<< ((nI (rs % 7)) &&& 31)))), (5, .int ((if x5_13 = 0 then 0 else (if ((if (nI (rs % 7)) = 6 then 1 else (if (we (rs % 7)) ≤ 0 then 0 else (if ((x4_13 >>> ((nI (rs % 7)) &&& 31)) &&& 1) = 0 then 1 else 0))) : Int32) = 0 then 0 else 1)) : Int32)), (8, .int ((if (nI (rs % 7)) = 6 then 1 else (if (we (rs % 7)) ≤ 0 then 0 else (if ((x4_13 >>> ((nI (rs % 7)) &&& 31)) &&& 1) = 0 then 1 else 0))) : Int32)), (3, .int (nI (rs / 7))), (7, .int (nI (rs % 7))), (0, .ref mo), (1, .int (nI num)), (2, .int (nI sz)), (6, .int x6_13)]) hx hb dX9_layThrows_96 hl (by decide) rfl (fun ls hl => ?_)
            refine lv_iinc (v := x6_13 + (-1)) (lv' := [(6, .int (x6_13 + (-1))), (4, .int (x4_13 ||| (1 <<< ((nI (rs % 7)) &&& 31)))), (5, .int ((if x5_13 = 0 then 0 else (if ((if (nI (rs % 7)) = 6 then 1 else (if (we (rs % 7)) ≤ 0 then 0 else (if ((x4_13 >>> ((nI (rs % 7)) &&& 31)) &&& 1) = 0 then 1 else 0))) : Int32) = 0 then 0 else 1)) : Int32)), (8, .int ((if (nI (rs % 7)) = 6 then 1 else (if (we (rs % 7)) ≤ 0 then 0 else (if ((x4_13 >>> ((nI (rs % 7)) &&& 31)) &&& 1) = 0 then 1 else 0))) : Int32)), (3, .int (nI (rs / 7))), (7, .int (nI (rs % 7))), (0, .ref mo), (1, .int (nI num)), (2, .int (nI sz))]) hx hb dX9_layThrows_98 hl (k := 8) rfl rfl (by decide) rfl (fun ls hl => ?_)
            refine lv_goto (tgt := 13) hx hb dX9_layThrows_101 (by decide) ?_
            exact ih6 (rs / 7) (x6_13 + (-1)) ((if x5_13 = 0 then 0 else (if ((if (nI (rs % 7)) = 6 then 1 else (if (we (rs % 7)) ≤ 0 then 0 else (if ((x4_13 >>> ((nI (rs % 7)) &&& 31)) &&& 1) = 0 then 1 else 0))) : Int32) = 0 then 0 else 1)) : Int32) (x4_13 ||| (1 <<< ((nI (rs % 7)) &&& 31))) (upd f8_13 x6_13.toNatClampNeg (nI (rs % 7))) (zms_dec c9 hm8) (zle_dec c9 h60) (by have := Nat.div_le_self rs 7; omega) (by rw [← hv5, lp_X9_layThrows_13, if_neg c9]) ls (lv_sub hl [6, 7, 8, 4, 1, 2, 0] rfl) H locs hP hD hS
          refine lv_if_eq (tgt := 86) hx hb dX9_layThrows_74 (by decide) (fun c14 => ?_) (fun c14 => ?_)
          · refine lv_iconst (v := 0) hx hb dX9_layThrows_86 (by decide) ?_
            exact J13 0 (by rw [if_pos c14])
          · refine lv_iload hx hb dX9_layThrows_77 (lv_at hl 0 rfl) ?_
            refine lv_if_eq (tgt := 86) hx hb dX9_layThrows_79 (by decide) (fun c15 => ?_) (fun c15 => ?_)
            · refine lv_iconst (v := 0) hx hb dX9_layThrows_86 (by decide) ?_
              exact J13 0 (by rw [if_neg c14, if_pos c15])
            · refine lv_iconst (v := 1) hx hb dX9_layThrows_82 (by decide) ?_
              refine lv_goto (tgt := 87) hx hb dX9_layThrows_83 (by decide) ?_
              exact J13 1 (by rw [if_neg c14, if_neg c15])
        refine lv_icmp_eq (tgt := 65) hx hb dX9_layThrows_42 (by decide) (fun c16 => ?_) (fun c16 => ?_)
        · have nc16 := zNeq (a := (rs % 7)) (b := 6) c16 (by omega) (by omega)
          refine lv_iconst (v := 1) hx hb dX9_layThrows_65 (by decide) ?_
          refine lv_goto (tgt := 70) hx hb dX9_layThrows_66 (by decide) ?_
          exact J11 1 (by rw [if_pos c16])
        · have nc16 := zNne (a := (rs % 7)) (b := 6) c16 (by omega) (by omega)
          refine lv_aload_n hx hb dX9_layThrows_45 rfl (lv_at hl 2 rfl) ?_
          refine va_get (D := D) (ci := 9) (v := .ref rwe) (C := RX9) (T := TX9) (N := 27) hx hb hts in_X9 hown hT.1 hP 0 rfl rfl 8 (by decide) (hts _ fl_RX9_16) (fun _ h9 => h9) rfl dX9_layThrows_46 ?_
          refine lv_iload hx hb dX9_layThrows_49 (lv_at hl 1 rfl) ?_
          refine zald (D := D) (k := (rs % 7)) hx hb hT.1 hP 3 0 rfl rfl (by omega) (by omega) dX9_layThrows_51 ?_
          refine lv_if_le (tgt := 69) hx hb dX9_layThrows_52 (by decide) (fun c17 => ?_) (fun c17 => ?_)
          · refine lv_iconst (v := 0) hx hb dX9_layThrows_69 (by decide) ?_
            exact J11 0 (by rw [if_neg c16, if_pos c17])
          · refine lv_iload hx hb dX9_layThrows_55 (lv_at hl 5 rfl) ?_
            refine lv_iload hx hb dX9_layThrows_57 (lv_at hl 1 rfl) ?_
            refine lv_ishr hx hb dX9_layThrows_59 ?_
            refine lv_iconst (v := 1) hx hb dX9_layThrows_60 (by decide) ?_
            refine lv_iand hx hb dX9_layThrows_61 ?_
            refine lv_if_ne (tgt := 69) hx hb dX9_layThrows_62 (by decide) (fun c18 => ?_) (fun c18 => ?_)
            · refine lv_iconst (v := 0) hx hb dX9_layThrows_69 (by decide) ?_
              exact J11 0 (by rw [if_neg c16, if_neg c17, if_neg c18])
            · refine lv_iconst (v := 1) hx hb dX9_layThrows_65 (by decide) ?_
              refine lv_goto (tgt := 70) hx hb dX9_layThrows_66 (by decide) ?_
              exact J11 1 (by rw [if_neg c16, if_neg c17, if_pos c18])
  exact L4 (sz + 1) num ((nI sz) - 1) 1 0 ta (zsz_ms hsz) (zsz11 hsz) (by omega) rfl ls (lv_sub hl [4, 5, 6, 3, 2, 1, 0] rfl) s.heap [] hP hD hS
def lp_X9_goCourse_4 (pn : Nat) (tu : Int32) (lk : Int32) (stp : Int32) (ea : Nat → Int32) (la : Nat → Int32) (we : Nat → Int32) (pa : Nat → Int32) (ta : Nat → Int32) : Nat → Nat → Nat → Int32 → Int32 → Int32 → Int32 → Int32 × Int32 × Int32 × Int32
  | 0, _, _, y0_14_4, y0_15_4, y0_16_4, y0_17_4 => (y0_14_4, y0_15_4, y0_16_4, y0_17_4)
  | fu + 1, k, q, y0_14_4, y0_15_4, y0_16_4, y0_17_4 => if nI pn ≤ nI k then (y0_14_4, y0_15_4, y0_16_4, y0_17_4) else (if pa k = 46 then lp_X9_goCourse_4 pn tu lk stp ea la we pa ta fu (k + 1) q (y0_14_4 + ((if tu ≤ y0_15_4 then la (s_X9_height stp y0_16_4 y0_17_4 we).toNatClampNeg else ea (s_X9_height stp y0_16_4 y0_17_4 we).toNatClampNeg) : Int32)) (y0_15_4 + 1) ((if y0_16_4 ≤ lk then 0 else y0_16_4 - lk) : Int32) y0_17_4 else lp_X9_goCourse_4 pn tu lk stp ea la we pa ta fu (k + 1) (q + 1) y0_14_4 y0_15_4 y0_16_4 (s_X9_throwOut_abd y0_17_4 ((if 6 ≤ ta q then (-6) else ta q) : Int32)))
abbrev rm_X9_goCourse : Room := { frames := 2, cells := 0, slots := 0, locals := 42 }
set_option maxRecDepth 100000 in
set_option maxHeartbeats 4000000 in
theorem c_X9_goCourse (l : Launch) (D : va_G) (cI cZ : ClassId) (mo rea rla rwe rst rsp rpa rsa rta rbe rfa rpl rke rik sn pn ka : Nat) (tu ga lk stp dbt win plc mnt lft abd iw : Int32) (ea la we mT mP pa sa ta be fa pq ke ik : Nat → Int32) (hpn : pn ≤ 60) (hstp : 1 ≤ stp) (hnd : pn - zct 46 pa pn ≤ 12) : Met l yX9_goCourse [.code yX9_goCourse cX9_goCourse 3 none] rm_X9_goCourse (PcW D cI cZ [.ref mo] [(mo, .inr (9, [.int tu, .int ga, .int lk, .int stp, .int dbt, .int win, .ref rea, .ref rla, .ref rwe, .ref rst, .ref rsp, .int (nI sn), .ref rpa, .int (nI pn), .int plc, .int mnt, .int lft, .int abd, .ref rsa, .ref rta, .ref rbe, .ref rfa, .ref rpl, .ref rke, .ref rik, .int (nI ka), .int iw])), (rea, .inl (cI, 5, .inl ea)), (rla, .inl (cI, 5, .inl la)), (rwe, .inl (cI, 6, .inl we)), (rst, .inl (cI, 6, .inl mT)), (rsp, .inl (cI, 6, .inl mP)), (rpa, .inl (cI, 60, .inl pa)), (rsa, .inl (cI, 61, .inl sa)), (rta, .inl (cI, 12, .inl ta)), (rbe, .inl (cI, 12, .inl be)), (rfa, .inl (cI, 6, .inl fa)), (rpl, .inl (cI, 60, .inl pq)), (rke, .inl (cI, 100, .inl ke)), (rik, .inl (cZ, 2, .inl ik))]) (QcE D (S := Unit) none (fun _ => True) (fun _ => [(mo, .inr (9, [.int tu, .int ga, .int lk, .int stp, .int dbt, .int win, .ref rea, .ref rla, .ref rwe, .ref rst, .ref rsp, .int (nI sn), .ref rpa, .int (nI pn), .int ((lp_X9_goCourse_4 pn tu lk stp ea la we pa ta (pn + 1) 0 0 plc mnt lft abd).1), .int ((lp_X9_goCourse_4 pn tu lk stp ea la we pa ta (pn + 1) 0 0 plc mnt lft abd).2.1), .int ((lp_X9_goCourse_4 pn tu lk stp ea la we pa ta (pn + 1) 0 0 plc mnt lft abd).2.2.1), .int ((lp_X9_goCourse_4 pn tu lk stp ea la we pa ta (pn + 1) 0 0 plc mnt lft abd).2.2.2), .ref rsa, .ref rta, .ref rbe, .ref rfa, .ref rpl, .ref rke, .ref rik, .int (nI ka), .int iw])), (rea, .inl (cI, 5, .inl ea)), (rla, .inl (cI, 5, .inl la)), (rwe, .inl (cI, 6, .inl we)), (rst, .inl (cI, 6, .inl mT)), (rsp, .inl (cI, 6, .inl mP)), (rpa, .inl (cI, 60, .inl pa)), (rsa, .inl (cI, 61, .inl sa)), (rta, .inl (cI, 12, .inl ta)), (rbe, .inl (cI, 12, .inl be)), (rfa, .inl (cI, 6, .inl fa)), (rpl, .inl (cI, 60, .inl pq)), (rke, .inl (cI, 100, .inl ke)), (rik, .inl (cZ, 2, .inl ik))]) (zA [(mo, .inr (9, [.int tu, .int ga, .int lk, .int stp, .int dbt, .int win, .ref rea, .ref rla, .ref rwe, .ref rst, .ref rsp, .int (nI sn), .ref rpa, .int (nI pn), .int plc, .int mnt, .int lft, .int abd, .ref rsa, .ref rta, .ref rbe, .ref rfa, .ref rpl, .ref rke, .ref rik, .int (nI ka), .int iw])), (rea, .inl (cI, 5, .inl ea)), (rla, .inl (cI, 5, .inl la)), (rwe, .inl (cI, 6, .inl we)), (rst, .inl (cI, 6, .inl mT)), (rsp, .inl (cI, 6, .inl mP)), (rpa, .inl (cI, 60, .inl pa)), (rsa, .inl (cI, 61, .inl sa)), (rta, .inl (cI, 12, .inl ta)), (rbe, .inl (cI, 12, .inl be)), (rfa, .inl (cI, 6, .inl fa)), (rpl, .inl (cI, 60, .inl pq)), (rke, .inl (cI, 100, .inl ke)), (rik, .inl (cZ, 2, .inl ik))])) 0 0 (zA [(mo, .inr (9, [.int tu, .int ga, .int lk, .int stp, .int dbt, .int win, .ref rea, .ref rla, .ref rwe, .ref rst, .ref rsp, .int (nI sn), .ref rpa, .int (nI pn), .int plc, .int mnt, .int lft, .int abd, .ref rsa, .ref rta, .ref rbe, .ref rfa, .ref rpl, .ref rke, .ref rik, .int (nI ka), .int iw])), (rea, .inl (cI, 5, .inl ea)), (rla, .inl (cI, 5, .inl la)), (rwe, .inl (cI, 6, .inl we)), (rst, .inl (cI, 6, .inl mT)), (rsp, .inl (cI, 6, .inl mP)), (rpa, .inl (cI, 60, .inl pa)), (rsa, .inl (cI, 61, .inl sa)), (rta, .inl (cI, 12, .inl ta)), (rbe, .inl (cI, 12, .inl be)), (rfa, .inl (cI, 6, .inl fa)), (rpl, .inl (cI, 60, .inl pq)), (rke, .inl (cI, 100, .inl ke)), (rik, .inl (cZ, 2, .inl ik))]) := by
  refine mtWv (by decide) (Nat.le_of_ble_eq_true rfl) (fun p e s m args below meth c Q A S hT hP hD hS hret ls hl => ?_)
  have S : CallFix p m c cX9_goCourse 3 s args zt RX9 := S
  obtain ⟨hx, hb, hml, hown, hts⟩ := id S
  have hl : lv_has ls 3 [(0, .ref mo)] := hl
  refine lv_iconst (v := 0) hx hb dX9_goCourse_0 (by decide) ?_
  refine lv_istore_n (lv' := [(1, .int 0), (0, .ref mo)]) hx hb dX9_goCourse_1 rfl hl (by decide) rfl (fun ls hl => ?_)
  refine lv_iconst (v := 0) hx hb dX9_goCourse_2 (by decide) ?_
  refine lv_istore_n (lv' := [(2, .int 0), (1, .int 0), (0, .ref mo)]) hx hb dX9_goCourse_3 rfl hl (by decide) rfl (fun ls hl => ?_)
  have X5 : ∀ (y1 : Int32) (y2 : Int32) (y3 : Int32) (y4 : Int32), ((lp_X9_goCourse_4 pn tu lk stp ea la we pa ta (pn + 1) 0 0 plc mnt lft abd).1) = y1 → ((lp_X9_goCourse_4 pn tu lk stp ea la we pa ta (pn + 1) 0 0 plc mnt lft abd).2.1) = y2 → ((lp_X9_goCourse_4 pn tu lk stp ea la we pa ta (pn + 1) 0 0 plc mnt lft abd).2.2.1) = y3 → ((lp_X9_goCourse_4 pn tu lk stp ea la we pa ta (pn + 1) 0 0 plc mnt lft abd).2.2.2) = y4 → ∀ (ls : Array Slot), lv_has ls 3 [(0, .ref mo)] → ∀ (H : Heap) (locs : List Loc), va_P D vwCl [(mo, .inr (9, [.int tu, .int ga, .int lk, .int stp, .int dbt, .int win, .ref rea, .ref rla, .ref rwe, .ref rst, .ref rsp, .int (nI sn), .ref rpa, .int (nI pn), .int y1, .int y2, .int y3, .int y4, .ref rsa, .ref rta, .ref rbe, .ref rfa, .ref rpl, .ref rke, .ref rik, .int (nI ka), .int iw])), (rea, .inl (cI, 5, .inl ea)), (rla, .inl (cI, 5, .inl la)), (rwe, .inl (cI, 6, .inl we)), (rst, .inl (cI, 6, .inl mT)), (rsp, .inl (cI, 6, .inl mP)), (rpa, .inl (cI, 60, .inl pa)), (rsa, .inl (cI, 61, .inl sa)), (rta, .inl (cI, 12, .inl ta)), (rbe, .inl (cI, 12, .inl be)), (rfa, .inl (cI, 6, .inl fa)), (rpl, .inl (cI, 60, .inl pq)), (rke, .inl (cI, 100, .inl ke)), (rik, .inl (cZ, 2, .inl ik))] H → va_D A [(mo, .inr (9, [.int tu, .int ga, .int lk, .int stp, .int dbt, .int win, .ref rea, .ref rla, .ref rwe, .ref rst, .ref rsp, .int (nI sn), .ref rpa, .int (nI pn), .int y1, .int y2, .int y3, .int y4, .ref rsa, .ref rta, .ref rbe, .ref rfa, .ref rpl, .ref rke, .ref rik, .int (nI ka), .int iw])), (rea, .inl (cI, 5, .inl ea)), (rla, .inl (cI, 5, .inl la)), (rwe, .inl (cI, 6, .inl we)), (rst, .inl (cI, 6, .inl mT)), (rsp, .inl (cI, 6, .inl mP)), (rpa, .inl (cI, 60, .inl pa)), (rsa, .inl (cI, 61, .inl sa)), (rta, .inl (cI, 12, .inl ta)), (rbe, .inl (cI, 12, .inl be)), (rfa, .inl (cI, 6, .inl fa)), (rpl, .inl (cI, 60, .inl pq)), (rke, .inl (cI, 100, .inl ke)), (rik, .inl (cZ, 2, .inl ik))] → va_S A s.heap H locs → W p l e rm_X9_goCourse s m args below meth c H locs 0 0 Q (F0 m 65 ls []) := by
    intro y1 y2 y3 y4 ey1 ey2 ey3 ey4 ls hl H locs hP hD hS
    subst ey1 ey2 ey3 ey4
    exact hret _ _ H locs () dX9_goCourse_65  trivial hP hS
  have L6 : ∀ (n9 : Nat) (k : Nat) (q : Nat) (y0_14_4 : Int32) (y0_15_4 : Int32) (y0_16_4 : Int32) (y0_17_4 : Int32), pn - k < n9 → (k ≤ pn) → (q + zct 46 pa k = k) → lp_X9_goCourse_4 pn tu lk stp ea la we pa ta n9 k q y0_14_4 y0_15_4 y0_16_4 y0_17_4 = lp_X9_goCourse_4 pn tu lk stp ea la we pa ta (pn + 1) 0 0 plc mnt lft abd → ∀ (ls : Array Slot), lv_has ls 3 [(0, .ref mo), (1, .int (nI q)), (2, .int (nI k))] → ∀ (H : Heap) (locs : List Loc), va_P D vwCl [(mo, .inr (9, [.int tu, .int ga, .int lk, .int stp, .int dbt, .int win, .ref rea, .ref rla, .ref rwe, .ref rst, .ref rsp, .int (nI sn), .ref rpa, .int (nI pn), .int y0_14_4, .int y0_15_4, .int y0_16_4, .int y0_17_4, .ref rsa, .ref rta, .ref rbe, .ref rfa, .ref rpl, .ref rke, .ref rik, .int (nI ka), .int iw])), (rea, .inl (cI, 5, .inl ea)), (rla, .inl (cI, 5, .inl la)), (rwe, .inl (cI, 6, .inl we)), (rst, .inl (cI, 6, .inl mT)), (rsp, .inl (cI, 6, .inl mP)), (rpa, .inl (cI, 60, .inl pa)), (rsa, .inl (cI, 61, .inl sa)), (rta, .inl (cI, 12, .inl ta)), (rbe, .inl (cI, 12, .inl be)), (rfa, .inl (cI, 6, .inl fa)), (rpl, .inl (cI, 60, .inl pq)), (rke, .inl (cI, 100, .inl ke)), (rik, .inl (cZ, 2, .inl ik))] H → va_D A [(mo, .inr (9, [.int tu, .int ga, .int lk, .int stp, .int dbt, .int win, .ref rea, .ref rla, .ref rwe, .ref rst, .ref rsp, .int (nI sn), .ref rpa, .int (nI pn), .int y0_14_4, .int y0_15_4, .int y0_16_4, .int y0_17_4, .ref rsa, .ref rta, .ref rbe, .ref rfa, .ref rpl, .ref rke, .ref rik, .int (nI ka), .int iw])), (rea, .inl (cI, 5, .inl ea)), (rla, .inl (cI, 5, .inl la)), (rwe, .inl (cI, 6, .inl we)), (rst, .inl (cI, 6, .inl mT)), (rsp, .inl (cI, 6, .inl mP)), (rpa, .inl (cI, 60, .inl pa)), (rsa, .inl (cI, 61, .inl sa)), (rta, .inl (cI, 12, .inl ta)), (rbe, .inl (cI, 12, .inl be)), (rfa, .inl (cI, 6, .inl fa)), (rpl, .inl (cI, 60, .inl pq)), (rke, .inl (cI, 100, .inl ke)), (rik, .inl (cZ, 2, .inl ik))] → va_S A s.heap H locs → W p l e rm_X9_goCourse s m args below meth c H locs 0 0 Q (F0 m 4 ls []) := by
    intro n9
    induction n9 with
    | zero => intro k q y0_14_4 y0_15_4 y0_16_4 y0_17_4 hm; exact absurd hm (Nat.not_lt_zero _)
    | succ n9 ih8 =>
      intro k q y0_14_4 y0_15_4 y0_16_4 y0_17_4 hm10 hk hq hv7 ls hl H locs hP hD hS
      refine lv_iload_n hx hb dX9_goCourse_4 rfl (lv_at hl 2 rfl) ?_
      refine lv_aload_n hx hb dX9_goCourse_5 rfl (lv_at hl 0 rfl) ?_
      refine va_get (D := D) (ci := 9) (v := .int (nI pn)) (C := RX9) (T := TX9) (N := 27) hx hb hts in_X9 hown hT.1 hP 0 rfl rfl 13 (by decide) (hts _ fl_RX9_95) (fun _ h9 => h9) rfl dX9_goCourse_6 ?_
      refine lv_icmp_ge (tgt := 65) hx hb dX9_goCourse_9 (by decide) (fun c11 => ?_) (fun c11 => ?_)
      · have nc11 := zNle (a := pn) (b := k) c11 (by omega) (by omega)
        exact X5 _ _ _ _ (by rw [← hv7, lp_X9_goCourse_4, if_pos c11]) (by rw [← hv7, lp_X9_goCourse_4, if_pos c11]) (by rw [← hv7, lp_X9_goCourse_4, if_pos c11]) (by rw [← hv7, lp_X9_goCourse_4, if_pos c11]) ls (lv_sub hl [0] rfl) H locs hP hD hS
      · have nc11 := zNnle (a := pn) (b := k) c11 (by omega) (by omega)
        refine lv_aload_n hx hb dX9_goCourse_12 rfl (lv_at hl 0 rfl) ?_
        refine va_get (D := D) (ci := 9) (v := .ref rpa) (C := RX9) (T := TX9) (N := 27) hx hb hts in_X9 hown hT.1 hP 0 rfl rfl 12 (by decide) (hts _ fl_RX9_25) (fun _ h9 => h9) rfl dX9_goCourse_13 ?_
        refine lv_iload_n hx hb dX9_goCourse_16 rfl (lv_at hl 2 rfl) ?_
        refine zald (D := D) (k := k) hx hb hT.1 hP 6 0 rfl rfl (by omega) (by omega) dX9_goCourse_17 ?_
        refine lv_bipush (v := 46) hx hb dX9_goCourse_18 (by decide) ?_
        refine lv_icmp_ne (tgt := 30) hx hb dX9_goCourse_20 (by decide) (fun c12 => ?_) (fun c12 => ?_)
        · refine lv_aload_n hx hb dX9_goCourse_30 rfl (lv_at hl 0 rfl) ?_
          refine lv_aload_n hx hb dX9_goCourse_31 rfl (lv_at hl 0 rfl) ?_
          refine va_get (D := D) (ci := 9) (v := .ref rta) (C := RX9) (T := TX9) (N := 27) hx hb hts in_X9 hown hT.1 hP 0 rfl rfl 19 (by decide) (hts _ fl_RX9_31) (fun _ h9 => h9) rfl dX9_goCourse_32 ?_
          refine lv_iload_n hx hb dX9_goCourse_35 rfl (lv_at hl 1 rfl) ?_
          refine zald (D := D) (k := q) hx hb hT.1 hP 8 0 rfl rfl (zq12 hq c12 (by omega) hnd) (by omega) dX9_goCourse_36 ?_
          refine lv_bipush (v := 6) hx hb dX9_goCourse_37 (by decide) ?_
          have J14 : ∀ (z13 : Int32), ((if 6 ≤ ta q then (-6) else ta q) : Int32) = z13 → W p l e rm_X9_goCourse s m args below meth c H locs 0 0 Q (F0 m 53 ls [.int z13, .ref mo]) := by
            intro z13 ez13
            subst ez13
            refine kEV (q0 := 0) (st1 := []) S hT hP hD hS (c_X9_throwOut l D cI cZ mo rea rla rwe rst rsp rpa rsa rta rbe rfa rpl rke rik sn pn ka tu ga lk stp dbt win y0_14_4 y0_15_4 y0_16_4 y0_17_4 iw ea la we mT mP pa sa ta be fa pq ke ik ((if 6 ≤ ta q then (-6) else ta q) : Int32)) rfl rfl mw_X9_throwOut lk_RX9_124 ⟨rfl, rfl, (Nat.le_of_ble_eq_true rfl), (Nat.le_of_ble_eq_true rfl), (Nat.le_of_ble_eq_true rfl), (Nat.le_of_ble_eq_true rfl)⟩ [0, 1, 2, 3, 4, 5, 6, 7, 8, 9, 10, 11, 12, 13] [mo, rea, rla, rwe, rst, rsp, rpa, rsa, rta, rbe, rfa, rpl, rke, rik] (by decide) rfl rfl (fun _ => rfl) rfl rfl hl.1 (Nat.le_of_ble_eq_true rfl) dX9_goCourse_53 (fun _ H locs _ hP hD hS => ?_)
            have hP : va_P D vwCl [(mo, .inr (9, [.int tu, .int ga, .int lk, .int stp, .int dbt, .int win, .ref rea, .ref rla, .ref rwe, .ref rst, .ref rsp, .int (nI sn), .ref rpa, .int (nI pn), .int y0_14_4, .int y0_15_4, .int y0_16_4, .int (s_X9_throwOut_abd y0_17_4 ((if 6 ≤ ta q then (-6) else ta q) : Int32)), .ref rsa, .ref rta, .ref rbe, .ref rfa, .ref rpl, .ref rke, .ref rik, .int (nI ka), .int iw])), (rea, .inl (cI, 5, .inl ea)), (rla, .inl (cI, 5, .inl la)), (rwe, .inl (cI, 6, .inl we)), (rst, .inl (cI, 6, .inl mT)), (rsp, .inl (cI, 6, .inl mP)), (rpa, .inl (cI, 60, .inl pa)), (rsa, .inl (cI, 61, .inl sa)), (rta, .inl (cI, 12, .inl ta)), (rbe, .inl (cI, 12, .inl be)), (rfa, .inl (cI, 6, .inl fa)), (rpl, .inl (cI, 60, .inl pq)), (rke, .inl (cI, 100, .inl ke)), (rik, .inl (cZ, 2, .inl ik))] H := hP
            have hD : va_D A [(mo, .inr (9, [.int tu, .int ga, .int lk, .int stp, .int dbt, .int win, .ref rea, .ref rla, .ref rwe, .ref rst, .ref rsp, .int (nI sn), .ref rpa, .int (nI pn), .int y0_14_4, .int y0_15_4, .int y0_16_4, .int (s_X9_throwOut_abd y0_17_4 ((if 6 ≤ ta q then (-6) else ta q) : Int32)), .ref rsa, .ref rta, .ref rbe, .ref rfa, .ref rpl, .ref rke, .ref rik, .int (nI ka), .int iw])), (rea, .inl (cI, 5, .inl ea)), (rla, .inl (cI, 5, .inl la)), (rwe, .inl (cI, 6, .inl we)), (rst, .inl (cI, 6, .inl mT)), (rsp, .inl (cI, 6, .inl mP)), (rpa, .inl (cI, 60, .inl pa)), (rsa, .inl (cI, 61, .inl sa)), (rta, .inl (cI, 12, .inl ta)), (rbe, .inl (cI, 12, .inl be)), (rfa, .inl (cI, 6, .inl fa)), (rpl, .inl (cI, 60, .inl pq)), (rke, .inl (cI, 100, .inl ke)), (rik, .inl (cZ, 2, .inl ik))] := hD
            refine lv_iinc (v := nI (q + 1)) (lv' := [(1, .int (nI (q + 1))), (0, .ref mo), (2, .int (nI k))]) hx hb dX9_goCourse_56 hl (k := 1) rfl (nI_1 q) (by decide) rfl (fun ls hl => ?_)
            refine lv_iinc (v := nI (k + 1)) (lv' := [(2, .int (nI (k + 1))), (1, .int (nI (q + 1))), (0, .ref mo)]) hx hb dX9_goCourse_59 hl (k := 2) rfl (nI_1 k) (by decide) rfl (fun ls hl => ?_)
            refine lv_goto (tgt := 4) hx hb dX9_goCourse_62 (by decide) ?_
            exact ih8 (k + 1) (q + 1) y0_14_4 y0_15_4 y0_16_4 (s_X9_throwOut_abd y0_17_4 ((if 6 ≤ ta q then (-6) else ta q) : Int32)) (by omega) (by omega) (by rw [zct, if_neg c12]; omega) (by rw [← hv7, lp_X9_goCourse_4, if_neg c11, if_neg c12]) ls (lv_sub hl [2, 1, 0] rfl) H locs hP hD hS
          refine lv_icmp_ge (tgt := 51) hx hb dX9_goCourse_39 (by decide) (fun c15 => ?_) (fun c15 => ?_)
          · refine lv_bipush (v := (-6)) hx hb dX9_goCourse_51 (by decide) ?_
            exact J14 (-6) (by rw [if_pos c15])
          · refine lv_aload_n hx hb dX9_goCourse_42 rfl (lv_at hl 0 rfl) ?_
            refine va_get (D := D) (ci := 9) (v := .ref rta) (C := RX9) (T := TX9) (N := 27) hx hb hts in_X9 hown hT.1 hP 0 rfl rfl 19 (by decide) (hts _ fl_RX9_31) (fun _ h9 => h9) rfl dX9_goCourse_43 ?_
            refine lv_iload_n hx hb dX9_goCourse_46 rfl (lv_at hl 1 rfl) ?_
            refine zald (D := D) (k := q) hx hb hT.1 hP 8 0 rfl rfl (zq12 hq c12 (by omega) hnd) (by omega) dX9_goCourse_47 ?_
            refine lv_goto (tgt := 53) hx hb dX9_goCourse_48 (by decide) ?_
            exact J14 (ta q) (by rw [if_neg c15])
        · refine lv_aload_n hx hb dX9_goCourse_23 rfl (lv_at hl 0 rfl) ?_
          refine kEV (q0 := 0) (st1 := []) S hT hP hD hS (c_X9_drift l D cI cZ mo rea rla rwe rst rsp rpa rsa rta rbe rfa rpl rke rik sn pn ka tu ga lk stp dbt win y0_14_4 y0_15_4 y0_16_4 y0_17_4 iw ea la we mT mP pa sa ta be fa pq ke ik (by first | assumption | decide | omega)) rfl rfl mw_X9_drift lk_RX9_121 ⟨rfl, rfl, (Nat.le_of_ble_eq_true rfl), (Nat.le_of_ble_eq_true rfl), (Nat.le_of_ble_eq_true rfl), (Nat.le_of_ble_eq_true rfl)⟩ [0, 1, 2, 3, 4, 5, 6, 7, 8, 9, 10, 11, 12, 13] [mo, rea, rla, rwe, rst, rsp, rpa, rsa, rta, rbe, rfa, rpl, rke, rik] (by decide) rfl rfl (fun _ => rfl) rfl rfl hl.1 (Nat.le_of_ble_eq_true rfl) dX9_goCourse_24 (fun _ H locs _ hP hD hS => ?_)
          have hP : va_P D vwCl [(mo, .inr (9, [.int tu, .int ga, .int lk, .int stp, .int dbt, .int win, .ref rea, .ref rla, .ref rwe, .ref rst, .ref rsp, .int (nI sn), .ref rpa, .int (nI pn), .int (y0_14_4 + ((if tu ≤ y0_15_4 then la (s_X9_height stp y0_16_4 y0_17_4 we).toNatClampNeg else ea (s_X9_height stp y0_16_4 y0_17_4 we).toNatClampNeg) : Int32)), .int (y0_15_4 + 1), .int ((if y0_16_4 ≤ lk then 0 else y0_16_4 - lk) : Int32), .int y0_17_4, .ref rsa, .ref rta, .ref rbe, .ref rfa, .ref rpl, .ref rke, .ref rik, .int (nI ka), .int iw])), (rea, .inl (cI, 5, .inl ea)), (rla, .inl (cI, 5, .inl la)), (rwe, .inl (cI, 6, .inl we)), (rst, .inl (cI, 6, .inl mT)), (rsp, .inl (cI, 6, .inl mP)), (rpa, .inl (cI, 60, .inl pa)), (rsa, .inl (cI, 61, .inl sa)), (rta, .inl (cI, 12, .inl ta)), (rbe, .inl (cI, 12, .inl be)), (rfa, .inl (cI, 6, .inl fa)), (rpl, .inl (cI, 60, .inl pq)), (rke, .inl (cI, 100, .inl ke)), (rik, .inl (cZ, 2, .inl ik))] H := hP
          have hD : va_D A [(mo, .inr (9, [.int tu, .int ga, .int lk, .int stp, .int dbt, .int win, .ref rea, .ref rla, .ref rwe, .ref rst, .ref rsp, .int (nI sn), .ref rpa, .int (nI pn), .int (y0_14_4 + ((if tu ≤ y0_15_4 then la (s_X9_height stp y0_16_4 y0_17_4 we).toNatClampNeg else ea (s_X9_height stp y0_16_4 y0_17_4 we).toNatClampNeg) : Int32)), .int (y0_15_4 + 1), .int ((if y0_16_4 ≤ lk then 0 else y0_16_4 - lk) : Int32), .int y0_17_4, .ref rsa, .ref rta, .ref rbe, .ref rfa, .ref rpl, .ref rke, .ref rik, .int (nI ka), .int iw])), (rea, .inl (cI, 5, .inl ea)), (rla, .inl (cI, 5, .inl la)), (rwe, .inl (cI, 6, .inl we)), (rst, .inl (cI, 6, .inl mT)), (rsp, .inl (cI, 6, .inl mP)), (rpa, .inl (cI, 60, .inl pa)), (rsa, .inl (cI, 61, .inl sa)), (rta, .inl (cI, 12, .inl ta)), (rbe, .inl (cI, 12, .inl be)), (rfa, .inl (cI, 6, .inl fa)), (rpl, .inl (cI, 60, .inl pq)), (rke, .inl (cI, 100, .inl ke)), (rik, .inl (cZ, 2, .inl ik))] := hD
          refine lv_goto (tgt := 59) hx hb dX9_goCourse_27 (by decide) ?_
          refine lv_iinc (v := nI (k + 1)) (lv' := [(2, .int (nI (k + 1))), (0, .ref mo), (1, .int (nI q))]) hx hb dX9_goCourse_59 hl (k := 2) rfl (nI_1 k) (by decide) rfl (fun ls hl => ?_)
          refine lv_goto (tgt := 4) hx hb dX9_goCourse_62 (by decide) ?_
          exact ih8 (k + 1) q (y0_14_4 + ((if tu ≤ y0_15_4 then la (s_X9_height stp y0_16_4 y0_17_4 we).toNatClampNeg else ea (s_X9_height stp y0_16_4 y0_17_4 we).toNatClampNeg) : Int32)) (y0_15_4 + 1) ((if y0_16_4 ≤ lk then 0 else y0_16_4 - lk) : Int32) y0_17_4 (by omega) (by omega) (by rw [zct, if_pos c12]; omega) (by rw [← hv7, lp_X9_goCourse_4, if_neg c11, if_pos c12]) ls (lv_sub hl [1, 2, 0] rfl) H locs hP hD hS
  exact L6 (pn + 1) 0 0 plc mnt lft abd (by omega) (by omega) rfl rfl ls (lv_sub hl [2, 1, 0] rfl) s.heap [] hP hD hS
def lp_X9_goChance_12 (pn : Nat) (tu : Int32) (lk : Int32) (stp : Int32) (ea : Nat → Int32) (la : Nat → Int32) (we : Nat → Int32) (pa : Nat → Int32) (set : Int32) (cc_ : Int32) : Nat → Nat → Int32 → Int64 → Int32 → Int32 → Int32 → Int32 → Int64 × Int32 × Int32 × Int32 × Int32
  | 0, _, _, x3_12, y0_14_12, y0_15_12, y0_16_12, y0_17_12 => (x3_12, y0_14_12, y0_15_12, y0_16_12, y0_17_12)
  | fu + 1, k, x5_12, x3_12, y0_14_12, y0_15_12, y0_16_12, y0_17_12 => if nI pn ≤ nI k then (x3_12, y0_14_12, y0_15_12, y0_16_12, y0_17_12) else (if pa k = 46 then lp_X9_goChance_12 pn tu lk stp ea la we pa set cc_ fu (k + 1) x5_12 x3_12 (y0_14_12 + ((if tu ≤ y0_15_12 then la (s_X9_height stp y0_16_12 y0_17_12 we).toNatClampNeg else ea (s_X9_height stp y0_16_12 y0_17_12 we).toNatClampNeg) : Int32)) (y0_15_12 + 1) ((if y0_16_12 ≤ lk then 0 else y0_16_12 - lk) : Int32) y0_17_12 else (if ((if ((set >>> (x5_12 &&& 31)) &&& 1) = 1 then 1 else 0) : Int32) = 0 then lp_X9_goChance_12 pn tu lk stp ea la we pa set cc_ fu (k + 1) (x5_12 + 1) (x3_12 * (Int32.toInt64 (10 - cc_))) y0_14_12 y0_15_12 y0_16_12 (s_X9_throwOut_abd y0_17_12 ((if ((if ((set >>> (x5_12 &&& 31)) &&& 1) = 1 then 1 else 0) : Int32) = 0 then (-6) else (lp_X9_heaviest_5 y0_17_12 we 7 0 (-6))) : Int32)) else lp_X9_goChance_12 pn tu lk stp ea la we pa set cc_ fu (k + 1) (x5_12 + 1) (x3_12 * (Int32.toInt64 cc_)) y0_14_12 y0_15_12 y0_16_12 (s_X9_throwOut_abd y0_17_12 ((if ((if ((set >>> (x5_12 &&& 31)) &&& 1) = 1 then 1 else 0) : Int32) = 0 then (-6) else (lp_X9_heaviest_5 y0_17_12 we 7 0 (-6))) : Int32))))
abbrev rm_X9_goChance : Room := { frames := 2, cells := 0, slots := 0, locals := 42 }
set_option maxRecDepth 100000 in
set_option maxHeartbeats 4000000 in
theorem c_X9_goChance (l : Launch) (D : va_G) (cI cZ : ClassId) (mo rea rla rwe rst rsp rpa rsa rta rbe rfa rpl rke rik sn pn ka : Nat) (tu ga lk stp dbt win plc mnt lft abd iw : Int32) (ea la we mT mP pa sa ta be fa pq ke ik : Nat → Int32) (set cc_ : Int32) (hpn : pn ≤ 60) (hstp : 1 ≤ stp) : Met l yX9_goChance [.code yX9_goChance cX9_goChance 8 (some .long)] rm_X9_goChance (PcW D cI cZ [.ref mo, .int set, .int cc_] [(mo, .inr (9, [.int tu, .int ga, .int lk, .int stp, .int dbt, .int win, .ref rea, .ref rla, .ref rwe, .ref rst, .ref rsp, .int (nI sn), .ref rpa, .int (nI pn), .int plc, .int mnt, .int lft, .int abd, .ref rsa, .ref rta, .ref rbe, .ref rfa, .ref rpl, .ref rke, .ref rik, .int (nI ka), .int iw])), (rea, .inl (cI, 5, .inl ea)), (rla, .inl (cI, 5, .inl la)), (rwe, .inl (cI, 6, .inl we)), (rst, .inl (cI, 6, .inl mT)), (rsp, .inl (cI, 6, .inl mP)), (rpa, .inl (cI, 60, .inl pa)), (rsa, .inl (cI, 61, .inl sa)), (rta, .inl (cI, 12, .inl ta)), (rbe, .inl (cI, 12, .inl be)), (rfa, .inl (cI, 6, .inl fa)), (rpl, .inl (cI, 60, .inl pq)), (rke, .inl (cI, 100, .inl ke)), (rik, .inl (cZ, 2, .inl ik))]) (QcE D (S := Unit) (some (.long ((lp_X9_goChance_12 pn tu lk stp ea la we pa set cc_ (pn + 1) 0 0 1 0 0 ga (lp_X9_loaded_4 we 7 0 0)).1))) (fun _ => True) (fun _ => [(mo, .inr (9, [.int tu, .int ga, .int lk, .int stp, .int dbt, .int win, .ref rea, .ref rla, .ref rwe, .ref rst, .ref rsp, .int (nI sn), .ref rpa, .int (nI pn), .int ((lp_X9_goChance_12 pn tu lk stp ea la we pa set cc_ (pn + 1) 0 0 1 0 0 ga (lp_X9_loaded_4 we 7 0 0)).2.1), .int ((lp_X9_goChance_12 pn tu lk stp ea la we pa set cc_ (pn + 1) 0 0 1 0 0 ga (lp_X9_loaded_4 we 7 0 0)).2.2.1), .int ((lp_X9_goChance_12 pn tu lk stp ea la we pa set cc_ (pn + 1) 0 0 1 0 0 ga (lp_X9_loaded_4 we 7 0 0)).2.2.2.1), .int ((lp_X9_goChance_12 pn tu lk stp ea la we pa set cc_ (pn + 1) 0 0 1 0 0 ga (lp_X9_loaded_4 we 7 0 0)).2.2.2.2), .ref rsa, .ref rta, .ref rbe, .ref rfa, .ref rpl, .ref rke, .ref rik, .int (nI ka), .int iw])), (rea, .inl (cI, 5, .inl ea)), (rla, .inl (cI, 5, .inl la)), (rwe, .inl (cI, 6, .inl we)), (rst, .inl (cI, 6, .inl mT)), (rsp, .inl (cI, 6, .inl mP)), (rpa, .inl (cI, 60, .inl pa)), (rsa, .inl (cI, 61, .inl sa)), (rta, .inl (cI, 12, .inl ta)), (rbe, .inl (cI, 12, .inl be)), (rfa, .inl (cI, 6, .inl fa)), (rpl, .inl (cI, 60, .inl pq)), (rke, .inl (cI, 100, .inl ke)), (rik, .inl (cZ, 2, .inl ik))]) (zA [(mo, .inr (9, [.int tu, .int ga, .int lk, .int stp, .int dbt, .int win, .ref rea, .ref rla, .ref rwe, .ref rst, .ref rsp, .int (nI sn), .ref rpa, .int (nI pn), .int plc, .int mnt, .int lft, .int abd, .ref rsa, .ref rta, .ref rbe, .ref rfa, .ref rpl, .ref rke, .ref rik, .int (nI ka), .int iw])), (rea, .inl (cI, 5, .inl ea)), (rla, .inl (cI, 5, .inl la)), (rwe, .inl (cI, 6, .inl we)), (rst, .inl (cI, 6, .inl mT)), (rsp, .inl (cI, 6, .inl mP)), (rpa, .inl (cI, 60, .inl pa)), (rsa, .inl (cI, 61, .inl sa)), (rta, .inl (cI, 12, .inl ta)), (rbe, .inl (cI, 12, .inl be)), (rfa, .inl (cI, 6, .inl fa)), (rpl, .inl (cI, 60, .inl pq)), (rke, .inl (cI, 100, .inl ke)), (rik, .inl (cZ, 2, .inl ik))])) 0 0 (zA [(mo, .inr (9, [.int tu, .int ga, .int lk, .int stp, .int dbt, .int win, .ref rea, .ref rla, .ref rwe, .ref rst, .ref rsp, .int (nI sn), .ref rpa, .int (nI pn), .int plc, .int mnt, .int lft, .int abd, .ref rsa, .ref rta, .ref rbe, .ref rfa, .ref rpl, .ref rke, .ref rik, .int (nI ka), .int iw])), (rea, .inl (cI, 5, .inl ea)), (rla, .inl (cI, 5, .inl la)), (rwe, .inl (cI, 6, .inl we)), (rst, .inl (cI, 6, .inl mT)), (rsp, .inl (cI, 6, .inl mP)), (rpa, .inl (cI, 60, .inl pa)), (rsa, .inl (cI, 61, .inl sa)), (rta, .inl (cI, 12, .inl ta)), (rbe, .inl (cI, 12, .inl be)), (rfa, .inl (cI, 6, .inl fa)), (rpl, .inl (cI, 60, .inl pq)), (rke, .inl (cI, 100, .inl ke)), (rik, .inl (cZ, 2, .inl ik))]) := by
  refine mtWl (by decide) (Nat.le_of_ble_eq_true rfl) (fun p e s m args below meth c Q A S hT hP hD hS hret ls hl => ?_)
  have S : CallFix p m c cX9_goChance 8 s args zt RX9 := S
  obtain ⟨hx, hb, hml, hown, hts⟩ := id S
  have hl : lv_has ls 8 [(0, .ref mo), (1, .int set), (2, .int cc_)] := hl
  refine lv_aload_n hx hb dX9_goChance_0 rfl (lv_at hl 0 rfl) ?_
  refine kEV (q0 := 0) (st1 := []) S hT hP hD hS (c_X9_startNow l D cI cZ mo rea rla rwe rst rsp rpa rsa rta rbe rfa rpl rke rik sn pn ka tu ga lk stp dbt win plc mnt lft abd iw ea la we mT mP pa sa ta be fa pq ke ik) rfl rfl mw_X9_startNow lk_RX9_138 ⟨rfl, rfl, (Nat.le_of_ble_eq_true rfl), (Nat.le_of_ble_eq_true rfl), (Nat.le_of_ble_eq_true rfl), (Nat.le_of_ble_eq_true rfl)⟩ [0, 1, 2, 3, 4, 5, 6, 7, 8, 9, 10, 11, 12, 13] [mo, rea, rla, rwe, rst, rsp, rpa, rsa, rta, rbe, rfa, rpl, rke, rik] (by decide) rfl rfl (fun _ => rfl) rfl rfl hl.1 (Nat.le_of_ble_eq_true rfl) dX9_goChance_1 (fun _ H locs _ hP hD hS => ?_)
  have hP : va_P D vwCl [(mo, .inr (9, [.int tu, .int ga, .int lk, .int stp, .int dbt, .int win, .ref rea, .ref rla, .ref rwe, .ref rst, .ref rsp, .int (nI sn), .ref rpa, .int (nI pn), .int 0, .int 0, .int ga, .int (lp_X9_loaded_4 we 7 0 0), .ref rsa, .ref rta, .ref rbe, .ref rfa, .ref rpl, .ref rke, .ref rik, .int (nI ka), .int iw])), (rea, .inl (cI, 5, .inl ea)), (rla, .inl (cI, 5, .inl la)), (rwe, .inl (cI, 6, .inl we)), (rst, .inl (cI, 6, .inl mT)), (rsp, .inl (cI, 6, .inl mP)), (rpa, .inl (cI, 60, .inl pa)), (rsa, .inl (cI, 61, .inl sa)), (rta, .inl (cI, 12, .inl ta)), (rbe, .inl (cI, 12, .inl be)), (rfa, .inl (cI, 6, .inl fa)), (rpl, .inl (cI, 60, .inl pq)), (rke, .inl (cI, 100, .inl ke)), (rik, .inl (cZ, 2, .inl ik))] H := hP
  have hD : va_D A [(mo, .inr (9, [.int tu, .int ga, .int lk, .int stp, .int dbt, .int win, .ref rea, .ref rla, .ref rwe, .ref rst, .ref rsp, .int (nI sn), .ref rpa, .int (nI pn), .int 0, .int 0, .int ga, .int (lp_X9_loaded_4 we 7 0 0), .ref rsa, .ref rta, .ref rbe, .ref rfa, .ref rpl, .ref rke, .ref rik, .int (nI ka), .int iw])), (rea, .inl (cI, 5, .inl ea)), (rla, .inl (cI, 5, .inl la)), (rwe, .inl (cI, 6, .inl we)), (rst, .inl (cI, 6, .inl mT)), (rsp, .inl (cI, 6, .inl mP)), (rpa, .inl (cI, 60, .inl pa)), (rsa, .inl (cI, 61, .inl sa)), (rta, .inl (cI, 12, .inl ta)), (rbe, .inl (cI, 12, .inl be)), (rfa, .inl (cI, 6, .inl fa)), (rpl, .inl (cI, 60, .inl pq)), (rke, .inl (cI, 100, .inl ke)), (rik, .inl (cZ, 2, .inl ik))] := hD
  refine lv_lconst (v := 1) hx hb dX9_goChance_4 (by decide) ?_
  refine lv_lstore_n (lv' := [(3, .long 1), (0, .ref mo), (1, .int set), (2, .int cc_)]) hx hb dX9_goChance_5 rfl hl (by decide) rfl (fun ls hl => ?_)
  refine lv_iconst (v := 0) hx hb dX9_goChance_6 (by decide) ?_
  refine lv_istore (lv' := [(5, .int 0), (3, .long 1), (0, .ref mo), (1, .int set), (2, .int cc_)]) hx hb dX9_goChance_7 hl (by decide) rfl (fun ls hl => ?_)
  refine lv_iconst (v := 0) hx hb dX9_goChance_9 (by decide) ?_
  refine lv_istore (lv' := [(6, .int 0), (5, .int 0), (3, .long 1), (0, .ref mo), (1, .int set), (2, .int cc_)]) hx hb dX9_goChance_10 hl (by decide) rfl (fun ls hl => ?_)
  have X6 : ∀ (y1 : Int64) (y2 : Int32) (y3 : Int32) (y4 : Int32) (y5 : Int32), ((lp_X9_goChance_12 pn tu lk stp ea la we pa set cc_ (pn + 1) 0 0 1 0 0 ga (lp_X9_loaded_4 we 7 0 0)).1) = y1 → ((lp_X9_goChance_12 pn tu lk stp ea la we pa set cc_ (pn + 1) 0 0 1 0 0 ga (lp_X9_loaded_4 we 7 0 0)).2.1) = y2 → ((lp_X9_goChance_12 pn tu lk stp ea la we pa set cc_ (pn + 1) 0 0 1 0 0 ga (lp_X9_loaded_4 we 7 0 0)).2.2.1) = y3 → ((lp_X9_goChance_12 pn tu lk stp ea la we pa set cc_ (pn + 1) 0 0 1 0 0 ga (lp_X9_loaded_4 we 7 0 0)).2.2.2.1) = y4 → ((lp_X9_goChance_12 pn tu lk stp ea la we pa set cc_ (pn + 1) 0 0 1 0 0 ga (lp_X9_loaded_4 we 7 0 0)).2.2.2.2) = y5 → ∀ (ls : Array Slot), lv_has ls 8 [(0, .ref mo), (1, .int set), (2, .int cc_), (3, .long y1)] → ∀ (H : Heap) (locs : List Loc), va_P D vwCl [(mo, .inr (9, [.int tu, .int ga, .int lk, .int stp, .int dbt, .int win, .ref rea, .ref rla, .ref rwe, .ref rst, .ref rsp, .int (nI sn), .ref rpa, .int (nI pn), .int y2, .int y3, .int y4, .int y5, .ref rsa, .ref rta, .ref rbe, .ref rfa, .ref rpl, .ref rke, .ref rik, .int (nI ka), .int iw])), (rea, .inl (cI, 5, .inl ea)), (rla, .inl (cI, 5, .inl la)), (rwe, .inl (cI, 6, .inl we)), (rst, .inl (cI, 6, .inl mT)), (rsp, .inl (cI, 6, .inl mP)), (rpa, .inl (cI, 60, .inl pa)), (rsa, .inl (cI, 61, .inl sa)), (rta, .inl (cI, 12, .inl ta)), (rbe, .inl (cI, 12, .inl be)), (rfa, .inl (cI, 6, .inl fa)), (rpl, .inl (cI, 60, .inl pq)), (rke, .inl (cI, 100, .inl ke)), (rik, .inl (cZ, 2, .inl ik))] H → va_D A [(mo, .inr (9, [.int tu, .int ga, .int lk, .int stp, .int dbt, .int win, .ref rea, .ref rla, .ref rwe, .ref rst, .ref rsp, .int (nI sn), .ref rpa, .int (nI pn), .int y2, .int y3, .int y4, .int y5, .ref rsa, .ref rta, .ref rbe, .ref rfa, .ref rpl, .ref rke, .ref rik, .int (nI ka), .int iw])), (rea, .inl (cI, 5, .inl ea)), (rla, .inl (cI, 5, .inl la)), (rwe, .inl (cI, 6, .inl we)), (rst, .inl (cI, 6, .inl mT)), (rsp, .inl (cI, 6, .inl mP)), (rpa, .inl (cI, 60, .inl pa)), (rsa, .inl (cI, 61, .inl sa)), (rta, .inl (cI, 12, .inl ta)), (rbe, .inl (cI, 12, .inl be)), (rfa, .inl (cI, 6, .inl fa)), (rpl, .inl (cI, 60, .inl pq)), (rke, .inl (cI, 100, .inl ke)), (rik, .inl (cZ, 2, .inl ik))] → va_S A s.heap H locs → W p l e rm_X9_goChance s m args below meth c H locs 0 0 Q (F0 m 102 ls []) := by
    intro y1 y2 y3 y4 y5 ey1 ey2 ey3 ey4 ey5 ls hl H locs hP hD hS
    subst ey1 ey2 ey3 ey4 ey5
    refine lv_lload_n hx hb dX9_goChance_102 rfl (lv_at hl 3 rfl) ?_
    exact hret _ _ _ H locs () dX9_goChance_103 rfl trivial hP hS
  have L7 : ∀ (n10 : Nat) (k : Nat) (x5_12 : Int32) (x3_12 : Int64) (y0_14_12 : Int32) (y0_15_12 : Int32) (y0_16_12 : Int32) (y0_17_12 : Int32), pn - k < n10 → (k ≤ pn) → lp_X9_goChance_12 pn tu lk stp ea la we pa set cc_ n10 k x5_12 x3_12 y0_14_12 y0_15_12 y0_16_12 y0_17_12 = lp_X9_goChance_12 pn tu lk stp ea la we pa set cc_ (pn + 1) 0 0 1 0 0 ga (lp_X9_loaded_4 we 7 0 0) → ∀ (ls : Array Slot), lv_has ls 8 [(0, .ref mo), (1, .int set), (2, .int cc_), (3, .long x3_12), (5, .int x5_12), (6, .int (nI k))] → ∀ (H : Heap) (locs : List Loc), va_P D vwCl [(mo, .inr (9, [.int tu, .int ga, .int lk, .int stp, .int dbt, .int win, .ref rea, .ref rla, .ref rwe, .ref rst, .ref rsp, .int (nI sn), .ref rpa, .int (nI pn), .int y0_14_12, .int y0_15_12, .int y0_16_12, .int y0_17_12, .ref rsa, .ref rta, .ref rbe, .ref rfa, .ref rpl, .ref rke, .ref rik, .int (nI ka), .int iw])), (rea, .inl (cI, 5, .inl ea)), (rla, .inl (cI, 5, .inl la)), (rwe, .inl (cI, 6, .inl we)), (rst, .inl (cI, 6, .inl mT)), (rsp, .inl (cI, 6, .inl mP)), (rpa, .inl (cI, 60, .inl pa)), (rsa, .inl (cI, 61, .inl sa)), (rta, .inl (cI, 12, .inl ta)), (rbe, .inl (cI, 12, .inl be)), (rfa, .inl (cI, 6, .inl fa)), (rpl, .inl (cI, 60, .inl pq)), (rke, .inl (cI, 100, .inl ke)), (rik, .inl (cZ, 2, .inl ik))] H → va_D A [(mo, .inr (9, [.int tu, .int ga, .int lk, .int stp, .int dbt, .int win, .ref rea, .ref rla, .ref rwe, .ref rst, .ref rsp, .int (nI sn), .ref rpa, .int (nI pn), .int y0_14_12, .int y0_15_12, .int y0_16_12, .int y0_17_12, .ref rsa, .ref rta, .ref rbe, .ref rfa, .ref rpl, .ref rke, .ref rik, .int (nI ka), .int iw])), (rea, .inl (cI, 5, .inl ea)), (rla, .inl (cI, 5, .inl la)), (rwe, .inl (cI, 6, .inl we)), (rst, .inl (cI, 6, .inl mT)), (rsp, .inl (cI, 6, .inl mP)), (rpa, .inl (cI, 60, .inl pa)), (rsa, .inl (cI, 61, .inl sa)), (rta, .inl (cI, 12, .inl ta)), (rbe, .inl (cI, 12, .inl be)), (rfa, .inl (cI, 6, .inl fa)), (rpl, .inl (cI, 60, .inl pq)), (rke, .inl (cI, 100, .inl ke)), (rik, .inl (cZ, 2, .inl ik))] → va_S A s.heap H locs → W p l e rm_X9_goChance s m args below meth c H locs 0 0 Q (F0 m 12 ls []) := by
    intro n10
    induction n10 with
    | zero => intro k x5_12 x3_12 y0_14_12 y0_15_12 y0_16_12 y0_17_12 hm; exact absurd hm (Nat.not_lt_zero _)
    | succ n10 ih9 =>
      intro k x5_12 x3_12 y0_14_12 y0_15_12 y0_16_12 y0_17_12 hm11 hk hv8 ls hl H locs hP hD hS
      refine lv_iload hx hb dX9_goChance_12 (lv_at hl 5 rfl) ?_
      refine lv_aload_n hx hb dX9_goChance_14 rfl (lv_at hl 0 rfl) ?_
      refine va_get (D := D) (ci := 9) (v := .int (nI pn)) (C := RX9) (T := TX9) (N := 27) hx hb hts in_X9 hown hT.1 hP 0 rfl rfl 13 (by decide) (hts _ fl_RX9_95) (fun _ h9 => h9) rfl dX9_goChance_15 ?_
      refine lv_icmp_ge (tgt := 102) hx hb dX9_goChance_18 (by decide) (fun c12 => ?_) (fun c12 => ?_)
      · have nc12 := zNle (a := pn) (b := k) c12 (by omega) (by omega)
        exact X6 _ _ _ _ _ (by rw [← hv8, lp_X9_goChance_12, if_pos c12] <;> simp only [if_pos c12]) (by rw [← hv8, lp_X9_goChance_12, if_pos c12] <;> simp only [if_pos c12]) (by rw [← hv8, lp_X9_goChance_12, if_pos c12] <;> simp only [if_pos c12]) (by rw [← hv8, lp_X9_goChance_12, if_pos c12] <;> simp only [if_pos c12]) (by rw [← hv8, lp_X9_goChance_12, if_pos c12] <;> simp only [if_pos c12]) ls (lv_sub hl [0, 1, 2, 3] rfl) H locs hP hD hS
      · have nc12 := zNnle (a := pn) (b := k) c12 (by omega) (by omega)
        refine lv_aload_n hx hb dX9_goChance_21 rfl (lv_at hl 0 rfl) ?_
        refine va_get (D := D) (ci := 9) (v := .ref rpa) (C := RX9) (T := TX9) (N := 27) hx hb hts in_X9 hown hT.1 hP 0 rfl rfl 12 (by decide) (hts _ fl_RX9_25) (fun _ h9 => h9) rfl dX9_goChance_22 ?_
        refine lv_iload hx hb dX9_goChance_25 (lv_at hl 5 rfl) ?_
        refine zald (D := D) (k := k) hx hb hT.1 hP 6 0 rfl rfl (by omega) (by omega) dX9_goChance_27 ?_
        refine lv_bipush (v := 46) hx hb dX9_goChance_28 (by decide) ?_
        refine lv_icmp_ne (tgt := 40) hx hb dX9_goChance_30 (by decide) (fun c13 => ?_) (fun c13 => ?_)
        · refine lv_iload_n hx hb dX9_goChance_40 rfl (lv_at hl 1 rfl) ?_
          refine lv_iload hx hb dX9_goChance_41 (lv_at hl 4 rfl) ?_
          refine lv_ishr hx hb dX9_goChance_43 ?_
          refine lv_iconst (v := 1) hx hb dX9_goChance_44 (by decide) ?_
          refine lv_iand hx hb dX9_goChance_45 ?_
          refine lv_iconst (v := 1) hx hb dX9_goChance_46 (by decide) ?_
          have J15 : ∀ (z14 : Int32), ((if ((set >>> (x5_12 &&& 31)) &&& 1) = 1 then 1 else 0) : Int32) = z14 → W p l e rm_X9_goChance s m args below meth c H locs 0 0 Q (F0 m 55 ls [.int z14]) := by
            intro z14 ez14
            subst ez14
            refine lv_istore (lv' := [(7, .int ((if ((set >>> (x5_12 &&& 31)) &&& 1) = 1 then 1 else 0) : Int32)), (0, .ref mo), (1, .int set), (2, .int cc_), (3, .long x3_12), (5, .int x5_12), (6, .int (nI k))]) hx hb dX9_goChance_55 hl (by decide) rfl (fun ls hl => ?_)
            refine lv_aload_n hx hb dX9_goChance_57 rfl (lv_at hl 1 rfl) ?_
            refine lv_iload hx hb dX9_goChance_58 (lv_at hl 0 rfl) ?_
            have J17 : ∀ (z16 : Int32), ((if ((if ((set >>> (x5_12 &&& 31)) &&& 1) = 1 then 1 else 0) : Int32) = 0 then (-6) else (lp_X9_heaviest_5 y0_17_12 we 7 0 (-6))) : Int32) = z16 → W p l e rm_X9_goChance s m args below meth c H locs 0 0 Q (F0 m 72 ls [.int z16, .ref mo]) := by
              intro z16 ez16
              subst ez16
              refine kEV (q0 := 0) (st1 := []) S hT hP hD hS (c_X9_throwOut l D cI cZ mo rea rla rwe rst rsp rpa rsa rta rbe rfa rpl rke rik sn pn ka tu ga lk stp dbt win y0_14_12 y0_15_12 y0_16_12 y0_17_12 iw ea la we mT mP pa sa ta be fa pq ke ik ((if ((if ((set >>> (x5_12 &&& 31)) &&& 1) = 1 then 1 else 0) : Int32) = 0 then (-6) else (lp_X9_heaviest_5 y0_17_12 we 7 0 (-6))) : Int32)) rfl rfl mw_X9_throwOut lk_RX9_124 ⟨rfl, rfl, (Nat.le_of_ble_eq_true rfl), (Nat.le_of_ble_eq_true rfl), (Nat.le_of_ble_eq_true rfl), (Nat.le_of_ble_eq_true rfl)⟩ [0, 1, 2, 3, 4, 5, 6, 7, 8, 9, 10, 11, 12, 13] [mo, rea, rla, rwe, rst, rsp, rpa, rsa, rta, rbe, rfa, rpl, rke, rik] (by decide) rfl rfl (fun _ => rfl) rfl rfl hl.1 (Nat.le_of_ble_eq_true rfl) dX9_goChance_72 (fun _ H locs _ hP hD hS => ?_)
              have hP : va_P D vwCl [(mo, .inr (9, [.int tu, .int ga, .int lk, .int stp, .int dbt, .int win, .ref rea, .ref rla, .ref rwe, .ref rst, .ref rsp, .int (nI sn), .ref rpa, .int (nI pn), .int y0_14_12, .int y0_15_12, .int y0_16_12, .int (s_X9_throwOut_abd y0_17_12 ((if ((if ((set >>> (x5_12 &&& 31)) &&& 1) = 1 then 1 else 0) : Int32) = 0 then (-6) else (lp_X9_heaviest_5 y0_17_12 we 7 0 (-6))) : Int32)), .ref rsa, .ref rta, .ref rbe, .ref rfa, .ref rpl, .ref rke, .ref rik, .int (nI ka), .int iw])), (rea, .inl (cI, 5, .inl ea)), (rla, .inl (cI, 5, .inl la)), (rwe, .inl (cI, 6, .inl we)), (rst, .inl (cI, 6, .inl mT)), (rsp, .inl (cI, 6, .inl mP)), (rpa, .inl (cI, 60, .inl pa)), (rsa, .inl (cI, 61, .inl sa)), (rta, .inl (cI, 12, .inl ta)), (rbe, .inl (cI, 12, .inl be)), (rfa, .inl (cI, 6, .inl fa)), (rpl, .inl (cI, 60, .inl pq)), (rke, .inl (cI, 100, .inl ke)), (rik, .inl (cZ, 2, .inl ik))] H := hP
              have hD : va_D A [(mo, .inr (9, [.int tu, .int ga, .int lk, .int stp, .int dbt, .int win, .ref rea, .ref rla, .ref rwe, .ref rst, .ref rsp, .int (nI sn), .ref rpa, .int (nI pn), .int y0_14_12, .int y0_15_12, .int y0_16_12, .int (s_X9_throwOut_abd y0_17_12 ((if ((if ((set >>> (x5_12 &&& 31)) &&& 1) = 1 then 1 else 0) : Int32) = 0 then (-6) else (lp_X9_heaviest_5 y0_17_12 we 7 0 (-6))) : Int32)), .ref rsa, .ref rta, .ref rbe, .ref rfa, .ref rpl, .ref rke, .ref rik, .int (nI ka), .int iw])), (rea, .inl (cI, 5, .inl ea)), (rla, .inl (cI, 5, .inl la)), (rwe, .inl (cI, 6, .inl we)), (rst, .inl (cI, 6, .inl mT)), (rsp, .inl (cI, 6, .inl mP)), (rpa, .inl (cI, 60, .inl pa)), (rsa, .inl (cI, 61, .inl sa)), (rta, .inl (cI, 12, .inl ta)), (rbe, .inl (cI, 12, .inl be)), (rfa, .inl (cI, 6, .inl fa)), (rpl, .inl (cI, 60, .inl pq)), (rke, .inl (cI, 100, .inl ke)), (rik, .inl (cZ, 2, .inl ik))] := hD
              refine lv_lload_n hx hb dX9_goChance_75 rfl (lv_at hl 4 rfl) ?_
              refine lv_iload hx hb dX9_goChance_76 (lv_at hl 0 rfl) ?_
              refine lv_if_eq (tgt := 86) hx hb dX9_goChance_78 (by decide) (fun c18 => ?_) (fun c18 => ?_)
              · refine lv_bipush (v := 10) hx hb dX9_goChance_86 (by decide) ?_
                refine lv_iload_n hx hb dX9_goChance_88 rfl (lv_at hl 3 rfl) ?_
                refine lv_isub hx hb dX9_goChance_89 ?_
                refine lv_i2l (v := Int32.toInt64 (10 - cc_)) hx hb dX9_goChance_90 rfl ?_
                refine lv_lmul hx hb dX9_goChance_91 ?_
                refine lv_lstore_n (lv' := [(3, .long (x3_12 * (Int32.toInt64 (10 - cc_)))), (7, .int ((if ((set >>> (x5_12 &&& 31)) &&& 1) = 1 then 1 else 0) : Int32)), (0, .ref mo), (1, .int set), (2, .int cc_), (5, .int x5_12), (6, .int (nI k))]) hx hb dX9_goChance_92 rfl hl (by decide) rfl (fun ls hl => ?_)
                refine lv_iinc (v := x5_12 + 1) (lv' := [(5, .int (x5_12 + 1)), (3, .long (x3_12 * (Int32.toInt64 (10 - cc_)))), (7, .int ((if ((set >>> (x5_12 &&& 31)) &&& 1) = 1 then 1 else 0) : Int32)), (0, .ref mo), (1, .int set), (2, .int cc_), (6, .int (nI k))]) hx hb dX9_goChance_93 hl (k := 5) rfl rfl (by decide) rfl (fun ls hl => ?_)
                refine lv_iinc (v := nI (k + 1)) (lv' := [(6, .int (nI (k + 1))), (5, .int (x5_12 + 1)), (3, .long (x3_12 * (Int32.toInt64 (10 - cc_)))), (7, .int ((if ((set >>> (x5_12 &&& 31)) &&& 1) = 1 then 1 else 0) : Int32)), (0, .ref mo), (1, .int set), (2, .int cc_)]) hx hb dX9_goChance_96 hl (k := 6) rfl (nI_1 k) (by decide) rfl (fun ls hl => ?_)
                refine lv_goto (tgt := 12) hx hb dX9_goChance_99 (by decide) ?_
                exact ih9 (k + 1) (x5_12 + 1) (x3_12 * (Int32.toInt64 (10 - cc_))) y0_14_12 y0_15_12 y0_16_12 (s_X9_throwOut_abd y0_17_12 ((if ((if ((set >>> (x5_12 &&& 31)) &&& 1) = 1 then 1 else 0) : Int32) = 0 then (-6) else (lp_X9_heaviest_5 y0_17_12 we 7 0 (-6))) : Int32)) (by omega) (by omega) (by rw [← hv8, lp_X9_goChance_12, if_neg c12, if_neg c13, if_pos c18] <;> simp only [if_neg c12, if_neg c13, if_pos c18]) ls (lv_sub hl [4, 5, 6, 2, 1, 0] rfl) H locs hP hD hS
              · refine lv_iload_n hx hb dX9_goChance_81 rfl (lv_at hl 3 rfl) ?_
                refine lv_i2l (v := Int32.toInt64 cc_) hx hb dX9_goChance_82 rfl ?_
                refine lv_goto (tgt := 91) hx hb dX9_goChance_83 (by decide) ?_
                refine lv_lmul hx hb dX9_goChance_91 ?_
                refine lv_lstore_n (lv' := [(3, .long (x3_12 * (Int32.toInt64 cc_))), (7, .int ((if ((set >>> (x5_12 &&& 31)) &&& 1) = 1 then 1 else 0) : Int32)), (0, .ref mo), (1, .int set), (2, .int cc_), (5, .int x5_12), (6, .int (nI k))]) hx hb dX9_goChance_92 rfl hl (by decide) rfl (fun ls hl => ?_)
                refine lv_iinc (v := x5_12 + 1) (lv' := [(5, .int (x5_12 + 1)), (3, .long (x3_12 * (Int32.toInt64 cc_))), (7, .int ((if ((set >>> (x5_12 &&& 31)) &&& 1) = 1 then 1 else 0) : Int32)), (0, .ref mo), (1, .int set), (2, .int cc_), (6, .int (nI k))]) hx hb dX9_goChance_93 hl (k := 5) rfl rfl (by decide) rfl (fun ls hl => ?_)
                refine lv_iinc (v := nI (k + 1)) (lv' := [(6, .int (nI (k + 1))), (5, .int (x5_12 + 1)), (3, .long (x3_12 * (Int32.toInt64 cc_))), (7, .int ((if ((set >>> (x5_12 &&& 31)) &&& 1) = 1 then 1 else 0) : Int32)), (0, .ref mo), (1, .int set), (2, .int cc_)]) hx hb dX9_goChance_96 hl (k := 6) rfl (nI_1 k) (by decide) rfl (fun ls hl => ?_)
                refine lv_goto (tgt := 12) hx hb dX9_goChance_99 (by decide) ?_
                exact ih9 (k + 1) (x5_12 + 1) (x3_12 * (Int32.toInt64 cc_)) y0_14_12 y0_15_12 y0_16_12 (s_X9_throwOut_abd y0_17_12 ((if ((if ((set >>> (x5_12 &&& 31)) &&& 1) = 1 then 1 else 0) : Int32) = 0 then (-6) else (lp_X9_heaviest_5 y0_17_12 we 7 0 (-6))) : Int32)) (by omega) (by omega) (by rw [← hv8, lp_X9_goChance_12, if_neg c12, if_neg c13, if_neg c18] <;> simp only [if_neg c12, if_neg c13, if_neg c18]) ls (lv_sub hl [4, 5, 6, 2, 1, 0] rfl) H locs hP hD hS
            refine lv_if_eq (tgt := 70) hx hb dX9_goChance_60 (by decide) (fun c19 => ?_) (fun c19 => ?_)
            · refine lv_bipush (v := (-6)) hx hb dX9_goChance_70 (by decide) ?_
              exact J17 (-6) (by rw [if_pos c19])
            · refine lv_aload_n hx hb dX9_goChance_63 rfl (lv_at hl 1 rfl) ?_
              refine kRV (q0 := 0) (st1 := [.int (lp_X9_heaviest_5 y0_17_12 we 7 0 (-6)), .ref mo]) S hT hP (c_X9_heaviest l D cI cZ mo rea rla rwe rst rsp rpa rsa rta rbe rfa rpl rke rik sn pn ka tu ga lk stp dbt win y0_14_12 y0_15_12 y0_16_12 y0_17_12 iw ea la we mT mP pa sa ta be fa pq ke ik) rfl rfl mw_X9_heaviest lk_RX9_193 ⟨rfl, rfl, (Nat.le_of_ble_eq_true rfl), (Nat.le_of_ble_eq_true rfl), (Nat.le_of_ble_eq_true rfl), (Nat.le_of_ble_eq_true rfl)⟩ [0, 1, 2, 3, 4, 5, 6, 7, 8, 9, 10, 11, 12, 13] rfl rfl rfl hl.1 (Nat.le_of_ble_eq_true rfl) dX9_goChance_64 ?_
              refine lv_goto (tgt := 72) hx hb dX9_goChance_67 (by decide) ?_
              exact J17 (lp_X9_heaviest_5 y0_17_12 we 7 0 (-6)) (by rw [if_neg c19])
          refine lv_icmp_ne (tgt := 54) hx hb dX9_goChance_47 (by decide) (fun c20 => ?_) (fun c20 => ?_)
          · refine lv_iconst (v := 0) hx hb dX9_goChance_54 (by decide) ?_
            exact J15 0 (by rw [if_neg c20])
          · refine lv_iconst (v := 1) hx hb dX9_goChance_50 (by decide) ?_
            refine lv_goto (tgt := 55) hx hb dX9_goChance_51 (by decide) ?_
            exact J15 1 (by rw [if_pos c20])
        · refine lv_aload_n hx hb dX9_goChance_33 rfl (lv_at hl 0 rfl) ?_
          refine kEV (q0 := 0) (st1 := []) S hT hP hD hS (c_X9_drift l D cI cZ mo rea rla rwe rst rsp rpa rsa rta rbe rfa rpl rke rik sn pn ka tu ga lk stp dbt win y0_14_12 y0_15_12 y0_16_12 y0_17_12 iw ea la we mT mP pa sa ta be fa pq ke ik (by first | assumption | decide | omega)) rfl rfl mw_X9_drift lk_RX9_121 ⟨rfl, rfl, (Nat.le_of_ble_eq_true rfl), (Nat.le_of_ble_eq_true rfl), (Nat.le_of_ble_eq_true rfl), (Nat.le_of_ble_eq_true rfl)⟩ [0, 1, 2, 3, 4, 5, 6, 7, 8, 9, 10, 11, 12, 13] [mo, rea, rla, rwe, rst, rsp, rpa, rsa, rta, rbe, rfa, rpl, rke, rik] (by decide) rfl rfl (fun _ => rfl) rfl rfl hl.1 (Nat.le_of_ble_eq_true rfl) dX9_goChance_34 (fun _ H locs _ hP hD hS => ?_)
          have hP : va_P D vwCl [(mo, .inr (9, [.int tu, .int ga, .int lk, .int stp, .int dbt, .int win, .ref rea, .ref rla, .ref rwe, .ref rst, .ref rsp, .int (nI sn), .ref rpa, .int (nI pn), .int (y0_14_12 + ((if tu ≤ y0_15_12 then la (s_X9_height stp y0_16_12 y0_17_12 we).toNatClampNeg else ea (s_X9_height stp y0_16_12 y0_17_12 we).toNatClampNeg) : Int32)), .int (y0_15_12 + 1), .int ((if y0_16_12 ≤ lk then 0 else y0_16_12 - lk) : Int32), .int y0_17_12, .ref rsa, .ref rta, .ref rbe, .ref rfa, .ref rpl, .ref rke, .ref rik, .int (nI ka), .int iw])), (rea, .inl (cI, 5, .inl ea)), (rla, .inl (cI, 5, .inl la)), (rwe, .inl (cI, 6, .inl we)), (rst, .inl (cI, 6, .inl mT)), (rsp, .inl (cI, 6, .inl mP)), (rpa, .inl (cI, 60, .inl pa)), (rsa, .inl (cI, 61, .inl sa)), (rta, .inl (cI, 12, .inl ta)), (rbe, .inl (cI, 12, .inl be)), (rfa, .inl (cI, 6, .inl fa)), (rpl, .inl (cI, 60, .inl pq)), (rke, .inl (cI, 100, .inl ke)), (rik, .inl (cZ, 2, .inl ik))] H := hP
          have hD : va_D A [(mo, .inr (9, [.int tu, .int ga, .int lk, .int stp, .int dbt, .int win, .ref rea, .ref rla, .ref rwe, .ref rst, .ref rsp, .int (nI sn), .ref rpa, .int (nI pn), .int (y0_14_12 + ((if tu ≤ y0_15_12 then la (s_X9_height stp y0_16_12 y0_17_12 we).toNatClampNeg else ea (s_X9_height stp y0_16_12 y0_17_12 we).toNatClampNeg) : Int32)), .int (y0_15_12 + 1), .int ((if y0_16_12 ≤ lk then 0 else y0_16_12 - lk) : Int32), .int y0_17_12, .ref rsa, .ref rta, .ref rbe, .ref rfa, .ref rpl, .ref rke, .ref rik, .int (nI ka), .int iw])), (rea, .inl (cI, 5, .inl ea)), (rla, .inl (cI, 5, .inl la)), (rwe, .inl (cI, 6, .inl we)), (rst, .inl (cI, 6, .inl mT)), (rsp, .inl (cI, 6, .inl mP)), (rpa, .inl (cI, 60, .inl pa)), (rsa, .inl (cI, 61, .inl sa)), (rta, .inl (cI, 12, .inl ta)), (rbe, .inl (cI, 12, .inl be)), (rfa, .inl (cI, 6, .inl fa)), (rpl, .inl (cI, 60, .inl pq)), (rke, .inl (cI, 100, .inl ke)), (rik, .inl (cZ, 2, .inl ik))] := hD
          refine lv_goto (tgt := 96) hx hb dX9_goChance_37 (by decide) ?_
          refine lv_iinc (v := nI (k + 1)) (lv' := [(6, .int (nI (k + 1))), (0, .ref mo), (1, .int set), (2, .int cc_), (3, .long x3_12), (5, .int x5_12)]) hx hb dX9_goChance_96 hl (k := 5) rfl (nI_1 k) (by decide) rfl (fun ls hl => ?_)
          refine lv_goto (tgt := 12) hx hb dX9_goChance_99 (by decide) ?_
          exact ih9 (k + 1) x5_12 x3_12 (y0_14_12 + ((if tu ≤ y0_15_12 then la (s_X9_height stp y0_16_12 y0_17_12 we).toNatClampNeg else ea (s_X9_height stp y0_16_12 y0_17_12 we).toNatClampNeg) : Int32)) (y0_15_12 + 1) ((if y0_16_12 ≤ lk then 0 else y0_16_12 - lk) : Int32) y0_17_12 (by omega) (by omega) (by rw [← hv8, lp_X9_goChance_12, if_neg c12, if_pos c13] <;> simp only [if_neg c12, if_pos c13]) ls (lv_sub hl [1, 2, 3, 4, 5, 0] rfl) H locs hP hD hS
  exact L7 (pn + 1) 0 0 1 0 0 ga (lp_X9_loaded_4 we 7 0 0) (by omega) (by omega) rfl ls (lv_sub hl [3, 4, 5, 2, 1, 0] rfl) H locs hP hD hS
def lp_X9_lowest_6 : Nat → Int64 → Int64 → Int64
  | 0, _, x5_6 => x5_6
  | fu + 1, x7_6, x5_6 => if lg_cmp x7_6 0 = 0 then x5_6 else lp_X9_lowest_6 fu (x5_6 - x5_6 / x7_6 * x7_6) x7_6
def s_X9_lowest (up : Int64) (lo : Int64) (part : Int32) : Int64 := if part = 0 then up / (lp_X9_lowest_6 (up.toInt.natAbs + 1) up lo) else lo / (lp_X9_lowest_6 (up.toInt.natAbs + 1) up lo)
abbrev rm_X9_lowest : Room := { frames := 0, cells := 0, slots := 0, locals := 0 }
set_option maxRecDepth 100000 in
set_option maxHeartbeats 4000000 in
theorem c_X9_lowest (l : Launch) (D : va_G) (cI cZ : ClassId) (up lo : Int64) (part : Int32) (hlo : ¬ lo = 0) : Met l yX9_lowest [.code yX9_lowest cX9_lowest 11 (some .long)] rm_X9_lowest (PcR D cI cZ [.long up, .long lo, .int part] []) (QcR (some (.long (s_X9_lowest up lo part)))) 0 0 zN := by
  refine mtRl (by decide) (Nat.le_of_ble_eq_true rfl) (fun p e s m args below meth c Q S hT hP hret ls hl => ?_)
  have S : CallFix p m c cX9_lowest 11 s args zt RX9 := S
  obtain ⟨hx, hb, hml, hown, hts⟩ := id S
  have hl : lv_has ls 11 [(0, .long up), (2, .long lo), (4, .int part)] := hl
  refine lv_lload_n hx hb dX9_lowest_0 rfl (lv_at hl 1 rfl) ?_
  refine lv_lstore (lv' := [(5, .long lo), (0, .long up), (2, .long lo), (4, .int part)]) hx hb dX9_lowest_1 hl (by decide) rfl (fun ls hl => ?_)
  refine lv_lload_n hx hb dX9_lowest_3 rfl (lv_at hl 1 rfl) ?_
  refine lv_lstore (lv' := [(7, .long up), (5, .long lo), (0, .long up), (2, .long lo), (4, .int part)]) hx hb dX9_lowest_4 hl (by decide) rfl (fun ls hl => ?_)
  have X2 : ∀ (y1 : Int64), (lp_X9_lowest_6 (up.toInt.natAbs + 1) up lo) = y1 → (¬ y1 = 0) → ∀ (ls : Array Slot), lv_has ls 11 [(0, .long up), (2, .long lo), (4, .int part), (5, .long y1)] → W p l e rm_X9_lowest s m args below meth c s.heap [] 0 0 Q (F0 m 31 ls []) := by
    intro y1 ey1 h5_X2 ls hl
    subst ey1
    refine lv_iload hx hb dX9_lowest_31 (lv_at hl 2 rfl) ?_
    refine lv_if_ne (tgt := 43) hx hb dX9_lowest_33 (by decide) (fun c3 => ?_) (fun c3 => ?_)
    · refine lv_lload_n hx hb dX9_lowest_43 rfl (lv_at hl 1 rfl) ?_
      refine lv_lload hx hb dX9_lowest_44 (lv_at hl 3 rfl) ?_
      refine lv_ldiv hx hb dX9_lowest_46 (by assumption) ?_
      exact hret _ _ _ dX9_lowest_47 (by unfold s_X9_lowest; rw [if_neg c3])
    · refine lv_lload_n hx hb dX9_lowest_36 rfl (lv_at hl 0 rfl) ?_
      refine lv_lload hx hb dX9_lowest_37 (lv_at hl 3 rfl) ?_
      refine lv_ldiv hx hb dX9_lowest_39 (by assumption) ?_
      refine lv_goto (tgt := 47) hx hb dX9_lowest_40 (by decide) ?_
      exact hret _ _ _ dX9_lowest_47 (by unfold s_X9_lowest; rw [if_pos c3])
  have L4 : ∀ (n7 : Nat) (x7_6 : Int64) (x5_6 : Int64), x7_6.toInt.natAbs < n7 → (¬ x5_6 = 0) → lp_X9_lowest_6 n7 x7_6 x5_6 = lp_X9_lowest_6 (up.toInt.natAbs + 1) up lo → ∀ (ls : Array Slot), lv_has ls 11 [(0, .long up), (2, .long lo), (4, .int part), (5, .long x5_6), (7, .long x7_6)] → W p l e rm_X9_lowest s m args below meth c s.heap [] 0 0 Q (F0 m 6 ls []) := by
    intro n7
    induction n7 with
    | zero => intro x7_6 x5_6 hm; exact absurd hm (Nat.not_lt_zero _)
    | succ n7 ih6 =>
      intro x7_6 x5_6 hm8 h5 hv5 ls hl
      refine lv_lload hx hb dX9_lowest_6 (lv_at hl 4 rfl) ?_
      refine lv_lconst (v := 0) hx hb dX9_lowest_8 (by decide) ?_
      refine W.lcmp hx hb dX9_lowest_9 ?_
      refine lv_if_eq (tgt := 31) hx hb dX9_lowest_10 (by decide) (fun c9 => ?_) (fun c9 => ?_)
      · exact X2 _ (by rw [← hv5, lp_X9_lowest_6, if_pos c9]) h5 ls (lv_sub hl [0, 1, 2, 3] rfl)
      · refine lv_lload hx hb dX9_lowest_13 (lv_at hl 3 rfl) ?_
        refine lv_lload hx hb dX9_lowest_15 (lv_at hl 4 rfl) ?_
        refine lv_lrem hx hb dX9_lowest_17 (zl0 c9) ?_
        refine lv_lstore (lv' := [(9, .long (x5_6 - x5_6 / x7_6 * x7_6)), (0, .long up), (2, .long lo), (4, .int part), (5, .long x5_6), (7, .long x7_6)]) hx hb dX9_lowest_18 hl (by decide) rfl (fun ls hl => ?_)
        refine lv_lload hx hb dX9_lowest_20 (lv_at hl 5 rfl) ?_
        refine lv_lstore (lv' := [(5, .long x7_6), (9, .long (x5_6 - x5_6 / x7_6 * x7_6)), (0, .long up), (2, .long lo), (4, .int part), (7, .long x7_6)]) hx hb dX9_lowest_22 hl (by decide) rfl (fun ls hl => ?_)
        refine lv_lload hx hb dX9_lowest_24 (lv_at hl 1 rfl) ?_
        refine lv_lstore (lv' := [(7, .long (x5_6 - x5_6 / x7_6 * x7_6)), (5, .long x7_6), (9, .long (x5_6 - x5_6 / x7_6 * x7_6)), (0, .long up), (2, .long lo), (4, .int part)]) hx hb dX9_lowest_26 hl (by decide) rfl (fun ls hl => ?_)
        refine lv_goto (tgt := 6) hx hb dX9_lowest_28 (by decide) ?_
        exact ih6 (x5_6 - x5_6 / x7_6 * x7_6) x7_6 (by have := zrem_abs (x := x5_6) (zl0 c9); omega) (zl0 c9) (by rw [← hv5, lp_X9_lowest_6, if_neg c9]) ls (lv_sub hl [3, 4, 5, 1, 0] rfl)
  exact L4 (up.toInt.natAbs + 1) up lo (by omega) hlo rfl ls (lv_sub hl [2, 3, 4, 1, 0] rfl)
