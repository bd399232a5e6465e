theorem zadd_1 (mt : Int32) (many : Nat) (hm : many ≤ 12) : ∀ q k cq f, k ≤ many → many - k < q → (lp_X5_add_2 mt many q k cq f).1 = cq + (many - k) := by
  intro q
  induction q with
  | zero => intro k cq f _ h; exact absurd h (Nat.not_lt_zero _)
  | succ q ih =>
    intro k cq f hk hq
    rw [lp_X5_add_2]
    by_cases c : nI many ≤ nI k
    · have := zNle c (by omega) (by omega)
      rw [if_pos c]
      show cq = _
      omega
    · have := zNnle c (by omega) (by omega)
      rw [if_neg c, ih (k + 1) _ _ (by omega) (by omega)]
      omega
theorem zg_inv (len : Nat) (sg : Nat → Int32) (mt more : Nat) (hlen : len ≤ 60) (hmo : more ≤ 12) (hmt : mt ≤ 60) : ∀ q k nw cq f, k ≤ len → len - k < q → nw = zct 46 sg k → cq = zct 33 sg k + (if mt < nw then more else 0) →
    (lp_X5_gather_11 len sg mt more q k nw cq f).1 = zct 46 sg len ∧ (lp_X5_gather_11 len sg mt more q k nw cq f).2.1 = zct 33 sg len + (if mt < zct 46 sg len then more else 0) := by
  intro q
  induction q with
  | zero => intro k nw cq f _ h; exact absurd h (Nat.not_lt_zero _)
  | succ q ih =>
    intro k nw cq f hk hq hnw hcq
    rw [lp_X5_gather_11]
    by_cases c : nI len ≤ nI k
    · have := zNle c (by omega) (by omega)
      have hkl : k = len := by omega
      subst hkl
      rw [if_pos c]
      exact ⟨hnw, by rw [← hnw]; exact hcq⟩
    · have hkl := zNnle c (by omega) (by omega)
      rw [if_neg c, zcel (by omega) (by decide)]
      have hnk : nw ≤ k := by rw [hnw]; exact zct_le 46 sg k
      have hE : (nI nw = nI mt) ↔ nw = mt := nI_eq (by omega) (by omega)
      by_cases d : sg k = 46
      · have d3 : ¬ sg k = 33 := by rw [d]; decide
        rw [if_pos d, if_neg d3, if_neg d3]
        refine ih (k + 1) _ _ _ (by omega) (by omega) ?_ ?_
        · rw [zct, if_pos d, hnw]
        · rw [zadd_1 (nI nw) _ (by split <;> omega) _ 0 cq f (Nat.zero_le _) (by omega), zct, if_neg d3, hcq]
          by_cases e : nw = mt
          · rw [if_pos (hE.mpr e), if_neg (show ¬ mt < nw by omega), if_pos (show mt < nw + 1 by omega)]
            omega
          · rw [if_neg (fun h => e (hE.mp h))]
            by_cases e2 : mt < nw
            · rw [if_pos e2, if_pos (by omega)]
              omega
            · rw [if_neg e2, if_neg (by omega)]
      · rw [if_neg d]
        refine ih (k + 1) _ _ _ (by omega) (by omega) ?_ ?_
        · rw [zct, if_neg d, hnw, Nat.add_zero]
        · by_cases d3 : sg k = 33
          · rw [if_pos d3, zadd_1 (nI nw) 1 (by decide) _ 0 cq f (Nat.zero_le _) (by omega), zct, if_pos d3, hcq]
            omega
          · rw [if_neg d3, zct, if_neg d3, hcq, Nat.add_zero]
theorem zg_cn (mi : Nat → Int32) (len : Nat) (sg : Nat → Int32) (mt more : Nat) (hlen : len ≤ 60) (hmo : more ≤ 12) (hmt : mt ≤ 60) : s_X5_gather_cn mi len sg mt more = zct 33 sg len + (if mt ≤ zct 46 sg len then more else 0) := by
  obtain ⟨h1, h2⟩ := zg_inv len sg mt more hlen hmo hmt (len + 1) 0 0 0 mi (Nat.zero_le _) (by omega) rfl (by rw [if_neg (Nat.not_lt_zero _)]; rfl)
  have hz := zct_le 46 sg len
  unfold s_X5_gather_cn
  rw [zadd_1 _ _ (by split <;> omega) _ 0 _ _ (Nat.zero_le _) (by omega), h1, h2]
  have hE : (nI (zct 46 sg len) = nI mt) ↔ zct 46 sg len = mt := nI_eq (by omega) (by omega)
  by_cases e : zct 46 sg len = mt
  · rw [if_pos (hE.mpr e), if_neg (by omega), if_pos (by omega)]
    omega
  · rw [if_neg (fun h => e (hE.mp h))]
    by_cases e2 : mt < zct 46 sg len
    · rw [if_pos e2, if_pos (by omega)]
      omega
    · rw [if_neg e2, if_neg (by omega)]
theorem zg_le (mi : Nat → Int32) (len : Nat) (sg : Nat → Int32) (mt more : Nat) (hlen : len ≤ 60) (hmo : more ≤ 12) (hmt : mt ≤ 60) (h12 : zct 33 sg len ≤ 12) : s_X5_gather_cn mi len sg mt more ≤ 24 := by
  rw [zg_cn mi len sg mt more hlen hmo hmt]
  split <;> omega
def s_X8_doubtWith (nm : Nat → Int32) (len : Nat) (sg : Nat → Int32) (mi : Nat → Int32) (mt : Nat) (more : Nat) : Int32 := lp_X5_firstDoubt_2 (s_X5_gather_cn mi len sg mt more) (s_X5_gather_mi mi len sg mt more) (s_X8_cell 6 nm 4) (s_X8_cell 6 nm 5) ((s_X5_gather_cn mi len sg mt more) + 1) 0
abbrev rm_X8_doubtWith : Room := { frames := 3, cells := 0, slots := 0, locals := 70 }
set_option maxRecDepth 100000 in
set_option maxHeartbeats 4000000 in
theorem c_X8_doubtWith (l : Launch) (D : va_G) (cI cZ : ClassId) (x h h0 h1 pd bb bbr pp ch se cc fa hn hw ht hs hp sn : Nat) (kp : Int32) (nm wd wt sT sP : Nat → Int32) (pg len : Nat) (sg : Nat → Int32) (pm cn : Nat) (mi : Nat → Int32) (mt more : Nat) (hlen : len ≤ 60) (hmt : mt ≤ 60) (hmo : more ≤ 12) (h12 : zct 33 sg len ≤ 12) : Met l yX8_doubtWith [.code yX8_doubtWith cX8_doubtWith 3 (some .int)] rm_X8_doubtWith (PcW D cI cZ [.ref x, .int (nI mt), .int (nI more)] [(x, .inr (8, [.ref h, .ref h0, .ref h1, .ref pd, .ref bb, .ref bbr, .ref pp, .ref ch, .ref se, .ref cc, .ref fa])), (h, .inr (7, [.ref hn, .ref hw, .ref ht, .ref hs, .ref hp, .int (nI sn), .int kp])), (hn, .inl (cI, 6, .inl nm)), (hw, .inl (cI, 10, .inl wd)), (ht, .inl (cI, 6, .inl wt)), (hs, .inl (cI, 6, .inl sT)), (hp, .inl (cI, 6, .inl sP)), (pd, .inr (4, [.ref pg, .int (nI len)])), (pg, .inl (cI, 60, .inl sg)), (pp, .inr (5, [.ref pm, .int (nI cn)])), (pm, .inl (cI, 24, .inl mi))]) (QcE D (S := Unit) (some (.int (s_X8_doubtWith nm len sg mi mt more))) (fun _ => True) (fun _ => [(x, .inr (8, [.ref h, .ref h0, .ref h1, .ref pd, .ref bb, .ref bbr, .ref pp, .ref ch, .ref se, .ref cc, .ref fa])), (h, .inr (7, [.ref hn, .ref hw, .ref ht, .ref hs, .ref hp, .int (nI sn), .int kp])), (hn, .inl (cI, 6, .inl nm)), (hw, .inl (cI, 10, .inl wd)), (ht, .inl (cI, 6, .inl wt)), (hs, .inl (cI, 6, .inl sT)), (hp, .inl (cI, 6, .inl sP)), (pd, .inr (4, [.ref pg, .int (nI len)])), (pg, .inl (cI, 60, .inl sg)), (pp, .inr (5, [.ref pm, .int (nI (s_X5_gather_cn mi len sg mt more))])), (pm, .inl (cI, 24, .inl (s_X5_gather_mi mi len sg mt more)))]) (zA [(x, .inr (8, [.ref h, .ref h0, .ref h1, .ref pd, .ref bb, .ref bbr, .ref pp, .ref ch, .ref se, .ref cc, .ref fa])), (h, .inr (7, [.ref hn, .ref hw, .ref ht, .ref hs, .ref hp, .int (nI sn), .int kp])), (hn, .inl (cI, 6, .inl nm)), (hw, .inl (cI, 10, .inl wd)), (ht, .inl (cI, 6, .inl wt)), (hs, .inl (cI, 6, .inl sT)), (hp, .inl (cI, 6, .inl sP)), (pd, .inr (4, [.ref pg, .int (nI len)])), (pg, .inl (cI, 60, .inl sg)), (pp, .inr (5, [.ref pm, .int (nI cn)])), (pm, .inl (cI, 24, .inl mi))])) 0 0 (zA [(x, .inr (8, [.ref h, .ref h0, .ref h1, .ref pd, .ref bb, .ref bbr, .ref pp, .ref ch, .ref se, .ref cc, .ref fa])), (h, .inr (7, [.ref hn, .ref hw, .ref ht, .ref hs, .ref hp, .int (nI sn), .int kp])), (hn, .inl (cI, 6, .inl nm)), (hw, .inl (cI, 10, .inl wd)), (ht, .inl (cI, 6, .inl wt)), (hs, .inl (cI, 6, .inl sT)), (hp, .inl (cI, 6, .inl sP)), (pd, .inr (4, [.ref pg, .int (nI len)])), (pg, .inl (cI, 60, .inl sg)), (pp, .inr (5, [.ref pm, .int (nI cn)])), (pm, .inl (cI, 24, .inl mi))]) := by
  refine mtWi (by decide) (Nat.le_of_ble_eq_true rfl) (fun p e s m args below meth c Q A S hT hP hD hS hret ls hl => ?_)
  have S : CallFix p m c cX8_doubtWith 3 s args zt RX8 := S
  obtain ⟨hx, hb, hml, hown, hts⟩ := id S
  have hl : lv_has ls 3 [(0, .ref x), (1, .int (nI mt)), (2, .int (nI more))] := hl
  refine lv_aload_n hx hb dX8_doubtWith_0 rfl (lv_at hl 0 rfl) ?_
  refine va_get (D := D) (ci := 8) (v := .ref pp) (C := RX8) (T := TX8) (N := 11) hx hb hts in_X8 hown hT.1 hP 0 rfl rfl 6 (by decide) (hts _ fl_RX8_42) (fun _ h9 => h9) rfl dX8_doubtWith_1 ?_
  refine lv_aload_n hx hb dX8_doubtWith_4 rfl (lv_at hl 0 rfl) ?_
  refine va_get (D := D) (ci := 8) (v := .ref pd) (C := RX8) (T := TX8) (N := 11) hx hb hts in_X8 hown hT.1 hP 0 rfl rfl 3 (by decide) (hts _ fl_RX8_25) (fun _ h9 => h9) rfl dX8_doubtWith_5 ?_
  refine lv_iload_n hx hb dX8_doubtWith_8 rfl (lv_at hl 1 rfl) ?_
  refine lv_iload_n hx hb dX8_doubtWith_9 rfl (lv_at hl 2 rfl) ?_
  refine kEV (q0 := 9) (st1 := []) S hT hP hD hS (c_X5_gather l D cI cZ pp pm cn mi pd pg len sg mt more (by first | assumption | decide | omega) (by first | assumption | decide | omega) (by first | assumption | decide | omega)) rfl rfl mw_X5_gather lk_RX8_312 ⟨rfl, rfl, (Nat.le_of_ble_eq_true rfl), (Nat.le_of_ble_eq_true rfl), (Nat.le_of_ble_eq_true rfl), (Nat.le_of_ble_eq_true rfl)⟩ [9, 10, 7, 8] [pp, pm, pd, pg] (by decide) rfl rfl (fun _ => rfl) rfl rfl hl.1 (Nat.le_of_ble_eq_true rfl) dX8_doubtWith_10 (fun _ H locs _ hP hD hS => ?_)
  have hP : va_P D vwCl [(x, .inr (8, [.ref h, .ref h0, .ref h1, .ref pd, .ref bb, .ref bbr, .ref pp, .ref ch, .ref se, .ref cc, .ref fa])), (h, .inr (7, [.ref hn, .ref hw, .ref ht, .ref hs, .ref hp, .int (nI sn), .int kp])), (hn, .inl (cI, 6, .inl nm)), (hw, .inl (cI, 10, .inl wd)), (ht, .inl (cI, 6, .inl wt)), (hs, .inl (cI, 6, .inl sT)), (hp, .inl (cI, 6, .inl sP)), (pd, .inr (4, [.ref pg, .int (nI len)])), (pg, .inl (cI, 60, .inl sg)), (pp, .inr (5, [.ref pm, .int (nI (s_X5_gather_cn mi len sg mt more))])), (pm, .inl (cI, 24, .inl (s_X5_gather_mi mi len sg mt more)))] H := hP
  have hD : va_D A [(x, .inr (8, [.ref h, .ref h0, .ref h1, .ref pd, .ref bb, .ref bbr, .ref pp, .ref ch, .ref se, .ref cc, .ref fa])), (h, .inr (7, [.ref hn, .ref hw, .ref ht, .ref hs, .ref hp, .int (nI sn), .int kp])), (hn, .inl (cI, 6, .inl nm)), (hw, .inl (cI, 10, .inl wd)), (ht, .inl (cI, 6, .inl wt)), (hs, .inl (cI, 6, .inl sT)), (hp, .inl (cI, 6, .inl sP)), (pd, .inr (4, [.ref pg, .int (nI len)])), (pg, .inl (cI, 60, .inl sg)), (pp, .inr (5, [.ref pm, .int (nI (s_X5_gather_cn mi len sg mt more))])), (pm, .inl (cI, 24, .inl (s_X5_gather_mi mi len sg mt more)))] := hD
  refine lv_aload_n hx hb dX8_doubtWith_13 rfl (lv_at hl 0 rfl) ?_
  refine va_get (D := D) (ci := 8) (v := .ref pp) (C := RX8) (T := TX8) (N := 11) hx hb hts in_X8 hown hT.1 hP 0 rfl rfl 6 (by decide) (hts _ fl_RX8_42) (fun _ h9 => h9) rfl dX8_doubtWith_14 ?_
  refine lv_aload_n hx hb dX8_doubtWith_17 rfl (lv_at hl 0 rfl) ?_
  refine va_get (D := D) (ci := 8) (v := .ref h) (C := RX8) (T := TX8) (N := 11) hx hb hts in_X8 hown hT.1 hP 0 rfl rfl 0 (by decide) (hts _ fl_RX8_12) (fun _ h9 => h9) rfl dX8_doubtWith_18 ?_
  refine lv_iconst (v := 4) hx hb dX8_doubtWith_21 (by decide) ?_
  refine kRV (q0 := 1) (st1 := [.int (s_X8_cell 6 nm 4), .ref pp]) S hT hP (c_X7_number l D cI cZ h hn hw ht hs hp sn kp nm wd wt sT sP 4) rfl rfl mw_X7_number lk_RX8_97 ⟨rfl, rfl, (Nat.le_of_ble_eq_true rfl), (Nat.le_of_ble_eq_true rfl), (Nat.le_of_ble_eq_true rfl), (Nat.le_of_ble_eq_true rfl)⟩ [1, 2, 3, 4, 5, 6] rfl rfl rfl hl.1 (Nat.le_of_ble_eq_true rfl) dX8_doubtWith_22 ?_
  refine lv_aload_n hx hb dX8_doubtWith_25 rfl (lv_at hl 0 rfl) ?_
  refine va_get (D := D) (ci := 8) (v := .ref h) (C := RX8) (T := TX8) (N := 11) hx hb hts in_X8 hown hT.1 hP 0 rfl rfl 0 (by decide) (hts _ fl_RX8_12) (fun _ h9 => h9) rfl dX8_doubtWith_26 ?_
  refine lv_iconst (v := 5) hx hb dX8_doubtWith_29 (by decide) ?_
  refine kRV (q0 := 1) (st1 := [.int (s_X8_cell 6 nm 5), .int (s_X8_cell 6 nm 4), .ref pp]) S hT hP (c_X7_number l D cI cZ h hn hw ht hs hp sn kp nm wd wt sT sP 5) rfl rfl mw_X7_number lk_RX8_97 ⟨rfl, rfl, (Nat.le_of_ble_eq_true rfl), (Nat.le_of_ble_eq_true rfl), (Nat.le_of_ble_eq_true rfl), (Nat.le_of_ble_eq_true rfl)⟩ [1, 2, 3, 4, 5, 6] rfl rfl rfl hl.1 (Nat.le_of_ble_eq_true rfl) dX8_doubtWith_30 ?_
  refine kRV (q0 := 9) (st1 := [.int (lp_X5_firstDoubt_2 (s_X5_gather_cn mi len sg mt more) (s_X5_gather_mi mi len sg mt more) (s_X8_cell 6 nm 4) (s_X8_cell 6 nm 5) ((s_X5_gather_cn mi len sg mt more) + 1) 0)]) S hT hP (c_X5_firstDoubt l D cI cZ pp pm (s_X5_gather_cn mi len sg mt more) (s_X5_gather_mi mi len sg mt more) (s_X8_cell 6 nm 4) (s_X8_cell 6 nm 5) (zg_le mi len sg mt more hlen hmo hmt h12)) rfl rfl mw_X5_firstDoubt lk_RX8_316 ⟨rfl, rfl, (Nat.le_of_ble_eq_true rfl), (Nat.le_of_ble_eq_true rfl), (Nat.le_of_ble_eq_true rfl), (Nat.le_of_ble_eq_true rfl)⟩ [9, 10] rfl rfl rfl hl.1 (Nat.le_of_ble_eq_true rfl) dX8_doubtWith_33 ?_
  exact hret _ _ _ H locs () dX8_doubtWith_36 (by unfold s_X8_doubtWith; rfl) trivial hP hS
