abbrev rm_X4_length : Room := { frames := 0, cells := 0, slots := 0, locals := 0 }
set_option maxRecDepth 100000 in
set_option maxHeartbeats 4000000 in
theorem c_X4_length (l : Launch) (D : va_G) (cI cZ : ClassId) (pd pg len : Nat) (sg : Nat → Int32) : Met l yX4_length [.code yX4_length cX4_length 1 (some .int)] rm_X4_length (PcR D cI cZ [.ref pd] [(pd, .inr (4, [.ref pg, .int (nI len)])), (pg, .inl (cI, 60, .inl sg))]) (QcR (some (.int (nI len)))) 0 0 zN := by
  refine mtRi (by decide) (Nat.le_of_ble_eq_true rfl) (fun p e s m args below meth c Q S hT hP hret ls hl => ?_)
  have S : CallFix p m c cX4_length 1 s args zt RX4 := S
  obtain ⟨hx, hb, hml, hown, hts⟩ := id S
  have hl : lv_has ls 1 [(0, .ref pd)] := hl
  refine lv_aload_n hx hb dX4_length_0 rfl (lv_at hl 0 rfl) ?_
  refine va_get (D := D) (ci := 4) (v := .int (nI len)) (C := RX4) (T := TX4) (N := 2) hx hb hts in_X4 hown hT.1 hP 0 rfl rfl 1 (by decide) (hts _ fl_RX4_15) (fun _ h9 => h9) rfl dX4_length_1 ?_
  exact hret _ _ _ dX4_length_4 rfl
abbrev rm_X4_sign : Room := { frames := 1, cells := 0, slots := 0, locals := 21 }
set_option maxRecDepth 100000 in
set_option maxHeartbeats 4000000 in
theorem c_X4_sign (l : Launch) (D : va_G) (cI cZ : ClassId) (pd pg len : Nat) (sg : Nat → Int32) (i : Int32) : Met l yX4_sign [.code yX4_sign cX4_sign 2 (some .int)] rm_X4_sign (PcR D cI cZ [.ref pd, .int i] [(pd, .inr (4, [.ref pg, .int (nI len)])), (pg, .inl (cI, 60, .inl sg))]) (QcR (some (.int (s_X8_cell 60 sg i)))) 0 0 zN := by
  refine mtRi (by decide) (Nat.le_of_ble_eq_true rfl) (fun p e s m args below meth c Q S hT hP hret ls hl => ?_)
  have S : CallFix p m c cX4_sign 2 s args zt RX4 := S
  obtain ⟨hx, hb, hml, hown, hts⟩ := id S
  have hl : lv_has ls 2 [(0, .ref pd), (1, .int i)] := hl
  refine lv_aload_n hx hb dX4_sign_0 rfl (lv_at hl 0 rfl) ?_
  refine va_get (D := D) (ci := 4) (v := .ref pg) (C := RX4) (T := TX4) (N := 2) hx hb hts in_X4 hown hT.1 hP 0 rfl rfl 0 (by decide) (hts _ fl_RX4_9) (fun _ h9 => h9) rfl dX4_sign_1 ?_
  refine lv_iload_n hx hb dX4_sign_4 rfl (lv_at hl 1 rfl) ?_
  refine kRM (st1 := [.int (s_X8_cell 60 sg i)]) S hT hP (c_X8_cell l D cI cZ pg 60 sg i (by first | assumption | decide | omega)) rfl rfl mw_X8_cell ln_RX4_19 ⟨rfl, rfl, (Nat.le_of_ble_eq_true rfl), (Nat.le_of_ble_eq_true rfl), (Nat.le_of_ble_eq_true rfl), (Nat.le_of_ble_eq_true rfl)⟩ [1] rfl hl.1 (Nat.le_of_ble_eq_true rfl) dX4_sign_5 ?_
  exact hret _ _ _ dX4_sign_8 rfl
abbrev rm_X4_write : Room := { frames := 1, cells := 0, slots := 0, locals := 22 }
set_option maxRecDepth 100000 in
set_option maxHeartbeats 4000000 in
theorem c_X4_write (l : Launch) (D : va_G) (cI cZ : ClassId) (pd pg len : Nat) (sg : Nat → Int32) (sgn : Int32) : Met l yX4_write [.code yX4_write cX4_write 2 none] rm_X4_write (PcW D cI cZ [.ref pd, .int sgn] [(pd, .inr (4, [.ref pg, .int (nI len)])), (pg, .inl (cI, 60, .inl sg))]) (QcE D (S := Unit) none (fun _ => True) (fun _ => [(pd, .inr (4, [.ref pg, .int (nI (len + 1))])), (pg, .inl (cI, 60, .inl (s_X8_put_f 60 sg (nI len) sgn)))]) (zA [(pd, .inr (4, [.ref pg, .int (nI len)])), (pg, .inl (cI, 60, .inl sg))])) 0 0 (zA [(pd, .inr (4, [.ref pg, .int (nI len)])), (pg, .inl (cI, 60, .inl sg))]) := by
  refine mtWv (by decide) (Nat.le_of_ble_eq_true rfl) (fun p e s m args below meth c Q A S hT hP hD hS hret ls hl => ?_)
  have S : CallFix p m c cX4_write 2 s args zt RX4 := S
  obtain ⟨hx, hb, hml, hown, hts⟩ := id S
  have hl : lv_has ls 2 [(0, .ref pd), (1, .int sgn)] := hl
  refine lv_aload_n hx hb dX4_write_0 rfl (lv_at hl 0 rfl) ?_
  refine va_get (D := D) (ci := 4) (v := .ref pg) (C := RX4) (T := TX4) (N := 2) hx hb hts in_X4 hown hT.1 hP 0 rfl rfl 0 (by decide) (hts _ fl_RX4_9) (fun _ h9 => h9) rfl dX4_write_1 ?_
  refine lv_aload_n hx hb dX4_write_4 rfl (lv_at hl 0 rfl) ?_
  refine va_get (D := D) (ci := 4) (v := .int (nI len)) (C := RX4) (T := TX4) (N := 2) hx hb hts in_X4 hown hT.1 hP 0 rfl rfl 1 (by decide) (hts _ fl_RX4_15) (fun _ h9 => h9) rfl dX4_write_5 ?_
  refine lv_iload_n hx hb dX4_write_8 rfl (lv_at hl 1 rfl) ?_
  refine kEM (st1 := []) S hT hP hD hS (c_X8_put l D cI cZ pg 60 sg (nI len) sgn (by first | assumption | decide | omega)) rfl rfl mw_X8_put ln_RX4_23 ⟨rfl, rfl, (Nat.le_of_ble_eq_true rfl), (Nat.le_of_ble_eq_true rfl), (Nat.le_of_ble_eq_true rfl), (Nat.le_of_ble_eq_true rfl)⟩ [1] [pg] (by decide) rfl rfl (fun _ => rfl) hl.1 (Nat.le_of_ble_eq_true rfl) dX4_write_9 (fun _ H locs _ hP hD hS => ?_)
  have hP : va_P D vwCl [(pd, .inr (4, [.ref pg, .int (nI len)])), (pg, .inl (cI, 60, .inl (s_X8_put_f 60 sg (nI len) sgn)))] H := hP
  have hD : va_D A [(pd, .inr (4, [.ref pg, .int (nI len)])), (pg, .inl (cI, 60, .inl (s_X8_put_f 60 sg (nI len) sgn)))] := hD
  refine lv_aload_n hx hb dX4_write_12 rfl (lv_at hl 0 rfl) ?_
  refine lv_dup hx hb dX4_write_13 rfl ?_
  refine va_get (D := D) (ci := 4) (v := .int (nI len)) (C := RX4) (T := TX4) (N := 2) hx hb hts in_X4 hown hT.1 hP 0 rfl rfl 1 (by decide) (hts _ fl_RX4_15) (fun _ h9 => h9) rfl dX4_write_14 ?_
  refine lv_iconst (v := 1) hx hb dX4_write_17 (by decide) ?_
  refine lv_iadd hx hb dX4_write_18 ?_
  refine zI (y := nI (len + 1)) (nI_1 len) ?_
  refine va_put (D := D) (ci := 4) (v := .int (nI (len + 1))) (ty := .int) (C := RX4) (T := TX4) (N := 2) hx hb hts in_X4 tyX4 tyX4_ok nmX4 hown hT.1 hP hD hS 0 rfl rfl 1 (by decide) (hts _ fl_RX4_15) (fun _ h9 => h9) rfl (by decide +kernel) rfl rfl (Nat.le_of_ble_eq_true rfl) dX4_write_19 (fun H locs hP hD hS => ?_)
  have hP : va_P D vwCl [(pd, .inr (4, [.ref pg, .int (nI (len + 1))])), (pg, .inl (cI, 60, .inl (s_X8_put_f 60 sg (nI len) sgn)))] H := hP
  have hD : va_D A [(pd, .inr (4, [.ref pg, .int (nI (len + 1))])), (pg, .inl (cI, 60, .inl (s_X8_put_f 60 sg (nI len) sgn)))] := hD
  exact hret _ _ H locs () dX4_write_22  trivial hP hS
abbrev rm_X4_clear : Room := { frames := 0, cells := 0, slots := 0, locals := 0 }
set_option maxRecDepth 100000 in
set_option maxHeartbeats 4000000 in
theorem c_X4_clear (l : Launch) (D : va_G) (cI cZ : ClassId) (pd pg len : Nat) (sg : Nat → Int32) : Met l yX4_clear [.code yX4_clear cX4_clear 1 none] rm_X4_clear (PcW D cI cZ [.ref pd] [(pd, .inr (4, [.ref pg, .int (nI len)])), (pg, .inl (cI, 60, .inl sg))]) (QcE D (S := Unit) none (fun _ => True) (fun _ => [(pd, .inr (4, [.ref pg, .int 0])), (pg, .inl (cI, 60, .inl sg))]) (zA [(pd, .inr (4, [.ref pg, .int (nI len)])), (pg, .inl (cI, 60, .inl sg))])) 0 0 (zA [(pd, .inr (4, [.ref pg, .int (nI len)])), (pg, .inl (cI, 60, .inl sg))]) := by
  refine mtWv (by decide) (Nat.le_of_ble_eq_true rfl) (fun p e s m args below meth c Q A S hT hP hD hS hret ls hl => ?_)
  have S : CallFix p m c cX4_clear 1 s args zt RX4 := S
  obtain ⟨hx, hb, hml, hown, hts⟩ := id S
  have hl : lv_has ls 1 [(0, .ref pd)] := hl
  refine lv_aload_n hx hb dX4_clear_0 rfl (lv_at hl 0 rfl) ?_
  refine lv_iconst (v := 0) hx hb dX4_clear_1 (by decide) ?_
  refine va_put (D := D) (ci := 4) (v := .int 0) (ty := .int) (C := RX4) (T := TX4) (N := 2) hx hb hts in_X4 tyX4 tyX4_ok nmX4 hown hT.1 hP hD hS 0 rfl rfl 1 (by decide) (hts _ fl_RX4_15) (fun _ h9 => h9) rfl (by decide +kernel) rfl rfl (Nat.le_of_ble_eq_true rfl) dX4_clear_2 (fun H locs hP hD hS => ?_)
  have hP : va_P D vwCl [(pd, .inr (4, [.ref pg, .int 0])), (pg, .inl (cI, 60, .inl sg))] H := hP
  have hD : va_D A [(pd, .inr (4, [.ref pg, .int 0])), (pg, .inl (cI, 60, .inl sg))] := hD
  exact hret _ _ H locs () dX4_clear_5  trivial hP hS
def lp_X4_count_4 (len : Nat) (sg : Nat → Int32) (sgn : Int32) : Nat → Nat → Int32 → Int32
  | 0, _, x2_4 => x2_4
  | fu + 1, k, x2_4 => if nI len ≤ nI k then x2_4 else (if (s_X8_cell 60 sg (nI k)) = sgn then lp_X4_count_4 len sg sgn fu (k + 1) (x2_4 + 1) else lp_X4_count_4 len sg sgn fu (k + 1) (x2_4 + 0))
def zct (v : Int32) (f : Nat → Int32) : Nat → Nat
  | 0 => 0
  | n + 1 => zct v f n + (if f n = v then 1 else 0)
theorem zct_le (v : Int32) (f : Nat → Int32) : ∀ n, zct v f n ≤ n
  | 0 => Nat.le_refl _
  | n + 1 => by
    have := zct_le v f n
    rw [zct]
    split <;> omega
theorem zcel {n : Nat} {f : Nat → Int32} {k : Nat} (h : k < n) (hn : n < 2 ^ 31) : s_X8_cell n f (nI k) = f k := by
  unfold s_X8_cell
  rw [if_neg (nI_pos (by omega)), if_neg (nI_ge h hn), nI_clamp (by omega)]
theorem zct_lpq (len : Nat) (sg : Nat → Int32) (v : Int32) (hlen : len ≤ 60) : ∀ q k m, k ≤ len → len - k < q → m = nI (zct v sg k) → lp_X4_count_4 len sg v q k m = nI (zct v sg len) := by
  intro q
  induction q with
  | zero => intro k m _ h _; exact absurd h (Nat.not_lt_zero _)
  | succ q ih =>
    intro k m hk hq hm
    rw [lp_X4_count_4]
    by_cases c : nI len ≤ nI k
    · have := zNle c (by omega) (by omega)
      rw [if_pos c, hm, show k = len by omega]
    · have hkl := zNnle c (by omega) (by omega)
      rw [if_neg c]
      rw [zcel (by omega) (by decide)]
      split
      · next h => exact ih (k + 1) _ (by omega) (by omega) (by rw [zct, if_pos h, hm, nI_1])
      · next h => exact ih (k + 1) _ (by omega) (by omega) (by rw [zct, if_neg h, hm, Int32.add_zero, Nat.add_zero])
theorem zct_lp (len : Nat) (sg : Nat → Int32) (v : Int32) (hlen : len ≤ 60) : lp_X4_count_4 len sg v (len + 1) 0 0 = nI (zct v sg len) := zct_lpq len sg v hlen (len + 1) 0 0 (Nat.zero_le _) (by omega) rfl
abbrev rm_X4_count : Room := { frames := 2, cells := 0, slots := 0, locals := 42 }
set_option maxRecDepth 100000 in
set_option maxHeartbeats 4000000 in
theorem c_X4_count (l : Launch) (D : va_G) (cI cZ : ClassId) (pd pg len : Nat) (sg : Nat → Int32) (sgn : Int32) (hlen : len ≤ 60) : Met l yX4_count [.code yX4_count cX4_count 4 (some .int)] rm_X4_count (PcR D cI cZ [.ref pd, .int sgn] [(pd, .inr (4, [.ref pg, .int (nI len)])), (pg, .inl (cI, 60, .inl sg))]) (QcR (some (.int (nI (zct sgn sg len))))) 0 0 zN := by
  refine mtRi (by decide) (Nat.le_of_ble_eq_true rfl) (fun p e s m args below meth c Q S hT hP hret ls hl => ?_)
  have S : CallFix p m c cX4_count 4 s args zt RX4 := S
  obtain ⟨hx, hb, hml, hown, hts⟩ := id S
  have hl : lv_has ls 4 [(0, .ref pd), (1, .int sgn)] := hl
  refine lv_iconst (v := 0) hx hb dX4_count_0 (by decide) ?_
  refine lv_istore_n (lv' := [(2, .int 0), (0, .ref pd), (1, .int sgn)]) hx hb dX4_count_1 rfl hl (by decide) rfl (fun ls hl => ?_)
  refine lv_iconst (v := 0) hx hb dX4_count_2 (by decide) ?_
  refine lv_istore_n (lv' := [(3, .int 0), (2, .int 0), (0, .ref pd), (1, .int sgn)]) hx hb dX4_count_3 rfl hl (by decide) rfl (fun ls hl => ?_)
  have X2 : ∀ (y1 : Int32), (lp_X4_count_4 len sg sgn (len + 1) 0 0) = y1 → ∀ (ls : Array Slot), lv_has ls 4 [(0, .ref pd), (1, .int sgn), (2, .int y1)] → W p l e rm_X4_count s m args below meth c s.heap [] 0 0 Q (F0 m 35 ls []) := by
    intro y1 ey1 ls hl
    subst ey1
    refine lv_iload_n hx hb dX4_count_35 rfl (lv_at hl 2 rfl) ?_
    exact hret _ _ _ dX4_count_36 (zct_lp len sg sgn hlen)
  have L3 : ∀ (n6 : Nat) (k : Nat) (x2_4 : Int32), len - k < n6 → (k ≤ len) → lp_X4_count_4 len sg sgn n6 k x2_4 = lp_X4_count_4 len sg sgn (len + 1) 0 0 → ∀ (ls : Array Slot), lv_has ls 4 [(0, .ref pd), (1, .int sgn), (2, .int x2_4), (3, .int (nI k))] → W p l e rm_X4_count s m args below meth c s.heap [] 0 0 Q (F0 m 4 ls []) := by
    intro n6
    induction n6 with
    | zero => intro k x2_4 hm; exact absurd hm (Nat.not_lt_zero _)
    | succ n6 ih5 =>
      intro k x2_4 hm7 hk hv4 ls hl
      refine lv_iload_n hx hb dX4_count_4 rfl (lv_at hl 3 rfl) ?_
      refine lv_aload_n hx hb dX4_count_5 rfl (lv_at hl 0 rfl) ?_
      refine va_get (D := D) (ci := 4) (v := .int (nI len)) (C := RX4) (T := TX4) (N := 2) hx hb hts in_X4 hown hT.1 hP 0 rfl rfl 1 (by decide) (hts _ fl_RX4_15) (fun _ h9 => h9) rfl dX4_count_6 ?_
      refine lv_icmp_ge (tgt := 35) hx hb dX4_count_9 (by decide) (fun c8 => ?_) (fun c8 => ?_)
      · have nc8 := zNle (a := len) (b := k) c8 (by omega) (by omega)
        exact X2 _ (by rw [← hv4, lp_X4_count_4, if_pos c8]) ls (lv_sub hl [0, 1, 2] rfl)
      · have nc8 := zNnle (a := len) (b := k) c8 (by omega) (by omega)
        refine lv_iload_n hx hb dX4_count_12 rfl (lv_at hl 2 rfl) ?_
        refine lv_aload_n hx hb dX4_count_13 rfl (lv_at hl 0 rfl) ?_
        refine lv_iload_n hx hb dX4_count_14 rfl (lv_at hl 3 rfl) ?_
        refine kRV (q0 := 0) (st1 := [.int (s_X8_cell 60 sg (nI k)), .int x2_4]) S hT hP (c_X4_sign l D cI cZ pd pg len sg (nI k)) rfl rfl mw_X4_sign lk_RX4_27 ⟨rfl, rfl, (Nat.le_of_ble_eq_true rfl), (Nat.le_of_ble_eq_true rfl), (Nat.le_of_ble_eq_true rfl), (Nat.le_of_ble_eq_true rfl)⟩ [0, 1] rfl rfl rfl hl.1 (Nat.le_of_ble_eq_true rfl) dX4_count_15 ?_
        refine lv_iload_n hx hb dX4_count_18 rfl (lv_at hl 1 rfl) ?_
        refine lv_icmp_ne (tgt := 26) hx hb dX4_count_19 (by decide) (fun c9 => ?_) (fun c9 => ?_)
        · refine lv_iconst (v := 0) hx hb dX4_count_26 (by decide) ?_
          refine lv_iadd hx hb dX4_count_27 ?_
          refine lv_istore_n (lv' := [(2, .int (x2_4 + 0)), (0, .ref pd), (1, .int sgn), (3, .int (nI k))]) hx hb dX4_count_28 rfl hl (by decide) rfl (fun ls hl => ?_)
          refine lv_iinc (v := nI (k + 1)) (lv' := [(3, .int (nI (k + 1))), (2, .int (x2_4 + 0)), (0, .ref pd), (1, .int sgn)]) hx hb dX4_count_29 hl (k := 3) rfl (nI_1 k) (by decide) rfl (fun ls hl => ?_)
          refine lv_goto (tgt := 4) hx hb dX4_count_32 (by decide) ?_
          exact ih5 (k + 1) (x2_4 + 0) (by omega) (by omega) (by rw [← hv4, lp_X4_count_4, if_neg c8, if_neg c9]) ls (lv_sub hl [2, 3, 1, 0] rfl)
        · refine lv_iconst (v := 1) hx hb dX4_count_22 (by decide) ?_
          refine lv_goto (tgt := 27) hx hb dX4_count_23 (by decide) ?_
          refine lv_iadd hx hb dX4_count_27 ?_
          refine lv_istore_n (lv' := [(2, .int (x2_4 + 1)), (0, .ref pd), (1, .int sgn), (3, .int (nI k))]) hx hb dX4_count_28 rfl hl (by decide) rfl (fun ls hl => ?_)
          refine lv_iinc (v := nI (k + 1)) (lv' := [(3, .int (nI (k + 1))), (2, .int (x2_4 + 1)), (0, .ref pd), (1, .int sgn)]) hx hb dX4_count_29 hl (k := 3) rfl (nI_1 k) (by decide) rfl (fun ls hl => ?_)
          refine lv_goto (tgt := 4) hx hb dX4_count_32 (by decide) ?_
          exact ih5 (k + 1) (x2_4 + 1) (by omega) (by omega) (by rw [← hv4, lp_X4_count_4, if_neg c8, if_pos c9]) ls (lv_sub hl [2, 3, 1, 0] rfl)
  exact L3 (len + 1) 0 0 (by omega) (by omega) rfl ls (lv_sub hl [2, 3, 1, 0] rfl)
def lp_X4_hasThrow_2 (len : Nat) (sg : Nat → Int32) : Nat → Nat → Int32
  | 0, _ => 0
  | fu + 1, k => if nI len ≤ nI k then 0 else (if (s_X8_thingOf (s_X8_cell 60 sg (nI k))) = (-6) then lp_X4_hasThrow_2 len sg fu (k + 1) else 1)
theorem lp_X4_hasThrow_2_01 (len : Nat) (sg : Nat → Int32) : ∀ q a0, lp_X4_hasThrow_2 len sg q a0 = 0 ∨ lp_X4_hasThrow_2 len sg q a0 = 1 := by
  intro q
  induction q with
  | zero => intro a0; exact Or.inl rfl
  | succ q ih =>
    intro a0
    rw [lp_X4_hasThrow_2]
    (repeat' split) <;> first | exact ih _ | exact Or.inl rfl | exact Or.inr rfl
abbrev rm_X4_hasThrow : Room := { frames := 3, cells := 0, slots := 0, locals := 62 }
set_option maxRecDepth 100000 in
set_option maxHeartbeats 4000000 in
theorem c_X4_hasThrow (l : Launch) (D : va_G) (cI cZ : ClassId) (pd pg len : Nat) (sg : Nat → Int32) (hlen : len ≤ 60) : Met l yX4_hasThrow [.code yX4_hasThrow cX4_hasThrow 2 (some .boolean)] rm_X4_hasThrow (PcR D cI cZ [.ref pd] [(pd, .inr (4, [.ref pg, .int (nI len)])), (pg, .inl (cI, 60, .inl sg))]) (QcR (some (.int (lp_X4_hasThrow_2 len sg (len + 1) 0)))) 0 0 zN := by
  refine mtRz (by rcases lp_X4_hasThrow_2_01 len sg (len + 1) 0 with e | e <;> (rw [e]; rfl)) (by decide) (Nat.le_of_ble_eq_true rfl) (fun p e s m args below meth c Q S hT hP hret ls hl => ?_)
  have S : CallFix p m c cX4_hasThrow 2 s args zt RX4 := S
  obtain ⟨hx, hb, hml, hown, hts⟩ := id S
  have hl : lv_has ls 2 [(0, .ref pd)] := hl
  refine lv_iconst (v := 0) hx hb dX4_hasThrow_0 (by decide) ?_
  refine lv_istore_n (lv' := [(1, .int 0), (0, .ref pd)]) hx hb dX4_hasThrow_1 rfl hl (by decide) rfl (fun ls hl => ?_)
  have L1 : ∀ (n4 : Nat) (k : Nat), len - k < n4 → (k ≤ len) → lp_X4_hasThrow_2 len sg n4 k = lp_X4_hasThrow_2 len sg (len + 1) 0 → ∀ (ls : Array Slot), lv_has ls 2 [(0, .ref pd), (1, .int (nI k))] → W p l e rm_X4_hasThrow s m args below meth c s.heap [] 0 0 Q (F0 m 2 ls []) := by
    intro n4
    induction n4 with
    | zero => intro k hm; exact absurd hm (Nat.not_lt_zero _)
    | succ n4 ih3 =>
      intro k hm5 hk hv2 ls hl
      refine lv_iload_n hx hb dX4_hasThrow_2 rfl (lv_at hl 1 rfl) ?_
      refine lv_aload_n hx hb dX4_hasThrow_3 rfl (lv_at hl 0 rfl) ?_
      refine va_get (D := D) (ci := 4) (v := .int (nI len)) (C := RX4) (T := TX4) (N := 2) hx hb hts in_X4 hown hT.1 hP 0 rfl rfl 1 (by decide) (hts _ fl_RX4_15) (fun _ h9 => h9) rfl dX4_hasThrow_4 ?_
      refine lv_icmp_ge (tgt := 31) hx hb dX4_hasThrow_7 (by decide) (fun c6 => ?_) (fun c6 => ?_)
      · have nc6 := zNle (a := len) (b := k) c6 (by omega) (by omega)
        refine lv_iconst (v := 0) hx hb dX4_hasThrow_31 (by decide) ?_
        exact hret _ _ _ dX4_hasThrow_32 (by rw [← hv2, lp_X4_hasThrow_2, if_pos c6])
      · have nc6 := zNnle (a := len) (b := k) c6 (by omega) (by omega)
        refine lv_aload_n hx hb dX4_hasThrow_10 rfl (lv_at hl 0 rfl) ?_
        refine lv_iload_n hx hb dX4_hasThrow_11 rfl (lv_at hl 1 rfl) ?_
        refine kRV (q0 := 0) (st1 := [.int (s_X8_cell 60 sg (nI k))]) S hT hP (c_X4_sign l D cI cZ pd pg len sg (nI k)) rfl rfl mw_X4_sign lk_RX4_27 ⟨rfl, rfl, (Nat.le_of_ble_eq_true rfl), (Nat.le_of_ble_eq_true rfl), (Nat.le_of_ble_eq_true rfl), (Nat.le_of_ble_eq_true rfl)⟩ [0, 1] rfl rfl rfl hl.1 (Nat.le_of_ble_eq_true rfl) dX4_hasThrow_12 ?_
        refine kRM (st1 := [.int (s_X8_thingOf (s_X8_cell 60 sg (nI k)))]) S hT hP (c_X8_thingOf l D cI cZ (s_X8_cell 60 sg (nI k))) rfl rfl mw_X8_thingOf ln_RX4_31 ⟨rfl, rfl, (Nat.le_of_ble_eq_true rfl), (Nat.le_of_ble_eq_true rfl), (Nat.le_of_ble_eq_true rfl), (Nat.le_of_ble_eq_true rfl)⟩ [] rfl hl.1 (Nat.le_of_ble_eq_true rfl) dX4_hasThrow_15 ?_
        refine lv_bipush (v := (-6)) hx hb dX4_hasThrow_18 (by decide) ?_
        refine lv_icmp_eq (tgt := 25) hx hb dX4_hasThrow_20 (by decide) (fun c7 => ?_) (fun c7 => ?_)
        · refine lv_iinc (v := nI (k + 1)) (lv' := [(1, .int (nI (k + 1))), (0, .ref pd)]) hx hb dX4_hasThrow_25 hl (k := 1) rfl (nI_1 k) (by decide) rfl (fun ls hl => ?_)
          refine lv_goto (tgt := 2) hx hb dX4_hasThrow_28 (by decide) ?_
          exact ih3 (k + 1) (by omega) (by omega) (by rw [← hv2, lp_X4_hasThrow_2, if_neg c6, if_pos c7]) ls (lv_sub hl [1, 0] rfl)
        · refine lv_iconst (v := 1) hx hb dX4_hasThrow_23 (by decide) ?_
          exact hret _ _ _ dX4_hasThrow_24 (by rw [← hv2, lp_X4_hasThrow_2, if_neg c6, if_neg c7])
  exact L1 (len + 1) 0 (by omega) (by omega) rfl ls (lv_sub hl [1, 0] rfl)
def lp_X4_fines_4 (len : Nat) (sg : Nat → Int32) : Nat → Nat → Int32 → Int32
  | 0, _, x1_4 => x1_4
  | fu + 1, k, x1_4 => if nI len ≤ nI k then x1_4 else (if (s_X8_thingOf (s_X8_cell 60 sg (nI k))) = (-6) then lp_X4_fines_4 len sg fu (k + 1) (x1_4 + 0) else (if ((if nI k ≤ 0 then 0 else (if (s_X8_cell 60 sg ((nI k) - 1)) = 33 then 1 else 0)) : Int32) = 0 then lp_X4_fines_4 len sg fu (k + 1) (x1_4 + 1) else lp_X4_fines_4 len sg fu (k + 1) (x1_4 + 0)))
abbrev rm_X4_fines : Room := { frames := 3, cells := 0, slots := 0, locals := 62 }
set_option maxRecDepth 100000 in
set_option maxHeartbeats 4000000 in
theorem c_X4_fines (l : Launch) (D : va_G) (cI cZ : ClassId) (pd pg len : Nat) (sg : Nat → Int32) (hlen : len ≤ 60) : Met l yX4_fines [.code yX4_fines cX4_fines 4 (some .int)] rm_X4_fines (PcR D cI cZ [.ref pd] [(pd, .inr (4, [.ref pg, .int (nI len)])), (pg, .inl (cI, 60, .inl sg))]) (QcR (some (.int (lp_X4_fines_4 len sg (len + 1) 0 0)))) 0 0 zN := by
  refine mtRi (by decide) (Nat.le_of_ble_eq_true rfl) (fun p e s m args below meth c Q S hT hP hret ls hl => ?_)
  have S : CallFix p m c cX4_fines 4 s args zt RX4 := S
  obtain ⟨hx, hb, hml, hown, hts⟩ := id S
  have hl : lv_has ls 4 [(0, .ref pd)] := hl
  refine lv_iconst (v := 0) hx hb dX4_fines_0 (by decide) ?_
  refine lv_istore_n (lv' := [(1, .int 0), (0, .ref pd)]) hx hb dX4_fines_1 rfl hl (by decide) rfl (fun ls hl => ?_)
  refine lv_iconst (v := 0) hx hb dX4_fines_2 (by decide) ?_
  refine lv_istore_n (lv' := [(2, .int 0), (1, .int 0), (0, .ref pd)]) hx hb dX4_fines_3 rfl hl (by decide) rfl (fun ls hl => ?_)
  have X2 : ∀ (y1 : Int32), (lp_X4_fines_4 len sg (len + 1) 0 0) = y1 → ∀ (ls : Array Slot), lv_has ls 4 [(0, .ref pd), (1, .int y1)] → W p l e rm_X4_fines s m args below meth c s.heap [] 0 0 Q (F0 m 65 ls []) := by
    intro y1 ey1 ls hl
    subst ey1
    refine lv_iload_n hx hb dX4_fines_65 rfl (lv_at hl 1 rfl) ?_
    exact hret _ _ _ dX4_fines_66 rfl
  have L3 : ∀ (n6 : Nat) (k : Nat) (x1_4 : Int32), len - k < n6 → (k ≤ len) → lp_X4_fines_4 len sg n6 k x1_4 = lp_X4_fines_4 len sg (len + 1) 0 0 → ∀ (ls : Array Slot), lv_has ls 4 [(0, .ref pd), (1, .int x1_4), (2, .int (nI k))] → W p l e rm_X4_fines s m args below meth c s.heap [] 0 0 Q (F0 m 4 ls []) := by
    intro n6
    induction n6 with
    | zero => intro k x1_4 hm; exact absurd hm (Nat.not_lt_zero _)
    | succ n6 ih5 =>
      intro k x1_4 hm7 hk hv4 ls hl
      refine lv_iload_n hx hb dX4_fines_4 rfl (lv_at hl 2 rfl) ?_
      refine lv_aload_n hx hb dX4_fines_5 rfl (lv_at hl 0 rfl) ?_
      refine va_get (D := D) (ci := 4) (v := .int (nI len)) (C := RX4) (T := TX4) (N := 2) hx hb hts in_X4 hown hT.1 hP 0 rfl rfl 1 (by decide) (hts _ fl_RX4_15) (fun _ h9 => h9) rfl dX4_fines_6 ?_
      refine lv_icmp_ge (tgt := 65) hx hb dX4_fines_9 (by decide) (fun c8 => ?_) (fun c8 => ?_)
      · have nc8 := zNle (a := len) (b := k) c8 (by omega) (by omega)
        exact X2 _ (by rw [← hv4, lp_X4_fines_4, if_pos c8]) ls (lv_sub hl [0, 1] rfl)
      · have nc8 := zNnle (a := len) (b := k) c8 (by omega) (by omega)
        refine lv_iload_n hx hb dX4_fines_12 rfl (lv_at hl 2 rfl) ?_
        have J10 : ∀ (z9 : Int32), ((if nI k ≤ 0 then 0 else (if (s_X8_cell 60 sg ((nI k) - 1)) = 33 then 1 else 0)) : Int32) = z9 → W p l e rm_X4_fines s m args below meth c s.heap [] 0 0 Q (F0 m 33 ls [.int z9]) := by
          intro z9 ez9
          subst ez9
          refine lv_istore_n (lv' := [(3, .int ((if nI k ≤ 0 then 0 else (if (s_X8_cell 60 sg ((nI k) - 1)) = 33 then 1 else 0)) : Int32)), (0, .ref pd), (1, .int x1_4), (2, .int (nI k))]) hx hb dX4_fines_33 rfl hl (by decide) rfl (fun ls hl => ?_)
          refine lv_iload_n hx hb dX4_fines_34 rfl (lv_at hl 2 rfl) ?_
          refine lv_aload_n hx hb dX4_fines_35 rfl (lv_at hl 1 rfl) ?_
          refine lv_iload_n hx hb dX4_fines_36 rfl (lv_at hl 3 rfl) ?_
          refine kRV (q0 := 0) (st1 := [.int (s_X8_cell 60 sg (nI k)), .int x1_4]) S hT hP (c_X4_sign l D cI cZ pd pg len sg (nI k)) rfl rfl mw_X4_sign lk_RX4_27 ⟨rfl, rfl, (Nat.le_of_ble_eq_true rfl), (Nat.le_of_ble_eq_true rfl), (Nat.le_of_ble_eq_true rfl), (Nat.le_of_ble_eq_true rfl)⟩ [0, 1] rfl rfl rfl hl.1 (Nat.le_of_ble_eq_true rfl) dX4_fines_37 ?_
          refine kRM (st1 := [.int (s_X8_thingOf (s_X8_cell 60 sg (nI k))), .int x1_4]) S hT hP (c_X8_thingOf l D cI cZ (s_X8_cell 60 sg (nI k))) rfl rfl mw_X8_thingOf ln_RX4_31 ⟨rfl, rfl, (Nat.le_of_ble_eq_true rfl), (Nat.le_of_ble_eq_true rfl), (Nat.le_of_ble_eq_true rfl), (Nat.le_of_ble_eq_true rfl)⟩ [] rfl hl.1 (Nat.le_of_ble_eq_true rfl) dX4_fines_40 ?_
          refine lv_bipush (v := (-6)) hx hb dX4_fines_43 (by decide) ?_
          refine lv_icmp_eq (tgt := 56) hx hb dX4_fines_45 (by decide) (fun c11 => ?_) (fun c11 => ?_)
          · refine lv_iconst (v := 0) hx hb dX4_fines_56 (by decide) ?_
            refine lv_iadd hx hb dX4_fines_57 ?_
            refine lv_istore_n (lv' := [(1, .int (x1_4 + 0)), (3, .int ((if nI k ≤ 0 then 0 else (if (s_X8_cell 60 sg ((nI k) - 1)) = 33 then 1 else 0)) : Int32)), (0, .ref pd), (2, .int (nI k))]) hx hb dX4_fines_58 rfl hl (by decide) rfl (fun ls hl => ?_)
            refine lv_iinc (v := nI (k + 1)) (lv' := [(2, .int (nI (k + 1))), (1, .int (x1_4 + 0)), (3, .int ((if nI k ≤ 0 then 0 else (if (s_X8_cell 60 sg ((nI k) - 1)) = 33 then 1 else 0)) : Int32)), (0, .ref pd)]) hx hb dX4_fines_59 hl (k := 3) rfl (nI_1 k) (by decide) rfl (fun ls hl => ?_)
            refine lv_goto (tgt := 4) hx hb dX4_fines_62 (by decide) ?_
            exact ih5 (k + 1) (x1_4 + 0) (by omega) (by omega) (by rw [← hv4, lp_X4_fines_4, if_neg c8, if_pos c11]) ls (lv_sub hl [3, 1, 0] rfl)
          · refine lv_iload_n hx hb dX4_fines_48 rfl (lv_at hl 0 rfl) ?_
            refine lv_if_ne (tgt := 56) hx hb dX4_fines_49 (by decide) (fun c12 => ?_) (fun c12 => ?_)
            · refine lv_iconst (v := 0) hx hb dX4_fines_56 (by decide) ?_
              refine lv_iadd hx hb dX4_fines_57 ?_
              refine lv_istore_n (lv' := [(1, .int (x1_4 + 0)), (3, .int ((if nI k ≤ 0 then 0 else (if (s_X8_cell 60 sg ((nI k) - 1)) = 33 then 1 else 0)) : Int32)), (0, .ref pd), (2, .int (nI k))]) hx hb dX4_fines_58 rfl hl (by decide) rfl (fun ls hl => ?_)
              refine lv_iinc (v := nI (k + 1)) (lv' := [(2, .int (nI (k + 1))), (1, .int (x1_4 + 0)), (3, .int ((if nI k ≤ 0 then 0 else (if (s_X8_cell 60 sg ((nI k) - 1)) = 33 then 1 else 0)) : Int32)), (0, .ref pd)]) hx hb dX4_fines_59 hl (k := 3) rfl (nI_1 k) (by decide) rfl (fun ls hl => ?_)
              refine lv_goto (tgt := 4) hx hb dX4_fines_62 (by decide) ?_
              exact ih5 (k + 1) (x1_4 + 0) (by omega) (by omega) (by rw [← hv4, lp_X4_fines_4, if_neg c8, if_neg c11, if_neg c12]) ls (lv_sub hl [3, 1, 0] rfl)
            · refine lv_iconst (v := 1) hx hb dX4_fines_52 (by decide) ?_
              refine lv_goto (tgt := 57) hx hb dX4_fines_53 (by decide) ?_
              refine lv_iadd hx hb dX4_fines_57 ?_
              refine lv_istore_n (lv' := [(1, .int (x1_4 + 1)), (3, .int ((if nI k ≤ 0 then 0 else (if (s_X8_cell 60 sg ((nI k) - 1)) = 33 then 1 else 0)) : Int32)), (0, .ref pd), (2, .int (nI k))]) hx hb dX4_fines_58 rfl hl (by decide) rfl (fun ls hl => ?_)
              refine lv_iinc (v := nI (k + 1)) (lv' := [(2, .int (nI (k + 1))), (1, .int (x1_4 + 1)), (3, .int ((if nI k ≤ 0 then 0 else (if (s_X8_cell 60 sg ((nI k) - 1)) = 33 then 1 else 0)) : Int32)), (0, .ref pd)]) hx hb dX4_fines_59 hl (k := 3) rfl (nI_1 k) (by decide) rfl (fun ls hl => ?_)
              refine lv_goto (tgt := 4) hx hb dX4_fines_62 (by decide) ?_
              exact ih5 (k + 1) (x1_4 + 1) (by omega) (by omega) (by rw [← hv4, lp_X4_fines_4, if_neg c8, if_neg c11, if_pos c12]) ls (lv_sub hl [3, 1, 0] rfl)
        refine lv_if_le (tgt := 32) hx hb dX4_fines_13 (by decide) (fun c13 => ?_) (fun c13 => ?_)
        · have nc13 := zNle (a := k) (b := 0) c13 (by omega) (by omega)
          refine lv_iconst (v := 0) hx hb dX4_fines_32 (by decide) ?_
          exact J10 0 (by rw [if_pos c13])
        · have nc13 := zNnle (a := k) (b := 0) c13 (by omega) (by omega)
          refine lv_aload_n hx hb dX4_fines_16 rfl (lv_at hl 0 rfl) ?_
          refine lv_iload_n hx hb dX4_fines_17 rfl (lv_at hl 2 rfl) ?_
          refine lv_iconst (v := 1) hx hb dX4_fines_18 (by decide) ?_
          refine lv_isub hx hb dX4_fines_19 ?_
          refine kRV (q0 := 0) (st1 := [.int (s_X8_cell 60 sg ((nI k) - 1))]) S hT hP (c_X4_sign l D cI cZ pd pg len sg ((nI k) - 1)) rfl rfl mw_X4_sign lk_RX4_27 ⟨rfl, rfl, (Nat.le_of_ble_eq_true rfl), (Nat.le_of_ble_eq_true rfl), (Nat.le_of_ble_eq_true rfl), (Nat.le_of_ble_eq_true rfl)⟩ [0, 1] rfl rfl rfl hl.1 (Nat.le_of_ble_eq_true rfl) dX4_fines_20 ?_
          refine lv_bipush (v := 33) hx hb dX4_fines_23 (by decide) ?_
          refine lv_icmp_ne (tgt := 32) hx hb dX4_fines_25 (by decide) (fun c14 => ?_) (fun c14 => ?_)
          · refine lv_iconst (v := 0) hx hb dX4_fines_32 (by decide) ?_
            exact J10 0 (by rw [if_neg c13, if_neg c14])
          · refine lv_iconst (v := 1) hx hb dX4_fines_28 (by decide) ?_
            refine lv_goto (tgt := 33) hx hb dX4_fines_29 (by decide) ?_
            exact J10 1 (by rw [if_neg c13, if_pos c14])
  exact L3 (len + 1) 0 0 (by omega) (by omega) rfl ls (lv_sub hl [2, 1, 0] rfl)
