theorem zff_k (len : Nat) (sg : Nat → Int32) (hlen : len ≤ 60) : ∀ q k x ab, k ≤ len → len - k < q → x = nI (zct 33 sg k) → zct 33 sg k ≤ 12 → lp_X8_firstFault_12 len sg q k x ab = -6 → zct 33 sg len ≤ 12 := by
  intro q
  induction q with
  | zero => intro k x ab _ h; exact absurd h (Nat.not_lt_zero _)
  | succ q ih =>
    intro k x ab hk hq hx hz hr
    rw [lp_X8_firstFault_12] at hr
    by_cases c : nI len ≤ nI k
    · have := zNle c (by omega) (by omega)
      rw [← show k = len by omega]
      exact hz
    · have hkl := zNnle c (by omega) (by omega)
      rw [if_neg c, zcel (by omega) (by decide)] at hr
      by_cases d : sg k = 33
      · have d6 : ¬ sg k = 46 := by rw [d]; decide
        rw [if_neg d6, if_pos d, if_pos d, d, hx, nI_1] at hr
        have ht : s_X8_thingOf 33 = -6 := by decide
        rw [ht] at hr
        by_cases e : nI (zct 33 sg k + 1) ≤ 12
        · have e2 := zNle (b := 12) e (by omega) (by decide)
          rw [if_pos e, if_neg (by decide)] at hr
          exact ih (k + 1) _ _ (by omega) (by omega) (by rw [zct, if_pos d]) (by rw [zct, if_pos d]; exact e2) hr
        · rw [if_neg e, if_pos rfl, if_pos rfl] at hr
          exact absurd hr (znm6 (by omega))
      · rw [if_neg d, if_neg d] at hr
        have hz2 : zct 33 sg (k + 1) = zct 33 sg k := by rw [zct, if_neg d, Nat.add_zero]
        by_cases e : (if sg k = 46 then (1 : Int32) else if s_X8_thingOf (sg k) = -6 then 0 else if s_X8_has ab (s_X8_thingOf (sg k)) = 0 then 0 else 1) = 0
        · rw [if_pos e] at hr
          exact absurd hr (znm6 (by omega))
        · rw [if_neg e] at hr
          exact ih (k + 1) _ _ (by omega) (by omega) (by rw [hz2, hx]) (by rw [hz2]; exact hz) hr
theorem zff12 {len : Nat} {sg : Nat → Int32} {ab : Int32} (hlen : len ≤ 60) (h : lp_X8_firstFault_12 len sg (len + 1) 0 0 ab = -6) : zct 33 sg len ≤ 12 := zff_k len sg hlen (len + 1) 0 0 ab (Nat.zero_le _) (by omega) rfl (Nat.zero_le _) h
theorem zdr_ns (len : Nat) (sg : Nat → Int32) (nm wd wt : Nat → Int32) : ∀ q k mt ns x f, ns ≤ 12 → (lp_X2_draw_41 nm wd wt len sg q k mt ns x f).1 ≤ 12 := by
  intro q
  induction q with
  | zero => intro k mt ns x f h; exact h
  | succ q ih =>
    intro k mt ns x f h
    rw [lp_X2_draw_41]
    have h2 : (if s_X8_cell 60 sg (nI k) = 33 then min (ns + 1) 12 else ns) ≤ 12 := by split <;> omega
    split
    · exact h
    · split
      · exact ih _ _ _ _ _ h2
      · exact ih _ _ _ _ _ h2
