/-- the gathered list, whole: minute m's sneezes lie from zpr m on -/
theorem zgw (mi : Nat → Int32) (len : Nat) (sg : Nat → Int32) (mt more : Nat) (hlen : len ≤ 60) (hmo : more ≤ 12) (hmt : mt ≤ 60) (h12 : zct 33 sg len ≤ 12) (hin : mt ≤ zct 46 sg len) : ∀ m i, m ≤ zct 46 sg len → zpr sg len mt more m ≤ i → i < zpr sg len mt more (m + 1) → s_X5_gather_mi mi len sg mt more i = nI m := by
  intro m i hm h1 h2
  have h0 : zgi sg mt more 0 mi := fun m i hm h1 h2 => by
    have : m = 0 := by rw [zct] at hm; omega
    subst this
    rw [if_neg (show ¬ 0 < zct 46 sg 0 from Nat.lt_irrefl _), if_neg (show ¬ mt < zct 46 sg 0 from Nat.not_lt_zero _)] at h2
    exact absurd h2 (Nat.not_lt_zero _)
  have hinv := zg_inv len sg mt more hlen hmo hmt (len + 1) 0 0 0 mi (Nat.zero_le _) (by omega) rfl (by rw [zct, if_neg (Nat.not_lt_zero _)])
  have hc := zgc len sg mt more hlen hmo hmt h12 (len + 1) 0 0 0 mi (Nat.zero_le _) (by omega) rfl (by rw [zct, if_neg (Nat.not_lt_zero _)]) h0
  have hz := zct_le 46 sg len
  unfold s_X5_gather_mi
  rw [hinv.1, hinv.2]
  generalize (lp_X5_gather_11 len sg mt more (len + 1) 0 0 0 mi).2.2 = f at hc ⊢
  have hE2 : ((if nI (zct 46 sg len) = nI mt then more else 0) : Nat) = (if zct 46 sg len = mt then more else 0) := by
    by_cases e : zct 46 sg len = mt
    · rw [if_pos e, if_pos (by rw [e])]
    · rw [if_neg e, if_neg (fun h => e (zNeq h (by omega) (by omega)))]
  have hx : (if zct 46 sg len = mt then more else 0) ≤ 12 := by split <;> omega
  have hy : (if mt < zct 46 sg len then more else 0) + (if zct 46 sg len = mt then more else 0) ≤ 12 := by
    by_cases a : mt < zct 46 sg len
    · rw [if_pos a, if_neg (show ¬ zct 46 sg len = mt by omega)]; omega
    · rw [if_neg a]; omega
  rw [hE2, zadd_2 (nI (zct 46 sg len)) _ hx _ 0 _ f (Nat.zero_le _) (by omega) (by omega) i, Nat.sub_zero]
  have hall := zpr_all sg mt more len (zct 46 sg len) (Nat.le_refl _)
  have hzz : zpr sg len mt more (zct 46 sg len + 1) = zpr sg len mt more (zct 46 sg len) + zsn sg (zct 46 sg len) len + (if zct 46 sg len = mt then more else 0) := by rw [zpr]
  rw [if_pos (show mt < zct 46 sg len + 1 by omega)] at hall
  rcases Nat.lt_or_ge m (zct 46 sg len) with hlt | hge
  · have hmo2 := zpr_mono sg len mt more (m + 1) (zct 46 sg len - (m + 1))
    rw [show m + 1 + (zct 46 sg len - (m + 1)) = zct 46 sg len by omega] at hmo2
    by_cases a : mt < zct 46 sg len
    · rw [if_pos a, if_neg (show ¬ zct 46 sg len = mt by omega), if_neg (by omega)]
      exact hc m i hm h1 (by rw [if_pos hlt]; exact h2)
    · have e : zct 46 sg len = mt := by omega
      rw [if_pos e] at hzz
      rw [if_neg a, if_neg (by omega)]
      exact hc m i hm h1 (by rw [if_pos hlt]; exact h2)
  · have e : m = zct 46 sg len := by omega
    subst e
    by_cases d : i < zct 33 sg len + (if mt < zct 46 sg len then more else 0)
    · rw [if_neg (by omega)]
      exact hc _ i (Nat.le_refl _) h1 (by rw [if_neg (Nat.lt_irrefl _)]; exact d)
    · have hsum : (if mt < zct 46 sg len then more else 0) + (if zct 46 sg len = mt then more else 0) = more := by
        by_cases a : mt < zct 46 sg len
        · rw [if_pos a, if_neg (show ¬ zct 46 sg len = mt by omega)]; omega
        · rw [if_neg a, if_pos (by omega)]; omega
      rw [if_pos (by omega)]
