theorem zct_up (v : Int32) (f : Nat → Int32) : ∀ (j k : Nat), zct v f k ≤ zct v f (k + j) := by
  intro j
  induction j with
  | zero => intro k; exact Nat.le_refl _
  | succ j ih => intro k; have := ih k; rw [show k + (j + 1) = (k + j) + 1 by omega, zct]; omega
/-- the gathered list's contents -/
theorem zgc (len : Nat) (sg : Nat → Int32) (mt more : Nat) (hlen : len ≤ 60) (hmo : more ≤ 12) (hmt : mt ≤ 60) (h12 : zct 33 sg len ≤ 12) : ∀ q k nw cq f, k ≤ len → len - k < q → nw = zct 46 sg k → cq = zct 33 sg k + (if mt < nw then more else 0) → zgi sg mt more k f → zgi sg mt more len (lp_X5_gather_11 len sg mt more q k nw cq f).2.2 := by
  intro q
  induction q with
  | zero => intro k nw cq f _ h; exact absurd h (Nat.not_lt_zero _)
  | succ q ih =>
    intro k nw cq f hk hq hnw hcq hf
    rw [lp_X5_gather_11]
    by_cases c : nI len ≤ nI k
    · have := zNle c (by omega) (by omega)
      have hkl : k = len := by omega
      subst hkl
      rw [if_pos c]
      exact hf
    · have hkl := zNnle c (by omega) (by omega)
      rw [if_neg c, zcel (by omega) (by decide)]
      have hnk : nw ≤ k := by rw [hnw]; exact zct_le 46 sg k
      have h33 : zct 33 sg k ≤ 12 := Nat.le_trans (by have := zct_up 33 sg (len - k) k; rw [show k + (len - k) = len by omega] at this; exact this) h12
      have hE : (nI nw = nI mt) ↔ nw = mt := nI_eq (by omega) (by omega)
      have hE2 : ((if nI nw = nI mt then more else 0) : Nat) = (if nw = mt then more else 0) := by
        by_cases e : nw = mt
        · rw [if_pos e, if_pos (hE.mpr e)]
        · rw [if_neg e, if_neg (fun h => e (hE.mp h))]
      have hx : (if nw = mt then more else 0) ≤ 12 := by split <;> omega
      have hy : (if mt < nw then more else 0) + (if nw = mt then more else 0) ≤ 12 := by
        by_cases a : mt < nw
        · rw [if_pos a, if_neg (show ¬ nw = mt by omega)]; omega
        · rw [if_neg a]; omega
      by_cases d : sg k = 46
      · have d3 : ¬ sg k = 33 := by rw [d]; decide
        rw [if_pos d, if_neg d3, if_neg d3, hE2]
        have hcount := zadd_1 (nI nw) _ hx ((if nw = mt then more else 0) + 1) 0 cq f (Nat.zero_le _) (by omega)
        refine ih (k + 1) _ _ _ (by omega) (by omega) (by rw [zct, if_pos d, hnw]) ?_ ?_
        · rw [hcount, zct, if_neg d3, hcq]
          by_cases e : nw = mt
          · rw [if_pos e, if_neg (show ¬ mt < nw by omega), if_pos (show mt < nw + 1 by omega)]; omega
          · by_cases e2 : mt < nw
            · rw [if_neg e, if_pos e2, if_pos (show mt < nw + 1 by omega)]; omega
            · rw [if_neg e, if_neg e2, if_neg (show ¬ mt < nw + 1 by omega)]
        · refine zgi_dot hf d (fun i => ?_)
          rw [zadd_2 (nI nw) _ hx _ 0 cq f (Nat.zero_le _) (by omega) (by omega) i, hcq, hnw, Nat.sub_zero]
      · rw [if_neg d]
        by_cases d3 : sg k = 33
        · have h11 : zct 33 sg k + 1 ≤ 12 := by
            have h := zct_up 33 sg (len - (k + 1)) (k + 1)
            rw [show k + 1 + (len - (k + 1)) = len by omega, zct, if_pos d3] at h
            omega
          rw [if_pos d3, if_pos d3]
          refine ih (k + 1) _ _ _ (by omega) (by omega) (by rw [zct, if_neg d, hnw, Nat.add_zero]) ?_ ?_
          · rw [zadd_1 (nI nw) 1 (by decide) _ 0 cq f (Nat.zero_le _) (by omega), zct, if_pos d3, hcq]; omega
          · refine zgi_sn hf d3 (fun i => ?_)
            rw [zadd_2 (nI nw) 1 (by decide) _ 0 cq f (Nat.zero_le _) (by omega) (by omega) i, hcq, hnw, Nat.sub_zero]
        · rw [if_neg d3, if_neg d3]
          refine ih (k + 1) _ _ _ (by omega) (by omega) (by rw [zct, if_neg d, hnw, Nat.add_zero]) ?_ (zgi_no hf d d3)
          rw [zct, if_neg d3, hcq, Nat.add_zero]
