/-! own rows: the class's functions are the model's -/
/-- the class's six numbers and ten winds, out of the model's -/
def nmF (tu ga lk stp dbt win : Int32) (j : Nat) : Int32 := if j = 0 then tu else if j = 1 then ga else if j = 2 then lk else if j = 3 then stp else if j = 4 then dbt else win
def wdF (ea la : Nat → Int32) (j : Nat) : Int32 := if j < 5 then ea j else la (j - 5)
theorem zwi {a lo hi : Int32} {l h : Int64} (hl : l = lo.toInt64) (hh : h = hi.toInt64) : s_X9_in a.toInt64 l h = s_X8_within a lo hi := by
  have k1 : lg_cmp a.toInt64 l < 0 ↔ a < lo := by
    rw [hl, lg_cmp_lt, ← Int64.not_le, zi64, Int32.not_le]
  have k2 : 0 < lg_cmp a.toInt64 h ↔ hi < a := by
    rw [hh, lg_cmp_gt, ← Int64.not_le, zi64, Int32.not_le]
  unfold s_X9_in s_X8_within
  by_cases c : a < lo
  · rw [if_pos c, if_pos (k1.mpr c)]
  · rw [if_neg c, if_neg (fun q => c (k1.mp q))]
    by_cases c2 : hi < a
    · rw [if_pos c2, if_pos (k2.mpr c2)]
    · rw [if_neg c2, if_neg (fun q => c2 (k2.mp q))]
theorem zwi05 (a : Int32) : s_X9_in a.toInt64 0 5 = s_X8_within a 0 5 := zwi (by decide) (by decide)
/-- without the k-th thing -/
def zcl (s k : Nat) : Nat := if s.testBit k then s - 2 ^ k else s
theorem zcl_lt {s k : Nat} (h : s < 64) : zcl s k < 64 := by unfold zcl; split <;> first | exact Nat.lt_of_le_of_lt (Nat.sub_le _ _) h | exact h
theorem zb_or : ∀ k, k < 6 → ∀ s, s < 64 → nI s ||| (1 <<< (nI k &&& 31)) = nI (s ||| 2 ^ k) := by decide +kernel
theorem zb_or_lt : ∀ k, k < 6 → ∀ s, s < 64 → s ||| 2 ^ k < 64 := by decide +kernel
theorem zb_bit : ∀ k, k < 6 → ∀ s, s < 64 → ((nI s >>> (nI k &&& 31)) &&& 1) = if s.testBit k then 1 else 0 := by decide +kernel
theorem zb_cl : ∀ k, k < 6 → ∀ s, s < 64 → nI s &&& ((1 <<< (nI k &&& 31)) ^^^ (-1)) = nI (zcl s k) := by decide +kernel
theorem zb_or0 : ∀ s, s < 64 → nI s ||| 0 = nI s := by decide +kernel
theorem zb_and1 : ∀ s, s < 64 → nI s &&& (-1) = nI s := by decide +kernel
theorem zlt6 : ∀ k, k < 6 → ¬ nI k < 0 ∧ ¬ 6 ≤ nI k := by decide +kernel
theorem zb_has {s k : Nat} (hk : k < 6) (hs : s < 64) : s_X8_has (nI s) (nI k) = if s.testBit k then 1 else 0 := by
  unfold s_X8_has
  rw [if_neg (zlt6 k hk).1, if_neg (zlt6 k hk).2, zb_bit k hk s hs]
  by_cases c : s.testBit k = true
  · rw [if_pos c, if_neg (by decide)]
  · rw [if_neg c, if_pos rfl]
theorem zw05 : ∀ k, k < 6 → ¬ s_X8_within (nI k) 0 5 = 0 := by decide +kernel
theorem zw05_of {v : Int32} (h : ¬ s_X8_within v 0 5 = 0) : ∃ k, k < 6 ∧ v = nI k := by
  have h1 := zw_of h
  refine ⟨v.toNatClampNeg, ?_, zw_nat h1.1⟩
  have h2 := h1.2
  rw [zw_nat h1.1] at h2
  have := zNle (b := 5) h2 (ztn31 v) (by decide)
  omega
theorem zb_wo {s k : Nat} (hk : k < 6) (hs : s < 64) : s_X8_without (nI s) (nI k) = nI (zcl s k) := by
  unfold s_X8_without
  rw [if_neg (zw05 k hk), zb_cl k hk s hs]
theorem zwo6 (x : Int32) : s_X8_without x (-6) = x := by
  unfold s_X8_without
  rw [if_pos (by decide)]
/-- what is aboard at the start -/
theorem zld_eq (we : Nat → Int32) : ∀ q k x, k ≤ 6 → lp_X7_loaded_4 we q k x = lp_X9_loaded_4 we q k x := by
  intro q
  induction q with
  | zero => intro k x _; rfl
  | succ q ih =>
    intro k x hk
    rw [lp_X7_loaded_4, lp_X9_loaded_4]
    by_cases c : (6 : Int32) ≤ nI k
    · rw [if_pos c, if_pos c]
    · rw [if_neg c, if_neg c]
      have hk6 := zNnle (a := 6) (b := k) c (by omega) (by omega)
      rw [zcel hk6 (by decide), ih (k + 1) _ (by omega), ih (k + 1) _ (by omega)]
theorem zld_s (we : Nat → Int32) : ∀ q k s, k ≤ 6 → s < 64 → ∃ r, r < 64 ∧ lp_X9_loaded_4 we q k (nI s) = nI r := by
  intro q
  induction q with
  | zero => intro k s _ hs; exact ⟨s, hs, rfl⟩
  | succ q ih =>
    intro k s hk hs
    rw [lp_X9_loaded_4]
    by_cases c : (6 : Int32) ≤ nI k
    · rw [if_pos c]; exact ⟨s, hs, rfl⟩
    · rw [if_neg c]
      have hk6 := zNnle (a := 6) (b := k) c (by omega) (by omega)
      by_cases d : we k ≤ 0
      · rw [if_pos d, zb_or0 s hs]; exact ih (k + 1) s (by omega) hs
      · rw [if_neg d, zb_or k hk6 s hs]; exact ih (k + 1) _ (by omega) (zb_or_lt k hk6 s hs)
theorem zld0 (we : Nat → Int32) : ∃ r, r < 64 ∧ lp_X9_loaded_4 we 7 0 0 = nI r := zld_s we 7 0 0 (by omega) (by omega)
theorem zld (we : Nat → Int32) : lp_X7_loaded_4 we 7 0 0 = lp_X9_loaded_4 we 7 0 0 := zld_eq we 7 0 0 (by omega)
theorem zone0 {b : Bool} : ((if b then (1 : Int32) else 0) = 1) = (b = true) := by cases b <;> decide
theorem zzer0 {b : Bool} : ((if b then (1 : Int32) else 0) = 0) = (b = false) := by cases b <;> decide
/-- the heaviest -/
theorem zhv_eq (we : Nat → Int32) {s : Nat} (hs : s < 64) : ∀ q k x, k ≤ 6 → (x = -6 ∨ ∃ j, j < 6 ∧ x = nI j) → lp_X7_heaviest_5 we (nI s) q k x = lp_X9_heaviest_5 (nI s) we q k x := by
  intro q
  induction q with
  | zero => intro k x _ _; rfl
  | succ q ih =>
    intro k x hk hx
    rw [lp_X7_heaviest_5, lp_X9_heaviest_5]
    by_cases c : (6 : Int32) ≤ nI k
    · rw [if_pos c, if_pos c]
    · rw [if_neg c, if_neg c]
      have hk6 := zNnle (a := 6) (b := k) c (by omega) (by omega)
      have hK : (nI k = -6 ∨ ∃ j, j < 6 ∧ nI k = nI j) := Or.inr ⟨k, hk6, rfl⟩
      rw [zb_has hk6 hs, zb_bit k hk6 s hs]
      by_cases d : s.testBit k = true
      · rw [if_pos d, if_neg (by decide), if_pos rfl]
        rcases hx with rfl | ⟨j, hj, rfl⟩
        · rw [if_pos rfl, if_pos (show (-6 : Int32) < 0 by decide), if_neg (by decide)]
          exact ih (k + 1) _ (by omega) hK
        · rw [if_neg (znm6 (by omega)), if_neg (zlt6 j hj).1, zcel hk6 (by decide), zcel hj (by decide), show (nI j).toNatClampNeg = j from nI_clamp (by omega)]
          by_cases e : we k ≤ we j
          · rw [if_pos e, if_pos e, if_pos rfl]; exact ih (k + 1) _ (by omega) (Or.inr ⟨j, hj, rfl⟩)
          · rw [if_neg e, if_neg e, if_neg (by decide)]; exact ih (k + 1) _ (by omega) hK
      · rw [if_neg d, if_pos rfl, if_neg (show ¬ (0 : Int32) = 1 by decide), if_pos rfl]
        exact ih (k + 1) _ (by omega) hx
theorem zhv0 (we : Nat → Int32) {s : Nat} (hs : s < 64) : lp_X7_heaviest_5 we (nI s) 7 0 (-6) = lp_X9_heaviest_5 (nI s) we 7 0 (-6) := zhv_eq we hs 7 0 (-6) (by omega) (Or.inl rfl)
theorem zhv_r (we : Nat → Int32) {s : Nat} (hs : s < 64) : ∀ q k x, k ≤ 6 → (x = -6 ∨ ∃ j, j < 6 ∧ x = nI j ∧ s.testBit j = true) → (lp_X9_heaviest_5 (nI s) we q k x = -6 ∨ ∃ j, j < 6 ∧ lp_X9_heaviest_5 (nI s) we q k x = nI j ∧ s.testBit j = true) := by
  intro q
  induction q with
  | zero => intro k x _ hx; exact hx
  | succ q ih =>
    intro k x hk hx
    rw [lp_X9_heaviest_5]
    by_cases c : (6 : Int32) ≤ nI k
    · rw [if_pos c]; exact hx
    · rw [if_neg c]
      have hk6 := zNnle (a := 6) (b := k) c (by omega) (by omega)
      rw [zb_bit k hk6 s hs]
      by_cases d : s.testBit k = true
      · have hK : (nI k = -6 ∨ ∃ j, j < 6 ∧ nI k = nI j ∧ s.testBit j = true) := Or.inr ⟨k, hk6, rfl, d⟩
        rw [if_pos d, if_pos rfl]
        by_cases e : (if x < 0 then (1 : Int32) else if we k ≤ we x.toNatClampNeg then 0 else 1) = 0
        · rw [if_pos e]; exact ih (k + 1) _ (by omega) hx
        · rw [if_neg e]; exact ih (k + 1) _ (by omega) hK
      · rw [if_neg d, if_neg (show ¬ (0 : Int32) = 1 by decide), if_pos rfl]
        exact ih (k + 1) _ (by omega) hx
/-- the lift and the height -/
theorem zlf_eq (we : Nat → Int32) {s : Nat} (hs : s < 64) : ∀ q k x, k ≤ 6 → lp_X7_height_5 we (nI s) q k x = lp_X9_height_7 (nI s) we q k x := by
  intro q
  induction q with
  | zero => intro k x _; rfl
  | succ q ih =>
    intro k x hk
    rw [lp_X7_height_5, lp_X9_height_7]
    by_cases c : (6 : Int32) ≤ nI k
    · rw [if_pos c, if_pos c]
    · rw [if_neg c, if_neg c]
      have hk6 := zNnle (a := 6) (b := k) c (by omega) (by omega)
      rw [zb_has hk6 hs, zb_bit k hk6 s hs, zcel hk6 (by decide)]
      by_cases d : s.testBit k = true
      · rw [if_pos d, if_neg (by decide), if_pos rfl]; exact ih (k + 1) _ (by omega)
      · rw [if_neg d, if_pos rfl, if_neg (show ¬ (0 : Int32) = 1 by decide)]; exact ih (k + 1) _ (by omega)
theorem zn0 (tu ga lk stp dbt win : Int32) : s_X8_cell 6 (nmF tu ga lk stp dbt win) 0 = tu := zcel (k := 0) (by decide) (by decide)
theorem zn1 (tu ga lk stp dbt win : Int32) : s_X8_cell 6 (nmF tu ga lk stp dbt win) 1 = ga := zcel (k := 1) (by decide) (by decide)
theorem zn2 (tu ga lk stp dbt win : Int32) : s_X8_cell 6 (nmF tu ga lk stp dbt win) 2 = lk := zcel (k := 2) (by decide) (by decide)
theorem zn3 (tu ga lk stp dbt win : Int32) : s_X8_cell 6 (nmF tu ga lk stp dbt win) 3 = stp := zcel (k := 3) (by decide) (by decide)
theorem zn4 (tu ga lk stp dbt win : Int32) : s_X8_cell 6 (nmF tu ga lk stp dbt win) 4 = dbt := zcel (k := 4) (by decide) (by decide)
theorem zn5 (tu ga lk stp dbt win : Int32) : s_X8_cell 6 (nmF tu ga lk stp dbt win) 5 = win := zcel (k := 5) (by decide) (by decide)
theorem z45 (x : Int32) : 4 < x ↔ 5 ≤ x := by
  rw [Int32.lt_iff_toInt_lt, Int32.le_iff_toInt_le, show (4 : Int32).toInt = 4 by decide, show (5 : Int32).toInt = 5 by decide]
  omega
theorem zht (tu ga lk stp dbt win : Int32) (we : Nat → Int32) {s : Nat} (hs : s < 64) (hst : 1 ≤ stp) (g : Int32) : s_X7_height (nmF tu ga lk stp dbt win) we g (nI s) = s_X9_height stp g (nI s) we := by
  unfold s_X7_height s_X9_height
  rw [zn3, if_neg (Int32.not_lt.mpr hst), zlf_eq we hs 7 0 g (by omega)]
  by_cases c : 0 ≤ lp_X9_height_7 (nI s) we 7 0 g
  · simp only [if_pos c]
    by_cases d : 4 < lp_X9_height_7 (nI s) we 7 0 g / stp
    · rw [if_pos d, if_pos ((z45 _).mp d)]
    · rw [if_neg d, if_neg (fun h => d ((z45 _).mpr h))]
  · simp only [if_neg c]
    rw [if_neg (by decide)]
/-- one minute: the drift -/
theorem zdr_c : ∀ j, j < 5 → (0 : Int32) * 5 + nI j = nI j ∧ (1 : Int32) * 5 + nI j = nI (5 + j) := by decide +kernel
theorem zdr (tu ga lk stp dbt win : Int32) (ea la we : Nat → Int32) {s : Nat} (hs : s < 64) (hst : 1 ≤ stp) (mn g : Int32) : s_X8_cell 10 (wdF ea la) ((((if mn < s_X8_cell 6 (nmF tu ga lk stp dbt win) 0 then 0 else 1) : Int32) * 5) + (s_X7_height (nmF tu ga lk stp dbt win) we g (nI s))) = ((if tu ≤ mn then la (s_X9_height stp g (nI s) we).toNatClampNeg else ea (s_X9_height stp g (nI s) we).toNatClampNeg) : Int32) := by
  rw [zht tu ga lk stp dbt win we hs hst, zn0]
  have hv := zhgt stp g (nI s) we hst
  have hn := zw_nat (Int32.not_lt.mp (fun h => hv (Or.inl h)))
  have hl : (s_X9_height stp g (nI s) we).toNatClampNeg < 5 := Nat.not_le.mp (fun h => hv (Or.inr h))
  generalize (s_X9_height stp g (nI s) we).toNatClampNeg = j at hn hl ⊢
  rw [hn]
  by_cases c : mn < tu
  · rw [if_pos c, if_neg (Int32.not_le.mpr c), (zdr_c j hl).1, zcel (by omega) (by decide)]
    unfold wdF; rw [if_pos hl]
  · rw [if_neg c, if_pos (Int32.not_lt.mp c), (zdr_c j hl).2, zcel (by omega) (by decide)]
    unfold wdF; rw [if_neg (by omega), Nat.add_sub_cancel_left]
