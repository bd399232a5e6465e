/-- what a thing's sign leaves of what is aboard -/
def zth (v s : Nat) : Nat := if 97 ≤ v ∧ v < 103 then zcl s (v - 97) else s
theorem zth_lt {v s : Nat} (h : s < 64) : zth v s < 64 := by
  unfold zth
  by_cases c : 97 ≤ v ∧ v < 103
  · rw [if_pos c]; exact zcl_lt h
  · rw [if_neg c]; exact h
theorem zth_m : ∀ v, v < 94 → ∀ s, s < 64 → s_X9_throwOut_abd (nI s) (nI (33 + v) - 97) = nI (zth (33 + v) s) := by decide +kernel
theorem zth_c : ∀ v, v < 94 → ∀ s, s < 64 → s_X8_without (nI s) (s_X8_thingOf (nI (33 + v))) = nI (zth (33 + v) s) := by decide +kernel
/-- the signs of a pad -/
def zpad (pn : Nat) (pa : Nat → Int32) : Prop := ∀ k, k < pn → ∃ v, v < 94 ∧ pa k = nI (33 + v)
theorem zpad_of {x : Int32} (h : ¬ s_X8_within x 33 126 = 0) : ∃ v, v < 94 ∧ x = nI (33 + v) := by
  have h1 := zw_of h
  have hx := zw_nat (Int32.le_trans (show (0 : Int32) ≤ 33 by decide) h1.1)
  rw [hx] at h1
  have a1 := zNle (a := 33) h1.1 (by decide) (ztn31 x)
  have a2 := zNle (b := 126) h1.2 (ztn31 x) (by decide)
  exact ⟨x.toNatClampNeg - 33, by omega, by rw [show 33 + (x.toNatClampNeg - 33) = x.toNatClampNeg by omega]; exact hx⟩
theorem zsub_int {g lk : Int32} (hg : 0 ≤ g) (hl : 0 ≤ lk) : (g - lk).toInt = g.toInt - lk.toInt := by
  obtain ⟨a, ha, rfl⟩ := nI_of (Int32.not_lt.mpr hg)
  obtain ⟨b, hb, rfl⟩ := nI_of (Int32.not_lt.mpr hl)
  rw [nI_toInt ha, nI_toInt hb, Int32.toInt_sub, nI_toInt ha, nI_toInt hb, Int.bmod_def]
  split <;> omega
theorem zgs {g lk : Int32} (hg : 0 ≤ g) (hl : 0 ≤ lk) : ((if g - lk < 0 then 0 else g - lk) : Int32) = ((if g ≤ lk then 0 else g - lk) : Int32) := by
  have h := zsub_int hg hl
  have h0 : (0 : Int32).toInt = 0 := by decide
  by_cases c : g ≤ lk
  · rw [if_pos c]
    by_cases d : g - lk < 0
    · rw [if_pos d]
    · rw [if_neg d]
      rw [Int32.le_iff_toInt_le] at c
      rw [Int32.lt_iff_toInt_lt, h, h0] at d
      exact Int32.toInt_inj.mp (by rw [h, h0]; omega)
  · rw [if_neg c, if_neg]
    rw [Int32.le_iff_toInt_le] at c
    rw [Int32.lt_iff_toInt_lt, h, h0]
    omega
theorem zgs0 {g lk : Int32} (hg : 0 ≤ g) (hl : 0 ≤ lk) : 0 ≤ ((if g ≤ lk then 0 else g - lk) : Int32) := by
  by_cases c : g ≤ lk
  · rw [if_pos c]; decide
  · rw [if_neg c, Int32.le_iff_toInt_le, zsub_int hg hl]
    rw [Int32.le_iff_toInt_le] at c
    have h0 : (0 : Int32).toInt = 0 := by decide
    omega
theorem zgs1 {g lk : Int32} (hg : 0 ≤ g) (hl : 0 ≤ lk) : ((if g ≤ lk then 0 else g - lk) : Int32) ≤ g := by
  by_cases c : g ≤ lk
  · rw [if_pos c]; exact hg
  · rw [if_neg c, Int32.le_iff_toInt_le, zsub_int hg hl]
    rw [Int32.le_iff_toInt_le] at hl
    have h0 : (0 : Int32).toInt = 0 := by decide
    omega
