/-- promise 2 -/
theorem zwd_c : ∀ j, j < 5 → ∀ b, b < 2 → nI b * 5 + nI j = nI (5 * b + j) := by decide +kernel
theorem zwr {v : Int32} {a b : Nat} (h : ¬ s_X8_within v (nI a) (nI b) = 0) (ha : a < 2 ^ 31) (hb : b < 2 ^ 31) : ∃ j, a ≤ j ∧ j ≤ b ∧ v = nI j := by
  have h1 := zw_of h
  have h0 : (0 : Int32) ≤ nI a := (nI_leI (a := 0) (b := a) (by decide) ha).mpr (Nat.zero_le _)
  have hx := zw_nat (Int32.le_trans h0 h1.1)
  rw [hx] at h1
  exact ⟨v.toNatClampNeg, zNle h1.1 ha (ztn31 v), zNle h1.2 (ztn31 v) hb, hx⟩
theorem E_wind (ea la : Nat → Int32) (hh lt v : Int32) : s_X8_wind (wdF ea la) hh lt v = s_X9_wind ea la hh lt v ∧ ∀ j, j < 10 → s_X8_wind_wd (wdF ea la) hh lt v j = wdF (s_X9_wind_ea ea hh lt v) (s_X9_wind_la la hh lt v) j := by
  unfold s_X8_wind s_X9_wind s_X8_wind_wd s_X9_wind_ea s_X9_wind_la
  simp only [zwi (a := hh) (lo := 0) (hi := 4) (l := 0) (h := 4) (by decide) (by decide), zwi (a := lt) (lo := 0) (hi := 1) (l := 0) (h := 1) (by decide) (by decide), zwi (a := v) (lo := -9) (hi := 9) (l := -9) (h := 9) (by decide) (by decide)]
  by_cases c : s_X8_within hh 0 4 = 0
  · simp only [if_pos c]; exact ⟨trivial, fun _ _ => trivial⟩
  · simp only [if_neg c]
    by_cases c2 : s_X8_within lt 0 1 = 0
    · simp only [if_pos c2]; exact ⟨trivial, fun _ _ => trivial⟩
    · simp only [if_neg c2]
      by_cases c3 : s_X8_within v (-9) 9 = 0
      · simp only [if_pos c3]; exact ⟨trivial, fun _ _ => trivial⟩
      · simp only [if_neg c3]
        obtain ⟨a, -, ha, rfl⟩ := zwr (a := 0) (b := 4) c (by decide) (by decide)
        obtain ⟨b, -, hb, rfl⟩ := zwr (a := 0) (b := 1) c2 (by decide) (by decide)
        rw [zwd_c a (by omega) b (by omega), zcel (by omega) (by decide), nI_clamp (show a < 2 ^ 31 by omega), zputv (vp_in_of2 (show 5 * b + a < 10 by omega) (by omega)) (by decide), nI_clamp (show 5 * b + a < 2 ^ 31 by omega)]
        rcases (show b = 0 ∨ b = 1 by omega) with rfl | rfl
        · refine ⟨?_, fun j hj => ?_⟩
          · rw [if_pos (show nI 0 = 0 from rfl)]
            unfold wdF; rw [if_pos (by omega), show 5 * 0 + a = a by omega]
          · rw [if_pos (show nI 0 = 0 from rfl), if_neg (show ¬ nI 0 = 1 by decide), show 5 * 0 + a = a by omega]
            unfold wdF
            by_cases h5 : j < 5
            · rw [if_pos h5]
              by_cases e : j = a
              · subst e; rw [pk_us, pk_us]
              · rw [pk_un e, pk_un e, if_pos h5]
            · rw [if_neg h5, pk_un (show j ≠ a by omega), if_neg h5]
              exact (zupd_id la a (j - 5)).symm
        · refine ⟨?_, fun j hj => ?_⟩
          · rw [if_neg (show ¬ nI 1 = 0 by decide)]
            unfold wdF; rw [if_neg (by omega), show 5 * 1 + a - 5 = a by omega]
          · rw [if_neg (show ¬ nI 1 = 0 by decide), if_pos (show nI 1 = 1 from rfl)]
            unfold wdF
            by_cases h5 : j < 5
            · rw [if_pos h5, pk_un (show j ≠ 5 * 1 + a by omega), if_pos h5]
              exact (zupd_id ea a j).symm
            · rw [if_neg h5]
              by_cases e : j = 5 * 1 + a
              · subst e; rw [pk_us, show 5 * 1 + a - 5 = a by omega, pk_us]
              · rw [pk_un e, pk_un (show j - 5 ≠ a by omega), if_neg h5]
/-- promise 24 -/
theorem zwin_n {j a b : Nat} (h : a ≤ j ∧ j ≤ b) (hb : b < 2 ^ 31) : ¬ s_X8_within (nI j) (nI a) (nI b) = 0 := by
  unfold s_X8_within
  rw [if_neg (fun q => absurd (zNlt q (by omega) (by omega)) (by omega)), if_neg (fun q => absurd (zNlt q (by omega) (by omega)) (by omega))]
  decide
theorem zwin_o {j a b : Nat} (h : j < a ∨ b < j) (hj : j < 2 ^ 31) (ha : a < 2 ^ 31) (hb : b < 2 ^ 31) : s_X8_within (nI j) (nI a) (nI b) = 0 := by
  unfold s_X8_within
  rcases h with h | h
  · rw [if_pos ((nI_ltI hj ha).mpr h)]
  · by_cases c : nI j < nI a
    · rw [if_pos c]
    · rw [if_neg c, if_pos ((nI_ltI hb hj).mpr h)]
theorem E_told (sn pn : Nat) (tu ga lk stp dbt win : Int32) (ea la we : Nat → Int32) (what : Int32) : s_X8_told sn (nmF tu ga lk stp dbt win) (wdF ea la) we pn what = s_X9_told sn pn tu ga lk stp dbt win ea la we what := by
  unfold s_X8_told s_X9_told
  simp only [zwi (a := what) (lo := 10) (hi := 15) (l := 10) (h := 15) (by decide) (by decide), zwi (a := what) (lo := 20) (hi := 24) (l := 20) (h := 24) (by decide) (by decide), zwi (a := what) (lo := 30) (hi := 34) (l := 30) (h := 34) (by decide) (by decide)]
  by_cases a1 : s_X8_within what 10 15 = 0
  · simp only [if_pos a1]
    by_cases a2 : s_X8_within what 20 24 = 0
    · simp only [if_pos a2]
      by_cases a3 : s_X8_within what 30 34 = 0
      · simp only [if_pos a3]
        by_cases e0 : what = 0
        · rw [if_pos e0, if_pos e0]
        · rw [if_neg e0, if_neg e0]
          by_cases b : s_X8_within what 1 6 = 0
          · rw [if_pos b]
            have hne : ∀ j, 1 ≤ j → j ≤ 6 → ¬ what = nI j := fun j h1 h2 e => by
              rw [e] at b
              exact zwin_n (a := 1) (b := 6) ⟨h1, h2⟩ (by decide) b
            rw [if_neg (show ¬ what = 1 from hne 1 (by decide) (by decide)), if_neg (show ¬ what = 2 from hne 2 (by decide) (by decide)), if_neg (show ¬ what = 3 from hne 3 (by decide) (by decide)), if_neg (show ¬ what = 4 from hne 4 (by decide) (by decide)), if_neg (show ¬ what = 5 from hne 5 (by decide) (by decide)), if_neg (show ¬ what = 6 from hne 6 (by decide) (by decide))]
          · rw [if_neg b]
            obtain ⟨j, h1, h2, rfl⟩ := zwr (a := 1) (b := 6) b (by decide) (by decide)
            rcases (show j = 1 ∨ j = 2 ∨ j = 3 ∨ j = 4 ∨ j = 5 ∨ j = 6 by omega) with rfl | rfl | rfl | rfl | rfl | rfl
            · rw [if_pos (show nI 1 = 1 from rfl), show nI 1 - 1 = 0 by decide, zn0]
            · rw [if_neg (show ¬ nI 2 = 1 by decide), if_pos (show nI 2 = 2 from rfl), show nI 2 - 1 = 1 by decide, zn1]
            · rw [if_neg (show ¬ nI 3 = 1 by decide), if_neg (show ¬ nI 3 = 2 by decide), if_pos (show nI 3 = 3 from rfl), show nI 3 - 1 = 2 by decide, zn2]
            · rw [if_neg (show ¬ nI 4 = 1 by decide), if_neg (show ¬ nI 4 = 2 by decide), if_neg (show ¬ nI 4 = 3 by decide), if_pos (show nI 4 = 4 from rfl), show nI 4 - 1 = 3 by decide, zn3]
            · rw [if_neg (show ¬ nI 5 = 1 by decide), if_neg (show ¬ nI 5 = 2 by decide), if_neg (show ¬ nI 5 = 3 by decide), if_neg (show ¬ nI 5 = 4 by decide), if_pos (show nI 5 = 5 from rfl), show nI 5 - 1 = 4 by decide, zn4]
            · rw [if_neg (show ¬ nI 6 = 1 by decide), if_neg (show ¬ nI 6 = 2 by decide), if_neg (show ¬ nI 6 = 3 by decide), if_neg (show ¬ nI 6 = 4 by decide), if_neg (show ¬ nI 6 = 5 by decide), if_pos (show nI 6 = 6 from rfl), show nI 6 - 1 = 5 by decide, zn5]
      · simp only [if_neg a3]
        obtain ⟨j, h1, h2, rfl⟩ := zwr (a := 30) (b := 34) a3 (by decide) (by decide)
        have hne : ∀ i, i < 30 → ¬ nI j = nI i := fun i hi e => absurd (zNeq (a := j) (b := i) e (by omega) (by omega)) (by omega)
        rw [if_neg (show ¬ nI j = 0 from hne 0 (by decide)), if_pos (show s_X8_within (nI j) 1 6 = 0 from zwin_o (a := 1) (b := 6) (by omega) (by omega) (by decide) (by decide)), if_neg (show ¬ nI j = 7 from hne 7 (by decide)), if_pos (show (30 : Int32) ≤ nI j from (nI_leI (a := 30) (b := j) (by decide) (by omega)).mpr h1), show nI j - 30 = nI (j - 30) from pk_sub (b := 30) h1, nI_clamp (by omega), (zdr_c (j - 30) (by omega)).2, zcel (by omega) (by decide)]
        unfold wdF
        rw [if_neg (by omega), Nat.add_sub_cancel_left]
    · simp only [if_neg a2]
      obtain ⟨j, h1, h2, rfl⟩ := zwr (a := 20) (b := 24) a2 (by decide) (by decide)
      have hne : ∀ i, i < 20 → ¬ nI j = nI i := fun i hi e => absurd (zNeq (a := j) (b := i) e (by omega) (by omega)) (by omega)
      rw [if_neg (show ¬ nI j = 0 from hne 0 (by decide)), if_pos (show s_X8_within (nI j) 1 6 = 0 from zwin_o (a := 1) (b := 6) (by omega) (by omega) (by decide) (by decide)), if_neg (show ¬ nI j = 7 from hne 7 (by decide)), if_neg (show ¬ (30 : Int32) ≤ nI j from fun q => absurd (zNle (a := 30) (b := j) q (by decide) (by omega)) (by omega)), show nI j - 20 = nI (j - 20) from pk_sub (b := 20) h1, nI_clamp (by omega), (zdr_c (j - 20) (by omega)).1, zcel (by omega) (by decide)]
      unfold wdF
      rw [if_pos (by omega)]
  · simp only [if_neg a1]
    obtain ⟨j, h1, h2, rfl⟩ := zwr (a := 10) (b := 15) a1 (by decide) (by decide)
    have hne : ∀ i, i < 10 → ¬ nI j = nI i := fun i hi e => absurd (zNeq (a := j) (b := i) e (by omega) (by omega)) (by omega)
    rw [if_neg (show ¬ nI j = 0 from hne 0 (by decide)), if_pos (show s_X8_within (nI j) 1 6 = 0 from zwin_o (a := 1) (b := 6) (by omega) (by omega) (by decide) (by decide)), if_neg (show ¬ nI j = 7 from hne 7 (by decide)), show nI j - 10 = nI (j - 10) from pk_sub (b := 10) h1, nI_clamp (by omega), zcel (by omega) (by decide)]
/-- promise 3 -/
theorem zlim : ∀ j, j < 6 → s_X8_cell 6 zcL (nI j) = ((if nI j = 3 then 1 else (if nI j = 5 then 1 else 0)) : Int32) ∧ s_X8_cell 6 zcG (nI j) = ((if nI j = 0 then 40 else (if nI j = 1 then 99 else (if nI j = 2 then 9 else (if nI j = 4 then 9 else 20)))) : Int32) := by decide +kernel
theorem E_set (sn pn : Nat) (tu ga lk stp dbt win : Int32) (ea la we : Nat → Int32) (wh v : Int32) : s_X8_set (nmF tu ga lk stp dbt win) wh v = s_X9_set sn pn tu ga lk stp dbt win ea la we wh v ∧ ∀ j, j < 6 → s_X8_set_nm (nmF tu ga lk stp dbt win) wh v j = nmF (s_X9_set_tu tu wh v) (s_X9_set_ga ga wh v) (s_X9_set_lk lk wh v) (s_X9_set_stp stp wh v) (s_X9_set_dbt dbt wh v) (s_X9_set_win win wh v) j := by
  unfold s_X8_set s_X9_set s_X8_set_nm s_X9_set_tu s_X9_set_ga s_X9_set_lk s_X9_set_stp s_X9_set_dbt s_X9_set_win
  simp only [zwi05, zwi (a := v) (lo := ((if wh = 3 then 1 else (if wh = 5 then 1 else 0)) : Int32)) (hi := ((if wh = 0 then 40 else (if wh = 1 then 99 else (if wh = 2 then 9 else (if wh = 4 then 9 else 20)))) : Int32)) rfl rfl, ← E_told sn pn tu ga lk stp dbt win ea la we]
  by_cases c : s_X8_within wh 0 5 = 0
  · simp only [if_pos c]; exact ⟨trivial, fun _ _ => trivial⟩
  · simp only [if_neg c]
    obtain ⟨i, hi, rfl⟩ := zw05_of c
    have hl := zlim i hi
    rw [hl.1, hl.2]
    by_cases c2 : s_X8_within v ((if nI i = 3 then 1 else (if nI i = 5 then 1 else 0)) : Int32) ((if nI i = 0 then 40 else (if nI i = 1 then 99 else (if nI i = 2 then 9 else (if nI i = 4 then 9 else 20)))) : Int32) = 0
    · simp only [if_pos c2]; exact ⟨trivial, fun _ _ => trivial⟩
    · simp only [if_neg c2]
      refine ⟨?_, fun j hj => ?_⟩
      · unfold s_X8_told
        rw [nI_1, if_neg (show ¬ nI (i + 1) = 0 from fun e => absurd (zNeq (a := i + 1) (b := 0) e (by omega) (by omega)) (by omega)), if_neg (show ¬ s_X8_within (nI (i + 1)) 1 6 = 0 from zwin_n (a := 1) (b := 6) (by omega) (by decide)), show nI (i + 1) - 1 = nI i from pk_sub (a := i + 1) (b := 1) (by omega)]
      · rw [zputv (vp_in_of2 hi (by omega)) (by decide), nI_clamp (by omega)]
        have hc : ∀ a b : Nat, a < 6 → b < 6 → (nI a = nI b) = (a = b) := fun a b ha hb => propext ⟨fun e => zNeq e (by omega) (by omega), fun e => by rw [e]⟩
        rcases (show i = 0 ∨ i = 1 ∨ i = 2 ∨ i = 3 ∨ i = 4 ∨ i = 5 by omega) with rfl | rfl | rfl | rfl | rfl | rfl <;> rcases (show j = 0 ∨ j = 1 ∨ j = 2 ∨ j = 3 ∨ j = 4 ∨ j = 5 by omega) with rfl | rfl | rfl | rfl | rfl | rfl <;> rfl
