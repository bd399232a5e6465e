/-- a course up to a minute -/
theorem zhap_dot (tu lk stp pl mn g ab : Int32) (ea la we : Nat → Int32) : s_X9_happen_plc tu stp pl mn g ab ea la we 46 = pl + ((if tu ≤ mn then la (s_X9_height stp g ab we).toNatClampNeg else ea (s_X9_height stp g ab we).toNatClampNeg) : Int32) ∧ s_X9_happen_mnt mn 46 = mn + 1 ∧ s_X9_happen_lft lk g 46 = ((if g ≤ lk then 0 else g - lk) : Int32) ∧ s_X9_happen_abd ab 46 = ab := by
  unfold s_X9_happen_plc s_X9_happen_mnt s_X9_happen_lft s_X9_happen_abd
  exact ⟨if_pos rfl, if_pos rfl, if_pos rfl, if_pos rfl⟩
theorem zhap_not (tu lk stp pl mn g : Int32) (ea la we : Nat → Int32) {s v : Nat} (hs : s < 64) (hv : v < 94) (c : ¬ nI (33 + v) = 46) : s_X9_happen_plc tu stp pl mn g (nI s) ea la we (nI (33 + v)) = pl ∧ s_X9_happen_mnt mn (nI (33 + v)) = mn ∧ s_X9_happen_lft lk g (nI (33 + v)) = g ∧ s_X9_happen_abd (nI s) (nI (33 + v)) = nI (zth (33 + v) s) := by
  unfold s_X9_happen_plc s_X9_happen_mnt s_X9_happen_lft s_X9_happen_abd
  refine ⟨if_neg c, if_neg c, if_neg c, ?_⟩
  rw [if_neg c]
  by_cases d : nI (33 + v) = 33
  · rw [if_pos d]
    have : v = 0 := by
      have := zNeq (a := 33 + v) (b := 33) d (by omega) (by omega)
      omega
    subst this
    unfold zth
    rw [if_neg (by omega)]
  · rw [if_neg d, zth_m v hv s hs]
theorem zat_eq (pn : Nat) (tu ga lk stp dbt win : Int32) (ea la we pa : Nat → Int32) (mm : Int32) (hpn : pn ≤ 60) (hst : 1 ≤ stp) (hlk : 0 ≤ lk) (hpad : zpad pn pa) : ∀ q k pl g s d, k ≤ pn → s < 64 → 0 ≤ g → d ≤ k → (mm = -1 ∨ ∃ j, mm = nI j ∧ d ≤ j ∧ j ≤ 60) →
    ∃ (r : Nat) (pl' g' mn' : Int32), r < 64 ∧ 0 ≤ g' ∧ lp_X9_at_49 pn tu lk stp ea la we pa mm q k pl (nI d) g (nI s) = (pl', mn', g', nI r) ∧ lp_X8_flyBehind_27 (nmF tu ga lk stp dbt win) (wdF ea la) we pn pa mm q k (nI d) pl g (nI s) (nI d) = (pl', g', nI r, mn') := by
  intro q
  induction q with
  | zero => intro k pl g s d _ hs hg _ _; exact ⟨s, pl, g, nI d, hs, hg, rfl, rfl⟩
  | succ q ih =>
    intro k pl g s d hk hs hg hd hm
    rw [lp_X9_at_49, lp_X8_flyBehind_27]
    by_cases c : nI pn ≤ nI k
    · rw [if_pos c, if_pos c]; exact ⟨s, pl, g, nI d, hs, hg, rfl, rfl⟩
    · rw [if_neg c, if_neg c]
      have hkn := zNnle (a := pn) (b := k) c (by omega) (by omega)
      obtain ⟨v, hv, ev⟩ := hpad k hkn
      -- the step that both go
      have step : ∀ d', d' ≤ k + 1 → (mm = -1 ∨ ∃ j, mm = nI j ∧ d' ≤ j ∧ j ≤ 60) → (d' = if pa k = 46 then d + 1 else d) →
          ∃ (r : Nat) (pl' g' mn' : Int32), r < 64 ∧ 0 ≤ g' ∧ lp_X9_at_49 pn tu lk stp ea la we pa mm q (k + 1) (s_X9_happen_plc tu stp pl (nI d) g (nI s) ea la we (pa k)) (s_X9_happen_mnt (nI d) (pa k)) (s_X9_happen_lft lk g (pa k)) (s_X9_happen_abd (nI s) (pa k)) = (pl', mn', g', nI r) ∧ (if s_X8_cell 60 pa (nI k) = 46 then lp_X8_flyBehind_27 (nmF tu ga lk stp dbt win) (wdF ea la) we pn pa mm q (k + 1) (nI d + 1) (pl + (s_X8_cell 10 (wdF ea la) ((((if nI d < s_X8_cell 6 (nmF tu ga lk stp dbt win) 0 then 0 else 1) : Int32) * 5) + (s_X7_height (nmF tu ga lk stp dbt win) we g (nI s))))) (if (g - (s_X8_cell 6 (nmF tu ga lk stp dbt win) 2)) < 0 then 0 else g - (s_X8_cell 6 (nmF tu ga lk stp dbt win) 2)) (nI s) (nI d + 1) else lp_X8_flyBehind_27 (nmF tu ga lk stp dbt win) (wdF ea la) we pn pa mm q (k + 1) (nI d) pl g (s_X8_without (nI s) (s_X8_thingOf (s_X8_cell 60 pa (nI k)))) (nI d)) = (pl', g', nI r, mn') := by
        intro d' hd' hm' e
        rw [zcel (show k < 60 by omega) (by decide)]
        by_cases b : pa k = 46
        · rw [if_pos b] at e
          rw [if_pos b, b, (zhap_dot tu lk stp pl (nI d) g (nI s) ea la we).1, (zhap_dot tu lk stp pl (nI d) g (nI s) ea la we).2.1, (zhap_dot tu lk stp pl (nI d) g (nI s) ea la we).2.2.1, (zhap_dot tu lk stp pl (nI d) g (nI s) ea la we).2.2.2, zdr tu ga lk stp dbt win ea la we hs hst, zn2, zgs hg hlk, nI_1]
          subst e
          exact ih (k + 1) _ _ s (d + 1) (by omega) hs (zgs0 hg hlk) hd' hm'
        · rw [if_neg b] at e
          rw [if_neg b]
          have b2 : ¬ nI (33 + v) = 46 := fun q => b (ev.trans q)
          have hh := zhap_not tu lk stp pl (nI d) g ea la we hs hv b2
          rw [ev, hh.1, hh.2.1, hh.2.2.1, hh.2.2.2, zth_c v hv s hs]
          subst e
          exact ih (k + 1) _ _ _ d' (by omega) (zth_lt hs) hg hd' hm'
      have hd60 : d ≤ 60 := by omega
      rcases hm with rfl | ⟨j, rfl, hj, hj60⟩
      · rw [if_pos (show (-1 : Int32) < 0 by decide), if_neg (show ¬ nI d = -1 from fun h => absurd (show nI d < 0 by rw [h]; decide) (nI_pos (by omega)))]
        exact step _ (by split <;> omega) (Or.inl rfl) rfl
      · rw [if_neg (nI_pos (show j < 2 ^ 31 by omega))]
        by_cases e : nI d = nI j
        · rw [if_pos e, e, if_pos (Int32.le_refl _)]; exact ⟨s, pl, g, nI j, hs, hg, rfl, rfl⟩
        · have hne := zNne (a := d) (b := j) e (by omega) (by omega)
          rw [if_neg e, if_neg (fun h => absurd (zNle (a := j) (b := d) h (by omega) (by omega)) (by omega))]
          exact step _ (by split <;> omega) (Or.inr ⟨j, rfl, by split <;> omega, hj60⟩) rfl
