/-- the fines -/
theorem zfines (pn : Nat) (pa : Nat → Int32) (hpn : pn ≤ 60) : ∀ q k x, k ≤ pn → lp_X4_fines_4 pn pa q k x = lp_X9_fines_4 pn pa q k x := by
  intro q
  induction q with
  | zero => intro k x _; rfl
  | succ q ih =>
    intro k x hk
    rw [lp_X4_fines_4, lp_X9_fines_4]
    by_cases c : nI pn ≤ nI k
    · rw [if_pos c, if_pos c]
    · rw [if_neg c, if_neg c]
      have hkn := zNnle c (by omega) (by omega)
      rw [zwi05, zcel (show k < 60 by omega) (by decide)]
      by_cases w : s_X8_within (pa k - 97) 0 5 = 0
      · rw [if_pos w, if_pos (zth_of _ w)]; exact ih _ _ (by omega)
      · obtain ⟨j, hj, ej⟩ := zw05_of w
        have ht : ¬ s_X8_thingOf (pa k) = -6 := by rw [zth_on _ w, ej]; exact znm6 (by omega)
        rw [if_neg w, if_neg ht]
        by_cases z : k = 0
        · subst z
          rw [if_pos (show nI 0 = 0 from rfl), if_pos (show nI 0 ≤ 0 by decide), if_pos rfl]
          exact ih _ _ (by omega)
        · have h0 : ¬ nI k ≤ 0 := fun q => z (by have := zNle (b := 0) q (by omega) (by omega); omega)
          have h1 : ¬ nI k = 0 := fun q => z (zNeq (b := 0) q (by omega) (by omega))
          rw [if_neg h0, if_neg h1, zpred2 (by omega), zcel (show k - 1 < 60 by omega) (by decide)]
          by_cases y : pa (k - 1) = 33
          · simp only [if_pos y]
            rw [if_neg (by decide)]
            exact ih _ _ (by omega)
          · simp only [if_neg y, if_true]
            exact ih _ _ (by omega)
