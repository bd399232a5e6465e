theorem ziteP {c : Int32} {α : Type} (P : α → Prop) {a b : α} (ha : P a) (hb : P b) : P (if c = 0 then a else b) := by
  by_cases h : c = 0
  · rw [if_pos h]; exact ha
  · rw [if_neg h]; exact hb
theorem zite {c1 c2 : Int32} {α : Type} {a b b' : α} (h : c1 = c2) (hb : b = b') : (if c1 = 0 then a else b) = (if c2 = 0 then a else b') := by rw [h, hb]
theorem zth_of (sg : Int32) (w : s_X8_within (sg - 97) 0 5 = 0) : s_X8_thingOf sg = -6 := by unfold s_X8_thingOf; rw [if_pos w]
theorem zth_on (sg : Int32) (w : ¬ s_X8_within (sg - 97) 0 5 = 0) : s_X8_thingOf sg = sg - 97 := by unfold s_X8_thingOf; rw [if_neg w]
theorem zcl_off {s k : Nat} (h : ¬ s.testBit k = true) : zcl s k = s := by unfold zcl; rw [if_neg h]
/-- the first fault -/
theorem zft_eq (pn : Nat) (pa : Nat → Int32) (hpn : pn ≤ 60) : ∀ q k x s, k ≤ pn → s < 64 → lp_X8_firstFault_12 pn pa q k x (nI s) = lp_X9_fault_9 pn pa q k x (nI s) := by
  intro q
  induction q with
  | zero => intro k x s _ _; rfl
  | succ q ih =>
    intro k x s hk hs
    rw [lp_X8_firstFault_12, lp_X9_fault_9]
    by_cases c : nI pn ≤ nI k
    · rw [if_pos c, if_pos c]
    · rw [if_neg c, if_neg c]
      have hkn := zNnle (a := pn) (b := k) c (by omega) (by omega)
      simp only [zcel (show k < 60 by omega) (show 60 < 2 ^ 31 by decide), zwi05]
      have hcount : ((if pa k = 33 then x + 1 else x) : Int32) = x + ((if pa k = 33 then 1 else 0) : Int32) := by
        by_cases e : pa k = 33
        · rw [if_pos e, if_pos e]
        · rw [if_neg e, if_neg e, Int32.add_zero]
      simp only [hcount]
      by_cases w : s_X8_within (pa k - 97) 0 5 = 0
      · simp only [zth_of _ w, if_pos w, zwo6, if_true, zb_and1 s hs]
        exact zite rfl (ih _ _ _ (by omega) hs)
      · obtain ⟨j, hj, ej⟩ := zw05_of w
        have hnj : ¬ nI j = -6 := znm6 (by omega)
        simp only [zth_on _ w, ej, if_neg (zw05 j hj), zb_has hj hs, zb_bit j hj s hs, zb_wo hj hs, if_neg hnj, zb_cl j hj s hs]
        by_cases d : s.testBit j = true
        · simp only [if_pos d, if_neg (show ¬ (1 : Int32) = 0 by decide), if_true]
          exact zite rfl (ih _ _ _ (by omega) (zcl_lt hs))
        · simp only [if_neg d, if_neg (show ¬ (0 : Int32) = 1 by decide), if_true, zcl_off d, zb_and1 s hs]
          exact zite rfl (ih _ _ _ (by omega) hs)
theorem zfault (pn : Nat) (we pa : Nat → Int32) (hpn : pn ≤ 60) : lp_X8_firstFault_12 pn pa (pn + 1) 0 0 (lp_X7_loaded_4 we 7 0 0) = lp_X9_fault_9 pn pa (pn + 1) 0 0 (lp_X9_loaded_4 we 7 0 0) := by
  rw [zld]
  obtain ⟨r, hr, e⟩ := zld0 we
  rw [e]
  exact zft_eq pn pa hpn (pn + 1) 0 0 r (by omega) hr
/-- its range: -6 or a place -/
theorem zft_r (pn : Nat) (pa : Nat → Int32) (hpn : pn ≤ 60) : ∀ q k x ab, k ≤ pn → pn - k < q → lp_X9_fault_9 pn pa q k x ab = -6 ∨ ∃ j, j < pn ∧ lp_X9_fault_9 pn pa q k x ab = nI j := by
  intro q
  induction q with
  | zero => intro k x ab _ h; exact absurd h (Nat.not_lt_zero _)
  | succ q ih =>
    intro k x ab hk hq
    rw [lp_X9_fault_9]
    by_cases c : nI pn ≤ nI k
    · rw [if_pos c]; exact Or.inl rfl
    · rw [if_neg c]
      have hkn := zNnle (a := pn) (b := k) c (by omega) (by omega)
      exact ziteP (fun v => v = -6 ∨ ∃ j, j < pn ∧ v = nI j) (Or.inr ⟨k, hkn, rfl⟩) (ziteP (fun v => v = -6 ∨ ∃ j, j < pn ∧ v = nI j) (ih _ _ _ (by omega) (by omega)) (ih _ _ _ (by omega) (by omega)))
theorem zft0 (pn : Nat) (pa : Nat → Int32) (hpn : pn ≤ 60) (ab : Int32) : (lp_X9_fault_9 pn pa (pn + 1) 0 0 ab < 0) = (lp_X9_fault_9 pn pa (pn + 1) 0 0 ab = -6) := by
  rcases zft_r pn pa hpn (pn + 1) 0 0 ab (by omega) (by omega) with h | ⟨j, hj, h⟩
  · rw [h]; decide
  · rw [h]
    have h1 : ¬ nI j < 0 := fun q => absurd (zNlt (a := j) (b := 0) q (by omega) (by omega)) (by omega)
    exact propext ⟨fun q => absurd q h1, fun q => absurd q (znm6 (by omega))⟩
