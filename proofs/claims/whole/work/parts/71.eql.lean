/-! what is seen to fall -/
def zseen (u : Nat) (fp f : Nat → Int32) : Prop := ∀ j, j < 6 → (u.testBit j = true → fp j = f j ∧ -600 ≤ (f j).toInt ∧ (f j).toInt ≤ 600) ∧ (¬ u.testBit j = true → f j = 100000)
theorem zb_set : ∀ k, k < 6 → ∀ u, u < 64 → ∀ j, j < 6 → (u ||| 2 ^ k).testBit j = (if j = k then true else u.testBit j) := by decide +kernel
theorem zseen_set {u k : Nat} {fp f : Nat → Int32} {pl : Int32} (h : zseen u fp f) (hu : u < 64) (hk : k < 6) (hp : -600 ≤ pl.toInt ∧ pl.toInt ≤ 600) : zseen (u ||| 2 ^ k) (upd fp k pl) (upd f k pl) := by
  intro j hj
  rw [zb_set k hk u hu j hj]
  by_cases e : j = k
  · subst e
    rw [if_pos rfl, pk_us, pk_us]
    exact ⟨fun _ => ⟨rfl, hp⟩, fun q => absurd rfl q⟩
  · rw [if_neg e, pk_un e, pk_un e]
    exact h j hj
theorem zsee (pn : Nat) (tu ga lk stp dbt win : Int32) (ea la we pa : Nat → Int32) (hpn : pn ≤ 60) (hst : 1 ≤ stp) (hlk : 0 ≤ lk) (he : zwb ea) (hl : zwb la) (hpad : zpad pn pa) : ∀ (q k : Nat) (pl g mn : Int32) (s u : Nat) (fp f : Nat → Int32), k ≤ pn → s < 64 → u < 64 → 0 ≤ g → -(9 * (k : Int)) ≤ pl.toInt ∧ pl.toInt ≤ 9 * (k : Int) → zseen u fp f →
    ∃ (pl' g' mn' ab' : Int32) (u' : Nat) (fp' f' : Nat → Int32), u' < 64 ∧ zseen u' fp' f' ∧ lp_X8_sightsHold_25 (nmF tu ga lk stp dbt win) (wdF ea la) we pn pa q k pl g (nI s) mn (nI u) fp = (pl', g', ab', mn', nI u', fp') ∧ lp_X9_holdsFrom_33 pn tu lk stp ea la we pa q k pl mn g (nI s) f = (pl', mn', g', ab', f') := by
  intro q
  induction q with
  | zero => intro k pl g mn s u fp f hk hs hu hg hp h; exact ⟨pl, g, mn, nI s, u, fp, f, hu, h, rfl, rfl⟩
  | succ q ih =>
    intro k pl g mn s u fp f hk hs hu hg hp h
    rw [lp_X8_sightsHold_25, lp_X9_holdsFrom_33]
    by_cases c : nI pn ≤ nI k
    · rw [if_pos c, if_pos c]; exact ⟨pl, g, mn, nI s, u, fp, f, hu, h, rfl, rfl⟩
    · rw [if_neg c, if_neg c]
      have hkn := zNnle (a := pn) (b := k) c (by omega) (by omega)
      obtain ⟨v, hv, ev⟩ := hpad k hkn
      rw [zwi05, zcel (show k < 60 by omega) (by decide)]
      by_cases b : pa k = 46
      · rw [if_pos b, b, (zhap_dot tu lk stp pl mn g (nI s) ea la we).1, (zhap_dot tu lk stp pl mn g (nI s) ea la we).2.1, (zhap_dot tu lk stp pl mn g (nI s) ea la we).2.2.1, (zhap_dot tu lk stp pl mn g (nI s) ea la we).2.2.2, zdr tu ga lk stp dbt win ea la we hs hst, zn2, zgs hg hlk, if_pos (show s_X8_within (46 - 97) 0 5 = 0 by decide)]
        have hb := zdrb (tu := tu) (mn := mn) (g := g) (ab := nI s) (we := we) hst he hl
        generalize ((if tu ≤ mn then la (s_X9_height stp g (nI s) we).toNatClampNeg else ea (s_X9_height stp g (nI s) we).toNatClampNeg) : Int32) = w at hb ⊢
        have hadd : (pl + w).toInt = pl.toInt + w.toInt := zaddI (by omega) (by omega)
        exact ih (k + 1) (pl + w) _ (mn + 1) s u fp f (by omega) hs hu (zgs0 hg hlk) (by rw [hadd]; omega) h
      · rw [if_neg b]
        have b2 : ¬ nI (33 + v) = 46 := fun q => b (ev.trans q)
        have hh := zhap_not tu lk stp pl mn g ea la we hs hv b2
        by_cases w : s_X8_within (pa k - 97) 0 5 = 0
        · rw [if_pos w, zth_of _ w, zwo6]
          have h1 : nI (zth (33 + v) s) = nI s := by
            have := zth_c v hv s hs
            rw [← ev, zth_of _ w, zwo6] at this
            exact this.symm
          rw [ev, hh.1, hh.2.1, hh.2.2.1, hh.2.2.2, h1]
          have n1 : s_X3_note_fn (nI u) (-6) = nI u := by unfold s_X3_note_fn; rw [if_pos (by decide)]
          have n2 : s_X3_note_fp fp (-6) pl = fp := by unfold s_X3_note_fp; rw [if_pos (by decide)]
          rw [n1, n2]
          exact ih (k + 1) pl g mn s u fp f (by omega) hs hu hg (by omega) h
        · obtain ⟨j, hj, ej⟩ := zw05_of w
          rw [if_neg w, zth_on _ w, ej, zb_wo hj hs, nI_clamp (by omega)]
          have h1 : nI (zth (33 + v) s) = nI (zcl s j) := by
            have := zth_c v hv s hs
            rw [← ev, zth_on _ w, ej, zb_wo hj hs] at this
            exact this.symm
          rw [ev, hh.1, hh.2.1, hh.2.2.1, hh.2.2.2, h1]
          have n1 : s_X3_note_fn (nI u) (nI j) = nI (u ||| 2 ^ j) := by unfold s_X3_note_fn; rw [if_neg (zw05 j hj), zb_or j hj u hu]
          have n2 : s_X3_note_fp fp (nI j) pl = upd fp j pl := by
            unfold s_X3_note_fp
            rw [if_neg (zw05 j hj), zputv (vp_in_of2 hj (by omega)) (by decide), nI_clamp (by omega)]
          rw [n1, n2]
          exact ih (k + 1) pl g mn (zcl s j) (u ||| 2 ^ j) _ _ (by omega) (zcl_lt hs) (zb_or_lt j hj u hu) hg (by omega) (zseen_set h hu hj (by omega))
