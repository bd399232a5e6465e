theorem zfar (fa : Nat → Int32) : ∀ (q k : Nat) (f : Nat → Int32), k ≤ 6 → 6 - k < q → (∀ j, j < k → f j = 100000) → ∀ j, j < 6 → lp_X9_holdsFrom_2 q k f j = 100000 := by
  intro q
  induction q with
  | zero => intro k f _ h; exact absurd h (Nat.not_lt_zero _)
  | succ q ih =>
    intro k f hk hq h j hj
    rw [lp_X9_holdsFrom_2]
    by_cases c : (6 : Int32) ≤ nI k
    · have := zNle (a := 6) c (by decide) (by omega)
      rw [if_pos c]; exact h j (by omega)
    · have := zNnle (a := 6) c (by decide) (by omega)
      rw [if_neg c]
      refine ih (k + 1) _ (by omega) (by omega) (fun i hi => ?_) j hj
      by_cases e : i = k
      · subst e; exact pk_us
      · rw [pk_un e]; exact h i (by omega)
theorem zseen0 (fp fa : Nat → Int32) : zseen 0 fp (lp_X9_holdsFrom_2 7 0 fa) := fun j hj => ⟨fun q => absurd q (by simp), fun _ => zfar fa 7 0 fa (by omega) (by omega) (fun i hi => absurd hi (Nat.not_lt_zero _)) j hj⟩
theorem zsaw {u t : Nat} {fp f : Nat → Int32} {P : Int32} (h : zseen u fp f) (hu : u < 64) (ht : t < 6) (hP : -600 ≤ P.toInt ∧ P.toInt ≤ 600) : s_X3_saw (nI u) fp (nI t) P = if f t = P then 1 else 0 := by
  unfold s_X3_saw
  rw [zb_has ht hu, zcel ht (by decide)]
  by_cases c : u.testBit t = true
  · rw [if_pos c, if_neg (by decide), ((h t ht).1 c).1]
  · rw [if_neg c, if_pos rfl, (h t ht).2 c, if_neg]
    intro e
    rw [← e] at hP
    exact absurd hP (by decide)
theorem z88_0 (sn pn : Nat) (tu lk stp : Int32) (ea la we mT mP pa fa : Nat → Int32) (g0 : Int32) : ∀ q k, lp_X9_holdsFrom_88 sn pn tu lk stp ea la we mT mP pa fa g0 q k 0 = 0 := by
  intro q
  induction q with
  | zero => intro k; rfl
  | succ q ih =>
    intro k
    rw [lp_X9_holdsFrom_88]
    by_cases c : nI sn ≤ nI k
    · rw [if_pos c]
    · rw [if_neg c, if_pos rfl]; exact ih _
/-- what a start must have shown -/
def zsg (sn : Nat) (mT mP : Nat → Int32) : Prop := ∀ j, j < sn → (∃ t, t < 6 ∧ mT j = nI t) ∧ -600 ≤ (mP j).toInt ∧ (mP j).toInt ≤ 600
theorem zhold (sn pn : Nat) (tu ga lk stp dbt win : Int32) (ea la we mT mP pa fp fa : Nat → Int32) (g0 : Int32) (hpn : pn ≤ 60) (hst : 1 ≤ stp) (hlk : 0 ≤ lk) (he : zwb ea) (hl : zwb la) (hpad : zpad pn pa) (hsn : sn ≤ 6) (hsg : zsg sn mT mP) (hg0 : 0 ≤ g0) : ∀ q k, k ≤ sn → sn - k < q → lp_X8_sightsHold_114 sn (nmF tu ga lk stp dbt win) (wdF ea la) we mT mP pn pa fp g0 q k = lp_X9_holdsFrom_88 sn pn tu lk stp ea la we mT mP pa fa g0 q k 1 := by
  obtain ⟨r, hr, er⟩ := zld0 we
  obtain ⟨pl', g', mn', ab', u', fp', f', hu', hz, e1, e2⟩ := zsee pn tu ga lk stp dbt win ea la we pa hpn hst hlk he hl hpad (pn + 1) 0 0 g0 0 r 0 fp (lp_X9_holdsFrom_2 7 0 fa) (Nat.zero_le _) hr (by decide) hg0 (by decide) (zseen0 fp fa)
  rw [show nI 0 = (0 : Int32) from rfl] at e1
  intro q
  induction q with
  | zero => intro k _ h; exact absurd h (Nat.not_lt_zero _)
  | succ q ih =>
    intro k hk hq
    rw [lp_X8_sightsHold_114, lp_X9_holdsFrom_88]
    by_cases c : nI sn ≤ nI k
    · rw [if_pos c, if_pos c]
    · rw [if_neg c, if_neg c, if_neg (show ¬ (1 : Int32) = 0 by decide)]
      have hks := zNnle c (by omega) (by omega)
      obtain ⟨⟨t, ht, et⟩, hP⟩ := hsg k hks
      rw [zld we, er, e1, e2, zcel (by omega) (by decide), zcel (by omega) (by decide), et, zsaw hz hu' ht hP, nI_clamp (by omega)]
      by_cases d : f' t = mP k
      · simp only [if_pos d]
        rw [if_neg (by decide)]
        exact ih (k + 1) (by omega) (by omega)
      · simp only [if_neg d, if_true]
        exact (z88_0 _ _ _ _ _ _ _ _ _ _ _ _ _ _ _).symm
theorem zstarts (sn pn : Nat) (tu ga lk stp dbt win : Int32) (ea la we mT mP pa : Nat → Int32) (hpn : pn ≤ 60) (hst : 1 ≤ stp) (hlk : 0 ≤ lk) (he : zwb ea) (hl : zwb la) (hpad : zpad pn pa) (hsn : sn ≤ 6) (hsg : zsg sn mT mP) : ∀ (q k : Nat) (x4 x3 x2 a b c d e a' b' c' d' : Int32) (fp fa : Nat → Int32), k ≤ 100 → ((x2 = 0 ∧ x3 = -6) ∨ ((∃ n, 1 ≤ n ∧ n ≤ k ∧ x2 = nI n) ∧ ∃ j, j < 100 ∧ x3 = nI j)) →
    (lp_X8_starts_36 sn (nmF tu ga lk stp dbt win) (wdF ea la) we mT mP pn pa q k x4 x3 x2 a b c d e fp).1 = (lp_X9_starts_37 sn pn tu lk stp ea la we mT mP pa q k x4 x3 x2 a' b' c' d' fa).1 ∧ (lp_X8_starts_36 sn (nmF tu ga lk stp dbt win) (wdF ea la) we mT mP pn pa q k x4 x3 x2 a b c d e fp).2.1 = (lp_X9_starts_37 sn pn tu lk stp ea la we mT mP pa q k x4 x3 x2 a' b' c' d' fa).2.1 ∧ (lp_X8_starts_36 sn (nmF tu ga lk stp dbt win) (wdF ea la) we mT mP pn pa q k x4 x3 x2 a b c d e fp).2.2.1 = (lp_X9_starts_37 sn pn tu lk stp ea la we mT mP pa q k x4 x3 x2 a' b' c' d' fa).2.2.1 := by
  intro q
  induction q with
  | zero => intro k x4 x3 x2 a b c d e a' b' c' d' fp fa _ _; exact ⟨rfl, rfl, rfl⟩
  | succ q ih =>
    intro k x4 x3 x2 a b c d e a' b' c' d' fp fa hk h
    rw [lp_X8_starts_36, lp_X9_starts_37]
    by_cases c0 : (100 : Int32) ≤ nI k
    · rw [if_pos c0, if_pos c0]; exact ⟨rfl, rfl, rfl⟩
    · rw [if_neg c0, if_neg c0]
      have hk1 := zNnle (a := 100) c0 (by omega) (by omega)
      have hk0 : 0 ≤ nI k := (nI_leI (a := 0) (by omega) (by omega)).mpr (Nat.zero_le _)
      rw [zhold sn pn tu ga lk stp dbt win ea la we mT mP pa fp fa (nI k) hpn hst hlk he hl hpad hsn hsg hk0 (sn + 1) 0 (Nat.zero_le _) (by omega)]
      by_cases w : lp_X9_holdsFrom_88 sn pn tu lk stp ea la we mT mP pa fa (nI k) (sn + 1) 0 1 = 0
      · rw [if_pos w, if_pos w]
        exact ih _ _ _ _ _ _ _ _ _ _ _ _ _ _ _ (by omega) (by
          rcases h with h | ⟨⟨n, h1, h2, h3⟩, h4⟩
          · exact Or.inl h
          · exact Or.inr ⟨⟨n, h1, by omega, h3⟩, h4⟩)
      · rw [if_neg w, if_neg w]
        rcases h with ⟨rfl, rfl⟩ | ⟨⟨n, h1, h2, rfl⟩, ⟨j, hj, rfl⟩⟩
        · rw [if_pos rfl]
          exact ih _ _ _ _ _ _ _ _ _ _ _ _ _ _ _ (by omega) (Or.inr ⟨⟨1, by omega, by omega, rfl⟩, ⟨k, hk1, rfl⟩⟩)
        · rw [if_neg (fun q2 => absurd (show nI j < 0 by rw [q2]; decide) (nI_pos (by omega))), if_neg (show ¬ nI n = 0 from fun q2 => absurd (zNeq (b := 0) q2 (by omega) (by omega)) (by omega))]
          exact ih _ _ _ _ _ _ _ _ _ _ _ _ _ _ _ (by omega) (Or.inr ⟨⟨n + 1, by omega, by omega, nI_1 n⟩, ⟨j, hj, rfl⟩⟩)
/-- promise 19 -/
theorem E_starts (sn pn : Nat) (tu ga lk stp dbt win plc mnt lft abd pl gs ab mn fn : Int32) (ea la we mT mP pa fa fp : Nat → Int32) (what : Int32) (hpn : pn ≤ 60) (hst : 1 ≤ stp) (hlk : 0 ≤ lk) (he : zwb ea) (hl : zwb la) (hpad : zpad pn pa) (hsn : sn ≤ 6) (hsg : zsg sn mT mP) : s_X8_starts sn (nmF tu ga lk stp dbt win) (wdF ea la) we mT mP pn pa pl gs ab mn fn fp what = s_X9_starts sn pn tu lk stp plc mnt lft abd ea la we mT mP pa fa what := by
  unfold s_X8_starts s_X9_starts s_X8_oneOf
  simp only [zfault2 pn we pa hpn]
  rw [zwi (a := what) (lo := 0) (hi := 2) (l := 0) (h := 2) (by decide) (by decide)]
  have hS := zstarts sn pn tu ga lk stp dbt win ea la we mT mP pa hpn hst hlk he hl hpad hsn hsg 101 0 (-6) (-6) 0 pl gs ab mn fn plc mnt lft abd fp fa (by decide) (Or.inl ⟨rfl, rfl⟩)
  rw [hS.1, hS.2.1, hS.2.2]
