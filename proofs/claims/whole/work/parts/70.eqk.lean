/-! a year of draws -/
theorem zldiv {a d : Nat} (ha : a < 2 ^ 31) (hd : d < 2 ^ 31) : lN a / lN d = lN (a / d) := by
  have hl : a / d < 2 ^ 31 := Nat.lt_of_le_of_lt (Nat.div_le_self a d) ha
  apply Int64.toInt_inj.mp
  rw [Int64.toInt_div, lN_toInt ha, lN_toInt hd, lN_toInt hl, ← Int.ofNat_tdiv]
  generalize a / d = x at hl ⊢
  exact Int.bmod_eq_of_le (by omega) (by omega)
def zdw (d : Nat) : Nat := (75 * d + 74) % 65537
theorem zdw_lt (d : Nat) : zdw d < 65537 := Nat.mod_lt _ (by decide)
theorem zdw_c {d : Nat} (h : d < 65537) : ((75 * nI d) + 74) - ((75 * nI d) + 74) / 65537 * 65537 = nI (zdw d) := by
  have e : (75 * nI d : Int32) + 74 = nI (75 * d + 74) := by
    rw [show (75 : Int32) = nI 75 from rfl, pk_mul, show (74 : Int32) = nI 74 from rfl, nI_add]
  rw [e]
  exact pk_rem (a := 75 * d + 74) (d := 65537) (by omega) (by decide) (by decide)
theorem zdw_m {d : Nat} (h : d < 65537) : Int64.toInt32 (((75 * (Int32.toInt64 (nI d))) + 74) - ((75 * (Int32.toInt64 (nI d))) + 74) / 65537 * 65537) = nI (zdw d) := by
  have e : (75 * lN d : Int64) + 74 = lN (75 * d + 74) := by
    rw [show (75 : Int64) = lN 75 from rfl, lN_mul, show (74 : Int64) = lN 74 from rfl, lN_add]
  rw [nI_l (by omega), e, show (65537 : Int64) = lN 65537 from rfl, zldiv (by omega) (by decide), lN_mul, lN_sub (Nat.div_mul_le_self _ _), lN_i]
  exact congrArg nI (by have := Nat.div_add_mod' (75 * d + 74) 65537; unfold zdw; omega)
theorem zto6 {s : Nat} (hs : s < 64) : s_X9_throwOut_abd (nI s) (-6) = nI s := by
  unfold s_X9_throwOut_abd
  rw [if_neg (by decide), zb_and1 s hs]
theorem ztoj {s j : Nat} (hs : s < 64) (hj : j < 6) : s_X9_throwOut_abd (nI s) (nI j) = nI (zcl s j) := by
  unfold s_X9_throwOut_abd
  rw [if_pos (Int32.not_lt.mp (zlt6 j hj).1), zb_cl j hj s hs]
/-- the heaviest out, or none, on both sides -/
theorem zout (we : Nat → Int32) {s : Nat} (hs : s < 64) (C : Prop) [Decidable C] : ∃ r, r < 64 ∧ ((if C then s_X8_without (nI s) (lp_X7_heaviest_5 we (nI s) 7 0 (-6)) else nI s) : Int32) = nI r ∧ s_X9_throwOut_abd (nI s) ((if C then lp_X9_heaviest_5 (nI s) we 7 0 (-6) else (-6)) : Int32) = nI r := by
  by_cases c : C
  · rw [if_pos c, if_pos c, zhv0 we hs]
    rcases zhv_r we hs 7 0 (-6) (by omega) (Or.inl rfl) with h | ⟨j, hj, h, _⟩
    · rw [h, zwo6, zto6 hs]; exact ⟨s, hs, rfl, rfl⟩
    · rw [h, zb_wo hj hs, ztoj hs hj]; exact ⟨_, zcl_lt hs, rfl, rfl⟩
  · rw [if_neg c, if_neg c, zto6 hs]; exact ⟨s, hs, rfl, rfl⟩
theorem zyear1 (tu ga lk stp dbt win : Int32) (ea la we : Nat → Int32) (hst : 1 ≤ stp) (hlk : 0 ≤ lk) (he : zwb ea) (hl : zwb la) : ∀ (q k : Nat) (d s : Nat) (pl g mn : Int32), k ≤ 10 → d < 65537 → s < 64 → 0 ≤ g → -(9 * (k : Int)) ≤ pl.toInt ∧ pl.toInt ≤ 9 * (k : Int) →
    ∃ (d' : Nat) (pl' mn' g' ab' : Int32), d' < 65537 ∧ -90 ≤ pl'.toInt ∧ pl'.toInt ≤ 90 ∧ lp_X8_flyByDraws_27 (nmF tu ga lk stp dbt win) (wdF ea la) we q k (nI d) pl g (nI s) mn = (nI d', pl', g', ab', mn') ∧ lp_X9_year_69 tu lk stp ea la we q k (nI d) pl mn g (nI s) = (nI d', pl', mn', g', ab') := by
  intro q
  induction q with
  | zero => intro k d s pl g mn hk hd hs hg hp; exact ⟨d, pl, mn, g, nI s, hd, by omega, by omega, rfl, rfl⟩
  | succ q ih =>
    intro k d s pl g mn hk hd hs hg hp
    rw [lp_X8_flyByDraws_27, lp_X9_year_69]
    by_cases c : (10 : Int32) ≤ nI k
    · rw [if_pos c, if_pos c]; exact ⟨d, pl, mn, g, nI s, hd, by omega, by omega, rfl, rfl⟩
    · rw [if_neg c, if_neg c]
      have hk10 := zNnle (a := 10) (b := k) c (by omega) (by omega)
      simp only [zdw_c hd, zdw_m hd]
      obtain ⟨r, hr, e1, e2⟩ := zout we hs (nI (zdw d) - nI (zdw d) / 4 * 4 = 0)
      simp only [e1, e2, zdr tu ga lk stp dbt win ea la we hr hst, zn2, zgs hg hlk]
      have hb := zdrb (tu := tu) (mn := mn) (g := g) (ab := nI r) (we := we) hst he hl
      generalize ((if tu ≤ mn then la (s_X9_height stp g (nI r) we).toNatClampNeg else ea (s_X9_height stp g (nI r) we).toNatClampNeg) : Int32) = w at hb ⊢
      have hadd : (pl + w).toInt = pl.toInt + w.toInt := zaddI (by omega) (by omega)
      exact ih (k + 1) (zdw d) r (pl + w) _ (mn + 1) (by omega) (zdw_lt d) hr (zgs0 hg hlk) (by rw [hadd]; omega)
theorem zyearN (tu ga lk stp dbt win : Int32) (ea la we : Nat → Int32) (n : Int32) (hst : 1 ≤ stp) (hlk : 0 ≤ lk) (hga : 0 ≤ ga) (he : zwb ea) (hl : zwb la) {m : Nat} (hm : m ≤ 60) (hn : n = nI m) : ∀ (q k : Nat) (d : Nat) (mx mi su mx' mi' a b c e a' b' c' e' : Int32), d < 65537 → k ≤ m → ((k = 0 ∧ mx = -600 ∧ mi = 600 ∧ mx' = -100000 ∧ mi' = 100000) ∨ (mx = mx' ∧ mi = mi')) →
    (lp_X8_year_52 (nmF tu ga lk stp dbt win) (wdF ea la) we n q k (nI d) mx mi su a b c e).2.2.2.1 = (lp_X9_year_56 tu ga lk stp ea la we n q k mx' mi' su (nI d) a' b' c' e').2.2.1
    ∧ ((0 < q ∧ k < m ∧ m - k < q ∨ (mx = mx' ∧ mi = mi')) → (lp_X8_year_52 (nmF tu ga lk stp dbt win) (wdF ea la) we n q k (nI d) mx mi su a b c e).2.1 = (lp_X9_year_56 tu ga lk stp ea la we n q k mx' mi' su (nI d) a' b' c' e').1 ∧ (lp_X8_year_52 (nmF tu ga lk stp dbt win) (wdF ea la) we n q k (nI d) mx mi su a b c e).2.2.1 = (lp_X9_year_56 tu ga lk stp ea la we n q k mx' mi' su (nI d) a' b' c' e').2.1) := by
  subst hn
  intro q
  induction q with
  | zero =>
    intro k d mx mi su mx' mi' a b c e a' b' c' e' _ _ h
    refine ⟨rfl, fun h2 => ?_⟩
    rcases h2 with h2 | ⟨h2, h3⟩
    · exact absurd h2.1 (Nat.lt_irrefl _)
    · exact ⟨h2, h3⟩
  | succ q ih =>
    intro k d mx mi su mx' mi' a b c e a' b' c' e' hd hk h
    rw [lp_X8_year_52, lp_X9_year_56, nI_clamp (show m < 2 ^ 31 by omega)]
    by_cases c0 : nI m ≤ nI k
    · rw [if_pos c0, if_pos c0]
      have := zNle c0 (by omega) (by omega)
      refine ⟨rfl, fun h2 => ?_⟩
      rcases h2 with h2 | ⟨h2, h3⟩
      · omega
      · exact ⟨h2, h3⟩
    · rw [if_neg c0, if_neg c0]
      have hkm := zNnle c0 (by omega) (by omega)
      obtain ⟨r, hr, er⟩ := zld0 we
      obtain ⟨d', pl', mn', g', ab', hd', b1, b2, e1, e2⟩ := zyear1 tu ga lk stp dbt win ea la we hst hlk he hl 11 0 d r 0 ga 0 (by decide) hd hr hga (by decide)
      simp only [zld we, er, zn1, e1, e2]
      have hX : ∀ (z : Int32), (mx = mx' ∨ (mx = -600 ∧ mx' = -100000)) → ((if mx < pl' then pl' else mx) : Int32) = (if pl' ≤ mx' then mx' else pl') := by
        intro _ hz
        rcases hz with rfl | ⟨rfl, rfl⟩
        · by_cases f : pl' ≤ mx
          · rw [if_pos f, if_neg (Int32.not_lt.mpr f)]
          · rw [if_neg f, if_pos (Int32.not_le.mp f)]
        · rw [if_pos (by rw [Int32.lt_iff_toInt_lt, show (-600 : Int32).toInt = -600 by decide]; omega), if_neg (by rw [Int32.le_iff_toInt_le, show (-100000 : Int32).toInt = -100000 by decide]; omega)]
      have hI : (mi = mi' ∨ (mi = 600 ∧ mi' = 100000)) → ((if pl' < mi then pl' else mi) : Int32) = (if mi' ≤ pl' then mi' else pl') := by
        intro hz
        rcases hz with rfl | ⟨rfl, rfl⟩
        · by_cases f : mi ≤ pl'
          · rw [if_pos f, if_neg (Int32.not_lt.mpr f)]
          · rw [if_neg f, if_pos (Int32.not_le.mp f)]
        · rw [if_pos (by rw [Int32.lt_iff_toInt_lt, show (600 : Int32).toInt = 600 by decide]; omega), if_neg (by rw [Int32.le_iff_toInt_le, show (100000 : Int32).toInt = 100000 by decide]; omega)]
      have hx := hX 0 (by rcases h with h | h; exact Or.inr ⟨h.2.1, h.2.2.2.1⟩; exact Or.inl h.1)
      have hi := hI (by rcases h with h | h; exact Or.inr ⟨h.2.2.1, h.2.2.2.2⟩; exact Or.inl h.2)
      rw [hx, hi]
      by_cases f : pl' ≤ mx'
      · simp only [if_pos f]
        have := ih (k + 1) d' mx' ((if mi' ≤ pl' then mi' else pl') : Int32) (su + pl') mx' ((if mi' ≤ pl' then mi' else pl') : Int32) pl' g' ab' mn' pl' mn' g' ab' hd' (by omega) (Or.inr ⟨rfl, rfl⟩)
        exact ⟨this.1, fun _ => this.2 (Or.inr ⟨rfl, rfl⟩)⟩
      · simp only [if_neg f]
        have := ih (k + 1) d' pl' ((if mi' ≤ pl' then mi' else pl') : Int32) (su + pl') pl' ((if mi' ≤ pl' then mi' else pl') : Int32) pl' g' ab' mn' pl' mn' g' ab' hd' (by omega) (Or.inr ⟨rfl, rfl⟩)
        exact ⟨this.1, fun _ => this.2 (Or.inr ⟨rfl, rfl⟩)⟩
/-- promise 21 -/
theorem E_year (tu ga lk stp dbt win plc mnt lft abd pl gs ab mn : Int32) (ea la we : Nat → Int32) (seed n what : Int32) (hst : 1 ≤ stp) (hlk : 0 ≤ lk) (hga : 0 ≤ ga) (he : zwb ea) (hl : zwb la) : s_X8_year (nmF tu ga lk stp dbt win) (wdF ea la) we pl gs ab mn seed n what = s_X9_year tu ga lk stp plc mnt lft abd ea la we seed n what := by
  unfold s_X8_year s_X9_year s_X8_oneOf
  rw [zwi (a := seed) (lo := 0) (hi := 9999) (l := 0) (h := 9999) (by decide) (by decide), zwi (a := n) (lo := 1) (hi := 60) (l := 1) (h := 60) (by decide) (by decide), zwi (a := what) (lo := 0) (hi := 2) (l := 0) (h := 2) (by decide) (by decide)]
  by_cases c1 : s_X8_within seed 0 9999 = 0
  · rw [if_pos c1, if_pos c1]
  · rw [if_neg c1, if_neg c1]
    by_cases c2 : s_X8_within n 1 60 = 0
    · rw [if_pos c2, if_pos c2]
    · rw [if_neg c2, if_neg c2]
      by_cases c3 : s_X8_within what 0 2 = 0
      · rw [if_pos c3, if_pos c3]
      · rw [if_neg c3, if_neg c3]
        obtain ⟨d, -, hd, rfl⟩ := zwr (a := 0) (b := 9999) c1 (by decide) (by decide)
        obtain ⟨m, hm1, hm, rfl⟩ := zwr (a := 1) (b := 60) c2 (by decide) (by decide)
        rw [nI_clamp (show m < 2 ^ 31 by omega)]
        have hY := zyearN tu ga lk stp dbt win ea la we (nI m) hst hlk hga he hl hm rfl (m + 1) 0 d (-600) 600 0 (-100000) 100000 pl gs ab mn plc mnt lft abd (by omega) (Nat.zero_le _) (Or.inl ⟨rfl, rfl, rfl, rfl, rfl⟩)
        have hZ := hY.2 (Or.inl ⟨by omega, by omega, by omega⟩)
        rw [hY.1, hZ.1, hZ.2]
