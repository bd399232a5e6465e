/-! the sneezes of each minute, on the model's side -/
theorem zfs_0 : ∀ (q k : Nat) (f : Nat → Int32), k ≤ 61 → 61 - k < q → (∀ i, i < k → f i = 0) → ∀ j, j < 61 → lp_X9_findSneezes_4 q k f j = 0 := by
  intro q
  induction q with
  | zero => intro k f _ h; exact absurd h (Nat.not_lt_zero _)
  | succ q ih =>
    intro k f hk hq hf j hj
    rw [lp_X9_findSneezes_4]
    by_cases c : (61 : Int32) ≤ nI k
    · have := zNle (a := 61) c (by omega) (by omega)
      rw [if_pos c]; exact hf j (by omega)
    · have hk61 := zNnle (a := 61) (b := k) c (by omega) (by omega)
      rw [if_neg c]
      refine ih (k + 1) _ (by omega) (by omega) (fun i hi => ?_) j hj
      by_cases e : i = k
      · subst e; exact pk_us
      · rw [pk_un e]; exact hf i (by omega)
theorem zfs_1 (pn : Nat) (pa : Nat → Int32) (hpn : pn ≤ 60) : ∀ (fu k q : Nat) (f : Nat → Int32), k ≤ pn → pn - k < fu → q = zct 46 pa k → (∀ m, m < 61 → f m = nI (zsn pa m k)) → ∀ m, m < 61 → lp_X9_findSneezes_25 pn pa fu k q f m = nI (zsn pa m pn) := by
  intro fu
  induction fu with
  | zero => intro k q f _ h; exact absurd h (Nat.not_lt_zero _)
  | succ fu ih =>
    intro k q f hk hfu hq hf m hm
    rw [lp_X9_findSneezes_25]
    by_cases c : nI pn ≤ nI k
    · have := zNle c (by omega) (by omega)
      rw [if_pos c, show pn = k by omega]; exact hf m hm
    · have hkn := zNnle c (by omega) (by omega)
      have hzk := zct_le 46 pa k
      rw [if_neg c]
      have hstep : ∀ m, m < 61 → upd f q ((f q) + ((if pa k = 33 then 1 else 0) : Int32)) m = nI (zsn pa m (k + 1)) := by
        intro m hm
        rw [zsn]
        by_cases e : m = q
        · rw [e, pk_us, hf q (by omega), zadd01]
          by_cases d : pa k = 33
          · rw [if_pos d, if_pos ⟨d, hq.symm⟩]
          · rw [if_neg d, if_neg (fun h => d h.1)]
        · rw [pk_un e, hf m hm, if_neg (fun h => e (by omega))]; rfl
      by_cases d : pa k = 46
      · rw [if_pos d]
        exact ih (k + 1) (q + 1) _ (by omega) (by omega) (by rw [zct, if_pos d, hq]) hstep m hm
      · rw [if_neg d]
        exact ih (k + 1) q _ (by omega) (by omega) (by rw [zct, if_neg d, hq]; rfl) hstep m hm
theorem zfs (pn : Nat) (pa sa : Nat → Int32) (hpn : pn ≤ 60) : ∀ m, m < 61 → lp_X9_findSneezes_25 pn pa (pn + 1) 0 0 (lp_X9_findSneezes_4 62 0 sa) m = nI (zsn pa m pn) :=
  zfs_1 pn pa hpn (pn + 1) 0 0 _ (Nat.zero_le _) (by omega) rfl (fun m hm => zfs_0 62 0 sa (by omega) (by omega) (fun i hi => absurd hi (Nat.not_lt_zero _)) m hm)
/-! near, by prefix sums -/
theorem zfindm (P : Nat → Nat) (k : Nat) : ∀ N, P 0 ≤ k → k < P N → ∃ m, m < N ∧ P m ≤ k ∧ k < P (m + 1) := by
  intro N
  induction N with
  | zero => intro h1 h2; omega
  | succ N ih =>
    intro h1 h2
    by_cases c : P N ≤ k
    · exact ⟨N, Nat.lt_succ_self N, c, h2⟩
    · obtain ⟨m, a, b⟩ := ih h1 (by omega)
      exact ⟨m, by omega, b⟩
theorem zlew {a m w : Nat} (ha : a < 100) (hm : m < 100) (hw : w < 100) : (nI a ≤ nI m - nI w) ↔ a + w ≤ m := by
  rw [Int32.le_iff_toInt_le, pk_sub_toInt (by omega) (by omega), nI_toInt (by omega)]
  omega
theorem znear (P : Nat → Nat) (f : Nat → Int32) (w : Nat) (hw : 1 ≤ w ∧ w ≤ 20) (hmo : ∀ a b, a ≤ b → P a ≤ P b) (h0 : P 0 = 0) (h24 : P 61 ≤ 24) (hf : ∀ m i, m < 61 → P m ≤ i → i < P (m + 1) → f i = nI m) (q m : Nat) (hm : m < 61) (hq1 : P m ≤ q) (hq2 : q < P (m + 1)) :
    ∀ fu k, k ≤ q + 1 → q + 1 - k < fu → lp_X5_near_5 f q (nI w) fu k (nI (k - P (m + 1 - w))) = nI (q + 1 - P (m + 1 - w)) := by
  have hq24 : q < 24 := by have := hmo (m + 1) 61 (by omega); omega
  intro fu
  induction fu with
  | zero => intro k _ h; exact absurd h (Nat.not_lt_zero _)
  | succ fu ih =>
    intro k hk hfu
    rw [lp_X5_near_5]
    by_cases c : nI q < nI k
    · have := zNlt c (by omega) (by omega)
      rw [if_pos c, show k = q + 1 by omega]
    · have hkq := zNnlt c (by omega) (by omega)
      rw [if_neg c, zcel (by omega) (by decide), zcel (by omega) (by decide), hf m q hm hq1 hq2]
      obtain ⟨m', a1, a2, a3⟩ := zfindm P k 61 (by omega) (by have := hmo (m + 1) 61 (by omega); omega)
      rw [hf m' k a1 a2 a3]
      have hmm : m' ≤ m := by
        rcases Nat.lt_or_ge m m' with h | h
        · have := hmo (m + 1) m' h; omega
        · exact h
      by_cases d : m' + w ≤ m
      · have hlt := hmo (m' + 1) (m + 1 - w) (by omega)
        rw [if_pos ((zlew (by omega) (by omega) (by omega)).mpr d), Int32.add_zero, show k - P (m + 1 - w) = k + 1 - P (m + 1 - w) by omega]
        exact ih (k + 1) (by omega) (by omega)
      · have hge := hmo (m + 1 - w) m' (by omega)
        rw [if_neg (fun h => d ((zlew (by omega) (by omega) (by omega)).mp h)), nI_1, show k - P (m + 1 - w) + 1 = k + 1 - P (m + 1 - w) by omega]
        exact ih (k + 1) (by omega) (by omega)
theorem znear0 (P : Nat → Nat) (f : Nat → Int32) (w : Nat) (hw : 1 ≤ w ∧ w ≤ 20) (hmo : ∀ a b, a ≤ b → P a ≤ P b) (h0 : P 0 = 0) (h24 : P 61 ≤ 24) (hf : ∀ m i, m < 61 → P m ≤ i → i < P (m + 1) → f i = nI m) (q m : Nat) (hm : m < 61) (hq1 : P m ≤ q) (hq2 : q < P (m + 1)) : lp_X5_near_5 f q (nI w) (q + 2) 0 0 = nI (q + 1 - P (m + 1 - w)) := by
  have := znear P f w hw hmo h0 h24 hf q m hm hq1 hq2 (q + 2) 0 (Nat.zero_le _) (by omega)
  rw [Nat.zero_sub] at this
  exact this
/-- the first doubt: none -/
theorem zfd_all (P : Nat → Nat) (f : Nat → Int32) (w dn : Nat) (hw : 1 ≤ w ∧ w ≤ 20) (hd : dn < 100) (hmo : ∀ a b, a ≤ b → P a ≤ P b) (h0 : P 0 = 0) (h24 : P 61 ≤ 24) (hf : ∀ m i, m < 61 → P m ≤ i → i < P (m + 1) → f i = nI m) :
    ∀ fu k, k ≤ P 61 → P 61 - k < fu → (lp_X5_firstDoubt_2 (P 61) f (nI dn) (nI w) fu k = -6 ↔ ∀ m q, m < 61 → P m ≤ q → q < P (m + 1) → k ≤ q → q + 1 - P (m + 1 - w) ≤ dn) := by
  intro fu
  induction fu with
  | zero => intro k _ h; exact absurd h (Nat.not_lt_zero _)
  | succ fu ih =>
    intro k hk hfu
    rw [lp_X5_firstDoubt_2]
    by_cases c : nI (P 61) ≤ nI k
    · have := zNle c (by omega) (by omega)
      rw [if_pos c]
      refine ⟨fun _ m q h1 h2 h3 h4 => ?_, fun _ => rfl⟩
      have := hmo (m + 1) 61 (by omega)
      omega
    · have hkq := zNnle c (by omega) (by omega)
      rw [if_neg c]
      obtain ⟨m', a1, a2, a3⟩ := zfindm P k 61 (by omega) hkq
      have hv := znear0 P f w hw hmo h0 h24 hf k m' a1 a2 a3
      rw [hv]
      by_cases d : k + 1 - P (m' + 1 - w) ≤ dn
      · rw [if_pos ((nI_leI (by omega) (by omega)).mpr d), ih (k + 1) (by omega) (by omega)]
        refine ⟨fun h m q h1 h2 h3 h4 => ?_, fun h m q h1 h2 h3 h4 => h m q h1 h2 h3 (by omega)⟩
        by_cases e : k = q
        · subst e
          have hv2 := znear0 P f w hw hmo h0 h24 hf k m h1 h2 h3
          have := zNeq (hv.symm.trans hv2) (by omega) (by omega)
          omega
        · exact h m q h1 h2 h3 (by omega)
      · rw [if_neg (fun h => d (zNle h (by omega) (by omega)))]
        exact ⟨fun h => absurd h (znm6 (by omega)), fun h => absurd (h m' k a1 a2 a3 (Nat.le_refl _)) d⟩
/-- the model's sum over a window -/
theorem zwith (P T : Nat → Nat) (sa : Nat → Int32) (w : Nat) (hw : 1 ≤ w ∧ w ≤ 20) (hmo : ∀ a b, a ≤ b → P a ≤ P b) (hPT : ∀ m, P (m + 1) = P m + T m) (hs : ∀ m, m < 61 → sa m = nI (T m)) (q : Nat) (hq : q < 61) :
    ∀ fu j x, j ≤ q + 1 → j < fu → q + 1 - w ≤ j → x = nI j + (-1) → lp_X9_within_4 (nI w) sa q fu x (nI (P (q + 1) - P j)) = nI (P (q + 1) - P (q + 1 - w)) := by
  intro fu
  induction fu with
  | zero => intro j x _ h; exact absurd h (Nat.not_lt_zero _)
  | succ fu ih =>
    intro j x hj hfu hwj hx
    rw [lp_X9_within_4]
    cases j with
    | zero =>
      have hx0 : x < 0 := by rw [hx]; decide
      rw [if_pos hx0, show q + 1 - w = 0 by omega]
    | succ j =>
      rw [pk_m1] at hx
      subst hx
      rw [if_neg (nI_pos (by omega))]
      by_cases d : j + w ≤ q
      · rw [if_pos ((zlew (by omega) (by omega) (by omega)).mpr d), show q + 1 - w = j + 1 by omega]
      · rw [if_neg (fun h => d ((zlew (by omega) (by omega) (by omega)).mp h)), nI_clamp (by omega), hs j (by omega), nI_add]
        have h1 := hPT j
        have h2 := hmo (j + 1) (q + 1) hj
        rw [show P (q + 1) - P (j + 1) + T j = P (q + 1) - P j by omega]
        exact ih j _ (by omega) (by omega) (by omega) rfl
theorem zwith0 (P T : Nat → Nat) (sa : Nat → Int32) (w : Nat) (hw : 1 ≤ w ∧ w ≤ 20) (hmo : ∀ a b, a ≤ b → P a ≤ P b) (hPT : ∀ m, P (m + 1) = P m + T m) (hs : ∀ m, m < 61 → sa m = nI (T m)) (q : Nat) (hq : q < 61) : lp_X9_within_4 (nI w) sa q (q + 2) (nI q) 0 = nI (P (q + 1) - P (q + 1 - w)) := by
  have := zwith P T sa w hw hmo hPT hs q hq (q + 2) (q + 1) (nI q) (Nat.le_refl _) (by omega) (by omega) (pk_m1 q).symm
  rw [Nat.sub_self] at this
  exact this
theorem zisd1 (dbt win : Int32) (sa : Nat → Int32) : ∀ fu k, lp_X9_isDoubted_4 dbt win sa fu k 1 = 1 := by
  intro fu
  induction fu with
  | zero => intro k; rfl
  | succ fu ih =>
    intro k
    rw [lp_X9_isDoubted_4]
    by_cases c : (61 : Int32) ≤ nI k
    · rw [if_pos c]
    · rw [if_neg c, if_neg (by decide)]; exact ih (k + 1)
theorem zisd (P T : Nat → Nat) (sa : Nat → Int32) (w dn : Nat) (hw : 1 ≤ w ∧ w ≤ 20) (hd : dn < 100) (hmo : ∀ a b, a ≤ b → P a ≤ P b) (h24 : P 61 ≤ 24) (hPT : ∀ m, P (m + 1) = P m + T m) (hs : ∀ m, m < 61 → sa m = nI (T m)) :
    ∀ fu k, k ≤ 61 → 61 - k < fu → (lp_X9_isDoubted_4 (nI dn) (nI w) sa fu k 0 = 0 ↔ ∀ m, k ≤ m → m < 61 → T m = 0 ∨ P (m + 1) - P (m + 1 - w) ≤ dn) := by
  intro fu
  induction fu with
  | zero => intro k _ h; exact absurd h (Nat.not_lt_zero _)
  | succ fu ih =>
    intro k hk hfu
    rw [lp_X9_isDoubted_4]
    by_cases c : (61 : Int32) ≤ nI k
    · have := zNle (a := 61) c (by omega) (by omega)
      rw [if_pos c]
      exact ⟨fun _ m h1 h2 => by omega, fun _ => rfl⟩
    · have hk61 := zNnle (a := 61) (b := k) c (by omega) (by omega)
      have hi := ih (k + 1) (by omega) (by omega)
      have hP := hmo (k + 1) 61 (by omega)
      have hT := hPT k
      rw [if_neg c, if_pos rfl, hs k hk61, zwith0 P T sa w hw hmo hPT hs k hk61]
      by_cases d : T k = 0
      · rw [if_pos (by rw [d]; decide), hi]
        refine ⟨fun h m h1 h2 => ?_, fun h m h1 h2 => h m (by omega) h2⟩
        by_cases e : m = k
        · subst e; exact Or.inl d
        · exact h m (by omega) h2
      · rw [if_neg (fun h => d (by have := zNle (b := 0) h (by omega) (by omega); omega))]
        by_cases e : P (k + 1) - P (k + 1 - w) ≤ dn
        · rw [if_pos ((nI_leI (by omega) (by omega)).mpr e), hi]
          refine ⟨fun h m h1 h2 => ?_, fun h m h1 h2 => h m (by omega) h2⟩
          by_cases e2 : m = k
          · subst e2; exact Or.inr e
          · exact h m (by omega) h2
        · rw [if_neg (fun h => e (zNle h (by omega) (by omega))), zisd1]
          refine ⟨fun h => absurd h (by decide), fun h => ?_⟩
          rcases h k (Nat.le_refl _) hk61 with h | h
          · exact absurd h d
          · exact absurd h e
