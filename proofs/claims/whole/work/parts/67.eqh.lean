/-! sums without overflow -/
theorem zaddI {a b : Int32} (h1 : -2147483648 ≤ a.toInt + b.toInt) (h2 : a.toInt + b.toInt < 2147483648) : (a + b).toInt = a.toInt + b.toInt := by
  rw [Int32.toInt_add, Int.bmod_def]
  split <;> omega
theorem zsubI {a b : Int32} (h1 : -2147483648 ≤ a.toInt - b.toInt) (h2 : a.toInt - b.toInt < 2147483648) : (a - b).toInt = a.toInt - b.toInt := by
  rw [Int32.toInt_sub, Int.bmod_def]
  split <;> omega
/-- how far off: the class's way is the model's -/
theorem zap {a b : Int32} (ha : -100000 ≤ a.toInt ∧ a.toInt ≤ 100000) (hb : -100000 ≤ b.toInt ∧ b.toInt ≤ 100000) : ((if 0 ≤ a - b then a - b else 0 - (a - b)) : Int32) = s_X9_apart a b := by
  unfold s_X9_apart
  have h0 : (0 : Int32).toInt = 0 := by decide
  have h1 : (a - b).toInt = a.toInt - b.toInt := zsubI (by omega) (by omega)
  have h2 : (b - a).toInt = b.toInt - a.toInt := zsubI (by omega) (by omega)
  have h3 : (0 - (a - b)).toInt = b.toInt - a.toInt := by rw [zsubI (by omega) (by omega), h0, h1]; omega
  by_cases c : a ≤ b
  · rw [if_pos c]
    by_cases d : 0 ≤ a - b
    · rw [if_pos d]
      rw [Int32.le_iff_toInt_le] at c d
      exact Int32.toInt_inj.mp (by rw [h1, h2]; omega)
    · rw [if_neg d]
      exact Int32.toInt_inj.mp (by rw [h3, h2])
  · rw [if_neg c, if_pos]
    rw [Int32.le_iff_toInt_le] at c ⊢
    omega
theorem zap_le {a b : Int32} {B : Int} (ha : -B ≤ a.toInt ∧ a.toInt ≤ B) (hb : -600 ≤ b.toInt ∧ b.toInt ≤ 600) (hB : B ≤ 90000) : 0 ≤ (s_X9_apart a b).toInt ∧ (s_X9_apart a b).toInt ≤ B + 600 := by
  unfold s_X9_apart
  by_cases c : a ≤ b
  · rw [if_pos c, zsubI (by omega) (by omega)]
    rw [Int32.le_iff_toInt_le] at c
    omega
  · rw [if_neg c, zsubI (by omega) (by omega)]
    rw [Int32.le_iff_toInt_le] at c
    omega
/-- winds are from -9 to 9 -/
def zwb (f : Nat → Int32) : Prop := ∀ j, j < 5 → -9 ≤ (f j).toInt ∧ (f j).toInt ≤ 9
theorem zdrb {tu stp mn g ab : Int32} {ea la we : Nat → Int32} (hst : 1 ≤ stp) (he : zwb ea) (hl : zwb la) : -9 ≤ ((if tu ≤ mn then la (s_X9_height stp g ab we).toNatClampNeg else ea (s_X9_height stp g ab we).toNatClampNeg) : Int32).toInt ∧ ((if tu ≤ mn then la (s_X9_height stp g ab we).toNatClampNeg else ea (s_X9_height stp g ab we).toNatClampNeg) : Int32).toInt ≤ 9 := by
  have hv := zhgt stp g ab we hst
  have hj : (s_X9_height stp g ab we).toNatClampNeg < 5 := Nat.not_le.mp (fun h => hv (Or.inr h))
  by_cases c : tu ≤ mn
  · rw [if_pos c]; exact hl _ hj
  · rw [if_neg c]; exact he _ hj
/-- some minutes with all that is aboard -/
theorem zgo (tu ga lk stp dbt win : Int32) (ea la we : Nat → Int32) {s : Nat} (hs : s < 64) (hst : 1 ≤ stp) (hlk : 0 ≤ lk) (he : zwb ea) (hl : zwb la) : ∀ (q k : Nat) (pl g mn : Int32) (B : Int), 0 ≤ g → -B ≤ pl.toInt ∧ pl.toInt ≤ B → B + 9 * (k : Int) ≤ 90000 → k < 2 ^ 31 →
    ∃ (pl' mn' g' : Int32), lp_X9_goMinutes_7 tu lk stp (nI s) ea la we q k pl mn g = (pl', mn', g') ∧ lp_X8_offWith_28 (nmF tu ga lk stp dbt win) (wdF ea la) we (nI s) q k pl g mn = (pl', g', mn') ∧ -(B + 9 * (k : Int)) ≤ pl'.toInt ∧ pl'.toInt ≤ B + 9 * (k : Int) := by
  intro q
  induction q with
  | zero => intro k pl g mn B _ hp _ _; exact ⟨pl, mn, g, rfl, rfl, by omega, by omega⟩
  | succ q ih =>
    intro k pl g mn B hg hp hB hk
    rw [lp_X9_goMinutes_7, lp_X8_offWith_28]
    by_cases c : nI k ≤ 0
    · rw [if_pos c, if_pos c]; exact ⟨pl, mn, g, rfl, rfl, by omega, by omega⟩
    · rw [if_neg c, if_neg c]
      have hk0 := zNnle (a := k) (b := 0) c hk (by decide)
      rw [zdr tu ga lk stp dbt win ea la we hs hst, zn2, zgs hg hlk]
      have hb := zdrb (tu := tu) (mn := mn) (g := g) (ab := nI s) (we := we) hst he hl
      generalize ((if tu ≤ mn then la (s_X9_height stp g (nI s) we).toNatClampNeg else ea (s_X9_height stp g (nI s) we).toNatClampNeg) : Int32) = d at hb ⊢
      have hadd : (pl + d).toInt = pl.toInt + d.toInt := zaddI (by omega) (by omega)
      obtain ⟨pl', mn', g', e1, e2, b1, b2⟩ := ih (k - 1) (pl + d) ((if g ≤ lk then 0 else g - lk) : Int32) (mn + 1) (B + 9) (zgs0 hg hlk) (by rw [hadd]; omega) (by omega) (by omega)
      exact ⟨pl', mn', g', e1, e2, by omega, by omega⟩
/-- off by a set and a wait -/
theorem zoff (pn : Nat) (tu ga lk stp dbt win : Int32) (ea la we pa : Nat → Int32) (goal wait : Int32) {s : Nat} (hpn : pn ≤ 60) (hs : s < 64) (hst : 1 ≤ stp) (hlk : 0 ≤ lk) (hga : 0 ≤ ga) (he : zwb ea) (hl : zwb la) (hgo : -600 ≤ goal.toInt ∧ goal.toInt ≤ 600) : s_X8_offWith (nmF tu ga lk stp dbt win) (wdF ea la) we pn pa goal (nI s) wait = s_X9_apart ((lp_X9_goMinutes_7 tu lk stp (nI s) ea la we (zct 46 pa pn + 1) (zct 46 pa pn) 0 wait ga).1) goal ∧ (s_X9_apart ((lp_X9_goMinutes_7 tu lk stp (nI s) ea la we (zct 46 pa pn + 1) (zct 46 pa pn) 0 wait ga).1) goal).toInt ≤ 1140 := by
  have hz := zct_le 46 pa pn
  obtain ⟨pl', mn', g', e1, e2, b1, b2⟩ := zgo tu ga lk stp dbt win ea la we hs hst hlk he hl (zct 46 pa pn + 1) (zct 46 pa pn) 0 ga wait 0 hga (by decide) (by omega) (by omega)
  unfold s_X8_offWith
  rw [zn1, e1, e2]
  dsimp only
  refine ⟨zap (by omega) (by omega), ?_⟩
  have := zap_le (a := pl') (b := goal) (B := 540) (by omega) hgo (by omega)
  omega
theorem zsub64 : ∀ k, k < 64 → ∀ r, r < 64 → ((nI k &&& nI r = nI k) = (nI k &&& (nI r ^^^ (-1)) = 0)) := by
  have h : ∀ k, k < 64 → ∀ r, r < 64 → (nI k &&& nI r = nI k ↔ nI k &&& (nI r ^^^ (-1)) = 0) := by decide +kernel
  exact fun k hk r hr => propext (h k hk r hr)
theorem zwint {v : Int32} {a b : Int} {lo hi : Int32} (h : ¬ s_X8_within v lo hi = 0) (ha : lo.toInt = a) (hb : hi.toInt = b) : a ≤ v.toInt ∧ v.toInt ≤ b := by
  have h1 := zw_of h
  rw [Int32.le_iff_toInt_le, Int32.le_iff_toInt_le] at h1
  omega
theorem zref2 {pn : Nat} {we pa : Nat → Int32} (g w : Int32) : (if ((if g = 0 then 0 else (if w = 0 then 0 else 1)) : Int32) = 0 then (-2 : Int32) else s_X9_refusal pn we pa 60) = if g = 0 then -2 else (if w = 0 then -2 else s_X9_refusal pn we pa 60) := by
  by_cases a : g = 0
  · simp only [if_pos a, if_true]
  · by_cases b : w = 0
    · simp only [if_neg a, if_pos b, if_true]
    · simp only [if_neg a, if_neg b]
      rw [if_neg (by decide)]
/-- the two loops of take -/
theorem ztake (pn : Nat) (tu ga lk stp dbt win : Int32) (ea la we pa : Nat → Int32) (goal : Int32) (hpn : pn ≤ 60) (hst : 1 ≤ stp) (hlk : 0 ≤ lk) (hga : 0 ≤ ga) (he : zwb ea) (hl : zwb la) (hgo : -600 ≤ goal.toInt ∧ goal.toInt ≤ 600) : ∀ (q k : Nat) (x5 x4 a b c d a' b' c' d' : Int32), k ≤ 64 →
    (lp_X8_take_56 (nmF tu ga lk stp dbt win) (wdF ea la) we pn pa goal q k x5 x4 a b c d).1 = (lp_X9_take_46 pn tu ga lk stp ea la we pa goal q k x5 x4 a' b' c' d').1 ∧ (lp_X8_take_56 (nmF tu ga lk stp dbt win) (wdF ea la) we pn pa goal q k x5 x4 a b c d).2.1 = (lp_X9_take_46 pn tu ga lk stp ea la we pa goal q k x5 x4 a' b' c' d').2.1 := by
  obtain ⟨r, hr, er⟩ := zld0 we
  intro q
  induction q with
  | zero => intro k x5 x4 a b c d a' b' c' d' _; exact ⟨rfl, rfl⟩
  | succ q ih =>
    intro k x5 x4 a b c d a' b' c' d' hk
    rw [lp_X8_take_56, lp_X9_take_46]
    by_cases c0 : (64 : Int32) ≤ nI k
    · rw [if_pos c0, if_pos c0]; exact ⟨rfl, rfl⟩
    · rw [if_neg c0, if_neg c0]
      have hk64 := zNnle (a := 64) (b := k) c0 (by omega) (by omega)
      have ho := (zoff pn tu ga lk stp dbt win ea la we pa goal 0 hpn hk64 hst hlk hga he hl hgo).1
      simp only [zld we, er, zsub64 k hk64 r hr]
      by_cases e : nI k &&& (nI r ^^^ (-1)) = 0
      · simp only [if_pos e, ho]
        by_cases f : x5 ≤ s_X9_apart ((lp_X9_goMinutes_7 tu lk stp (nI k) ea la we (zct 46 pa pn + 1) (zct 46 pa pn) 0 0 ga).1) goal
        · simp only [if_pos f]; exact ih _ _ _ _ _ _ _ _ _ _ _ (by omega)
        · simp only [if_neg f]; exact ih _ _ _ _ _ _ _ _ _ _ _ (by omega)
      · simp only [if_neg e, if_pos (Int32.le_refl x5)]; exact ih _ _ _ _ _ _ _ _ _ _ _ (by omega)
