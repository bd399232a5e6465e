theorem zref0 (pn : Nat) (we pa : Nat → Int32) (most : Int32) : ¬ s_X9_refusal pn we pa most = 0 := by
  unfold s_X9_refusal
  by_cases a : lp_X9_fault_9 pn pa (pn + 1) 0 0 (lp_X9_loaded_4 we 7 0 0) < 0
  · rw [if_pos a]
    by_cases b : nI pn - nI (zct 46 pa pn) - nI (zct 33 pa pn) ≤ 0
    · rw [if_pos b]
      by_cases c : nI (zct 33 pa pn) ≤ most
      · rw [if_pos c]; decide
      · rw [if_neg c]; decide
    · rw [if_neg b]; decide
  · rw [if_neg a]; decide
/-- a course's frame: refused as the model refuses, else the answer -/
theorem zframe (pn : Nat) (we pa : Nat → Int32) (hpn : pn ≤ 60) (g w A B : Int32) (h : ¬ g = 0 → ¬ w = 0 → s_X9_refusal pn we pa 60 = -6 → A = B) :
    (if s_X8_courseRefusal we pn pa ((if g = 0 then 0 else (if w = 0 then 0 else 1)) : Int32) = 0 then A else s_X8_courseRefusal we pn pa ((if g = 0 then 0 else (if w = 0 then 0 else 1)) : Int32)) = (if g = 0 then -2 else (if w = 0 then -2 else (if s_X9_refusal pn we pa 60 = -6 then B else s_X9_refusal pn we pa 60))) := by
  rw [zcr pn we pa hpn]
  by_cases a : g = 0
  · simp only [if_pos a, if_true]; rw [if_neg (by decide)]
  · by_cases b : w = 0
    · simp only [if_neg a, if_pos b, if_true]; rw [if_neg (by decide)]
    · simp only [if_neg a, if_neg b, if_neg (show ¬ (1 : Int32) = 0 by decide)]
      by_cases c : s_X9_refusal pn we pa 60 = -6
      · simp only [if_pos c, if_true]; exact h a b c
      · simp only [if_neg c, if_neg (zref0 pn we pa 60)]
/-- promise 13 -/
theorem E_take (pn : Nat) (tu ga lk stp dbt win plc mnt lft abd : Int32) (ea la we pa : Nat → Int32) (goal what : Int32) (hpn : pn ≤ 60) (hst : 1 ≤ stp) (hlk : 0 ≤ lk) (hga : 0 ≤ ga) (he : zwb ea) (hl : zwb la) : s_X8_take (nmF tu ga lk stp dbt win) (wdF ea la) we pn pa goal what = s_X9_take pn tu ga lk stp plc mnt lft abd ea la we pa goal what := by
  unfold s_X8_take s_X9_take
  rw [zwi (a := goal) (lo := -600) (hi := 600) (l := -600) (h := 600) (by decide) (by decide), zwi (a := what) (lo := 0) (hi := 1) (l := 0) (h := 1) (by decide) (by decide)]
  refine zframe pn we pa hpn _ _ _ _ (fun h1 h2 h3 => ?_)
  have hgo := zwint (a := -600) (b := 600) h1 (by decide) (by decide)
  have ho := zoff pn tu ga lk stp dbt win ea la we pa goal 0 (s := 0) hpn (by decide) hst hlk hga he hl hgo
  have o1 : s_X8_offWith (nmF tu ga lk stp dbt win) (wdF ea la) we pn pa goal 0 0 = s_X9_apart ((lp_X9_goMinutes_7 tu lk stp (nI 0) ea la we (zct 46 pa pn + 1) (zct 46 pa pn) 0 0 ga).1) goal := ho.1
  have o2 : ¬ 100000 ≤ s_X9_apart ((lp_X9_goMinutes_7 tu lk stp (nI 0) ea la we (zct 46 pa pn + 1) (zct 46 pa pn) 0 0 ga).1) goal := fun q => by
    rw [Int32.le_iff_toInt_le, show (100000 : Int32).toInt = 100000 by decide] at q
    have := ho.2
    omega
  obtain ⟨r, hr, er⟩ := zld0 we
  have e0 : nI 0 &&& (nI r ^^^ (-1)) = 0 := by rw [← zsub64 0 (by decide) r hr]; exact (show ∀ r, r < 64 → nI 0 &&& nI r = nI 0 by decide +kernel) r hr
  have m0 : lp_X9_take_46 pn tu ga lk stp ea la we pa goal 65 0 100000 (-6) plc mnt lft abd = lp_X9_take_46 pn tu ga lk stp ea la we pa goal 64 1 (s_X9_apart ((lp_X9_goMinutes_7 tu lk stp (nI 0) ea la we (zct 46 pa pn + 1) (zct 46 pa pn) 0 0 ga).1) goal) 0 ((lp_X9_goMinutes_7 tu lk stp (nI 0) ea la we (zct 46 pa pn + 1) (zct 46 pa pn) 0 0 ga).1) ((lp_X9_goMinutes_7 tu lk stp (nI 0) ea la we (zct 46 pa pn + 1) (zct 46 pa pn) 0 0 ga).2.1) ((lp_X9_goMinutes_7 tu lk stp (nI 0) ea la we (zct 46 pa pn + 1) (zct 46 pa pn) 0 0 ga).2.2) (nI 0) := by
    rw [lp_X9_take_46, if_neg (by decide), er, if_pos e0, if_neg o2, if_neg o2]
    rfl
  rw [m0, o1]
  have ht := ztake pn tu ga lk stp dbt win ea la we pa goal hpn hst hlk hga he hl hgo 64 1 (s_X9_apart ((lp_X9_goMinutes_7 tu lk stp (nI 0) ea la we (zct 46 pa pn + 1) (zct 46 pa pn) 0 0 ga).1) goal) 0
  by_cases w : what = 0
  · rw [if_pos w, if_pos w]
    exact (ht _ _ _ _ _ _ _ _ (by decide)).2
  · rw [if_neg w, if_neg w]
    exact (ht _ _ _ _ _ _ _ _ (by decide)).1
/-- promise 14 -/
theorem zstay (pn : Nat) (tu ga lk stp dbt win : Int32) (ea la we pa : Nat → Int32) (goal : Int32) (hpn : pn ≤ 60) (hst : 1 ≤ stp) (hlk : 0 ≤ lk) (hga : 0 ≤ ga) (he : zwb ea) (hl : zwb la) (hgo : -600 ≤ goal.toInt ∧ goal.toInt ≤ 600) : ∀ (q k : Nat) (x5 x4 a b c a' b' c' d' : Int32), 
    (lp_X8_stay_57 (nmF tu ga lk stp dbt win) (wdF ea la) we pn pa goal q k x5 x4 a b c).1 = (lp_X9_stay_46 pn tu ga lk stp ea la we pa goal q k x5 x4 a' b' c' d').1 ∧ (lp_X8_stay_57 (nmF tu ga lk stp dbt win) (wdF ea la) we pn pa goal q k x5 x4 a b c).2.1 = (lp_X9_stay_46 pn tu ga lk stp ea la we pa goal q k x5 x4 a' b' c' d').2.1 := by
  obtain ⟨r, hr, er⟩ := zld0 we
  intro q
  induction q with
  | zero => intro k x5 x4 a b c a' b' c' d'; exact ⟨rfl, rfl⟩
  | succ q ih =>
    intro k x5 x4 a b c a' b' c' d'
    rw [lp_X8_stay_57, lp_X9_stay_46]
    by_cases c0 : (20 : Int32) < nI k
    · rw [if_pos c0, if_pos c0]; exact ⟨rfl, rfl⟩
    · rw [if_neg c0, if_neg c0]
      have ho := (zoff pn tu ga lk stp dbt win ea la we pa goal (nI k) hpn hr hst hlk hga he hl hgo).1
      simp only [zld we, er, ho]
      by_cases f : x5 ≤ s_X9_apart ((lp_X9_goMinutes_7 tu lk stp (nI r) ea la we (zct 46 pa pn + 1) (zct 46 pa pn) 0 (nI k) ga).1) goal
      · simp only [if_pos f]; exact ih _ _ _ _ _ _ _ _ _ _
      · simp only [if_neg f]; exact ih _ _ _ _ _ _ _ _ _ _
theorem E_stay (pn : Nat) (tu ga lk stp dbt win plc mnt lft abd : Int32) (ea la we pa : Nat → Int32) (goal what : Int32) (hpn : pn ≤ 60) (hst : 1 ≤ stp) (hlk : 0 ≤ lk) (hga : 0 ≤ ga) (he : zwb ea) (hl : zwb la) : s_X8_stay (nmF tu ga lk stp dbt win) (wdF ea la) we pn pa goal what = s_X9_stay pn tu ga lk stp plc mnt lft abd ea la we pa goal what := by
  unfold s_X8_stay s_X9_stay
  rw [zwi (a := goal) (lo := -600) (hi := 600) (l := -600) (h := 600) (by decide) (by decide), zwi (a := what) (lo := 0) (hi := 1) (l := 0) (h := 1) (by decide) (by decide)]
  refine zframe pn we pa hpn _ _ _ _ (fun h1 h2 h3 => ?_)
  have hgo := zwint (a := -600) (b := 600) h1 (by decide) (by decide)
  obtain ⟨r, hr, er⟩ := zld0 we
  have ho := zoff pn tu ga lk stp dbt win ea la we pa goal 0 hpn hr hst hlk hga he hl hgo
  have o1 : s_X8_offWith (nmF tu ga lk stp dbt win) (wdF ea la) we pn pa goal (lp_X7_loaded_4 we 7 0 0) 0 = s_X9_apart ((lp_X9_goMinutes_7 tu lk stp (lp_X9_loaded_4 we 7 0 0) ea la we (zct 46 pa pn + 1) (zct 46 pa pn) 0 (nI 0) ga).1) goal := by rw [zld we, er]; exact ho.1
  have o2 : ¬ 100000 ≤ s_X9_apart ((lp_X9_goMinutes_7 tu lk stp (lp_X9_loaded_4 we 7 0 0) ea la we (zct 46 pa pn + 1) (zct 46 pa pn) 0 (nI 0) ga).1) goal := fun q => by
    rw [er, Int32.le_iff_toInt_le, show (100000 : Int32).toInt = 100000 by decide] at q
    have h2 : (s_X9_apart ((lp_X9_goMinutes_7 tu lk stp (nI r) ea la we (zct 46 pa pn + 1) (zct 46 pa pn) 0 (nI 0) ga).1) goal).toInt ≤ 1140 := ho.2
    omega
  have m0 : lp_X9_stay_46 pn tu ga lk stp ea la we pa goal 22 0 100000 (-6) plc mnt lft abd = lp_X9_stay_46 pn tu ga lk stp ea la we pa goal 21 1 (s_X9_apart ((lp_X9_goMinutes_7 tu lk stp (lp_X9_loaded_4 we 7 0 0) ea la we (zct 46 pa pn + 1) (zct 46 pa pn) 0 (nI 0) ga).1) goal) 0 ((lp_X9_goMinutes_7 tu lk stp (lp_X9_loaded_4 we 7 0 0) ea la we (zct 46 pa pn + 1) (zct 46 pa pn) 0 (nI 0) ga).1) ((lp_X9_goMinutes_7 tu lk stp (lp_X9_loaded_4 we 7 0 0) ea la we (zct 46 pa pn + 1) (zct 46 pa pn) 0 (nI 0) ga).2.1) ((lp_X9_goMinutes_7 tu lk stp (lp_X9_loaded_4 we 7 0 0) ea la we (zct 46 pa pn + 1) (zct 46 pa pn) 0 (nI 0) ga).2.2) (lp_X9_loaded_4 we 7 0 0) := by
    rw [lp_X9_stay_46, if_neg (by decide), if_neg o2, if_neg o2]
    rfl
  rw [m0, o1]
  have ht := zstay pn tu ga lk stp dbt win ea la we pa goal hpn hst hlk hga he hl hgo 21 1 (s_X9_apart ((lp_X9_goMinutes_7 tu lk stp (lp_X9_loaded_4 we 7 0 0) ea la we (zct 46 pa pn + 1) (zct 46 pa pn) 0 (nI 0) ga).1) goal) 0
  by_cases w : what = 0
  · rw [if_pos w, if_pos w]
    exact (ht _ _ _ _ _ _ _).2
  · rw [if_neg w, if_neg w]
    exact (ht _ _ _ _ _ _ _).1
