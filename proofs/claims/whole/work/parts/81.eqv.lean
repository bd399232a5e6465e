/-! the chart: how far each set drifts between two sneezes -/
def zG (ga lk : Int32) : Nat → Int32
  | 0 => ga
  | k + 1 => ((if zG ga lk k ≤ lk then 0 else zG ga lk k - lk) : Int32)
theorem zG0 {ga lk : Int32} (hga : 0 ≤ ga) (hlk : 0 ≤ lk) : ∀ k, 0 ≤ zG ga lk k := by
  intro k
  induction k with
  | zero => exact hga
  | succ k ih => rw [zG]; exact zgs0 ih hlk
/-- the drift of a set in a minute -/
def zDv (tu ga lk stp : Int32) (ea la we : Nat → Int32) (s k : Nat) : Int32 := ((if tu ≤ nI k then la (s_X9_height stp (zG ga lk k) (nI s) we).toNatClampNeg else ea (s_X9_height stp (zG ga lk k) (nI s) we).toNatClampNeg) : Int32)
/-- the drifts of a set between two sneezes, in the first n signs -/
def zQ (V : Nat → Nat → Int32) (sg : Nat → Int32) (leg s : Nat) : Nat → Int32
  | 0 => 0
  | n + 1 => zQ V sg leg s n + (if sg n = 46 ∧ zct 33 sg n = leg then V s (zct 46 sg n) else 0)
theorem zix (q s : Nat) : (nI q) * 64 + nI s = nI (q * 64 + s) := by
  show nI q * nI 64 + nI s = _
  rw [pk_mul, nI_add]
theorem zput {n k : Nat} {f : Nat → Int32} {v : Int32} (h : k < n) (hn : n < 2 ^ 31) : s_X8_put_f n f (nI k) v = upd f k v := by
  rw [zputv (vp_in_nI h hn) hn, nI_clamp (by omega)]
theorem zam (ns : Nat) (hns : ns ≤ 12) (nm wd wt : Nat → Int32) (gas mn : Int32) (dv : Nat → Int32) (hd : ∀ s, s < 64 → s_X8_cell 10 wd ((((if mn < s_X8_cell 6 nm 0 then 0 else 1) : Int32) * 5) + (s_X7_height nm wt gas (nI s))) = dv s) : ∀ (fu k : Nat) (f : Nat → Int32), k ≤ 64 → 64 - k < fu → ∀ i, lp_X2_addMinute_3 ns nm wd wt gas mn fu k f i = if ns * 64 + k ≤ i ∧ i < ns * 64 + 64 then f i + dv (i - ns * 64) else f i := by
  intro fu
  induction fu with
  | zero => intro k f _ h; exact absurd h (Nat.not_lt_zero _)
  | succ fu ih =>
    intro k f hk hfu i
    rw [lp_X2_addMinute_3]
    by_cases c : (64 : Int32) ≤ nI k
    · have := zNle (a := 64) c (by omega) (by omega)
      rw [if_pos c, if_neg (by omega)]
    · have hk64 := zNnle (a := 64) (b := k) c (by omega) (by omega)
      rw [if_neg c, zix, zput (by omega) (by decide), zcel (by omega) (by decide), hd k hk64, ih (k + 1) _ (by omega) (by omega) i]
      by_cases e : i = ns * 64 + k
      · subst e
        rw [if_neg (by omega), pk_us, if_pos (by omega), Nat.add_sub_cancel_left]
      · rw [pk_un e]
        by_cases d : ns * 64 + k ≤ i ∧ i < ns * 64 + 64
        · rw [if_pos (by omega), if_pos d]
        · rw [if_neg (by omega), if_neg d]
theorem zdr0 : ∀ (fu k : Nat) (f : Nat → Int32), k ≤ 832 → 832 - k < fu → (∀ i, i < k → f i = 0) → ∀ i, i < 832 → lp_X2_draw_2 fu k f i = 0 := by
  intro fu
  induction fu with
  | zero => intro k f _ h; exact absurd h (Nat.not_lt_zero _)
  | succ fu ih =>
    intro k f hk hfu hf i hi
    rw [lp_X2_draw_2]
    by_cases c : nI 832 ≤ nI k
    · have := zNle c (by omega) (by omega)
      rw [if_pos c]; exact hf i (by omega)
    · have hk8 := zNnle c (by omega) (by omega)
      rw [if_neg c]
      refine ih (k + 1) _ (by omega) (by omega) (fun j hj => ?_) i hi
      by_cases e : j = k
      · subst e; exact pk_us
      · rw [pk_un e]; exact hf j (by omega)
theorem zdraw (len : Nat) (sg : Nat → Int32) (tu ga lk stp dbt win : Int32) (ea la we : Nat → Int32) (hlen : len ≤ 60) (h12 : zct 33 sg len ≤ 12) (hst : 1 ≤ stp) (hlk : 0 ≤ lk) (hga : 0 ≤ ga) : ∀ (fu k mt q : Nat) (x : Int32) (f : Nat → Int32), k ≤ len → len - k < fu → mt = zct 46 sg k → q = zct 33 sg k → x = zG ga lk mt → (∀ leg s, leg ≤ 12 → s < 64 → f (leg * 64 + s) = zQ (zDv tu ga lk stp ea la we) sg leg s k) →
    (lp_X2_draw_41 (nmF tu ga lk stp dbt win) (wdF ea la) we len sg fu k mt q x f).1 = zct 33 sg len ∧ ∀ leg s, leg ≤ 12 → s < 64 → (lp_X2_draw_41 (nmF tu ga lk stp dbt win) (wdF ea la) we len sg fu k mt q x f).2 (leg * 64 + s) = zQ (zDv tu ga lk stp ea la we) sg leg s len := by
  intro fu
  induction fu with
  | zero => intro k mt q x f _ h; exact absurd h (Nat.not_lt_zero _)
  | succ fu ih =>
    intro k mt q x f hk hfu hmt hq hx hf
    rw [lp_X2_draw_41]
    by_cases c : nI len ≤ nI k
    · have := zNle c (by omega) (by omega)
      have hkl : k = len := by omega
      subst hkl
      rw [if_pos c]
      exact ⟨hq, hf⟩
    · have hkl := zNnle c (by omega) (by omega)
      have h33 : zct 33 sg (k + 1) ≤ 12 := Nat.le_trans (by have := zct_up 33 sg (len - (k + 1)) (k + 1); rw [show k + 1 + (len - (k + 1)) = len by omega] at this; exact this) h12
      rw [if_neg c, zcel (by omega) (by decide)]
      by_cases d : sg k = 46
      · have d3 : ¬ sg k = 33 := by rw [d]; decide
        rw [if_pos d, if_neg d3, zn2]
        have h33' : q ≤ 12 := by rw [zct, if_neg d3] at h33; omega
        refine ih (k + 1) (mt + 1) q _ _ (by omega) (by omega) (by rw [zct, if_pos d, hmt]) (by rw [zct, if_neg d3, hq]; rfl) ?_ ?_
        · rw [zG, hx, zgs (zG0 hga hlk mt) hlk]
        · intro leg s hl hs
          rw [zam q h33' _ _ _ x (nI mt) (fun s => zDv tu ga lk stp ea la we s mt) (fun s hs => by rw [zdr tu ga lk stp dbt win ea la we hs hst, hx]; rfl) 65 0 f (by omega) (by omega), zQ, hf leg s hl hs]
          by_cases e : zct 33 sg k = leg
          · rw [if_pos (by omega), if_pos ⟨d, e⟩, show leg * 64 + s - q * 64 = s by omega, hmt]
          · rw [if_neg (by omega), if_neg (fun h => e h.2), Int32.add_zero]
      · rw [if_neg d]
        have hf' : ∀ leg s, leg ≤ 12 → s < 64 → f (leg * 64 + s) = zQ (zDv tu ga lk stp ea la we) sg leg s (k + 1) := fun leg s hl hs => by
          rw [zQ, if_neg (fun h => d h.1), Int32.add_zero]; exact hf leg s hl hs
        by_cases d3 : sg k = 33
        · rw [if_pos d3]
          rw [zct, if_pos d3] at h33
          exact ih (k + 1) mt _ _ _ (by omega) (by omega) (by rw [zct, if_neg d, hmt]; rfl) (by rw [zct, if_pos d3]; omega) hx hf'
        · rw [if_neg d3]
          exact ih (k + 1) mt q _ _ (by omega) (by omega) (by rw [zct, if_neg d, hmt]; rfl) (by rw [zct, if_neg d3, hq]; rfl) hx hf'
theorem zdraw0 (len : Nat) (sg dr : Nat → Int32) (tu ga lk stp dbt win : Int32) (ea la we : Nat → Int32) (hlen : len ≤ 60) (h12 : zct 33 sg len ≤ 12) (hst : 1 ≤ stp) (hlk : 0 ≤ lk) (hga : 0 ≤ ga) :
    (lp_X2_draw_41 (nmF tu ga lk stp dbt win) (wdF ea la) we len sg (len + 1) 0 0 0 (s_X8_cell 6 (nmF tu ga lk stp dbt win) 1) (lp_X2_draw_2 833 0 dr)).1 = zct 33 sg len ∧ ∀ leg s, leg ≤ 12 → s < 64 → (lp_X2_draw_41 (nmF tu ga lk stp dbt win) (wdF ea la) we len sg (len + 1) 0 0 0 (s_X8_cell 6 (nmF tu ga lk stp dbt win) 1) (lp_X2_draw_2 833 0 dr)).2 (leg * 64 + s) = zQ (zDv tu ga lk stp ea la we) sg leg s len := by
  rw [zn1]
  exact zdraw len sg tu ga lk stp dbt win ea la we hlen h12 hst hlk hga (len + 1) 0 0 0 ga _ (Nat.zero_le _) (by omega) rfl rfl rfl (fun leg s hl hs => zdr0 833 0 dr (by omega) (by omega) (fun i hi => absurd hi (Nat.not_lt_zero _)) _ (by omega))
/-! a course by a row of sets -/
def zSm (f : Nat → Int32) : Nat → Int32
  | 0 => 0
  | n + 1 => zSm f n + f n
theorem zSm_add (f g : Nat → Int32) : ∀ n, zSm (fun i => f i + g i) n = zSm f n + zSm g n := by
  intro n
  induction n with
  | zero => rfl
  | succ n ih => rw [zSm, zSm, zSm, ih]; ac_rfl
theorem zSm_congr {f g : Nat → Int32} : ∀ n, (∀ i, i < n → f i = g i) → zSm f n = zSm g n := by
  intro n
  induction n with
  | zero => intro _; rfl
  | succ n ih => intro h; rw [zSm, zSm, ih (fun i hi => h i (by omega)), h n (by omega)]
theorem zSm_0 : ∀ n, zSm (fun _ => 0) n = 0 := by
  intro n
  induction n with
  | zero => rfl
  | succ n ih => rw [zSm, ih]; rfl
theorem zSm_one (L : Nat) (t : Int32) : ∀ n, zSm (fun i => if L = i then t else 0) n = if L < n then t else 0 := by
  intro n
  induction n with
  | zero => rw [zSm, if_neg (Nat.not_lt_zero _)]
  | succ n ih =>
    rw [zSm, ih]
    by_cases a : L < n
    · rw [if_pos a, if_neg (by omega), if_pos (by omega), Int32.add_zero]
    · by_cases b : L = n
      · rw [if_neg a, if_pos b, if_pos (by omega), Int32.zero_add]
      · rw [if_neg a, if_neg b, if_neg (by omega)]; rfl
def zCo (V : Nat → Nat → Int32) (sg : Nat → Int32) (a : Nat → Nat) : Nat → Int32
  | 0 => 0
  | n + 1 => zCo V sg a n + (if sg n = 46 then V (a (zct 33 sg n)) (zct 46 sg n) else 0)
theorem zLS (V : Nat → Nat → Int32) (sg : Nat → Int32) (a : Nat → Nat) (N : Nat) : ∀ n, zct 33 sg n < N → zCo V sg a n = zSm (fun leg => zQ V sg leg (a leg) n) N := by
  intro n
  induction n with
  | zero => intro _; exact (zSm_0 N).symm
  | succ n ih =>
    intro h
    have h0 : zct 33 sg n < N := by rw [zct] at h; omega
    rw [zCo, ih h0]
    have e : zSm (fun leg => zQ V sg leg (a leg) (n + 1)) N = zSm (fun leg => zQ V sg leg (a leg) n + (if zct 33 sg n = leg then (if sg n = 46 then V (a (zct 33 sg n)) (zct 46 sg n) else 0) else 0)) N := zSm_congr N (fun i _ => by
      rw [zQ]
      by_cases c : sg n = 46
      · by_cases d : zct 33 sg n = i
        · rw [if_pos ⟨c, d⟩, if_pos d, if_pos c, d]
        · rw [if_neg (fun h => d h.2), if_neg d]
      · rw [if_neg (fun h => c h.1), if_neg c, ite_self])
    rw [e, zSm_add, zSm_one, if_pos h0]
theorem zVb {tu ga lk stp : Int32} {ea la we : Nat → Int32} (hst : 1 ≤ stp) (he : zwb ea) (hl : zwb la) (s k : Nat) : -9 ≤ (zDv tu ga lk stp ea la we s k).toInt ∧ (zDv tu ga lk stp ea la we s k).toInt ≤ 9 := zdrb hst he hl
theorem zLb (V : Nat → Nat → Int32) (hV : ∀ s k, -9 ≤ (V s k).toInt ∧ (V s k).toInt ≤ 9) (sg : Nat → Int32) (a : Nat → Nat) : ∀ n : Nat, n ≤ 60 → -(9 * (n : Int)) ≤ (zCo V sg a n).toInt ∧ (zCo V sg a n).toInt ≤ 9 * (n : Int) := by
  intro n
  induction n with
  | zero => intro _; rw [zCo]; decide
  | succ n ih =>
    intro h
    have h1 := ih (by omega)
    rw [zCo]
    by_cases c : sg n = 46
    · have hv := hV (a (zct 33 sg n)) (zct 46 sg n)
      rw [if_pos c, zaddI (by omega) (by omega)]
      omega
    · rw [if_neg c, Int32.add_zero]
      omega
/-- the model's course -/
theorem zgoc (pn : Nat) (tu ga lk stp : Int32) (ea la we pa ta : Nat → Int32) (a : Nat → Nat) (hpn : pn ≤ 60) (hc : ∀ j, j < pn → pa j = 46 ∨ pa j = 33) (hta : ∀ q, q < zct 33 pa pn → s_X9_throwOut_abd (nI (a q)) ((if 6 ≤ ta q then (-6) else ta q) : Int32) = nI (a (q + 1))) :
    ∀ (fu k q : Nat) (pl mn g ab : Int32), k ≤ pn → pn - k < fu → q = zct 33 pa k → pl = zCo (zDv tu ga lk stp ea la we) pa a k → mn = nI (zct 46 pa k) → g = zG ga lk (zct 46 pa k) → ab = nI (a q) →
    lp_X9_goCourse_4 pn tu lk stp ea la we pa ta fu k q pl mn g ab = (zCo (zDv tu ga lk stp ea la we) pa a pn, nI (zct 46 pa pn), zG ga lk (zct 46 pa pn), nI (a (zct 33 pa pn))) := by
  intro fu
  induction fu with
  | zero => intro k q pl mn g ab _ h; exact absurd h (Nat.not_lt_zero _)
  | succ fu ih =>
    intro k q pl mn g ab hk hfu hq hpl hmn hg hab
    rw [lp_X9_goCourse_4]
    by_cases c : nI pn ≤ nI k
    · have := zNle c (by omega) (by omega)
      have hkl : k = pn := by omega
      subst hkl
      rw [if_pos c, hpl, hmn, hg, hab, hq]
    · have hkl := zNnle c (by omega) (by omega)
      rw [if_neg c]
      by_cases d : pa k = 46
      · have d3 : ¬ pa k = 33 := by rw [d]; decide
        rw [if_pos d]
        refine ih (k + 1) q _ _ _ _ (by omega) (by omega) (by rw [zct, if_neg d3, hq]; rfl) ?_ ?_ ?_ hab
        · rw [zCo, if_pos d, hpl, hmn, hg, hab, hq]; rfl
        · rw [zct, if_pos d, hmn, nI_1]
        · rw [zct, if_pos d, zG, hg]
      · have d3 : pa k = 33 := (hc k hkl).resolve_left d
        have hlt : zct 33 pa k < zct 33 pa pn := by
          have := zct_up 33 pa (pn - (k + 1)) (k + 1)
          rw [show k + 1 + (pn - (k + 1)) = pn by omega, zct, if_pos d3] at this
          omega
        rw [if_neg d]
        refine ih (k + 1) (q + 1) _ _ _ _ (by omega) (by omega) (by rw [zct, if_pos d3, hq]) ?_ ?_ ?_ ?_
        · rw [zCo, if_neg d, hpl, Int32.add_zero]
        · rw [zct, if_neg d, hmn]; rfl
        · rw [zct, if_neg d, hg]; rfl
        · rw [hab, hta q (by omega)]
