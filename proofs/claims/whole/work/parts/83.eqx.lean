/-! field: the class's search is the model's count -/
theorem zthq : ∀ t, t < 7 → ∀ s, s < 64 → s_X9_throwOut_abd (nI s) ((if 6 ≤ nI t then (-6) else nI t) : Int32) = nI (zcl s t) := by decide +kernel
def zfst (r n pn : Nat) (V : Nat → Nat → Int32) (pa : Nat → Int32) (fr to : Int32) (num : Nat) (x : Int32) : Int32 := if zvb r (zdg n num) n = true then (if s_X8_within (zCo V pa (zaq r (zdg n num)) pn) fr to = 0 then x + 0 else x + 1) else x
/-- one number: the model's row and its course -/
theorem zone (pn : Nat) (tu ga lk stp : Int32) (ea la we pa f8 : Nat → Int32) (num : Nat) {r : Nat} (hpn : pn ≤ 60) (hr : r < 64) (hb : ∀ u, u < 6 → r.testBit u = decide (0 < we u)) (hc : ∀ j, j < pn → pa j = 46 ∨ pa j = 33) :
    lp_X9_goCourse_4 pn tu lk stp ea la we pa ((lp_X9_layThrows_13 we ((zct 33 pa pn) + 1) num ((nI (zct 33 pa pn)) - 1) 1 0 f8).2) (pn + 1) 0 0 0 0 ga (nI r) = (zCo (zDv tu ga lk stp ea la we) pa (zaq r (zdg (zct 33 pa pn) num)) pn, nI (zct 46 pa pn), zG ga lk (zct 46 pa pn), nI (zaq r (zdg (zct 33 pa pn) num) (zct 33 pa pn))) := by
  have hz := zct_le 33 pa pn
  have hl := zlay0 we hr hb (zct 33 pa pn) num f8 (by omega)
  exact zgoc pn tu ga lk stp ea la we pa _ (zaq r (zdg (zct 33 pa pn) num)) hpn hc (fun q hq => by rw [hl.1 q, if_pos hq]; exact zthq _ (zdg_lt _ _ _) _ (zaq_lt hr _ _)) (pn + 1) 0 0 0 0 ga (nI r) (Nat.zero_le _) (by omega) rfl rfl rfl rfl rfl
theorem zfloop (pn : Nat) (tu ga lk stp : Int32) (ea la we pa : Nat → Int32) (fr to : Int32) {r : Nat} (hpn : pn ≤ 60) (hr : r < 64) (hb : ∀ u, u < 6 → r.testBit u = decide (0 < we u)) (er : lp_X9_loaded_4 we 7 0 0 = nI r) (hc : ∀ j, j < pn → pa j = 46 ∨ pa j = 33) (hn : zct 33 pa pn ≤ 6) :
    ∀ (m num fu : Nat) (x a b c d : Int32) (f8 : Nat → Int32), num + m = 7 ^ (zct 33 pa pn) → m < fu → (lp_X9_field_40 pn tu ga lk stp ea la we pa fr to fu num x a b c d f8).1 = zfo (zfst r (zct 33 pa pn) pn (zDv tu ga lk stp ea la we) pa fr to) m num x := by
  have h7 := zpow7 hn
  intro m
  induction m with
  | zero =>
    intro num fu x a b c d f8 hm hfu
    obtain ⟨fu, rfl⟩ : ∃ k, fu = k + 1 := ⟨fu - 1, by omega⟩
    rw [lp_X9_field_40, if_pos (by rw [show num = 7 ^ (zct 33 pa pn) by omega]; exact Int32.le_refl _)]
    rfl
  | succ m ih =>
    intro num fu x a b c d f8 hm hfu
    obtain ⟨fu, rfl⟩ : ∃ k, fu = k + 1 := ⟨fu - 1, by omega⟩
    have hl := zlay0 we hr hb (zct 33 pa pn) num f8 (by omega)
    rw [lp_X9_field_40, if_neg (fun h => absurd (zNle h (by omega) (by omega)) (by omega)), zfo, zfst]
    by_cases v : zvb r (zdg (zct 33 pa pn) num) (zct 33 pa pn) = true
    · rw [if_neg (fun h => by rw [hl.2.mp h] at v; cases v), if_pos v, er, zone pn tu ga lk stp ea la we pa f8 num hpn hr hb hc, zwi rfl rfl]
      by_cases w : s_X8_within (zCo (zDv tu ga lk stp ea la we) pa (zaq r (zdg (zct 33 pa pn) num)) pn) fr to = 0
      · rw [if_pos w, if_pos w]; exact ih (num + 1) fu _ _ _ _ _ _ (by omega) (by omega)
      · rw [if_neg w, if_neg w]; exact ih (num + 1) fu _ _ _ _ _ _ (by omega) (by omega)
    · rw [if_pos (hl.2.mpr (by simpa using v)), if_neg v]
      exact ih (num + 1) fu _ _ _ _ _ _ (by omega) (by omega)
theorem zup_same (d : Nat → Nat) (q t : Nat) : zup d q t q = t := if_pos rfl
theorem zup_else (d : Nat → Nat) {q t k : Nat} (h : ¬ k = q) : zup d q t k = d k := if_neg h
theorem zup_lt {d : Nat → Nat} {q t : Nat} (ht : t < 7) (hd : ∀ k, k < q → d k < 7) : ∀ k, k < q + 1 → zup d q t k < 7 := fun k hk => by
  by_cases e : k = q
  · rw [e, zup_same]; exact ht
  · rw [zup_else d e]; exact hd k (by omega)
theorem zup_cg (d : Nat → Nat) (q t : Nat) : ∀ k, k < q → zup d q t k = d k := fun k hk => zup_else d (by omega)
theorem zup_aq (r : Nat) (d : Nat → Nat) (q t : Nat) : zaq r (zup d q t) (q + 1) = zcl (zaq r d q) t := by
  rw [zaq, zaq_cg r q (zup_cg d q t), zup_same]
theorem zup_bn (d : Nat → Nat) (q t : Nat) : zbn (zup d q t) (q + 1) = 7 * zbn d q + t := by
  rw [zbn, zbn_cg q (zup_cg d q t), zup_same]
theorem zup_vb (r : Nat) (d : Nat → Nat) (q t : Nat) : zvb r (zup d q t) (q + 1) = (zvb r d q && (t == 6 || (zaq r d q).testBit t)) := by
  rw [zvb, zvb_cg r q (zup_cg d q t), zaq_cg r q (zup_cg d q t), zup_same]
theorem zup_sm (W : Nat → Nat → Int32) (r : Nat) (d : Nat → Nat) (q t : Nat) : zSm (fun leg => W leg (zaq r (zup d q t) leg)) (q + 1) = zSm (fun leg => W leg (zaq r d leg)) q + W q (zaq r d q) := by
  rw [zSm, zaq_cg r q (zup_cg d q t)]
  congr 1
  exact zSm_congr q (fun i hi => by rw [zaq_cg r i (fun k hk => zup_cg d q t k (by omega))])
/-- a block whose prefix can't be thrown -/
theorem zvb_blk {r : Nat} {d : Nat → Nat} {q j i : Nat} (hd : ∀ k, k < q → d k < 7) (h1 : zbn d q * 7 ^ j ≤ i) (h2 : i < zbn d q * 7 ^ j + 7 ^ j) (hv : zvb r d q = false) : ¬ zvb r (zdg (q + j) i) (q + j) = true := by
  intro h
  have := zvb_mono r (zdg (q + j) i) q j h
  rw [zvb_cg r q (zdg_blk d q j i hd h1 (by rw [Nat.add_mul, Nat.one_mul]; exact h2)), hv] at this
  cases this
theorem zcd {q : Nat} {dr : Nat → Int32} {W : Nat → Nat → Int32} (hdr : ∀ leg s, leg ≤ 12 → s < 64 → dr (leg * 64 + s) = W leg s) {s : Nat} (hq : q ≤ 12) (hs : s < 64) : s_X8_cell 832 dr (((nI q) * 64) + nI s) = W q s := by
  rw [zix, zcel (by omega) (by decide), hdr q s hq hs]
theorem zways61 (wf : Nat → Int32 → Int32 → Int32) (dr : Nat → Int32) (W : Nat → Nat → Int32) (hdr : ∀ leg s, leg ≤ 12 → s < 64 → dr (leg * 64 + s) = W leg s) (q ab : Nat) (pl : Int32) (hq : q ≤ 12) (hab : ab < 64) (vt : Nat → Int32) (hvt : ∀ t, t < 6 → vt t = if ab.testBit t then wf (q + 1) (nI (zcl ab t)) (pl + W q ab) else 0) :
    ∀ (fu k : Nat) (y : Int32), k ≤ 6 → 6 - k < fu → lp_X8_ways_61 wf dr q (nI ab) pl fu k (y + zSm vt k) = y + zSm vt 6 := by
  intro fu
  induction fu with
  | zero => intro k y _ h; exact absurd h (Nat.not_lt_zero _)
  | succ fu ih =>
    intro k y hk hfu
    rw [lp_X8_ways_61]
    by_cases c : (6 : Int32) ≤ nI k
    · have := zNle (a := 6) c (by omega) (by omega)
      rw [if_pos c, show k = 6 by omega]
    · have hk6 := zNnle (a := 6) (b := k) c (by omega) (by omega)
      have hi := ih (k + 1) y (by omega) (by omega)
      rw [zSm, hvt k hk6] at hi
      rw [if_neg c, zb_has hk6 hab, zb_wo hk6 hab, zcd hdr hq hab]
      by_cases d : ab.testBit k = true
      · rw [if_pos d] at hi ⊢
        rw [if_neg (by decide), Int32.add_assoc]
        exact hi
      · rw [if_neg d] at hi ⊢
        rw [Int32.add_zero] at hi
        rw [if_pos rfl]
        exact hi
theorem zsimf (ns pn : Nat) (V : Nat → Nat → Int32) (pa dr : Nat → Int32) (fr to : Int32) {r : Nat} (hr : r < 64) (hns : ns ≤ 6) (h33 : ns = zct 33 pa pn) (hdr : ∀ leg s, leg ≤ 12 → s < 64 → dr (leg * 64 + s) = zQ V pa leg s pn) :
    ∀ (j q : Nat) (d : Nat → Nat) (x : Int32), q + j = ns → (∀ k, k < q → d k < 7) → zvb r d q = true →
      zfo (zfst r ns pn V pa fr to) (7 ^ j) (zbn d q * 7 ^ j) x = x + s_X8_ways ns dr fr to (7 - q) q (nI (zaq r d q)) (zSm (fun leg => zQ V pa leg (zaq r d leg) pn) q) := by
  intro j
  induction j with
  | zero =>
    intro q d x hq hd hv
    have hqn : q = ns := by omega
    have hdig := zdg_blk d q 0 (zbn d q * 7 ^ 0) hd (Nat.le_refl _) (by rw [Nat.add_mul]; exact Nat.lt_add_of_pos_right (by decide))
    rw [Nat.add_zero] at hdig
    rw [← hqn, Nat.pow_zero, zfo, zfo, zfst]
    rw [Nat.pow_zero] at hdig
    rw [zvb_cg r q hdig, if_pos hv, zLS V pa _ (q + 1) pn (by omega), zSm_congr (g := fun leg => zQ V pa leg (zaq r d leg) pn) (q + 1) (fun i hi => by rw [zaq_cg r i (fun k hk => hdig k (by omega))]), zSm]
    rw [show 7 - q = (6 - q) + 1 by omega, s_X8_ways, if_pos (Int32.le_refl _), zcd hdr (by omega) (zaq_lt hr d q)]
    by_cases w : s_X8_within (zSm (fun leg => zQ V pa leg (zaq r d leg) pn) q + zQ V pa q (zaq r d q) pn) fr to = 0
    · rw [if_pos w, if_pos w]
    · rw [if_neg w, if_neg w]
  | succ j ih =>
    intro q d x hq hd hv
    have hab := zaq_lt hr d q
    rw [show 7 - q = (6 - q) + 1 by omega, s_X8_ways, if_neg (fun h => absurd (zNle h (by omega) (by omega)) (by omega)), if_pos (show nI q < 6 from (nI_ltI (b := 6) (by omega) (by omega)).mpr (by omega)), zcd hdr (by omega) hab]
    generalize hwf : s_X8_ways ns dr fr to (6 - q) = wf
    generalize hab2 : zaq r d q = ab at hab
    generalize hpl : zSm (fun leg => zQ V pa leg (zaq r d leg) pn) q = pl
    let vt : Nat → Int32 := fun t => if (t == 6 || ab.testBit t) = true then wf (q + 1) (nI (zcl ab t)) (pl + zQ V pa q ab pn) else 0
    have hblk : ∀ t, t < 7 → ∀ y, zfo (zfst r ns pn V pa fr to) (7 ^ j) ((7 * zbn d q + t) * 7 ^ j) y = y + vt t := by
      intro t ht y
      have hd' := zup_lt (d := d) (q := q) ht hd
      have hvb := zup_vb r d q t
      rw [hv, Bool.true_and, hab2] at hvb
      rw [← zup_bn]
      by_cases c : (t == 6 || ab.testBit t) = true
      · rw [c] at hvb
        have h := ih (q + 1) (zup d q t) y (by omega) hd' hvb
        rw [zup_aq, zup_sm (fun leg s => zQ V pa leg s pn), hab2, hpl, show 7 - (q + 1) = 6 - q by omega, hwf] at h
        rw [h]
        show y + _ = y + (if (t == 6 || ab.testBit t) = true then wf (q + 1) (nI (zcl ab t)) (pl + zQ V pa q ab pn) else 0)
        rw [if_pos c]
      · have hf : zvb r (zup d q t) (q + 1) = false := by rw [hvb]; simpa using c
        rw [zfo_id _ _ _ _ (fun i h1 h2 z => by
          rw [zfst, if_neg]
          have := zvb_blk (j := j) hd' h1 h2 hf
          rw [show q + 1 + j = ns by omega] at this
          exact this)]
        show y = y + (if (t == 6 || ab.testBit t) = true then wf (q + 1) (nI (zcl ab t)) (pl + zQ V pa q ab pn) else 0)
        rw [if_neg c, Int32.add_zero]
    have hm : ∀ m, m ≤ 7 → zfo (zfst r ns pn V pa fr to) (m * 7 ^ j) (7 * zbn d q * 7 ^ j) x = x + zSm vt m := by
      intro m
      induction m with
      | zero => intro _; rw [Nat.zero_mul, zfo, zSm, Int32.add_zero]
      | succ m ihm =>
        intro h
        rw [Nat.add_mul, Nat.one_mul, zfo_add, ihm (by omega), ← Nat.add_mul, hblk m (by omega), zSm, Int32.add_assoc]
    have h7 := hm 7 (Nat.le_refl _)
    rw [show 7 ^ (j + 1) = 7 * 7 ^ j by rw [Nat.pow_succ, Nat.mul_comm], show zbn d q * (7 * 7 ^ j) = 7 * zbn d q * 7 ^ j by rw [← Nat.mul_assoc, Nat.mul_comm (zbn d q) 7], h7]
    have h61 := zways61 wf dr (fun leg s => zQ V pa leg s pn) hdr q ab pl (by omega) hab vt (fun t ht => by
      show (if (t == 6 || ab.testBit t) = true then wf (q + 1) (nI (zcl ab t)) (pl + zQ V pa q ab pn) else 0) = _
      rw [show (t == 6) = false from beq_eq_false_iff_ne.mpr (by omega), Bool.false_or]) 7 0 (vt 6) (by omega) (by omega)
    rw [zSm, Int32.add_zero] at h61
    have hv6 : vt 6 = wf (q + 1) (nI ab) (pl + zQ V pa q ab pn) := by
      show (if (6 == 6 || ab.testBit 6) = true then wf (q + 1) (nI (zcl ab 6)) (pl + zQ V pa q ab pn) else 0) = _
      rw [show ((6 : Nat) == 6 || ab.testBit 6) = true from rfl, if_pos rfl, zcl6 ab hab]
    rw [← hv6, h61, zSm, Int32.add_comm (zSm vt 6)]
/-- the refusal of a choice -/
theorem zch (pn : Nat) (we pa : Nat → Int32) (hpn : pn ≤ 60) (inside : Int32) : s_X8_choiceRefusal we pn pa inside = if inside = 0 then -2 else (if s_X9_refusal pn we pa 6 = -6 then 0 else s_X9_refusal pn we pa 6) := by
  have hz := zct_le 33 pa pn
  unfold s_X8_choiceRefusal
  rw [zcr pn we pa hpn]
  by_cases i : inside = 0
  · rw [if_pos i, if_pos i, if_neg (by decide)]
  · rw [if_neg i, if_neg i]
    unfold s_X9_refusal
    have h60 : nI (zct 33 pa pn) ≤ 60 := (nI_leI (b := 60) (by omega) (by omega)).mpr (by omega)
    rw [if_pos h60]
    by_cases a : lp_X9_fault_9 pn pa (pn + 1) 0 0 (lp_X9_loaded_4 we 7 0 0) < 0
    · rw [if_pos a, if_pos a]
      by_cases b : nI pn - nI (zct 46 pa pn) - nI (zct 33 pa pn) ≤ 0
      · rw [if_pos b, if_pos b, if_pos rfl, if_pos rfl]
        by_cases c : nI (zct 33 pa pn) ≤ 6
        · rw [if_pos c, if_pos c, if_pos rfl]
        · rw [if_neg c, if_neg c, if_neg (by decide)]
      · rw [if_neg b, if_neg b, if_neg (by decide), if_neg (by decide)]
    · rw [if_neg a, if_neg a, if_neg (by decide), if_neg (by decide)]
theorem zspan (fr to : Int32) : s_X8_isStretch fr to = s_X9_isSpan fr to := by
  unfold s_X8_isStretch s_X9_isSpan
  rw [zwi (a := fr) (lo := -600) (hi := 600) (l := -600) (h := 600) (by decide) (by decide), zwi (a := to) (lo := fr) (hi := 600) (h := 600) rfl (by decide)]
  by_cases a : s_X8_within fr (-600) 600 = 0
  · rw [if_pos a, if_pos a]
  · rw [if_neg a, if_neg a]
    have h1 := zw_of a
    unfold s_X8_within
    by_cases b : to < fr
    · rw [if_pos b, if_pos b, if_pos rfl, ite_self]
    · rw [if_neg b, if_neg b]
      have h2 : ¬ to < -600 := fun h => b (Int32.lt_of_lt_of_le h h1.1)
      rw [if_neg h2]
theorem zcourse {pn : Nat} {pa : Nat → Int32} (h : pn ≤ zct 46 pa pn + zct 33 pa pn) : ∀ j, j < pn → pa j = 46 ∨ pa j = 33 := (zall pa pn).2.mpr h
/-- promise 12 -/
theorem E_field (pn : Nat) (tu ga lk stp dbt win plc mnt lft abd : Int32) (ea la we pa ta dr : Nat → Int32) (fr to : Int32) (hpn : pn ≤ 60) (hst : 1 ≤ stp) (hlk : 0 ≤ lk) (hga : 0 ≤ ga) : s_X8_field (nmF tu ga lk stp dbt win) (wdF ea la) we pn pa dr fr to = s_X9_field pn tu ga lk stp plc mnt lft abd ea la we pa ta fr to := by
  unfold s_X8_field s_X9_field
  rw [zch pn we pa hpn, zspan]
  by_cases i : s_X9_isSpan fr to = 0
  · rw [if_pos i, if_pos i, if_neg (by decide)]
  · rw [if_neg i, if_neg i]
    by_cases c : s_X9_refusal pn we pa 6 = -6
    · rw [if_pos c, if_pos c, if_pos rfl]
      have h6 := zref6 hpn c
      have hcs := zcourse (zref hpn c).2.1
      obtain ⟨r, hr, er, hb⟩ := zldb we
      obtain ⟨d1, d2⟩ := zdraw0 pn pa dr tu ga lk stp dbt win ea la we hpn (by omega) hst hlk hga
      generalize (lp_X2_draw_41 (nmF tu ga lk stp dbt win) (wdF ea la) we pn pa (pn + 1) 0 0 0 (s_X8_cell 6 (nmF tu ga lk stp dbt win) 1) (lp_X2_draw_2 833 0 dr)) = D at d1 d2 ⊢
      rw [d1, zld we, zfloop pn tu ga lk stp ea la we pa fr to hpn hr hb er hcs h6 (7 ^ zct 33 pa pn) 0 _ 0 plc mnt lft abd ta (Nat.zero_add _) (by omega), er]
      have h := zsimf (zct 33 pa pn) pn (zDv tu ga lk stp ea la we) pa D.2 fr to hr h6 rfl d2 (zct 33 pa pn) 0 (fun _ => 0) 0 (Nat.zero_add _) (fun k hk => absurd hk (Nat.not_lt_zero _)) rfl
      rw [zbn, Nat.zero_mul, Int32.zero_add] at h
      exact h.symm
    · rw [if_neg c, if_neg c, if_neg (zref0 pn we pa 6)]
