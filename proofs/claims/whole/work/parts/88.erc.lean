/-! likely and mean -/
def zPl (we : Nat → Int32) (r : Nat) (W : Nat → Nat → Int32) (ns v : Nat) : Int32 := zSm (fun leg => W leg (zas we r v leg)) (ns + 1)
def zgl (we : Nat → Int32) (r c : Nat) (W : Nat → Nat → Int32) (ns : Nat) (fr to : Int32) (v : Nat) : Nat := if s_X8_within (zPl we r W ns v) fr to = 0 then 0 else zcw c ns v
def zwv (we : Nat → Int32) (r : Nat) (W : Nat → Nat → Int32) (ns v : Nat) : Nat := ((zPl we r W ns v).toInt + 1000).toNat
def zhm (we : Nat → Int32) (r c : Nat) (W : Nat → Nat → Int32) (ns : Nat) (v : Nat) : Nat := zcw c ns v * zwv we r W ns v
theorem zp212 {ns : Nat} (h : ns ≤ 12) : 2 ^ ns ≤ 4096 := Nat.pow_le_pow_right (by decide) h
theorem zland (we : Nat → Int32) {r c : Nat} (hr : r < 64) (hc : c ≤ 10) (ns : Nat) (dr lf : Nat → Int32) (W : Nat → Nat → Int32) (fr to : Int32) (hns : ns ≤ 12) (hdr : ∀ leg s, leg ≤ 12 → s < 64 → dr (leg * 64 + s) = W leg s) (hlf : ∀ i, i < 7 → lf i = nI (zlf we r i)) :
    ∀ (fu k : Nat), k ≤ 2 ^ ns → 2 ^ ns - k < fu → lp_X1_landing_6 lf ns dr (nI c) fr to fu k (lN (zsu (zgl we r c W ns fr to) k)) = lN (zsu (zgl we r c W ns fr to) (2 ^ ns)) := by
  have h2 := zp212 hns
  intro fu
  induction fu with
  | zero => intro k _ h; exact absurd h (Nat.not_lt_zero _)
  | succ fu ih =>
    intro k hk hfu
    rw [lp_X1_landing_6]
    by_cases c1 : (4096 : Int32) ≤ nI k
    · have := zNle (a := 4096) c1 (by omega) (by omega)
      rw [if_pos c1, show k = 2 ^ ns by omega]
    · rw [if_neg c1]
      by_cases c2 : nI (2 ^ ns) ≤ nI k
      · have := zNle c2 (by omega) (by omega)
        rw [if_pos c2, show k = 2 ^ ns by omega]
      · have hk2 := zNnle c2 (by omega) (by omega)
        have hi := ih (k + 1) (by omega) (by omega)
        rw [zsu, zgl, zPl] at hi
        rw [if_neg c2, zplace we hr ns k dr lf W hns (by omega) hdr hlf (ns + 2) 0 0 0 (Nat.zero_le _) (by omega) rfl rfl, zchance hc hns hk2]
        by_cases d : s_X8_within (zSm (fun leg => W leg (zas we r k leg)) (ns + 1)) fr to = 0
        · rw [if_pos d, Nat.add_zero] at hi
          rw [if_pos d, Int64.add_zero]
          exact hi
        · rw [if_neg d] at hi
          rw [if_neg d, lN_add]
          exact hi
theorem zw_cop (we : Nat → Int32) (r v pn : Nat) (V : Nat → Nat → Int32) (pa : Nat → Int32) : zCo V pa (zas we r v) pn = zPl we r (fun leg s => zQ V pa leg s pn) (zct 33 pa pn) v := zLS V pa _ _ pn (Nat.lt_succ_self _)
theorem zgo1 (pn : Nat) (tu ga lk stp : Int32) (ea la we pa : Nat → Int32) {r c v : Nat} (hr : r < 64) (hcc : c ≤ 10) (hv : v < 4096) (hpn : pn ≤ 60) (h12 : zct 33 pa pn ≤ 12) (hc : ∀ j, j < pn → pa j = 46 ∨ pa j = 33) :
    (lp_X9_goChance_12 pn tu lk stp ea la we pa (nI v) (nI c) (pn + 1) 0 0 1 0 0 ga (nI r)).1 = lN (zcw c (zct 33 pa pn) v) ∧ (lp_X9_goChance_12 pn tu lk stp ea la we pa (nI v) (nI c) (pn + 1) 0 0 1 0 0 ga (nI r)).2.1 = zPl we r (fun leg s => zQ (zDv tu ga lk stp ea la we) pa leg s pn) (zct 33 pa pn) v := by
  have h := zgochance pn tu ga lk stp ea la we pa hr hcc hv hpn h12 hc (pn + 1) 0 0 1 0 0 ga (nI r) (Nat.zero_le _) (by omega) rfl (by unfold zcw; rw [show zct 33 pa 0 = 0 from rfl, show zcb v 0 = 0 from rfl, Nat.sub_zero, Nat.pow_zero, Nat.pow_zero]; rfl) rfl rfl rfl rfl
  rw [zw_cop] at h
  exact h
theorem zlik (pn : Nat) (tu ga lk stp : Int32) (ea la we pa : Nat → Int32) (fr to : Int32) {r c : Nat} (hr : r < 64) (hcc : c ≤ 10) (er : lp_X9_loaded_4 we 7 0 0 = nI r) (hpn : pn ≤ 60) (h12 : zct 33 pa pn ≤ 12) (hc : ∀ j, j < pn → pa j = 46 ∨ pa j = 33) :
    ∀ (fu k : Nat) (a b e f : Int32), k ≤ 2 ^ zct 33 pa pn → 2 ^ zct 33 pa pn - k < fu → (lp_X9_likely_64 pn tu ga lk stp ea la we pa fr to (nI c) fu k (lN (zsu (zgl we r c (fun leg s => zQ (zDv tu ga lk stp ea la we) pa leg s pn) (zct 33 pa pn) fr to) k)) a b e f).1 = lN (zsu (zgl we r c (fun leg s => zQ (zDv tu ga lk stp ea la we) pa leg s pn) (zct 33 pa pn) fr to) (2 ^ zct 33 pa pn)) := by
  have h2 := zp212 h12
  intro fu
  induction fu with
  | zero => intro k a b e f _ h; exact absurd h (Nat.not_lt_zero _)
  | succ fu ih =>
    intro k a b e f hk hfu
    rw [lp_X9_likely_64]
    by_cases c2 : nI (2 ^ zct 33 pa pn) ≤ nI k
    · have := zNle c2 (by omega) (by omega)
      rw [if_pos c2, show k = 2 ^ zct 33 pa pn by omega]
    · have hk2 := zNnle c2 (by omega) (by omega)
      obtain ⟨g1, g2⟩ := zgo1 pn tu ga lk stp ea la we pa (v := k) hr hcc (by omega) hpn h12 hc
      have hi := fun a b e f => ih (k + 1) a b e f (by omega) (by omega)
      rw [zsu] at hi
      unfold zgl at hi ⊢
      rw [if_neg c2, er, g1, g2, zwi rfl rfl]
      by_cases d : s_X8_within (zPl we r (fun leg s => zQ (zDv tu ga lk stp ea la we) pa leg s pn) (zct 33 pa pn) k) fr to = 0
      · rw [if_pos d, Nat.add_zero] at hi
        rw [if_pos d, Int64.add_zero]
        exact hi _ _ _ _
      · rw [if_neg d] at hi
        rw [if_neg d, lN_add]
        exact hi _ _ _ _
theorem zgl_le (we : Nat → Int32) {r c : Nat} (hc : c ≤ 10) (W : Nat → Nat → Int32) (ns : Nat) (fr to : Int32) : zsu (zgl we r c W ns fr to) (2 ^ ns) ≤ 10 ^ ns := by
  rw [← zsum1 hc ns]
  refine zsu_le _ (fun i _ => ?_)
  unfold zgl
  by_cases d : s_X8_within (zPl we r W ns i) fr to = 0
  · rw [if_pos d]; exact Nat.zero_le _
  · rw [if_neg d]; exact Nat.le_refl _
theorem z10 {n : Nat} (h : n ≤ 12) : 10 ^ n ≤ 1000000000000 := Nat.pow_le_pow_right (by decide) h
/-- promise 15 -/
theorem E_likely (pn : Nat) (tu ga lk stp dbt win plc mnt lft abd : Int32) (ea la we pa dr lf : Nat → Int32) (fr to cc part : Int32) (hpn : pn ≤ 60) (hst : 1 ≤ stp) (hlk : 0 ≤ lk) (hga : 0 ≤ ga) : s_X8_likely (nmF tu ga lk stp dbt win) (wdF ea la) we pn pa dr lf fr to cc part = s_X9_likely pn tu ga lk stp plc mnt lft abd ea la we pa fr to cc part := by
  unfold s_X8_likely s_X9_likely
  rw [zcr pn we pa hpn, zspan, zwi (a := cc) (lo := 0) (hi := 10) (l := 0) (h := 10) (by decide) (by decide), zwi (a := part) (lo := 0) (hi := 1) (l := 0) (h := 1) (by decide) (by decide)]
  by_cases i : s_X9_isSpan fr to = 0
  · simp only [if_pos i, if_true]; rw [if_neg (show ¬ (-2 : Int32) = 0 by decide)]; decide
  · by_cases i2 : s_X8_within cc 0 10 = 0
    · simp only [if_neg i, if_pos i2, if_true]; rw [if_neg (show ¬ (-2 : Int32) = 0 by decide)]; decide
    · by_cases i3 : s_X8_within part 0 1 = 0
      · simp only [if_neg i, if_neg i2, if_pos i3, if_true]; rw [if_neg (show ¬ (-2 : Int32) = 0 by decide)]; decide
      · simp only [if_neg i, if_neg i2, if_neg i3, if_neg (show ¬ (1 : Int32) = 0 by decide)]
        by_cases c : s_X9_refusal pn we pa 60 = -6
        · simp only [if_pos c, if_true]
          have h12 := (zref hpn c).1
          have hcs := zcourse (zref hpn c).2.1
          obtain ⟨r, hr, er, hb⟩ := zldb we
          obtain ⟨d1, d2⟩ := zdraw0 pn pa dr tu ga lk stp dbt win ea la we hpn h12 hst hlk hga
          generalize (lp_X2_draw_41 (nmF tu ga lk stp dbt win) (wdF ea la) we pn pa (pn + 1) 0 0 0 (s_X8_cell 6 (nmF tu ga lk stp dbt win) 1) (lp_X2_draw_2 833 0 dr)) = D at d1 d2 ⊢
          obtain ⟨q, hq0, hq, rfl⟩ := zwr (a := 0) (b := 10) i2 (by decide) (by decide)
          have hlf := zline we hr 8 0 (nI r) lf (by omega) (by omega) rfl (fun j hj => absurd hj (Nat.not_lt_zero _))
          have h1 := zland we hr hq (zct 33 pa pn) D.2 (lp_X1_line_7 we 8 0 (nI r) lf) (fun leg s => zQ (zDv tu ga lk stp ea la we) pa leg s pn) fr to h12 d2 hlf (2 ^ zct 33 pa pn + 1) 0 (Nat.zero_le _) (by rw [Nat.sub_zero]; exact Nat.lt_succ_self _)
          have h2 := zlik pn tu ga lk stp ea la we pa fr to hr hq er hpn h12 hcs (2 ^ zct 33 pa pn + 1) 0 plc mnt lft abd (Nat.zero_le _) (by rw [Nat.sub_zero]; exact Nat.lt_succ_self _)
          have h1 : lp_X1_landing_6 (lp_X1_line_7 we 8 0 (nI r) lf) (zct 33 pa pn) D.2 (nI q) fr to (2 ^ zct 33 pa pn + 1) 0 0 = _ := h1
          have h2 : (lp_X9_likely_64 pn tu ga lk stp ea la we pa fr to (nI q) (2 ^ zct 33 pa pn + 1) 0 0 plc mnt lft abd).1 = _ := h2
          rw [d1, zld we, er, h1, h2, zpow0 (b := 10) (by decide) (by omega)]
          have hle := zgl_le we (r := r) hq (fun leg s => zQ (zDv tu ga lk stp ea la we) pa leg s pn) (zct 33 pa pn) fr to
          have h10 := z10 h12
          exact zlowest _ _ part (by omega) (by omega) (Nat.pow_pos (by decide))
        · simp only [if_neg c, if_neg (zref0 pn we pa 60)]
/-- the mean -/
theorem zPl_b (we : Nat → Int32) (r pn v : Nat) (V : Nat → Nat → Int32) (hV : ∀ s k, -9 ≤ (V s k).toInt ∧ (V s k).toInt ≤ 9) (pa : Nat → Int32) (hpn : pn ≤ 60) : -540 ≤ (zPl we r (fun leg s => zQ V pa leg s pn) (zct 33 pa pn) v).toInt ∧ (zPl we r (fun leg s => zQ V pa leg s pn) (zct 33 pa pn) v).toInt ≤ 540 := by
  rw [← zw_cop]
  have := zLb V hV pa (zas we r v) pn hpn
  omega
theorem zp1000 {p : Int32} (h : -540 ≤ p.toInt ∧ p.toInt ≤ 540) : Int32.toInt64 (p + 1000) = lN (p.toInt + 1000).toNat ∧ Int32.toInt64 p + 1000 = lN (p.toInt + 1000).toNat := by
  have h1 : (lN (p.toInt + 1000).toNat).toInt = p.toInt + 1000 := by
    rw [pk_lT (by omega)]
    omega
  constructor
  · refine Int64.toInt_inj.mp ?_
    rw [Int32.toInt_toInt64, h1, zaddI (by rw [show (1000 : Int32).toInt = 1000 by decide]; omega) (by rw [show (1000 : Int32).toInt = 1000 by decide]; omega)]
    rfl
  · refine Int64.toInt_inj.mp ?_
    have h2 : (Int32.toInt64 p).toInt = p.toInt := Int32.toInt_toInt64 p
    have h3 : (1000 : Int64).toInt = 1000 := by decide
    rw [h1, Int64.toInt_add, h2, h3, Int.bmod_def]
    split <;> omega
theorem zplaces (we : Nat → Int32) {r c : Nat} (hr : r < 64) (hc : c ≤ 10) (ns : Nat) (dr lf : Nat → Int32) (W : Nat → Nat → Int32) (hns : ns ≤ 12) (hdr : ∀ leg s, leg ≤ 12 → s < 64 → dr (leg * 64 + s) = W leg s) (hlf : ∀ i, i < 7 → lf i = nI (zlf we r i)) (hb : ∀ v, -540 ≤ (zPl we r W ns v).toInt ∧ (zPl we r W ns v).toInt ≤ 540) :
    ∀ (fu k : Nat) (S : Int64), k ≤ 2 ^ ns → 2 ^ ns - k < fu → S + 1000 * lN (zsu (zcw c ns) k) = lN (zsu (zhm we r c W ns) k) → lp_X1_places_5 lf ns dr (nI c) fu k S + 1000 * lN (zsu (zcw c ns) (2 ^ ns)) = lN (zsu (zhm we r c W ns) (2 ^ ns)) := by
  have h2 := zp212 hns
  intro fu
  induction fu with
  | zero => intro k S _ h; exact absurd h (Nat.not_lt_zero _)
  | succ fu ih =>
    intro k S hk hfu hS
    rw [lp_X1_places_5]
    by_cases c1 : (4096 : Int32) ≤ nI k
    · have := zNle (a := 4096) c1 (by omega) (by omega)
      rw [if_pos c1, show 2 ^ ns = k by omega]; exact hS
    · rw [if_neg c1]
      by_cases c2 : nI (2 ^ ns) ≤ nI k
      · have := zNle c2 (by omega) (by omega)
        have e : 2 ^ ns = k := by omega
        rw [if_pos c2, e]; exact hS
      · have hk2 := zNnle c2 (by omega) (by omega)
        rw [if_neg c2, zplace we hr ns k dr lf W hns (by omega) hdr hlf (ns + 2) 0 0 0 (Nat.zero_le _) (by omega) rfl rfl, zchance hc hns hk2]
        refine ih (k + 1) _ (by omega) (by omega) ?_
        have hp := (zp1000 (hb k)).2
        rw [zsu, zsu, ← lN_add, ← lN_add, ← hS]
        unfold zhm zwv
        rw [← lN_mul (zcw c ns k), ← hp]
        show S + Int32.toInt64 (zPl we r W ns k) * lN (zcw c ns k) + 1000 * (lN (zsu (zcw c ns) k) + lN (zcw c ns k)) = S + 1000 * lN (zsu (zcw c ns) k) + lN (zcw c ns k) * (Int32.toInt64 (zPl we r W ns k) + 1000)
        rw [Int64.mul_add, Int64.mul_add, Int64.mul_comm (lN (zcw c ns k)) 1000, Int64.mul_comm (lN (zcw c ns k))]
        ac_rfl
theorem zmeanm (pn : Nat) (tu ga lk stp : Int32) (ea la we pa : Nat → Int32) {r c : Nat} (hr : r < 64) (hcc : c ≤ 10) (er : lp_X9_loaded_4 we 7 0 0 = nI r) (hpn : pn ≤ 60) (h12 : zct 33 pa pn ≤ 12) (hc : ∀ j, j < pn → pa j = 46 ∨ pa j = 33) (hb : ∀ v, -540 ≤ (zPl we r (fun leg s => zQ (zDv tu ga lk stp ea la we) pa leg s pn) (zct 33 pa pn) v).toInt ∧ (zPl we r (fun leg s => zQ (zDv tu ga lk stp ea la we) pa leg s pn) (zct 33 pa pn) v).toInt ≤ 540) :
    ∀ (fu k : Nat) (a b e f : Int32), k ≤ 2 ^ zct 33 pa pn → 2 ^ zct 33 pa pn - k < fu → (lp_X9_mean_52 pn tu ga lk stp ea la we pa (nI c) fu k (lN (zsu (zhm we r c (fun leg s => zQ (zDv tu ga lk stp ea la we) pa leg s pn) (zct 33 pa pn)) k)) a b e f).1 = lN (zsu (zhm we r c (fun leg s => zQ (zDv tu ga lk stp ea la we) pa leg s pn) (zct 33 pa pn)) (2 ^ zct 33 pa pn)) := by
  have h2 := zp212 h12
  intro fu
  induction fu with
  | zero => intro k a b e f _ h; exact absurd h (Nat.not_lt_zero _)
  | succ fu ih =>
    intro k a b e f hk hfu
    rw [lp_X9_mean_52]
    by_cases c2 : nI (2 ^ zct 33 pa pn) ≤ nI k
    · have := zNle c2 (by omega) (by omega)
      rw [if_pos c2, show k = 2 ^ zct 33 pa pn by omega]
    · have hk2 := zNnle c2 (by omega) (by omega)
      obtain ⟨g1, g2⟩ := zgo1 pn tu ga lk stp ea la we pa (v := k) hr hcc (by omega) hpn h12 hc
      have hi := fun a b e f => ih (k + 1) a b e f (by omega) (by omega)
      rw [zsu] at hi
      rw [if_neg c2, er, g1, g2, (zp1000 (hb k)).1, lN_mul, lN_add]
      exact hi _ _ _ _
theorem zhm_le (we : Nat → Int32) {r c : Nat} (hc : c ≤ 10) (W : Nat → Nat → Int32) (ns : Nat) (hb : ∀ v, -540 ≤ (zPl we r W ns v).toInt ∧ (zPl we r W ns v).toInt ≤ 540) : zsu (zhm we r c W ns) (2 ^ ns) ≤ 1540 * 10 ^ ns := by
  rw [← zsum1 hc ns, ← zsu_mul]
  refine zsu_le _ (fun i _ => ?_)
  unfold zhm zwv
  have := hb i
  rw [Nat.mul_comm]
  exact Nat.mul_le_mul_right _ (by omega)
/-- promise 16 -/
theorem E_mean (pn : Nat) (tu ga lk stp dbt win plc mnt lft abd : Int32) (ea la we pa dr lf : Nat → Int32) (cc part : Int32) (hpn : pn ≤ 60) (hst : 1 ≤ stp) (hlk : 0 ≤ lk) (hga : 0 ≤ ga) (he : zwb ea) (hl : zwb la) : s_X8_mean (nmF tu ga lk stp dbt win) (wdF ea la) we pn pa dr lf cc part = s_X9_mean pn tu ga lk stp plc mnt lft abd ea la we pa cc part := by
  unfold s_X8_mean s_X9_mean
  rw [zcr pn we pa hpn, zwi (a := cc) (lo := 0) (hi := 10) (l := 0) (h := 10) (by decide) (by decide), zwi (a := part) (lo := 0) (hi := 1) (l := 0) (h := 1) (by decide) (by decide)]
  by_cases i2 : s_X8_within cc 0 10 = 0
  · simp only [if_pos i2, if_true]; rw [if_neg (show ¬ (-2 : Int32) = 0 by decide)]; decide
  · by_cases i3 : s_X8_within part 0 1 = 0
    · simp only [if_neg i2, if_pos i3, if_true]; rw [if_neg (show ¬ (-2 : Int32) = 0 by decide)]; decide
    · simp only [if_neg i2, if_neg i3, if_neg (show ¬ (1 : Int32) = 0 by decide)]
      by_cases c : s_X9_refusal pn we pa 60 = -6
      · simp only [if_pos c, if_true]
        have h12 := (zref hpn c).1
        have hcs := zcourse (zref hpn c).2.1
        obtain ⟨r, hr, er, hb⟩ := zldb we
        obtain ⟨d1, d2⟩ := zdraw0 pn pa dr tu ga lk stp dbt win ea la we hpn h12 hst hlk hga
        generalize (lp_X2_draw_41 (nmF tu ga lk stp dbt win) (wdF ea la) we pn pa (pn + 1) 0 0 0 (s_X8_cell 6 (nmF tu ga lk stp dbt win) 1) (lp_X2_draw_2 833 0 dr)) = D at d1 d2 ⊢
        obtain ⟨q, hq0, hq, rfl⟩ := zwr (a := 0) (b := 10) i2 (by decide) (by decide)
        have hlf := zline we hr 8 0 (nI r) lf (by omega) (by omega) rfl (fun j hj => absurd hj (Nat.not_lt_zero _))
        have hbd := fun v => zPl_b we r pn v (zDv tu ga lk stp ea la we) (zVb hst he hl) pa hpn
        have h1 := zplaces we hr hq (zct 33 pa pn) D.2 (lp_X1_line_7 we 8 0 (nI r) lf) (fun leg s => zQ (zDv tu ga lk stp ea la we) pa leg s pn) h12 d2 hlf hbd (2 ^ zct 33 pa pn + 1) 0 0 (Nat.zero_le _) (by rw [Nat.sub_zero]; exact Nat.lt_succ_self _) rfl
        have h2 := zmeanm pn tu ga lk stp ea la we pa hr hq er hpn h12 hcs hbd (2 ^ zct 33 pa pn + 1) 0 plc mnt lft abd (Nat.zero_le _) (by rw [Nat.sub_zero]; exact Nat.lt_succ_self _)
        have h2 : (lp_X9_mean_52 pn tu ga lk stp ea la we pa (nI q) (2 ^ zct 33 pa pn + 1) 0 0 plc mnt lft abd).1 = _ := h2
        rw [zsum1 hq] at h1
        rw [d1, zld we, er, zpow0 (b := 10) (by decide) (by omega), h1, h2]
        have hle := zhm_le we (r := r) hq (fun leg s => zQ (zDv tu ga lk stp ea la we) pa leg s pn) (zct 33 pa pn) hbd
        have h10 := z10 h12
        exact zlowest _ _ part (by omega) (by omega) (Nat.pow_pos (by decide))
      · simp only [if_neg c, if_neg (zref0 pn we pa 60)]
