/-! sneezes by chance: what is left aboard behind so many throws -/
def zhn (we : Nat → Int32) (s : Nat) : Nat := (s_X8_without (nI s) (lp_X7_heaviest_5 we (nI s) 7 0 (-6))).toNatClampNeg
def zlf (we : Nat → Int32) (r : Nat) : Nat → Nat
  | 0 => r
  | k + 1 => zhn we (zlf we r k)
theorem zhn_c (we : Nat → Int32) {s : Nat} (hs : s < 64) : zhn we s < 64 ∧ s_X8_without (nI s) (lp_X7_heaviest_5 we (nI s) 7 0 (-6)) = nI (zhn we s) ∧ s_X9_throwOut_abd (nI s) (lp_X9_heaviest_5 (nI s) we 7 0 (-6)) = nI (zhn we s) := by
  obtain ⟨r, h1, h2, h3⟩ := zout we hs True
  rw [if_pos trivial] at h2 h3
  have e : zhn we s = r := by unfold zhn; rw [h2, nI_clamp (by omega)]
  rw [e]
  exact ⟨h1, h2, h3⟩
theorem zhn_pc (we : Nat → Int32) {s : Nat} (hs : s < 64) : zhn we s = s ∨ zpc 12 (zhn we s) + 1 = zpc 12 s := by
  have h := (zhn_c we hs).2.1
  rw [zhv0 we hs] at h
  rcases zhv_r we hs 7 0 (-6) (by omega) (Or.inl rfl) with e | ⟨j, hj, e, hb⟩
  · rw [e, zwo6] at h
    exact Or.inl (zNeq h (by omega) (by have := (zhn_c we hs).1; omega)).symm
  · rw [e, zb_wo hj hs] at h
    have := zNeq h (by have := zcl_lt (k := j) hs; omega) (by have := (zhn_c we hs).1; omega)
    rw [← this]
    exact Or.inr (zpc_cl j hj s hs hb)
theorem zlf_lt (we : Nat → Int32) {r : Nat} (hr : r < 64) : ∀ k, zlf we r k < 64 := by
  intro k
  induction k with
  | zero => exact hr
  | succ k ih => rw [zlf]; exact (zhn_c we ih).1
theorem zlf_fix (we : Nat → Int32) {r : Nat} (hr : r < 64) : ∀ k, zhn we (zlf we r k) = zlf we r k ∨ zpc 12 (zlf we r k) + k ≤ zpc 12 r := by
  intro k
  induction k with
  | zero => exact Or.inr (Nat.le_refl _)
  | succ k ih =>
    rw [zlf]
    rcases ih with h | h
    · rw [h]; exact Or.inl h
    · rcases zhn_pc we (zlf_lt we hr k) with g | g
      · rw [g]; exact Or.inl g
      · exact Or.inr (by omega)
theorem zlf6 (we : Nat → Int32) {r : Nat} (hr : r < 64) : zhn we (zlf we r 6) = zlf we r 6 := by
  rcases zlf_fix we hr 6 with h | h
  · exact h
  · have := zpc6 r hr
    rcases zhn_pc we (zlf_lt we hr 6) with g | g
    · exact g
    · omega
theorem zline (we : Nat → Int32) {r : Nat} (hr : r < 64) : ∀ (fu k : Nat) (x : Int32) (f : Nat → Int32), k ≤ 7 → 7 - k < fu → x = nI (zlf we r k) → (∀ i, i < k → f i = nI (zlf we r i)) → ∀ i, i < 7 → lp_X1_line_7 we fu k x f i = nI (zlf we r i) := by
  intro fu
  induction fu with
  | zero => intro k x f _ h; exact absurd h (Nat.not_lt_zero _)
  | succ fu ih =>
    intro k x f hk hfu hx hf i hi
    rw [lp_X1_line_7]
    by_cases c : nI 7 ≤ nI k
    · have := zNle c (by omega) (by omega)
      rw [if_pos c]; exact hf i (by omega)
    · have hk7 := zNnle c (by omega) (by omega)
      rw [if_neg c]
      refine ih (k + 1) _ _ (by omega) (by omega) ?_ (fun j hj => ?_) i hi
      · rw [hx, (zhn_c we (zlf_lt we hr k)).2.1]; rfl
      · by_cases e : j = k
        · rw [e, pk_us, hx]
        · rw [pk_un e]; exact hf j (by omega)
/-! bits of a set of sneezes -/
def zcb (v : Nat) : Nat → Nat
  | 0 => 0
  | k + 1 => zcb v k + v / 2 ^ k % 2
theorem zcb_le (v : Nat) : ∀ k, zcb v k ≤ k := by
  intro k
  induction k with
  | zero => exact Nat.le_refl _
  | succ k ih => rw [zcb]; have := Nat.mod_lt (v / 2 ^ k) (show 0 < 2 by decide); omega
theorem zcb_pc : ∀ n v, zpc n v = zcb v n := by
  have h : ∀ n v, zpc (n + 1) v = zpc n v + v / 2 ^ n % 2 := by
    intro n
    induction n with
    | zero => intro v; rw [zpc, zpc, zpc, Nat.pow_zero, Nat.div_one]; omega
    | succ n ih =>
      intro v
      rw [zpc, ih (v / 2), Nat.div_div_eq_div_mul, Nat.mul_comm 2, ← Nat.pow_succ, zpc, Nat.add_assoc]
  intro n v
  induction n with
  | zero => rfl
  | succ n ih => rw [h, ih, zcb]
theorem zcb_hi {v n : Nat} (h : v < 2 ^ n) : ∀ j, zcb v (n + j) = zcb v n := by
  intro j
  induction j with
  | zero => rfl
  | succ j ih =>
    rw [← Nat.add_assoc, zcb, ih, Nat.div_eq_of_lt (Nat.lt_of_lt_of_le h (Nat.pow_le_pow_right (by decide) (Nat.le_add_right n j))), Nat.zero_mod, Nat.add_zero]
theorem zcb12 {v n : Nat} (h : v < 2 ^ n) (hn : n ≤ 12) : zpc 12 v = zcb v n := by
  rw [zcb_pc, show 12 = n + (12 - n) by omega, zcb_hi h]
theorem zsh : ∀ k, k < 13 → ((nI k &&& 31).toBitVec.smod 32).toNat = k := by decide +kernel
theorem zbv {v k : Nat} (hv : v < 4096) (hk : k < 13) : ((nI v >>> (nI k &&& 31)) &&& 1) = nI (v / 2 ^ k % 2) := by
  rw [pk_shrN (by omega) _ k (zsh k hk), pk_andN (Nat.lt_of_le_of_lt (Nat.div_le_self _ _) (by omega)) (m := 1) 1 (by decide)]
/-- the sets along a course -/
def zas (we : Nat → Int32) (r v q : Nat) : Nat := zlf we r (min (zcb v q) 6)
theorem zas_lt (we : Nat → Int32) {r : Nat} (hr : r < 64) (v q : Nat) : zas we r v q < 64 := zlf_lt we hr _
theorem zas_step (we : Nat → Int32) {r : Nat} (hr : r < 64) (v q : Nat) : zas we r v (q + 1) = if v / 2 ^ q % 2 = 1 then zhn we (zas we r v q) else zas we r v q := by
  unfold zas
  rw [zcb]
  have hb := Nat.mod_lt (v / 2 ^ q) (show 0 < 2 by decide)
  by_cases c : v / 2 ^ q % 2 = 1
  · rw [if_pos c, c]
    by_cases d : zcb v q < 6
    · rw [show min (zcb v q + 1) 6 = min (zcb v q) 6 + 1 by omega, zlf]
    · rw [show min (zcb v q + 1) 6 = 6 by omega, show min (zcb v q) 6 = 6 by omega, zlf6 we hr]
  · rw [if_neg c, show v / 2 ^ q % 2 = 0 by omega, Nat.add_zero]
theorem zplace (we : Nat → Int32) {r : Nat} (hr : r < 64) (ns v : Nat) (dr lf : Nat → Int32) (W : Nat → Nat → Int32) (hns : ns ≤ 12) (hv : v < 4096) (hdr : ∀ leg s, leg ≤ 12 → s < 64 → dr (leg * 64 + s) = W leg s) (hlf : ∀ i, i < 7 → lf i = nI (zlf we r i)) :
    ∀ (fu k : Nat) (x4 x3 : Int32), k ≤ ns + 1 → ns + 1 - k < fu → x4 = zSm (fun leg => W leg (zas we r v leg)) k → x3 = nI (min (zcb v k) 6) → lp_X1_placeBy_8 lf ns dr v fu k x4 x3 = zSm (fun leg => W leg (zas we r v leg)) (ns + 1) := by
  intro fu
  induction fu with
  | zero => intro k x4 x3 _ h; exact absurd h (Nat.not_lt_zero _)
  | succ fu ih =>
    intro k x4 x3 hk hfu h4 h3
    rw [lp_X1_placeBy_8]
    by_cases c : nI ns < nI k
    · have := zNlt c (by omega) (by omega)
      rw [if_pos c, h4, show k = ns + 1 by omega]
    · have hkn := zNnlt c (by omega) (by omega)
      have hb := Nat.mod_lt (v / 2 ^ k) (show 0 < 2 by decide)
      rw [if_neg c, h3, zcel (by omega) (by decide), hlf _ (by omega), zbv hv (by omega), nI_add]
      refine ih (k + 1) _ _ (by omega) (by omega) ?_ ?_
      · rw [zcd hdr (by omega) (zlf_lt we hr _), zSm, h4]; rfl
      · rw [zcb]
        by_cases d : 6 < min (zcb v k) 6 + v / 2 ^ k % 2
        · rw [if_pos (show (6 : Int32) < nI (min (zcb v k) 6 + v / 2 ^ k % 2) from (nI_ltI (a := 6) (by omega) (by omega)).mpr d), show min (zcb v k + v / 2 ^ k % 2) 6 = 6 by omega]; rfl
        · rw [if_neg (show ¬ (6 : Int32) < nI (min (zcb v k) 6 + v / 2 ^ k % 2) from fun h => d (zNlt (a := 6) (b := min (zcb v k) 6 + v / 2 ^ k % 2) h (by omega) (by omega))), show min (zcb v k) 6 + v / 2 ^ k % 2 = min (zcb v k + v / 2 ^ k % 2) 6 by omega]
/-! chances -/
def zcw (c n v : Nat) : Nat := c ^ (zcb v n) * (10 - c) ^ (n - zcb v n)
theorem zpow_c (ba : Int32) (b ex : Nat) (hb : Int32.toInt64 ba = lN b) (he : ex < 100) : ∀ (fu k : Nat) (x : Int64), k ≤ ex → ex - k < fu → x = lN (b ^ k) → lp_X1_power_5 ba ex fu k x = lN (b ^ ex) := by
  intro fu
  induction fu with
  | zero => intro k x _ h; exact absurd h (Nat.not_lt_zero _)
  | succ fu ih =>
    intro k x hk hfu hx
    rw [lp_X1_power_5]
    by_cases c : nI ex ≤ nI k
    · have := zNle c (by omega) (by omega)
      rw [if_pos c, hx, show k = ex by omega]
    · have hkn := zNnle c (by omega) (by omega)
      rw [if_neg c]
      refine ih (k + 1) _ (by omega) (by omega) ?_
      rw [hx, hb, lN_mul, Nat.pow_succ]
theorem zpow0 {ba : Int32} {b ex : Nat} (hb : Int32.toInt64 ba = lN b) (he : ex < 100) : lp_X1_power_5 ba ex (ex + 1) 0 1 = lN (b ^ ex) := zpow_c ba b ex hb he (ex + 1) 0 1 (Nat.zero_le _) (by omega) (by rw [Nat.pow_zero]; rfl)
theorem zc_l {c : Nat} (hc : c ≤ 10) : Int32.toInt64 (nI c) = lN c ∧ Int32.toInt64 (10 - nI c) = lN (10 - c) := by
  refine ⟨nI_l (by omega), ?_⟩
  rw [show (10 : Int32) - nI c = nI (10 - c) from pk_sub (a := 10) hc]
  exact nI_l (by omega)
theorem zchance {c : Nat} (hc : c ≤ 10) {ns v : Nat} (hns : ns ≤ 12) (hv : v < 2 ^ ns) : (lp_X1_power_5 (nI c) (zpc 12 v) ((zpc 12 v) + 1) 0 1) * (lp_X1_power_5 (10 - nI c) (ns - zpc 12 v) ((ns - zpc 12 v) + 1) 0 1) = lN (zcw c ns v) := by
  have h := zcb_le v ns
  rw [zcb12 hv hns, zpow0 (zc_l hc).1 (by omega), zpow0 (zc_l hc).2 (by omega), lN_mul]
  rfl
/-- the model's course by chance -/
theorem zgochance (pn : Nat) (tu ga lk stp : Int32) (ea la we pa : Nat → Int32) {r c v : Nat} (hr : r < 64) (hcc : c ≤ 10) (hv : v < 4096) (hpn : pn ≤ 60) (h12 : zct 33 pa pn ≤ 12) (hc : ∀ j, j < pn → pa j = 46 ∨ pa j = 33) :
    ∀ (fu k : Nat) (x5 : Int32) (x3 : Int64) (pl mn g ab : Int32), k ≤ pn → pn - k < fu → x5 = nI (zct 33 pa k) → x3 = lN (zcw c (zct 33 pa k) v) → pl = zCo (zDv tu ga lk stp ea la we) pa (zas we r v) k → mn = nI (zct 46 pa k) → g = zG ga lk (zct 46 pa k) → ab = nI (zas we r v (zct 33 pa k)) →
    (lp_X9_goChance_12 pn tu lk stp ea la we pa (nI v) (nI c) fu k x5 x3 pl mn g ab).1 = lN (zcw c (zct 33 pa pn) v) ∧ (lp_X9_goChance_12 pn tu lk stp ea la we pa (nI v) (nI c) fu k x5 x3 pl mn g ab).2.1 = zCo (zDv tu ga lk stp ea la we) pa (zas we r v) pn := by
  intro fu
  induction fu with
  | zero => intro k x5 x3 pl mn g ab _ h; exact absurd h (Nat.not_lt_zero _)
  | succ fu ih =>
    intro k x5 x3 pl mn g ab hk hfu h5 h3 hpl hmn hg hab
    rw [lp_X9_goChance_12]
    by_cases cc : nI pn ≤ nI k
    · have := zNle cc (by omega) (by omega)
      have hkl : k = pn := by omega
      subst hkl
      rw [if_pos cc]
      exact ⟨h3, hpl⟩
    · have hkl := zNnle cc (by omega) (by omega)
      rw [if_neg cc]
      by_cases d : pa k = 46
      · have d3 : ¬ pa k = 33 := by rw [d]; decide
        have e33 : zct 33 pa (k + 1) = zct 33 pa k := by rw [zct, if_neg d3]; rfl
        rw [if_pos d]
        refine ih (k + 1) _ _ _ _ _ _ (by omega) (by omega) (by rw [e33]; exact h5) (by rw [e33]; exact h3) ?_ ?_ ?_ (by rw [e33]; exact hab)
        · rw [zCo, if_pos d, hpl, hmn, hg, hab]; rfl
        · rw [zct, if_pos d, hmn, nI_1]
        · rw [zct, if_pos d, zG, hg]
      · have d3 : pa k = 33 := (hc k hkl).resolve_left d
        have hlt : zct 33 pa k < zct 33 pa pn := by
          have := zct_up 33 pa (pn - (k + 1)) (k + 1)
          rw [show k + 1 + (pn - (k + 1)) = pn by omega, zct, if_pos d3] at this
          omega
        have e33 : zct 33 pa (k + 1) = zct 33 pa k + 1 := by rw [zct, if_pos d3]
        have e46 : zct 46 pa (k + 1) = zct 46 pa k := by rw [zct, if_neg d]; rfl
        have hq := zcb_le v (zct 33 pa k)
        have hst := zas_step we hr v (zct 33 pa k)
        have hco : zCo (zDv tu ga lk stp ea la we) pa (zas we r v) (k + 1) = pl := by rw [zCo, if_neg d, hpl, Int32.add_zero]
        rw [if_neg d, h5, zbv hv (by omega)]
        by_cases b : v / 2 ^ (zct 33 pa k) % 2 = 1
        · rw [b, if_pos (show nI 1 = 1 from rfl), if_neg (show ¬ (1 : Int32) = 0 by decide)]
          rw [if_pos b] at hst
          refine ih (k + 1) _ _ _ _ _ _ (by omega) (by omega) (by rw [e33, nI_1]) ?_ hco.symm (by rw [e46]; exact hmn) (by rw [e46]; exact hg) ?_
          · rw [h3, (zc_l hcc).1, lN_mul, e33]
            unfold zcw
            rw [zcb, b, show zct 33 pa k + 1 - (zcb v (zct 33 pa k) + 1) = zct 33 pa k - zcb v (zct 33 pa k) by omega, Nat.pow_succ]
            congr 1
            ac_rfl
          · rw [hab, if_neg (show ¬ (1 : Int32) = 0 by decide), (zhn_c we (zas_lt we hr v _)).2.2, e33, hst]
        · have b0 : v / 2 ^ (zct 33 pa k) % 2 = 0 := by omega
          rw [b0, if_neg (show ¬ nI 0 = 1 by decide), if_pos (show (0 : Int32) = 0 from rfl), if_pos (show (0 : Int32) = 0 from rfl)]
          rw [if_neg b] at hst
          refine ih (k + 1) _ _ _ _ _ _ (by omega) (by omega) (by rw [e33, nI_1]) ?_ hco.symm (by rw [e46]; exact hmn) (by rw [e46]; exact hg) ?_
          · rw [h3, (zc_l hcc).2, lN_mul, e33]
            unfold zcw
            rw [zcb, b0, Nat.add_zero, show zct 33 pa k + 1 - zcb v (zct 33 pa k) = (zct 33 pa k - zcb v (zct 33 pa k)) + 1 by omega, Nat.pow_succ, Nat.mul_assoc]
          · rw [hab, zto6 (zas_lt we hr v _), e33, hst]
