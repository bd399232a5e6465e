/-! nearest: the class's search is the model's least -/
def zon (s : Nat) : Int32 := lp_X9_ones_4 ((nI s).toBitVec.toNat + 1) (nI s) 0
theorem zon_pc (s : Nat) (h : s < 64) : zon s = nI (zpc 12 s) := by
  unfold zon
  rw [zones s h, zbc s (by omega)]
theorem zpc_cl : ∀ t, t < 6 → ∀ s, s < 64 → s.testBit t = true → zpc 12 (zcl s t) + 1 = zpc 12 s := by decide +kernel
theorem zpc6 : ∀ s, s < 64 → zpc 12 s ≤ 6 := by decide +kernel
def zval (r n pn : Nat) (V : Nat → Nat → Int32) (pa : Nat → Int32) (goal : Int32) (num : Nat) : Int32 := ((10 * (s_X9_apart (zCo V pa (zaq r (zdg n num)) pn) goal)) + zon r) - zon (zaq r (zdg n num) n)
def zns (r n pn : Nat) (V : Nat → Nat → Int32) (pa : Nat → Int32) (goal : Int32) (num : Nat) (x : Int32 × (Nat → Int32)) : Int32 × (Nat → Int32) := if zvb r (zdg n num) n = true then (if x.1 ≤ zval r n pn V pa goal num then x else (zval r n pn V pa goal num, fun j => if j < n then nI (zdg n num j) else x.2 j)) else x
theorem z111 (pn : Nat) (we pa : Nat → Int32) (num : Nat) (f8 : Nat → Int32) (hpn : pn ≤ 60) (hl : ∀ k, (lp_X9_layThrows_13 we ((zct 33 pa pn) + 1) num ((nI (zct 33 pa pn)) - 1) 1 0 f8).2 k = if k < zct 33 pa pn then nI (zdg (zct 33 pa pn) num k) else f8 k) :
    ∀ (fu k : Nat) (f : Nat → Int32), k ≤ zct 33 pa pn → zct 33 pa pn - k < fu → ∀ i, lp_X9_nearest_111 pn we pa num f8 fu k f i = if k ≤ i ∧ i < zct 33 pa pn then nI (zdg (zct 33 pa pn) num i) else f i := by
  have hz := zct_le 33 pa pn
  intro fu
  induction fu with
  | zero => intro k f _ h; exact absurd h (Nat.not_lt_zero _)
  | succ fu ih =>
    intro k f hk hfu i
    rw [lp_X9_nearest_111]
    by_cases c : nI (zct 33 pa pn) ≤ nI k
    · have := zNle c (by omega) (by omega)
      rw [if_pos c, if_neg (by omega)]
    · have hkn := zNnle c (by omega) (by omega)
      rw [if_neg c, ih (k + 1) _ (by omega) (by omega) i, hl k, if_pos hkn]
      by_cases e : i = k
      · rw [e, pk_us, if_neg (by omega), if_pos (by omega)]
      · rw [pk_un e]
        by_cases a : k ≤ i ∧ i < zct 33 pa pn
        · rw [if_pos (by omega), if_pos a]
        · rw [if_neg (by omega), if_neg a]
theorem znloop (pn : Nat) (tu ga lk stp : Int32) (ea la we pa : Nat → Int32) (goal : Int32) {r : Nat} (hpn : pn ≤ 60) (hr : r < 64) (hb : ∀ u, u < 6 → r.testBit u = decide (0 < we u)) (er : lp_X9_loaded_4 we 7 0 0 = nI r) (hc : ∀ j, j < pn → pa j = 46 ∨ pa j = 33) (hn : zct 33 pa pn ≤ 6) :
    ∀ (m num fu : Nat) (x a b c d : Int32) (f8 f9 : Nat → Int32), num + m = 7 ^ (zct 33 pa pn) → m < fu →
      (lp_X9_nearest_40 pn tu ga lk stp ea la we pa goal fu num x a b c d f8 f9).1 = (zfo (zns r (zct 33 pa pn) pn (zDv tu ga lk stp ea la we) pa goal) m num (x, f9)).1 ∧
      (lp_X9_nearest_40 pn tu ga lk stp ea la we pa goal fu num x a b c d f8 f9).2.2.2.2.2.2 = (zfo (zns r (zct 33 pa pn) pn (zDv tu ga lk stp ea la we) pa goal) m num (x, f9)).2 := by
  have h7 := zpow7 hn
  intro m
  induction m with
  | zero =>
    intro num fu x a b c d f8 f9 hm hfu
    obtain ⟨fu, rfl⟩ : ∃ k, fu = k + 1 := ⟨fu - 1, by omega⟩
    rw [lp_X9_nearest_40, if_pos (by rw [show num = 7 ^ (zct 33 pa pn) by omega]; exact Int32.le_refl _)]
    exact ⟨rfl, rfl⟩
  | succ m ih =>
    intro num fu x a b c d f8 f9 hm hfu
    obtain ⟨fu, rfl⟩ : ∃ k, fu = k + 1 := ⟨fu - 1, by omega⟩
    have hl := zlay0 we hr hb (zct 33 pa pn) num f8 (by omega)
    have ho : ∀ s, lp_X9_ones_4 ((nI s).toBitVec.toNat + 1) (nI s) 0 = zon s := fun _ => rfl
    have h111 : lp_X9_nearest_111 pn we pa num f8 (zct 33 pa pn + 1) 0 f9 = fun j => if j < zct 33 pa pn then nI (zdg (zct 33 pa pn) num j) else f9 j := funext (fun i => by
      rw [z111 pn we pa num f8 hpn hl.1 (zct 33 pa pn + 1) 0 f9 (Nat.zero_le _) (by omega) i]
      by_cases e : i < zct 33 pa pn
      · rw [if_pos ⟨Nat.zero_le _, e⟩, if_pos e]
      · rw [if_neg (fun h => e h.2), if_neg e])
    rw [lp_X9_nearest_40, if_neg (fun h => absurd (zNle h (by omega) (by omega)) (by omega)), zfo, zns]
    by_cases v : zvb r (zdg (zct 33 pa pn) num) (zct 33 pa pn) = true
    · rw [if_neg (fun h => by rw [hl.2.mp h] at v; cases v), if_pos v, er, zone pn tu ga lk stp ea la we pa f8 num hpn hr hb hc]
      dsimp only
      have hz : ((10 * (s_X9_apart (zCo (zDv tu ga lk stp ea la we) pa (zaq r (zdg (zct 33 pa pn) num)) pn) goal)) + zon r) - zon (zaq r (zdg (zct 33 pa pn) num) (zct 33 pa pn)) = zval r (zct 33 pa pn) pn (zDv tu ga lk stp ea la we) pa goal num := rfl
      rw [ho, ho, h111, hz]
      by_cases w : x ≤ zval r (zct 33 pa pn) pn (zDv tu ga lk stp ea la we) pa goal num
      · rw [if_pos w, if_pos w]; exact ih (num + 1) fu _ _ _ _ _ _ _ (by omega) (by omega)
      · rw [if_neg w, if_neg w]; exact ih (num + 1) fu _ _ _ _ _ _ _ (by omega) (by omega)
    · rw [if_pos (hl.2.mpr (by simpa using v)), if_neg v]
      exact ih (num + 1) fu _ _ _ _ _ _ _ (by omega) (by omega)
def zpk (t : Nat) : Int32 := if t = 6 then -6 else nI t
def zR2 (ns : Nat) (off thr : Int32) (be : Nat → Int32) (x : Int32 × (Nat → Int32)) : Prop := ∃ o t, o ≤ 1140 ∧ t ≤ 6 ∧ off = nI o ∧ thr = nI t ∧ x.1 = nI (10 * o + t) ∧ ∀ k, k < ns → ∃ d, d < 7 ∧ x.2 k = nI d ∧ be k = zpk d
def zRR (ns : Nat) (off thr : Int32) (be : Nat → Int32) (x : Int32 × (Nat → Int32)) : Prop := (off = 1201 ∧ x.1 = 100000) ∨ zR2 ns off thr be x
theorem zleaf (ns : Nat) (go off thr pl tm vl : Int32) (pk be : Nat → Int32) (x : Int32 × (Nat → Int32)) (d : Nat → Nat) (T : Nat) (hgo : -600 ≤ go.toInt ∧ go.toInt ≤ 600) (hpl : -540 ≤ pl.toInt ∧ pl.toInt ≤ 540) (hT : T ≤ 6) (htm : tm = nI T) (hd : ∀ k, k < ns → d k < 7) (hpk : ∀ k, k < ns → pk k = zpk (d k)) (hvl : ∀ A, s_X9_apart pl go = nI A → A ≤ 1140 → vl = nI (10 * A + T)) (hR : zRR ns off thr be x) :
    zR2 ns (s_X6_end_off go off thr pl tm) (s_X6_end_thr go off thr pl tm) (s_X6_end_be go off thr pk be pl tm) (if x.1 ≤ vl then x else (vl, fun j => if j < ns then nI (d j) else x.2 j)) := by
  have hap := zap_le (a := pl) (b := go) (B := 540) hpl hgo (by omega)
  have he := zap (a := pl) (b := go) (by omega) (by omega)
  unfold s_X6_end_off s_X6_end_thr s_X6_end_be
  rw [he]
  obtain ⟨A, hA, eA⟩ : ∃ A, A ≤ 1140 ∧ s_X9_apart pl go = nI A := by
    obtain ⟨A, h1, h2⟩ := nI_of (x := s_X9_apart pl go) (fun h => by rw [Int32.lt_iff_toInt_lt, show (0 : Int32).toInt = 0 by decide] at h; omega)
    refine ⟨A, ?_, h2⟩
    rw [h2, nI_toInt h1] at hap
    omega
  have hvl := hvl A eA hA
  rw [eA, hvl, htm]
  have hnew : zR2 ns (nI A) (nI T) pk (nI (10 * A + T), fun j => if j < ns then nI (d j) else x.2 j) := ⟨A, T, hA, hT, rfl, rfl, rfl, fun k hk => ⟨d k, hd k hk, by dsimp only; rw [if_pos hk], hpk k hk⟩⟩
  rcases hR with ⟨h1, h2⟩ | ⟨o, t, ho, ht, e1, e2, e3, e4⟩
  · have c1 : nI A < off := by rw [h1]; exact (nI_ltI (b := 1201) (by omega) (by omega)).mpr (by omega)
    have c2 : ¬ x.1 ≤ nI (10 * A + T) := by rw [h2]; exact fun h => absurd (zNle (a := 100000) h (by omega) (by omega)) (by omega)
    rw [if_pos c1, if_pos c1, if_pos c1, if_neg c2]
    exact hnew
  · have hold : zR2 ns off thr be x := ⟨o, t, ho, ht, e1, e2, e3, e4⟩
    by_cases c1 : A < o
    · have c2 : nI A < off := by rw [e1]; exact (nI_ltI (by omega) (by omega)).mpr c1
      have c3 : ¬ x.1 ≤ nI (10 * A + T) := by rw [e3]; exact fun h => absurd (zNle h (by omega) (by omega)) (by omega)
      rw [if_pos c2, if_pos c2, if_pos c2, if_neg c3]
      exact hnew
    · have c2 : ¬ nI A < off := by rw [e1]; exact fun h => c1 (zNlt h (by omega) (by omega))
      rw [if_neg c2, if_neg c2, if_neg c2]
      by_cases c3 : A = o
      · have c4 : nI A = off := by rw [e1, c3]
        rw [if_pos c4, if_pos c4, if_pos c4]
        by_cases c5 : t ≤ T
        · have c6 : thr ≤ nI T := by rw [e2]; exact (nI_leI (by omega) (by omega)).mpr c5
          have c7 : x.1 ≤ nI (10 * A + T) := by rw [e3]; exact (nI_leI (by omega) (by omega)).mpr (by omega)
          rw [if_pos c6, if_pos c6, if_pos c6, if_pos c7]
          exact hold
        · have c6 : ¬ thr ≤ nI T := by rw [e2]; exact fun h => c5 (zNle h (by omega) (by omega))
          have c7 : ¬ x.1 ≤ nI (10 * A + T) := by rw [e3]; exact fun h => absurd (zNle h (by omega) (by omega)) (by omega)
          rw [if_neg c6, if_neg c6, if_neg c6, if_neg c7]
          exact hnew
      · have c4 : ¬ nI A = off := by rw [e1]; exact fun h => c3 (zNeq h (by omega) (by omega))
        have c7 : x.1 ≤ nI (10 * A + T) := by rw [e3]; exact (nI_leI (by omega) (by omega)).mpr (by omega)
        rw [if_neg c4, if_neg c4, if_neg c4, if_pos c7]
        exact hold
/-- the class's loop over the things, beside the model's blocks -/
theorem zseek37 (wf : Nat → Int32 → Int32 → Int32 → (Nat → Int32) → (Nat → Int32) → Int32 → Int32 → (Nat → Int32) × (Nat → Int32) × Int32 × Int32) (dr : Nat → Int32) (W : Nat → Nat → Int32) (hdr : ∀ leg s, leg ≤ 12 → s < 64 → dr (leg * 64 + s) = W leg s) (ns q ab : Nat) (pl th : Int32) (d : Nat → Nat) (mst : Nat → Int32 × (Nat → Int32)) (hq : q < 6) (hab : ab < 64)
    (hno : ∀ t, t < 6 → ¬ ab.testBit t = true → mst (t + 1) = mst t)
    (hch : ∀ t, t < 6 → ab.testBit t = true → ∀ pk be off thr, (∀ k, k < q → pk k = zpk (d k)) → zRR ns off thr be (mst t) →
      zRR ns (wf (q + 1) (nI (zcl ab t)) (pl + W q ab) (th + 1) (upd pk q (nI t)) be off thr).2.2.1 (wf (q + 1) (nI (zcl ab t)) (pl + W q ab) (th + 1) (upd pk q (nI t)) be off thr).2.2.2 (wf (q + 1) (nI (zcl ab t)) (pl + W q ab) (th + 1) (upd pk q (nI t)) be off thr).2.1 (mst (t + 1)) ∧ ∀ k, k < q → (wf (q + 1) (nI (zcl ab t)) (pl + W q ab) (th + 1) (upd pk q (nI t)) be off thr).1 k = zpk (d k)) :
    ∀ (fu k : Nat) (off thr : Int32) (pk be : Nat → Int32), k ≤ 6 → 6 - k < fu → (∀ i, i < q → pk i = zpk (d i)) → zRR ns off thr be (mst k) →
      zRR ns (lp_X8_seek_37 wf dr q (nI ab) pl th fu k off thr pk be).1 (lp_X8_seek_37 wf dr q (nI ab) pl th fu k off thr pk be).2.1 (lp_X8_seek_37 wf dr q (nI ab) pl th fu k off thr pk be).2.2.2 (mst 6) ∧ ∀ i, i < q → (lp_X8_seek_37 wf dr q (nI ab) pl th fu k off thr pk be).2.2.1 i = zpk (d i) := by
  intro fu
  induction fu with
  | zero => intro k off thr pk be _ h; exact absurd h (Nat.not_lt_zero _)
  | succ fu ih =>
    intro k off thr pk be hk hfu hpk hR
    rw [lp_X8_seek_37]
    by_cases c : (6 : Int32) ≤ nI k
    · have := zNle (a := 6) c (by omega) (by omega)
      have hk6 : k = 6 := by omega
      subst hk6
      rw [if_pos c]
      exact ⟨hR, hpk⟩
    · have hk6 := zNnle (a := 6) (b := k) c (by omega) (by omega)
      rw [if_neg c, zb_has hk6 hab]
      by_cases e : ab.testBit k = true
      · rw [if_pos e, if_neg (by decide), zb_wo hk6 hab, zcd hdr (by omega) hab, zput hq (by decide)]
        obtain ⟨g1, g2⟩ := hch k hk6 e pk be off thr hpk hR
        exact ih (k + 1) _ _ _ _ (by omega) (by omega) g2 g1
      · rw [if_neg e, if_pos rfl]
        exact ih (k + 1) _ _ _ _ (by omega) (by omega) hpk (by rw [hno k hk6 e]; exact hR)
