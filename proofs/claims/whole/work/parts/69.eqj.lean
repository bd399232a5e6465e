/-! two balloons side by side -/
def zT (tu ga lk stp : Int32) (ab : Int32) (ea la we : Nat → Int32) : Nat → Int32 × Int32 × Int32
  | 0 => (0, 0, ga)
  | k + 1 => ((zT tu ga lk stp ab ea la we k).1 + ((if tu ≤ (zT tu ga lk stp ab ea la we k).2.1 then la (s_X9_height stp (zT tu ga lk stp ab ea la we k).2.2 ab we).toNatClampNeg else ea (s_X9_height stp (zT tu ga lk stp ab ea la we k).2.2 ab we).toNatClampNeg) : Int32), (zT tu ga lk stp ab ea la we k).2.1 + 1, ((if (zT tu ga lk stp ab ea la we k).2.2 ≤ lk then 0 else (zT tu ga lk stp ab ea la we k).2.2 - lk) : Int32))
theorem zT_g (tu ga lk stp ab : Int32) (ea la we : Nat → Int32) (hga : 0 ≤ ga) (hlk : 0 ≤ lk) : ∀ k, 0 ≤ (zT tu ga lk stp ab ea la we k).2.2 := by
  intro k
  induction k with
  | zero => exact hga
  | succ k ih => exact zgs0 ih hlk
theorem zT_own (pn : Nat) (tu ga lk stp : Int32) (ea la we pa : Nat → Int32) (hpn : pn ≤ 60) : ∀ q k f, k ≤ zct 46 pa pn → zct 46 pa pn - k < q → ∀ j, (lp_X9_ahead_55 pn tu lk stp ea la we pa q k (zT tu ga lk stp (lp_X9_loaded_4 we 7 0 0) ea la we k).1 (zT tu ga lk stp (lp_X9_loaded_4 we 7 0 0) ea la we k).2.1 (zT tu ga lk stp (lp_X9_loaded_4 we 7 0 0) ea la we k).2.2 f).2.2.2 j = if k ≤ j ∧ j < zct 46 pa pn then (zT tu ga lk stp (lp_X9_loaded_4 we 7 0 0) ea la we (j + 1)).1 else f j := by
  have hz := zct_le 46 pa pn
  intro q
  induction q with
  | zero => intro k f _ h; exact absurd h (Nat.not_lt_zero _)
  | succ q ih =>
    intro k f hk hq j
    rw [lp_X9_ahead_55]
    by_cases c : nI (zct 46 pa pn) ≤ nI k
    · have := zNle c (by omega) (by omega)
      rw [if_pos c, if_neg (by omega)]
    · have := zNnle c (by omega) (by omega)
      rw [if_neg c]
      have h2 := ih (k + 1) (upd f k (zT tu ga lk stp (lp_X9_loaded_4 we 7 0 0) ea la we (k + 1)).1) (by omega) (by omega) j
      refine Eq.trans h2 ?_
      by_cases e : j = k
      · subst e
        rw [if_neg (by omega), if_pos (by omega), pk_us]
      · rw [pk_un e]
        by_cases d : k ≤ j ∧ j < zct 46 pa pn
        · rw [if_pos d, if_pos (by omega)]
        · rw [if_neg d, if_neg (by omega)]
theorem zand64 : ∀ r, r < 64 → ∀ t, t < 64 → nI r &&& nI t = nI (r &&& t) := by decide +kernel
theorem zand_lt {r t : Nat} (h : r < 64) : r &&& t < 64 := Nat.lt_of_le_of_lt Nat.and_le_left h
theorem zahead (pn : Nat) (tu ga lk stp dbt win : Int32) (ea la we pa pq : Nat → Int32) {r t : Nat} (hpn : pn ≤ 60) (hst : 1 ≤ stp) (hlk : 0 ≤ lk) (hga : 0 ≤ ga) (hr : r < 64) (er : lp_X9_loaded_4 we 7 0 0 = nI r) (ht : t < 64) : ∀ (q i : Nat) (x6 x5 : Int32), i ≤ zct 46 pa pn →
    (lp_X8_ahead_99 (nmF tu ga lk stp dbt win) (wdF ea la) we (nI t) q (zct 46 pa pn - i) x6 x5 (zT tu ga lk stp (nI r) ea la we i).1 (zT tu ga lk stp (nI r) ea la we i).2.2 (zT tu ga lk stp (nI r) ea la we i).2.1 (zT tu ga lk stp (nI (r &&& t)) ea la we i).1 (zT tu ga lk stp (nI (r &&& t)) ea la we i).2.2 (zT tu ga lk stp (nI (r &&& t)) ea la we i).2.1).2.1 = (lp_X9_ahead_103 pn tu ga lk stp ea la we pa pq (nI t) 0 q i x5 (zT tu ga lk stp (nI (r &&& t)) ea la we i).1 (zT tu ga lk stp (nI (r &&& t)) ea la we i).2.1 (zT tu ga lk stp (nI (r &&& t)) ea la we i).2.2).1
    ∧ ∀ what : Int32, ¬ what = 0 → (lp_X8_ahead_99 (nmF tu ga lk stp dbt win) (wdF ea la) we (nI t) q (zct 46 pa pn - i) x6 x5 (zT tu ga lk stp (nI r) ea la we i).1 (zT tu ga lk stp (nI r) ea la we i).2.2 (zT tu ga lk stp (nI r) ea la we i).2.1 (zT tu ga lk stp (nI (r &&& t)) ea la we i).1 (zT tu ga lk stp (nI (r &&& t)) ea la we i).2.2 (zT tu ga lk stp (nI (r &&& t)) ea la we i).2.1).1 = (lp_X9_ahead_103 pn tu ga lk stp ea la we pa pq (nI t) what q i x6 (zT tu ga lk stp (nI (r &&& t)) ea la we i).1 (zT tu ga lk stp (nI (r &&& t)) ea la we i).2.1 (zT tu ga lk stp (nI (r &&& t)) ea la we i).2.2).1 := by
  have hz := zct_le 46 pa pn
  intro q
  induction q with
  | zero => intro i x6 x5 _; exact ⟨rfl, fun _ _ => rfl⟩
  | succ q ih =>
    intro i x6 x5 hi
    rw [lp_X8_ahead_99]
    by_cases c : nI (zct 46 pa pn - i) ≤ 0
    · have hc := zNle (b := 0) c (by omega) (by omega)
      have c2 : nI (zct 46 pa pn) ≤ nI i := (nI_leI (by omega) (by omega)).mpr (by omega)
      rw [if_pos c]
      exact ⟨by rw [lp_X9_ahead_103, if_pos c2], fun what _ => by rw [lp_X9_ahead_103, if_pos c2]⟩
    · have hc := zNnle (b := 0) c (by omega) (by omega)
      have c2 : ¬ nI (zct 46 pa pn) ≤ nI i := fun q => absurd (zNle q (by omega) (by omega)) (by omega)
      rw [if_neg c]
      have hown : (lp_X9_ahead_55 pn tu lk stp ea la we pa (zct 46 pa pn + 1) 0 0 0 ga pq).2.2.2 i = (zT tu ga lk stp (nI r) ea la we (i + 1)).1 := by
        have := zT_own pn tu ga lk stp ea la we pa hpn (zct 46 pa pn + 1) 0 pq (Nat.zero_le _) (by omega) i
        rw [if_pos (by omega), er] at this
        exact this
      have g1 := zT_g tu ga lk stp (nI r) ea la we hga hlk i
      have g2 := zT_g tu ga lk stp (nI (r &&& t)) ea la we hga hlk i
      have hI := fun x6 x5 => ih (i + 1) x6 x5 (by omega)
      simp only [zld we, er, zand64 r hr t ht, zdr tu ga lk stp dbt win ea la we hr hst, zdr tu ga lk stp dbt win ea la we (zand_lt (t := t) hr) hst, zn2, zgs g1 hlk, zgs g2 hlk]
      have hk : zct 46 pa pn - i - 1 = zct 46 pa pn - (i + 1) := by omega
      rw [hk]
      have T1 : (zT tu ga lk stp (nI r) ea la we i).1 + ((if tu ≤ (zT tu ga lk stp (nI r) ea la we i).2.1 then la (s_X9_height stp (zT tu ga lk stp (nI r) ea la we i).2.2 (nI r) we).toNatClampNeg else ea (s_X9_height stp (zT tu ga lk stp (nI r) ea la we i).2.2 (nI r) we).toNatClampNeg) : Int32) = (zT tu ga lk stp (nI r) ea la we (i + 1)).1 := rfl
      have T2 : (zT tu ga lk stp (nI (r &&& t)) ea la we i).1 + ((if tu ≤ (zT tu ga lk stp (nI (r &&& t)) ea la we i).2.1 then la (s_X9_height stp (zT tu ga lk stp (nI (r &&& t)) ea la we i).2.2 (nI (r &&& t)) we).toNatClampNeg else ea (s_X9_height stp (zT tu ga lk stp (nI (r &&& t)) ea la we i).2.2 (nI (r &&& t)) we).toNatClampNeg) : Int32) = (zT tu ga lk stp (nI (r &&& t)) ea la we (i + 1)).1 := rfl
      have T3 : ((if (zT tu ga lk stp (nI r) ea la we i).2.2 ≤ lk then 0 else (zT tu ga lk stp (nI r) ea la we i).2.2 - lk) : Int32) = (zT tu ga lk stp (nI r) ea la we (i + 1)).2.2 := rfl
      have T4 : ((if (zT tu ga lk stp (nI (r &&& t)) ea la we i).2.2 ≤ lk then 0 else (zT tu ga lk stp (nI (r &&& t)) ea la we i).2.2 - lk) : Int32) = (zT tu ga lk stp (nI (r &&& t)) ea la we (i + 1)).2.2 := rfl
      have T5 : (zT tu ga lk stp (nI r) ea la we i).2.1 + 1 = (zT tu ga lk stp (nI r) ea la we (i + 1)).2.1 := rfl
      have T6 : (zT tu ga lk stp (nI (r &&& t)) ea la we i).2.1 + 1 = (zT tu ga lk stp (nI (r &&& t)) ea la we (i + 1)).2.1 := rfl
      rw [T1, T2, T3, T4, T5, T6]
      refine ⟨?_, fun what hw => ?_⟩
      · rw [lp_X9_ahead_103, if_neg c2, if_pos rfl, hown]
        simp only [er, zand64 r hr t ht]
        rw [T2, T4, T6]
        by_cases f : (zT tu ga lk stp (nI r) ea la we (i + 1)).1 ≤ (zT tu ga lk stp (nI (r &&& t)) ea la we (i + 1)).1
        · simp only [if_pos f]
          split
          · exact (hI _ _).1
          · exact (hI _ _).1
        · simp only [if_neg f]
          split
          · exact (hI _ _).1
          · exact (hI _ _).1
      · rw [lp_X9_ahead_103, if_neg c2, if_neg hw, hown]
        simp only [er, zand64 r hr t ht]
        rw [T2, T4, T6]
        by_cases f : (zT tu ga lk stp (nI (r &&& t)) ea la we (i + 1)).1 ≤ (zT tu ga lk stp (nI r) ea la we (i + 1)).1
        · simp only [if_pos f]; exact (hI _ _).2 what hw
        · simp only [if_neg f]; exact (hI _ _).2 what hw
/-- promise 20 -/
theorem E_ahead (pn : Nat) (tu ga lk stp dbt win : Int32) (ea la we pa pq : Nat → Int32) (set what : Int32) (hpn : pn ≤ 60) (hst : 1 ≤ stp) (hlk : 0 ≤ lk) (hga : 0 ≤ ga) : s_X8_ahead (nmF tu ga lk stp dbt win) (wdF ea la) we pn pa set what = s_X9_ahead pn tu ga lk stp ea la we pa pq set what := by
  unfold s_X8_ahead s_X9_ahead
  rw [zwi (a := set) (lo := 0) (hi := 63) (l := 0) (h := 63) (by decide) (by decide), zwi (a := what) (lo := 0) (hi := 1) (l := 0) (h := 1) (by decide) (by decide)]
  refine zframe pn we pa hpn _ _ _ _ (fun h1 h2 h3 => ?_)
  obtain ⟨t, -, ht, rfl⟩ := zwr (a := 0) (b := 63) h1 (by decide) (by decide)
  obtain ⟨r, hr, er⟩ := zld0 we
  have hA := zahead pn tu ga lk stp dbt win ea la we pa pq (r := r) (t := t) hpn hst hlk hga hr er (by omega) (zct 46 pa pn + 1) 0 0 0 (Nat.zero_le _)
  rw [zn1]
  by_cases w : what = 0
  · rw [if_pos w, w]; exact hA.1
  · rw [if_neg w]; exact hA.2 what w
