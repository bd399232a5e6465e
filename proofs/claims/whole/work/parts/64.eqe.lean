theorem zones : ∀ r, r < 64 → lp_X9_ones_4 ((nI r).toBitVec.toNat + 1) (nI r) 0 = s_J6_bitCount_0f7a4 (nI r) := by decide +kernel
theorem zfault2 (pn : Nat) (we pa : Nat → Int32) (hpn : pn ≤ 60) : (lp_X8_firstFault_12 pn pa (pn + 1) 0 0 (lp_X7_loaded_4 we 7 0 0) = -6) = (lp_X9_fault_9 pn pa (pn + 1) 0 0 (lp_X9_loaded_4 we 7 0 0) < 0) := by
  rw [zfault pn we pa hpn, zft0 pn pa hpn]
/-- promise 8 -/
theorem E_at (pn : Nat) (tu ga lk stp dbt win : Int32) (ea la we pa : Nat → Int32) (mm what : Int32) (hpn : pn ≤ 60) (hst : 1 ≤ stp) (hlk : 0 ≤ lk) (hga : 0 ≤ ga) (hpad : zpad pn pa) : s_X8_at (nmF tu ga lk stp dbt win) (wdF ea la) we pn pa mm what = s_X9_at pn tu ga lk stp ea la we pa mm what := by
  unfold s_X8_at s_X9_at
  simp only [zfault2 pn we pa hpn, zn1]
  rw [zwi (a := mm) (lo := -1) (hi := nI (zct 46 pa pn)) (by decide) rfl, zwi (a := what) (lo := 0) (hi := 3) (by decide) (by decide)]
  by_cases c : lp_X9_fault_9 pn pa (pn + 1) 0 0 (lp_X9_loaded_4 we 7 0 0) < 0
  · rw [if_pos c, if_pos c]
    by_cases w : s_X8_within mm (-1) (nI (zct 46 pa pn)) = 0
    · rw [if_pos w, if_pos w]
    · rw [if_neg w, if_neg w]
      by_cases w2 : s_X8_within what 0 3 = 0
      · rw [if_pos w2, if_pos w2]
      · rw [if_neg w2, if_neg w2]
        have hm : mm = -1 ∨ ∃ j, mm = nI j ∧ 0 ≤ j ∧ j ≤ 60 := by
          have h1 := zw_of w
          by_cases e : mm < 0
          · refine Or.inl ?_
            have h2 := h1.1
            rw [Int32.le_iff_toInt_le] at h2
            rw [Int32.lt_iff_toInt_lt] at e
            exact Int32.toInt_inj.mp (by have h3 : (-1 : Int32).toInt = -1 := by decide
                                         have h4 : (0 : Int32).toInt = 0 := by decide
                                         omega)
          · obtain ⟨j, hj, rfl⟩ := nI_of e
            have hz := zct_le 46 pa pn
            have := zNle h1.2 hj (by omega)
            exact Or.inr ⟨j, rfl, Nat.zero_le _, by omega⟩
        obtain ⟨s, hs, es⟩ := zld0 we
        obtain ⟨r, pl', g', mn', hr, hg', e1, e2⟩ := zat_eq pn tu ga lk stp dbt win ea la we pa mm hpn hst hlk hpad (pn + 1) 0 0 ga s 0 (by omega) hs hga (by omega) hm
        rw [show nI 0 = (0 : Int32) from rfl] at e1 e2
        rw [zld we, es, e1, e2, zht tu ga lk stp dbt win we hr hst, ← zones r hr]
  · rw [if_neg c, if_neg c]
/-- promise 7 -/
theorem E_fault (pn : Nat) (we pa : Nat → Int32) (hpn : pn ≤ 60) : lp_X8_firstFault_12 pn pa (pn + 1) 0 0 (lp_X7_loaded_4 we 7 0 0) = lp_X9_fault_9 pn pa (pn + 1) 0 0 (lp_X9_loaded_4 we 7 0 0) := zfault pn we pa hpn
theorem zcelv {n : Nat} {f : Nat → Int32} {i : Int32} (h : vp_in i n) (hn : n < 2 ^ 31) : s_X8_cell n f i = f i.toNatClampNeg := by
  have h0 := zw_nat (Int32.not_lt.mp (fun q => h (Or.inl q)))
  have hl : i.toNatClampNeg < n := Nat.not_le.mp (fun q => h (Or.inr q))
  generalize i.toNatClampNeg = j at h0 hl ⊢
  rw [h0]; exact zcel hl hn
theorem zputv {n : Nat} {f : Nat → Int32} {i v : Int32} (h : vp_in i n) (hn : n < 2 ^ 31) : s_X8_put_f n f i v = upd f i.toNatClampNeg v := by
  have h0 := zw_nat (Int32.not_lt.mp (fun q => h (Or.inl q)))
  have hl : i.toNatClampNeg < n := Nat.not_le.mp (fun q => h (Or.inr q))
  unfold s_X8_put_f
  rw [if_neg (fun q => h (Or.inl q)), if_neg]
  intro q
  rw [h0] at q
  have := zNle (a := n) (b := i.toNatClampNeg) q hn (by omega)
  omega
theorem zwvp {v hi : Int32} {n : Nat} (h : ¬ s_X8_within v 0 hi = 0) (hh : hi.toInt < n) : vp_in v n := zle_vp (zw_of h).1 (zw_of h).2 hh
/-- promise 4 -/
theorem E_load (we : Nat → Int32) (t v : Int32) : s_X8_load we t v = s_X9_load we t v ∧ s_X8_load_wt we t v = s_X9_load_we we t v := by
  unfold s_X8_load s_X9_load s_X8_load_wt s_X9_load_we
  simp only [zwi05, zwi (a := v) (lo := 0) (hi := 20) (l := 0) (h := 20) (by decide) (by decide)]
  by_cases c : s_X8_within t 0 5 = 0
  · simp only [if_pos c]; exact ⟨trivial, trivial⟩
  · have ht := zwvp (n := 6) c (by decide)
    simp only [if_neg c, zcelv ht (by decide), zputv ht (by decide)]
    exact ⟨trivial, trivial⟩
/-- promise 5 -/
theorem E_say (pn : Nat) (pa : Nat → Int32) (sgn : Int32) (hpn : pn ≤ 60) : s_X8_say pn sgn = s_X9_say pn sgn ∧ s_X8_say_len pn sgn = s_X9_say_pn pn sgn ∧ s_X8_say_sg pn pa sgn = s_X9_say_pa pn pa sgn := by
  unfold s_X8_say s_X9_say s_X8_say_len s_X9_say_pn s_X8_say_sg s_X9_say_pa
  simp only [zwi (a := sgn) (lo := 33) (hi := 126) (l := 33) (h := 126) (by decide) (by decide)]
  by_cases c : s_X8_within sgn 33 126 = 0
  · simp only [if_pos c]; exact ⟨trivial, trivial, trivial⟩
  · simp only [if_neg c]
    by_cases d : nI pn = 60
    · have h1 : ¬ nI pn < 60 := by rw [d]; decide
      simp only [if_pos d, if_neg h1]; exact ⟨trivial, trivial, trivial⟩
    · have h2 := zNne (a := pn) (b := 60) d (by omega) (by decide)
      have h1 : nI pn < 60 := (nI_ltI (a := pn) (b := 60) (by omega) (by decide)).mpr (by omega)
      have h3 : s_X8_put_f 60 pa (nI pn) sgn = upd pa pn sgn := by
        rw [zputv (vp_in_of2 (show pn < 60 by omega) (by omega)) (by decide), nI_clamp (by omega)]
      simp only [if_neg d, if_pos h1, h3]; exact ⟨trivial, trivial, trivial⟩
theorem E_say_pad {pn : Nat} {pa : Nat → Int32} (sgn : Int32) (h : zpad pn pa) : zpad (s_X9_say_pn pn sgn) (s_X9_say_pa pn pa sgn) := by
  unfold s_X9_say_pn s_X9_say_pa
  rw [zwi (a := sgn) (lo := 33) (hi := 126) (l := 33) (h := 126) (by decide) (by decide)]
  by_cases c : s_X8_within sgn 33 126 = 0
  · simp only [if_pos c]; exact h
  · simp only [if_neg c]
    by_cases d : nI pn = 60
    · simp only [if_pos d]; exact h
    · simp only [if_neg d]
      intro k hk
      by_cases e : k = pn
      · subst e; rw [pk_us]; exact zpad_of c
      · rw [pk_un e]; exact h k (by omega)
theorem E_say_le {pn : Nat} (sgn : Int32) (h : pn ≤ 60) : s_X9_say_pn pn sgn ≤ 60 := by
  unfold s_X9_say_pn
  by_cases c : s_X9_in (Int32.toInt64 sgn) 33 126 = 0
  · rw [if_pos c]; exact h
  · rw [if_neg c]
    by_cases d : nI pn = 60
    · rw [if_pos d]; exact h
    · rw [if_neg d]
      have h2 := zNne (a := pn) (b := 60) d (by omega) (by decide)
      omega
/-- promise 17 -/
theorem E_fell (sn : Nat) (mT mP : Nat → Int32) (t pl : Int32) (hsn : sn ≤ 6) : s_X8_fell sn t pl = s_X9_fell sn t pl ∧ s_X8_fell_sn sn t pl = s_X9_fell_sn sn t pl ∧ s_X8_fell_sT sn mT t pl = s_X9_fell_mT sn mT t pl ∧ s_X8_fell_sP sn mP t pl = s_X9_fell_mP sn mP t pl := by
  unfold s_X8_fell s_X9_fell s_X8_fell_sn s_X9_fell_sn s_X8_fell_sT s_X9_fell_mT s_X8_fell_sP s_X9_fell_mP
  simp only [zwi05, zwi (a := pl) (lo := -600) (hi := 600) (l := -600) (h := 600) (by decide) (by decide)]
  by_cases c : s_X8_within t 0 5 = 0
  · simp only [if_pos c]; exact ⟨trivial, trivial, trivial, trivial⟩
  · simp only [if_neg c]
    by_cases c2 : s_X8_within pl (-600) 600 = 0
    · simp only [if_pos c2]; exact ⟨trivial, trivial, trivial, trivial⟩
    · simp only [if_neg c2]
      by_cases d : nI sn = 6
      · have h1 : ¬ nI sn < 6 := by rw [d]; decide
        simp only [if_pos d, if_neg h1]; exact ⟨trivial, trivial, trivial, trivial⟩
      · have h2 := zNne (a := sn) (b := 6) d (by omega) (by decide)
        have h1 : nI sn < 6 := (nI_ltI (a := sn) (b := 6) (by omega) (by decide)).mpr (by omega)
        have h3 : ∀ (f : Nat → Int32) (v : Int32), s_X8_put_f 6 f (nI sn) v = upd f sn v := fun f v => by
          rw [zputv (vp_in_of2 (show sn < 6 by omega) (by omega)) (by decide), nI_clamp (by omega)]
        simp only [if_neg d, if_pos h1, h3]; exact ⟨trivial, trivial, trivial, trivial⟩
