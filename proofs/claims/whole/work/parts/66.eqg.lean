/-! what refuses a choice -/
theorem zffs (pn : Nat) (pa : Nat → Int32) (hpn : pn ≤ 60) : ∀ q k x ab, k ≤ pn → pn - k < q → lp_X9_fault_9 pn pa q k x ab = -6 → ∀ j, k ≤ j → j < pn → pa j = 46 ∨ pa j = 33 ∨ ¬ s_X8_within (pa j - 97) 0 5 = 0 := by
  intro q
  induction q with
  | zero => intro k x ab _ h; exact absurd h (Nat.not_lt_zero _)
  | succ q ih =>
    intro k x ab hk hq h j hkj hj
    rw [lp_X9_fault_9] at h
    by_cases c : nI pn ≤ nI k
    · exact absurd (zNle c (by omega) (by omega)) (by omega)
    · rw [if_neg c] at h
      have hkn := zNnle (a := pn) (b := k) c (by omega) (by omega)
      have key : ∀ {α : Prop} {C : Int32} {B : Int32}, (if C = 0 then nI k else B) = -6 → (¬ C = 0 → B = -6 → α) → α := by
        intro α C B h1 h2
        by_cases e : C = 0
        · rw [if_pos e] at h1; exact absurd h1 (znm6 (by omega))
        · rw [if_neg e] at h1; exact h2 e h1
      refine key h (fun hC hB => ?_)
      rcases Nat.lt_or_ge k j with hlt | hge
      · exact ziteP (fun v => v = -6 → pa j = 46 ∨ pa j = 33 ∨ ¬ s_X8_within (pa j - 97) 0 5 = 0) (fun h1 => ih _ _ _ (by omega) (by omega) h1 j (by omega) hj) (fun h1 => ih _ _ _ (by omega) (by omega) h1 j (by omega) hj) hB
      · have : j = k := by omega
        subst this
        by_cases e1 : pa j = 46
        · exact Or.inl e1
        · by_cases e2 : pa j = 33
          · exact Or.inr (Or.inl e2)
          · refine Or.inr (Or.inr (fun w => hC ?_))
            rw [if_neg e1, if_neg e2, zwi05, if_pos w, if_pos rfl]
theorem zall (f : Nat → Int32) : ∀ n, zct 46 f n + zct 33 f n ≤ n ∧ ((∀ j, j < n → f j = 46 ∨ f j = 33) ↔ n ≤ zct 46 f n + zct 33 f n) := by
  intro n
  induction n with
  | zero => exact ⟨by simp [zct], ⟨fun _ => Nat.zero_le _, fun _ j h => absurd h (Nat.not_lt_zero _)⟩⟩
  | succ n ih =>
    rw [zct, zct]
    by_cases a : f n = 46
    · have b : ¬ f n = 33 := by rw [a]; decide
      rw [if_pos a, if_neg b]
      refine ⟨by omega, ⟨fun h => ?_, fun h j hj => ?_⟩⟩
      · have := ih.2.mp (fun j hj => h j (by omega)); omega
      · rcases Nat.lt_or_ge j n with q | q
        · exact ih.2.mpr (by omega) j q
        · rw [show j = n by omega]; exact Or.inl a
    · by_cases b : f n = 33
      · rw [if_neg a, if_pos b]
        refine ⟨by omega, ⟨fun h => ?_, fun h j hj => ?_⟩⟩
        · have := ih.2.mp (fun j hj => h j (by omega)); omega
        · rcases Nat.lt_or_ge j n with q | q
          · exact ih.2.mpr (by omega) j q
          · rw [show j = n by omega]; exact Or.inr b
      · rw [if_neg a, if_neg b]
        refine ⟨by omega, ⟨fun h => ?_, fun h => ?_⟩⟩
        · rcases h n (by omega) with e | e
          · exact absurd e a
          · exact absurd e b
        · have := ih.1; omega
theorem zth46 : s_X8_thingOf 46 = -6 := by decide
theorem zth33 : s_X8_thingOf 33 = -6 := by decide
theorem zthr (pn : Nat) (pa : Nat → Int32) (hpn : pn ≤ 60) : ∀ q k, k ≤ pn → pn - k < q → (∀ j, k ≤ j → j < pn → pa j = 46 ∨ pa j = 33 ∨ ¬ s_X8_within (pa j - 97) 0 5 = 0) → (lp_X4_hasThrow_2 pn pa q k = 0 ↔ ∀ j, k ≤ j → j < pn → pa j = 46 ∨ pa j = 33) := by
  intro q
  induction q with
  | zero => intro k _ h; exact absurd h (Nat.not_lt_zero _)
  | succ q ih =>
    intro k hk hq h
    rw [lp_X4_hasThrow_2]
    by_cases c : nI pn ≤ nI k
    · have := zNle c (by omega) (by omega)
      rw [if_pos c]
      exact ⟨fun _ j h1 h2 => by omega, fun _ => rfl⟩
    · have hkn := zNnle (a := pn) (b := k) c (by omega) (by omega)
      rw [if_neg c, zcel (by omega) (by decide)]
      have hi := ih (k + 1) (by omega) (by omega) (fun j h1 h2 => h j (by omega) h2)
      by_cases t : s_X8_thingOf (pa k) = -6
      · rw [if_pos t, hi]
        refine ⟨fun g j h1 h2 => ?_, fun g j h1 h2 => g j (by omega) h2⟩
        rcases Nat.lt_or_ge k j with hlt | hge
        · exact g j (by omega) h2
        · have : j = k := by omega
          subst this
          rcases h j (by omega) h2 with e | e | e
          · exact Or.inl e
          · exact Or.inr e
          · obtain ⟨i, hi6, ei⟩ := zw05_of e
            rw [zth_on _ e, ei] at t
            exact absurd t (znm6 (by omega))
      · rw [if_neg t]
        refine ⟨fun g => absurd g (by decide), fun g => ?_⟩
        rcases g k (by omega) hkn with e | e
        · rw [e] at t; exact absurd zth46 t
        · rw [e] at t; exact absurd zth33 t
/-- the class's refusal of a course is the model's -/
theorem zcr (pn : Nat) (we pa : Nat → Int32) (hpn : pn ≤ 60) (inside : Int32) : s_X8_courseRefusal we pn pa inside = if inside = 0 then -2 else (if s_X9_refusal pn we pa 60 = -6 then 0 else s_X9_refusal pn we pa 60) := by
  unfold s_X8_courseRefusal s_X9_refusal
  simp only [zfault2 pn we pa hpn]
  by_cases i : inside = 0
  · rw [if_pos i, if_pos i]
  · rw [if_neg i, if_neg i]
    by_cases c : lp_X9_fault_9 pn pa (pn + 1) 0 0 (lp_X9_loaded_4 we 7 0 0) < 0
    · rw [if_pos c, if_pos c]
      have c6 : lp_X9_fault_9 pn pa (pn + 1) 0 0 (lp_X9_loaded_4 we 7 0 0) = -6 := by rw [← zft0 pn pa hpn]; exact c
      have hs := zffs pn pa hpn (pn + 1) 0 0 _ (by omega) (by omega) c6
      have ht := zthr pn pa hpn (pn + 1) 0 (by omega) (by omega) hs
      have ha := zall pa pn
      have h12 := zmf_k pn pa hpn (pn + 1) 0 0 (lp_X9_loaded_4 we 7 0 0) (by omega) (by omega) rfl (Nat.zero_le _) c
      have z1 := zct_le 46 pa pn
      rw [pk_sub z1, pk_sub (show zct 33 pa pn ≤ pn - zct 46 pa pn by omega)]
      have hz : (nI (pn - zct 46 pa pn - zct 33 pa pn) ≤ 0) = (pn ≤ zct 46 pa pn + zct 33 pa pn) := propext ⟨fun q => by have := zNle (b := 0) q (by omega) (by omega); omega, fun q => (nI_leI (b := 0) (by omega) (by omega)).mpr (by omega)⟩
      have hm : nI (zct 33 pa pn) ≤ 60 := (nI_leI (b := 60) (by omega) (by omega)).mpr (by omega)
      simp only [hz, if_pos hm]
      by_cases d : pn ≤ zct 46 pa pn + zct 33 pa pn
      · have := ht.mpr (fun j _ hj => ha.2.mpr d j hj)
        simp only [if_pos this, if_pos d, if_true]
      · have : ¬ lp_X4_hasThrow_2 pn pa (pn + 1) 0 = 0 := fun q => d (ha.2.mp (fun j hj => ht.mp q j (Nat.zero_le _) hj))
        rw [if_neg this, if_neg d, if_neg (by decide)]
    · rw [if_neg c, if_neg c, if_neg (by decide)]
