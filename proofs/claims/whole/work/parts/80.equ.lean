/-! doubts and pepper: the class is the model -/
theorem zpr_le {pa : Nat → Int32} {n mt more a b : Nat} (h : a ≤ b) : zpr pa n mt more a ≤ zpr pa n mt more b := by
  have := zpr_mono pa n mt more a (b - a)
  rw [show a + (b - a) = b by omega] at this
  exact this
theorem zgw2 (mi : Nat → Int32) (len : Nat) (sg : Nat → Int32) (mt more : Nat) (hlen : len ≤ 60) (hmo : more ≤ 12) (h12 : zct 33 sg len ≤ 12) (hin : mt ≤ zct 46 sg len) : ∀ m i, m < 61 → zpr sg len mt more m ≤ i → i < zpr sg len mt more (m + 1) → s_X5_gather_mi mi len sg mt more i = nI m := by
  intro m i hm h1 h2
  have hz := zct_le 46 sg len
  rcases Nat.lt_or_ge (zct 46 sg len) m with h | h
  · rw [zpr, zsn_0 sg m len h, if_neg (show ¬ m = mt by omega)] at h2
    omega
  · exact zgw mi len sg mt more hlen hmo (by omega) h12 hin m i h h1 h2
theorem zp61 (sg : Nat → Int32) (len mt more : Nat) (hlen : len ≤ 60) (hin : mt ≤ zct 46 sg len) : zpr sg len mt more 61 = zct 33 sg len + more := by
  have hz := zct_le 46 sg len
  rw [show (61 : Nat) = 60 + 1 from rfl, zpr_all sg mt more len 60 (by omega), if_pos (by omega)]
theorem zcn61 (mi : Nat → Int32) (len : Nat) (sg : Nat → Int32) (mt more : Nat) (hlen : len ≤ 60) (hmo : more ≤ 12) (hin : mt ≤ zct 46 sg len) : s_X5_gather_cn mi len sg mt more = zpr sg len mt more 61 := by
  have hz := zct_le 46 sg len
  rw [zg_cn mi len sg mt more hlen hmo (by omega), zp61 sg len mt more hlen hin, if_pos hin]
/-- none is doubted: on both sides -/
theorem zdoubt (len : Nat) (sg mi g : Nat → Int32) (tu ga lk stp : Int32) (mt more w dn : Nat) (hw : 1 ≤ w ∧ w ≤ 20) (hd : dn < 100) (hlen : len ≤ 60) (hmo : more ≤ 12) (h12 : zct 33 sg len ≤ 12) (hin : mt ≤ zct 46 sg len) (hg : ∀ m, m < 61 → g m = nI (zsn sg m len + (if m = mt then more else 0))) :
    (s_X8_doubtWith (nmF tu ga lk stp (nI dn) (nI w)) len sg mi mt more = -6) ↔ (lp_X9_isDoubted_4 (nI dn) (nI w) g 62 0 0 = 0) := by
  unfold s_X8_doubtWith
  have hcn := zcn61 mi len sg mt more hlen hmo hin
  have h61 := zp61 sg len mt more hlen hin
  have hle : ∀ a b, a ≤ b → zpr sg len mt more a ≤ zpr sg len mt more b := fun a b h => zpr_le h
  have h24 : zpr sg len mt more 61 ≤ 24 := by omega
  have hPT : ∀ m, zpr sg len mt more (m + 1) = zpr sg len mt more m + (zsn sg m len + (if m = mt then more else 0)) := fun m => by rw [zpr, Nat.add_assoc]
  rw [zn4, zn5, hcn]
  rw [zfd_all (zpr sg len mt more) (s_X5_gather_mi mi len sg mt more) w dn hw hd hle rfl h24 (zgw2 mi len sg mt more hlen hmo h12 hin) _ 0 (Nat.zero_le _) (by omega)]
  rw [zisd (zpr sg len mt more) (fun m => zsn sg m len + (if m = mt then more else 0)) g w dn hw hd hle h24 hPT hg 62 0 (by omega) (by omega)]
  constructor
  · intro h m _ hm
    by_cases e : zsn sg m len + (if m = mt then more else 0) = 0
    · exact Or.inl e
    · right
      have h1 := hPT m
      have h2 := h m (zpr sg len mt more (m + 1) - 1) hm (by omega) (by omega) (Nat.zero_le _)
      have h3 := hle (m + 1 - w) (m + 1) (by omega)
      omega
  · intro h m q hm h1 h2 _
    have h4 := hPT m
    rcases h m (Nat.zero_le _) hm with h3 | h3
    · omega
    · omega
/-- the two loops of pepper -/
theorem zpep (len : Nat) (sg : Nat → Int32) (tu ga lk stp minute : Int32) (mt w dn : Nat) (hw : 1 ≤ w ∧ w ≤ 20) (hd : dn < 100) (hlen : len ≤ 60) (h12 : zct 33 sg len ≤ 12) (hin : mt ≤ zct 46 sg len) (hmi : minute.toNatClampNeg = mt) :
    ∀ (fu k cq : Nat) (f g : Nat → Int32), k ≤ 12 → (∀ m, m < 61 → g m = nI (zsn sg m len + (if m = mt then k + 1 else 0))) →
    nI (lp_X8_pepper_48 (nmF tu ga lk stp (nI dn) (nI w)) len sg minute fu k cq f).1 = (lp_X9_pepper_38 (nI dn) (nI w) minute fu (k + 1) (nI k) g).1 := by
  have hz := zct_le 46 sg len
  intro fu
  induction fu with
  | zero => intro k cq f g _ _; rfl
  | succ fu ih =>
    intro k cq f g hk hg
    rw [lp_X8_pepper_48, lp_X9_pepper_38]
    by_cases c : (12 : Int32) ≤ nI k
    · have := zNle (a := 12) c (by omega) (by omega)
      rw [if_pos c, if_pos (show (12 : Int32) < nI (k + 1) from (nI_ltI (a := 12) (by omega) (by omega)).mpr (by omega))]
    · have hk12 := zNnle (a := 12) (b := k) c (by omega) (by omega)
      rw [if_neg c, if_neg (show ¬ (12 : Int32) < nI (k + 1) from fun h => absurd (zNlt (a := 12) (b := k + 1) h (by omega) (by omega)) (by omega)), hmi]
      have key := zdoubt len sg f g tu ga lk stp mt (k + 1) w dn hw hd hlen (by omega) h12 hin hg
      by_cases d : s_X8_doubtWith (nmF tu ga lk stp (nI dn) (nI w)) len sg f mt (k + 1) = -6
      · rw [if_pos d, if_pos (key.mp d)]
        refine ih (k + 1) _ _ _ (by omega) (fun m hm => ?_)
        by_cases e : m = mt
        · rw [e, pk_us, hg mt (by omega), if_pos rfl, if_pos rfl, nI_1]; rfl
        · rw [pk_un e, hg m hm, if_neg e, if_neg e]
      · rw [if_neg d, if_neg (fun h => d (key.mpr h))]
theorem E_pepper (pn : Nat) (tu ga lk stp : Int32) (we pa sa mi : Nat → Int32) (minute : Int32) (w dn : Nat) (hw : 1 ≤ w ∧ w ≤ 20) (hd : dn < 100) (hpn : pn ≤ 60) : s_X8_pepper (nmF tu ga lk stp (nI dn) (nI w)) we pn pa mi minute = s_X9_pepper pn (nI dn) (nI w) we pa sa minute := by
  unfold s_X8_pepper s_X9_pepper
  simp only [zfault2 pn we pa hpn]
  by_cases c : lp_X9_fault_9 pn pa (pn + 1) 0 0 (lp_X9_loaded_4 we 7 0 0) < 0
  · rw [if_pos c, if_pos c]
    have h12 := zmf_k pn pa hpn (pn + 1) 0 0 (lp_X9_loaded_4 we 7 0 0) (by omega) (by omega) rfl (Nat.zero_le _) c
    rw [zwi (a := minute) (lo := 0) (hi := nI (zct 46 pa pn)) (by decide) rfl]
    by_cases d : s_X8_within minute 0 (nI (zct 46 pa pn)) = 0
    · rw [if_pos d, if_pos d]
    · rw [if_neg d, if_neg d]
      have hz := zct_le 46 pa pn
      have hin := zwl d (by omega)
      have hfs := zfs pn pa sa hpn
      have key := zdoubt pn pa mi (lp_X9_findSneezes_25 pn pa (pn + 1) 0 0 (lp_X9_findSneezes_4 62 0 sa)) tu ga lk stp minute.toNatClampNeg 0 w dn hw hd hpn (by omega) h12 hin (fun m hm => by rw [hfs m hm, ite_self]; rfl)
      rw [lp_X9_pepper_38, if_neg (show ¬ (12 : Int32) < nI 0 by decide)]
      by_cases e : s_X8_doubtWith (nmF tu ga lk stp (nI dn) (nI w)) pn pa mi minute.toNatClampNeg 0 = -6
      · rw [if_pos e, if_pos (key.mp e)]
        refine zpep pn pa tu ga lk stp minute minute.toNatClampNeg w dn hw hd hpn h12 hin rfl 13 0 _ _ _ (by omega) (fun m hm => ?_)
        by_cases e2 : m = minute.toNatClampNeg
        · rw [e2, pk_us, hfs _ (by omega), if_pos rfl, nI_1]
        · rw [pk_un e2, hfs m hm, if_neg e2]; rfl
      · rw [if_neg e, if_neg (fun h => e (key.mpr h))]
  · rw [if_neg c, if_neg c]
/-- the model's search for the first doubt beside the class's -/
theorem zdb30 (pn : Nat) (dbt : Int32) (pa sa f : Nat → Int32) (w cn : Nat) (hw : 1 ≤ w ∧ w ≤ 20) (hpn : pn ≤ 60) (P : Nat → Nat) (hP : ∀ m, P (m + 1) = P m + zsn pa m pn) (hmo : ∀ a b, a ≤ b → P a ≤ P b) (h0 : P 0 = 0) (h24 : P 61 ≤ 24) (hcn : cn = P 61) (hf : ∀ m i, m < 61 → P m ≤ i → i < P (m + 1) → f i = nI m) (m : Nat) (hm : m < 61) :
    ∀ fu j, j ≤ zsn pa m pn → zsn pa m pn - j < fu →
      ((lp_X9_doubted_30 pn dbt (nI w) pa sa m fu j (nI (P m + j))).1 = 0 → (lp_X9_doubted_30 pn dbt (nI w) pa sa m fu j (nI (P m + j))).2 = nI (P (m + 1)) ∧ lp_X5_firstDoubt_2 cn f dbt (nI w) (cn + 1 - (P m + j)) (P m + j) = lp_X5_firstDoubt_2 cn f dbt (nI w) (cn + 1 - P (m + 1)) (P (m + 1))) ∧
      (¬ (lp_X9_doubted_30 pn dbt (nI w) pa sa m fu j (nI (P m + j))).1 = 0 → lp_X5_firstDoubt_2 cn f dbt (nI w) (cn + 1 - (P m + j)) (P m + j) = (lp_X9_doubted_30 pn dbt (nI w) pa sa m fu j (nI (P m + j))).2) := by
  have hfs := zfs pn pa sa hpn
  have hPm := hP m
  have h61 := hmo (m + 1) 61 (by omega)
  have hww := hmo (m + 1 - w) m (by omega)
  intro fu
  induction fu with
  | zero => intro j _ h; exact absurd h (Nat.not_lt_zero _)
  | succ fu ih =>
    intro j hj hfu
    rw [lp_X9_doubted_30, hfs m hm]
    by_cases c : nI (zsn pa m pn) ≤ nI j
    · have := zNle c (by omega) (by omega)
      rw [if_pos c]
      have e : P m + j = P (m + 1) := by omega
      exact ⟨fun _ => ⟨by rw [e], by rw [e]⟩, fun h => absurd rfl h⟩
    · have hjl := zNnle c (by omega) (by omega)
      rw [if_neg c, zwith0 P (fun m => zsn pa m pn) _ w hw hmo hP hfs m hm, pk_sub (by omega), nI_add, nI_1]
      have hn := znear0 P f w hw hmo h0 h24 hf (P m + j) m hm (by omega) (by omega)
      have hF : lp_X5_firstDoubt_2 cn f dbt (nI w) (cn + 1 - (P m + j)) (P m + j) = (if nI (P m + j + 1 - P (m + 1 - w)) ≤ dbt then lp_X5_firstDoubt_2 cn f dbt (nI w) (cn + 1 - (P m + (j + 1))) (P m + (j + 1)) else nI (P m + j)) := by
        rw [show cn + 1 - (P m + j) = (cn - (P m + j)) + 1 by omega, lp_X5_firstDoubt_2, if_neg (fun h => absurd (zNle h (by omega) (by omega)) (by omega)), hn, show cn + 1 - (P m + (j + 1)) = cn - (P m + j) by omega]
        rfl
      rw [hF, show P (m + 1) - P (m + 1 - w) - zsn pa m pn + j + 1 = P m + j + 1 - P (m + 1 - w) by omega]
      by_cases d : nI (P m + j + 1 - P (m + 1 - w)) ≤ dbt
      · rw [if_pos d, if_pos d, nI_1]
        exact ih (j + 1) (by omega) (by omega)
      · rw [if_neg d, if_neg d]
        exact ⟨fun h => absurd h Nat.one_ne_zero, fun _ => rfl⟩
theorem zdb8 (pn : Nat) (dbt : Int32) (pa sa f : Nat → Int32) (w cn : Nat) (hw : 1 ≤ w ∧ w ≤ 20) (hpn : pn ≤ 60) (P : Nat → Nat) (hP : ∀ m, P (m + 1) = P m + zsn pa m pn) (hmo : ∀ a b, a ≤ b → P a ≤ P b) (h0 : P 0 = 0) (h24 : P 61 ≤ 24) (hcn : cn = P 61) (hf : ∀ m i, m < 61 → P m ≤ i → i < P (m + 1) → f i = nI m) :
    ∀ fu m, m ≤ 61 → 61 - m < fu → lp_X9_doubted_8 pn dbt (nI w) pa sa fu m (nI (P m)) = lp_X5_firstDoubt_2 cn f dbt (nI w) (cn + 1 - P m) (P m) := by
  have hfs := zfs pn pa sa hpn
  intro fu
  induction fu with
  | zero => intro m _ h; exact absurd h (Nat.not_lt_zero _)
  | succ fu ih =>
    intro m hm hfu
    rw [lp_X9_doubted_8]
    by_cases c : (61 : Int32) ≤ nI m
    · have := zNle (a := 61) c (by omega) (by omega)
      rw [if_pos c, show m = 61 by omega, ← hcn, show cn + 1 - cn = 0 + 1 by omega, lp_X5_firstDoubt_2, if_pos (Int32.le_refl _)]
    · have hm61 := zNnle (a := 61) (b := m) c (by omega) (by omega)
      have h61 := hmo (m + 1) 61 (by omega)
      have hPm := hP m
      rw [if_neg c, hfs m hm61, nI_clamp (by omega)]
      have h30 := zdb30 pn dbt pa sa f w cn hw hpn P hP hmo h0 h24 hcn hf m hm61 (zsn pa m pn + 1) 0 (Nat.zero_le _) (by omega)
      simp only [Nat.add_zero] at h30
      by_cases d : (lp_X9_doubted_30 pn dbt (nI w) pa sa m (zsn pa m pn + 1) 0 (nI (P m))).1 = 0
      · rw [if_pos d, (h30.1 d).1, (h30.1 d).2]
        exact ih (m + 1) (by omega) (by omega)
      · rw [if_neg d, h30.2 d]
theorem E_judge (pn : Nat) (tu ga lk stp : Int32) (we pa sa mi : Nat → Int32) (what : Int32) (w dn : Nat) (hw : 1 ≤ w ∧ w ≤ 20) (hpn : pn ≤ 60) : s_X8_judge (nmF tu ga lk stp (nI dn) (nI w)) we pn pa mi what = s_X9_judge pn (nI dn) (nI w) we pa sa what := by
  unfold s_X8_judge s_X9_judge
  simp only [zfault2 pn we pa hpn]
  by_cases c : lp_X9_fault_9 pn pa (pn + 1) 0 0 (lp_X9_loaded_4 we 7 0 0) < 0
  · rw [if_pos c, if_pos c]
    have h12 := zmf_k pn pa hpn (pn + 1) 0 0 (lp_X9_loaded_4 we 7 0 0) (by omega) (by omega) rfl (Nat.zero_le _) c
    have hdb : s_X8_doubtWith (nmF tu ga lk stp (nI dn) (nI w)) pn pa mi 0 0 = lp_X9_doubted_8 pn (nI dn) (nI w) pa sa 62 0 0 := by
      unfold s_X8_doubtWith
      have hcn := zcn61 mi pn pa 0 0 hpn (Nat.zero_le _) (Nat.zero_le _)
      have h61 := zp61 pa pn 0 0 hpn (Nat.zero_le _)
      have h := zdb8 pn (nI dn) pa sa (s_X5_gather_mi mi pn pa 0 0) w (s_X5_gather_cn mi pn pa 0 0) hw hpn (zpr pa pn 0 0) (fun m => by rw [zpr, ite_self]; rfl) (fun a b h => zpr_le h) rfl (by omega) hcn (zgw2 mi pn pa 0 0 hpn (Nat.zero_le _) h12 (Nat.zero_le _)) 62 0 (by omega) (by omega)
      rw [zn4, zn5]
      exact h.symm
    by_cases d : s_X8_within what 0 3 = 0
    · have hne : ∀ j, j ≤ 3 → ¬ what = nI j := fun j h e => by
        rw [e] at d
        exact zwin_n (a := 0) (b := 3) ⟨Nat.zero_le _, h⟩ (by decide) d
      rw [if_pos d, if_neg (show ¬ what = 0 from hne 0 (by decide)), if_neg (show ¬ what = 1 from hne 1 (by decide)), if_neg (show ¬ what = 2 from hne 2 (by decide)), if_neg (show ¬ what = 3 from hne 3 (by decide))]
    · rw [if_neg d]
      obtain ⟨j, h1, h2, rfl⟩ := zwr (a := 0) (b := 3) d (by decide) (by decide)
      rcases (show j = 0 ∨ j = 1 ∨ j = 2 ∨ j = 3 by omega) with rfl | rfl | rfl | rfl
      · rw [if_pos (show nI 0 = 0 from rfl), if_pos (show nI 0 = 0 from rfl), zfines pn pa hpn _ 0 0 (Nat.zero_le _)]
      · rw [if_neg (show ¬ nI 1 = 0 by decide), if_pos (show nI 1 = 1 from rfl), if_neg (show ¬ nI 1 = 0 by decide), if_pos (show nI 1 = 1 from rfl)]
      · rw [if_neg (show ¬ nI 2 = 0 by decide), if_neg (show ¬ nI 2 = 1 by decide), if_pos (show nI 2 = 2 from rfl), if_neg (show ¬ nI 2 = 0 by decide), if_neg (show ¬ nI 2 = 1 by decide), if_pos (show nI 2 = 2 from rfl)]
      · rw [if_neg (show ¬ nI 3 = 0 by decide), if_neg (show ¬ nI 3 = 1 by decide), if_neg (show ¬ nI 3 = 2 by decide), if_neg (show ¬ nI 3 = 0 by decide), if_neg (show ¬ nI 3 = 1 by decide), if_neg (show ¬ nI 3 = 2 by decide), if_pos (show nI 3 = 3 from rfl)]
        exact hdb
  · rw [if_neg c, if_neg c]
