/-- the gathered list's contents, up to a sign -/
def zgi (sg : Nat → Int32) (mt more k : Nat) (f : Nat → Int32) : Prop := ∀ m i, m ≤ zct 46 sg k → zpr sg k mt more m ≤ i → i < (if m < zct 46 sg k then zpr sg k mt more (m + 1) else zct 33 sg k + (if mt < zct 46 sg k then more else 0)) → f i = nI m
theorem zgi_dot {sg : Nat → Int32} {mt more k : Nat} {f g : Nat → Int32} (h : zgi sg mt more k f) (hd : sg k = 46) (hg : ∀ i, g i = if zct 33 sg k + (if mt < zct 46 sg k then more else 0) ≤ i ∧ i < zct 33 sg k + (if mt < zct 46 sg k then more else 0) + (if zct 46 sg k = mt then more else 0) then nI (zct 46 sg k) else f i) : zgi sg mt more (k + 1) g := by
  have h33 : ¬ sg k = 33 := by rw [hd]; decide
  have hstep : ∀ m, zpr sg (k + 1) mt more m = zpr sg k mt more m := fun m => by rw [zpr_step, if_neg (fun q => h33 q.1)]; rfl
  have e46 : zct 46 sg (k + 1) = zct 46 sg k + 1 := by rw [zct, if_pos hd]
  have e33 : zct 33 sg (k + 1) = zct 33 sg k := by rw [zct, if_neg h33]; rfl
  have hall := zpr_all sg mt more k (zct 46 sg k) (Nat.le_refl _)
  have hz : zpr sg k mt more (zct 46 sg k + 1) = zpr sg k mt more (zct 46 sg k) + zsn sg (zct 46 sg k) k + (if zct 46 sg k = mt then more else 0) := by rw [zpr]
  have hc : (if mt < zct 46 sg k + 1 then more else 0) = (if mt < zct 46 sg k then more else 0) + (if zct 46 sg k = mt then more else 0) := by
    by_cases a : mt < zct 46 sg k
    · rw [if_pos a, if_pos (show mt < zct 46 sg k + 1 by omega), if_neg (show ¬ zct 46 sg k = mt by omega)]; rfl
    · by_cases b : zct 46 sg k = mt
      · rw [if_neg a, if_pos b, if_pos (show mt < zct 46 sg k + 1 by omega)]; omega
      · rw [if_neg a, if_neg b, if_neg (show ¬ mt < zct 46 sg k + 1 by omega)]
  intro m i hm h1 h2
  rw [e46] at hm
  rw [hstep] at h1
  rw [e46, e33, hstep, hc] at h2
  rw [hg i]
  rcases Nat.lt_or_ge m (zct 46 sg k) with hlt | hge
  · rw [if_pos (show m < zct 46 sg k + 1 by omega)] at h2
    have hmo := zpr_mono sg k mt more (m + 1) (zct 46 sg k - (m + 1))
    rw [show m + 1 + (zct 46 sg k - (m + 1)) = zct 46 sg k by omega] at hmo
    rw [if_neg (by omega)]
    exact h m i (by omega) h1 (by rw [if_pos hlt]; exact h2)
  · by_cases e : m = zct 46 sg k
    · subst e
      rw [if_pos (show zct 46 sg k < zct 46 sg k + 1 by omega)] at h2
      by_cases d : i < zct 33 sg k + (if mt < zct 46 sg k then more else 0)
      · rw [if_neg (by omega)]
        exact h _ i (Nat.le_refl _) h1 (by rw [if_neg (Nat.lt_irrefl _)]; exact d)
      · rw [if_pos (by omega)]
    · rw [show m = zct 46 sg k + 1 by omega] at h1 h2
      rw [if_neg (Nat.lt_irrefl _)] at h2
      omega
theorem zgi_sn {sg : Nat → Int32} {mt more k : Nat} {f g : Nat → Int32} (h : zgi sg mt more k f) (hd : sg k = 33) (hg : ∀ i, g i = if zct 33 sg k + (if mt < zct 46 sg k then more else 0) ≤ i ∧ i < zct 33 sg k + (if mt < zct 46 sg k then more else 0) + 1 then nI (zct 46 sg k) else f i) : zgi sg mt more (k + 1) g := by
  have h46 : ¬ sg k = 46 := by rw [hd]; decide
  have e46 : zct 46 sg (k + 1) = zct 46 sg k := by rw [zct, if_neg h46]; rfl
  have e33 : zct 33 sg (k + 1) = zct 33 sg k + 1 := by rw [zct, if_pos hd]
  have hs : ∀ m, m ≤ zct 46 sg k → zpr sg (k + 1) mt more m = zpr sg k mt more m := fun m hm => by rw [zpr_step, if_neg (fun q => absurd q.2 (by omega))]; rfl
  have hall := zpr_all sg mt more k (zct 46 sg k) (Nat.le_refl _)
  have hz : zpr sg k mt more (zct 46 sg k + 1) = zpr sg k mt more (zct 46 sg k) + zsn sg (zct 46 sg k) k + (if zct 46 sg k = mt then more else 0) := by rw [zpr]
  have hc : (if mt < zct 46 sg k + 1 then more else 0) = (if mt < zct 46 sg k then more else 0) + (if zct 46 sg k = mt then more else 0) := by
    by_cases a : mt < zct 46 sg k
    · rw [if_pos a, if_pos (show mt < zct 46 sg k + 1 by omega), if_neg (show ¬ zct 46 sg k = mt by omega)]; rfl
    · by_cases b : zct 46 sg k = mt
      · rw [if_neg a, if_pos b, if_pos (show mt < zct 46 sg k + 1 by omega)]; omega
      · rw [if_neg a, if_neg b, if_neg (show ¬ mt < zct 46 sg k + 1 by omega)]
  intro m i hm h1 h2
  rw [e46] at hm
  rw [hs m hm] at h1
  rw [e46, e33] at h2
  rw [hg i]
  rcases Nat.lt_or_ge m (zct 46 sg k) with hlt | hge
  · rw [if_pos hlt, hs (m + 1) (by omega)] at h2
    have hmo := zpr_mono sg k mt more (m + 1) (zct 46 sg k - (m + 1))
    rw [show m + 1 + (zct 46 sg k - (m + 1)) = zct 46 sg k by omega] at hmo
    rw [if_neg (by omega)]
    exact h m i (by omega) h1 (by rw [if_pos hlt]; exact h2)
  · have e : m = zct 46 sg k := by omega
    subst e
    rw [if_neg (Nat.lt_irrefl _)] at h2
    by_cases d : i < zct 33 sg k + (if mt < zct 46 sg k then more else 0)
    · rw [if_neg (by omega)]
      exact h _ i (Nat.le_refl _) h1 (by rw [if_neg (Nat.lt_irrefl _)]; exact d)
    · rw [if_pos (by omega)]
theorem zgi_no {sg : Nat → Int32} {mt more k : Nat} {f : Nat → Int32} (h : zgi sg mt more k f) (h46 : ¬ sg k = 46) (h33 : ¬ sg k = 33) : zgi sg mt more (k + 1) f := by
  have e46 : zct 46 sg (k + 1) = zct 46 sg k := by rw [zct, if_neg h46]; rfl
  have e33 : zct 33 sg (k + 1) = zct 33 sg k := by rw [zct, if_neg h33]; rfl
  have hs : ∀ m, zpr sg (k + 1) mt more m = zpr sg k mt more m := fun m => by rw [zpr_step, if_neg (fun q => h33 q.1)]; rfl
  intro m i hm h1 h2
  rw [e46] at hm
  rw [hs] at h1
  rw [e46, e33, hs] at h2
  exact h m i hm h1 h2
