/-! images: what the model keeps in one row -/
theorem zpw86 (ea la : Nat → Int32) : ∀ (fu k kq : Nat) (f : Nat → Int32), k ≤ 5 → 5 - k < fu → (lp_X9_passAllw_86 ea la fu k kq f).1 = kq + 2 * (5 - k) ∧ (∀ i, i < kq ∨ kq + 2 * (5 - k) ≤ i → (lp_X9_passAllw_86 ea la fu k kq f).2 i = f i) ∧ ∀ j, k ≤ j → j < 5 → (lp_X9_passAllw_86 ea la fu k kq f).2 (kq + 2 * (j - k)) = ea j ∧ (lp_X9_passAllw_86 ea la fu k kq f).2 (kq + 2 * (j - k) + 1) = la j := by
  intro fu
  induction fu with
  | zero => intro k kq f _ h; exact absurd h (Nat.not_lt_zero _)
  | succ fu ih =>
    intro k kq f hk hfu
    rw [lp_X9_passAllw_86]
    by_cases c : (5 : Int32) ≤ nI k
    · have := zNle (a := 5) c (by omega) (by omega)
      have hk5 : k = 5 := by omega
      subst hk5
      rw [if_pos c]
      exact ⟨rfl, fun i _ => rfl, fun j h1 h2 => by omega⟩
    · have hk5 := zNnle (a := 5) (b := k) c (by omega) (by omega)
      rw [if_neg c]
      obtain ⟨h1, h2, h3⟩ := ih (k + 1) (kq + 1 + 1) (upd (upd f kq (ea k)) (kq + 1) (la k)) (by omega) (by omega)
      refine ⟨by rw [h1]; omega, fun i hi => ?_, fun j j1 j2 => ?_⟩
      · rw [h2 i (by omega), pk_un (by omega), pk_un (by omega)]
      · by_cases e : j = k
        · subst e
          simp only [Nat.sub_self, Nat.mul_zero, Nat.add_zero]
          rw [h2 kq (by omega), h2 (kq + 1) (by omega), pk_us, pk_un (by omega), pk_us]
          exact ⟨rfl, rfl⟩
        · have := h3 j (by omega) j2
          rw [show kq + 1 + 1 + 2 * (j - (k + 1)) = kq + 2 * (j - k) by omega] at this
          exact this
theorem zpw131 (we mT mP : Nat → Int32) : ∀ (fu k kq : Nat) (f : Nat → Int32), k ≤ 6 → 6 - k < fu → (∀ i, i < kq ∨ kq + 3 * (6 - k) ≤ i → (lp_X9_passAllw_131 we mT mP fu k kq f).2 i = f i) ∧ ∀ j, k ≤ j → j < 6 → (lp_X9_passAllw_131 we mT mP fu k kq f).2 (kq + 3 * (j - k)) = we j ∧ (lp_X9_passAllw_131 we mT mP fu k kq f).2 (kq + 3 * (j - k) + 1) = mT j ∧ (lp_X9_passAllw_131 we mT mP fu k kq f).2 (kq + 3 * (j - k) + 2) = mP j := by
  intro fu
  induction fu with
  | zero => intro k kq f _ h; exact absurd h (Nat.not_lt_zero _)
  | succ fu ih =>
    intro k kq f hk hfu
    rw [lp_X9_passAllw_131]
    by_cases c : (6 : Int32) ≤ nI k
    · have := zNle (a := 6) c (by omega) (by omega)
      have hk5 : k = 6 := by omega
      subst hk5
      rw [if_pos c]
      exact ⟨fun i _ => rfl, fun j h1 h2 => by omega⟩
    · have hk5 := zNnle (a := 6) (b := k) c (by omega) (by omega)
      rw [if_neg c]
      obtain ⟨h2, h3⟩ := ih (k + 1) (kq + 1 + 1 + 1) (upd (upd (upd f kq (we k)) (kq + 1) (mT k)) (kq + 1 + 1) (mP k)) (by omega) (by omega)
      refine ⟨fun i hi => ?_, fun j j1 j2 => ?_⟩
      · rw [h2 i (by omega), pk_un (by omega), pk_un (by omega), pk_un (by omega)]
      · by_cases e : j = k
        · subst e
          simp only [Nat.sub_self, Nat.mul_zero, Nat.add_zero]
          rw [h2 kq (by omega), h2 (kq + 1) (by omega), h2 (kq + 2) (by omega)]
          refine ⟨?_, ?_, ?_⟩
          · rw [pk_un (by omega), pk_un (by omega), pk_us]
          · rw [pk_un (by omega), pk_us]
          · exact pk_us
        · have := h3 j (by omega) j2
          rw [show kq + 1 + 1 + 1 + 3 * (j - (k + 1)) = kq + 3 * (j - k) by omega] at this
          exact this
/-- an image's place in the model's row -/
def zKe (off : Nat) (ke : Nat → Int32) (tu ga lk stp dbt win : Int32) (sn : Nat) (ea la we mT mP : Nat → Int32) : Prop := (ke off = tu ∧ ke (off + 1) = ga ∧ ke (off + 2) = lk ∧ ke (off + 3) = stp ∧ ke (off + 4) = dbt ∧ ke (off + 5) = win ∧ ke (off + 6) = nI sn) ∧ (∀ k, k < 5 → ke (off + 7 + 2 * k) = ea k ∧ ke (off + 7 + 2 * k + 1) = la k) ∧ ∀ k, k < 6 → ke (off + 17 + 3 * k) = we k ∧ ke (off + 17 + 3 * k + 1) = mT k ∧ ke (off + 17 + 3 * k + 2) = mP k
theorem zpw7 (ke : Nat → Int32) (ka : Nat) (a0 a1 a2 a3 a4 a5 a6 : Int32) : (upd (upd (upd (upd (upd (upd (upd ke ka a0) (ka + 1) a1) ((ka + 1) + 1) a2) (((ka + 1) + 1) + 1) a3) ((((ka + 1) + 1) + 1) + 1) a4) (((((ka + 1) + 1) + 1) + 1) + 1) a5) ((((((ka + 1) + 1) + 1) + 1) + 1) + 1) a6) ka = a0 ∧ (upd (upd (upd (upd (upd (upd (upd ke ka a0) (ka + 1) a1) ((ka + 1) + 1) a2) (((ka + 1) + 1) + 1) a3) ((((ka + 1) + 1) + 1) + 1) a4) (((((ka + 1) + 1) + 1) + 1) + 1) a5) ((((((ka + 1) + 1) + 1) + 1) + 1) + 1) a6) (ka + 1) = a1 ∧ (upd (upd (upd (upd (upd (upd (upd ke ka a0) (ka + 1) a1) ((ka + 1) + 1) a2) (((ka + 1) + 1) + 1) a3) ((((ka + 1) + 1) + 1) + 1) a4) (((((ka + 1) + 1) + 1) + 1) + 1) a5) ((((((ka + 1) + 1) + 1) + 1) + 1) + 1) a6) (ka + 2) = a2 ∧ (upd (upd (upd (upd (upd (upd (upd ke ka a0) (ka + 1) a1) ((ka + 1) + 1) a2) (((ka + 1) + 1) + 1) a3) ((((ka + 1) + 1) + 1) + 1) a4) (((((ka + 1) + 1) + 1) + 1) + 1) a5) ((((((ka + 1) + 1) + 1) + 1) + 1) + 1) a6) (ka + 3) = a3 ∧ (upd (upd (upd (upd (upd (upd (upd ke ka a0) (ka + 1) a1) ((ka + 1) + 1) a2) (((ka + 1) + 1) + 1) a3) ((((ka + 1) + 1) + 1) + 1) a4) (((((ka + 1) + 1) + 1) + 1) + 1) a5) ((((((ka + 1) + 1) + 1) + 1) + 1) + 1) a6) (ka + 4) = a4 ∧ (upd (upd (upd (upd (upd (upd (upd ke ka a0) (ka + 1) a1) ((ka + 1) + 1) a2) (((ka + 1) + 1) + 1) a3) ((((ka + 1) + 1) + 1) + 1) a4) (((((ka + 1) + 1) + 1) + 1) + 1) a5) ((((((ka + 1) + 1) + 1) + 1) + 1) + 1) a6) (ka + 5) = a5 ∧ (upd (upd (upd (upd (upd (upd (upd ke ka a0) (ka + 1) a1) ((ka + 1) + 1) a2) (((ka + 1) + 1) + 1) a3) ((((ka + 1) + 1) + 1) + 1) a4) (((((ka + 1) + 1) + 1) + 1) + 1) a5) ((((((ka + 1) + 1) + 1) + 1) + 1) + 1) a6) (ka + 6) = a6 ∧ ∀ i, i < ka ∨ ka + 7 ≤ i → (upd (upd (upd (upd (upd (upd (upd ke ka a0) (ka + 1) a1) ((ka + 1) + 1) a2) (((ka + 1) + 1) + 1) a3) ((((ka + 1) + 1) + 1) + 1) a4) (((((ka + 1) + 1) + 1) + 1) + 1) a5) ((((((ka + 1) + 1) + 1) + 1) + 1) + 1) a6) i = ke i := by
  refine ⟨?_, ?_, ?_, ?_, ?_, ?_, ?_, fun i hi => ?_⟩
  · rw [pk_un (by omega), pk_un (by omega), pk_un (by omega), pk_un (by omega), pk_un (by omega), pk_un (by omega), pk_us]
  · rw [pk_un (by omega), pk_un (by omega), pk_un (by omega), pk_un (by omega), pk_un (by omega), pk_us]
  · rw [pk_un (by omega), pk_un (by omega), pk_un (by omega), pk_un (by omega)]; exact pk_us
  · rw [pk_un (by omega), pk_un (by omega), pk_un (by omega)]; exact pk_us
  · rw [pk_un (by omega), pk_un (by omega)]; exact pk_us
  · rw [pk_un (by omega)]; exact pk_us
  · exact pk_us
  · rw [pk_un (by omega), pk_un (by omega), pk_un (by omega), pk_un (by omega), pk_un (by omega), pk_un (by omega), pk_un (by omega)]
theorem zpw (sn ka : Nat) (tu ga lk stp dbt win : Int32) (ea la we mT mP ke : Nat → Int32) : zKe ka (s_X9_passAll_w_ke sn ka tu ga lk stp dbt win ea la we mT mP ke) tu ga lk stp dbt win sn ea la we mT mP ∧ ∀ i, i < ka ∨ ka + 35 ≤ i → s_X9_passAll_w_ke sn ka tu ga lk stp dbt win ea la we mT mP ke i = ke i := by
  unfold s_X9_passAll_w_ke
  obtain ⟨u0, u1, u2, u3, u4, u5, u6, u7⟩ := zpw7 ke ka tu ga lk stp dbt win (nI sn)
  generalize upd (upd (upd (upd (upd (upd (upd ke ka tu) (ka + 1) ga) ((ka + 1) + 1) lk) (((ka + 1) + 1) + 1) stp) ((((ka + 1) + 1) + 1) + 1) dbt) (((((ka + 1) + 1) + 1) + 1) + 1) win) ((((((ka + 1) + 1) + 1) + 1) + 1) + 1) (nI sn) = f at u0 u1 u2 u3 u4 u5 u6 u7 ⊢
  obtain ⟨a1, a2, a3⟩ := zpw86 ea la 6 0 (((((((ka + 1) + 1) + 1) + 1) + 1) + 1) + 1) f (by omega) (by omega)
  generalize lp_X9_passAllw_86 ea la 6 0 (((((((ka + 1) + 1) + 1) + 1) + 1) + 1) + 1) f = R at a1 a2 a3 ⊢
  rw [a1]
  obtain ⟨b2, b3⟩ := zpw131 we mT mP 7 0 (((((((ka + 1) + 1) + 1) + 1) + 1) + 1) + 1 + 2 * (5 - 0)) R.2 (by omega) (by omega)
  generalize (lp_X9_passAllw_131 we mT mP 7 0 (((((((ka + 1) + 1) + 1) + 1) + 1) + 1) + 1 + 2 * (5 - 0)) R.2).2 = g at b2 b3 ⊢
  refine ⟨⟨⟨?_, ?_, ?_, ?_, ?_, ?_, ?_⟩, fun k hk => ⟨?_, ?_⟩, fun k hk => ⟨?_, ?_, ?_⟩⟩, fun i hi => ?_⟩
  · rw [b2 _ (by omega), a2 _ (by omega), u0]
  · rw [b2 _ (by omega), a2 _ (by omega), u1]
  · rw [b2 _ (by omega), a2 _ (by omega), u2]
  · rw [b2 _ (by omega), a2 _ (by omega), u3]
  · rw [b2 _ (by omega), a2 _ (by omega), u4]
  · rw [b2 _ (by omega), a2 _ (by omega), u5]
  · rw [b2 _ (by omega), a2 _ (by omega), u6]
  · rw [b2 _ (by omega)]; exact (a3 k (by omega) hk).1
  · rw [b2 _ (by omega)]; exact (a3 k (by omega) hk).2
  · exact (b3 k (by omega) hk).1
  · exact (b3 k (by omega) hk).2.1
  · exact (b3 k (by omega) hk).2.2
  · rw [b2 _ (by omega), a2 _ (by omega), u7 i (by omega)]
/-- and back -/
theorem zpr86 (ke : Nat → Int32) : ∀ (fu k kq : Nat) (f1 f2 : Nat → Int32), k ≤ 5 → 5 - k < fu → (lp_X9_passAllr_86 ke fu k kq f1 f2).1 = kq + 2 * (5 - k) ∧ ∀ j, j < 5 → (lp_X9_passAllr_86 ke fu k kq f1 f2).2.1 j = (if k ≤ j then ke (kq + 2 * (j - k)) else f1 j) ∧ (lp_X9_passAllr_86 ke fu k kq f1 f2).2.2 j = (if k ≤ j then ke (kq + 2 * (j - k) + 1) else f2 j) := by
  intro fu
  induction fu with
  | zero => intro k kq f1 f2 _ h; exact absurd h (Nat.not_lt_zero _)
  | succ fu ih =>
    intro k kq f1 f2 hk hfu
    rw [lp_X9_passAllr_86]
    by_cases c : (5 : Int32) ≤ nI k
    · have := zNle (a := 5) c (by omega) (by omega)
      have hk5 : k = 5 := by omega
      subst hk5
      rw [if_pos c]
      exact ⟨rfl, fun j hj => by rw [if_neg (show ¬ 5 ≤ j by omega), if_neg (show ¬ 5 ≤ j by omega)]; exact ⟨rfl, rfl⟩⟩
    · have hk5 := zNnle (a := 5) (b := k) c (by omega) (by omega)
      rw [if_neg c]
      obtain ⟨h1, h2⟩ := ih (k + 1) (kq + 1 + 1) (upd f1 k (ke kq)) (upd f2 k (ke (kq + 1))) (by omega) (by omega)
      refine ⟨by rw [h1]; omega, fun j hj => ?_⟩
      rw [(h2 j hj).1, (h2 j hj).2]
      by_cases e : j = k
      · subst e
        rw [if_neg (show ¬ j + 1 ≤ j by omega), if_neg (show ¬ j + 1 ≤ j by omega), if_pos (Nat.le_refl j), if_pos (Nat.le_refl j), pk_us, pk_us, Nat.sub_self]
        exact ⟨rfl, rfl⟩
      · rw [pk_un e, pk_un e]
        by_cases g : k ≤ j
        · rw [if_pos (show k + 1 ≤ j by omega), if_pos (show k + 1 ≤ j by omega), if_pos g, if_pos g, show kq + 1 + 1 + 2 * (j - (k + 1)) = kq + 2 * (j - k) by omega]
          exact ⟨rfl, rfl⟩
        · rw [if_neg (show ¬ k + 1 ≤ j by omega), if_neg (show ¬ k + 1 ≤ j by omega), if_neg g, if_neg g]
          exact ⟨rfl, rfl⟩
theorem zpr131 (ke : Nat → Int32) : ∀ (fu k kq : Nat) (f1 f2 f3 : Nat → Int32), k ≤ 6 → 6 - k < fu → ∀ j, j < 6 → (lp_X9_passAllr_131 ke fu k kq f1 f2 f3).2.1 j = (if k ≤ j then ke (kq + 3 * (j - k)) else f1 j) ∧ (lp_X9_passAllr_131 ke fu k kq f1 f2 f3).2.2.1 j = (if k ≤ j then ke (kq + 3 * (j - k) + 1) else f2 j) ∧ (lp_X9_passAllr_131 ke fu k kq f1 f2 f3).2.2.2 j = (if k ≤ j then ke (kq + 3 * (j - k) + 2) else f3 j) := by
  intro fu
  induction fu with
  | zero => intro k kq f1 f2 f3 _ h; exact absurd h (Nat.not_lt_zero _)
  | succ fu ih =>
    intro k kq f1 f2 f3 hk hfu j hj
    rw [lp_X9_passAllr_131]
    by_cases c : (6 : Int32) ≤ nI k
    · have := zNle (a := 6) c (by omega) (by omega)
      have hk5 : k = 6 := by omega
      subst hk5
      rw [if_pos c, if_neg (show ¬ 6 ≤ j by omega), if_neg (show ¬ 6 ≤ j by omega), if_neg (show ¬ 6 ≤ j by omega)]
      exact ⟨rfl, rfl, rfl⟩
    · have hk5 := zNnle (a := 6) (b := k) c (by omega) (by omega)
      rw [if_neg c]
      obtain ⟨h1, h2, h3⟩ := ih (k + 1) (kq + 1 + 1 + 1) (upd f1 k (ke kq)) (upd f2 k (ke (kq + 1))) (upd f3 k (ke (kq + 1 + 1))) (by omega) (by omega) j hj
      rw [h1, h2, h3]
      by_cases e : j = k
      · subst e
        rw [if_neg (show ¬ j + 1 ≤ j by omega), if_neg (show ¬ j + 1 ≤ j by omega), if_neg (show ¬ j + 1 ≤ j by omega), if_pos (Nat.le_refl j), if_pos (Nat.le_refl j), if_pos (Nat.le_refl j), pk_us, pk_us, pk_us, Nat.sub_self]
        exact ⟨rfl, rfl, rfl⟩
      · rw [pk_un e, pk_un e, pk_un e]
        by_cases g : k ≤ j
        · rw [if_pos (show k + 1 ≤ j by omega), if_pos (show k + 1 ≤ j by omega), if_pos (show k + 1 ≤ j by omega), if_pos g, if_pos g, if_pos g, show kq + 1 + 1 + 1 + 3 * (j - (k + 1)) = kq + 3 * (j - k) by omega]
          exact ⟨rfl, rfl, rfl⟩
        · rw [if_neg (show ¬ k + 1 ≤ j by omega), if_neg (show ¬ k + 1 ≤ j by omega), if_neg (show ¬ k + 1 ≤ j by omega), if_neg g, if_neg g, if_neg g]
          exact ⟨rfl, rfl, rfl⟩
/-! what the law's loop keeps -/
def zNm (ga lk stp dbt win : Int32) : Prop := 0 ≤ ga ∧ 0 ≤ lk ∧ 1 ≤ stp ∧ (∃ d, d < 100 ∧ dbt = nI d) ∧ ∃ w, (1 ≤ w ∧ w ≤ 20) ∧ win = nI w
def zGd (ga lk stp dbt win : Int32) (sn : Nat) (ea la mT mP : Nat → Int32) : Prop := zNm ga lk stp dbt win ∧ zwb ea ∧ zwb la ∧ sn ≤ 6 ∧ zsg sn mT mP
def zIm (off : Nat) (ke : Nat → Int32) (kp : Int32) (tu ga lk stp dbt win : Int32) (sn : Nat) (ea la we mT mP : Nat → Int32) : Prop := (kp = 0 ∨ (kp = 1 ∧ zKe off ke tu ga lk stp dbt win sn ea la we mT mP ∧ zGd ga lk stp dbt win sn ea la mT mP)) ∧ ∃ s, ke (off + 6) = nI s
theorem zIm_cg {off : Nat} {ke ke' : Nat → Int32} {kp tu ga lk stp dbt win : Int32} {sn : Nat} {ea la we mT mP : Nat → Int32} (h : ∀ i, off ≤ i → i < off + 35 → ke' i = ke i) (hI : zIm off ke kp tu ga lk stp dbt win sn ea la we mT mP) : zIm off ke' kp tu ga lk stp dbt win sn ea la we mT mP := by
  obtain ⟨h1, s, hs⟩ := hI
  refine ⟨?_, s, by rw [h _ (by omega) (by omega)]; exact hs⟩
  rcases h1 with h1 | ⟨h1, ⟨⟨k0, k1, k2, k3, k4, k5, k6⟩, k7, k8⟩, h3⟩
  · exact Or.inl h1
  · refine Or.inr ⟨h1, ⟨⟨?_, ?_, ?_, ?_, ?_, ?_, ?_⟩, fun k hk => ?_, fun k hk => ?_⟩, h3⟩
    · rw [h _ (by omega) (by omega)]; exact k0
    · rw [h _ (by omega) (by omega)]; exact k1
    · rw [h _ (by omega) (by omega)]; exact k2
    · rw [h _ (by omega) (by omega)]; exact k3
    · rw [h _ (by omega) (by omega)]; exact k4
    · rw [h _ (by omega) (by omega)]; exact k5
    · rw [h _ (by omega) (by omega)]; exact k6
    · rw [h _ (by omega) (by omega), h _ (by omega) (by omega)]; exact k7 k hk
    · rw [h _ (by omega) (by omega), h _ (by omega) (by omega), h _ (by omega) (by omega)]; exact k8 k hk
/-- all that the loop keeps of the numbers -/
def zInv (tu ga lk stp dbt win : Int32) (sn pn : Nat) (ea la we mT mP pa ke ik : Nat → Int32) (kp0 tu0 ga0 lk0 stp0 dbt0 win0 : Int32) (sn0 : Nat) (ea0 la0 we0 mT0 mP0 : Nat → Int32) (kp1 tu1 ga1 lk1 stp1 dbt1 win1 : Int32) (sn1 : Nat) (ea1 la1 we1 mT1 mP1 : Nat → Int32) : Prop :=
  zGd ga lk stp dbt win sn ea la mT mP ∧ pn ≤ 60 ∧ zpad pn pa ∧ ik 0 = kp0 ∧ ik 1 = kp1 ∧ zIm 0 ke kp0 tu0 ga0 lk0 stp0 dbt0 win0 sn0 ea0 la0 we0 mT0 mP0 ∧ zIm 50 ke kp1 tu1 ga1 lk1 stp1 dbt1 win1 sn1 ea1 la1 we1 mT1 mP1
theorem zIm_01 {off : Nat} {ke : Nat → Int32} {kp tu ga lk stp dbt win : Int32} {sn : Nat} {ea la we mT mP : Nat → Int32} (hI : zIm off ke kp tu ga lk stp dbt win sn ea la we mT mP) : kp = 0 ∨ kp = 1 := by
  rcases hI.1 with h | h
  · exact Or.inl h
  · exact Or.inr h.1
theorem E_image (n : Int32) : s_X8_image n = s_X9_image n := by
  unfold s_X8_image s_X9_image
  rw [zwi (a := n) (lo := 0) (hi := 1) (l := 0) (h := 1) (by decide) (by decide)]
theorem zn_01 {n : Int32} (h : ¬ s_X8_within n 0 1 = 0) : n = 0 ∨ n = 1 := by
  obtain ⟨j, h1, h2, rfl⟩ := zwr (a := 0) (b := 1) h (by decide) (by decide)
  rcases (show j = 0 ∨ j = 1 by omega) with rfl | rfl
  · exact Or.inl rfl
  · exact Or.inr rfl
theorem E_restore (ik : Nat → Int32) (kp0 kp1 n : Int32) (h0 : ik 0 = kp0) (h1 : ik 1 = kp1) : s_X8_restore kp0 kp1 n = s_X9_restore ik n := by
  unfold s_X8_restore s_X9_restore
  rw [zwi (a := n) (lo := 0) (hi := 1) (l := 0) (h := 1) (by decide) (by decide)]
  by_cases c : s_X8_within n 0 1 = 0
  · rw [if_pos c, if_pos c]
  · rw [if_neg c, if_neg c]
    rcases zn_01 c with rfl | rfl
    · rw [if_pos rfl, show (0 : Int32).toNatClampNeg = 0 from by decide, h0]
    · rw [if_neg (by decide), show (1 : Int32).toNatClampNeg = 1 from by decide, h1]
