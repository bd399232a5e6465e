/-- the gathered list: what an addition writes -/
theorem zadd_2 (mt : Int32) (many : Nat) (hm : many ≤ 12) : ∀ q k cq f, k ≤ many → many - k < q → cq + (many - k) ≤ 24 → ∀ i, (lp_X5_add_2 mt many q k cq f).2 i = if cq ≤ i ∧ i < cq + (many - k) then mt else f i := by
  intro q
  induction q with
  | zero => intro k cq f _ h; exact absurd h (Nat.not_lt_zero _)
  | succ q ih =>
    intro k cq f hk hq h24 i
    rw [lp_X5_add_2]
    by_cases c : nI many ≤ nI k
    · have := zNle c (by omega) (by omega)
      rw [if_pos c, if_neg (by omega)]
    · have hkm := zNnle c (by omega) (by omega)
      rw [if_neg c, zputv (vp_in_of2 (show cq < 24 by omega) (by omega)) (by decide), nI_clamp (by omega), ih (k + 1) (cq + 1) _ (by omega) (by omega) (by omega) i]
      by_cases e : i = cq
      · subst e
        rw [if_neg (by omega), if_pos (by omega), pk_us]
      · rw [pk_un e]
        by_cases d : cq + 1 ≤ i ∧ i < cq + 1 + (many - (k + 1))
        · rw [if_pos d, if_pos (by omega)]
        · rw [if_neg d, if_neg (by omega)]
/-- sneezes of minute m among the first n signs -/
def zsn (pa : Nat → Int32) (m : Nat) : Nat → Nat
  | 0 => 0
  | n + 1 => zsn pa m n + (if pa n = 33 ∧ zct 46 pa n = m then 1 else 0)
/-- sneezes before minute m, with `more` in minute mt -/
def zpr (pa : Nat → Int32) (n mt more : Nat) : Nat → Nat
  | 0 => 0
  | m + 1 => zpr pa n mt more m + zsn pa m n + (if m = mt then more else 0)
theorem zsn_0 (pa : Nat → Int32) (m : Nat) : ∀ n, zct 46 pa n < m → zsn pa m n = 0 := by
  intro n
  induction n with
  | zero => intro _; rfl
  | succ n ih =>
    intro h
    rw [zct] at h
    rw [zsn, ih (by omega), if_neg (fun q => absurd q.2 (by omega))]
/-- a sneeze of the present minute moves the later counts only -/
theorem zpr_step (pa : Nat → Int32) (n mt more : Nat) : ∀ m, zpr pa (n + 1) mt more m = zpr pa n mt more m + (if pa n = 33 ∧ zct 46 pa n < m then 1 else 0) := by
  intro m
  induction m with
  | zero => rw [zpr, zpr, if_neg (fun q => absurd q.2 (Nat.not_lt_zero _))]
  | succ m ih =>
    rw [zpr, zpr, ih, zsn]
    generalize (if m = mt then more else 0) = y
    by_cases a : pa n = 33
    · simp only [a, true_and]
      by_cases b : zct 46 pa n = m
      · rw [if_neg (show ¬ zct 46 pa n < m by omega), if_pos b, if_pos (show zct 46 pa n < m + 1 by omega)]; omega
      · by_cases d : zct 46 pa n < m
        · rw [if_pos d, if_neg b, if_pos (show zct 46 pa n < m + 1 by omega)]; omega
        · rw [if_neg d, if_neg b, if_neg (show ¬ zct 46 pa n < m + 1 by omega)]; omega
    · simp only [a, false_and, if_false]; omega
