/-- all sneezes and the added ones, up to the present minute -/
theorem zpr_0 (pa : Nat → Int32) (mt more : Nat) : ∀ m, zpr pa 0 mt more m = if mt < m then more else 0 := by
  intro m
  induction m with
  | zero => rfl
  | succ m ih =>
    rw [zpr, ih, zsn]
    by_cases a : mt < m
    · rw [if_pos a, if_neg (show ¬ m = mt by omega), if_pos (show mt < m + 1 by omega)]; omega
    · by_cases b : m = mt
      · rw [if_neg a, if_pos b, if_pos (show mt < m + 1 by omega)]; omega
      · rw [if_neg a, if_neg b, if_neg (show ¬ mt < m + 1 by omega)]
theorem zpr_all (pa : Nat → Int32) (mt more : Nat) : ∀ n m, zct 46 pa n ≤ m → zpr pa n mt more (m + 1) = zct 33 pa n + (if mt < m + 1 then more else 0) := by
  intro n
  induction n with
  | zero => intro m _; rw [zpr_0, zct]; omega
  | succ n ih =>
    intro m h
    rw [zct] at h
    rw [zpr_step, ih m (by omega), zct]
    by_cases a : pa n = 33
    · rw [if_pos (show pa n = 33 ∧ zct 46 pa n < m + 1 from ⟨a, by omega⟩), if_pos a]; omega
    · rw [if_neg (show ¬ (pa n = 33 ∧ zct 46 pa n < m + 1) from fun q => a q.1), if_neg a]; omega
theorem zpr_mono (pa : Nat → Int32) (n mt more : Nat) : ∀ m j, zpr pa n mt more m ≤ zpr pa n mt more (m + j) := by
  intro m j
  induction j with
  | zero => exact Nat.le_refl _
  | succ j ih =>
    rw [show m + (j + 1) = (m + j) + 1 by omega, zpr]
    omega
