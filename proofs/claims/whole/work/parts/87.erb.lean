/-! sums of chances, as numbers -/
def zsu (g : Nat → Nat) : Nat → Nat
  | 0 => 0
  | n + 1 => zsu g n + g n
theorem zsu_add (g : Nat → Nat) (a : Nat) : ∀ b, zsu g (a + b) = zsu g a + zsu (fun i => g (a + i)) b := by
  intro b
  induction b with
  | zero => rfl
  | succ b ih => rw [← Nat.add_assoc, zsu, zsu, ih, Nat.add_assoc]
theorem zsu_cg {g h : Nat → Nat} : ∀ n, (∀ i, i < n → g i = h i) → zsu g n = zsu h n := by
  intro n
  induction n with
  | zero => intro _; rfl
  | succ n ih => intro hh; rw [zsu, zsu, ih (fun i hi => hh i (by omega)), hh n (by omega)]
theorem zsu_mul (g : Nat → Nat) (k : Nat) : ∀ n, zsu (fun i => k * g i) n = k * zsu g n := by
  intro n
  induction n with
  | zero => rfl
  | succ n ih => rw [zsu, zsu, ih, Nat.mul_add]
theorem zsu_le {g h : Nat → Nat} : ∀ n, (∀ i, i < n → g i ≤ h i) → zsu g n ≤ zsu h n := by
  intro n
  induction n with
  | zero => intro _; exact Nat.le_refl _
  | succ n ih => intro hh; rw [zsu, zsu]; exact Nat.add_le_add (ih (fun i hi => hh i (by omega))) (hh n (by omega))
theorem zcb_lo {i n : Nat} : ∀ k, k ≤ n → zcb (2 ^ n + i) k = zcb i k := by
  intro k
  induction k with
  | zero => intro _; rfl
  | succ k ih =>
    intro h
    rw [zcb, zcb, ih (by omega), show 2 ^ n + i = i + 2 ^ k * 2 ^ (n - k) by rw [← Nat.pow_add, show k + (n - k) = n by omega, Nat.add_comm], Nat.add_mul_div_left _ _ (Nat.two_pow_pos k), show n - k = (n - k - 1) + 1 by omega, Nat.pow_succ]
    omega
/-- all chances together make one -/
theorem zsum1 {c : Nat} (hc : c ≤ 10) : ∀ n, zsu (zcw c n) (2 ^ n) = 10 ^ n := by
  intro n
  induction n with
  | zero => rfl
  | succ n ih =>
    rw [show 2 ^ (n + 1) = 2 ^ n + 2 ^ n by rw [Nat.pow_succ]; omega, zsu_add, Nat.pow_succ]
    rw [zsu_cg (g := zcw c (n + 1)) (h := fun v => (10 - c) * zcw c n v) (2 ^ n) (fun v hv => by
      have := zcb_le v n
      unfold zcw
      rw [zcb_hi hv 1, show n + 1 - zcb v n = (n - zcb v n) + 1 by omega, Nat.pow_succ]
      ac_rfl)]
    rw [zsu_cg (g := fun i => zcw c (n + 1) (2 ^ n + i)) (h := fun v => c * zcw c n v) (2 ^ n) (fun v hv => by
      have := zcb_le v n
      unfold zcw
      rw [zcb, zcb_lo n (Nat.le_refl n), show (2 ^ n + v) / 2 ^ n = 1 from Nat.div_eq_of_lt_le (by omega) (by omega), show zcb v n + 1 % 2 = zcb v n + 1 from rfl, show n + 1 - (zcb v n + 1) = n - zcb v n by omega, Nat.pow_succ]
      ac_rfl)]
    rw [zsu_mul, zsu_mul, ih, ← Nat.add_mul, show 10 - c + c = 10 by omega, Nat.mul_comm]
/-! lowest terms -/
theorem zgcd_c : ∀ (n a b k fu : Nat), b < 2 ^ n → a < 2 ^ 62 → b < 2 ^ 62 → k + 2 * n + 1 ≤ 200 → 200 - k < fu → lp_X8_commonDivisor_9 fu k (lN b) (lN a) = lN (Nat.gcd b a) := by
  have hz : ∀ b, b < 2 ^ 62 → (lg_cmp (lN b) 0 = 0 ↔ b = 0) := fun b hb => by
    rw [lg_cmp_eq]
    exact pk_lEQ (b := 0) (by omega) (by omega)
  intro n
  induction n with
  | zero =>
    intro a b k fu hb ha _ hk hfu
    have hb0 : b = 0 := by omega
    subst hb0
    obtain ⟨fu, rfl⟩ : ∃ q, fu = q + 1 := ⟨fu - 1, by omega⟩
    rw [lp_X8_commonDivisor_9, if_neg (show ¬ (200 : Int32) ≤ nI k from fun h => absurd (zNle (a := 200) h (by omega) (by omega)) (by omega)), if_pos ((hz 0 (by omega)).mpr rfl), Nat.gcd_zero_left]
  | succ n ih =>
    intro a b k fu hb ha hb62 hk hfu
    obtain ⟨fu, rfl⟩ : ∃ q, fu = q + 1 + 1 := ⟨fu - 2, by omega⟩
    rw [lp_X8_commonDivisor_9, if_neg (show ¬ (200 : Int32) ≤ nI k from fun h => absurd (zNle (a := 200) h (by omega) (by omega)) (by omega))]
    by_cases b0 : b = 0
    · rw [if_pos ((hz b hb62).mpr b0), b0, Nat.gcd_zero_left]
    · have hm := Nat.mod_lt a (show 0 < b by omega)
      rw [if_neg (fun h => b0 ((hz b hb62).mp h)), pk_lRem (by omega) (by omega) (by omega), lp_X8_commonDivisor_9, if_neg (show ¬ (200 : Int32) ≤ nI (k + 1) from fun h => absurd (zNle (a := 200) h (by omega) (by omega)) (by omega)), Nat.gcd_rec b a]
      by_cases m0 : a % b = 0
      · rw [if_pos ((hz _ (by omega)).mpr m0), m0, Nat.gcd_zero_left]
      · have h2 := Nat.mod_lt b (show 0 < a % b by omega)
        have h3 : b % (a % b) < 2 ^ n := by
          rcases Nat.lt_or_ge (2 * (a % b)) (b + 1) with q | q
          · rw [Nat.pow_succ] at hb; omega
          · have : b % (a % b) = b - a % b := by
              rw [Nat.mod_eq_sub_mod (by omega), Nat.mod_eq_of_lt (by omega)]
            rw [Nat.pow_succ] at hb
            omega
        rw [if_neg (fun h => m0 ((hz _ (by omega)).mp h)), pk_lRem (by omega) (by omega) (by omega), Nat.gcd_rec (a % b) b]
        exact ih (a % b) (b % (a % b)) (k + 1 + 1) fu h3 (by omega) (by omega) (by omega) (by omega)
theorem zgcd_m : ∀ (fu a b : Nat), b < fu → a < 2 ^ 62 → b < 2 ^ 62 → lp_X9_lowest_6 fu (lN b) (lN a) = lN (Nat.gcd b a) := by
  intro fu
  induction fu with
  | zero => intro a b h; exact absurd h (Nat.not_lt_zero _)
  | succ fu ih =>
    intro a b hfu ha hb
    have hz : lg_cmp (lN b) 0 = 0 ↔ b = 0 := by
      rw [lg_cmp_eq]
      exact pk_lEQ (b := 0) (by omega) (by omega)
    rw [lp_X9_lowest_6]
    by_cases b0 : b = 0
    · rw [if_pos (hz.mpr b0), b0, Nat.gcd_zero_left]
    · have hm := Nat.mod_lt a (show 0 < b by omega)
      rw [if_neg (fun h => b0 (hz.mp h)), pk_lRem (by omega) (by omega) (by omega), Nat.gcd_rec b a]
      exact ih b (a % b) (by omega) (by omega) (by omega)
theorem zlowest (U L : Nat) (part : Int32) (hU : U < 2 ^ 62) (hL : L < 2 ^ 41) (h0 : 0 < L) : s_X8_inLowestTerms (lN U) (lN L) part = s_X9_lowest (lN U) (lN L) part := by
  unfold s_X8_inLowestTerms s_X9_lowest
  have hg : 0 < Nat.gcd L U := Nat.gcd_pos_of_pos_left _ h0
  have hgl : Nat.gcd L U ≤ L := Nat.gcd_le_left _ h0
  rw [zgcd_c 41 U L 0 201 hL hU (by omega) (by omega) (by omega), pk_lT (by omega), Int.natAbs_natCast, zgcd_m (U + 1) L U (by omega) (by omega) hU, Nat.gcd_comm U L, if_pos (show 0 ≤ lg_cmp (lN (Nat.gcd L U)) 1 from (lg_cmp_ge _ _).mpr ((pk_lLE (a := 1) (by omega) (by omega)).mpr hg))]
