/-! rows of throws as digits -/
def zaq (r : Nat) (d : Nat → Nat) : Nat → Nat
  | 0 => r
  | q + 1 => zcl (zaq r d q) (d q)
def zvb (r : Nat) (d : Nat → Nat) : Nat → Bool
  | 0 => true
  | q + 1 => zvb r d q && (d q == 6 || (zaq r d q).testBit (d q))
def zbn (d : Nat → Nat) : Nat → Nat
  | 0 => 0
  | q + 1 => 7 * zbn d q + d q
def zdg (n num k : Nat) : Nat := num / 7 ^ (n - 1 - k) % 7
def zup (d : Nat → Nat) (q t : Nat) (k : Nat) : Nat := if k = q then t else d k
theorem zdg_lt (n num k : Nat) : zdg n num k < 7 := Nat.mod_lt _ (by decide)
theorem zaq_lt {r : Nat} (hr : r < 64) (d : Nat → Nat) : ∀ q, zaq r d q < 64 := by
  intro q
  induction q with
  | zero => exact hr
  | succ q ih => rw [zaq]; exact zcl_lt ih
theorem zaq_cg (r : Nat) {d e : Nat → Nat} : ∀ q, (∀ k, k < q → d k = e k) → zaq r d q = zaq r e q := by
  intro q
  induction q with
  | zero => intro _; rfl
  | succ q ih => intro h; rw [zaq, zaq, ih (fun k hk => h k (by omega)), h q (by omega)]
theorem zvb_cg (r : Nat) {d e : Nat → Nat} : ∀ q, (∀ k, k < q → d k = e k) → zvb r d q = zvb r e q := by
  intro q
  induction q with
  | zero => intro _; rfl
  | succ q ih => intro h; rw [zvb, zvb, ih (fun k hk => h k (by omega)), zaq_cg r q (fun k hk => h k (by omega)), h q (by omega)]
theorem zbn_cg {d e : Nat → Nat} : ∀ q, (∀ k, k < q → d k = e k) → zbn d q = zbn e q := by
  intro q
  induction q with
  | zero => intro _; rfl
  | succ q ih => intro h; rw [zbn, zbn, ih (fun k hk => h k (by omega)), h q (by omega)]
theorem zvb_mono (r : Nat) (d : Nat → Nat) (q : Nat) : ∀ j, zvb r d (q + j) = true → zvb r d q = true := by
  intro j
  induction j with
  | zero => intro h; exact h
  | succ j ih => intro h; rw [show q + (j + 1) = (q + j) + 1 by omega, zvb, Bool.and_eq_true] at h; exact ih h.1
/-- a block of numbers has its prefix's digits -/
theorem zdg_bn (d : Nat → Nat) : ∀ q, (∀ k, k < q → d k < 7) → ∀ k, k < q → zbn d q / 7 ^ (q - 1 - k) % 7 = d k := by
  intro q
  induction q with
  | zero => intro _ k h; omega
  | succ q ih =>
    intro h k hk
    rw [zbn]
    have hq := h q (by omega)
    rcases Nat.lt_or_ge k q with a | a
    · rw [show q + 1 - 1 - k = (q - 1 - k) + 1 by omega, Nat.pow_succ, Nat.mul_comm (7 ^ (q - 1 - k)) 7, ← Nat.div_div_eq_div_mul, show (7 * zbn d q + d q) / 7 = zbn d q by omega]
      exact ih (fun k hk => h k (by omega)) k a
    · have e : k = q := by omega
      subst e
      rw [show k + 1 - 1 - k = 0 by omega, Nat.pow_zero, Nat.div_one]
      omega
theorem zdg_blk (d : Nat → Nat) (q j i : Nat) (hd : ∀ k, k < q → d k < 7) (h1 : zbn d q * 7 ^ j ≤ i) (h2 : i < (zbn d q + 1) * 7 ^ j) : ∀ k, k < q → zdg (q + j) i k = d k := by
  intro k hk
  unfold zdg
  rw [show q + j - 1 - k = j + (q - 1 - k) by omega, Nat.pow_add, ← Nat.div_div_eq_div_mul, show i / 7 ^ j = zbn d q from Nat.div_eq_of_lt_le h1 h2]
  exact zdg_bn d q hd k hk
/-! folds over numbers -/
def zfo {σ : Type} (step : Nat → σ → σ) : Nat → Nat → σ → σ
  | 0, _, x => x
  | n + 1, b, x => zfo step n (b + 1) (step b x)
theorem zfo_add {σ : Type} (step : Nat → σ → σ) (m : Nat) : ∀ n b x, zfo step (n + m) b x = zfo step m (b + n) (zfo step n b x) := by
  intro n
  induction n with
  | zero => intro b x; rw [Nat.zero_add]; rfl
  | succ n ih => intro b x; rw [show n + 1 + m = (n + m) + 1 by omega, zfo, zfo, ih, show b + 1 + n = b + (n + 1) by omega]
theorem zfo_id {σ : Type} (step : Nat → σ → σ) : ∀ n b x, (∀ i, b ≤ i → i < b + n → ∀ y, step i y = y) → zfo step n b x = x := by
  intro n
  induction n with
  | zero => intro b x _; rfl
  | succ n ih => intro b x h; rw [zfo, h b (Nat.le_refl _) (by omega), ih (b + 1) x (fun i h1 h2 y => h i (by omega) (by omega) y)]
/-! what is aboard -/
theorem zld_bit (we : Nat → Int32) : ∀ q k s, k ≤ 6 → 6 - k < q → s < 64 → (∀ u, k ≤ u → u < 6 → s.testBit u = false) → ∃ r, r < 64 ∧ lp_X9_loaded_4 we q k (nI s) = nI r ∧ ∀ u, u < 6 → r.testBit u = (if u < k then s.testBit u else decide (0 < we u)) := by
  intro q
  induction q with
  | zero => intro k s _ h; exact absurd h (Nat.not_lt_zero _)
  | succ q ih =>
    intro k s hk hq hs hb
    rw [lp_X9_loaded_4]
    by_cases c : (6 : Int32) ≤ nI k
    · have := zNle (a := 6) c (by omega) (by omega)
      rw [if_pos c]; exact ⟨s, hs, rfl, fun u hu => by rw [if_pos (by omega)]⟩
    · rw [if_neg c]
      have hk6 := zNnle (a := 6) (b := k) c (by omega) (by omega)
      by_cases d : we k ≤ 0
      · rw [if_pos d, zb_or0 s hs]
        obtain ⟨r, h1, h2, h3⟩ := ih (k + 1) s (by omega) (by omega) hs (fun u h1 h2 => hb u (by omega) h2)
        refine ⟨r, h1, h2, fun u hu => ?_⟩
        rw [h3 u hu]
        by_cases e : u = k
        · subst e
          rw [if_pos (by omega), if_neg (by omega), hb u (by omega) hu, decide_eq_false (Int32.not_lt.mpr d)]
        · by_cases e2 : u < k
          · rw [if_pos (by omega), if_pos e2]
          · rw [if_neg (by omega), if_neg e2]
      · rw [if_neg d, zb_or k hk6 s hs]
        have hset := zb_set k hk6 s hs
        obtain ⟨r, h1, h2, h3⟩ := ih (k + 1) _ (by omega) (by omega) (zb_or_lt k hk6 s hs) (fun u h1 h2 => by rw [hset u h2, if_neg (by omega)]; exact hb u (by omega) h2)
        refine ⟨r, h1, h2, fun u hu => ?_⟩
        rw [h3 u hu, hset u hu]
        by_cases e : u = k
        · subst e
          rw [if_pos (by omega), if_pos rfl, if_neg (by omega), decide_eq_true (Int32.not_le.mp d)]
        · by_cases e2 : u < k
          · rw [if_pos (by omega), if_neg e, if_pos e2]
          · rw [if_neg (by omega), if_neg e2]
theorem zldb (we : Nat → Int32) : ∃ r, r < 64 ∧ lp_X9_loaded_4 we 7 0 0 = nI r ∧ ∀ u, u < 6 → r.testBit u = decide (0 < we u) := by
  obtain ⟨r, h1, h2, h3⟩ := zld_bit we 7 0 0 (by omega) (by omega) (by omega) (fun u _ _ => Nat.zero_testBit u)
  exact ⟨r, h1, h2, fun u hu => by rw [h3 u hu, if_neg (Nat.not_lt_zero _)]⟩
theorem zcl_bit : ∀ k, k < 7 → ∀ s, s < 64 → ∀ u, u < 6 → (zcl s k).testBit u = (s.testBit u && !(u == k)) := by decide +kernel
theorem zcl6 : ∀ s, s < 64 → zcl s 6 = s := by decide +kernel
theorem zaq_bit {r : Nat} (hr : r < 64) {d : Nat → Nat} (u : Nat) (hu : u < 6) : ∀ q, (∀ k, k < q → d k < 7) → ((zaq r d q).testBit u = true ↔ r.testBit u = true ∧ ∀ k, k < q → ¬ d k = u) := by
  intro q
  induction q with
  | zero => intro _; exact ⟨fun h => ⟨h, fun k hk => absurd hk (Nat.not_lt_zero _)⟩, fun h => h.1⟩
  | succ q ih =>
    intro h
    rw [zaq, zcl_bit (d q) (h q (by omega)) _ (zaq_lt hr d q) u hu, Bool.and_eq_true, ih (fun k hk => h k (by omega)), Bool.not_eq_true', beq_eq_false_iff_ne]
    constructor
    · intro ⟨⟨h1, h2⟩, h3⟩
      refine ⟨h1, fun k hk => ?_⟩
      rcases Nat.lt_or_ge k q with a | a
      · exact h2 k a
      · rw [show k = q by omega]; exact fun e => h3 e.symm
    · intro ⟨h1, h2⟩
      exact ⟨⟨h1, fun k hk => h2 k (by omega)⟩, fun e => h2 q (by omega) e.symm⟩
theorem zvb_iff (r : Nat) (d : Nat → Nat) : ∀ q, zvb r d q = true ↔ ∀ k, k < q → d k = 6 ∨ (zaq r d k).testBit (d k) = true := by
  intro q
  induction q with
  | zero => exact ⟨fun _ k hk => absurd hk (Nat.not_lt_zero _), fun _ => rfl⟩
  | succ q ih =>
    rw [zvb, Bool.and_eq_true, ih, Bool.or_eq_true, beq_iff_eq]
    constructor
    · intro ⟨h1, h2⟩ k hk
      rcases Nat.lt_or_ge k q with a | a
      · exact h1 k a
      · rw [show k = q by omega]; exact h2
    · intro h
      exact ⟨fun k hk => h k (by omega), h q (by omega)⟩
/-- the model's test of a row of throws -/
def zlv (we : Nat → Int32) (h : Nat) (d : Nat → Nat) (q : Nat) : Prop := (∀ k, k < q → d k = 6 ∨ (0 < we (d k) ∧ h.testBit (d k) = false)) ∧ ∀ k k', k < k' → k' < q → d k = d k' → d k = 6
theorem zb7 : ∀ k, k < 7 → ∀ s, s < 128 → ((nI s >>> (nI k &&& 31)) &&& 1) = (if s.testBit k then 1 else 0) ∧ nI s ||| (1 <<< (nI k &&& 31)) = nI (s ||| 2 ^ k) ∧ s ||| 2 ^ k < 128 := by decide +kernel
theorem zorb {h m i : Nat} : (h ||| 2 ^ m).testBit i = (h.testBit i || decide (m = i)) := by rw [Nat.testBit_or, Nat.testBit_two_pow]
theorem zlay (we : Nat → Int32) : ∀ (q rs h : Nat) (x fl : Int32) (f : Nat → Int32), q < 100 → h < 128 → (fl = 0 ∨ fl = 1) → x = nI q + (-1) →
    (∀ k, (lp_X9_layThrows_13 we (q + 1) rs x fl (nI h) f).2 k = if k < q then nI (rs / 7 ^ (q - 1 - k) % 7) else f k) ∧
    (¬ (lp_X9_layThrows_13 we (q + 1) rs x fl (nI h) f).1 = 0 ↔ ¬ fl = 0 ∧ zlv we h (fun k => rs / 7 ^ (q - 1 - k) % 7) q) := by
  intro q
  induction q with
  | zero =>
    intro rs h x fl f _ hh hfl hx
    have hx0 : x < 0 := by rw [hx]; decide
    rw [lp_X9_layThrows_13, if_pos hx0]
    exact ⟨fun k => by rw [if_neg (Nat.not_lt_zero _)], ⟨fun h => ⟨h, fun k hk => absurd hk (Nat.not_lt_zero _), fun k k' _ hk => absurd hk (Nat.not_lt_zero _)⟩, fun h => h.1⟩⟩
  | succ q ih =>
    intro rs h x fl f hq hh hfl hx
    rw [pk_m1] at hx
    subst hx
    have hm : rs % 7 < 7 := Nat.mod_lt _ (by decide)
    obtain ⟨b1, b2, b3⟩ := zb7 (rs % 7) hm h hh
    rw [lp_X9_layThrows_13, if_neg (nI_pos (by omega)), nI_clamp (by omega), b2, b1]
    have hdig : ∀ k, k < q → rs / 7 ^ (q + 1 - 1 - k) % 7 = rs / 7 / 7 ^ (q - 1 - k) % 7 := fun k hk => by
      rw [show q + 1 - 1 - k = (q - 1 - k) + 1 by omega, Nat.pow_succ, Nat.mul_comm (7 ^ (q - 1 - k)) 7, Nat.div_div_eq_div_mul]
    have hdq : rs / 7 ^ (q + 1 - 1 - q) % 7 = rs % 7 := by rw [show q + 1 - 1 - q = 0 by omega, Nat.pow_zero, Nat.div_one]
    generalize hfl2 : ((if fl = 0 then 0 else (if ((if (nI (rs % 7)) = 6 then 1 else (if (we (rs % 7)) ≤ 0 then 0 else (if ((if h.testBit (rs % 7) then 1 else 0) : Int32) = 0 then 1 else 0))) : Int32) = 0 then 0 else 1)) : Int32) = fl2
    have hmay : ¬ fl2 = 0 ↔ ¬ fl = 0 ∧ (rs % 7 = 6 ∨ (0 < we (rs % 7) ∧ h.testBit (rs % 7) = false)) := by
      rw [← hfl2]
      by_cases a : fl = 0
      · rw [if_pos a]; exact ⟨fun h => absurd rfl h, fun h => absurd a h.1⟩
      · rw [if_neg a]
        by_cases b : rs % 7 = 6
        · rw [if_pos (show nI (rs % 7) = 6 by rw [b]; rfl), if_neg (by decide)]
          exact ⟨fun _ => ⟨a, Or.inl b⟩, fun _ => by decide⟩
        · rw [if_neg (show ¬ nI (rs % 7) = 6 from fun h => b (zNeq (b := 6) h (by omega) (by omega)))]
          by_cases c : we (rs % 7) ≤ 0
          · rw [if_pos c, if_pos rfl]
            refine ⟨fun h => absurd rfl h, fun h => ?_⟩
            rcases h.2 with h | h
            · exact absurd h b
            · exact absurd c (Int32.not_le.mpr h.1)
          · rw [if_neg c]
            by_cases e : h.testBit (rs % 7) = true
            · rw [if_pos e, if_neg (show ¬ (1 : Int32) = 0 by decide), if_pos rfl]
              refine ⟨fun h => absurd rfl h, fun g => ?_⟩
              rcases g.2 with g | g
              · exact absurd g b
              · rw [e] at g; exact absurd g.2 (by decide)
            · rw [if_neg e, if_pos (show (0 : Int32) = 0 from rfl), if_neg (by decide)]
              exact ⟨fun _ => ⟨a, Or.inr ⟨Int32.not_le.mp c, by simpa using e⟩⟩, fun _ => by decide⟩
    have hfl01 : fl2 = 0 ∨ fl2 = 1 := by
      rw [← hfl2]
      exact ziteP (fun v => v = 0 ∨ v = 1) (Or.inl rfl) (ziteP (fun v => v = 0 ∨ v = 1) (Or.inl rfl) (Or.inr rfl))
    obtain ⟨i1, i2⟩ := ih (rs / 7) (h ||| 2 ^ (rs % 7)) (nI q + (-1)) fl2 (upd f q (nI (rs % 7))) (by omega) b3 hfl01 rfl
    refine ⟨fun k => ?_, ?_⟩
    · rw [i1 k]
      by_cases a : k < q
      · rw [if_pos a, if_pos (by omega), hdig k a]
      · rw [if_neg a]
        by_cases b : k = q
        · rw [b, pk_us, if_pos (by omega), hdq]
        · rw [pk_un b, if_neg (by omega)]
    · rw [i2, hmay]
      constructor
      · intro ⟨⟨h1, h2⟩, h3, h4⟩
        refine ⟨h1, fun k hk => ?_, fun k k' hkk hk e => ?_⟩
        · dsimp only
          rcases Nat.lt_or_ge k q with a | a
          · rw [hdig k a]
            rcases h3 k a with g | g
            · exact Or.inl g
            · dsimp only at g
              rw [zorb, Bool.or_eq_false_iff] at g
              exact Or.inr ⟨g.1, g.2.1⟩
          · rw [show k = q by omega, hdq]; exact h2
        · dsimp only at e ⊢
          rw [hdig k (by omega)] at e ⊢
          rcases Nat.lt_or_ge k' q with a | a
          · rw [hdig k' a] at e
            exact h4 k k' hkk a e
          · rw [show k' = q by omega, hdq] at e
            rcases h3 k (by omega) with g | g
            · exact g
            · dsimp only at g
              rw [zorb, Bool.or_eq_false_iff, decide_eq_false_iff_not] at g
              exact absurd e.symm g.2.2
      · intro ⟨h1, h3, h4⟩
        refine ⟨⟨h1, ?_⟩, fun k hk => ?_, fun k k' hkk hk e => ?_⟩
        · have := h3 q (by omega)
          dsimp only at this
          rw [hdq] at this
          exact this
        · have g := h3 k (by omega)
          dsimp only at g ⊢
          rw [hdig k hk] at g
          by_cases a : rs / 7 / 7 ^ (q - 1 - k) % 7 = 6
          · exact Or.inl a
          · refine Or.inr ⟨(g.resolve_left a).1, ?_⟩
            rw [zorb, (g.resolve_left a).2, Bool.false_or, decide_eq_false_iff_not]
            intro e
            have := h4 k q (by omega) (by omega) (by dsimp only; rw [hdig k hk, hdq]; exact e.symm)
            dsimp only at this
            rw [hdig k hk] at this
            exact a this
        · have := h4 k k' hkk (by omega) (by dsimp only at e ⊢; rw [hdig k (by omega), hdig k' hk]; exact e)
          dsimp only at this ⊢
          rw [hdig k (by omega)] at this
          exact this
theorem zlv_vb {we : Nat → Int32} {r : Nat} (hr : r < 64) (hb : ∀ u, u < 6 → r.testBit u = decide (0 < we u)) {d : Nat → Nat} (n : Nat) (hd : ∀ k, k < n → d k < 7) : zlv we 0 d n ↔ zvb r d n = true := by
  rw [zvb_iff]
  constructor
  · intro ⟨h1, h2⟩ k hk
    by_cases c : d k = 6
    · exact Or.inl c
    · have hdk := hd k hk
      refine Or.inr ((zaq_bit hr (d k) (by omega) k (fun i hi => hd i (by omega))).mpr ⟨?_, fun i hi e => ?_⟩)
      · rw [hb (d k) (by omega)]
        exact decide_eq_true ((h1 k hk).resolve_left c).1
      · exact c (e ▸ h2 i k hi hk e)
  · intro h
    refine ⟨fun k hk => ?_, fun k k' hkk hk' e => ?_⟩
    · by_cases c : d k = 6
      · exact Or.inl c
      · have hdk := hd k hk
        have h1 := (zaq_bit hr (d k) (by omega) k (fun i hi => hd i (by omega))).mp ((h k hk).resolve_left c)
        rw [hb (d k) (by omega)] at h1
        exact Or.inr ⟨of_decide_eq_true h1.1, Nat.zero_testBit _⟩
    · by_cases c : d k = 6
      · exact c
      · have hdk := hd k' hk'
        have h1 := (zaq_bit hr (d k') (by omega) k' (fun i hi => hd i (by omega))).mp ((h k' hk').resolve_left (e ▸ c))
        exact absurd e (h1.2 k hkk)
/-- the model's row of throws, by the number's digits -/
theorem zlay0 (we : Nat → Int32) {r : Nat} (hr : r < 64) (hb : ∀ u, u < 6 → r.testBit u = decide (0 < we u)) (n num : Nat) (f : Nat → Int32) (hn : n < 100) :
    (∀ k, (lp_X9_layThrows_13 we (n + 1) num (nI n - 1) 1 0 f).2 k = if k < n then nI (zdg n num k) else f k) ∧
    ((lp_X9_layThrows_13 we (n + 1) num (nI n - 1) 1 0 f).1 = 0 ↔ zvb r (zdg n num) n = false) := by
  have h := zlay we n num 0 (nI n - 1) 1 f hn (by decide) (Or.inr rfl) (by rw [Int32.sub_eq_add_neg])
  refine ⟨h.1, ?_⟩
  have h2 : ¬ (lp_X9_layThrows_13 we (n + 1) num (nI n - 1) 1 0 f).1 = 0 ↔ zvb r (zdg n num) n = true := by
    rw [← zlv_vb hr hb n (fun k _ => zdg_lt n num k)]
    exact ⟨fun q => (h.2.mp q).2, fun q => h.2.mpr ⟨by decide, q⟩⟩
  rw [← Bool.not_eq_true]
  exact ⟨fun q w => (h2.mpr w) q, fun q => Decidable.byContradiction (fun w => q (h2.mp w))⟩
