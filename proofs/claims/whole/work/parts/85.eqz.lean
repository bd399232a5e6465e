/-! nearest, put together -/
theorem zsimn (ns pn : Nat) (V : Nat → Nat → Int32) (pa dr : Nat → Int32) (go : Int32) {r : Nat} (hr : r < 64) (hns : ns ≤ 6) (hpn : pn ≤ 60) (h33 : ns = zct 33 pa pn) (hV : ∀ s k, -9 ≤ (V s k).toInt ∧ (V s k).toInt ≤ 9) (hgo : -600 ≤ go.toInt ∧ go.toInt ≤ 600) (hdr : ∀ leg s, leg ≤ 12 → s < 64 → dr (leg * 64 + s) = zQ V pa leg s pn) :
    ∀ (j q : Nat) (d : Nat → Nat) (T : Nat) (pk be : Nat → Int32) (off thr : Int32) (x : Int32 × (Nat → Int32)), q + j = ns → (∀ k, k < q → d k < 7) → zvb r d q = true → (∀ k, k < q → pk k = zpk (d k)) → T + zpc 12 (zaq r d q) = zpc 12 r → zRR ns off thr be x →
      zR2 ns (s_X8_seek ns dr go (7 - q) q (nI (zaq r d q)) (zSm (fun leg => zQ V pa leg (zaq r d leg) pn) q) (nI T) pk be off thr).2.2.1 (s_X8_seek ns dr go (7 - q) q (nI (zaq r d q)) (zSm (fun leg => zQ V pa leg (zaq r d leg) pn) q) (nI T) pk be off thr).2.2.2 (s_X8_seek ns dr go (7 - q) q (nI (zaq r d q)) (zSm (fun leg => zQ V pa leg (zaq r d leg) pn) q) (nI T) pk be off thr).2.1 (zfo (zns r ns pn V pa go) (7 ^ j) (zbn d q * 7 ^ j) x) ∧
      ∀ k, k < q → (s_X8_seek ns dr go (7 - q) q (nI (zaq r d q)) (zSm (fun leg => zQ V pa leg (zaq r d leg) pn) q) (nI T) pk be off thr).1 k = zpk (d k) := by
  intro j
  induction j with
  | zero =>
    intro q d T pk be off thr x hq hd hv hpk hT hR
    have hqn : q = ns := by omega
    have hdig := zdg_blk d q 0 (zbn d q * 7 ^ 0) hd (Nat.le_refl _) (by rw [Nat.add_mul]; exact Nat.lt_add_of_pos_right (by decide))
    rw [Nat.add_zero] at hdig
    rw [Nat.pow_zero] at hdig
    have hab := zaq_lt hr d q
    have h6 := zpc6 r hr
    have hpl : zCo V pa (zaq r (zdg q (zbn d q * 1))) pn = zSm (fun leg => zQ V pa leg (zaq r d leg) pn) q + zQ V pa q (zaq r d q) pn := by
      rw [zLS V pa _ (q + 1) pn (by omega), zSm_congr (g := fun leg => zQ V pa leg (zaq r d leg) pn) (q + 1) (fun i hi => by rw [zaq_cg r i (fun k hk => hdig k (by omega))]), zSm]
    have hplb := zLb V hV pa (zaq r (zdg q (zbn d q * 1))) pn hpn
    rw [hpl] at hplb
    rw [show 7 - q = (6 - q) + 1 by omega, s_X8_seek, if_pos (by rw [hqn]; exact Int32.le_refl _), zcd hdr (by omega) hab, Nat.pow_zero, zfo, zfo, zns, ← hqn, if_pos (by rw [zvb_cg r q hdig]; exact hv)]
    refine ⟨?_, hpk⟩
    have hl := zleaf q go off thr (zSm (fun leg => zQ V pa leg (zaq r d leg) pn) q + zQ V pa q (zaq r d q) pn) (nI T) (zval r q pn V pa go (zbn d q * 1)) pk be x d T hgo (by omega) (by omega) rfl hd hpk (fun A hA hA2 => by
      unfold zval
      rw [hpl, hA, zon_pc r hr, zaq_cg r q hdig, zon_pc _ hab]
      show nI 10 * nI A + _ - _ = _
      rw [pk_mul, nI_add, pk_sub (by omega), show 10 * A + zpc 12 r - zpc 12 (zaq r d q) = 10 * A + T by omega]) (by rw [hqn]; exact hR)
    have he : (fun j => if j < q then nI (zdg q (zbn d q * 1) j) else x.2 j) = (fun j => if j < q then nI (d j) else x.2 j) := funext (fun i => by
      by_cases c : i < q
      · rw [if_pos c, if_pos c, hdig i c]
      · rw [if_neg c, if_neg c])
    rw [he]
    exact hl
  | succ j ih =>
    intro q d T pk be off thr x hq hd hv hpk hT hR
    have hab := zaq_lt hr d q
    rw [show 7 - q = (6 - q) + 1 by omega, s_X8_seek, if_neg (fun h => absurd (zNle h (by omega) (by omega)) (by omega)), if_pos (show nI q < 6 from (nI_ltI (b := 6) (by omega) (by omega)).mpr (by omega)), zcd hdr (by omega) hab]
    dsimp only
    have hih : ∀ t, t < 7 → (t == 6 || (zaq r d q).testBit t) = true → ∀ (T' : Nat) (pk be : Nat → Int32) (off thr : Int32) (y : Int32 × (Nat → Int32)), T' + zpc 12 (zcl (zaq r d q) t) = zpc 12 r → (∀ k, k < q → pk k = zpk (d k)) → zRR ns off thr be y →
        zR2 ns (s_X8_seek ns dr go (6 - q) (q + 1) (nI (zcl (zaq r d q) t)) (zSm (fun leg => zQ V pa leg (zaq r d leg) pn) q + zQ V pa q (zaq r d q) pn) (nI T') (upd pk q (zpk t)) be off thr).2.2.1 (s_X8_seek ns dr go (6 - q) (q + 1) (nI (zcl (zaq r d q) t)) (zSm (fun leg => zQ V pa leg (zaq r d leg) pn) q + zQ V pa q (zaq r d q) pn) (nI T') (upd pk q (zpk t)) be off thr).2.2.2 (s_X8_seek ns dr go (6 - q) (q + 1) (nI (zcl (zaq r d q) t)) (zSm (fun leg => zQ V pa leg (zaq r d leg) pn) q + zQ V pa q (zaq r d q) pn) (nI T') (upd pk q (zpk t)) be off thr).2.1 (zfo (zns r ns pn V pa go) (7 ^ j) ((7 * zbn d q + t) * 7 ^ j) y) ∧
        ∀ k, k < q → (s_X8_seek ns dr go (6 - q) (q + 1) (nI (zcl (zaq r d q) t)) (zSm (fun leg => zQ V pa leg (zaq r d leg) pn) q + zQ V pa q (zaq r d q) pn) (nI T') (upd pk q (zpk t)) be off thr).1 k = zpk (d k) := by
      intro t ht htb T' pk be off thr y hT' hpk hR
      have hvb := zup_vb r d q t
      rw [hv, Bool.true_and, htb] at hvb
      have h := ih (q + 1) (zup d q t) T' (upd pk q (zpk t)) be off thr y (by omega) (zup_lt ht hd) hvb (fun k hk => by
        by_cases e : k = q
        · rw [e, pk_us, zup_same]
        · rw [pk_un e, zup_else d e]; exact hpk k (by omega)) (by rw [zup_aq]; exact hT') hR
      rw [zup_aq, zup_sm (fun leg s => zQ V pa leg s pn), zup_bn, show 7 - (q + 1) = 6 - q by omega] at h
      refine ⟨h.1, fun k hk => ?_⟩
      rw [h.2 k (by omega), zup_else d (by omega)]
    generalize hwf : s_X8_seek ns dr go (6 - q) = wf at hih ⊢
    generalize hab2 : zaq r d q = ab at hih hab hT ⊢
    generalize hpl : zSm (fun leg => zQ V pa leg (zaq r d leg) pn) q = pl at hih ⊢
    have hmst : ∀ t, zfo (zns r ns pn V pa go) ((t + 1) * 7 ^ j) (7 * zbn d q * 7 ^ j) x = zfo (zns r ns pn V pa go) (7 ^ j) ((7 * zbn d q + t) * 7 ^ j) (zfo (zns r ns pn V pa go) (t * 7 ^ j) (7 * zbn d q * 7 ^ j) x) := fun t => by
      rw [Nat.add_mul t 1, Nat.one_mul, zfo_add, ← Nat.add_mul]
    have h37 := zseek37 wf dr (fun leg s => zQ V pa leg s pn) hdr ns q ab pl (nI T) d (fun m => zfo (zns r ns pn V pa go) (m * 7 ^ j) (7 * zbn d q * 7 ^ j) x) (by omega) hab
      (fun t ht htb => by
        rw [hmst t]
        refine zfo_id _ _ _ _ (fun i h1 h2 z => ?_)
        have hd' := zup_lt (d := d) (q := q) (show t < 7 by omega) hd
        have hvb := zup_vb r d q t
        rw [hv, Bool.true_and, hab2, show (t == 6) = false from beq_eq_false_iff_ne.mpr (by omega), Bool.false_or] at hvb
        rw [← zup_bn d q t] at h1 h2
        have := zvb_blk (j := j) hd' h1 h2 (by rw [hvb]; simpa using htb)
        rw [show q + 1 + j = ns by omega] at this
        rw [zns, if_neg this])
      (fun t ht htb pk be off thr hpk hR => by
        have hp := zpc_cl t ht ab hab htb
        have h := hih t (by omega) (by rw [htb, Bool.or_true]) (T + 1) pk be off thr _ (by omega) hpk hR
        rw [← hmst t, show zpk t = nI t from if_neg (by omega), ← nI_1] at h
        exact ⟨Or.inr h.1, h.2⟩)
      7 0 off thr pk be (by omega) (by omega) hpk (by rw [Nat.zero_mul]; exact hR)
    generalize lp_X8_seek_37 wf dr q (nI ab) pl (nI T) 7 0 off thr pk be = L at h37 ⊢
    have hl := hih 6 (by omega) rfl T L.2.2.1 L.2.2.2 L.1 L.2.1 _ (by rw [zcl6 ab hab]; exact hT) h37.2 h37.1
    rw [← hmst 6, zcl6 ab hab, show zpk 6 = -6 from rfl] at hl
    rw [show 7 ^ (j + 1) = (6 + 1) * 7 ^ j by rw [Nat.pow_succ, Nat.mul_comm], show zbn d q * ((6 + 1) * 7 ^ j) = 7 * zbn d q * 7 ^ j by rw [← Nat.mul_assoc, Nat.mul_comm (zbn d q) (6 + 1)], zput (by omega) (by decide)]
    exact hl
/-- promise 11 -/
theorem E_nearest (pn : Nat) (tu ga lk stp dbt win plc mnt lft abd : Int32) (ea la we pa ta bm dr pk be : Nat → Int32) (goal i : Int32) (hpn : pn ≤ 60) (hst : 1 ≤ stp) (hlk : 0 ≤ lk) (hga : 0 ≤ ga) (he : zwb ea) (hl : zwb la) : s_X8_nearest (nmF tu ga lk stp dbt win) (wdF ea la) we pn pa dr pk be goal i = s_X9_nearest pn tu ga lk stp plc mnt lft abd ea la we pa ta bm goal i := by
  unfold s_X8_nearest s_X9_nearest
  rw [zch pn we pa hpn, zwi (a := goal) (lo := -600) (hi := 600) (l := -600) (h := 600) (by decide) (by decide)]
  by_cases g : s_X8_within goal (-600) 600 = 0
  · rw [if_pos g, if_pos g, if_neg (by decide)]
  · rw [if_neg g, if_neg g]
    by_cases c : s_X9_refusal pn we pa 6 = -6
    · rw [if_pos c, if_pos c, if_pos rfl]
      have h6 := zref6 hpn c
      have hcs := zcourse (zref hpn c).2.1
      have hgo := zwint (a := -600) (b := 600) g (by decide) (by decide)
      obtain ⟨r, hr, er, hb⟩ := zldb we
      obtain ⟨d1, d2⟩ := zdraw0 pn pa dr tu ga lk stp dbt win ea la we hpn (by omega) hst hlk hga
      generalize (lp_X2_draw_41 (nmF tu ga lk stp dbt win) (wdF ea la) we pn pa (pn + 1) 0 0 0 (s_X8_cell 6 (nmF tu ga lk stp dbt win) 1) (lp_X2_draw_2 833 0 dr)) = D at d1 d2 ⊢
      obtain ⟨m1, m2⟩ := znloop pn tu ga lk stp ea la we pa goal hpn hr hb er hcs h6 (7 ^ zct 33 pa pn) 0 (7 ^ zct 33 pa pn + 1) 100000 plc mnt lft abd ta bm (Nat.zero_add _) (by omega)
      rw [m1, m2, d1, zld we, er]
      have h := (zsimn (zct 33 pa pn) pn (zDv tu ga lk stp ea la we) pa D.2 goal hr h6 hpn rfl (zVb hst he hl) hgo d2 (zct 33 pa pn) 0 (fun _ => 0) 0 pk be 1201 0 (100000, bm) (Nat.zero_add _) (fun k hk => absurd hk (Nat.not_lt_zero _)) rfl (fun k hk => absurd hk (Nat.not_lt_zero _)) (Nat.zero_add _) (Or.inl ⟨rfl, rfl⟩)).1
      rw [zbn, Nat.zero_mul] at h
      have h : zR2 (zct 33 pa pn) (s_X8_seek (zct 33 pa pn) D.2 goal 7 0 (nI r) 0 0 pk be 1201 0).2.2.1 (s_X8_seek (zct 33 pa pn) D.2 goal 7 0 (nI r) 0 0 pk be 1201 0).2.2.2 (s_X8_seek (zct 33 pa pn) D.2 goal 7 0 (nI r) 0 0 pk be 1201 0).2.1 (zfo (zns r (zct 33 pa pn) pn (zDv tu ga lk stp ea la we) pa goal) (7 ^ zct 33 pa pn) 0 (100000, bm)) := h
      generalize s_X8_seek (zct 33 pa pn) D.2 goal 7 0 (nI r) 0 0 pk be 1201 0 = CC at h ⊢
      generalize zfo (zns r (zct 33 pa pn) pn (zDv tu ga lk stp ea la we) pa goal) (7 ^ zct 33 pa pn) 0 (100000, bm) = MM at h ⊢
      obtain ⟨o, t, ho, ht, e1, e2, e3, e4⟩ := h
      by_cases k : i = -1
      · rw [if_pos k, if_pos k, e1, e3]
        show nI o = nI (10 * o + t) / nI 10
        rw [pk_div (by omega) (by omega) (by omega), show (10 * o + t) / 10 = o by omega]
      · rw [if_neg k, if_neg k, zwi (a := i) (lo := 0) (hi := nI (zct 33 pa pn) - 1) (by decide) rfl]
        by_cases w : s_X8_within i 0 (nI (zct 33 pa pn) - 1) = 0
        · rw [if_pos w, if_pos w]
        · rw [if_neg w, if_neg w]
          obtain ⟨w1, w2⟩ := zw_of w
          obtain ⟨m, hm, rfl⟩ := nI_of (x := i) (Int32.not_lt.mpr w1)
          have hmn : m < zct 33 pa pn := by
            have := (zlew (a := m) (m := zct 33 pa pn) (w := 1) (by
              rw [Int32.le_iff_toInt_le, show nI (zct 33 pa pn) - 1 = nI (zct 33 pa pn) - nI 1 from rfl, pk_sub_toInt (by omega) (by omega), nI_toInt hm] at w2
              omega) (by omega) (by omega)).mp w2
            omega
          obtain ⟨dd, hdd, f1, f2⟩ := e4 m hmn
          rw [nI_clamp hm, f1, zcel (by omega) (by decide), f2]
          unfold zpk
          by_cases z : dd = 6
          · rw [if_pos z, if_pos (by rw [z]; decide)]
          · rw [if_neg z, if_neg (fun q => z (by have := zNle (a := 6) (b := dd) q (by omega) (by omega); omega))]
    · rw [if_neg c, if_neg c, if_neg (zref0 pn we pa 6)]
