def lp_X8_ways_61 (wf : Nat → Int32 → Int32 → Int32) (dr : Nat → Int32) (q : Nat) (ab : Int32) (pl : Int32) : Nat → Nat → Int32 → Int32
  | 0, _, x7_61 => x7_61
  | fu + 1, k, x7_61 => if 6 ≤ nI k then x7_61 else (if (s_X8_has ab (nI k)) = 0 then lp_X8_ways_61 wf dr q ab pl fu (k + 1) x7_61 else lp_X8_ways_61 wf dr q ab pl fu (k + 1) (x7_61 + (wf (q + 1) (s_X8_without ab (nI k)) (pl + (s_X8_cell 832 dr (((nI q) * 64) + ab))))))
def s_X8_ways (ns : Nat) (dr : Nat → Int32) (fr : Int32) (to : Int32) : Nat → Nat → Int32 → Int32 → Int32
  | 0, _, _, _ => 0
  | r + 1, q, ab, pl => if nI ns ≤ nI q then (if (s_X8_within (pl + (s_X8_cell 832 dr (((nI q) * 64) + ab))) fr to) = 0 then 0 else 1) else (if nI q < 6 then (lp_X8_ways_61 (s_X8_ways ns dr fr to r) dr q ab pl 7 0 ((s_X8_ways ns dr fr to r) (q + 1) ab (pl + (s_X8_cell 832 dr (((nI q) * 64) + ab))))) else (if (s_X8_within (pl + (s_X8_cell 832 dr (((nI q) * 64) + ab))) fr to) = 0 then 0 else 1))
abbrev rmw (r : Nat) : Room := { frames := r + 3, cells := 0, slots := 0, locals := 28 * r + 70 }
set_option maxRecDepth 100000 in
set_option maxHeartbeats 4000000 in
theorem c_X8_ways (l : Launch) (D : va_G) (cI cZ : ClassId) (ch : Nat) (cd : Nat) (ns : Nat) (dr : Nat → Int32) (fr : Int32) (to : Int32) (hns : ns ≤ 12) : ∀ (r : Nat) (q : Nat) (ab : Int32) (pl : Int32), (6 - q < r) → (q ≤ 6) → Met l yX8_ways [.code yX8_ways cX8_ways 9 (some .int)] (rmw r) (PcR D cI cZ [.ref ch, .int (nI q), .int ab, .int pl, .int fr, .int to] [(ch, .inr (2, [.ref cd, .int (nI ns)])), (cd, .inl (cI, 832, .inl dr))]) (QcR (some (.int (s_X8_ways ns dr fr to r q ab pl)))) 0 0 zN := by
  intro r
  induction r with
  | zero => intro q ab pl h9; exact absurd h9 (Nat.not_lt_zero _)
  | succ r ih =>
    intro q ab pl hr hq
    refine mtRi (by decide) (Nat.le_of_ble_eq_true rfl) (fun p e s m args below meth c Q S hT hP hret ls hl => ?_)
    have S : CallFix p m c cX8_ways 9 s args zt RX8 := S
    obtain ⟨hx, hb, hml, hown, hts⟩ := id S
    have hl : lv_has ls 9 [(0, .ref ch), (1, .int (nI q)), (2, .int ab), (3, .int pl), (4, .int fr), (5, .int to)] := hl
    refine lv_iload_n hx hb dX8_ways_0 rfl (lv_at hl 3 rfl) ?_
    refine lv_aload_n hx hb dX8_ways_1 rfl (lv_at hl 0 rfl) ?_
    refine lv_iload_n hx hb dX8_ways_2 rfl (lv_at hl 1 rfl) ?_
    refine lv_iload_n hx hb dX8_ways_3 rfl (lv_at hl 2 rfl) ?_
    refine kRV (q0 := 0) (st1 := [.int (s_X8_cell 832 dr (((nI q) * 64) + ab)), .int pl]) S hT hP (c_X2_drift l D cI cZ ch cd ns dr (nI q) ab) rfl rfl mw_X2_drift lk_RX8_319 ⟨rfl, rfl, (by simp only [rmw, rm_X2_drift] <;> omega), (by simp only [rmw, rm_X2_drift] <;> omega), Nat.le_refl _, Nat.le_refl _⟩ [0, 1] rfl rfl rfl hl.1 (Nat.le_of_ble_eq_true rfl) dX8_ways_4 ?_
    refine lv_iadd hx hb dX8_ways_7 ?_
    refine lv_istore (lv' := [(6, .int (pl + (s_X8_cell 832 dr (((nI q) * 64) + ab)))), (0, .ref ch), (1, .int (nI q)), (2, .int ab), (3, .int pl), (4, .int fr), (5, .int to)]) hx hb dX8_ways_8 hl (by decide) rfl (fun ls hl => ?_)
    refine lv_iload_n hx hb dX8_ways_10 rfl (lv_at hl 2 rfl) ?_
    refine lv_aload_n hx hb dX8_ways_11 rfl (lv_at hl 1 rfl) ?_
    refine kRV (q0 := 0) (st1 := [.int (nI ns), .int (nI q)]) S hT hP (c_X2_sneezes l D cI cZ ch cd ns dr) rfl rfl mw_X2_sneezes lk_RX8_182 ⟨rfl, rfl, (by simp only [rmw, rm_X2_sneezes] <;> omega), (by simp only [rmw, rm_X2_sneezes] <;> omega), Nat.le_refl _, Nat.le_refl _⟩ [0, 1] rfl rfl rfl hl.1 (Nat.le_of_ble_eq_true rfl) dX8_ways_12 ?_
    refine lv_icmp_ge (tgt := 24) hx hb dX8_ways_15 (by decide) (fun c1 => ?_) (fun c1 => ?_)
    · have nc1 := zNle (a := ns) (b := q) c1 (by omega) (by omega)
      refine lv_iload hx hb dX8_ways_24 (lv_at hl 0 rfl) ?_
      refine lv_iload hx hb dX8_ways_26 (lv_at hl 5 rfl) ?_
      refine lv_iload hx hb dX8_ways_28 (lv_at hl 6 rfl) ?_
      refine kRS (st1 := [.int (s_X8_within (pl + (s_X8_cell 832 dr (((nI q) * 64) + ab))) fr to)]) S hT hP (c_X8_within l D cI cZ (pl + (s_X8_cell 832 dr (((nI q) * 64) + ab))) fr to) rfl rfl mw_X8_within lk_RX8_74 ⟨rfl, rfl, (by simp only [rmw, rm_X8_within] <;> omega), (by simp only [rmw, rm_X8_within] <;> omega), Nat.le_refl _, Nat.le_refl _⟩ [] rfl hl.1 (Nat.le_of_ble_eq_true rfl) dX8_ways_30 ?_
      refine lv_if_eq (tgt := 40) hx hb dX8_ways_33 (by decide) (fun c2 => ?_) (fun c2 => ?_)
      · refine lv_iconst (v := 0) hx hb dX8_ways_40 (by decide) ?_
        exact hret _ _ _ dX8_ways_41 (by rw [s_X8_ways, if_pos c1, if_pos c2])
      · refine lv_iconst (v := 1) hx hb dX8_ways_36 (by decide) ?_
        refine lv_goto (tgt := 41) hx hb dX8_ways_37 (by decide) ?_
        exact hret _ _ _ dX8_ways_41 (by rw [s_X8_ways, if_pos c1, if_neg c2])
    · have nc1 := zNnle (a := ns) (b := q) c1 (by omega) (by omega)
      refine lv_iload_n hx hb dX8_ways_18 rfl (lv_at hl 2 rfl) ?_
      refine lv_bipush (v := 6) hx hb dX8_ways_19 (by decide) ?_
      refine lv_icmp_lt (tgt := 42) hx hb dX8_ways_21 (by decide) (fun c3 => ?_) (fun c3 => ?_)
      · have nc3 := zNlt (a := q) (b := 6) c3 (by omega) (by omega)
        refine lv_aload_n hx hb dX8_ways_42 rfl (lv_at hl 1 rfl) ?_
        refine lv_iload_n hx hb dX8_ways_43 rfl (lv_at hl 2 rfl) ?_
        refine lv_iconst (v := 1) hx hb dX8_ways_44 (by decide) ?_
        refine lv_iadd hx hb dX8_ways_45 ?_
        refine zI (y := nI (q + 1)) (nI_1 q) ?_
        refine lv_iload_n hx hb dX8_ways_46 rfl (lv_at hl 3 rfl) ?_
        refine lv_iload hx hb dX8_ways_47 (lv_at hl 0 rfl) ?_
        refine lv_iload hx hb dX8_ways_49 (lv_at hl 5 rfl) ?_
        refine lv_iload hx hb dX8_ways_51 (lv_at hl 6 rfl) ?_
        refine kRS (st1 := [.int ((s_X8_ways ns dr fr to r) (q + 1) ab (pl + (s_X8_cell 832 dr (((nI q) * 64) + ab))))]) S hT hP (ih (q + 1) ab (pl + (s_X8_cell 832 dr (((nI q) * 64) + ab))) (by first | assumption | decide | omega) (by first | assumption | decide | omega)) rfl rfl mw_X8_ways lk_RX8_191 ⟨rfl, rfl, (by simp only [rmw] <;> omega), (by simp only [rmw] <;> omega), Nat.le_refl _, Nat.le_refl _⟩ [0, 1] rfl hl.1 (Nat.le_of_ble_eq_true rfl) dX8_ways_53 ?_
        refine lv_istore (lv' := [(7, .int ((s_X8_ways ns dr fr to r) (q + 1) ab (pl + (s_X8_cell 832 dr (((nI q) * 64) + ab))))), (6, .int (pl + (s_X8_cell 832 dr (((nI q) * 64) + ab)))), (0, .ref ch), (1, .int (nI q)), (2, .int ab), (3, .int pl), (4, .int fr), (5, .int to)]) hx hb dX8_ways_56 hl (by decide) rfl (fun ls hl => ?_)
        refine lv_iconst (v := 0) hx hb dX8_ways_58 (by decide) ?_
        refine lv_istore (lv' := [(8, .int 0), (7, .int ((s_X8_ways ns dr fr to r) (q + 1) ab (pl + (s_X8_cell 832 dr (((nI q) * 64) + ab))))), (6, .int (pl + (s_X8_cell 832 dr (((nI q) * 64) + ab)))), (0, .ref ch), (1, .int (nI q)), (2, .int ab), (3, .int pl), (4, .int fr), (5, .int to)]) hx hb dX8_ways_59 hl (by decide) rfl (fun ls hl => ?_)
        have X5 : ∀ (y4 : Int32), (lp_X8_ways_61 (s_X8_ways ns dr fr to r) dr q ab pl 7 0 ((s_X8_ways ns dr fr to r) (q + 1) ab (pl + (s_X8_cell 832 dr (((nI q) * 64) + ab))))) = y4 → ∀ (ls : Array Slot), lv_has ls 9 [(0, .ref ch), (1, .int (nI q)), (2, .int ab), (3, .int pl), (4, .int fr), (5, .int to), (6, .int (pl + (s_X8_cell 832 dr (((nI q) * 64) + ab)))), (7, .int y4)] → W p l e (rmw (r + 1)) s m args below meth c s.heap [] 0 0 Q (F0 m 107 ls []) := by
          intro y4 ey4 ls hl
          subst ey4
          refine lv_iload hx hb dX8_ways_107 (lv_at hl 7 rfl) ?_
          exact hret _ _ _ dX8_ways_109 (by rw [s_X8_ways, if_neg c1, if_pos c3])
        have L6 : ∀ (n9 : Nat) (k : Nat) (x7_61 : Int32), 6 - k < n9 → (k ≤ 6) → lp_X8_ways_61 (s_X8_ways ns dr fr to r) dr q ab pl n9 k x7_61 = lp_X8_ways_61 (s_X8_ways ns dr fr to r) dr q ab pl 7 0 ((s_X8_ways ns dr fr to r) (q + 1) ab (pl + (s_X8_cell 832 dr (((nI q) * 64) + ab)))) → ∀ (ls : Array Slot), lv_has ls 9 [(0, .ref ch), (1, .int (nI q)), (2, .int ab), (3, .int pl), (4, .int fr), (5, .int to), (6, .int (pl + (s_X8_cell 832 dr (((nI q) * 64) + ab)))), (7, .int x7_61), (8, .int (nI k))] → W p l e (rmw (r + 1)) s m args below meth c s.heap [] 0 0 Q (F0 m 61 ls []) := by
          intro n9
          induction n9 with
          | zero => intro k x7_61 hm; exact absurd hm (Nat.not_lt_zero _)
          | succ n9 ih8 =>
            intro k x7_61 hm10 hk hv7 ls hl
            refine lv_iload hx hb dX8_ways_61 (lv_at hl 8 rfl) ?_
            refine lv_bipush (v := 6) hx hb dX8_ways_63 (by decide) ?_
            refine lv_icmp_ge (tgt := 107) hx hb dX8_ways_65 (by decide) (fun c11 => ?_) (fun c11 => ?_)
            · have nc11 := zNle (a := 6) (b := k) c11 (by omega) (by omega)
              exact X5 _ (by rw [← hv7, lp_X8_ways_61, if_pos c11]) ls (lv_sub hl [0, 1, 2, 3, 4, 5, 6, 7] rfl)
            · have nc11 := zNnle (a := 6) (b := k) c11 (by omega) (by omega)
              refine lv_iload_n hx hb dX8_ways_68 rfl (lv_at hl 2 rfl) ?_
              refine lv_iload hx hb dX8_ways_69 (lv_at hl 8 rfl) ?_
              refine kRS (st1 := [.int (s_X8_has ab (nI k))]) S hT hP (c_X8_has l D cI cZ ab (nI k)) rfl rfl mw_X8_has lk_RX8_283 ⟨rfl, rfl, (by simp only [rmw, rm_X8_has] <;> omega), (by simp only [rmw, rm_X8_has] <;> omega), Nat.le_refl _, Nat.le_refl _⟩ [] rfl hl.1 (Nat.le_of_ble_eq_true rfl) dX8_ways_71 ?_
              refine lv_if_eq (tgt := 101) hx hb dX8_ways_74 (by decide) (fun c12 => ?_) (fun c12 => ?_)
              · refine lv_iinc (v := nI (k + 1)) (lv' := [(8, .int (nI (k + 1))), (0, .ref ch), (1, .int (nI q)), (2, .int ab), (3, .int pl), (4, .int fr), (5, .int to), (6, .int (pl + (s_X8_cell 832 dr (((nI q) * 64) + ab)))), (7, .int x7_61)]) hx hb dX8_ways_101 hl (k := 8) rfl (nI_1 k) (by decide) rfl (fun ls hl => ?_)
                refine lv_goto (tgt := 61) hx hb dX8_ways_104 (by decide) ?_
                exact ih8 (k + 1) x7_61 (by omega) (by omega) (by rw [← hv7, lp_X8_ways_61, if_neg c11, if_pos c12]) ls (lv_sub hl [1, 2, 3, 4, 5, 6, 7, 8, 0] rfl)
              · refine lv_iload hx hb dX8_ways_77 (lv_at hl 7 rfl) ?_
                refine lv_aload_n hx hb dX8_ways_79 rfl (lv_at hl 0 rfl) ?_
                refine lv_iload_n hx hb dX8_ways_80 rfl (lv_at hl 1 rfl) ?_
                refine lv_iconst (v := 1) hx hb dX8_ways_81 (by decide) ?_
                refine lv_iadd hx hb dX8_ways_82 ?_
                refine zI (y := nI (q + 1)) (nI_1 q) ?_
                refine lv_iload_n hx hb dX8_ways_83 rfl (lv_at hl 2 rfl) ?_
                refine lv_iload hx hb dX8_ways_84 (lv_at hl 8 rfl) ?_
                refine kRS (st1 := [.int (s_X8_without ab (nI k)), .int (nI (q + 1)), .ref ch, .int x7_61]) S hT hP (c_X8_without l D cI cZ ab (nI k)) rfl rfl mw_X8_without lk_RX8_286 ⟨rfl, rfl, (by simp only [rmw, rm_X8_without] <;> omega), (by simp only [rmw, rm_X8_without] <;> omega), Nat.le_refl _, Nat.le_refl _⟩ [] rfl hl.1 (Nat.le_of_ble_eq_true rfl) dX8_ways_86 ?_
                refine lv_iload hx hb dX8_ways_89 (lv_at hl 6 rfl) ?_
                refine lv_iload hx hb dX8_ways_91 (lv_at hl 4 rfl) ?_
                refine lv_iload hx hb dX8_ways_93 (lv_at hl 5 rfl) ?_
                refine kRS (st1 := [.int ((s_X8_ways ns dr fr to r) (q + 1) (s_X8_without ab (nI k)) (pl + (s_X8_cell 832 dr (((nI q) * 64) + ab)))), .int x7_61]) S hT hP (ih (q + 1) (s_X8_without ab (nI k)) (pl + (s_X8_cell 832 dr (((nI q) * 64) + ab))) (by first | assumption | decide | omega) (by first | assumption | decide | omega)) rfl rfl mw_X8_ways lk_RX8_191 ⟨rfl, rfl, (by simp only [rmw] <;> omega), (by simp only [rmw] <;> omega), Nat.le_refl _, Nat.le_refl _⟩ [0, 1] rfl hl.1 (Nat.le_of_ble_eq_true rfl) dX8_ways_95 ?_
                refine lv_iadd hx hb dX8_ways_98 ?_
                refine lv_istore (lv' := [(7, .int (x7_61 + ((s_X8_ways ns dr fr to r) (q + 1) (s_X8_without ab (nI k)) (pl + (s_X8_cell 832 dr (((nI q) * 64) + ab)))))), (0, .ref ch), (1, .int (nI q)), (2, .int ab), (3, .int pl), (4, .int fr), (5, .int to), (6, .int (pl + (s_X8_cell 832 dr (((nI q) * 64) + ab)))), (8, .int (nI k))]) hx hb dX8_ways_99 hl (by decide) rfl (fun ls hl => ?_)
                refine lv_iinc (v := nI (k + 1)) (lv' := [(8, .int (nI (k + 1))), (7, .int (x7_61 + ((s_X8_ways ns dr fr to r) (q + 1) (s_X8_without ab (nI k)) (pl + (s_X8_cell 832 dr (((nI q) * 64) + ab)))))), (0, .ref ch), (1, .int (nI q)), (2, .int ab), (3, .int pl), (4, .int fr), (5, .int to), (6, .int (pl + (s_X8_cell 832 dr (((nI q) * 64) + ab))))]) hx hb dX8_ways_101 hl (k := 8) rfl (nI_1 k) (by decide) rfl (fun ls hl => ?_)
                refine lv_goto (tgt := 61) hx hb dX8_ways_104 (by decide) ?_
                exact ih8 (k + 1) (x7_61 + ((s_X8_ways ns dr fr to r) (q + 1) (s_X8_without ab (nI k)) (pl + (s_X8_cell 832 dr (((nI q) * 64) + ab))))) (by omega) (by omega) (by rw [← hv7, lp_X8_ways_61, if_neg c11, if_neg c12]) ls (lv_sub hl [2, 3, 4, 5, 6, 7, 8, 1, 0] rfl)
        exact L6 7 0 ((s_X8_ways ns dr fr to r) (q + 1) ab (pl + (s_X8_cell 832 dr (((nI q) * 64) + ab)))) (by omega) (by omega) rfl ls (lv_sub hl [3, 4, 5, 6, 7, 8, 2, 1, 0] rfl)
      · have nc3 := zNnlt (a := q) (b := 6) c3 (by omega) (by omega)
        refine lv_iload hx hb dX8_ways_24 (lv_at hl 0 rfl) ?_
        refine lv_iload hx hb dX8_ways_26 (lv_at hl 5 rfl) ?_
        refine lv_iload hx hb dX8_ways_28 (lv_at hl 6 rfl) ?_
        refine kRS (st1 := [.int (s_X8_within (pl + (s_X8_cell 832 dr (((nI q) * 64) + ab))) fr to)]) S hT hP (c_X8_within l D cI cZ (pl + (s_X8_cell 832 dr (((nI q) * 64) + ab))) fr to) rfl rfl mw_X8_within lk_RX8_74 ⟨rfl, rfl, (by simp only [rmw, rm_X8_within] <;> omega), (by simp only [rmw, rm_X8_within] <;> omega), Nat.le_refl _, Nat.le_refl _⟩ [] rfl hl.1 (Nat.le_of_ble_eq_true rfl) dX8_ways_30 ?_
        refine lv_if_eq (tgt := 40) hx hb dX8_ways_33 (by decide) (fun c13 => ?_) (fun c13 => ?_)
        · refine lv_iconst (v := 0) hx hb dX8_ways_40 (by decide) ?_
          exact hret _ _ _ dX8_ways_41 (by rw [s_X8_ways, if_neg c1, if_neg c3, if_pos c13])
        · refine lv_iconst (v := 1) hx hb dX8_ways_36 (by decide) ?_
          refine lv_goto (tgt := 41) hx hb dX8_ways_37 (by decide) ?_
          exact hret _ _ _ dX8_ways_41 (by rw [s_X8_ways, if_neg c1, if_neg c3, if_neg c13])
