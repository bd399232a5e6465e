/-! the law's loop -/
set_option maxRecDepth 100000 in
set_option maxHeartbeats 4000000 in
theorem zl_loop {p : Program} {l : Launch} {e : Env} {s : State} {m : MethodId} {b L : Nat} {below : List Frame} {meth : Method} {c : Code} {xs : Nat → Int32} {D : va_G} {cI cZ : ClassId} {x h hn hw ht hs hp h0 hn0 hw0 ht0 hs0 hp0 h1 hn1 hw1 ht1 hs1 hp1 pd pg bb bbr pp pm ch cd se s1 s2 cc cl fa ff mo rea rla rwe rst rsp rpa rsa rta rbe rfa rpl rke rik : Nat} {tL tG tF : Nat} (S : CallFix p m c cL_law 4 s #[Value.ref b] zt RL) (hT : tb D cI cZ s) (hX : va_X b L xs s s.heap) (hbl : b < s.heap.size) (hr : meth.sig.returnType = ret) (hlocks : meth.locks = false) (hDa : zDa (fun q : Nat => s.heap.size ≤ q) [x, h, hn, hw, ht, hs, hp, h0, hn0, hw0, ht0, hs0, hp0, h1, hn1, hw1, ht1, hs1, hp1, pd, pg, bb, bbr, pp, pm, ch, cd, se, s1, s2, cc, cl, fa, ff, mo, rea, rla, rwe, rst, rsp, rpa, rsa, rta, rbe, rfa, rpl, rke, rik]) (hDs : zDa (fun q : Nat => s.heap.size ≤ q) [mo, rea, rla, rwe, rst, rsp, rpa, rsa, rta, rbe, rfa, rpl, rke, rik, x, h, hn, hw, ht, hs, hp, h0, hn0, hw0, ht0, hs0, hp0, h1, hn1, hw1, ht1, hs1, hp1, pd, pg, bb, bbr, pp, pm, ch, cd, se, s1, s2, cc, cl, fa, ff]) (hL : L ≤ 320) (hZ : zSA tL tG tF (fun q : Nat => s.heap.size ≤ q) s s.heap) : ∀ (n i : Nat), i ≤ L → L - i < n → zKL p l e s m b below meth c (lw_Z below #[Value.ref b] s) D (fun q : Nat => s.heap.size ≤ q) cI cZ x h hn hw ht hs hp h0 hn0 hw0 ht0 hs0 hp0 h1 hn1 hw1 ht1 hs1 hp1 pd pg bb bbr pp pm ch cd se s1 s2 cc cl fa ff mo rea rla rwe rst rsp rpa rsa rta rbe rfa rpl rke rik i 18 := by
  have hbA : ¬ (fun q : Nat => s.heap.size ≤ q) b := Nat.not_le.mpr hbl
  obtain ⟨hx, hb, hml, hown, hts⟩ := id S
  intro n
  induction n with
  | zero => intro i _ h; exact absurd h (Nat.not_lt_zero _)
  | succ n ih =>
    intro i hiL hnn
    have K : i + 5 ≤ L → zKL p l e s m b below meth c (lw_Z below #[Value.ref b] s) D (fun q : Nat => s.heap.size ≤ q) cI cZ x h hn hw ht hs hp h0 hn0 hw0 ht0 hs0 hp0 h1 hn1 hw1 ht1 hs1 hp1 pd pg bb bbr pp pm ch cd se s1 s2 cc cl fa ff mo rea rla rwe rst rsp rpa rsa rta rbe rfa rpl rke rik i 811 := by
      intro hi5
      have h := ih (i + 5) hi5 (by omega)
      unfold zKL at h ⊢
      intro tu ga lk stp dbt win kp tu0 ga0 lk0 stp0 dbt0 win0 kp0 tu1 ga1 lk1 stp1 dbt1 win1 kp1 pl gs ab mn plr gsr abr mnr go off thr fn plc mnt lft abd iw sn pn sn0 sn1 cn ns ka ea la we mT mP pa ea0 la0 we0 mT0 mP0 ea1 la1 we1 mT1 mP1 mi dr pk be lf fp sa ta bm fq pq ke ik hI H locs ls hP hM hS hl
      refine lv_iinc (v := nI (i + 5)) (lv' := [(3, .int (nI (i + 5))), (0, .ref b), (1, .ref x), (2, .ref mo)]) hx hb dL_law_811 hl (k := 0) rfl (nI_add i 5) (by decide) rfl (fun ls hl => ?_)
      refine lv_goto (tgt := 18) hx hb dL_law_814 (by decide) ?_
      exact h tu ga lk stp dbt win kp tu0 ga0 lk0 stp0 dbt0 win0 kp0 tu1 ga1 lk1 stp1 dbt1 win1 kp1 pl gs ab mn plr gsr abr mnr go off thr fn plc mnt lft abd iw sn pn sn0 sn1 cn ns ka ea la we mT mP pa ea0 la0 we0 mT0 mP0 ea1 la1 we1 mT1 mP1 mi dr pk be lf fp sa ta bm fq pq ke ik hI H locs ls hP hM hS hl
    unfold zKL
    intro tu ga lk stp dbt win kp tu0 ga0 lk0 stp0 dbt0 win0 kp0 tu1 ga1 lk1 stp1 dbt1 win1 kp1 pl gs ab mn plr gsr abr mnr go off thr fn plc mnt lft abd iw sn pn sn0 sn1 cn ns ka ea la we mT mP pa ea0 la0 we0 mT0 mP0 ea1 la1 we1 mT1 mP1 mi dr pk be lf fp sa ta bm fq pq ke ik hI H locs ls hP hM hS hl
    refine lv_iload_n hx hb dL_law_18 rfl (lv_at hl 0 rfl) ?_
    refine lv_aload_n hx hb dL_law_19 rfl (lv_at hl 1 rfl) ?_
    refine va_slen hx hb hX hbl hbA hS dL_law_20 ?_
    refine lv_iconst (v := 5) hx hb dL_law_21 (by decide) ?_
    refine lv_isub hx hb dL_law_22 ?_
    have hcmp : (Int32.ofNat L - 5 < nI i) ↔ L < i + 5 := by
      show (nI L - nI 5 < nI i) ↔ _
      rw [Int32.lt_iff_toInt_lt, pk_sub_toInt (by omega) (by omega), nI_toInt (by omega)]
      omega
    refine lv_icmp_gt (tgt := 817) hx hb dL_law_23 (by decide) (fun c1 => ?_) (fun c1 => ?_)
    · refine lv_iconst (v := 1) hx hb dL_law_817 (by decide) ?_
      refine va_forget (fun q hq => hS.2.2 q hq) ?_
      exact lw_ret hx hb hr hlocks dL_law_818
    · have hi5 : i + 5 ≤ L := Nat.not_lt.mp (fun h => c1 (hcmp.mpr h))
      refine lv_aload_n hx hb dL_law_26 rfl (lv_at hl 1 rfl) ?_
      refine lv_iload_n hx hb dL_law_27 rfl (lv_at hl 0 rfl) ?_
      refine va_sld hx hb hX hbl hbA hS (vp_in_nI (show i < L by omega) (by omega)) dL_law_28 ?_
      refine lv_bipush (v := 31) hx hb dL_law_29 (by decide) ?_
      refine lv_iand hx hb dL_law_31 ?_
      generalize xs (nI i).toNatClampNeg &&& 31 = v
      by_cases d0 : v = 0
      · refine lv_tableIn (tgt := 140) hx hb dL_law_32 (by rw [d0]; decide) (by rw [d0]; decide) (by rw [d0]; rfl) (by decide) ?_
        have h := zl_wind S hT hX hbl hbA hDa hDs hL hi5 (K hi5)
        unfold zKL at h
        exact h tu ga lk stp dbt win kp tu0 ga0 lk0 stp0 dbt0 win0 kp0 tu1 ga1 lk1 stp1 dbt1 win1 kp1 pl gs ab mn plr gsr abr mnr go off thr fn plc mnt lft abd iw sn pn sn0 sn1 cn ns ka ea la we mT mP pa ea0 la0 we0 mT0 mP0 ea1 la1 we1 mT1 mP1 mi dr pk be lf fp sa ta bm fq pq ke ik hI H locs ls hP hM hS hl
      · by_cases d1 : v = 1
        · refine lv_tableIn (tgt := 183) hx hb dL_law_32 (by rw [d1]; decide) (by rw [d1]; decide) (by rw [d1]; rfl) (by decide) ?_
          have h := zl_set S hT hX hbl hbA hDa hDs hL hi5 hZ (K hi5)
          unfold zKL at h
          exact h tu ga lk stp dbt win kp tu0 ga0 lk0 stp0 dbt0 win0 kp0 tu1 ga1 lk1 stp1 dbt1 win1 kp1 pl gs ab mn plr gsr abr mnr go off thr fn plc mnt lft abd iw sn pn sn0 sn1 cn ns ka ea la we mT mP pa ea0 la0 we0 mT0 mP0 ea1 la1 we1 mT1 mP1 mi dr pk be lf fp sa ta bm fq pq ke ik hI H locs ls hP hM hS hl
        · by_cases d2 : v = 2
          · refine lv_tableIn (tgt := 216) hx hb dL_law_32 (by rw [d2]; decide) (by rw [d2]; decide) (by rw [d2]; rfl) (by decide) ?_
            have h := zl_load S hT hX hbl hbA hDa hDs hL hi5 (K hi5)
            unfold zKL at h
            exact h tu ga lk stp dbt win kp tu0 ga0 lk0 stp0 dbt0 win0 kp0 tu1 ga1 lk1 stp1 dbt1 win1 kp1 pl gs ab mn plr gsr abr mnr go off thr fn plc mnt lft abd iw sn pn sn0 sn1 cn ns ka ea la we mT mP pa ea0 la0 we0 mT0 mP0 ea1 la1 we1 mT1 mP1 mi dr pk be lf fp sa ta bm fq pq ke ik hI H locs ls hP hM hS hl
          · by_cases d3 : v = 3
            · refine lv_tableIn (tgt := 249) hx hb dL_law_32 (by rw [d3]; decide) (by rw [d3]; decide) (by rw [d3]; rfl) (by decide) ?_
              have h := zl_say S hT hX hbl hbA hDa hDs hL hi5 (K hi5)
              unfold zKL at h
              exact h tu ga lk stp dbt win kp tu0 ga0 lk0 stp0 dbt0 win0 kp0 tu1 ga1 lk1 stp1 dbt1 win1 kp1 pl gs ab mn plr gsr abr mnr go off thr fn plc mnt lft abd iw sn pn sn0 sn1 cn ns ka ea la we mT mP pa ea0 la0 we0 mT0 mP0 ea1 la1 we1 mT1 mP1 mi dr pk be lf fp sa ta bm fq pq ke ik hI H locs ls hP hM hS hl
            · by_cases d4 : v = 4
              · refine lv_tableIn (tgt := 272) hx hb dL_law_32 (by rw [d4]; decide) (by rw [d4]; decide) (by rw [d4]; rfl) (by decide) ?_
                have h := zl_wipe S hT hX hbl hbA hDa hDs hL hi5 (K hi5)
                unfold zKL at h
                exact h tu ga lk stp dbt win kp tu0 ga0 lk0 stp0 dbt0 win0 kp0 tu1 ga1 lk1 stp1 dbt1 win1 kp1 pl gs ab mn plr gsr abr mnr go off thr fn plc mnt lft abd iw sn pn sn0 sn1 cn ns ka ea la we mT mP pa ea0 la0 we0 mT0 mP0 ea1 la1 we1 mT1 mP1 mi dr pk be lf fp sa ta bm fq pq ke ik hI H locs ls hP hM hS hl
              · by_cases d5 : v = 5
                · refine lv_tableIn (tgt := 285) hx hb dL_law_32 (by rw [d5]; decide) (by rw [d5]; decide) (by rw [d5]; rfl) (by decide) ?_
                  have h := zl_fault S hT hX hbl hbA hDa hDs hL hi5 (K hi5)
                  unfold zKL at h
                  exact h tu ga lk stp dbt win kp tu0 ga0 lk0 stp0 dbt0 win0 kp0 tu1 ga1 lk1 stp1 dbt1 win1 kp1 pl gs ab mn plr gsr abr mnr go off thr fn plc mnt lft abd iw sn pn sn0 sn1 cn ns ka ea la we mT mP pa ea0 la0 we0 mT0 mP0 ea1 la1 we1 mT1 mP1 mi dr pk be lf fp sa ta bm fq pq ke ik hI H locs ls hP hM hS hl
                · by_cases d6 : v = 6
                  · refine lv_tableIn (tgt := 298) hx hb dL_law_32 (by rw [d6]; decide) (by rw [d6]; decide) (by rw [d6]; rfl) (by decide) ?_
                    have h := zl_at S hT hX hbl hbA hDa hDs hL hi5 (K hi5)
                    unfold zKL at h
                    exact h tu ga lk stp dbt win kp tu0 ga0 lk0 stp0 dbt0 win0 kp0 tu1 ga1 lk1 stp1 dbt1 win1 kp1 pl gs ab mn plr gsr abr mnr go off thr fn plc mnt lft abd iw sn pn sn0 sn1 cn ns ka ea la we mT mP pa ea0 la0 we0 mT0 mP0 ea1 la1 we1 mT1 mP1 mi dr pk be lf fp sa ta bm fq pq ke ik hI H locs ls hP hM hS hl
                  · by_cases d7 : v = 7
                    · refine lv_tableIn (tgt := 331) hx hb dL_law_32 (by rw [d7]; decide) (by rw [d7]; decide) (by rw [d7]; rfl) (by decide) ?_
                      have h := zl_judge S hT hX hbl hbA hDa hDs hL hi5 (K hi5)
                      unfold zKL at h
                      exact h tu ga lk stp dbt win kp tu0 ga0 lk0 stp0 dbt0 win0 kp0 tu1 ga1 lk1 stp1 dbt1 win1 kp1 pl gs ab mn plr gsr abr mnr go off thr fn plc mnt lft abd iw sn pn sn0 sn1 cn ns ka ea la we mT mP pa ea0 la0 we0 mT0 mP0 ea1 la1 we1 mT1 mP1 mi dr pk be lf fp sa ta bm fq pq ke ik hI H locs ls hP hM hS hl
                    · by_cases d8 : v = 8
                      · refine lv_tableIn (tgt := 354) hx hb dL_law_32 (by rw [d8]; decide) (by rw [d8]; decide) (by rw [d8]; rfl) (by decide) ?_
                        have h := zl_pepper S hT hX hbl hbA hDa hDs hL hi5 (K hi5)
                        unfold zKL at h
                        exact h tu ga lk stp dbt win kp tu0 ga0 lk0 stp0 dbt0 win0 kp0 tu1 ga1 lk1 stp1 dbt1 win1 kp1 pl gs ab mn plr gsr abr mnr go off thr fn plc mnt lft abd iw sn pn sn0 sn1 cn ns ka ea la we mT mP pa ea0 la0 we0 mT0 mP0 ea1 la1 we1 mT1 mP1 mi dr pk be lf fp sa ta bm fq pq ke ik hI H locs ls hP hM hS hl
                      · by_cases d9 : v = 9
                        · refine lv_tableIn (tgt := 377) hx hb dL_law_32 (by rw [d9]; decide) (by rw [d9]; decide) (by rw [d9]; rfl) (by decide) ?_
                          have h := zl_nearest S hT hX hbl hbA hDa hDs hL hi5 (K hi5)
                          unfold zKL at h
                          exact h tu ga lk stp dbt win kp tu0 ga0 lk0 stp0 dbt0 win0 kp0 tu1 ga1 lk1 stp1 dbt1 win1 kp1 pl gs ab mn plr gsr abr mnr go off thr fn plc mnt lft abd iw sn pn sn0 sn1 cn ns ka ea la we mT mP pa ea0 la0 we0 mT0 mP0 ea1 la1 we1 mT1 mP1 mi dr pk be lf fp sa ta bm fq pq ke ik hI H locs ls hP hM hS hl
                        · by_cases d10 : v = 10
                          · refine lv_tableIn (tgt := 410) hx hb dL_law_32 (by rw [d10]; decide) (by rw [d10]; decide) (by rw [d10]; rfl) (by decide) ?_
                            have h := zl_field S hT hX hbl hbA hDa hDs hL hi5 (K hi5)
                            unfold zKL at h
                            exact h tu ga lk stp dbt win kp tu0 ga0 lk0 stp0 dbt0 win0 kp0 tu1 ga1 lk1 stp1 dbt1 win1 kp1 pl gs ab mn plr gsr abr mnr go off thr fn plc mnt lft abd iw sn pn sn0 sn1 cn ns ka ea la we mT mP pa ea0 la0 we0 mT0 mP0 ea1 la1 we1 mT1 mP1 mi dr pk be lf fp sa ta bm fq pq ke ik hI H locs ls hP hM hS hl
                          · by_cases d11 : v = 11
                            · refine lv_tableIn (tgt := 443) hx hb dL_law_32 (by rw [d11]; decide) (by rw [d11]; decide) (by rw [d11]; rfl) (by decide) ?_
                              have h := zl_take S hT hX hbl hbA hDa hDs hL hi5 (K hi5)
                              unfold zKL at h
                              exact h tu ga lk stp dbt win kp tu0 ga0 lk0 stp0 dbt0 win0 kp0 tu1 ga1 lk1 stp1 dbt1 win1 kp1 pl gs ab mn plr gsr abr mnr go off thr fn plc mnt lft abd iw sn pn sn0 sn1 cn ns ka ea la we mT mP pa ea0 la0 we0 mT0 mP0 ea1 la1 we1 mT1 mP1 mi dr pk be lf fp sa ta bm fq pq ke ik hI H locs ls hP hM hS hl
                            · by_cases d12 : v = 12
                              · refine lv_tableIn (tgt := 476) hx hb dL_law_32 (by rw [d12]; decide) (by rw [d12]; decide) (by rw [d12]; rfl) (by decide) ?_
                                have h := zl_stay S hT hX hbl hbA hDa hDs hL hi5 (K hi5)
                                unfold zKL at h
                                exact h tu ga lk stp dbt win kp tu0 ga0 lk0 stp0 dbt0 win0 kp0 tu1 ga1 lk1 stp1 dbt1 win1 kp1 pl gs ab mn plr gsr abr mnr go off thr fn plc mnt lft abd iw sn pn sn0 sn1 cn ns ka ea la we mT mP pa ea0 la0 we0 mT0 mP0 ea1 la1 we1 mT1 mP1 mi dr pk be lf fp sa ta bm fq pq ke ik hI H locs ls hP hM hS hl
                              · by_cases d13 : v = 13
                                · refine lv_tableIn (tgt := 509) hx hb dL_law_32 (by rw [d13]; decide) (by rw [d13]; decide) (by rw [d13]; rfl) (by decide) ?_
                                  have h := zl_likely S hT hX hbl hbA hDa hDs hL hi5 (K hi5)
                                  unfold zKL at h
                                  exact h tu ga lk stp dbt win kp tu0 ga0 lk0 stp0 dbt0 win0 kp0 tu1 ga1 lk1 stp1 dbt1 win1 kp1 pl gs ab mn plr gsr abr mnr go off thr fn plc mnt lft abd iw sn pn sn0 sn1 cn ns ka ea la we mT mP pa ea0 la0 we0 mT0 mP0 ea1 la1 we1 mT1 mP1 mi dr pk be lf fp sa ta bm fq pq ke ik hI H locs ls hP hM hS hl
                                · by_cases d14 : v = 14
                                  · refine lv_tableIn (tgt := 563) hx hb dL_law_32 (by rw [d14]; decide) (by rw [d14]; decide) (by rw [d14]; rfl) (by decide) ?_
                                    have h := zl_mean S hT hX hbl hbA hDa hDs hL hi5 (K hi5)
                                    unfold zKL at h
                                    exact h tu ga lk stp dbt win kp tu0 ga0 lk0 stp0 dbt0 win0 kp0 tu1 ga1 lk1 stp1 dbt1 win1 kp1 pl gs ab mn plr gsr abr mnr go off thr fn plc mnt lft abd iw sn pn sn0 sn1 cn ns ka ea la we mT mP pa ea0 la0 we0 mT0 mP0 ea1 la1 we1 mT1 mP1 mi dr pk be lf fp sa ta bm fq pq ke ik hI H locs ls hP hM hS hl
                                  · by_cases d15 : v = 15
                                    · refine lv_tableIn (tgt := 597) hx hb dL_law_32 (by rw [d15]; decide) (by rw [d15]; decide) (by rw [d15]; rfl) (by decide) ?_
                                      have h := zl_fell S hT hX hbl hbA hDa hDs hL hi5 (K hi5)
                                      unfold zKL at h
                                      exact h tu ga lk stp dbt win kp tu0 ga0 lk0 stp0 dbt0 win0 kp0 tu1 ga1 lk1 stp1 dbt1 win1 kp1 pl gs ab mn plr gsr abr mnr go off thr fn plc mnt lft abd iw sn pn sn0 sn1 cn ns ka ea la we mT mP pa ea0 la0 we0 mT0 mP0 ea1 la1 we1 mT1 mP1 mi dr pk be lf fp sa ta bm fq pq ke ik hI H locs ls hP hM hS hl
                                    · by_cases d16 : v = 16
                                      · refine lv_tableIn (tgt := 630) hx hb dL_law_32 (by rw [d16]; decide) (by rw [d16]; decide) (by rw [d16]; rfl) (by decide) ?_
                                        have h := zl_forget S hT hX hbl hbA hDa hDs hL hi5 (K hi5)
                                        unfold zKL at h
                                        exact h tu ga lk stp dbt win kp tu0 ga0 lk0 stp0 dbt0 win0 kp0 tu1 ga1 lk1 stp1 dbt1 win1 kp1 pl gs ab mn plr gsr abr mnr go off thr fn plc mnt lft abd iw sn pn sn0 sn1 cn ns ka ea la we mT mP pa ea0 la0 we0 mT0 mP0 ea1 la1 we1 mT1 mP1 mi dr pk be lf fp sa ta bm fq pq ke ik hI H locs ls hP hM hS hl
                                      · by_cases d17 : v = 17
                                        · refine lv_tableIn (tgt := 643) hx hb dL_law_32 (by rw [d17]; decide) (by rw [d17]; decide) (by rw [d17]; rfl) (by decide) ?_
                                          have h := zl_starts S hT hX hbl hbA hDa hDs hL hi5 (K hi5)
                                          unfold zKL at h
                                          exact h tu ga lk stp dbt win kp tu0 ga0 lk0 stp0 dbt0 win0 kp0 tu1 ga1 lk1 stp1 dbt1 win1 kp1 pl gs ab mn plr gsr abr mnr go off thr fn plc mnt lft abd iw sn pn sn0 sn1 cn ns ka ea la we mT mP pa ea0 la0 we0 mT0 mP0 ea1 la1 we1 mT1 mP1 mi dr pk be lf fp sa ta bm fq pq ke ik hI H locs ls hP hM hS hl
                                        · by_cases d18 : v = 18
                                          · refine lv_tableIn (tgt := 666) hx hb dL_law_32 (by rw [d18]; decide) (by rw [d18]; decide) (by rw [d18]; rfl) (by decide) ?_
                                            have h := zl_ahead S hT hX hbl hbA hDa hDs hL hi5 (K hi5)
                                            unfold zKL at h
                                            exact h tu ga lk stp dbt win kp tu0 ga0 lk0 stp0 dbt0 win0 kp0 tu1 ga1 lk1 stp1 dbt1 win1 kp1 pl gs ab mn plr gsr abr mnr go off thr fn plc mnt lft abd iw sn pn sn0 sn1 cn ns ka ea la we mT mP pa ea0 la0 we0 mT0 mP0 ea1 la1 we1 mT1 mP1 mi dr pk be lf fp sa ta bm fq pq ke ik hI H locs ls hP hM hS hl
                                          · by_cases d19 : v = 19
                                            · refine lv_tableIn (tgt := 699) hx hb dL_law_32 (by rw [d19]; decide) (by rw [d19]; decide) (by rw [d19]; rfl) (by decide) ?_
                                              have h := zl_year S hT hX hbl hbA hDa hDs hL hi5 (K hi5)
                                              unfold zKL at h
                                              exact h tu ga lk stp dbt win kp tu0 ga0 lk0 stp0 dbt0 win0 kp0 tu1 ga1 lk1 stp1 dbt1 win1 kp1 pl gs ab mn plr gsr abr mnr go off thr fn plc mnt lft abd iw sn pn sn0 sn1 cn ns ka ea la we mT mP pa ea0 la0 we0 mT0 mP0 ea1 la1 we1 mT1 mP1 mi dr pk be lf fp sa ta bm fq pq ke ik hI H locs ls hP hM hS hl
                                            · by_cases d20 : v = 20
                                              · refine lv_tableIn (tgt := 742) hx hb dL_law_32 (by rw [d20]; decide) (by rw [d20]; decide) (by rw [d20]; rfl) (by decide) ?_
                                                have h := zl_image S hT hX hbl hbA hDa hDs hL hi5 (K hi5)
                                                unfold zKL at h
                                                exact h tu ga lk stp dbt win kp tu0 ga0 lk0 stp0 dbt0 win0 kp0 tu1 ga1 lk1 stp1 dbt1 win1 kp1 pl gs ab mn plr gsr abr mnr go off thr fn plc mnt lft abd iw sn pn sn0 sn1 cn ns ka ea la we mT mP pa ea0 la0 we0 mT0 mP0 ea1 la1 we1 mT1 mP1 mi dr pk be lf fp sa ta bm fq pq ke ik hI H locs ls hP hM hS hl
                                              · by_cases d21 : v = 21
                                                · refine lv_tableIn (tgt := 765) hx hb dL_law_32 (by rw [d21]; decide) (by rw [d21]; decide) (by rw [d21]; rfl) (by decide) ?_
                                                  have h := zl_restore S hT hX hbl hbA hDa hDs hL hi5 (K hi5)
                                                  unfold zKL at h
                                                  exact h tu ga lk stp dbt win kp tu0 ga0 lk0 stp0 dbt0 win0 kp0 tu1 ga1 lk1 stp1 dbt1 win1 kp1 pl gs ab mn plr gsr abr mnr go off thr fn plc mnt lft abd iw sn pn sn0 sn1 cn ns ka ea la we mT mP pa ea0 la0 we0 mT0 mP0 ea1 la1 we1 mT1 mP1 mi dr pk be lf fp sa ta bm fq pq ke ik hI H locs ls hP hM hS hl
                                                · by_cases d22 : v = 22
                                                  · refine lv_tableIn (tgt := 788) hx hb dL_law_32 (by rw [d22]; decide) (by rw [d22]; decide) (by rw [d22]; rfl) (by decide) ?_
                                                    have h := zl_told S hT hX hbl hbA hDa hDs hL hi5 (K hi5)
                                                    unfold zKL at h
                                                    exact h tu ga lk stp dbt win kp tu0 ga0 lk0 stp0 dbt0 win0 kp0 tu1 ga1 lk1 stp1 dbt1 win1 kp1 pl gs ab mn plr gsr abr mnr go off thr fn plc mnt lft abd iw sn pn sn0 sn1 cn ns ka ea la we mT mP pa ea0 la0 we0 mT0 mP0 ea1 la1 we1 mT1 mP1 mi dr pk be lf fp sa ta bm fq pq ke ik hI H locs ls hP hM hS hl
                                                  · refine lv_tableOut (tgt := 811) hx hb dL_law_32 (by have y0 := lv_neT d0 (show ((0 : Int32)).toInt = 0 by decide); have y1 := lv_neT d1 (show ((1 : Int32)).toInt = 1 by decide); have y2 := lv_neT d2 (show ((2 : Int32)).toInt = 2 by decide); have y3 := lv_neT d3 (show ((3 : Int32)).toInt = 3 by decide); have y4 := lv_neT d4 (show ((4 : Int32)).toInt = 4 by decide); have y5 := lv_neT d5 (show ((5 : Int32)).toInt = 5 by decide); have y6 := lv_neT d6 (show ((6 : Int32)).toInt = 6 by decide); have y7 := lv_neT d7 (show ((7 : Int32)).toInt = 7 by decide); have y8 := lv_neT d8 (show ((8 : Int32)).toInt = 8 by decide); have y9 := lv_neT d9 (show ((9 : Int32)).toInt = 9 by decide); have y10 := lv_neT d10 (show ((10 : Int32)).toInt = 10 by decide); have y11 := lv_neT d11 (show ((11 : Int32)).toInt = 11 by decide); have y12 := lv_neT d12 (show ((12 : Int32)).toInt = 12 by decide); have y13 := lv_neT d13 (show ((13 : Int32)).toInt = 13 by decide); have y14 := lv_neT d14 (show ((14 : Int32)).toInt = 14 by decide); have y15 := lv_neT d15 (show ((15 : Int32)).toInt = 15 by decide); have y16 := lv_neT d16 (show ((16 : Int32)).toInt = 16 by decide); have y17 := lv_neT d17 (show ((17 : Int32)).toInt = 17 by decide); have y18 := lv_neT d18 (show ((18 : Int32)).toInt = 18 by decide); have y19 := lv_neT d19 (show ((19 : Int32)).toInt = 19 by decide); have y20 := lv_neT d20 (show ((20 : Int32)).toInt = 20 by decide); have y21 := lv_neT d21 (show ((21 : Int32)).toInt = 21 by decide); have y22 := lv_neT d22 (show ((22 : Int32)).toInt = 22 by decide); omega) (by decide) ?_
                                                    have h := K hi5
                                                    unfold zKL at h
                                                    exact h tu ga lk stp dbt win kp tu0 ga0 lk0 stp0 dbt0 win0 kp0 tu1 ga1 lk1 stp1 dbt1 win1 kp1 pl gs ab mn plr gsr abr mnr go off thr fn plc mnt lft abd iw sn pn sn0 sn1 cn ns ka ea la we mT mP pa ea0 la0 we0 mT0 mP0 ea1 la1 we1 mT1 mP1 mi dr pk be lf fp sa ta bm fq pq ke ik hI H locs ls hP hM hS hl
