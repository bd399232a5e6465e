theorem vp_in_of2 {j n : Nat} (h : j < n) (hj : j < 2 ^ 31) : vp_in (nI j) n := by
  intro q
  rcases q with q | q
  · exact nI_pos hj q
  · rw [nI_clamp hj] at q
    omega
def zms (x : Int32) : Nat := (x.toInt + 1).toNat
theorem zms_nI {q : Nat} (h : q < 2 ^ 31) : zms (nI q) = q + 1 := by
  unfold zms
  rw [nI_toInt h]
  omega
theorem zdec_int {x : Int32} (c : ¬ x < 0) : (x + (-1)).toInt = x.toInt - 1 := by
  obtain ⟨j, hj, rfl⟩ := nI_of c
  cases j with
  | zero => decide
  | succ j =>
    rw [pk_m1, nI_toInt hj, nI_toInt (by omega)]
    omega
theorem zms_dec {x : Int32} {n : Nat} (c : ¬ x < 0) (hm : zms x < n + 1) : zms (x + (-1)) < n := by
  have h := zdec_int c
  have h0 : 0 ≤ x.toInt := by
    have := Int32.not_lt.mp c
    rw [Int32.le_iff_toInt_le] at this
    exact this
  unfold zms at hm ⊢
  rw [h]
  omega
theorem zle_dec {x b : Int32} (c : ¬ x < 0) (h : x ≤ b) : x + (-1) ≤ b := by
  rw [Int32.le_iff_toInt_le] at h ⊢
  rw [zdec_int c]
  omega
theorem zxv {x b : Int32} {n : Nat} (c : ¬ x < 0) (h : x ≤ b) (hb : b.toInt < n) : vp_in x n := zle_vp (Int32.not_lt.mp c) h hb
theorem ztn31 (x : Int32) : x.toNatClampNeg < 2 ^ 31 := by
  by_cases c : x < 0
  · have : x.toNatClampNeg = 0 := by
      rw [Int32.lt_iff_toInt_lt] at c
      show x.toInt.toNat = 0
      have h0 : (0 : Int32).toInt = 0 := by decide
      omega
    rw [this]
    decide
  · obtain ⟨j, hj, rfl⟩ := nI_of c
    rw [nI_clamp hj]
    exact hj
theorem ztlt {x : Int32} {j : Nat} (c : ¬ x ≤ nI j) (hj : j < 2 ^ 31) : j < x.toNatClampNeg := by
  have c2 := Int32.not_le.mp c
  have h0 : ¬ x < 0 := fun q => absurd (Int32.lt_trans c2 q) (nI_pos hj)
  obtain ⟨i, hi, rfl⟩ := nI_of h0
  rw [nI_clamp hi]
  exact zNlt c2 hj hi
theorem zbdec {x : Int32} {n : Nat} (c : ¬ x = 0) (hm : x.toBitVec.toNat < n + 1) : (x &&& (x - 1)).toBitVec.toNat < n := by
  have h1 : (x &&& (x - 1)).toBitVec = x.toBitVec &&& (x.toBitVec - 1) := by simp
  have h0 : x.toBitVec.toNat ≠ 0 := by
    intro e
    apply c
    apply Int32.toBitVec_inj.mp
    apply BitVec.eq_of_toNat_eq
    rw [e]
    rfl
  rw [h1, BitVec.toNat_and]
  have h2 : (x.toBitVec - 1).toNat = x.toBitVec.toNat - 1 := by
    have hl := x.toBitVec.isLt
    rw [BitVec.toNat_sub]
    have : (1 : BitVec 32).toNat = 1 := by decide
    rw [this]
    omega
  have h3 := Nat.and_le_right (n := x.toBitVec.toNat) (m := (x.toBitVec - 1).toNat)
  omega
theorem zin_idx {v : Int32} {a b : Int64} {A B : Nat} {n : Nat} (h : ¬ s_X9_in v.toInt64 a b = 0) (ha : a = (nI A).toInt64) (hb : b = (nI B).toInt64) (hB : B < 2 ^ 31) (hA : A < 2 ^ 31) (hn : B - A < n) : vp_in (v - nI A) n := by
  have := zin32 h ha hb
  have h0 : ¬ v < 0 := fun q => absurd (Int32.lt_of_le_of_lt this.1 q) (nI_pos hA)
  obtain ⟨j, hj, rfl⟩ := nI_of h0
  have h1 := zNle this.1 hA hj
  have h2 := zNle this.2 hj hB
  rw [pk_sub h1]
  exact vp_in_of2 (by omega) (by omega)
theorem zz01 {x : Int32} (h : x = 0 ∨ x = 1) : narrow .boolean (.int x) = .int x := by
  rcases h with h | h <;> (rw [h]; rfl)
def lp_X9_findSneezes_4 : Nat → Nat → (Nat → Int32) → (Nat → Int32)
  | 0, _, f7_4 => f7_4
  | fu + 1, k, f7_4 => if 61 ≤ nI k then f7_4 else lp_X9_findSneezes_4 fu (k + 1) (upd f7_4 k 0)
def lp_X9_findSneezes_25 (pn : Nat) (pa : Nat → Int32) : Nat → Nat → Nat → (Nat → Int32) → (Nat → Int32)
  | 0, _, _, f7_25 => f7_25
  | fu + 1, k, q, f7_25 => if nI pn ≤ nI k then f7_25 else (if pa k = 46 then lp_X9_findSneezes_25 pn pa fu (k + 1) (q + 1) (upd f7_25 q ((f7_25 q) + ((if pa k = 33 then 1 else 0) : Int32))) else lp_X9_findSneezes_25 pn pa fu (k + 1) q (upd f7_25 q ((f7_25 q) + ((if pa k = 33 then 1 else 0) : Int32))))
abbrev rm_X9_findSneezes : Room := { frames := 0, cells := 0, slots := 0, locals := 0 }
set_option maxRecDepth 100000 in
set_option maxHeartbeats 4000000 in
theorem c_X9_findSneezes (l : Launch) (D : va_G) (cI cZ : ClassId) (mo rea rla rwe rst rsp rpa rsa rta rbe rfa rpl rke rik sn pn ka : Nat) (tu ga lk stp dbt win plc mnt lft abd iw : Int32) (ea la we mT mP pa sa ta be fa pq ke ik : Nat → Int32) (hpn : pn ≤ 60) : Met l yX9_findSneezes [.code yX9_findSneezes cX9_findSneezes 3 none] rm_X9_findSneezes (PcW D cI cZ [.ref mo] [(mo, .inr (9, [.int tu, .int ga, .int lk, .int stp, .int dbt, .int win, .ref rea, .ref rla, .ref rwe, .ref rst, .ref rsp, .int (nI sn), .ref rpa, .int (nI pn), .int plc, .int mnt, .int lft, .int abd, .ref rsa, .ref rta, .ref rbe, .ref rfa, .ref rpl, .ref rke, .ref rik, .int (nI ka), .int iw])), (rea, .inl (cI, 5, .inl ea)), (rla, .inl (cI, 5, .inl la)), (rwe, .inl (cI, 6, .inl we)), (rst, .inl (cI, 6, .inl mT)), (rsp, .inl (cI, 6, .inl mP)), (rpa, .inl (cI, 60, .inl pa)), (rsa, .inl (cI, 61, .inl sa)), (rta, .inl (cI, 12, .inl ta)), (rbe, .inl (cI, 12, .inl be)), (rfa, .inl (cI, 6, .inl fa)), (rpl, .inl (cI, 60, .inl pq)), (rke, .inl (cI, 100, .inl ke)), (rik, .inl (cZ, 2, .inl ik))]) (QcE D (S := Unit) none (fun _ => True) (fun _ => [(mo, .inr (9, [.int tu, .int ga, .int lk, .int stp, .int dbt, .int win, .ref rea, .ref rla, .ref rwe, .ref rst, .ref rsp, .int (nI sn), .ref rpa, .int (nI pn), .int plc, .int mnt, .int lft, .int abd, .ref rsa, .ref rta, .ref rbe, .ref rfa, .ref rpl, .ref rke, .ref rik, .int (nI ka), .int iw])), (rea, .inl (cI, 5, .inl ea)), (rla, .inl (cI, 5, .inl la)), (rwe, .inl (cI, 6, .inl we)), (rst, .inl (cI, 6, .inl mT)), (rsp, .inl (cI, 6, .inl mP)), (rpa, .inl (cI, 60, .inl pa)), (rsa, .inl (cI, 61, .inl (lp_X9_findSneezes_25 pn pa (pn + 1) 0 0 (lp_X9_findSneezes_4 62 0 sa)))), (rta, .inl (cI, 12, .inl ta)), (rbe, .inl (cI, 12, .inl be)), (rfa, .inl (cI, 6, .inl fa)), (rpl, .inl (cI, 60, .inl pq)), (rke, .inl (cI, 100, .inl ke)), (rik, .inl (cZ, 2, .inl ik))]) (zA [(mo, .inr (9, [.int tu, .int ga, .int lk, .int stp, .int dbt, .int win, .ref rea, .ref rla, .ref rwe, .ref rst, .ref rsp, .int (nI sn), .ref rpa, .int (nI pn), .int plc, .int mnt, .int lft, .int abd, .ref rsa, .ref rta, .ref rbe, .ref rfa, .ref rpl, .ref rke, .ref rik, .int (nI ka), .int iw])), (rea, .inl (cI, 5, .inl ea)), (rla, .inl (cI, 5, .inl la)), (rwe, .inl (cI, 6, .inl we)), (rst, .inl (cI, 6, .inl mT)), (rsp, .inl (cI, 6, .inl mP)), (rpa, .inl (cI, 60, .inl pa)), (rsa, .inl (cI, 61, .inl sa)), (rta, .inl (cI, 12, .inl ta)), (rbe, .inl (cI, 12, .inl be)), (rfa, .inl (cI, 6, .inl fa)), (rpl, .inl (cI, 60, .inl pq)), (rke, .inl (cI, 100, .inl ke)), (rik, .inl (cZ, 2, .inl ik))])) 0 0 (zA [(mo, .inr (9, [.int tu, .int ga, .int lk, .int stp, .int dbt, .int win, .ref rea, .ref rla, .ref rwe, .ref rst, .ref rsp, .int (nI sn), .ref rpa, .int (nI pn), .int plc, .int mnt, .int lft, .int abd, .ref rsa, .ref rta, .ref rbe, .ref rfa, .ref rpl, .ref rke, .ref rik, .int (nI ka), .int iw])), (rea, .inl (cI, 5, .inl ea)), (rla, .inl (cI, 5, .inl la)), (rwe, .inl (cI, 6, .inl we)), (rst, .inl (cI, 6, .inl mT)), (rsp, .inl (cI, 6, .inl mP)), (rpa, .inl (cI, 60, .inl pa)), (rsa, .inl (cI, 61, .inl sa)), (rta, .inl (cI, 12, .inl ta)), (rbe, .inl (cI, 12, .inl be)), (rfa, .inl (cI, 6, .inl fa)), (rpl, .inl (cI, 60, .inl pq)), (rke, .inl (cI, 100, .inl ke)), (rik, .inl (cZ, 2, .inl ik))]) := by
  refine mtWv (by decide) (Nat.le_of_ble_eq_true rfl) (fun p e s m args below meth c Q A S hT hP hD hS hret ls hl => ?_)
  have S : CallFix p m c cX9_findSneezes 3 s args zt RX9 := S
  obtain ⟨hx, hb, hml, hown, hts⟩ := id S
  have hl : lv_has ls 3 [(0, .ref mo)] := hl
  refine lv_iconst (v := 0) hx hb dX9_findSneezes_0 (by decide) ?_
  refine lv_istore_n (lv' := [(1, .int 0), (0, .ref mo)]) hx hb dX9_findSneezes_1 rfl hl (by decide) rfl (fun ls hl => ?_)
  refine lv_iconst (v := 0) hx hb dX9_findSneezes_2 (by decide) ?_
  refine lv_istore_n (lv' := [(2, .int 0), (1, .int 0), (0, .ref mo)]) hx hb dX9_findSneezes_3 rfl hl (by decide) rfl (fun ls hl => ?_)
  have X2 : ∀ (y1 : Nat → Int32), (lp_X9_findSneezes_4 62 0 sa) = y1 → ∀ (ls : Array Slot), lv_has ls 3 [(0, .ref mo), (1, .int 0)] → ∀ (H : Heap) (locs : List Loc), va_P D vwCl [(mo, .inr (9, [.int tu, .int ga, .int lk, .int stp, .int dbt, .int win, .ref rea, .ref rla, .ref rwe, .ref rst, .ref rsp, .int (nI sn), .ref rpa, .int (nI pn), .int plc, .int mnt, .int lft, .int abd, .ref rsa, .ref rta, .ref rbe, .ref rfa, .ref rpl, .ref rke, .ref rik, .int (nI ka), .int iw])), (rea, .inl (cI, 5, .inl ea)), (rla, .inl (cI, 5, .inl la)), (rwe, .inl (cI, 6, .inl we)), (rst, .inl (cI, 6, .inl mT)), (rsp, .inl (cI, 6, .inl mP)), (rpa, .inl (cI, 60, .inl pa)), (rsa, .inl (cI, 61, .inl y1)), (rta, .inl (cI, 12, .inl ta)), (rbe, .inl (cI, 12, .inl be)), (rfa, .inl (cI, 6, .inl fa)), (rpl, .inl (cI, 60, .inl pq)), (rke, .inl (cI, 100, .inl ke)), (rik, .inl (cZ, 2, .inl ik))] H → va_D A [(mo, .inr (9, [.int tu, .int ga, .int lk, .int stp, .int dbt, .int win, .ref rea, .ref rla, .ref rwe, .ref rst, .ref rsp, .int (nI sn), .ref rpa, .int (nI pn), .int plc, .int mnt, .int lft, .int abd, .ref rsa, .ref rta, .ref rbe, .ref rfa, .ref rpl, .ref rke, .ref rik, .int (nI ka), .int iw])), (rea, .inl (cI, 5, .inl ea)), (rla, .inl (cI, 5, .inl la)), (rwe, .inl (cI, 6, .inl we)), (rst, .inl (cI, 6, .inl mT)), (rsp, .inl (cI, 6, .inl mP)), (rpa, .inl (cI, 60, .inl pa)), (rsa, .inl (cI, 61, .inl y1)), (rta, .inl (cI, 12, .inl ta)), (rbe, .inl (cI, 12, .inl be)), (rfa, .inl (cI, 6, .inl fa)), (rpl, .inl (cI, 60, .inl pq)), (rke, .inl (cI, 100, .inl ke)), (rik, .inl (cZ, 2, .inl ik))] → va_S A s.heap H locs → W p l e rm_X9_findSneezes s m args below meth c H locs 0 0 Q (F0 m 23 ls []) := by
    intro y1 ey1 ls hl H locs hP hD hS
    subst ey1
    refine lv_iconst (v := 0) hx hb dX9_findSneezes_23 (by decide) ?_
    refine lv_istore_n (lv' := [(2, .int 0), (0, .ref mo), (1, .int 0)]) hx hb dX9_findSneezes_24 rfl hl (by decide) rfl (fun ls hl => ?_)
    have X4 : ∀ (y3 : Nat → Int32), (lp_X9_findSneezes_25 pn pa (pn + 1) 0 0 (lp_X9_findSneezes_4 62 0 sa)) = y3 → ∀ (ls : Array Slot), lv_has ls 3 [(0, .ref mo)] → ∀ (H : Heap) (locs : List Loc), va_P D vwCl [(mo, .inr (9, [.int tu, .int ga, .int lk, .int stp, .int dbt, .int win, .ref rea, .ref rla, .ref rwe, .ref rst, .ref rsp, .int (nI sn), .ref rpa, .int (nI pn), .int plc, .int mnt, .int lft, .int abd, .ref rsa, .ref rta, .ref rbe, .ref rfa, .ref rpl, .ref rke, .ref rik, .int (nI ka), .int iw])), (rea, .inl (cI, 5, .inl ea)), (rla, .inl (cI, 5, .inl la)), (rwe, .inl (cI, 6, .inl we)), (rst, .inl (cI, 6, .inl mT)), (rsp, .inl (cI, 6, .inl mP)), (rpa, .inl (cI, 60, .inl pa)), (rsa, .inl (cI, 61, .inl y3)), (rta, .inl (cI, 12, .inl ta)), (rbe, .inl (cI, 12, .inl be)), (rfa, .inl (cI, 6, .inl fa)), (rpl, .inl (cI, 60, .inl pq)), (rke, .inl (cI, 100, .inl ke)), (rik, .inl (cZ, 2, .inl ik))] H → va_D A [(mo, .inr (9, [.int tu, .int ga, .int lk, .int stp, .int dbt, .int win, .ref rea, .ref rla, .ref rwe, .ref rst, .ref rsp, .int (nI sn), .ref rpa, .int (nI pn), .int plc, .int mnt, .int lft, .int abd, .ref rsa, .ref rta, .ref rbe, .ref rfa, .ref rpl, .ref rke, .ref rik, .int (nI ka), .int iw])), (rea, .inl (cI, 5, .inl ea)), (rla, .inl (cI, 5, .inl la)), (rwe, .inl (cI, 6, .inl we)), (rst, .inl (cI, 6, .inl mT)), (rsp, .inl (cI, 6, .inl mP)), (rpa, .inl (cI, 60, .inl pa)), (rsa, .inl (cI, 61, .inl y3)), (rta, .inl (cI, 12, .inl ta)), (rbe, .inl (cI, 12, .inl be)), (rfa, .inl (cI, 6, .inl fa)), (rpl, .inl (cI, 60, .inl pq)), (rke, .inl (cI, 100, .inl ke)), (rik, .inl (cZ, 2, .inl ik))] → va_S A s.heap H locs → W p l e rm_X9_findSneezes s m args below meth c H locs 0 0 Q (F0 m 83 ls []) := by
      intro y3 ey3 ls hl H locs hP hD hS
      subst ey3
      exact hret _ _ H locs () dX9_findSneezes_83  trivial hP hS
    have L5 : ∀ (n8 : Nat) (k : Nat) (q : Nat) (f7_25 : Nat → Int32), pn - k < n8 → (k ≤ pn) → (q ≤ k) → lp_X9_findSneezes_25 pn pa n8 k q f7_25 = lp_X9_findSneezes_25 pn pa (pn + 1) 0 0 (lp_X9_findSneezes_4 62 0 sa) → ∀ (ls : Array Slot), lv_has ls 3 [(0, .ref mo), (1, .int (nI q)), (2, .int (nI k))] → ∀ (H : Heap) (locs : List Loc), va_P D vwCl [(mo, .inr (9, [.int tu, .int ga, .int lk, .int stp, .int dbt, .int win, .ref rea, .ref rla, .ref rwe, .ref rst, .ref rsp, .int (nI sn), .ref rpa, .int (nI pn), .int plc, .int mnt, .int lft, .int abd, .ref rsa, .ref rta, .ref rbe, .ref rfa, .ref rpl, .ref rke, .ref rik, .int (nI ka), .int iw])), (rea, .inl (cI, 5, .inl ea)), (rla, .inl (cI, 5, .inl la)), (rwe, .inl (cI, 6, .inl we)), (rst, .inl (cI, 6, .inl mT)), (rsp, .inl (cI, 6, .inl mP)), (rpa, .inl (cI, 60, .inl pa)), (rsa, .inl (cI, 61, .inl f7_25)), (rta, .inl (cI, 12, .inl ta)), (rbe, .inl (cI, 12, .inl be)), (rfa, .inl (cI, 6, .inl fa)), (rpl, .inl (cI, 60, .inl pq)), (rke, .inl (cI, 100, .inl ke)), (rik, .inl (cZ, 2, .inl ik))] H → va_D A [(mo, .inr (9, [.int tu, .int ga, .int lk, .int stp, .int dbt, .int win, .ref rea, .ref rla, .ref rwe, .ref rst, .ref rsp, .int (nI sn), .ref rpa, .int (nI pn), .int plc, .int mnt, .int lft, .int abd, .ref rsa, .ref rta, .ref rbe, .ref rfa, .ref rpl, .ref rke, .ref rik, .int (nI ka), .int iw])), (rea, .inl (cI, 5, .inl ea)), (rla, .inl (cI, 5, .inl la)), (rwe, .inl (cI, 6, .inl we)), (rst, .inl (cI, 6, .inl mT)), (rsp, .inl (cI, 6, .inl mP)), (rpa, .inl (cI, 60, .inl pa)), (rsa, .inl (cI, 61, .inl f7_25)), (rta, .inl (cI, 12, .inl ta)), (rbe, .inl (cI, 12, .inl be)), (rfa, .inl (cI, 6, .inl fa)), (rpl, .inl (cI, 60, .inl pq)), (rke, .inl (cI, 100, .inl ke)), (rik, .inl (cZ, 2, .inl ik))] → va_S A s.heap H locs → W p l e rm_X9_findSneezes s m args below meth c H locs 0 0 Q (F0 m 25 ls []) := by
      intro n8
      induction n8 with
      | zero => intro k q f7_25 hm; exact absurd hm (Nat.not_lt_zero _)
      | succ n8 ih7 =>
        intro k q f7_25 hm9 hk hq hv6 ls hl H locs hP hD hS
        refine lv_iload_n hx hb dX9_findSneezes_25 rfl (lv_at hl 2 rfl) ?_
        refine lv_aload_n hx hb dX9_findSneezes_26 rfl (lv_at hl 0 rfl) ?_
        refine va_get (D := D) (ci := 9) (v := .int (nI pn)) (C := RX9) (T := TX9) (N := 27) hx hb hts in_X9 hown hT.1 hP 0 rfl rfl 13 (by decide) (hts _ fl_RX9_95) (fun _ h9 => h9) rfl dX9_findSneezes_27 ?_
        refine lv_icmp_ge (tgt := 83) hx hb dX9_findSneezes_30 (by decide) (fun c10 => ?_) (fun c10 => ?_)
        · have nc10 := zNle (a := pn) (b := k) c10 (by omega) (by omega)
          exact X4 _ (by rw [← hv6, lp_X9_findSneezes_25, if_pos c10]) ls (lv_sub hl [0] rfl) H locs hP hD hS
        · have nc10 := zNnle (a := pn) (b := k) c10 (by omega) (by omega)
          refine lv_aload_n hx hb dX9_findSneezes_33 rfl (lv_at hl 0 rfl) ?_
          refine va_get (D := D) (ci := 9) (v := .ref rsa) (C := RX9) (T := TX9) (N := 27) hx hb hts in_X9 hown hT.1 hP 0 rfl rfl 18 (by decide) (hts _ fl_RX9_28) (fun _ h9 => h9) rfl dX9_findSneezes_34 ?_
          refine lv_iload_n hx hb dX9_findSneezes_37 rfl (lv_at hl 1 rfl) ?_
          refine lv_dup2_11 hx hb dX9_findSneezes_38 rfl rfl ?_
          refine zald (D := D) (k := q) hx hb hT.1 hP 7 0 rfl rfl (by omega) (by omega) dX9_findSneezes_39 ?_
          refine lv_aload_n hx hb dX9_findSneezes_40 rfl (lv_at hl 0 rfl) ?_
          refine va_get (D := D) (ci := 9) (v := .ref rpa) (C := RX9) (T := TX9) (N := 27) hx hb hts in_X9 hown hT.1 hP 0 rfl rfl 12 (by decide) (hts _ fl_RX9_25) (fun _ h9 => h9) rfl dX9_findSneezes_41 ?_
          refine lv_iload_n hx hb dX9_findSneezes_44 rfl (lv_at hl 2 rfl) ?_
          refine zald (D := D) (k := k) hx hb hT.1 hP 6 0 rfl rfl (by omega) (by omega) dX9_findSneezes_45 ?_
          refine lv_bipush (v := 33) hx hb dX9_findSneezes_46 (by decide) ?_
          have J12 : ∀ (z11 : Int32), ((if pa k = 33 then 1 else 0) : Int32) = z11 → W p l e rm_X9_findSneezes s m args below meth c H locs 0 0 Q (F0 m 56 ls [.int z11, .int (f7_25 q), .int (nI q), .ref rsa]) := by
            intro z11 ez11
            subst ez11
            refine lv_iadd hx hb dX9_findSneezes_56 ?_
            refine zast (D := D) (k := q) hx hb hT.1 hP hD hS 7 0 rfl rfl (by omega) (by omega) dX9_findSneezes_57 (fun H locs hP hD hS => ?_)
            have hP : va_P D vwCl [(mo, .inr (9, [.int tu, .int ga, .int lk, .int stp, .int dbt, .int win, .ref rea, .ref rla, .ref rwe, .ref rst, .ref rsp, .int (nI sn), .ref rpa, .int (nI pn), .int plc, .int mnt, .int lft, .int abd, .ref rsa, .ref rta, .ref rbe, .ref rfa, .ref rpl, .ref rke, .ref rik, .int (nI ka), .int iw])), (rea, .inl (cI, 5, .inl ea)), (rla, .inl (cI, 5, .inl la)), (rwe, .inl (cI, 6, .inl we)), (rst, .inl (cI, 6, .inl mT)), (rsp, .inl (cI, 6, .inl mP)), (rpa, .inl (cI, 60, .inl pa)), (rsa, .inl (cI, 61, .inl (upd f7_25 q ((f7_25 q) + ((if pa k = 33 then 1 else 0) : Int32))))), (rta, .inl (cI, 12, .inl ta)), (rbe, .inl (cI, 12, .inl be)), (rfa, .inl (cI, 6, .inl fa)), (rpl, .inl (cI, 60, .inl pq)), (rke, .inl (cI, 100, .inl ke)), (rik, .inl (cZ, 2, .inl ik))] H := hP
            have hD : va_D A [(mo, .inr (9, [.int tu, .int ga, .int lk, .int stp, .int dbt, .int win, .ref rea, .ref rla, .ref rwe, .ref rst, .ref rsp, .int (nI sn), .ref rpa, .int (nI pn), .int plc, .int mnt, .int lft, .int abd, .ref rsa, .ref rta, .ref rbe, .ref rfa, .ref rpl, .ref rke, .ref rik, .int (nI ka), .int iw])), (rea, .inl (cI, 5, .inl ea)), (rla, .inl (cI, 5, .inl la)), (rwe, .inl (cI, 6, .inl we)), (rst, .inl (cI, 6, .inl mT)), (rsp, .inl (cI, 6, .inl mP)), (rpa, .inl (cI, 60, .inl pa)), (rsa, .inl (cI, 61, .inl (upd f7_25 q ((f7_25 q) + ((if pa k = 33 then 1 else 0) : Int32))))), (rta, .inl (cI, 12, .inl ta)), (rbe, .inl (cI, 12, .inl be)), (rfa, .inl (cI, 6, .inl fa)), (rpl, .inl (cI, 60, .inl pq)), (rke, .inl (cI, 100, .inl ke)), (rik, .inl (cZ, 2, .inl ik))] := hD
            refine lv_iload_n hx hb dX9_findSneezes_58 rfl (lv_at hl 1 rfl) ?_
            refine lv_aload_n hx hb dX9_findSneezes_59 rfl (lv_at hl 0 rfl) ?_
            refine va_get (D := D) (ci := 9) (v := .ref rpa) (C := RX9) (T := TX9) (N := 27) hx hb hts in_X9 hown hT.1 hP 0 rfl rfl 12 (by decide) (hts _ fl_RX9_25) (fun _ h9 => h9) rfl dX9_findSneezes_60 ?_
            refine lv_iload_n hx hb dX9_findSneezes_63 rfl (lv_at hl 2 rfl) ?_
            refine zald (D := D) (k := k) hx hb hT.1 hP 6 0 rfl rfl (by omega) (by omega) dX9_findSneezes_64 ?_
            refine lv_bipush (v := 46) hx hb dX9_findSneezes_65 (by decide) ?_
            refine lv_icmp_ne (tgt := 74) hx hb dX9_findSneezes_67 (by decide) (fun c13 => ?_) (fun c13 => ?_)
            · refine lv_iconst (v := 0) hx hb dX9_findSneezes_74 (by decide) ?_
              refine lv_iadd hx hb dX9_findSneezes_75 ?_
              refine zI (y := nI q) (Int32.add_zero _) ?_
              refine lv_istore_n (lv' := [(1, .int (nI q)), (0, .ref mo), (2, .int (nI k))]) hx hb dX9_findSneezes_76 rfl hl (by decide) rfl (fun ls hl => ?_)
              refine lv_iinc (v := nI (k + 1)) (lv' := [(2, .int (nI (k + 1))), (1, .int (nI q)), (0, .ref mo)]) hx hb dX9_findSneezes_77 hl (k := 2) rfl (nI_1 k) (by decide) rfl (fun ls hl => ?_)
              refine lv_goto (tgt := 25) hx hb dX9_findSneezes_80 (by decide) ?_
              exact ih7 (k + 1) q (upd f7_25 q ((f7_25 q) + ((if pa k = 33 then 1 else 0) : Int32))) (by omega) (by omega) (by omega) (by rw [← hv6, lp_X9_findSneezes_25, if_neg c10, if_neg c13]) ls (lv_sub hl [2, 1, 0] rfl) H locs hP hD hS
            · refine lv_iconst (v := 1) hx hb dX9_findSneezes_70 (by decide) ?_
              refine lv_goto (tgt := 75) hx hb dX9_findSneezes_71 (by decide) ?_
              refine lv_iadd hx hb dX9_findSneezes_75 ?_
              refine zI (y := nI (q + 1)) (nI_1 q) ?_
              refine lv_istore_n (lv' := [(1, .int (nI (q + 1))), (0, .ref mo), (2, .int (nI k))]) hx hb dX9_findSneezes_76 rfl hl (by decide) rfl (fun ls hl => ?_)
              refine lv_iinc (v := nI (k + 1)) (lv' := [(2, .int (nI (k + 1))), (1, .int (nI (q + 1))), (0, .ref mo)]) hx hb dX9_findSneezes_77 hl (k := 2) rfl (nI_1 k) (by decide) rfl (fun ls hl => ?_)
              refine lv_goto (tgt := 25) hx hb dX9_findSneezes_80 (by decide) ?_
              exact ih7 (k + 1) (q + 1) (upd f7_25 q ((f7_25 q) + ((if pa k = 33 then 1 else 0) : Int32))) (by omega) (by omega) (by omega) (by rw [← hv6, lp_X9_findSneezes_25, if_neg c10, if_pos c13]) ls (lv_sub hl [2, 1, 0] rfl) H locs hP hD hS
          refine lv_icmp_ne (tgt := 55) hx hb dX9_findSneezes_48 (by decide) (fun c14 => ?_) (fun c14 => ?_)
          · refine lv_iconst (v := 0) hx hb dX9_findSneezes_55 (by decide) ?_
            exact J12 0 (by rw [if_neg c14])
          · refine lv_iconst (v := 1) hx hb dX9_findSneezes_51 (by decide) ?_
            refine lv_goto (tgt := 56) hx hb dX9_findSneezes_52 (by decide) ?_
            exact J12 1 (by rw [if_pos c14])
    exact L5 (pn + 1) 0 0 (lp_X9_findSneezes_4 62 0 sa) (by omega) (by omega) (by omega) rfl ls (lv_sub hl [1, 2, 0] rfl) H locs hP hD hS
  have L15 : ∀ (n18 : Nat) (k : Nat) (f7_4 : Nat → Int32), 61 - k < n18 → (k ≤ 61) → lp_X9_findSneezes_4 n18 k f7_4 = lp_X9_findSneezes_4 62 0 sa → ∀ (ls : Array Slot), lv_has ls 3 [(0, .ref mo), (1, .int 0), (2, .int (nI k))] → ∀ (H : Heap) (locs : List Loc), va_P D vwCl [(mo, .inr (9, [.int tu, .int ga, .int lk, .int stp, .int dbt, .int win, .ref rea, .ref rla, .ref rwe, .ref rst, .ref rsp, .int (nI sn), .ref rpa, .int (nI pn), .int plc, .int mnt, .int lft, .int abd, .ref rsa, .ref rta, .ref rbe, .ref rfa, .ref rpl, .ref rke, .ref rik, .int (nI ka), .int iw])), (rea, .inl (cI, 5, .inl ea)), (rla, .inl (cI, 5, .inl la)), (rwe, .inl (cI, 6, .inl we)), (rst, .inl (cI, 6, .inl mT)), (rsp, .inl (cI, 6, .inl mP)), (rpa, .inl (cI, 60, .inl pa)), (rsa, .inl (cI, 61, .inl f7_4)), (rta, .inl (cI, 12, .inl ta)), (rbe, .inl (cI, 12, .inl be)), (rfa, .inl (cI, 6, .inl fa)), (rpl, .inl (cI, 60, .inl pq)), (rke, .inl (cI, 100, .inl ke)), (rik, .inl (cZ, 2, .inl ik))] H → va_D A [(mo, .inr (9, [.int tu, .int ga, .int lk, .int stp, .int dbt, .int win, .ref rea, .ref rla, .ref rwe, .ref rst, .ref rsp, .int (nI sn), .ref rpa, .int (nI pn), .int plc, .int mnt, .int lft, .int abd, .ref rsa, .ref rta, .ref rbe, .ref rfa, .ref rpl, .ref rke, .ref rik, .int (nI ka), .int iw])), (rea, .inl (cI, 5, .inl ea)), (rla, .inl (cI, 5, .inl la)), (rwe, .inl (cI, 6, .inl we)), (rst, .inl (cI, 6, .inl mT)), (rsp, .inl (cI, 6, .inl mP)), (rpa, .inl (cI, 60, .inl pa)), (rsa, .inl (cI, 61, .inl f7_4)), (rta, .inl (cI, 12, .inl ta)), (rbe, .inl (cI, 12, .inl be)), (rfa, .inl (cI, 6, .inl fa)), (rpl, .inl (cI, 60, .inl pq)), (rke, .inl (cI, 100, .inl ke)), (rik, .inl (cZ, 2, .inl ik))] → va_S A s.heap H locs → W p l e rm_X9_findSneezes s m args below meth c H locs 0 0 Q (F0 m 4 ls []) := by
    intro n18
    induction n18 with
    | zero => intro k f7_4 hm; exact absurd hm (Nat.not_lt_zero _)
    | succ n18 ih17 =>
      intro k f7_4 hm19 hk hv16 ls hl H locs hP hD hS
      refine lv_iload_n hx hb dX9_findSneezes_4 rfl (lv_at hl 2 rfl) ?_
      refine lv_bipush (v := 61) hx hb dX9_findSneezes_5 (by decide) ?_
      refine lv_icmp_ge (tgt := 23) hx hb dX9_findSneezes_7 (by decide) (fun c20 => ?_) (fun c20 => ?_)
      · have nc20 := zNle (a := 61) (b := k) c20 (by omega) (by omega)
        exact X2 _ (by rw [← hv16, lp_X9_findSneezes_4, if_pos c20]) ls (lv_sub hl [0, 1] rfl) H locs hP hD hS
      · have nc20 := zNnle (a := 61) (b := k) c20 (by omega) (by omega)
        refine lv_aload_n hx hb dX9_findSneezes_10 rfl (lv_at hl 0 rfl) ?_
        refine va_get (D := D) (ci := 9) (v := .ref rsa) (C := RX9) (T := TX9) (N := 27) hx hb hts in_X9 hown hT.1 hP 0 rfl rfl 18 (by decide) (hts _ fl_RX9_28) (fun _ h9 => h9) rfl dX9_findSneezes_11 ?_
        refine lv_iload_n hx hb dX9_findSneezes_14 rfl (lv_at hl 2 rfl) ?_
        refine lv_iconst (v := 0) hx hb dX9_findSneezes_15 (by decide) ?_
        refine zast (D := D) (k := k) hx hb hT.1 hP hD hS 7 0 rfl rfl (by omega) (by omega) dX9_findSneezes_16 (fun H locs hP hD hS => ?_)
        have hP : va_P D vwCl [(mo, .inr (9, [.int tu, .int ga, .int lk, .int stp, .int dbt, .int win, .ref rea, .ref rla, .ref rwe, .ref rst, .ref rsp, .int (nI sn), .ref rpa, .int (nI pn), .int plc, .int mnt, .int lft, .int abd, .ref rsa, .ref rta, .ref rbe, .ref rfa, .ref rpl, .ref rke, .ref rik, .int (nI ka), .int iw])), (rea, .inl (cI, 5, .inl ea)), (rla, .inl (cI, 5, .inl la)), (rwe, .inl (cI, 6, .inl we)), (rst, .inl (cI, 6, .inl mT)), (rsp, .inl (cI, 6, .inl mP)), (rpa, .inl (cI, 60, .inl pa)), (rsa, .inl (cI, 61, .inl (upd f7_4 k 0))), (rta, .inl (cI, 12, .inl ta)), (rbe, .inl (cI, 12, .inl be)), (rfa, .inl (cI, 6, .inl fa)), (rpl, .inl (cI, 60, .inl pq)), (rke, .inl (cI, 100, .inl ke)), (rik, .inl (cZ, 2, .inl ik))] H := hP
        have hD : va_D A [(mo, .inr (9, [.int tu, .int ga, .int lk, .int stp, .int dbt, .int win, .ref rea, .ref rla, .ref rwe, .ref rst, .ref rsp, .int (nI sn), .ref rpa, .int (nI pn), .int plc, .int mnt, .int lft, .int abd, .ref rsa, .ref rta, .ref rbe, .ref rfa, .ref rpl, .ref rke, .ref rik, .int (nI ka), .int iw])), (rea, .inl (cI, 5, .inl ea)), (rla, .inl (cI, 5, .inl la)), (rwe, .inl (cI, 6, .inl we)), (rst, .inl (cI, 6, .inl mT)), (rsp, .inl (cI, 6, .inl mP)), (rpa, .inl (cI, 60, .inl pa)), (rsa, .inl (cI, 61, .inl (upd f7_4 k 0))), (rta, .inl (cI, 12, .inl ta)), (rbe, .inl (cI, 12, .inl be)), (rfa, .inl (cI, 6, .inl fa)), (rpl, .inl (cI, 60, .inl pq)), (rke, .inl (cI, 100, .inl ke)), (rik, .inl (cZ, 2, .inl ik))] := hD
        refine lv_iinc (v := nI (k + 1)) (lv' := [(2, .int (nI (k + 1))), (0, .ref mo), (1, .int 0)]) hx hb dX9_findSneezes_17 hl (k := 2) rfl (nI_1 k) (by decide) rfl (fun ls hl => ?_)
        refine lv_goto (tgt := 4) hx hb dX9_findSneezes_20 (by decide) ?_
        exact ih17 (k + 1) (upd f7_4 k 0) (by omega) (by omega) (by rw [← hv16, lp_X9_findSneezes_4, if_neg c20]) ls (lv_sub hl [1, 2, 0] rfl) H locs hP hD hS
  exact L15 62 0 sa (by omega) (by omega) rfl ls (lv_sub hl [2, 1, 0] rfl) s.heap [] hP hD hS
def lp_X9_within_4 (win : Int32) (sa : Nat → Int32) (q : Nat) : Nat → Int32 → Int32 → Int32
  | 0, _, x2_4 => x2_4
  | fu + 1, x3_4, x2_4 => if x3_4 < 0 then x2_4 else (if x3_4 ≤ ((nI q) - win) then x2_4 else lp_X9_within_4 win sa q fu (x3_4 + (-1)) (x2_4 + (sa x3_4.toNatClampNeg)))
abbrev rm_X9_within : Room := { frames := 0, cells := 0, slots := 0, locals := 0 }
set_option maxRecDepth 100000 in
set_option maxHeartbeats 4000000 in
theorem c_X9_within (l : Launch) (D : va_G) (cI cZ : ClassId) (mo rea rla rwe rst rsp rpa rsa rta rbe rfa rpl rke rik sn pn ka : Nat) (tu ga lk stp dbt win plc mnt lft abd iw : Int32) (ea la we mT mP pa sa ta be fa pq ke ik : Nat → Int32) (q : Nat) (hq : q ≤ 60) : Met l yX9_within [.code yX9_within cX9_within 4 (some .int)] rm_X9_within (PcR D cI cZ [.ref mo, .int (nI q)] [(mo, .inr (9, [.int tu, .int ga, .int lk, .int stp, .int dbt, .int win, .ref rea, .ref rla, .ref rwe, .ref rst, .ref rsp, .int (nI sn), .ref rpa, .int (nI pn), .int plc, .int mnt, .int lft, .int abd, .ref rsa, .ref rta, .ref rbe, .ref rfa, .ref rpl, .ref rke, .ref rik, .int (nI ka), .int iw])), (rea, .inl (cI, 5, .inl ea)), (rla, .inl (cI, 5, .inl la)), (rwe, .inl (cI, 6, .inl we)), (rst, .inl (cI, 6, .inl mT)), (rsp, .inl (cI, 6, .inl mP)), (rpa, .inl (cI, 60, .inl pa)), (rsa, .inl (cI, 61, .inl sa)), (rta, .inl (cI, 12, .inl ta)), (rbe, .inl (cI, 12, .inl be)), (rfa, .inl (cI, 6, .inl fa)), (rpl, .inl (cI, 60, .inl pq)), (rke, .inl (cI, 100, .inl ke)), (rik, .inl (cZ, 2, .inl ik))]) (QcR (some (.int (lp_X9_within_4 win sa q (q + 2) (nI q) 0)))) 0 0 zN := by
  refine mtRi (by decide) (Nat.le_of_ble_eq_true rfl) (fun p e s m args below meth c Q S hT hP hret ls hl => ?_)
  have S : CallFix p m c cX9_within 4 s args zt RX9 := S
  obtain ⟨hx, hb, hml, hown, hts⟩ := id S
  have hl : lv_has ls 4 [(0, .ref mo), (1, .int (nI q))] := hl
  refine lv_iconst (v := 0) hx hb dX9_within_0 (by decide) ?_
  refine lv_istore_n (lv' := [(2, .int 0), (0, .ref mo), (1, .int (nI q))]) hx hb dX9_within_1 rfl hl (by decide) rfl (fun ls hl => ?_)
  refine lv_iload_n hx hb dX9_within_2 rfl (lv_at hl 2 rfl) ?_
  refine lv_istore_n (lv' := [(3, .int (nI q)), (2, .int 0), (0, .ref mo), (1, .int (nI q))]) hx hb dX9_within_3 rfl hl (by decide) rfl (fun ls hl => ?_)
  have X2 : ∀ (y1 : Int32), (lp_X9_within_4 win sa q (q + 2) (nI q) 0) = y1 → ∀ (ls : Array Slot), lv_has ls 4 [(0, .ref mo), (1, .int (nI q)), (2, .int y1)] → W p l e rm_X9_within s m args below meth c s.heap [] 0 0 Q (F0 m 33 ls []) := by
    intro y1 ey1 ls hl
    subst ey1
    refine lv_iload_n hx hb dX9_within_33 rfl (lv_at hl 2 rfl) ?_
    exact hret _ _ _ dX9_within_34 rfl
  have L3 : ∀ (n6 : Nat) (x3_4 : Int32) (x2_4 : Int32), zms x3_4 < n6 → (x3_4 ≤ 60) → lp_X9_within_4 win sa q n6 x3_4 x2_4 = lp_X9_within_4 win sa q (q + 2) (nI q) 0 → ∀ (ls : Array Slot), lv_has ls 4 [(0, .ref mo), (1, .int (nI q)), (2, .int x2_4), (3, .int x3_4)] → W p l e rm_X9_within s m args below meth c s.heap [] 0 0 Q (F0 m 4 ls []) := by
    intro n6
    induction n6 with
    | zero => intro x3_4 x2_4 hm; exact absurd hm (Nat.not_lt_zero _)
    | succ n6 ih5 =>
      intro x3_4 x2_4 hm7 h60 hv4 ls hl
      refine lv_iload_n hx hb dX9_within_4 rfl (lv_at hl 3 rfl) ?_
      refine lv_if_lt (tgt := 33) hx hb dX9_within_5 (by decide) (fun c8 => ?_) (fun c8 => ?_)
      · exact X2 _ (by rw [← hv4, lp_X9_within_4, if_pos c8]) ls (lv_sub hl [0, 1, 2] rfl)
      · refine lv_iload_n hx hb dX9_within_8 rfl (lv_at hl 3 rfl) ?_
        refine lv_iload_n hx hb dX9_within_9 rfl (lv_at hl 1 rfl) ?_
        refine lv_aload_n hx hb dX9_within_10 rfl (lv_at hl 0 rfl) ?_
        refine va_get (D := D) (ci := 9) (v := .int win) (C := RX9) (T := TX9) (N := 27) hx hb hts in_X9 hown hT.1 hP 0 rfl rfl 5 (by decide) (hts _ fl_RX9_66) (fun _ h9 => h9) rfl dX9_within_11 ?_
        refine lv_isub hx hb dX9_within_14 ?_
        refine lv_icmp_le (tgt := 33) hx hb dX9_within_15 (by decide) (fun c9 => ?_) (fun c9 => ?_)
        · exact X2 _ (by rw [← hv4, lp_X9_within_4, if_neg c8, if_pos c9]) ls (lv_sub hl [0, 1, 2] rfl)
        · refine lv_iload_n hx hb dX9_within_18 rfl (lv_at hl 2 rfl) ?_
          refine lv_aload_n hx hb dX9_within_19 rfl (lv_at hl 0 rfl) ?_
          refine va_get (D := D) (ci := 9) (v := .ref rsa) (C := RX9) (T := TX9) (N := 27) hx hb hts in_X9 hown hT.1 hP 0 rfl rfl 18 (by decide) (hts _ fl_RX9_28) (fun _ h9 => h9) rfl dX9_within_20 ?_
          refine lv_iload_n hx hb dX9_within_23 rfl (lv_at hl 3 rfl) ?_
          refine va_iald (D := D) hx hb hT.1 hP 7 0 rfl rfl (zxv c8 h60 (by decide)) dX9_within_24 ?_
          refine lv_iadd hx hb dX9_within_25 ?_
          refine lv_istore_n (lv' := [(2, .int (x2_4 + (sa x3_4.toNatClampNeg))), (0, .ref mo), (1, .int (nI q)), (3, .int x3_4)]) hx hb dX9_within_26 rfl hl (by decide) rfl (fun ls hl => ?_)
          refine lv_iinc (v := x3_4 + (-1)) (lv' := [(3, .int (x3_4 + (-1))), (2, .int (x2_4 + (sa x3_4.toNatClampNeg))), (0, .ref mo), (1, .int (nI q))]) hx hb dX9_within_27 hl (k := 3) rfl rfl (by decide) rfl (fun ls hl => ?_)
          refine lv_goto (tgt := 4) hx hb dX9_within_30 (by decide) ?_
          exact ih5 (x3_4 + (-1)) (x2_4 + (sa x3_4.toNatClampNeg)) (zms_dec c8 hm7) (zle_dec c8 h60) (by rw [← hv4, lp_X9_within_4, if_neg c8, if_neg c9]) ls (lv_sub hl [2, 3, 1, 0] rfl)
  exact L3 (q + 2) (nI q) 0 (by rw [zms_nI (by omega)]; omega) (nI_le (b := 60) hq (by decide)) rfl ls (lv_sub hl [2, 3, 1, 0] rfl)
def lp_X9_doubted_30 (pn : Nat) (dbt : Int32) (win : Int32) (pa : Nat → Int32) (sa : Nat → Int32) (k : Nat) : Nat → Nat → Int32 → Nat × Int32
  | 0, _, x1_30 => (0, x1_30)
  | fu + 1, j, x1_30 => if ((lp_X9_findSneezes_25 pn pa (pn + 1) 0 0 (lp_X9_findSneezes_4 62 0 sa)) k) ≤ nI j then (0, x1_30) else (if ((((lp_X9_within_4 win (lp_X9_findSneezes_25 pn pa (pn + 1) 0 0 (lp_X9_findSneezes_4 62 0 sa)) k (k + 2) (nI k) 0) - ((lp_X9_findSneezes_25 pn pa (pn + 1) 0 0 (lp_X9_findSneezes_4 62 0 sa)) k)) + (nI j)) + 1) ≤ dbt then lp_X9_doubted_30 pn dbt win pa sa k fu (j + 1) (x1_30 + 1) else (1, x1_30))
def lp_X9_doubted_8 (pn : Nat) (dbt : Int32) (win : Int32) (pa : Nat → Int32) (sa : Nat → Int32) : Nat → Nat → Int32 → Int32
  | 0, _, _ => 0
  | fu + 1, k, x1_8 => if 61 ≤ nI k then (-6) else (if (lp_X9_doubted_30 pn dbt win pa sa k (((lp_X9_findSneezes_25 pn pa (pn + 1) 0 0 (lp_X9_findSneezes_4 62 0 sa)) k).toNatClampNeg + 1) 0 x1_8).1 = 0 then lp_X9_doubted_8 pn dbt win pa sa fu (k + 1) ((lp_X9_doubted_30 pn dbt win pa sa k (((lp_X9_findSneezes_25 pn pa (pn + 1) 0 0 (lp_X9_findSneezes_4 62 0 sa)) k).toNatClampNeg + 1) 0 x1_8).2) else ((lp_X9_doubted_30 pn dbt win pa sa k (((lp_X9_findSneezes_25 pn pa (pn + 1) 0 0 (lp_X9_findSneezes_4 62 0 sa)) k).toNatClampNeg + 1) 0 x1_8).2))
abbrev rm_X9_doubted : Room := { frames := 1, cells := 0, slots := 0, locals := 23 }
set_option maxRecDepth 100000 in
set_option maxHeartbeats 4000000 in
theorem c_X9_doubted (l : Launch) (D : va_G) (cI cZ : ClassId) (mo rea rla rwe rst rsp rpa rsa rta rbe rfa rpl rke rik sn pn ka : Nat) (tu ga lk stp dbt win plc mnt lft abd iw : Int32) (ea la we mT mP pa sa ta be fa pq ke ik : Nat → Int32) (hpn : pn ≤ 60) : Met l yX9_doubted [.code yX9_doubted cX9_doubted 5 (some .int)] rm_X9_doubted (PcW D cI cZ [.ref mo] [(mo, .inr (9, [.int tu, .int ga, .int lk, .int stp, .int dbt, .int win, .ref rea, .ref rla, .ref rwe, .ref rst, .ref rsp, .int (nI sn), .ref rpa, .int (nI pn), .int plc, .int mnt, .int lft, .int abd, .ref rsa, .ref rta, .ref rbe, .ref rfa, .ref rpl, .ref rke, .ref rik, .int (nI ka), .int iw])), (rea, .inl (cI, 5, .inl ea)), (rla, .inl (cI, 5, .inl la)), (rwe, .inl (cI, 6, .inl we)), (rst, .inl (cI, 6, .inl mT)), (rsp, .inl (cI, 6, .inl mP)), (rpa, .inl (cI, 60, .inl pa)), (rsa, .inl (cI, 61, .inl sa)), (rta, .inl (cI, 12, .inl ta)), (rbe, .inl (cI, 12, .inl be)), (rfa, .inl (cI, 6, .inl fa)), (rpl, .inl (cI, 60, .inl pq)), (rke, .inl (cI, 100, .inl ke)), (rik, .inl (cZ, 2, .inl ik))]) (QcE D (S := Unit) (some (.int (lp_X9_doubted_8 pn dbt win pa sa 62 0 0))) (fun _ => True) (fun _ => [(mo, .inr (9, [.int tu, .int ga, .int lk, .int stp, .int dbt, .int win, .ref rea, .ref rla, .ref rwe, .ref rst, .ref rsp, .int (nI sn), .ref rpa, .int (nI pn), .int plc, .int mnt, .int lft, .int abd, .ref rsa, .ref rta, .ref rbe, .ref rfa, .ref rpl, .ref rke, .ref rik, .int (nI ka), .int iw])), (rea, .inl (cI, 5, .inl ea)), (rla, .inl (cI, 5, .inl la)), (rwe, .inl (cI, 6, .inl we)), (rst, .inl (cI, 6, .inl mT)), (rsp, .inl (cI, 6, .inl mP)), (rpa, .inl (cI, 60, .inl pa)), (rsa, .inl (cI, 61, .inl (lp_X9_findSneezes_25 pn pa (pn + 1) 0 0 (lp_X9_findSneezes_4 62 0 sa)))), (rta, .inl (cI, 12, .inl ta)), (rbe, .inl (cI, 12, .inl be)), (rfa, .inl (cI, 6, .inl fa)), (rpl, .inl (cI, 60, .inl pq)), (rke, .inl (cI, 100, .inl ke)), (rik, .inl (cZ, 2, .inl ik))]) (zA [(mo, .inr (9, [.int tu, .int ga, .int lk, .int stp, .int dbt, .int win, .ref rea, .ref rla, .ref rwe, .ref rst, .ref rsp, .int (nI sn), .ref rpa, .int (nI pn), .int plc, .int mnt, .int lft, .int abd, .ref rsa, .ref rta, .ref rbe, .ref rfa, .ref rpl, .ref rke, .ref rik, .int (nI ka), .int iw])), (rea, .inl (cI, 5, .inl ea)), (rla, .inl (cI, 5, .inl la)), (rwe, .inl (cI, 6, .inl we)), (rst, .inl (cI, 6, .inl mT)), (rsp, .inl (cI, 6, .inl mP)), (rpa, .inl (cI, 60, .inl pa)), (rsa, .inl (cI, 61, .inl sa)), (rta, .inl (cI, 12, .inl ta)), (rbe, .inl (cI, 12, .inl be)), (rfa, .inl (cI, 6, .inl fa)), (rpl, .inl (cI, 60, .inl pq)), (rke, .inl (cI, 100, .inl ke)), (rik, .inl (cZ, 2, .inl ik))])) 0 0 (zA [(mo, .inr (9, [.int tu, .int ga, .int lk, .int stp, .int dbt, .int win, .ref rea, .ref rla, .ref rwe, .ref rst, .ref rsp, .int (nI sn), .ref rpa, .int (nI pn), .int plc, .int mnt, .int lft, .int abd, .ref rsa, .ref rta, .ref rbe, .ref rfa, .ref rpl, .ref rke, .ref rik, .int (nI ka), .int iw])), (rea, .inl (cI, 5, .inl ea)), (rla, .inl (cI, 5, .inl la)), (rwe, .inl (cI, 6, .inl we)), (rst, .inl (cI, 6, .inl mT)), (rsp, .inl (cI, 6, .inl mP)), (rpa, .inl (cI, 60, .inl pa)), (rsa, .inl (cI, 61, .inl sa)), (rta, .inl (cI, 12, .inl ta)), (rbe, .inl (cI, 12, .inl be)), (rfa, .inl (cI, 6, .inl fa)), (rpl, .inl (cI, 60, .inl pq)), (rke, .inl (cI, 100, .inl ke)), (rik, .inl (cZ, 2, .inl ik))]) := by
  refine mtWi (by decide) (Nat.le_of_ble_eq_true rfl) (fun p e s m args below meth c Q A S hT hP hD hS hret ls hl => ?_)
  have S : CallFix p m c cX9_doubted 5 s args zt RX9 := S
  obtain ⟨hx, hb, hml, hown, hts⟩ := id S
  have hl : lv_has ls 5 [(0, .ref mo)] := hl
  refine lv_aload_n hx hb dX9_doubted_0 rfl (lv_at hl 0 rfl) ?_
  refine kEV (q0 := 0) (st1 := []) S hT hP hD hS (c_X9_findSneezes l D cI cZ mo rea rla rwe rst rsp rpa rsa rta rbe rfa rpl rke rik sn pn ka tu ga lk stp dbt win plc mnt lft abd iw ea la we mT mP pa sa ta be fa pq ke ik (by first | assumption | decide | omega)) rfl rfl mw_X9_findSneezes lk_RX9_147 ⟨rfl, rfl, (Nat.le_of_ble_eq_true rfl), (Nat.le_of_ble_eq_true rfl), (Nat.le_of_ble_eq_true rfl), (Nat.le_of_ble_eq_true rfl)⟩ [0, 1, 2, 3, 4, 5, 6, 7, 8, 9, 10, 11, 12, 13] [mo, rea, rla, rwe, rst, rsp, rpa, rsa, rta, rbe, rfa, rpl, rke, rik] (by decide) rfl rfl (fun _ => rfl) rfl rfl hl.1 (Nat.le_of_ble_eq_true rfl) dX9_doubted_1 (fun _ H locs _ hP hD hS => ?_)
  have hP : va_P D vwCl [(mo, .inr (9, [.int tu, .int ga, .int lk, .int stp, .int dbt, .int win, .ref rea, .ref rla, .ref rwe, .ref rst, .ref rsp, .int (nI sn), .ref rpa, .int (nI pn), .int plc, .int mnt, .int lft, .int abd, .ref rsa, .ref rta, .ref rbe, .ref rfa, .ref rpl, .ref rke, .ref rik, .int (nI ka), .int iw])), (rea, .inl (cI, 5, .inl ea)), (rla, .inl (cI, 5, .inl la)), (rwe, .inl (cI, 6, .inl we)), (rst, .inl (cI, 6, .inl mT)), (rsp, .inl (cI, 6, .inl mP)), (rpa, .inl (cI, 60, .inl pa)), (rsa, .inl (cI, 61, .inl (lp_X9_findSneezes_25 pn pa (pn + 1) 0 0 (lp_X9_findSneezes_4 62 0 sa)))), (rta, .inl (cI, 12, .inl ta)), (rbe, .inl (cI, 12, .inl be)), (rfa, .inl (cI, 6, .inl fa)), (rpl, .inl (cI, 60, .inl pq)), (rke, .inl (cI, 100, .inl ke)), (rik, .inl (cZ, 2, .inl ik))] H := hP
  have hD : va_D A [(mo, .inr (9, [.int tu, .int ga, .int lk, .int stp, .int dbt, .int win, .ref rea, .ref rla, .ref rwe, .ref rst, .ref rsp, .int (nI sn), .ref rpa, .int (nI pn), .int plc, .int mnt, .int lft, .int abd, .ref rsa, .ref rta, .ref rbe, .ref rfa, .ref rpl, .ref rke, .ref rik, .int (nI ka), .int iw])), (rea, .inl (cI, 5, .inl ea)), (rla, .inl (cI, 5, .inl la)), (rwe, .inl (cI, 6, .inl we)), (rst, .inl (cI, 6, .inl mT)), (rsp, .inl (cI, 6, .inl mP)), (rpa, .inl (cI, 60, .inl pa)), (rsa, .inl (cI, 61, .inl (lp_X9_findSneezes_25 pn pa (pn + 1) 0 0 (lp_X9_findSneezes_4 62 0 sa)))), (rta, .inl (cI, 12, .inl ta)), (rbe, .inl (cI, 12, .inl be)), (rfa, .inl (cI, 6, .inl fa)), (rpl, .inl (cI, 60, .inl pq)), (rke, .inl (cI, 100, .inl ke)), (rik, .inl (cZ, 2, .inl ik))] := hD
  refine lv_iconst (v := 0) hx hb dX9_doubted_4 (by decide) ?_
  refine lv_istore_n (lv' := [(1, .int 0), (0, .ref mo)]) hx hb dX9_doubted_5 rfl hl (by decide) rfl (fun ls hl => ?_)
  refine lv_iconst (v := 0) hx hb dX9_doubted_6 (by decide) ?_
  refine lv_istore_n (lv' := [(2, .int 0), (1, .int 0), (0, .ref mo)]) hx hb dX9_doubted_7 rfl hl (by decide) rfl (fun ls hl => ?_)
  have L1 : ∀ (n4 : Nat) (k : Nat) (x1_8 : Int32), 61 - k < n4 → (k ≤ 61) → lp_X9_doubted_8 pn dbt win pa sa n4 k x1_8 = lp_X9_doubted_8 pn dbt win pa sa 62 0 0 → ∀ (ls : Array Slot), lv_has ls 5 [(0, .ref mo), (1, .int x1_8), (2, .int (nI k))] → ∀ (H : Heap) (locs : List Loc), va_P D vwCl [(mo, .inr (9, [.int tu, .int ga, .int lk, .int stp, .int dbt, .int win, .ref rea, .ref rla, .ref rwe, .ref rst, .ref rsp, .int (nI sn), .ref rpa, .int (nI pn), .int plc, .int mnt, .int lft, .int abd, .ref rsa, .ref rta, .ref rbe, .ref rfa, .ref rpl, .ref rke, .ref rik, .int (nI ka), .int iw])), (rea, .inl (cI, 5, .inl ea)), (rla, .inl (cI, 5, .inl la)), (rwe, .inl (cI, 6, .inl we)), (rst, .inl (cI, 6, .inl mT)), (rsp, .inl (cI, 6, .inl mP)), (rpa, .inl (cI, 60, .inl pa)), (rsa, .inl (cI, 61, .inl (lp_X9_findSneezes_25 pn pa (pn + 1) 0 0 (lp_X9_findSneezes_4 62 0 sa)))), (rta, .inl (cI, 12, .inl ta)), (rbe, .inl (cI, 12, .inl be)), (rfa, .inl (cI, 6, .inl fa)), (rpl, .inl (cI, 60, .inl pq)), (rke, .inl (cI, 100, .inl ke)), (rik, .inl (cZ, 2, .inl ik))] H → va_D A [(mo, .inr (9, [.int tu, .int ga, .int lk, .int stp, .int dbt, .int win, .ref rea, .ref rla, .ref rwe, .ref rst, .ref rsp, .int (nI sn), .ref rpa, .int (nI pn), .int plc, .int mnt, .int lft, .int abd, .ref rsa, .ref rta, .ref rbe, .ref rfa, .ref rpl, .ref rke, .ref rik, .int (nI ka), .int iw])), (rea, .inl (cI, 5, .inl ea)), (rla, .inl (cI, 5, .inl la)), (rwe, .inl (cI, 6, .inl we)), (rst, .inl (cI, 6, .inl mT)), (rsp, .inl (cI, 6, .inl mP)), (rpa, .inl (cI, 60, .inl pa)), (rsa, .inl (cI, 61, .inl (lp_X9_findSneezes_25 pn pa (pn + 1) 0 0 (lp_X9_findSneezes_4 62 0 sa)))), (rta, .inl (cI, 12, .inl ta)), (rbe, .inl (cI, 12, .inl be)), (rfa, .inl (cI, 6, .inl fa)), (rpl, .inl (cI, 60, .inl pq)), (rke, .inl (cI, 100, .inl ke)), (rik, .inl (cZ, 2, .inl ik))] → va_S A s.heap H locs → W p l e rm_X9_doubted s m args below meth c H locs 0 0 Q (F0 m 8 ls []) := by
    intro n4
    induction n4 with
    | zero => intro k x1_8 hm; exact absurd hm (Nat.not_lt_zero _)
    | succ n4 ih3 =>
      intro k x1_8 hm5 hk hv2 ls hl H locs hP hD hS
      refine lv_iload_n hx hb dX9_doubted_8 rfl (lv_at hl 2 rfl) ?_
      refine lv_bipush (v := 61) hx hb dX9_doubted_9 (by decide) ?_
      refine lv_icmp_ge (tgt := 71) hx hb dX9_doubted_11 (by decide) (fun c6 => ?_) (fun c6 => ?_)
      · have nc6 := zNle (a := 61) (b := k) c6 (by omega) (by omega)
        refine lv_bipush (v := (-6)) hx hb dX9_doubted_71 (by decide) ?_
        exact hret _ _ _ H locs () dX9_doubted_73 (by rw [← hv2, lp_X9_doubted_8, if_pos c6]) trivial hP hS
      · have nc6 := zNnle (a := 61) (b := k) c6 (by omega) (by omega)
        refine lv_aload_n hx hb dX9_doubted_14 rfl (lv_at hl 0 rfl) ?_
        refine lv_iload_n hx hb dX9_doubted_15 rfl (lv_at hl 2 rfl) ?_
        refine kRV (q0 := 0) (st1 := [.int (lp_X9_within_4 win (lp_X9_findSneezes_25 pn pa (pn + 1) 0 0 (lp_X9_findSneezes_4 62 0 sa)) k (k + 2) (nI k) 0)]) S hT hP (c_X9_within l D cI cZ mo rea rla rwe rst rsp rpa rsa rta rbe rfa rpl rke rik sn pn ka tu ga lk stp dbt win plc mnt lft abd iw ea la we mT mP pa (lp_X9_findSneezes_25 pn pa (pn + 1) 0 0 (lp_X9_findSneezes_4 62 0 sa)) ta be fa pq ke ik k (by first | assumption | decide | omega)) rfl rfl mw_X9_within lk_RX9_150 ⟨rfl, rfl, (Nat.le_of_ble_eq_true rfl), (Nat.le_of_ble_eq_true rfl), (Nat.le_of_ble_eq_true rfl), (Nat.le_of_ble_eq_true rfl)⟩ [0, 1, 2, 3, 4, 5, 6, 7, 8, 9, 10, 11, 12, 13] rfl rfl rfl hl.1 (Nat.le_of_ble_eq_true rfl) dX9_doubted_16 ?_
        refine lv_aload_n hx hb dX9_doubted_19 rfl (lv_at hl 0 rfl) ?_
        refine va_get (D := D) (ci := 9) (v := .ref rsa) (C := RX9) (T := TX9) (N := 27) hx hb hts in_X9 hown hT.1 hP 0 rfl rfl 18 (by decide) (hts _ fl_RX9_28) (fun _ h9 => h9) rfl dX9_doubted_20 ?_
        refine lv_iload_n hx hb dX9_doubted_23 rfl (lv_at hl 2 rfl) ?_
        refine zald (D := D) (k := k) hx hb hT.1 hP 7 0 rfl rfl (by omega) (by omega) dX9_doubted_24 ?_
        refine lv_isub hx hb dX9_doubted_25 ?_
        refine lv_istore_n (lv' := [(3, .int ((lp_X9_within_4 win (lp_X9_findSneezes_25 pn pa (pn + 1) 0 0 (lp_X9_findSneezes_4 62 0 sa)) k (k + 2) (nI k) 0) - ((lp_X9_findSneezes_25 pn pa (pn + 1) 0 0 (lp_X9_findSneezes_4 62 0 sa)) k))), (0, .ref mo), (1, .int x1_8), (2, .int (nI k))]) hx hb dX9_doubted_26 rfl hl (by decide) rfl (fun ls hl => ?_)
        refine lv_iconst (v := 0) hx hb dX9_doubted_27 (by decide) ?_
        refine lv_istore (lv' := [(4, .int 0), (3, .int ((lp_X9_within_4 win (lp_X9_findSneezes_25 pn pa (pn + 1) 0 0 (lp_X9_findSneezes_4 62 0 sa)) k (k + 2) (nI k) 0) - ((lp_X9_findSneezes_25 pn pa (pn + 1) 0 0 (lp_X9_findSneezes_4 62 0 sa)) k))), (0, .ref mo), (1, .int x1_8), (2, .int (nI k))]) hx hb dX9_doubted_28 hl (by decide) rfl (fun ls hl => ?_)
        have X8 : ∀ (y7 : Int32), (lp_X9_doubted_30 pn dbt win pa sa k (((lp_X9_findSneezes_25 pn pa (pn + 1) 0 0 (lp_X9_findSneezes_4 62 0 sa)) k).toNatClampNeg + 1) 0 x1_8).1 = 0 → ((lp_X9_doubted_30 pn dbt win pa sa k (((lp_X9_findSneezes_25 pn pa (pn + 1) 0 0 (lp_X9_findSneezes_4 62 0 sa)) k).toNatClampNeg + 1) 0 x1_8).2) = y7 → ∀ (ls : Array Slot), lv_has ls 5 [(0, .ref mo), (1, .int y7), (2, .int (nI k)), (3, .int ((lp_X9_within_4 win (lp_X9_findSneezes_25 pn pa (pn + 1) 0 0 (lp_X9_findSneezes_4 62 0 sa)) k (k + 2) (nI k) 0) - ((lp_X9_findSneezes_25 pn pa (pn + 1) 0 0 (lp_X9_findSneezes_4 62 0 sa)) k)))] → ∀ (H : Heap) (locs : List Loc), va_P D vwCl [(mo, .inr (9, [.int tu, .int ga, .int lk, .int stp, .int dbt, .int win, .ref rea, .ref rla, .ref rwe, .ref rst, .ref rsp, .int (nI sn), .ref rpa, .int (nI pn), .int plc, .int mnt, .int lft, .int abd, .ref rsa, .ref rta, .ref rbe, .ref rfa, .ref rpl, .ref rke, .ref rik, .int (nI ka), .int iw])), (rea, .inl (cI, 5, .inl ea)), (rla, .inl (cI, 5, .inl la)), (rwe, .inl (cI, 6, .inl we)), (rst, .inl (cI, 6, .inl mT)), (rsp, .inl (cI, 6, .inl mP)), (rpa, .inl (cI, 60, .inl pa)), (rsa, .inl (cI, 61, .inl (lp_X9_findSneezes_25 pn pa (pn + 1) 0 0 (lp_X9_findSneezes_4 62 0 sa)))), (rta, .inl (cI, 12, .inl ta)), (rbe, .inl (cI, 12, .inl be)), (rfa, .inl (cI, 6, .inl fa)), (rpl, .inl (cI, 60, .inl pq)), (rke, .inl (cI, 100, .inl ke)), (rik, .inl (cZ, 2, .inl ik))] H → va_D A [(mo, .inr (9, [.int tu, .int ga, .int lk, .int stp, .int dbt, .int win, .ref rea, .ref rla, .ref rwe, .ref rst, .ref rsp, .int (nI sn), .ref rpa, .int (nI pn), .int plc, .int mnt, .int lft, .int abd, .ref rsa, .ref rta, .ref rbe, .ref rfa, .ref rpl, .ref rke, .ref rik, .int (nI ka), .int iw])), (rea, .inl (cI, 5, .inl ea)), (rla, .inl (cI, 5, .inl la)), (rwe, .inl (cI, 6, .inl we)), (rst, .inl (cI, 6, .inl mT)), (rsp, .inl (cI, 6, .inl mP)), (rpa, .inl (cI, 60, .inl pa)), (rsa, .inl (cI, 61, .inl (lp_X9_findSneezes_25 pn pa (pn + 1) 0 0 (lp_X9_findSneezes_4 62 0 sa)))), (rta, .inl (cI, 12, .inl ta)), (rbe, .inl (cI, 12, .inl be)), (rfa, .inl (cI, 6, .inl fa)), (rpl, .inl (cI, 60, .inl pq)), (rke, .inl (cI, 100, .inl ke)), (rik, .inl (cZ, 2, .inl ik))] → va_S A s.heap H locs → W p l e rm_X9_doubted s m args below meth c H locs 0 0 Q (F0 m 65 ls []) := by
          intro y7 mh9 ey7 ls hl H locs hP hD hS
          subst ey7
          refine lv_iinc (v := nI (k + 1)) (lv' := [(2, .int (nI (k + 1))), (0, .ref mo), (1, .int ((lp_X9_doubted_30 pn dbt win pa sa k (((lp_X9_findSneezes_25 pn pa (pn + 1) 0 0 (lp_X9_findSneezes_4 62 0 sa)) k).toNatClampNeg + 1) 0 x1_8).2)), (3, .int ((lp_X9_within_4 win (lp_X9_findSneezes_25 pn pa (pn + 1) 0 0 (lp_X9_findSneezes_4 62 0 sa)) k (k + 2) (nI k) 0) - ((lp_X9_findSneezes_25 pn pa (pn + 1) 0 0 (lp_X9_findSneezes_4 62 0 sa)) k)))]) hx hb dX9_doubted_65 hl (k := 2) rfl (nI_1 k) (by decide) rfl (fun ls hl => ?_)
          refine lv_goto (tgt := 8) hx hb dX9_doubted_68 (by decide) ?_
          exact ih3 (k + 1) ((lp_X9_doubted_30 pn dbt win pa sa k (((lp_X9_findSneezes_25 pn pa (pn + 1) 0 0 (lp_X9_findSneezes_4 62 0 sa)) k).toNatClampNeg + 1) 0 x1_8).2) (by omega) (by omega) (by rw [← hv2, lp_X9_doubted_8, if_neg c6, if_pos mh9]) ls (lv_sub hl [1, 2, 0] rfl) H locs hP hD hS
        have X11 : ∀ (y10 : Int32), ¬ (lp_X9_doubted_30 pn dbt win pa sa k (((lp_X9_findSneezes_25 pn pa (pn + 1) 0 0 (lp_X9_findSneezes_4 62 0 sa)) k).toNatClampNeg + 1) 0 x1_8).1 = 0 → ((lp_X9_doubted_30 pn dbt win pa sa k (((lp_X9_findSneezes_25 pn pa (pn + 1) 0 0 (lp_X9_findSneezes_4 62 0 sa)) k).toNatClampNeg + 1) 0 x1_8).2) = y10 → ∀ (ls : Array Slot), lv_has ls 5 [(0, .ref mo), (1, .int y10), (2, .int (nI k)), (3, .int ((lp_X9_within_4 win (lp_X9_findSneezes_25 pn pa (pn + 1) 0 0 (lp_X9_findSneezes_4 62 0 sa)) k (k + 2) (nI k) 0) - ((lp_X9_findSneezes_25 pn pa (pn + 1) 0 0 (lp_X9_findSneezes_4 62 0 sa)) k)))] → ∀ (H : Heap) (locs : List Loc), va_P D vwCl [(mo, .inr (9, [.int tu, .int ga, .int lk, .int stp, .int dbt, .int win, .ref rea, .ref rla, .ref rwe, .ref rst, .ref rsp, .int (nI sn), .ref rpa, .int (nI pn), .int plc, .int mnt, .int lft, .int abd, .ref rsa, .ref rta, .ref rbe, .ref rfa, .ref rpl, .ref rke, .ref rik, .int (nI ka), .int iw])), (rea, .inl (cI, 5, .inl ea)), (rla, .inl (cI, 5, .inl la)), (rwe, .inl (cI, 6, .inl we)), (rst, .inl (cI, 6, .inl mT)), (rsp, .inl (cI, 6, .inl mP)), (rpa, .inl (cI, 60, .inl pa)), (rsa, .inl (cI, 61, .inl (lp_X9_findSneezes_25 pn pa (pn + 1) 0 0 (lp_X9_findSneezes_4 62 0 sa)))), (rta, .inl (cI, 12, .inl ta)), (rbe, .inl (cI, 12, .inl be)), (rfa, .inl (cI, 6, .inl fa)), (rpl, .inl (cI, 60, .inl pq)), (rke, .inl (cI, 100, .inl ke)), (rik, .inl (cZ, 2, .inl ik))] H → va_D A [(mo, .inr (9, [.int tu, .int ga, .int lk, .int stp, .int dbt, .int win, .ref rea, .ref rla, .ref rwe, .ref rst, .ref rsp, .int (nI sn), .ref rpa, .int (nI pn), .int plc, .int mnt, .int lft, .int abd, .ref rsa, .ref rta, .ref rbe, .ref rfa, .ref rpl, .ref rke, .ref rik, .int (nI ka), .int iw])), (rea, .inl (cI, 5, .inl ea)), (rla, .inl (cI, 5, .inl la)), (rwe, .inl (cI, 6, .inl we)), (rst, .inl (cI, 6, .inl mT)), (rsp, .inl (cI, 6, .inl mP)), (rpa, .inl (cI, 60, .inl pa)), (rsa, .inl (cI, 61, .inl (lp_X9_findSneezes_25 pn pa (pn + 1) 0 0 (lp_X9_findSneezes_4 62 0 sa)))), (rta, .inl (cI, 12, .inl ta)), (rbe, .inl (cI, 12, .inl be)), (rfa, .inl (cI, 6, .inl fa)), (rpl, .inl (cI, 60, .inl pq)), (rke, .inl (cI, 100, .inl ke)), (rik, .inl (cZ, 2, .inl ik))] → va_S A s.heap H locs → W p l e rm_X9_doubted s m args below meth c H locs 0 0 Q (F0 m 54 ls []) := by
          intro y10 mh12 ey10 ls hl H locs hP hD hS
          subst ey10
          refine lv_iload_n hx hb dX9_doubted_54 rfl (lv_at hl 1 rfl) ?_
          exact hret _ _ _ H locs () dX9_doubted_55 (by rw [← hv2, lp_X9_doubted_8, if_neg c6, if_neg mh12]) trivial hP hS
        have L13 : ∀ (n16 : Nat) (j : Nat) (x1_30 : Int32), ((lp_X9_findSneezes_25 pn pa (pn + 1) 0 0 (lp_X9_findSneezes_4 62 0 sa)) k).toNatClampNeg - j < n16 → (j ≤ ((lp_X9_findSneezes_25 pn pa (pn + 1) 0 0 (lp_X9_findSneezes_4 62 0 sa)) k).toNatClampNeg) → lp_X9_doubted_30 pn dbt win pa sa k n16 j x1_30 = lp_X9_doubted_30 pn dbt win pa sa k (((lp_X9_findSneezes_25 pn pa (pn + 1) 0 0 (lp_X9_findSneezes_4 62 0 sa)) k).toNatClampNeg + 1) 0 x1_8 → ∀ (ls : Array Slot), lv_has ls 5 [(0, .ref mo), (1, .int x1_30), (2, .int (nI k)), (3, .int ((lp_X9_within_4 win (lp_X9_findSneezes_25 pn pa (pn + 1) 0 0 (lp_X9_findSneezes_4 62 0 sa)) k (k + 2) (nI k) 0) - ((lp_X9_findSneezes_25 pn pa (pn + 1) 0 0 (lp_X9_findSneezes_4 62 0 sa)) k))), (4, .int (nI j))] → ∀ (H : Heap) (locs : List Loc), va_P D vwCl [(mo, .inr (9, [.int tu, .int ga, .int lk, .int stp, .int dbt, .int win, .ref rea, .ref rla, .ref rwe, .ref rst, .ref rsp, .int (nI sn), .ref rpa, .int (nI pn), .int plc, .int mnt, .int lft, .int abd, .ref rsa, .ref rta, .ref rbe, .ref rfa, .ref rpl, .ref rke, .ref rik, .int (nI ka), .int iw])), (rea, .inl (cI, 5, .inl ea)), (rla, .inl (cI, 5, .inl la)), (rwe, .inl (cI, 6, .inl we)), (rst, .inl (cI, 6, .inl mT)), (rsp, .inl (cI, 6, .inl mP)), (rpa, .inl (cI, 60, .inl pa)), (rsa, .inl (cI, 61, .inl (lp_X9_findSneezes_25 pn pa (pn + 1) 0 0 (lp_X9_findSneezes_4 62 0 sa)))), (rta, .inl (cI, 12, .inl ta)), (rbe, .inl (cI, 12, .inl be)), (rfa, .inl (cI, 6, .inl fa)), (rpl, .inl (cI, 60, .inl pq)), (rke, .inl (cI, 100, .inl ke)), (rik, .inl (cZ, 2, .inl ik))] H → va_D A [(mo, .inr (9, [.int tu, .int ga, .int lk, .int stp, .int dbt, .int win, .ref rea, .ref rla, .ref rwe, .ref rst, .ref rsp, .int (nI sn), .ref rpa, .int (nI pn), .int plc, .int mnt, .int lft, .int abd, .ref rsa, .ref rta, .ref rbe, .ref rfa, .ref rpl, .ref rke, .ref rik, .int (nI ka), .int iw])), (rea, .inl (cI, 5, .inl ea)), (rla, .inl (cI, 5, .inl la)), (rwe, .inl (cI, 6, .inl we)), (rst, .inl (cI, 6, .inl mT)), (rsp, .inl (cI, 6, .inl mP)), (rpa, .inl (cI, 60, .inl pa)), (rsa, .inl (cI, 61, .inl (lp_X9_findSneezes_25 pn pa (pn + 1) 0 0 (lp_X9_findSneezes_4 62 0 sa)))), (rta, .inl (cI, 12, .inl ta)), (rbe, .inl (cI, 12, .inl be)), (rfa, .inl (cI, 6, .inl fa)), (rpl, .inl (cI, 60, .inl pq)), (rke, .inl (cI, 100, .inl ke)), (rik, .inl (cZ, 2, .inl ik))] → va_S A s.heap H locs → W p l e rm_X9_doubted s m args below meth c H locs 0 0 Q (F0 m 30 ls []) := by
          intro n16
          induction n16 with
          | zero => intro j x1_30 hm; exact absurd hm (Nat.not_lt_zero _)
          | succ n16 ih15 =>
            intro j x1_30 hm17 hj hv14 ls hl H locs hP hD hS
            refine lv_iload hx hb dX9_doubted_30 (lv_at hl 4 rfl) ?_
            refine lv_aload_n hx hb dX9_doubted_32 rfl (lv_at hl 0 rfl) ?_
            refine va_get (D := D) (ci := 9) (v := .ref rsa) (C := RX9) (T := TX9) (N := 27) hx hb hts in_X9 hown hT.1 hP 0 rfl rfl 18 (by decide) (hts _ fl_RX9_28) (fun _ h9 => h9) rfl dX9_doubted_33 ?_
            refine lv_iload_n hx hb dX9_doubted_36 rfl (lv_at hl 2 rfl) ?_
            refine zald (D := D) (k := k) hx hb hT.1 hP 7 0 rfl rfl (by omega) (by omega) dX9_doubted_37 ?_
            refine lv_icmp_ge (tgt := 65) hx hb dX9_doubted_38 (by decide) (fun c18 => ?_) (fun c18 => ?_)
            · exact X8 _ (by rw [← hv14, lp_X9_doubted_30, if_pos c18]) (by rw [← hv14, lp_X9_doubted_30, if_pos c18]) ls (lv_sub hl [0, 1, 2, 3] rfl) H locs hP hD hS
            · refine lv_iload_n hx hb dX9_doubted_41 rfl (lv_at hl 3 rfl) ?_
              refine lv_iload hx hb dX9_doubted_42 (lv_at hl 4 rfl) ?_
              refine lv_iadd hx hb dX9_doubted_44 ?_
              refine lv_iconst (v := 1) hx hb dX9_doubted_45 (by decide) ?_
              refine lv_iadd hx hb dX9_doubted_46 ?_
              refine lv_aload_n hx hb dX9_doubted_47 rfl (lv_at hl 0 rfl) ?_
              refine va_get (D := D) (ci := 9) (v := .int dbt) (C := RX9) (T := TX9) (N := 27) hx hb hts in_X9 hown hT.1 hP 0 rfl rfl 4 (by decide) (hts _ fl_RX9_63) (fun _ h9 => h9) rfl dX9_doubted_48 ?_
              refine lv_icmp_le (tgt := 56) hx hb dX9_doubted_51 (by decide) (fun c19 => ?_) (fun c19 => ?_)
              · refine lv_iinc (v := x1_30 + 1) (lv' := [(1, .int (x1_30 + 1)), (0, .ref mo), (2, .int (nI k)), (3, .int ((lp_X9_within_4 win (lp_X9_findSneezes_25 pn pa (pn + 1) 0 0 (lp_X9_findSneezes_4 62 0 sa)) k (k + 2) (nI k) 0) - ((lp_X9_findSneezes_25 pn pa (pn + 1) 0 0 (lp_X9_findSneezes_4 62 0 sa)) k))), (4, .int (nI j))]) hx hb dX9_doubted_56 hl (k := 1) rfl rfl (by decide) rfl (fun ls hl => ?_)
                refine lv_iinc (v := nI (j + 1)) (lv' := [(4, .int (nI (j + 1))), (1, .int (x1_30 + 1)), (0, .ref mo), (2, .int (nI k)), (3, .int ((lp_X9_within_4 win (lp_X9_findSneezes_25 pn pa (pn + 1) 0 0 (lp_X9_findSneezes_4 62 0 sa)) k (k + 2) (nI k) 0) - ((lp_X9_findSneezes_25 pn pa (pn + 1) 0 0 (lp_X9_findSneezes_4 62 0 sa)) k)))]) hx hb dX9_doubted_59 hl (k := 4) rfl (nI_1 j) (by decide) rfl (fun ls hl => ?_)
                refine lv_goto (tgt := 30) hx hb dX9_doubted_62 (by decide) ?_
                exact ih15 (j + 1) (x1_30 + 1) (by have := ztlt c18 (Nat.lt_of_le_of_lt hj (ztn31 _)); omega) (ztlt c18 (Nat.lt_of_le_of_lt hj (ztn31 _))) (by rw [← hv14, lp_X9_doubted_30, if_neg c18, if_pos c19]) ls (lv_sub hl [2, 1, 3, 4, 0] rfl) H locs hP hD hS
              · exact X11 _ (by rw [← hv14, lp_X9_doubted_30, if_neg c18, if_neg c19]; exact Nat.one_ne_zero) (by rw [← hv14, lp_X9_doubted_30, if_neg c18, if_neg c19]) ls (lv_sub hl [0, 1, 2, 3] rfl) H locs hP hD hS
        exact L13 (((lp_X9_findSneezes_25 pn pa (pn + 1) 0 0 (lp_X9_findSneezes_4 62 0 sa)) k).toNatClampNeg + 1) 0 x1_8 (by omega) (by omega) rfl ls (lv_sub hl [2, 3, 4, 1, 0] rfl) H locs hP hD hS
  exact L1 62 0 0 (by omega) (by omega) rfl ls (lv_sub hl [2, 1, 0] rfl) H locs hP hD hS
def lp_X9_isDoubted_4 (dbt : Int32) (win : Int32) (sa : Nat → Int32) : Nat → Nat → Int32 → Int32
  | 0, _, x1_4 => x1_4
  | fu + 1, k, x1_4 => if 61 ≤ nI k then x1_4 else (if x1_4 = 0 then (if sa k ≤ 0 then lp_X9_isDoubted_4 dbt win sa fu (k + 1) 0 else (if (lp_X9_within_4 win sa k (k + 2) (nI k) 0) ≤ dbt then lp_X9_isDoubted_4 dbt win sa fu (k + 1) 0 else lp_X9_isDoubted_4 dbt win sa fu (k + 1) 1)) else lp_X9_isDoubted_4 dbt win sa fu (k + 1) 1)
theorem zisd_01 (dbt win : Int32) (sa : Nat → Int32) : ∀ q k x, x = 0 ∨ x = 1 → lp_X9_isDoubted_4 dbt win sa q k x = 0 ∨ lp_X9_isDoubted_4 dbt win sa q k x = 1 := by
  intro q
  induction q with
  | zero => intro k x h; exact h
  | succ q ih =>
    intro k x h
    rw [lp_X9_isDoubted_4]
    split
    · exact h
    · (repeat' split) <;> first | exact ih _ _ (Or.inl rfl) | exact ih _ _ (Or.inr rfl)
abbrev rm_X9_isDoubted : Room := { frames := 1, cells := 0, slots := 0, locals := 23 }
set_option maxRecDepth 100000 in
set_option maxHeartbeats 4000000 in
theorem c_X9_isDoubted (l : Launch) (D : va_G) (cI cZ : ClassId) (mo rea rla rwe rst rsp rpa rsa rta rbe rfa rpl rke rik sn pn ka : Nat) (tu ga lk stp dbt win plc mnt lft abd iw : Int32) (ea la we mT mP pa sa ta be fa pq ke ik : Nat → Int32) : Met l yX9_isDoubted [.code yX9_isDoubted cX9_isDoubted 3 (some .boolean)] rm_X9_isDoubted (PcR D cI cZ [.ref mo] [(mo, .inr (9, [.int tu, .int ga, .int lk, .int stp, .int dbt, .int win, .ref rea, .ref rla, .ref rwe, .ref rst, .ref rsp, .int (nI sn), .ref rpa, .int (nI pn), .int plc, .int mnt, .int lft, .int abd, .ref rsa, .ref rta, .ref rbe, .ref rfa, .ref rpl, .ref rke, .ref rik, .int (nI ka), .int iw])), (rea, .inl (cI, 5, .inl ea)), (rla, .inl (cI, 5, .inl la)), (rwe, .inl (cI, 6, .inl we)), (rst, .inl (cI, 6, .inl mT)), (rsp, .inl (cI, 6, .inl mP)), (rpa, .inl (cI, 60, .inl pa)), (rsa, .inl (cI, 61, .inl sa)), (rta, .inl (cI, 12, .inl ta)), (rbe, .inl (cI, 12, .inl be)), (rfa, .inl (cI, 6, .inl fa)), (rpl, .inl (cI, 60, .inl pq)), (rke, .inl (cI, 100, .inl ke)), (rik, .inl (cZ, 2, .inl ik))]) (QcR (some (.int (lp_X9_isDoubted_4 dbt win sa 62 0 0)))) 0 0 zN := by
  refine mtRz (by exact zz01 (zisd_01 dbt win sa 62 0 0 (Or.inl rfl))) (by decide) (Nat.le_of_ble_eq_true rfl) (fun p e s m args below meth c Q S hT hP hret ls hl => ?_)
  have S : CallFix p m c cX9_isDoubted 3 s args zt RX9 := S
  obtain ⟨hx, hb, hml, hown, hts⟩ := id S
  have hl : lv_has ls 3 [(0, .ref mo)] := hl
  refine lv_iconst (v := 0) hx hb dX9_isDoubted_0 (by decide) ?_
  refine lv_istore_n (lv' := [(1, .int 0), (0, .ref mo)]) hx hb dX9_isDoubted_1 rfl hl (by decide) rfl (fun ls hl => ?_)
  refine lv_iconst (v := 0) hx hb dX9_isDoubted_2 (by decide) ?_
  refine lv_istore_n (lv' := [(2, .int 0), (1, .int 0), (0, .ref mo)]) hx hb dX9_isDoubted_3 rfl hl (by decide) rfl (fun ls hl => ?_)
  have X2 : ∀ (y1 : Int32), (lp_X9_isDoubted_4 dbt win sa 62 0 0) = y1 → ∀ (ls : Array Slot), lv_has ls 3 [(0, .ref mo), (1, .int y1)] → W p l e rm_X9_isDoubted s m args below meth c s.heap [] 0 0 Q (F0 m 47 ls []) := by
    intro y1 ey1 ls hl
    subst ey1
    refine lv_iload_n hx hb dX9_isDoubted_47 rfl (lv_at hl 1 rfl) ?_
    exact hret _ _ _ dX9_isDoubted_48 rfl
  have L3 : ∀ (n6 : Nat) (k : Nat) (x1_4 : Int32), 61 - k < n6 → (k ≤ 61) → lp_X9_isDoubted_4 dbt win sa n6 k x1_4 = lp_X9_isDoubted_4 dbt win sa 62 0 0 → ∀ (ls : Array Slot), lv_has ls 3 [(0, .ref mo), (1, .int x1_4), (2, .int (nI k))] → W p l e rm_X9_isDoubted s m args below meth c s.heap [] 0 0 Q (F0 m 4 ls []) := by
    intro n6
    induction n6 with
    | zero => intro k x1_4 hm; exact absurd hm (Nat.not_lt_zero _)
    | succ n6 ih5 =>
      intro k x1_4 hm7 hk hv4 ls hl
      refine lv_iload_n hx hb dX9_isDoubted_4 rfl (lv_at hl 2 rfl) ?_
      refine lv_bipush (v := 61) hx hb dX9_isDoubted_5 (by decide) ?_
      refine lv_icmp_ge (tgt := 47) hx hb dX9_isDoubted_7 (by decide) (fun c8 => ?_) (fun c8 => ?_)
      · have nc8 := zNle (a := 61) (b := k) c8 (by omega) (by omega)
        exact X2 _ (by rw [← hv4, lp_X9_isDoubted_4, if_pos c8]) ls (lv_sub hl [0, 1] rfl)
      · have nc8 := zNnle (a := 61) (b := k) c8 (by omega) (by omega)
        refine lv_iload_n hx hb dX9_isDoubted_10 rfl (lv_at hl 1 rfl) ?_
        refine lv_if_ne (tgt := 35) hx hb dX9_isDoubted_11 (by decide) (fun c9 => ?_) (fun c9 => ?_)
        · refine lv_iconst (v := 1) hx hb dX9_isDoubted_35 (by decide) ?_
          refine lv_goto (tgt := 40) hx hb dX9_isDoubted_36 (by decide) ?_
          refine lv_istore_n (lv' := [(1, .int 1), (0, .ref mo), (2, .int (nI k))]) hx hb dX9_isDoubted_40 rfl hl (by decide) rfl (fun ls hl => ?_)
          refine lv_iinc (v := nI (k + 1)) (lv' := [(2, .int (nI (k + 1))), (1, .int 1), (0, .ref mo)]) hx hb dX9_isDoubted_41 hl (k := 2) rfl (nI_1 k) (by decide) rfl (fun ls hl => ?_)
          refine lv_goto (tgt := 4) hx hb dX9_isDoubted_44 (by decide) ?_
          exact ih5 (k + 1) 1 (by omega) (by omega) (by rw [← hv4, lp_X9_isDoubted_4, if_neg c8, if_neg c9]) ls (lv_sub hl [2, 1, 0] rfl)
        · refine lv_aload_n hx hb dX9_isDoubted_14 rfl (lv_at hl 0 rfl) ?_
          refine va_get (D := D) (ci := 9) (v := .ref rsa) (C := RX9) (T := TX9) (N := 27) hx hb hts in_X9 hown hT.1 hP 0 rfl rfl 18 (by decide) (hts _ fl_RX9_28) (fun _ h9 => h9) rfl dX9_isDoubted_15 ?_
          refine lv_iload_n hx hb dX9_isDoubted_18 rfl (lv_at hl 2 rfl) ?_
          refine zald (D := D) (k := k) hx hb hT.1 hP 7 0 rfl rfl (by omega) (by omega) dX9_isDoubted_19 ?_
          refine lv_if_le (tgt := 39) hx hb dX9_isDoubted_20 (by decide) (fun c10 => ?_) (fun c10 => ?_)
          · refine lv_iconst (v := 0) hx hb dX9_isDoubted_39 (by decide) ?_
            refine lv_istore_n (lv' := [(1, .int 0), (0, .ref mo), (2, .int (nI k))]) hx hb dX9_isDoubted_40 rfl hl (by decide) rfl (fun ls hl => ?_)
            refine lv_iinc (v := nI (k + 1)) (lv' := [(2, .int (nI (k + 1))), (1, .int 0), (0, .ref mo)]) hx hb dX9_isDoubted_41 hl (k := 2) rfl (nI_1 k) (by decide) rfl (fun ls hl => ?_)
            refine lv_goto (tgt := 4) hx hb dX9_isDoubted_44 (by decide) ?_
            exact ih5 (k + 1) 0 (by omega) (by omega) (by rw [← hv4, lp_X9_isDoubted_4, if_neg c8, if_pos c9, if_pos c10]) ls (lv_sub hl [2, 1, 0] rfl)
          · refine lv_aload_n hx hb dX9_isDoubted_23 rfl (lv_at hl 0 rfl) ?_
            refine lv_iload_n hx hb dX9_isDoubted_24 rfl (lv_at hl 2 rfl) ?_
            refine kRV (q0 := 0) (st1 := [.int (lp_X9_within_4 win sa k (k + 2) (nI k) 0)]) S hT hP (c_X9_within l D cI cZ mo rea rla rwe rst rsp rpa rsa rta rbe rfa rpl rke rik sn pn ka tu ga lk stp dbt win plc mnt lft abd iw ea la we mT mP pa sa ta be fa pq ke ik k (by first | assumption | decide | omega)) rfl rfl mw_X9_within lk_RX9_150 ⟨rfl, rfl, (Nat.le_of_ble_eq_true rfl), (Nat.le_of_ble_eq_true rfl), (Nat.le_of_ble_eq_true rfl), (Nat.le_of_ble_eq_true rfl)⟩ [0, 1, 2, 3, 4, 5, 6, 7, 8, 9, 10, 11, 12, 13] rfl rfl rfl hl.1 (Nat.le_of_ble_eq_true rfl) dX9_isDoubted_25 ?_
            refine lv_aload_n hx hb dX9_isDoubted_28 rfl (lv_at hl 0 rfl) ?_
            refine va_get (D := D) (ci := 9) (v := .int dbt) (C := RX9) (T := TX9) (N := 27) hx hb hts in_X9 hown hT.1 hP 0 rfl rfl 4 (by decide) (hts _ fl_RX9_63) (fun _ h9 => h9) rfl dX9_isDoubted_29 ?_
            refine lv_icmp_le (tgt := 39) hx hb dX9_isDoubted_32 (by decide) (fun c11 => ?_) (fun c11 => ?_)
            · refine lv_iconst (v := 0) hx hb dX9_isDoubted_39 (by decide) ?_
              refine lv_istore_n (lv' := [(1, .int 0), (0, .ref mo), (2, .int (nI k))]) hx hb dX9_isDoubted_40 rfl hl (by decide) rfl (fun ls hl => ?_)
              refine lv_iinc (v := nI (k + 1)) (lv' := [(2, .int (nI (k + 1))), (1, .int 0), (0, .ref mo)]) hx hb dX9_isDoubted_41 hl (k := 2) rfl (nI_1 k) (by decide) rfl (fun ls hl => ?_)
              refine lv_goto (tgt := 4) hx hb dX9_isDoubted_44 (by decide) ?_
              exact ih5 (k + 1) 0 (by omega) (by omega) (by rw [← hv4, lp_X9_isDoubted_4, if_neg c8, if_pos c9, if_neg c10, if_pos c11]) ls (lv_sub hl [2, 1, 0] rfl)
            · refine lv_iconst (v := 1) hx hb dX9_isDoubted_35 (by decide) ?_
              refine lv_goto (tgt := 40) hx hb dX9_isDoubted_36 (by decide) ?_
              refine lv_istore_n (lv' := [(1, .int 1), (0, .ref mo), (2, .int (nI k))]) hx hb dX9_isDoubted_40 rfl hl (by decide) rfl (fun ls hl => ?_)
              refine lv_iinc (v := nI (k + 1)) (lv' := [(2, .int (nI (k + 1))), (1, .int 1), (0, .ref mo)]) hx hb dX9_isDoubted_41 hl (k := 2) rfl (nI_1 k) (by decide) rfl (fun ls hl => ?_)
              refine lv_goto (tgt := 4) hx hb dX9_isDoubted_44 (by decide) ?_
              exact ih5 (k + 1) 1 (by omega) (by omega) (by rw [← hv4, lp_X9_isDoubted_4, if_neg c8, if_pos c9, if_neg c10, if_neg c11]) ls (lv_sub hl [2, 1, 0] rfl)
  exact L3 62 0 0 (by omega) (by omega) rfl ls (lv_sub hl [2, 1, 0] rfl)
def lp_X9_ones_4 : Nat → Int32 → Int32 → Int32
  | 0, _, x2_4 => x2_4
  | fu + 1, x3_4, x2_4 => if x3_4 = 0 then x2_4 else lp_X9_ones_4 fu (x3_4 &&& (x3_4 - 1)) (x2_4 + 1)
abbrev rm_X9_ones : Room := { frames := 0, cells := 0, slots := 0, locals := 0 }
set_option maxRecDepth 100000 in
set_option maxHeartbeats 4000000 in
theorem c_X9_ones (l : Launch) (D : va_G) (cI cZ : ClassId) (mo rea rla rwe rst rsp rpa rsa rta rbe rfa rpl rke rik sn pn ka : Nat) (tu ga lk stp dbt win plc mnt lft abd iw : Int32) (ea la we mT mP pa sa ta be fa pq ke ik : Nat → Int32) (bits : Int32) : Met l yX9_ones [.code yX9_ones cX9_ones 4 (some .int)] rm_X9_ones (PcR D cI cZ [.ref mo, .int bits] [(mo, .inr (9, [.int tu, .int ga, .int lk, .int stp, .int dbt, .int win, .ref rea, .ref rla, .ref rwe, .ref rst, .ref rsp, .int (nI sn), .ref rpa, .int (nI pn), .int plc, .int mnt, .int lft, .int abd, .ref rsa, .ref rta, .ref rbe, .ref rfa, .ref rpl, .ref rke, .ref rik, .int (nI ka), .int iw])), (rea, .inl (cI, 5, .inl ea)), (rla, .inl (cI, 5, .inl la)), (rwe, .inl (cI, 6, .inl we)), (rst, .inl (cI, 6, .inl mT)), (rsp, .inl (cI, 6, .inl mP)), (rpa, .inl (cI, 60, .inl pa)), (rsa, .inl (cI, 61, .inl sa)), (rta, .inl (cI, 12, .inl ta)), (rbe, .inl (cI, 12, .inl be)), (rfa, .inl (cI, 6, .inl fa)), (rpl, .inl (cI, 60, .inl pq)), (rke, .inl (cI, 100, .inl ke)), (rik, .inl (cZ, 2, .inl ik))]) (QcR (some (.int (lp_X9_ones_4 (bits.toBitVec.toNat + 1) bits 0)))) 0 0 zN := by
  refine mtRi (by decide) (Nat.le_of_ble_eq_true rfl) (fun p e s m args below meth c Q S hT hP hret ls hl => ?_)
  have S : CallFix p m c cX9_ones 4 s args zt RX9 := S
  obtain ⟨hx, hb, hml, hown, hts⟩ := id S
  have hl : lv_has ls 4 [(0, .ref mo), (1, .int bits)] := hl
  refine lv_iconst (v := 0) hx hb dX9_ones_0 (by decide) ?_
  refine lv_istore_n (lv' := [(2, .int 0), (0, .ref mo), (1, .int bits)]) hx hb dX9_ones_1 rfl hl (by decide) rfl (fun ls hl => ?_)
  refine lv_iload_n hx hb dX9_ones_2 rfl (lv_at hl 2 rfl) ?_
  refine lv_istore_n (lv' := [(3, .int bits), (2, .int 0), (0, .ref mo), (1, .int bits)]) hx hb dX9_ones_3 rfl hl (by decide) rfl (fun ls hl => ?_)
  have X2 : ∀ (y1 : Int32), (lp_X9_ones_4 (bits.toBitVec.toNat + 1) bits 0) = y1 → ∀ (ls : Array Slot), lv_has ls 4 [(0, .ref mo), (1, .int bits), (2, .int y1)] → W p l e rm_X9_ones s m args below meth c s.heap [] 0 0 Q (F0 m 20 ls []) := by
    intro y1 ey1 ls hl
    subst ey1
    refine lv_iload_n hx hb dX9_ones_20 rfl (lv_at hl 2 rfl) ?_
    exact hret _ _ _ dX9_ones_21 rfl
  have L3 : ∀ (n6 : Nat) (x3_4 : Int32) (x2_4 : Int32), x3_4.toBitVec.toNat < n6 → lp_X9_ones_4 n6 x3_4 x2_4 = lp_X9_ones_4 (bits.toBitVec.toNat + 1) bits 0 → ∀ (ls : Array Slot), lv_has ls 4 [(0, .ref mo), (1, .int bits), (2, .int x2_4), (3, .int x3_4)] → W p l e rm_X9_ones s m args below meth c s.heap [] 0 0 Q (F0 m 4 ls []) := by
    intro n6
    induction n6 with
    | zero => intro x3_4 x2_4 hm; exact absurd hm (Nat.not_lt_zero _)
    | succ n6 ih5 =>
      intro x3_4 x2_4 hm7 hv4 ls hl
      refine lv_iload_n hx hb dX9_ones_4 rfl (lv_at hl 3 rfl) ?_
      refine lv_if_eq (tgt := 20) hx hb dX9_ones_5 (by decide) (fun c8 => ?_) (fun c8 => ?_)
      · exact X2 _ (by rw [← hv4, lp_X9_ones_4, if_pos c8]) ls (lv_sub hl [0, 1, 2] rfl)
      · refine lv_iinc (v := x2_4 + 1) (lv' := [(2, .int (x2_4 + 1)), (0, .ref mo), (1, .int bits), (3, .int x3_4)]) hx hb dX9_ones_8 hl (k := 2) rfl rfl (by decide) rfl (fun ls hl => ?_)
        refine lv_iload_n hx hb dX9_ones_11 rfl (lv_at hl 3 rfl) ?_
        refine lv_iload_n hx hb dX9_ones_12 rfl (lv_at hl 3 rfl) ?_
        refine lv_iconst (v := 1) hx hb dX9_ones_13 (by decide) ?_
        refine lv_isub hx hb dX9_ones_14 ?_
        refine lv_iand hx hb dX9_ones_15 ?_
        refine lv_istore_n (lv' := [(3, .int (x3_4 &&& (x3_4 - 1))), (2, .int (x2_4 + 1)), (0, .ref mo), (1, .int bits)]) hx hb dX9_ones_16 rfl hl (by decide) rfl (fun ls hl => ?_)
        refine lv_goto (tgt := 4) hx hb dX9_ones_17 (by decide) ?_
        exact ih5 (x3_4 &&& (x3_4 - 1)) (x2_4 + 1) (zbdec c8 hm7)  (by rw [← hv4, lp_X9_ones_4, if_neg c8]) ls (lv_sub hl [2, 3, 1, 0] rfl)
  exact L3 (bits.toBitVec.toNat + 1) bits 0 (Nat.lt_succ_self _)  rfl ls (lv_sub hl [2, 3, 1, 0] rfl)
